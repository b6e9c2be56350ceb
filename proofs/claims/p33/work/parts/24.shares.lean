-- the shares of oil that is taken, of the law
def ScrH (h h' : Hst) : Prop := ∀ k, k ≠ 26 → h'.1 k = h.1 k
def mK (m : Fin 32) (v : Fin 5) : Bool := m.val.testBit v.val
theorem mK_bit : ∀ (m : Fin 32) (v : Fin 5), (((nI m.val) >>> ((nI v.val) &&& 31)) &&& 1 = 0) ↔ mK m v = false := by decide +kernel
theorem mK_set : ∀ (m : Fin 32) (g : Fin 5), ∃ m' : Fin 32, (nI m.val ||| ((1 : Int32) <<< (nI g.val &&& 31))) = nI m'.val ∧ ∀ v, mK m' v = if v = g then true else mK m v := by decide +kernel
/-- the scan from 4 down: the best of those not used, above i -/
def BI (rm : Fin 5 → Int32) (i : Nat) (b : Int32) : Prop := (b = -1 ∧ ∀ j : Fin 5, i ≤ j.val → rm j = -1) ∨ (∃ g : Fin 5, b = nI g.val ∧ i ≤ g.val ∧ rm g ≠ -1 ∧ (∀ j : Fin 5, i ≤ j.val → rm j ≤ rm g) ∧ ∀ j : Fin 5, i ≤ j.val → j < g → rm j < rm g)
theorem rest_v {c : Nat → Int32} {h : Hst} (R : RT (h.1 24) c) {t : Fin 6} (ht : t.val < 3) {q all : Nat} (h0 : 0 < all) (h1 : all ≤ 20000) (hq : q ≤ 20000) {o : Fin 5 → Nat} (ho : ∀ v, cTa c t (ts v) = nI (o v)) (h2 : ∀ v, o v ≤ 20000) (v : Fin 5) :
    h.1 24 (7 * t.val + 2 + v.val) * nI q - h.1 24 (7 * t.val + 2 + v.val) * nI q / nI all * nI all = nI (o v * q % all) := by
  have b1 : o v * q < 2 ^ 31 := Nat.lt_of_le_of_lt (Nat.mul_le_mul (h2 _) hq) (by decide)
  rw [R.v ht, ho, pk_mul, pk_rem b1 h0 (by omega)]
theorem shares_68 {c : Nat → Int32} {t : Fin 6} (ht : t.val < 3) {q all : Nat} (h0 : 0 < all) (h1 : all ≤ 20000) (hq : q ≤ 20000) {o : Fin 5 → Nat} (ho : ∀ v, cTa c t (ts v) = nI (o v)) (h2 : ∀ v, o v ≤ 20000) (R57 : Int32 → Int32 → Int32 → Int32 → Int32 → Hst → Option Hst) (a5 : Int32) (M : Fin 32) {rm : Fin 5 → Int32} (hm : ∀ v, rm v = if mK M v then -1 else nI (o v * q % all)) {h : Hst} (R : RT (h.1 24) c) :
    ∀ (m n : Nat) (b a8 : Int32), m ≤ 5 → m < n → BI rm m b → a8 = (if m = 0 then -1 else nI (m - 1)) → ∃ b', BI rm 0 b' ∧ lp_L_shares_68 R57 n (nI t.val) (nI q) (nI all) a5 (nI M.val) b a8 h = lp_L_shares_68 R57 (n - m) (nI t.val) (nI q) (nI all) a5 (nI M.val) b' (-1) h
  | 0, n, b, a8, _, _, B, ea => by
    rw [if_pos rfl] at ea
    subst ea
    exact ⟨b, B, rfl⟩
  | m + 1, 0, b, a8, _, hn, _, _ => absurd hn (by omega)
  | m + 1, n + 1, b, a8, hm5, hn, B, ea => by
    rw [if_neg (by omega), Nat.add_sub_cancel] at ea
    subst ea
    have m5 : m < 5 := by omega
    have b8 : nI m + (-1) = if m = 0 then (-1 : Int32) else nI (m - 1) := by
      cases m with
      | zero => rfl
      | succ k =>
        have := nI_pred k
        rw [Int32.sub_eq_add_neg] at this
        rw [if_neg (by omega), Nat.add_sub_cancel]; exact this
    have go : ∀ b', BI rm m b' → ∃ b'', BI rm 0 b'' ∧ jb_L_shares_127 R57 (lp_L_shares_68 R57 n) (nI t.val) (nI q) (nI all) a5 (nI M.val) b' (nI m) h = lp_L_shares_68 R57 (n + 1 - (m + 1)) (nI t.val) (nI q) (nI all) a5 (nI M.val) b'' (-1) h := fun b' B' => by
      obtain ⟨b'', x1, x2⟩ := shares_68 ht h0 h1 hq ho h2 R57 a5 M hm R m n b' _ (by omega) (by omega) B' b8
      refine ⟨b'', x1, ?_⟩
      unfold jb_L_shares_127
      rw [show n + 1 - (m + 1) = n - m by omega]
      exact x2
    have bit := mK_bit M ⟨m, m5⟩
    have rmm := hm ⟨m, m5⟩
    rw [lp_L_shares_68, if_neg (nI_pos (by omega))]
    unfold jb_L_shares_123
    by_cases k : mK M ⟨m, m5⟩ = false
    · rw [if_pos (bit.mpr k)]
      rw [k, if_neg (by decide)] at rmm
      have lt : o ⟨m, m5⟩ * q % all < all := Nat.mod_lt _ h0
      rcases B with ⟨rfl, w⟩ | ⟨g, rfl, g1, g2, g3, g4⟩
      · rw [if_pos (by decide)]
        refine go (nI m) (.inr ⟨⟨m, m5⟩, rfl, Nat.le_refl _, ?_, fun j hj => ?_, fun j hj hlt => ?_⟩)
        · rw [rmm]; exact nI_neM1 (by omega)
        · by_cases e : j = ⟨m, m5⟩
          · rw [e]; exact Int32.le_refl _
          · have : j.val ≠ m := fun z => e (Fin.ext z)
            rw [w j (by omega), rmm]
            exact Int32.le_trans (show (-1 : Int32) ≤ 0 by decide) (nI_pos' (by omega))
        · have hlt' : j.val < m := hlt
          omega
      · have lg := g.isLt
        have rg : rm g = nI (o g * q % all) := by
          have := hm g
          cases kg : mK M g with
          | true => rw [kg, if_pos rfl] at this; exact absurd this g2
          | false => rw [kg, if_neg (by decide)] at this; exact this
        have ltg : o g * q % all < all := Nat.mod_lt _ h0
        rw [if_neg (nI_pos (by omega)), ix72, gck_nI (by omega) (by decide), gdz_ne (nI_ne0 (by omega) (by omega)), ix72, gck_nI (by omega) (by decide), gdz_ne (nI_ne0 (by omega) (by omega)), nI_clamp (by omega), nI_clamp (by omega), show m = (⟨m, m5⟩ : Fin 5).val from rfl, rest_v R ht h0 h1 hq ho h2, rest_v R ht h0 h1 hq ho h2]
        by_cases lt2 : nI (o ⟨m, m5⟩ * q % all) < nI (o g * q % all)
        · rw [if_pos lt2]
          refine go (nI g.val) (.inr ⟨g, rfl, by omega, g2, fun j hj => ?_, fun j hj hlt => ?_⟩)
          · by_cases e : j = ⟨m, m5⟩
            · rw [e, rmm, rg]; exact Int32.le_of_lt lt2
            · have : j.val ≠ m := fun z => e (Fin.ext z)
              exact g3 j (by omega)
          · by_cases e : j = ⟨m, m5⟩
            · rw [e, rmm, rg]; exact lt2
            · have : j.val ≠ m := fun z => e (Fin.ext z)
              exact g4 j (by omega) hlt
        · rw [if_neg lt2]
          have le2 := Int32.not_lt.mp lt2
          refine go (nI m) (.inr ⟨⟨m, m5⟩, rfl, Nat.le_refl _, ?_, fun j hj => ?_, fun j hj hlt => ?_⟩)
          · rw [rmm]; exact nI_neM1 (by omega)
          · by_cases e : j = ⟨m, m5⟩
            · rw [e]; exact Int32.le_refl _
            · have : j.val ≠ m := fun z => e (Fin.ext z)
              have a := g3 j (by omega)
              rw [rg] at a
              rw [rmm]; exact Int32.le_trans a le2
          · have hlt' : j.val < m := hlt
            omega
    · rw [if_neg (fun z => k (bit.mp z))]
      have k' : mK M ⟨m, m5⟩ = true := by
        cases q : mK M ⟨m, m5⟩ with
        | true => rfl
        | false => exact absurd q k
      rw [k', if_pos rfl] at rmm
      refine go b ?_
      rcases B with ⟨rfl, w⟩ | ⟨g, rfl, g1, g2, g3, g4⟩
      · refine .inl ⟨rfl, fun j hj => ?_⟩
        by_cases e : j = ⟨m, m5⟩
        · rw [e]; exact rmm
        · have : j.val ≠ m := fun z => e (Fin.ext z)
          exact w j (by omega)
      · have rg : -1 < rm g := by
          have := hm g
          cases kg : mK M g with
          | true => rw [kg, if_pos rfl] at this; exact absurd this g2
          | false =>
            have ltg : o g * q % all < all := Nat.mod_lt _ h0
            rw [kg, if_neg (by decide)] at this
            rw [this]
            exact Int32.lt_of_lt_of_le (show (-1 : Int32) < 0 by decide) (nI_pos' (by omega))
        refine .inr ⟨g, rfl, by omega, g2, fun j hj => ?_, fun j hj hlt => ?_⟩
        · by_cases e : j = ⟨m, m5⟩
          · rw [e, rmm]; exact Int32.le_of_lt rg
          · have : j.val ≠ m := fun z => e (Fin.ext z)
            exact g3 j (by omega)
        · by_cases e : j = ⟨m, m5⟩
          · rw [e, rmm]; exact rg
          · have : j.val ≠ m := fun z => e (Fin.ext z)
            exact g4 j (by omega) hlt
