theorem ScrH.rf {h : Hst} : ScrH h h := fun _ _ => rfl
theorem ScrH.trans {a b c : Hst} (p : ScrH a b) (q : ScrH b c) : ScrH a c := fun k hk => (q k hk).trans (p k hk)
theorem ScrH.st {h h' : Hst} {a : Nat} {x : Int32} (s : ScrH (hst h 26 a x) h') : ScrH h h' := fun k hk => by rw [s k hk, hst_at, if_neg hk]
theorem shares_57 {c : Nat → Int32} {t : Fin 6} (ht : t.val < 3) {q all : Nat} (h0 : 0 < all) (h1 : all ≤ 20000) (hq : q ≤ 20000) {o : Fin 5 → Nat} (ho : ∀ v, cTa c t (ts v) = nI (o v)) (h2 : ∀ v, o v ≤ 20000) :
    ∀ (m n : Nat) (M : Fin 32) (p rm : Fin 5 → Int32) (h : Hst), m < n → m < 5 → RT (h.1 24) c → (∀ v, rm v = if mK M v then -1 else nI (o v * q % all)) → (∀ v : Fin 5, h.1 26 v.val = p v) → m * all < S5 (fun v => if mK M v then 0 else o v * q % all) + all ∨ m = 0 →
    ∃ h', lp_L_shares_57 n (nI t.val) (nI q) (nI all) (nI m) (nI M.val) h = some h' ∧ ScrH h h' ∧ ∀ v : Fin 5, h'.1 26 v.val = rnd (-1) m p rm v
  | 0, n + 1, M, p, rm, h, _, _, _, _, hp, _ => by
    refine ⟨h, ?_, ScrH.rf, hp⟩
    rw [lp_L_shares_57, if_pos (show nI 0 ≤ 0 by decide)]
  | m + 1, n + 1, M, p, rm, h, hn, hm5, R, hm, hp, hs => by
    have hs' : (m + 1) * all < S5 (fun v => if mK M v then 0 else o v * q % all) + all := hs.elim id (fun w => absurd w (by omega))
    rw [Nat.succ_mul] at hs'
    obtain ⟨j, hj⟩ := S5_pos (f := fun v => if mK M v then 0 else o v * q % all) (by omega)
    have hj' : 0 < (if mK M j then 0 else o j * q % all) := hj
    have Kj : mK M j = false := by
      cases w : mK M j with
      | false => rfl
      | true => rw [w, if_pos rfl] at hj'; omega
    have rmj : rm j = nI (o j * q % all) := by rw [hm, Kj, if_neg (by decide)]
    have ltj : o j * q % all < all := Nat.mod_lt _ h0
    obtain ⟨b', B, es⟩ := shares_68 ht h0 h1 hq ho h2 (lp_L_shares_57 n) (nI (m + 1)) M hm R 5 FU (-1) 4 (by decide) (by decide) (.inl ⟨rfl, fun j hj => by have := j.isLt; omega⟩) (by decide)
    rcases B with ⟨-, w⟩ | ⟨g, rfl, -, g2, g3, g4⟩
    · have := w j (Nat.zero_le _)
      rw [rmj] at this
      exact absurd this (nI_neM1 (by omega))
    · have lg := g.isLt
      have A : AM rm 4 g := ⟨by show g.val ≤ 4; omega, fun i _ => g3 i (Nat.zero_le _), fun i hi => g4 i (Nat.zero_le _) hi⟩
      have ag : am rm = g := AM_uniq (am_AM rm) A
      have Kg : mK M g = false := by
        cases w : mK M g with
        | false => rfl
        | true =>
          have := hm g
          rw [w, if_pos rfl] at this
          exact absurd this g2
      obtain ⟨M', em, hM'⟩ := mK_set M g
      have U := S5_upd (fun v => if mK M v then 0 else o v * q % all) g 0
      have Ug : (if mK M g then 0 else o g * q % all) = o g * q % all := by rw [Kg, if_neg (by decide)]
      have rlt : o g * q % all < all := Nat.mod_lt _ h0
      have e1 : nI (m + 1) + (-1) = nI m := by
        have := nI_pred m
        rw [Int32.sub_eq_add_neg] at this; exact this
      have ne : ∀ {a b : Fin 5}, a.val = b.val ↔ a = b := ⟨Fin.ext, congrArg Fin.val⟩
      obtain ⟨h', e', s', w'⟩ := shares_57 ht h0 h1 hq ho h2 m n M' (fun v => if v = am rm then p v + 1 else p v) (fun v => if v = am rm then -1 else rm v) (hst h 26 g.val (h.1 26 g.val + 1)) (by omega) (by omega) R
        (fun v => by
          rw [ag, hM' v]
          by_cases x : v = g
          · rw [if_pos x, if_pos x, if_pos rfl]
          · rw [if_neg x, if_neg x]; exact hm v)
        (fun v => by
          rw [ag, hst_at, if_pos rfl, upd_at]
          by_cases x : v = g
          · rw [if_pos x, if_pos (ne.mpr x), hp, x]
          · rw [if_neg x, if_neg (fun z => x (ne.mp z)), hp])
        (by
          have e : (fun v => if mK M' v then 0 else o v * q % all) = fun v => if v = g then 0 else (if mK M v then 0 else o v * q % all) := by
            funext v
            rw [hM' v]
            by_cases x : v = g
            · rw [if_pos x, if_pos x, if_pos rfl]
            · rw [if_neg x, if_neg x]
          rw [e]
          have U' : S5 (fun v => if v = g then 0 else (if mK M v then 0 else o v * q % all)) + o g * q % all = S5 (fun v => if mK M v then 0 else o v * q % all) := by
            have := U
            simp only [Ug] at this
            omega
          rcases Nat.eq_zero_or_pos m with x | x
          · exact Or.inr x
          · left; omega)
      refine ⟨h', ?_, ScrH.st s', fun v => by rw [rnd]; exact w' v⟩
      rw [lp_L_shares_57, if_neg (nI_nle (by omega) (by omega)), es, show FU - 5 = 4090 + 1 from rfl, lp_L_shares_68, if_pos (show (-1 : Int32) < 0 by decide), gl_eq, gck_nI lg (by decide), gck_nI lg (by decide), nI_clamp (by omega), gl_eq, e1, em]
      exact e'
theorem shares_13 {c : Nat → Int32} {t : Fin 6} (ht : t.val < 3) {q all : Nat} (h0 : 0 < all) (h1 : all ≤ 20000) (hq : q ≤ 20000) {o : Fin 5 → Nat} (ho : ∀ v, cTa c t (ts v) = nI (o v)) (h2 : ∀ v, o v ≤ 20000) : ∀ (m i n : Nat) (a5 : Int32) (h : Hst), i + m = 5 → m < n → RT (h.1 24) c → (∀ v : Fin 5, v.val < i → h.1 26 v.val = nI (o v * q / all)) →
    ∃ h', lp_L_shares_13 n (nI t.val) (nI q) (nI all) a5 (nI i) h = lp_L_shares_57 FU (nI t.val) (nI q) (nI all) (misF (lfN fun v => o v * q / all) m i a5) 0 h' ∧ ScrH h h' ∧ ∀ v : Fin 5, h'.1 26 v.val = nI (o v * q / all)
  | 0, i, n + 1, a5, h, hi, _, _, hv => by
    refine ⟨h, ?_, ScrH.rf, fun v => hv v (by have := v.isLt; omega)⟩
    rw [lp_L_shares_13, if_pos (show (5 : Int32) ≤ nI i from nI_le (a := 5) (by omega) (by omega))]
    rfl
  | m + 1, i, n + 1, a5, h, hi, hn, R, hv => by
    have i5 : i < 5 := by omega
    have b1 : o ⟨i, i5⟩ * q < 2 ^ 31 := Nat.lt_of_le_of_lt (Nat.mul_le_mul (h2 _) hq) (by decide)
    have d1 : nI (o ⟨i, i5⟩ * q) / nI all = nI (o ⟨i, i5⟩ * q / all) := pk_div b1 h0 (by omega)
    have rv' : h.1 24 (7 * t.val + 2 + i) = nI (o ⟨i, i5⟩) := (R.v ht ⟨i, i5⟩).trans (ho _)
    obtain ⟨h', e', s, w⟩ := shares_13 ht h0 h1 hq ho h2 m (i + 1) n (a5 - nI (o ⟨i, i5⟩ * q / all)) (hst h 26 i (nI (o ⟨i, i5⟩ * q / all))) (by omega) (by omega) R (fun v hv' => by
      by_cases x : v.val = i
      · have : v = ⟨i, i5⟩ := Fin.ext x
        subst this
        rw [hst_at, if_pos rfl, upd_at, if_pos rfl]
      · rw [hst_at, if_pos rfl, upd_at, if_neg x]; exact hv v (by omega))
    have z : (hst h 26 i (nI (o ⟨i, i5⟩ * q / all))).1 26 i = nI (o ⟨i, i5⟩ * q / all) := by
      rw [hst_at, if_pos rfl, upd_at, if_pos rfl]
    refine ⟨h', ?_, ScrH.st s, w⟩
    rw [lp_L_shares_13, if_neg (show ¬ (5 : Int32) ≤ nI i from nI_ge (b := 5) i5 (by decide)), ix72, gck_nI (by omega) (by decide), gdz_ne (nI_ne0 (by omega) (by omega)), gck_nI i5 (by decide), nI_clamp (by omega), nI_clamp (by omega), rv', pk_mul, d1, gl_eq, gck_nI i5 (by decide), z, gl_eq, nI_1, misF, lfN_at _ i i5]
    exact e'
theorem sharesL {c : Nat → Int32} {t : Fin 6} (ht : t.val < 3) {o : Fin 5 → Nat} (ho : ∀ v, cTa c t (ts v) = nI (o v)) (he : oil5 c t = nI (S5 o)) (h1 : S5 o ≤ 20000) (h2 : ∀ v, o v ≤ 20000) {q m : Nat} {N : Fin 5 → Nat} (q1 : 1 ≤ q) (q2 : q ≤ S5 o) (m5 : m < 5) (mis : misF (lfN fun v => o v * q / S5 o) 5 0 (nI q) = nI m)
    (n1 : ∀ v, rnd (-1) m (fun v => nI (o v * q / S5 o)) (fun v => nI (o v * q % S5 o)) v = nI (N v)) (ms : m * S5 o ≤ S5 (fun v => o v * q % S5 o)) {h : Hst} (R : RT (h.1 24) c) : ∃ h', f_L_shares (nI t.val) (nI q) h = some h' ∧ ScrH h h' ∧ ∀ v : Fin 5, h'.1 26 v.val = nI (N v) := by
  have h0 : 0 < S5 o := by omega
  obtain ⟨ha, e1, s1, v1⟩ := shares_13 ht h0 h1 (Nat.le_trans q2 h1) ho h2 5 0 FU (nI q) h rfl (by decide) R (fun v hv => absurd hv (by omega))
  have K0 : ∀ v : Fin 5, mK 0 v = false := by decide
  obtain ⟨hb, e2, s2, v2⟩ := shares_57 ht h0 h1 (Nat.le_trans q2 h1) ho h2 m FU 0 _ _ ha (Nat.lt_trans m5 (by decide)) m5 (by rw [s1 24 (by decide)]; exact R) (fun v => by rw [K0, if_neg (by decide)]) v1 (Or.inl (by
    simp only [K0, Bool.false_eq_true, if_false]
    omega))
  refine ⟨hb, ?_, s1.trans s2, fun v => by rw [v2]; exact n1 v⟩
  unfold f_L_shares
  rw [oilL R ht, gb_some, he]
  rw [mis] at e1
  exact e1.trans e2
