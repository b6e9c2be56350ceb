-- adding slips
def pk (p : PS) : Nat := p.2.2.1
def pF (p : PS) : Nat → Nat → Nat := p.2.2.2.2.2.2.2
theorem stp_59 {i q k g v w a : Nat} {o : Option Nat} {F : Nat → Nat → Nat} {p' : PS} (V : InvP i (q, o, k, g, v, w, a, F)) (e : stp 59 (q, o, k, g, v, w, a, F) = some p') : ∃ n, o = some n ∧ (q = 3 ∨ (q = 4 ∧ 500 ≤ n)) ∧ p' = finP n (q, some n, k, g, v, w, a, F) := by
  obtain ⟨h4, -⟩ := V
  rw [stp_eq] at e
  by_cases q0 : q = 0
  · rw [if_pos q0, if_neg (by decide)] at e; cases e
  · rw [if_neg q0] at e
    by_cases q1 : q = 1
    · rw [if_pos q1, if_neg (by decide)] at e; cases e
    · rw [if_neg q1, if_neg (by decide)] at e
      cases o with
      | none => rw [stpS_no] at e; cases e
      | some n =>
        rw [stpS_eq] at e
        by_cases q2 : q = 2
        · rw [if_pos q2, if_neg (by decide)] at e; cases e
        · rw [if_neg q2] at e
          by_cases q3 : q = 3
          · rw [if_pos q3, if_neg (by decide), if_pos rfl] at e
            exact ⟨n, rfl, .inl q3, (Option.some.inj e).symm⟩
          · rw [if_neg q3] at e
            by_cases n5 : n < 500
            · rw [if_pos n5] at e; cases e
            · rw [if_neg n5, if_pos rfl] at e
              exact ⟨n, rfl, .inr ⟨by omega, by omega⟩, (Option.some.inj e).symm⟩
theorem stp_k {x : Nat} {p p' : PS} (hx : x ≠ 59) (e : stp x p = some p') : pk p' = pk p ∧ pF p' = pF p := by
  obtain ⟨q, o, k, g, v, w, a, F⟩ := p
  rw [stp_eq] at e
  by_cases q0 : q = 0
  · rw [if_pos q0] at e
    by_cases c : 48 ≤ x ∧ x ≤ 55
    · rw [if_pos c] at e; cases e; exact ⟨rfl, rfl⟩
    · rw [if_neg c] at e; cases e
  · rw [if_neg q0] at e
    by_cases q1 : q = 1
    · rw [if_pos q1] at e
      by_cases c : 97 ≤ x ∧ x ≤ 101
      · rw [if_pos c] at e; cases e; exact ⟨rfl, rfl⟩
      · rw [if_neg c] at e; cases e
    · rw [if_neg q1] at e
      by_cases c : 48 ≤ x ∧ x ≤ 57
      · rw [if_pos c, stpN_eq] at e
        by_cases z : o = some 0
        · rw [if_pos z] at e; cases e
        · rw [if_neg z] at e
          by_cases ok : okS (nxV o x) (lsQ q) (msQ q) = true
          · rw [if_pos ok] at e; cases e; exact ⟨rfl, rfl⟩
          · rw [if_neg ok] at e; cases e
      · rw [if_neg c] at e
        cases o with
        | none => rw [stpS_no] at e; cases e
        | some n =>
          rw [stpS_eq] at e
          by_cases q2 : q = 2
          · rw [if_pos q2] at e
            by_cases x47 : x = 47
            · rw [if_pos x47] at e; cases e; exact ⟨rfl, rfl⟩
            · rw [if_neg x47] at e; cases e
          · rw [if_neg q2] at e
            by_cases q3 : q = 3
            · rw [if_pos q3] at e
              by_cases x42 : x = 42
              · rw [if_pos x42] at e; cases e; exact ⟨rfl, rfl⟩
              · rw [if_neg x42, if_neg hx] at e; cases e
            · rw [if_neg q3] at e
              by_cases n5 : n < 500
              · rw [if_pos n5] at e; cases e
              · rw [if_neg n5, if_neg hx] at e; cases e
theorem stp_mono {i x : Nat} {p p' : PS} (V : InvP i p) (e : stp x p = some p') : pk p ≤ pk p' ∧ ∀ j, j < pk p → pF p' j = pF p j := by
  by_cases hx : x = 59
  · subst hx
    obtain ⟨q, o, k, g, v, w, a, F⟩ := p
    obtain ⟨n, rfl, -, rfl⟩ := stp_59 V e
    refine ⟨Nat.le_succ k, fun j hj => ?_⟩
    change j < k at hj
    funext c
    show (if j = k then slF q n g v w a c else F j c) = F j c
    rw [if_neg (by omega)]
  · have := stp_k hx e
    exact ⟨by omega, fun j _ => by rw [this.2]⟩
theorem run_mono (t : Nat → Nat) : ∀ (m i : Nat) (p : PS), InvP i p → pk p ≤ pk (run t m i p).2 ∧ ∀ j, j < pk p → pF (run t m i p).2 j = pF p j
  | 0, i, p, _ => ⟨Nat.le_refl _, fun _ _ => rfl⟩
  | m + 1, i, p, V => by
    cases e : stp (t i) p with
    | none => rw [run_no e]; exact ⟨Nat.le_refl _, fun _ _ => rfl⟩
    | some p' =>
      rw [run_ok e]
      have a := stp_mono V e
      have b := run_mono t m (i + 1) p' (stp_inv V e)
      exact ⟨by omega, fun j hj => (b.2 j (by omega)).trans (a.2 j hj)⟩
theorem acid_v {q n k g v w a : Nat} {F : Nat → Nat → Nat} (h : Hst) (c : q = 3 ∨ q = 4) (D : RdC h (q, some n, k, g, v, w, a, F)) : f_X4_acidity h = some (nI (if q = 3 then n else a), h) ∧ f_X4_truth h = some (nI (if q = 3 then 1000 else n), h) := by
  obtain ⟨d0, d1, d2, d3, d4⟩ := D
  have q2 : 2 ≤ q := by omega
  obtain ⟨-, -, -, e3, -⟩ := d2 q2
  have e3' : h.1 15 3 = nI n := e3
  unfold f_X4_acidity f_X4_truth jb_X4_acidity_19 jb_X4_truth_18
  rw [d0, e3']
  rcases c with rfl | rfl
  · rw [if_neg (show ¬ nI 3 = 4 by decide), if_neg (show ¬ nI 3 = 4 by decide), if_pos rfl, if_pos rfl]
    exact ⟨rfl, rfl⟩
  · rw [if_pos (show nI 4 = 4 from rfl), if_pos (show nI 4 = 4 from rfl), if_neg (by decide), if_neg (by decide), d4 rfl]
    exact ⟨rfl, rfl⟩
theorem canEnd_v {i q k g v w a : Nat} {o : Option Nat} {F : Nat → Nat → Nat} (h : Hst) (V : InvP i (q, o, k, g, v, w, a, F)) (D : RdC h (q, o, k, g, v, w, a, F)) : f_X4_canEnd h = some (enV q o, h) := by
  obtain ⟨h4, -, -, -, -, -, ho, hn⟩ := V
  obtain ⟨d0, d1, d2, d3, d4⟩ := D
  have s16 : 3 ≤ q → jb_X4_canEnd_16 h = some (enV q o, h) := fun q3 => by
    obtain ⟨-, e1, e2, e3, e4⟩ := d2 (by omega)
    unfold jb_X4_canEnd_16 jb_X4_canEnd_27 jb_X4_canEnd_28
    cases o with
    | none =>
      rw [if_pos rfl] at e4
      unfold f_X4_numberStands jb_X4_numberStands_33 jb_X4_numberStands_34
      rw [e4, if_pos rfl, gzr_0, gb_some, if_pos rfl, gzr_0]
      rfl
    | some n =>
      rw [if_neg (fun z => nomatch z)] at e4
      have hr := hn n rfl
      rw [stands_v h (by omega) (by omega) h4 hr e1 e2 e3 e4, gb_some]
      by_cases c : q = 4 ∧ n < 500
      · rw [if_pos c, if_pos rfl, gzr_0, enV_0 (fun z => by omega)]
      · rw [if_neg c, if_neg (by decide), gzr_1, enV_1 (by omega)]
  unfold f_X4_canEnd
  rw [d0]
  by_cases q3 : q = 3
  · rw [if_pos (by rw [q3]; rfl)]
    exact s16 (by omega)
  · rw [if_neg (nI_nq 3 3 rfl (by decide) (by omega) q3)]
    by_cases q4 : q = 4
    · rw [if_pos (by rw [q4]; rfl)]
      exact s16 (by omega)
    · rw [if_neg (nI_nq 4 4 rfl (by decide) (by omega) q4)]
      unfold jb_X4_canEnd_27 jb_X4_canEnd_28
      rw [gzr_0]
      cases o with
      | none => rfl
      | some n => rw [enV_0 (fun z => by omega)]
theorem refused_v {g v w a t : Nat} (hv : v < 5) (hw : 1 ≤ w ∧ w ≤ 2000) (ha : a ≤ 50) (ht : 500 ≤ t ∧ t ≤ 1500) (h : Hst) : f_X7_refusedLot (nI g) (nI v) (nI w) (nI a) (nI t) h = jb_X7_refusedLot_48 (nI g) 1 h := by
  have wi : ∀ (n lo hi : Nat) (H : Hst), lo ≤ n → n ≤ hi → hi < 30000 → f_X7_within (nI n) (nI lo) (nI hi) H = some (1, H) := fun n lo hi H a b c => by
    rw [within7, if_neg (nI_nlt a (by omega)), if_neg (nI_nlt b (by omega))]
  unfold f_X7_refusedLot
  rw [isVariety7_gd hv, gb_some, if_neg (by decide), show (1 : Int32) = nI 1 from rfl, show (2000 : Int32) = nI 2000 from rfl, wi w 1 2000 h hw.1 hw.2 (by decide), gb_some, if_neg (by decide), show (0 : Int32) = nI 0 from rfl, show (50 : Int32) = nI 50 from rfl, wi a 0 50 h (by omega) ha (by decide), gb_some, if_neg (by decide), show (500 : Int32) = nI 500 from rfl, show (1500 : Int32) = nI 1500 from rfl, wi t 500 1500 h ht.1 ht.2 (by decide), gb_some, if_neg (by decide)]
/-- a slip of the model -/
theorem adds_v {g v w a t k : Nat} (hk : 5 * k + 4 < 60) (hv : v < 5) (hw : 1 ≤ w ∧ w ≤ 2000) (ha : a ≤ 50) (ht : 500 ≤ t ∧ t ≤ 1500) {ng nl : Nat} (hg8 : g < 8) (hg : ng ≤ 8) (hl : nl ≤ 40) (H : Hst) (z7 : H.1 18 7 = nI ng) (z8 : H.1 18 8 = nI nl) (p0 : H.1 24 (5 * k) = nI g) (p1 : H.1 24 (5 * k + 1) = nI v) (p2 : H.1 24 (5 * k + 2) = nI w) (p3 : H.1 24 (5 * k + 3) = nI a) (p4 : H.1 24 (5 * k + 4) = nI t) :
    f_X7_adds (nI k) H = if h : g < ng ∧ nl < 40 then some (1, hso H 18 (addZ (H.1 18) ⟨nl, h.2⟩ (nI g) (nI v) (nI w) (nI a) (nI t) (nI (nl + 1)))) else some (0, H) := by
  have c : ∀ j, j ≤ 4 → (gck (nI (5 * k) + nI j) 60 : Option (Int32 × Hst) → Option (Int32 × Hst)) = fun x => x := fun j hj => by
    funext x
    rw [nI_add, gck_nI (by omega) (by decide)]
  have i0 : (nI (5 * k)).toNatClampNeg = 5 * k := nI_clamp (by omega)
  have ij : ∀ j, j ≤ 4 → (nI (5 * k) + nI j).toNatClampNeg = 5 * k + j := fun j hj => by rw [nI_add, nI_clamp (by omega)]
  have g0 : ∀ x : Option (Int32 × Hst), gck (nI (5 * k)) 60 x = x := fun x => gck_nI (by omega) (by decide) x
  have c1 := c 1 (by decide)
  have c2 := c 2 (by decide)
  have c3 := c 3 (by decide)
  have c4 := c 4 (by decide)
  have i1 := ij 1 (by decide)
  have i2 := ij 2 (by decide)
  have i3 := ij 3 (by decide)
  have i4 := ij 4 (by decide)
  unfold f_X7_adds jb_X7_adds_94 jb_X7_adds_103
  rw [show (5 : Int32) * nI k = nI (5 * k) from pk_mul 5 k, gl_eq]
  change gck (nI (5 * k)) 60 (gck (nI (5 * k) + nI 1) 60 (gck (nI (5 * k) + nI 2) 60 (gck (nI (5 * k) + nI 3) 60 (gck (nI (5 * k) + nI 4) 60 (gb (f_X7_refusedLot (H.1 24 (nI (5 * k)).toNatClampNeg) (H.1 24 (nI (5 * k) + nI 1).toNatClampNeg) (H.1 24 (nI (5 * k) + nI 2).toNatClampNeg) (H.1 24 (nI (5 * k) + nI 3).toNatClampNeg) (H.1 24 (nI (5 * k) + nI 4).toNatClampNeg) H) fun x3 h2 => if x3 = 0 then gck (nI (5 * k)) 60 (gck (nI (5 * k) + nI 1) 60 (gck (nI (5 * k) + nI 2) 60 (gck (nI (5 * k) + nI 3) 60 (gck (nI (5 * k) + nI 4) 60 (gb (f_X7_putLot (h2.1 24 (nI (5 * k)).toNatClampNeg) (h2.1 24 (nI (5 * k) + nI 1).toNatClampNeg) (h2.1 24 (nI (5 * k) + nI 2).toNatClampNeg) (h2.1 24 (nI (5 * k) + nI 3).toNatClampNeg) (h2.1 24 (nI (5 * k) + nI 4).toNatClampNeg) h2) fun x5 h4 => if x3 = 0 then gzr 1 (some (1, h4)) else gzr 0 (some (0, h4))))))) else if x3 = 0 then gzr 1 (some (1, h2)) else gzr 0 (some (0, h2))))))) = _
  simp only [g0, c1, c2, c3, c4, i0, i1, i2, i3, i4, p0, p1, p2, p3, p4]
  rw [refused_v hv hw ha ht]
  unfold jb_X7_refusedLot_48 jb_X7_refusedLot_88
  by_cases gg : g < ng
  · rw [isGrower_gd hg z7 gg, gb_some, if_neg (by decide), if_neg (by decide), gk_8_514, tn_8, z8]
    by_cases ll : nl < 40
    · rw [dif_pos ⟨gg, ll⟩, if_neg (nI_nq 40 40 rfl (by decide) (by omega) (by omega)), gb_some, if_pos rfl]
      simp only [p0, p1, p2, p3, p4]
      rw [putLot ⟨nl, ll⟩ z8, gb_some, if_pos trivial, gzr_1]
    · rw [dif_neg (fun z => ll z.2), if_pos (show nI nl = 40 by rw [show nl = 40 by omega]; rfl), gb_some, if_neg (by decide), if_neg (by decide), gzr_0]
  · have bd : Bad (nI g) ng := by
      rcases idx (nI g) (n := ng) (by omega) with ⟨j, hj, e⟩ | b
      · exact absurd (nI_inj (by omega) (by omega) e) (by omega)
      · exact b
    rw [isGrower_bad z7 bd, gb_some, if_pos rfl, dif_neg (fun z => gg z.1), gb_some, if_neg (by decide), if_neg (by decide), gzr_0]
