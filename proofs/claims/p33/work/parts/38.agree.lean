-- what agree looks at: lots
theorem lt_12 {c : Nat → Int32} {l : Fin 40} (h : isN (cLo c l 5) 2) : (cLo c l 5 < 1 ↔ cLo c l 5 = 0) ∧ (cLo c l 5 < 2 ↔ ¬ cLo c l 5 = 2) ∧ (2 ≤ cLo c l 5 ↔ cLo c l 5 = 2) := by
  obtain ⟨n5, c5, e5⟩ := h
  rw [e5]
  have a1 : nI n5 < 1 ↔ n5 < 1 := nI_ltI (b := 1) (by omega) (by decide)
  have a2 : nI n5 = 0 ↔ n5 = 0 := nI_eq (b := 0) (by omega) (by decide)
  have a3 : nI n5 < 2 ↔ n5 < 2 := nI_ltI (b := 2) (by omega) (by decide)
  have a4 : nI n5 = 2 ↔ n5 = 2 := nI_eq (b := 2) (by omega) (by decide)
  have a5 : 2 ≤ nI n5 ↔ 2 ≤ n5 := nI_leI (a := 2) (by decide) (by omega)
  rw [a1, a2, a3, a4, a5]
  omega
theorem agree_33 {h : Hst} {nl b : Nat} (j : J h nl b) (R6 : Int32 → Int32 → Hst → Option (Int32 × Hst)) (a9 : Int32) (l : Fin 40) (hl : l.val < nl) : jb_L_agree_33 R6 a9 (nI l.val) (cLo (h.1 8) l 5) h = R6 a9 (nI (l.val + 1)) h := by
  obtain ⟨hn, S, I, r17, r18, r19, r20, r22, rt, r25, rg⟩ := id j
  have LI := I.2.2.2.2.2.2.2.1 l hl
  have c3 := LI.2.2.2.1
  obtain ⟨l1, l2, l3⟩ := lt_12 LI.2.2.2.2.2.1
  have q3 : h.1 19 (6 * l.val + 3) = cLo (h.1 8) l 3 := r19 l hl 3
  unfold jb_L_agree_33
  rw [lot_4 I hl h rfl, gb_some, ix63, gck_nI (by omega) (by decide), nI_clamp (by omega), q3, gradeL c3, gb_some, if_pos rfl, lot_5 I hl h rfl, gb_some, if_pos rfl, lot_6 I hl h rfl, gb_some]
  have fin : ∀ x, jb_L_agree_164 R6 a9 (nI l.val) x x h = R6 a9 (nI (l.val + 1)) h := fun x => by
    unfold jb_L_agree_164
    rw [if_pos rfl, nI_1]
  by_cases h0 : cLo (h.1 8) l 5 = 0
  · have n2 : ¬ 2 ≤ cLo (h.1 8) l 5 := fun w => by rw [h0] at w; exact absurd w (by decide)
    rw [if_pos h0, if_pos (l1.mpr h0)]
    unfold jb_L_agree_88
    rw [if_pos rfl, lot_7 I hl h rfl, gb_some, if_pos h0, if_pos (l1.mpr h0)]
    unfold jb_L_agree_113
    rw [if_pos rfl, lot_8 I hl h rfl, gb_some, if_neg n2, if_pos (l2.mpr (fun w => by rw [h0] at w; exact absurd w (by decide)))]
    unfold jb_L_agree_139
    rw [if_pos rfl, lot_9 I hl h rfl, gb_some, if_pos h0, if_pos (l1.mpr h0)]
    exact fin _
  · obtain ⟨d20, d21, d23⟩ := r20 l hl h0
    have nlt : ¬ cLo (h.1 8) l 5 < 1 := fun w => h0 (l1.mp w)
    rw [if_neg h0, if_neg nlt, gck_nI (by omega) (by decide), nI_clamp (by omega), d20]
    unfold jb_L_agree_88
    rw [if_pos rfl, lot_7 I hl h rfl, gb_some, if_neg h0, if_neg nlt, gck_nI (by omega) (by decide), nI_clamp (by omega), d21]
    unfold jb_L_agree_113
    rw [if_pos rfl, lot_8 I hl h rfl, gb_some]
    have s139 : ∀ x, jb_L_agree_139 R6 a9 (nI l.val) (cLo (h.1 8) l 5) x x h = R6 a9 (nI (l.val + 1)) h := fun x => by
      unfold jb_L_agree_139
      rw [if_pos rfl, lot_9 I hl h rfl, gb_some, if_neg h0, if_neg nlt, gck_nI (by omega) (by decide), nI_clamp (by omega), d23]
      exact fin _
    by_cases h2 : cLo (h.1 8) l 5 = 2
    · rw [if_pos (l3.mpr h2), if_neg (fun w => l2.mp w h2), gck_nI (by omega) (by decide), nI_clamp (by omega), r22 l hl h2]
      exact s139 _
    · rw [if_neg (fun w => h2 (l3.mp w)), if_pos (l2.mpr h2)]
      exact s139 _
theorem agree_6 {h : Hst} {nl b : Nat} (j : J h nl b) : ∀ (m i n : Nat) (a9 : Int32), i + m = nl → m < n → lp_L_agree_6 n a9 (nI i) h = lp_L_agree_184 FU (cntF (fLots (h.1 8) 5 0 0) m i a9) 0 0 0 h
  | 0, i, n + 1, a9, hi, _ => by
    have hn := j.1
    rw [lp_L_agree_6, gk_1_15, tn_1, j.e1.2.1, if_pos (nI_le (by omega) (by omega))]
    rfl
  | m + 1, i, n + 1, a9, hi, hn => by
    have hn10 := j.1
    have i40 : i < 40 := by omega
    have hl : i < nl := by omega
    obtain ⟨-, S, I, r17, r18, r19, -⟩ := id j
    have q5 : h.1 19 (6 * i + 5) = cLo (h.1 8) ⟨i, i40⟩ 5 := r19 ⟨i, i40⟩ hl 5
    have fi := fLots_iff (h.1 8) 5 0 0 ⟨i, i40⟩
    have go : ∀ a, jb_L_agree_33 (lp_L_agree_6 n) a (nI i) (cLo (h.1 8) ⟨i, i40⟩ 5) h = lp_L_agree_184 FU (cntF (fLots (h.1 8) 5 0 0) m (i + 1) a) 0 0 0 h := fun a => by
      have := agree_33 j (lp_L_agree_6 n) a ⟨i, i40⟩ hl
      exact this.trans (agree_6 j m (i + 1) n a (by omega) (by omega))
    rw [lp_L_agree_6, gk_1_15, tn_1, j.e1.2.1, if_neg (nI_ge hl (by omega)), ix65, gck_nI (by omega) (by decide), nI_clamp (by omega), q5, gl_eq, cntF]
    by_cases z : cLo (h.1 8) ⟨i, i40⟩ 5 = 0
    · rw [if_pos z, if_pos (fi.mpr ⟨.inl rfl, z⟩), go]
    · rw [if_neg z, if_neg (fun w => z (fi.mp w).2), go]
-- tanks
theorem agree_279 {h : Hst} {nl b : Nat} (j : J h nl b) (t : Fin 6) (ht : t.val < 3) (R184 : Int32 → Int32 → Int32 → Int32 → Hst → Option (Int32 × Hst)) (a9 a10 a11 : Int32) : ∀ (m i n : Nat), i + m = 5 → m < n → lp_L_agree_279 R184 n a9 a10 a11 (nI t.val) (nI i) h = R184 a9 a10 a11 (nI (t.val + 1)) h
  | 0, i, n + 1, hi, _ => by
    rw [lp_L_agree_279, if_pos (show (5 : Int32) ≤ nI i from nI_le (a := 5) (by omega) (by omega)), nI_1]
  | m + 1, i, n + 1, hi, hn => by
    have i5 : i < 5 := by omega
    obtain ⟨-, S, I, r17, r18, r19, r20, r22, rt, r25, rg⟩ := id j
    have q : h.1 24 (7 * t.val + 2 + i) = cTa (h.1 8) t (ts ⟨i, i5⟩) := rt.v ht ⟨i, i5⟩
    have e : f_X6_tank (nI t.val) (nI (10 + i)) h = some (cTa (h.1 8) t (ts ⟨i, i5⟩), h) := by
      have := tank_C I t ht (k := 10 + i) (.inr ⟨by omega, by omega⟩) h rfl
      rw [this]
      unfold tankOf
      rw [if_neg (by omega), if_neg (by omega), if_neg (by omega), dif_pos (by omega)]
      congr 3
      exact Fin.ext (by show 10 + i - 8 = 2 + i; omega)
    rw [lp_L_agree_279, if_neg (show ¬ (5 : Int32) ≤ nI i from nI_ge (b := 5) i5 (by decide)), show (10 : Int32) + nI i = nI (10 + i) from nI_add 10 i, e, gb_some, ix72, gck_nI (by omega) (by decide), nI_clamp (by omega), q, if_pos rfl, nI_1]
    exact agree_279 j t ht R184 a9 a10 a11 m (i + 1) n (by omega) (by omega)
theorem agree_233 {h : Hst} {nl b : Nat} (j : J h nl b) (t : Fin 6) (ht : t.val < 3) (R184 : Int32 → Int32 → Int32 → Int32 → Hst → Option (Int32 × Hst)) (a9 a10 a11 : Int32) : jb_L_agree_233 R184 a9 a10 a11 (nI t.val) (oil5 (h.1 8) t) h = R184 a9 a10 a11 (nI (t.val + 1)) h := by
  obtain ⟨-, S, I, r17, r18, r19, r20, r22, rt, r25, rg⟩ := id j
  have e1 : f_X6_tank (nI t.val) 1 h = some (oil5 (h.1 8) t, h) := tank_C I t ht (k := 1) (.inl (by decide)) h rfl
  have e2 : f_X6_tank (nI t.val) 2 h = some (grd (oil5 (h.1 8) t) (cTa (h.1 8) t 1), h) := tank_C I t ht (k := 2) (.inl (by decide)) h rfl
  have fin : ∀ x, jb_L_agree_271 R184 a9 a10 a11 (nI t.val) x x h = R184 a9 a10 a11 (nI (t.val + 1)) h := fun x => by
    unfold jb_L_agree_271
    rw [if_pos rfl]
    exact agree_279 j t ht R184 a9 a10 a11 5 0 FU rfl (by decide)
  unfold jb_L_agree_233
  rw [e1, gb_some, if_pos rfl, e2, gb_some]
  unfold grd
  by_cases z : oil5 (h.1 8) t = 0
  · rw [if_pos z, if_pos z]
    exact fin _
  · rw [if_neg z, if_neg z, ix71, gck_nI (by omega) (by decide), nI_clamp (by omega), rt.g ht]
    exact fin _
theorem agree_184 {h : Hst} {nl b : Nat} (j : J h nl b) (a9 : Int32) : ∀ (m i n : Nat) (a10 a11 : Int32), i + m = 3 → m < n → lp_L_agree_184 n a9 a10 a11 (nI i) h = lp_L_agree_332 FU a9 (sumF (lft (oil5 (h.1 8))) m i a10) (sumF (lft (og (h.1 8) 1)) m i a11) 0 0 h
  | 0, i, n + 1, a10, a11, hi, _ => by
    rw [lp_L_agree_184, gk_2_15, tn_2, j.e1.2.2, if_pos (nI_le (by omega) (by omega))]
    rfl
  | m + 1, i, n + 1, a10, a11, hi, hn => by
    obtain ⟨-, S, I, r17, r18, r19, r20, r22, rt, r25, rg⟩ := id j
    have i6 : i < 6 := by omega
    have ht : i < 3 := by omega
    have eo : f_L_oil (nI i) h = some (oil5 (h.1 8) ⟨i, i6⟩, h) := oilL (t := ⟨i, i6⟩) rt ht
    have sg : h.1 24 (7 * i + 1) = cTa (h.1 8) ⟨i, i6⟩ 1 := RT.g (t := ⟨i, i6⟩) rt ht
    obtain ⟨o, s, o1, o2, eoi, -⟩ := oil5_N (I.2.2.2.2.2.2.2.2.2 ⟨i, i6⟩)
    obtain ⟨gt, hgt, egt⟩ := rg.1 ⟨i, i6⟩ ht
    have go : ∀ x y, jb_L_agree_233 (lp_L_agree_184 n) a9 x y (nI i) (oil5 (h.1 8) ⟨i, i6⟩) h = lp_L_agree_332 FU a9 (sumF (lft (oil5 (h.1 8))) m (i + 1) x) (sumF (lft (og (h.1 8) 1)) m (i + 1) y) 0 0 h := fun x y => by
      have := agree_233 j ⟨i, i6⟩ ht (lp_L_agree_184 n) a9 x y
      exact this.trans (agree_184 j a9 m (i + 1) n x y (by omega) (by omega))
    rw [lp_L_agree_184, gk_2_15, tn_2, j.e1.2.2, if_neg (nI_ge ht (by omega)), eo, gb_some, gl_eq, sumF, sumF, lft_at _ i i6, lft_at _ i i6, og, if_neg (show ¬ (1 : Int32) = 0 by decide)]
    unfold grd
    by_cases z : o = 0
    · have z' : oil5 (h.1 8) ⟨i, i6⟩ = 0 := by rw [eoi, z]; rfl
      rw [if_pos (by rw [eoi, z]; decide), go, if_pos z', if_neg (show ¬ (-1 : Int32) = 0 by decide), Int32.add_zero]
    · have z' : ¬ oil5 (h.1 8) ⟨i, i6⟩ = 0 := by rw [eoi]; exact nI_ne0 (by omega) (by omega)
      rw [if_neg (by rw [eoi]; exact nI_nle (by omega) (by omega)), ix71, gck_nI (by omega) (by decide), nI_clamp (by omega), sg, if_neg z']
      by_cases w : cTa (h.1 8) ⟨i, i6⟩ 1 = 0
      · rw [if_pos w, if_pos w, gl_eq, go]
      · rw [if_neg w, if_neg w, go, Int32.add_zero]
-- growers, counts
theorem sum8_F (f : Fin 8 → Int32) : sumF (lft f) 8 0 0 = sum8 f := rfl
theorem agree_end {h : Hst} {nl b : Nat} (j : J h nl b) : ∀ (m i n : Nat) (a12 : Int32), i + m = 3 → m < n → sumF (lft fun g => cGr (h.1 8) g 0) m i a12 = sumF (lft fun g => cGr (h.1 8) g 0) 8 0 0 →
    lp_L_agree_332 n (cntF (fLots (h.1 8) 5 0 0) nl 0 0) (sumF (lft (oil5 (h.1 8))) 6 0 0) (sumF (lft (og (h.1 8) 1)) 6 0 0) a12 (nI i) h = some (1, h)
  | 0, i, n + 1, a12, hi, _, e => by
    obtain ⟨-, S, I, ⟨⟨n0, n1, n2, n3, n4, n5, n6, n7⟩, n8⟩, -⟩ := id j
    have e12 : a12 = sumF (lft fun g => cGr (h.1 8) g 0) 8 0 0 := e
    rw [lp_L_agree_332, gk_0_15, tn_0, j.e1.1, if_pos (nI_le (by omega) (by omega)), count_2 I h rfl, gb_some, if_pos rfl, count_4 I h rfl, gb_some, gk_3_15, tn_3, n3, if_pos rfl, count_5 I h rfl, gb_some, gk_4_15, tn_4, n4, if_pos rfl, count_6 I h rfl, gb_some, gk_5_15, tn_5, n5, if_pos rfl, count_7 I h rfl, gb_some, gk_6_15, tn_6, n6, if_pos rfl, count_8 I h rfl, gb_some, if_pos rfl, count_9 I h rfl, gb_some, if_pos e12.symm, count_10 I h rfl, gb_some, if_pos rfl, count_11 I h rfl, gb_some, gk_7_15, tn_7, n7, sum8_F, if_pos rfl]
    unfold jb_L_agree_481
    rw [gzr_1]
  | m + 1, i, n + 1, a12, hi, hn, e => by
    obtain ⟨-, S, I, r17, r18, r19, r20, r22, rt, r25, rg⟩ := id j
    have i8 : i < 8 := by omega
    have hg : i < 3 := by omega
    have q : h.1 25 i = cGr (h.1 8) ⟨i, i8⟩ 0 := r25 ⟨i, i8⟩ hg
    have eg : f_X6_grower (nI i) 0 h = some (cGr (h.1 8) ⟨i, i8⟩ 0, h) := grower_0 I (g := ⟨i, i8⟩) hg h rfl
    rw [sumF, lft_at _ i i8] at e
    rw [lp_L_agree_332, gk_0_15, tn_0, j.e1.1, if_neg (nI_ge hg (by omega)), gck_nI (by omega) (by decide), nI_clamp (by omega), q, gl_eq, eg, gb_some, gck_nI (by omega) (by decide), q, if_pos rfl, nI_1]
    exact agree_end j m (i + 1) n _ (by omega) (by omega) e
theorem agree_v {h : Hst} {nl b : Nat} (j : J h nl b) : f_L_agree h = some (1, h) := by
  obtain ⟨hn, S, I, -⟩ := id j
  obtain ⟨⟨-, -, -⟩, -, -, -, -, i0, -, -, i3, -⟩ := I
  have o6 : sumF (lft (oil5 (h.1 8))) 6 0 0 = sumF (lft (oil5 (h.1 8))) 3 0 0 := sumF_cut' _ (by decide) (fun k a b' => by
    rw [lft_at _ k (by omega)]
    exact oil5_0 (fun q => i3 ⟨k, by omega⟩ a q))
  have g6 : sumF (lft (og (h.1 8) 1)) 6 0 0 = sumF (lft (og (h.1 8) 1)) 3 0 0 := sumF_cut' _ (by decide) (fun k a b' => by
    rw [lft_at _ k (by omega)]
    have q := oil5_0 (fun q => i3 ⟨k, by omega⟩ a q)
    unfold og
    rw [q]
    split
    · rfl
    · split <;> rfl)
  have a8 : sumF (lft fun g => cGr (h.1 8) g 0) 8 0 0 = sumF (lft fun g => cGr (h.1 8) g 0) 3 0 0 := sumF_cut' _ (by decide) (fun k a b' => by
    rw [lft_at _ k (by omega)]
    exact i0 ⟨k, by omega⟩ a 0)
  unfold f_L_agree
  have e1 := agree_6 j nl 0 FU 0 (by omega) (Nat.lt_of_le_of_lt hn (by decide))
  have e2 := agree_184 j (cntF (fLots (h.1 8) 5 0 0) nl 0 0) 3 0 FU 0 0 rfl (by decide)
  have e3 := agree_end j 3 0 FU 0 rfl (by decide) a8.symm
  rw [o6, g6] at e3
  rw [show nI 0 = (0 : Int32) from rfl] at e1 e2 e3
  rw [e1, e2, e3]
