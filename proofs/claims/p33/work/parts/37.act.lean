-- an act
theorem act_203 {h : Hst} {nl b : Nat} (j : J h nl b) (hb : b ≤ 47) (p1 p2 : Int32) {a : Nat} (ha : a < 14) : ∃ h', jb_L_act_203 p1 p2 (nI a) h = some (1, h') ∧ J h' nl (b + 1) := by
  have up : ∀ {r : Option (Int32 × Hst)}, (∃ h', r = some (1, h') ∧ J h' nl b) → ∃ h', r = some (1, h') ∧ J h' nl (b + 1) := fun x => by
    obtain ⟨h', e, j'⟩ := x
    exact ⟨h', e, j'.mono (by omega)⟩
  unfold jb_L_act_203
  by_cases a8 : 8 ≤ a
  · rw [if_pos (show (8 : Int32) ≤ nI a from nI_le (a := 8) a8 (by omega))]
    by_cases a8' : a = 8
    · obtain ⟨h', e, j'⟩ := act_appeals j hb p2
      rw [if_pos (by rw [a8']; rfl), e, gb_some, gzr_1]
      exact ⟨h', rfl, j'⟩
    · rw [if_neg (nI_nq 8 8 rfl (by decide) (by omega) a8')]
      by_cases a11 : 11 ≤ a
      · rw [if_pos (show (11 : Int32) ≤ nI a from nI_le (a := 11) a11 (by omega))]
        by_cases a11' : a = 11
        · obtain ⟨d, hd, ed⟩ := at_l p2 (n := 9) (N := 9) (by decide) (by decide) rfl
          rw [if_pos (by rw [a11']; rfl), ed, gb_some, show (1 : Int32) + nI d = nI (1 + d) from nI_add 1 d, gl_eq, gk_6_15, gk_6_15, gl_eq, tn_6]
          exact up (act_days j (by omega) (by omega))
        · rw [if_neg (nI_nq 11 11 rfl (by decide) (by omega) a11')]
          by_cases a12 : a = 12
          · obtain ⟨k, hk, ek⟩ := at_l p2 (n := 7) (N := 7) (by decide) (by decide) rfl
            obtain ⟨x51, h51, e51⟩ := at_l (p2 >>> (3 &&& 31)) (n := 51) (N := 51) (by decide) (by decide) rfl
            obtain ⟨x501, h501, e501⟩ := at_l (p2 >>> (3 &&& 31)) (n := 501) (N := 501) (by decide) (by decide) rfl
            obtain ⟨x1001, h1001, e1001⟩ := at_l (p2 >>> (3 &&& 31)) (n := 1001) (N := 1001) (by decide) (by decide) rfl
            obtain ⟨x3, h3, e3⟩ := at_l (p2 >>> (3 &&& 31)) (n := 3) (N := 3) (by decide) (by decide) rfl
            rw [if_pos (by rw [a12]; rfl), ek, gb_some, show (8 : Int32) + nI k = nI (8 + k) from nI_add 8 k, gck_nI (by omega) (by decide), nI_clamp (by omega), gl_eq]
            unfold jb_L_act_465
            rcases (by omega : k = 0 ∨ k = 1 ∨ k = 2 ∨ k = 3 ∨ k = 4 ∨ k = 5 ∨ k = 6) with rfl | rfl | rfl | rfl | rfl | rfl | rfl
            · rw [if_pos (by decide), e51, gb_some]
              exact up (act_set j (k := 0) (by decide) (Nat.zero_le _) (by show x51 ≤ 50; omega))
            · rw [if_neg (by decide), if_neg (by decide), if_pos (by decide), e501, gb_some, show (500 : Int32) + nI x501 = nI (500 + x501) from nI_add 500 x501]
              exact up (act_set j (k := 1) (by decide) (by show 500 ≤ _; omega) (by show 500 + x501 ≤ 1000; omega))
            · rw [if_neg (by decide), if_neg (by decide), if_neg (by decide), if_pos (by decide), e1001, gb_some]
              exact up (act_set j (k := 2) (by decide) (Nat.zero_le _) (by show x1001 ≤ 1000; omega))
            · rw [if_neg (by decide), if_pos (by decide), e51, gb_some]
              exact up (act_set j (k := 3) (by decide) (Nat.zero_le _) (by show x51 ≤ 50; omega))
            · rw [if_neg (by decide), if_neg (by decide), if_neg (by decide), if_neg (by decide), if_neg (by decide), e501, gb_some]
              exact up (act_set j (k := 4) (by decide) (Nat.zero_le _) (by show x501 ≤ 500; omega))
            · rw [if_neg (by decide), if_neg (by decide), if_neg (by decide), if_neg (by decide), if_pos (by decide), e3, gb_some]
              exact up (act_set j (k := 5) (by decide) (Nat.zero_le _) (by show x3 ≤ 2; omega))
            · rw [if_neg (by decide), if_neg (by decide), if_neg (by decide), if_neg (by decide), if_neg (by decide), e501, gb_some]
              exact up (act_set j (k := 6) (by decide) (Nat.zero_le _) (by show x501 ≤ 500; omega))
          · obtain ⟨c, hc, ec⟩ := at_l p2 (n := 2) (N := 2) (by decide) (by decide) rfl
            rw [if_neg (nI_nq 12 12 rfl (by decide) (by omega) a12), ec, gb_some]
            by_cases c0 : nI c = 0
            · rw [if_pos c0, gk_4_15, tn_4, tn_5]
              exact up (act_clean j)
            · obtain ⟨v, hv, ev⟩ := at_l (p2 >>> (2 &&& 31)) (n := 5) (N := 5) (by decide) (by decide) rfl
              obtain ⟨y, hy, ey⟩ := at_l (p2 >>> (5 &&& 31)) (n := 351) (N := 351) (by decide) (by decide) rfl
              obtain ⟨h', e', j'⟩ := act_yield j hv (n := 50 + y) (by omega) (by omega)
              have f18 : (hst h 18 v (nI (50 + y))).1 18 v = nI (50 + y) := by rw [hst_at, if_pos rfl, upd_eq]
              rw [if_neg c0, ev, gb_some, gck_nI hv (by decide), nI_clamp (by omega), gl_eq, ey, gb_some, gck_nI hv (by decide), show (50 : Int32) + nI y = nI (50 + y) from nI_add 50 y, gl_eq, gck_nI hv (by decide), f18, e', gb_some, if_pos rfl]
              unfold jb_L_act_668
              rw [gzr_1]
              exact ⟨h', rfl, j'.mono (by omega)⟩
      · obtain ⟨h', e, j'⟩ := act_takes j (by omega) p1 p2
        rw [if_neg (show ¬ (11 : Int32) ≤ nI a from nI_ge (b := 11) (by omega) (by decide)), e, gb_some, gzr_1]
        exact ⟨h', rfl, j'.mono (by omega)⟩
  · obtain ⟨h', e, j'⟩ := act_presses j hb p1 p2
    rw [if_neg (show ¬ (8 : Int32) ≤ nI a from nI_ge (b := 8) (by omega) (by decide)), e, gb_some, gzr_1]
    exact ⟨h', rfl, j'⟩
theorem act_v {h : Hst} {nl b : Nat} (j : J h nl b) (hb : b ≤ 47) (p1 p2 : Int32) : ∃ h' nl', f_L_act p1 p2 h = some (1, h') ∧ J h' nl' (b + 1) := by
  obtain ⟨q0, q1, q2⟩ := j.e1
  have hn := j.1
  obtain ⟨a, ha, ea⟩ := at_l (p1 >>> (20 &&& 31)) (n := 14) (N := 14) (by decide) (by decide) rfl
  unfold f_L_act
  rw [ea, gb_some]
  have other : ∃ h' nl', jb_L_act_203 p1 p2 (nI a) h = some (1, h') ∧ J h' nl' (b + 1) := by
    obtain ⟨h', e, j'⟩ := act_203 j hb p1 p2 ha
    exact ⟨h', nl, e, j'⟩
  by_cases a4 : 4 ≤ a
  · rw [if_pos (show (4 : Int32) ≤ nI a from nI_le (a := 4) a4 (by omega))]
    exact other
  · rw [if_neg (show ¬ (4 : Int32) ≤ nI a from nI_ge (b := 4) (by omega) (by decide)), gk_1_15, tn_1, q1]
    by_cases n10 : 10 ≤ nl
    · rw [if_pos (show (10 : Int32) ≤ nI nl from nI_le (a := 10) n10 (by omega))]
      exact other
    · obtain ⟨g, hg, eg⟩ := at_v p2 (n := 3) (by decide) (by decide)
      obtain ⟨v, hv, ev⟩ := at_l (p2 >>> (3 &&& 31)) (n := 5) (N := 5) (by decide) (by decide) rfl
      obtain ⟨k, hk, ek⟩ := at_l (p2 >>> (6 &&& 31)) (n := 2000) (N := 2000) (by decide) (by decide) rfl
      obtain ⟨c, hc, ec⟩ := at_l p1 (n := 30) (N := 30) (by decide) (by decide) rfl
      obtain ⟨t, ht, et⟩ := at_l (p1 >>> (6 &&& 31)) (n := 1001) (N := 1001) (by decide) (by decide) rfl
      obtain ⟨h', e', j'⟩ := act_add j (by omega) hg hv (k := 1 + k) (by omega) (by omega) (a := c) (by omega) (t := 500 + t) (by omega) (by omega)
      refine ⟨h', nl + 1, ?_, j'.mono (by omega)⟩
      have z0 : (hst h 17 1 (nI (nl + 1))).1 17 0 = nI 3 := by
        show upd (h.1 17) 1 (nI (nl + 1)) 0 = _
        rw [upd_ne (by decide)]; exact q0
      have eH : hst (hst (hst (hst (hst (hst (hst h 17 1 (nI (nl + 1))) 19 (6 * nl) (nI g)) 19 (6 * nl + 1) (nI v)) 19 (6 * nl + 2) (nI (1 + k))) 19 (6 * nl + 3) (nI c)) 19 (6 * nl + 4) (nI (500 + t))) 19 (6 * nl + 5) 0 = addH h nl g v (1 + k) c (500 + t) := by
        show hst (hst (hst (hst (hst (hso (hst h 17 1 (nI (nl + 1))) 19 (upd (h.1 19) (6 * nl) (nI g))) 19 (6 * nl + 1) (nI v)) 19 (6 * nl + 2) (nI (1 + k))) 19 (6 * nl + 3) (nI c)) 19 (6 * nl + 4) (nI (500 + t))) 19 (6 * nl + 5) 0 = _
        rw [hst_hso, hst_hso, hst_hso, hst_hso, hst_hso]
        rfl
      have f19 : (addH h nl g v (1 + k) c (500 + t)).1 19 = rowL (h.1 19) nl g v (1 + k) c (500 + t) := rfl
      rw [if_neg (show ¬ (10 : Int32) ≤ nI nl from nI_ge (b := 10) (by omega) (by decide)), gk_1_15, gl_eq, gk_1_15, nI_1, gl_eq, gk_0_15, tn_0, z0, eg, gb_some, ix61, ix62, ix63, ix64, ix65, ix60, gck_nI (by omega) (by decide), nI_clamp (by omega), gl_eq, ev, gb_some, gck_nI (by omega) (by decide), nI_clamp (by omega), gl_eq, ek, gb_some, show (1 : Int32) + nI k = nI (1 + k) from nI_add 1 k, gck_nI (by omega) (by decide), nI_clamp (by omega), gl_eq, ec, gb_some, gck_nI (by omega) (by decide), nI_clamp (by omega), gl_eq, et, gb_some, show (500 : Int32) + nI t = nI (500 + t) from nI_add 500 t, gck_nI (by omega) (by decide), nI_clamp (by omega), gl_eq, gck_nI (by omega) (by decide), nI_clamp (by omega), gl_eq, eH, gck_nI (by omega) (by decide), gck_nI (by omega) (by decide), gck_nI (by omega) (by decide), gck_nI (by omega) (by decide), gck_nI (by omega) (by decide), f19, rowL_0, rowL_1, rowL_2, rowL_3, rowL_4, e', gb_some, if_pos rfl]
      unfold jb_L_act_202
      rw [gzr_1]
