-- an act that takes oil
theorem at_l (x : Int32) {n : Nat} {N : Int32} (h0 : 0 < n) (hn : n < 2 ^ 31) (e : N = nI n) : ∃ j : Nat, j < n ∧ ∀ h : Hst, f_L_at x N h = some (nI j, h) := by
  subst e; exact at_v x h0 hn
theorem act_takes {h : Hst} {nl b : Nat} (j : J h nl b) (hb : b ≤ 48) (p1 p2 : Int32) : ∃ h', f_L_takes p1 p2 h = some (1, h') ∧ J h' nl b := by
  obtain ⟨e0, e1, e2⟩ := j.e1
  obtain ⟨hn, S, I, r17, r18, r19, r20, r22, rt, r25, rg⟩ := id j
  obtain ⟨t, ht, et⟩ := at_v p1 (n := 3) (by decide) (by decide)
  have t6 : t < 6 := by omega
  obtain ⟨o, o1, o2, o3, o4⟩ := TankI_o (I.2.2.2.2.2.2.2.2.2 ⟨t, t6⟩)
  have oL : ∀ (u : Nat) (u6 : u < 6), u < 3 → f_L_oil (nI u) h = some (oil5 (h.1 8) ⟨u, u6⟩, h) := fun u u6 hu => oilL (t := ⟨u, u6⟩) rt hu
  unfold f_L_takes
  rw [gk_2_15, tn_2, e2, et, gb_some, oL t t6 ht, gb_some, o2]
  by_cases z : S5 o = 0
  · refine ⟨h, ?_, j⟩
    have tk : f_X6_taken (nI t) 1 0 h = some (-1, h) := cls_taken0 I ⟨t, t6⟩ ht (by rw [o2, z]; rfl) h rfl
    unfold jb_L_takes_36
    rw [if_pos (by rw [z]; rfl), tk, gb_some, if_pos rfl, gzr_1]
  · obtain ⟨j0, hj0, ej⟩ := at_v p2 (n := S5 o) (by omega) (by omega)
    obtain ⟨c0, hc0, ec⟩ := at_l (p1 >>> (4 &&& 31)) (n := 2) (N := 2) (by decide) (by decide) rfl
    rw [if_neg (nI_ne0 (by omega) (by omega)), oL t t6 ht, gb_some, o2, ej, gb_some, gl_eq, ec, gb_some, show (1 : Int32) + nI j0 = nI (1 + j0) from nI_add 1 j0]
    by_cases z0 : c0 = 0
    · obtain ⟨g, hg, eg⟩ := at_v (p1 >>> (6 &&& 31)) (n := 3) (by decide) (by decide)
      obtain ⟨a, aL, ea⟩ := rg.2.2 ⟨g, by omega⟩ hg
      have acg : h.1 25 g = nI a := (r25 ⟨g, by omega⟩ hg).trans ea
      rw [if_pos (by rw [z0]; rfl), gk_0_15, tn_0, e0, eg, gb_some, gck_nI (by omega) (by decide), nI_clamp (by omega), acg]
      by_cases a0 : a = 0
      · rw [if_pos (by rw [a0]; rfl), gzr_1]
        exact ⟨h, rfl, j⟩
      · rw [if_neg (nI_ne0 (by omega) (by omega)), gck_nI (by omega) (by decide), gck_nI (by omega) (by decide)]
        by_cases le : 1 + j0 ≤ a
        · rw [if_pos (nI_le le (by omega))]
          exact act_draw j hb ⟨t, t6⟩ ht ⟨g, by omega⟩ hg o o1 o2 o3 o4 (by omega) (by omega) ea aL le
        · rw [if_neg (nI_ge (by omega) (by omega))]
          exact act_draw j hb ⟨t, t6⟩ ht ⟨g, by omega⟩ hg o o1 o2 o3 o4 (q := a) (by omega) (by omega) ea aL (Nat.le_refl _)
    · obtain ⟨u, hu, eu⟩ := at_v (p1 >>> (6 &&& 31)) (n := 3) (by decide) (by decide)
      have u6 : u < 6 := by omega
      have gr : h.1 24 (7 * t + 1) = cTa (h.1 8) ⟨t, t6⟩ 1 := RT.g (t := ⟨t, t6⟩) rt ht
      have su : h.1 24 (7 * u) = cTa (h.1 8) ⟨u, u6⟩ 0 := RT.s (t := ⟨u, u6⟩) rt hu
      rw [if_neg (nI_ne0 (by omega) (by omega)), gk_2_15, e2, eu, gb_some, ix71, gck_nI (by omega) (by decide), nI_clamp (by omega), gl_eq, gr]
      have yes : jb_L_takes_274 h = some (1, h) := by
        unfold jb_L_takes_274
        rw [gzr_1]
      by_cases tu : u = t
      · rw [if_pos (by rw [tu])]
        exact ⟨h, yes, j⟩
      · rw [if_neg (fun w => tu (nI_inj (by omega) (by omega) w)), ix70, gck_nI (by omega) (by decide), oL u u6 hu, gb_some, nI_clamp (by omega), su]
        by_cases room : nI (1 + j0) ≤ roomV (h.1 8) ⟨u, u6⟩
        · have room' : nI (1 + j0) ≤ cTa (h.1 8) ⟨u, u6⟩ 0 - oil5 (h.1 8) ⟨u, u6⟩ := room
          rw [if_pos room']
          exact act_move j ⟨t, t6⟩ ht ⟨u, u6⟩ hu (fun w => tu (congrArg Fin.val w)) o o1 o2 o3 o4 (by omega) (by omega) room
        · have room' : ¬ nI (1 + j0) ≤ cTa (h.1 8) ⟨u, u6⟩ 0 - oil5 (h.1 8) ⟨u, u6⟩ := room
          rw [if_neg room']
          exact ⟨h, yes, j⟩
