theorem cTa_tk (t : Fin 6) (N : Fin 5 → Nat) {t' : Fin 6} (ne : ¬ t' = t) (k : Fin 7) : ∀ (m i : Nat) (c : Nat → Int32), cTa (tkC t N m i c) t' k = cTa c t' k
  | 0, _, _ => rfl
  | m + 1, i, c => by
    rw [tkC]
    split
    · rw [cTa_tk t N ne k m (i + 1), cTa_uTa, if_neg (fun w => ne w.1)]
    · rfl
theorem roomV_tk (t : Fin 6) (N : Fin 5 → Nat) {t' : Fin 6} (ne : ¬ t' = t) (m i : Nat) (c : Nat → Int32) : roomV (tkC t N m i c) t' = roomV c t' := by
  unfold roomV oil5
  simp only [cTa_tk t N ne]
theorem sumN_5 (N : Fin 5 → Nat) : sumN N 5 0 = S5 N := by
  show N 0 + (N 1 + (N 2 + (N 3 + (N 4 + 0)))) = N 0 + N 1 + N 2 + N 3 + N 4
  omega
theorem op_move {h : Hst} (S : Sim h) (p0 p1 p2 p3 : Int32) : Agree (f_L_move p0 p1 p2 p3 h) (f_X7_move p0 p1 p2 p3) := by
  obtain ⟨-, ⟨ng, nl, nt, I, R⟩, -⟩ := id S
  obtain ⟨⟨-, -, h6⟩, ⟨-, -, i9⟩, -⟩ := id I
  have z9 : h.1 18 9 = nI nt := (R.1 9 (by decide)).trans i9
  have hT := I.2.2.2.2.2.2.2.2.2
  rcases idx p0 (n := nt) (by omega) with ⟨t, ht, rfl⟩ | b0
  · rcases idx p1 (n := nt) (by omega) with ⟨u, hu, rfl⟩ | b1
    · by_cases tu : nI t = nI u
      · refine agree_bad S (k := 2) (by decide) ?_ ?_
        · unfold f_L_move f_X6_move
          rw [checkTank_gd h6 i9 ht, gbvx_inl, checkTank_gd h6 i9 hu, gbvx_inl, if_pos tu, gbx_inr]
          rfl
        · unfold f_X7_move jb_X7_move_33 jb_X7_move_54
          rw [isTank_gd h6 z9 ht, gb_some, if_neg (by decide), isTank_gd h6 z9 hu, gb_some, if_neg (by decide), if_pos tu, gl_eq]
          show (if (2 : Int32) ≤ 0 then _ else _) = _
          rw [if_neg (by decide)]
      · rcases isOil p2 with ⟨q, q1, q2, rfl, o', w⟩ | ⟨o', w⟩
        · have t6 : t < 6 := by omega
          have u6 : u < 6 := by omega
          have ne : ¬ (⟨u, u6⟩ : Fin 6) = ⟨t, t6⟩ := fun x => tu (by rw [show u = t from congrArg Fin.val x])
          obtain ⟨o, o1, o2, o3, o4⟩ := TankI_o (hT ⟨t, t6⟩)
          obtain ⟨r, r1, r2⟩ := roomV_N (hT ⟨u, u6⟩)
          have oC : ∀ H : Hst, f_X1_oilOf (nI t) H = some (oil5 (H.1 8) ⟨t, t6⟩, H) := fun H => oilOf ⟨t, t6⟩ H
          have oM : ∀ H : Hst, f_X7_oilOf (nI t) H = some (zoil5 (H.1 18) ⟨t, t6⟩, H) := fun H => oilOf7 ⟨t, t6⟩ H
          have gC : f_X1_gradeOf (nI t) h = some (grd (oil5 (h.1 8) ⟨t, t6⟩) (cTa (h.1 8) ⟨t, t6⟩ 1), h) := gradeOf ⟨t, t6⟩ (hT _)
          have gM : ∀ H : Hst, H.1 18 = h.1 18 → f_X7_gradeOf (nI t) H = some (grd (oil5 (h.1 8) ⟨t, t6⟩) (cTa (h.1 8) ⟨t, t6⟩ 1), H) := fun H e => by
            have := gradeOf7 ⟨t, t6⟩ H
            rw [e, zoil_eq R, R.2.2.2.2.2.1] at this; exact this
          have rC : f_X1_roomOf (nI u) h = some (nI r, h) := by
            have := roomOf ⟨u, u6⟩ h
            rw [← r2]; exact this
          have rM : ∀ H : Hst, H.1 18 = h.1 18 → f_X7_roomIn (nI u) H = some (nI r, H) := fun H e => by
            have := roomIn ⟨u, u6⟩ H
            rw [e, zoil_eq R, R.2.2.2.2.2.1] at this
            rw [← r2]; exact this
          generalize hG : grd (oil5 (h.1 8) ⟨t, t6⟩) (cTa (h.1 8) ⟨t, t6⟩ 1) = G at gC gM
          have aC : f_X1_admits (nI u) G p3 h = some (adm (grd (oil5 (h.1 8) ⟨u, u6⟩) (cTa (h.1 8) ⟨u, u6⟩ 1)) G p3, h) := admits ⟨u, u6⟩ (hT _) G p3
          have aM : ∀ H : Hst, H.1 18 = h.1 18 → f_X7_suits (nI u) G p3 H = some (adm (grd (oil5 (h.1 8) ⟨u, u6⟩) (cTa (h.1 8) ⟨u, u6⟩ 1)) G p3, H) := fun H e => by
            have := suits ⟨u, u6⟩ H G p3
            rw [e, zoil_eq R, R.2.2.2.2.2.1] at this; exact this
          generalize adm (grd (oil5 (h.1 8) ⟨u, u6⟩) (cTa (h.1 8) ⟨u, u6⟩ 1)) G p3 = A at aC aM
          have cm : ∀ H : Hst, H.1 18 = h.1 18 → f_X7_canMove (nI t) (nI u) (nI q) p3 H = some (if S5 o < q then 0 else if r < q then 0 else if A = 0 then 0 else 1, H) := fun H e => by
            unfold f_X7_canMove jb_X7_canMove_37 jb_X7_canMove_38
            rw [oM, gb_some, e, zoil_eq R, o2]
            by_cases a1 : S5 o < q
            · rw [if_pos (nI_lt a1 (by omega)), if_pos a1, gzr_0]
            · rw [if_neg (nI_nlt (by omega) (by omega)), if_neg a1, rM H e, gb_some]
              by_cases a2 : r < q
              · rw [if_pos (nI_lt a2 (by omega)), if_pos a2, gzr_0]
              · rw [if_neg (nI_nlt (by omega) (by omega)), if_neg a2, gM H e, gb_some, aM H e, gb_some, gzr_0, gzr_1]
                split <;> rfl
          have refuse : (S5 o < q ∨ r < q ∨ A = 0) → Agree (f_L_move (nI t) (nI u) (nI q) p3 h) (f_X7_move (nI t) (nI u) (nI q) p3) := fun x => by
            refine agree_bad S (k := 3) (by decide) ?_ ?_
            · unfold f_L_move f_X6_move jb_X6_move_78
              rw [checkTank_gd h6 i9 ht, gbvx_inl, checkTank_gd h6 i9 hu, gbvx_inl, if_neg tu, o', gbvx_inl, gC, gb_some, oC, gb_some, o2]
              by_cases a1 : S5 o < q
              · rw [if_pos (nI_lt a1 (by omega)), gbx_inr]; rfl
              · rw [if_neg (nI_nlt (by omega) (by omega)), rC, gb_some]
                by_cases a2 : r < q
                · rw [if_pos (nI_lt a2 (by omega)), gbx_inr]; rfl
                · rw [if_neg (nI_nlt (by omega) (by omega)), aC, gb_some, if_pos ((x.resolve_left a1).resolve_left a2), gbx_inr]; rfl
            · have c0 : (if S5 o < q then (0 : Int32) else if r < q then 0 else if A = 0 then 0 else 1) = 0 := by
                by_cases a1 : S5 o < q
                · rw [if_pos a1]
                · rw [if_neg a1]
                  by_cases a2 : r < q
                  · rw [if_pos a2]
                  · rw [if_neg a2, if_pos ((x.resolve_left a1).resolve_left a2)]
              unfold f_X7_move jb_X7_move_54
              rw [isTank_gd h6 z9 ht, gb_some, if_neg (by decide), isTank_gd h6 z9 hu, gb_some, if_neg (by decide), if_neg tu, w, gb_some, if_neg (by decide), cm h rfl, gb_some, c0, if_pos rfl, gl_eq]
              show (if (3 : Int32) ≤ 0 then _ else _) = _
              rw [if_neg (by decide)]
          by_cases a1 : S5 o < q
          · exact refuse (Or.inl a1)
          · by_cases a2 : r < q
            · exact refuse (Or.inr (Or.inl a2))
            · by_cases a3 : A = 0
              · exact refuse (Or.inr (Or.inr a3))
              · obtain ⟨N, n1, n2, n3, n4⟩ := split_both I R ⟨t, t6⟩ o o1 o2 o3 o4 q1 (by omega)
                obtain ⟨hc, e, ee2, ef, K⟩ := undo_std S
                have e8 := ef 8 (by decide) (by decide)
                have e18 := ef 18 (by decide) (by decide)
                obtain ⟨hs, es, ss, vs⟩ := n3 hc e8
                have s8 : hs.1 8 = h.1 8 := (ss.2 8 (by decide) (by decide)).trans e8
                obtain ⟨I1, R1⟩ := take_both ⟨t, t6⟩ ht o N o4 n1 5 0 (h.1 8) (h.1 18) rfl I R (fun v _ => o1 v)
                obtain ⟨I2, R2, mC, mM⟩ := mv_both ⟨u, u6⟩ hu N G 5 0 r _ _ rfl I1 R1 (by rw [roomV_tk _ _ ne]; exact r2) r1 (by rw [sumN_5, n2]; omega)
                have eC := mC FU (hso hs 8 (tkC ⟨t, t6⟩ N 5 0 (h.1 8))) (by decide) (by rw [hso_at, if_pos rfl]) (fun v => vs v)
                rw [hso_hso] at eC
                have ez := zoil_eq R2 ⟨u, u6⟩
                generalize hZ : mvZ ⟨u, u6⟩ N G 5 0 (tkZ ⟨t, t6⟩ N 5 0 (h.1 18)) = Z at R2 mM ez
                generalize hC : mvC ⟨u, u6⟩ N G 5 0 (tkC ⟨t, t6⟩ N 5 0 (h.1 8)) = C at I2 R2 eC ez
                have ec : f_L_move (nI t) (nI u) (nI q) p3 h = some (0, hsj (hso hs 8 C) 25 0 (oil5 C ⟨u, u6⟩).toInt64) := by
                  unfold f_L_move f_X6_move f_X1_takeOut
                  rw [checkTank_gd h6 i9 ht, gbvx_inl, checkTank_gd h6 i9 hu, gbvx_inl, if_neg tu, o', gbvx_inl, gC, gb_some, oC, gb_some, o2, if_neg (nI_nlt (by omega) (by omega)), rC, gb_some, if_neg (nI_nlt (by omega) (by omega)), aC, gb_some, if_neg a3, e, gbv_some, es, gbv_some]
                  have tk := takeOut_8 ⟨t, t6⟩ N 5 0 FU hs rfl (by decide) vs
                  rw [s8] at tk
                  rw [show (0 : Int32) = nI 0 from rfl, tk, gbv_some, eC, gbx_inl, show nI 0 = (0 : Int32) from rfl, gk_0_1, gl_eq, tn_0]
                obtain ⟨hm, em, m2, mf, mj, K2⟩ := K (hst (hsj (hso hs 8 C) 25 0 (oil5 C ⟨u, u6⟩).toInt64) 17 5 0) ⟨ss.2 0 (by decide) (by decide), ss.2 1 (by decide) (by decide), ss.2 9 (by decide) (by decide), ss.2 16 (by decide) (by decide), ss.2 19 (by decide) (by decide), ss.2 20 (by decide) (by decide), congrFun (ss.2 17 (by decide) (by decide)) 1, congrFun (ss.2 17 (by decide) (by decide)) 3⟩ (ss.2 18 (by decide) (by decide))
                have zz : hs.1 18 = h.1 18 := (ss.2 18 (by decide) (by decide)).trans e18
                have m18 : hm.1 18 = h.1 18 := by
                  rw [mf 18 (by decide) (by decide)]
                  exact zz
                have m8 : hm.1 8 = C := mf 8 (by decide) (by decide)
                obtain ⟨hl, el, sl, vl⟩ := n4 hm m18
                have l18 : hl.1 18 = h.1 18 := (sl.2 18 (by decide) (by decide)).trans m18
                have tk := takeShares_2 ⟨t, t6⟩ N 5 0 FU hl rfl (by decide) vl
                rw [l18] at tk
                have dr := mM FU (hso hl 18 (tkZ ⟨t, t6⟩ N 5 0 (h.1 18))) (by decide) (by rw [hso_at, if_pos rfl]) (fun v => vl v)
                rw [hso_hso, ez] at dr
                refine agree_ok ec (h2 := hso hl 18 Z) ?_ ?_ ?_ ?_
                · unfold f_X7_move jb_X7_move_54 f_X7_takeShares
                  have zz' : (hsj (hso hs 8 C) 25 0 (oil5 C ⟨u, u6⟩).toInt64).1 18 = h.1 18 := zz
                  rw [isTank_gd h6 (by rw [zz']; exact z9) ht, gb_some, if_neg (by decide), isTank_gd h6 (by rw [zz']; exact z9) hu, gb_some, if_neg (by decide), if_neg tu, w, gb_some, if_neg (by decide), cm _ zz', gb_some, if_neg a1, if_neg a2, if_neg a3, if_neg (by decide), gl_eq]
                  show (if (0 : Int32) ≤ 0 then _ else _) = _
                  rw [if_pos (by decide), em, gbv_some, gM hm m18, gb_some, el, gbv_some]
                  rw [show (0 : Int32) = nI 0 from rfl, tk, gbv_some]
                  exact dr
                · show hl.1 17 5 = 0
                  rw [sl.2 17 (by decide) (by decide)]; exact mj 5 (by decide)
                · show hl.2 = _
                  rw [sl.1, m2]; rfl
                · refine K2 _ ⟨sl.2 0 (by decide) (by decide), sl.2 1 (by decide) (by decide), sl.2 9 (by decide) (by decide), sl.2 16 (by decide) (by decide), sl.2 19 (by decide) (by decide), sl.2 20 (by decide) (by decide), congrFun (sl.2 17 (by decide) (by decide)) 1, congrFun (sl.2 17 (by decide) (by decide)) 3⟩ ?_
                  show SimCZ (hl.1 8) Z
                  rw [sl.2 8 (by decide) (by decide), m8]
                  exact ⟨ng, nl, nt, I2, R2⟩
        · refine agree_bad S (k := 2) (by decide) ?_ ?_
          · unfold f_L_move f_X6_move
            rw [checkTank_gd h6 i9 ht, gbvx_inl, checkTank_gd h6 i9 hu, gbvx_inl, if_neg tu, o', gbvx_inr, gbx_inr]
            rfl
          · unfold f_X7_move jb_X7_move_33 jb_X7_move_54
            rw [isTank_gd h6 z9 ht, gb_some, if_neg (by decide), isTank_gd h6 z9 hu, gb_some, if_neg (by decide), if_neg tu, w, gb_some, if_pos rfl, gl_eq]
            show (if (2 : Int32) ≤ 0 then _ else _) = _
            rw [if_neg (by decide)]
    · refine agree_bad S (k := 1) (by decide) ?_ ?_
      · unfold f_L_move f_X6_move
        rw [checkTank_gd h6 i9 ht, gbvx_inl, checkTank_bad i9 b1, gbvx_inr, gbx_inr]
        rfl
      · unfold f_X7_move jb_X7_move_17 jb_X7_move_54
        rw [isTank_gd h6 z9 ht, gb_some, if_neg (by decide), isTank_bad z9 b1, gb_some, if_pos rfl, gl_eq]
        show (if (1 : Int32) ≤ 0 then _ else _) = _
        rw [if_neg (by decide)]
  · refine agree_bad S (k := 1) (by decide) ?_ ?_
    · unfold f_L_move f_X6_move
      rw [checkTank_bad i9 b0, gbvx_inr, gbx_inr]
      rfl
    · unfold f_X7_move jb_X7_move_17 jb_X7_move_54
      rw [isTank_bad z9 b0, gb_some, if_pos rfl, gl_eq]
      show (if (1 : Int32) ≤ 0 then _ else _) = _
      rw [if_neg (by decide)]
