theorem op_appeal {h : Hst} (S : Sim h) (p : Int32) : Agree (f_L_appeal p h) (f_X7_appeal p) := by
  obtain ⟨-, ⟨ng, nl, nt, I, R⟩, -⟩ := id S
  obtain ⟨⟨hg8, h40, h6⟩, ⟨i7, i8, i9⟩, -⟩ := id I
  have z8 : h.1 18 8 = nI nl := (R.1 8 (by decide)).trans i8
  rcases idx p (n := nl) (by omega) with ⟨l, hl, rfl⟩ | b0
  · obtain ⟨rv, v1, v2, v3⟩ := reasonAgainstAppeal_v I R (l := ⟨l, by omega⟩) hl
    by_cases r0 : rv = 0
    · subst r0
      obtain ⟨h1, hx0⟩ := v3 rfl
      obtain ⟨⟨g, hg, eg⟩, ⟨v, ev⟩, -, c3, -⟩ := I.2.2.2.2.2.2.2.1 ⟨l, by omega⟩ hl
      obtain ⟨z4, z6, z7, z9, e7, t, ht, et⟩ := pressedZ I R (l := ⟨l, by omega⟩) hl h1
      have hx := hx0 t et
      obtain ⟨hc, e, ee2, ef, K⟩ := undo_std S
      have e8 := ef 8 (by decide) (by decide)
      have e18 := ef 18 (by decide) (by decide)
      have hT : TankI (h.1 8) t := I.2.2.2.2.2.2.2.2.2 t
      generalize hxx : secV (h.1 8) ⟨l, by omega⟩ = x at hx
      generalize hgg : gl3 (cLo (h.1 8) ⟨l, by omega⟩ 3) = gr
      have hT2 : TankI (uVa (uLo (uLo (h.1 8) ⟨l, by omega⟩ 5 2) ⟨l, by omega⟩ 9 x) v 1 (cVa (h.1 8) v 1 + x)) t := by
        simp only [TankI, cTa_uVa, cTa_uLo]; exact hT
      have cl : ∀ k : Fin 11, k ≠ 5 → k ≠ 9 → cLo (uVa (uLo (uLo (h.1 8) ⟨l, by omega⟩ 5 2) ⟨l, by omega⟩ 9 x) v 1 (cVa (h.1 8) v 1 + x)) ⟨l, by omega⟩ k = cLo (h.1 8) ⟨l, by omega⟩ k := fun k k5 k9 => by
        rw [cLo_uVa, cLo_uLo, if_neg (fun w => k9 w.2), cLo_uLo, if_neg (fun w => k5 w.2)]
      have ec : f_L_appeal (nI l) h = some (0, hsj (hso hc 8 (appC (h.1 8) ⟨l, by omega⟩ g v t x gr)) 25 0 x.toInt64) := by
        unfold f_L_appeal f_X6_appeal
        rw [checkLot_gd h40 i8 hl, gbvx_inl, show nI l = nI (⟨l, by omega⟩ : Fin 40).val from rfl, v1 h rfl, gb_some, if_pos rfl, e, gbv_some, secondOilOf_v, gb_some, e8, hxx, get3_1, gb_some, e8, ev, put3_5, gbv_some, put3_9, gbv_some, hso_hso, hso_at, if_pos rfl, e8, add5_1, gbv_some, hso_hso, hso_at, if_pos rfl, cVa_uLo, cVa_uLo, get3_10, gb_some, hso_at, if_pos rfl, cl 10 (by decide) (by decide), et, gradeOfLot, gb_some, hso_at, if_pos rfl, cl 3 (by decide) (by decide), hgg, pour_C t v x gr _ (by rw [hso_at, if_pos rfl]; exact hT2), gbv_some, hso_hso, hso_at, if_pos rfl, get3_0, gb_some, hso_at, if_pos rfl, cLo_pour, cl 0 (by decide) (by decide), eg, settleAppeal_v, gbv_some, hso_hso, hso_at, if_pos rfl, gbx_inl, gk_0_1, gl_eq, tn_0]
        rfl
      obtain ⟨hm, em, m2, mf, mj, K2⟩ := K (hst (hsj (hso hc 8 (appC (h.1 8) ⟨l, by omega⟩ g v t x gr)) 25 0 x.toInt64) 17 5 0) ⟨rfl, rfl, rfl, rfl, rfl, rfl, rfl, rfl⟩ rfl
      have m18 : hm.1 18 = h.1 18 := (mf 18 (by decide) (by decide)).trans e18
      have m8 : hm.1 8 = appC (h.1 8) ⟨l, by omega⟩ g v t x gr := mf 8 (by decide) (by decide)
      obtain ⟨z', ew, T⟩ := appeal_M ⟨l, by omega⟩ hl g hg v t ht x gr h1 ev hx I hm (by rw [m18]; exact R)
      have r7 := R.2.2.2.2.2.2.1 ⟨l, by omega⟩
      refine agree_ok ec (h2 := hso hm 18 z') ?_ ?_ m2 ?_
      · unfold f_X7_appeal
        rw [isLot_gd h40 (by show hc.1 18 8 = _; rw [e18]; exact z8) hl, gb_some, if_neg (by decide), show nI l = nI (⟨l, by omega⟩ : Fin 40).val from rfl, v2 _ (by show hc.1 18 = _; exact e18), gb_some, if_pos rfl]
        unfold jb_X7_appeal_26
        rw [gl_eq]
        show (if (0 : Int32) ≤ 0 then _ else _) = _
        rw [if_pos (by decide), em, gbv_some, secondOf_v I R hl h1 hm m18, gb_some, hxx, ofLot_0, gb_some, ofLot_9, gb_some, ofLot_1, gb_some, gradeOfLot7 _ _ (by rw [m18, show zL (h.1 18) ⟨l, by omega⟩ 3 = cLo (h.1 8) ⟨l, by omega⟩ 3 from r7 3]; exact c3), gb_some, m18, show zL (h.1 18) ⟨l, by omega⟩ 3 = cLo (h.1 8) ⟨l, by omega⟩ 3 from r7 3, show zL (h.1 18) ⟨l, by omega⟩ 0 = cLo (h.1 8) ⟨l, by omega⟩ 0 from r7 0, show zL (h.1 18) ⟨l, by omega⟩ 1 = cLo (h.1 8) ⟨l, by omega⟩ 1 from r7 1, z9, eg, ev, et, hgg]
        exact ew
      · show hm.1 17 5 = 0
        exact mj 5 (by decide)
      · refine K2 _ ⟨rfl, rfl, rfl, rfl, rfl, rfl, rfl, rfl⟩ ?_
        show SimCZ (hm.1 8) z'
        rw [m8]
        exact app_acc _ _ _ _ _ _ T
    · refine agree_bad S (k := 2) (by decide) ?_ ?_
      · unfold f_L_appeal f_X6_appeal
        rw [checkLot_gd h40 i8 hl, gbvx_inl, show nI l = nI (⟨l, by omega⟩ : Fin 40).val from rfl, v1 h rfl, gb_some, if_neg r0, gbx_inr]
        rfl
      · unfold f_X7_appeal jb_X7_appeal_26
        rw [isLot_gd h40 z8 hl, gb_some, if_neg (by decide), show nI l = nI (⟨l, by omega⟩ : Fin 40).val from rfl, v2 h rfl, gb_some, if_neg r0, gl_eq]
        show (if (2 : Int32) ≤ 0 then _ else _) = _
        rw [if_neg (by decide)]
  · refine agree_bad S (k := 1) (by decide) ?_ ?_
    · unfold f_L_appeal f_X6_appeal
      rw [checkLot_bad i8 b0, gbvx_inr, gbx_inr]
      rfl
    · unfold f_X7_appeal jb_X7_appeal_26
      rw [isLot_bad z8 b0, gb_some, if_pos rfl, gl_eq]
      show (if (1 : Int32) ≤ 0 then _ else _) = _
      rw [if_neg (by decide)]
