theorem draw_rel {c z : Nat → Int32} {ng nl nt : Nat} (I : InvC c ng nl nt) (R : RelCZ c z nl) (g : Fin 8) (hg : g.val < ng) (q : Nat) : SimCZ (uGr (uGr c g 0 (cGr c g 0 + -nI q)) g 1 (cGr c g 1 + nI q)) (wG (wG z 0 g (zG z 0 g - nI q)) 1 g (zG z 1 g + nI q)) := by
  rw [R.2.2.2.2.1 0 g, R.2.2.2.2.1 1 g, Int32.sub_eq_add_neg]
  exact ⟨ng, nl, nt, inv_G (inv_G I g 0 hg _) g 1 hg _, rel_G (rel_G R g 0 (by decide) _) g 1 (by decide) _⟩
theorem op_draw {h : Hst} (S : Sim h) (p0 p1 p2 : Int32) : Agree (f_L_draw p0 p1 p2 h) (f_X7_draw p0 p1 p2) := by
  obtain ⟨-, ⟨ng, nl, nt, I, R⟩, -⟩ := id S
  obtain ⟨⟨h8, -, h6⟩, ⟨i7, -, i9⟩, -⟩ := id I
  have z7 : h.1 18 7 = nI ng := (R.1 7 (by decide)).trans i7
  have z9 : h.1 18 9 = nI nt := (R.1 9 (by decide)).trans i9
  rcases idx p0 (n := ng) (by omega) with ⟨g, hg, rfl⟩ | b0
  · rcases idx p1 (n := nt) (by omega) with ⟨t, ht, rfl⟩ | b1
    · rcases isOil p2 with ⟨q, q1, q2, rfl, o', w⟩ | ⟨o', w⟩
      · have g8 : g < 8 := by omega
        have t6 : t < 6 := by omega
        have zg : h.1 18 (40 + g) = cGr (h.1 8) ⟨g, g8⟩ 0 := R.2.2.2.2.1 0 ⟨g, g8⟩
        have ok : ∀ {β : Type} (x : Option β), gck (40 + nI g) 514 x = x := fun x => by rw [show (40 : Int32) = nI 40 from rfl, nI_add, gck_nI (by omega) (by decide)]
        have cl : (40 + nI g).toNatClampNeg = 40 + g := by rw [show (40 : Int32) = nI 40 from rfl, nI_add, nI_clamp (by omega)]
        obtain ⟨o, o1, o2, o3, o4⟩ := TankI_o (I.2.2.2.2.2.2.2.2.2 ⟨t, t6⟩)
        have oC : ∀ H : Hst, f_X1_oilOf (nI t) H = some (oil5 (H.1 8) ⟨t, t6⟩, H) := fun H => oilOf ⟨t, t6⟩ H
        have oM : ∀ H : Hst, f_X7_oilOf (nI t) H = some (zoil5 (H.1 18) ⟨t, t6⟩, H) := fun H => oilOf7 ⟨t, t6⟩ H
        have gC : ∀ H : Hst, f_X5_get_2 (nI g) 0 H = some (cGr (H.1 8) ⟨g, g8⟩ 0, H) := fun H => get2_0 ⟨g, g8⟩ H
        by_cases a1 : cGr (h.1 8) ⟨g, g8⟩ 0 < nI q
        · refine agree_bad S (k := 3) (by decide) ?_ ?_
          · unfold f_L_draw f_X6_draw jb_X6_draw_42
            rw [checkGrower_gd h8 i7 hg, gbvx_inl, checkTank_gd h6 i9 ht, gbvx_inl, o', gbvx_inl, gC, gb_some, if_pos a1, gbx_inr]
            rfl
          · unfold f_X7_draw jb_X7_draw_54 jb_X7_draw_59
            rw [isGrower_gd h8 z7 hg, gb_some, if_neg (by decide), isTank_gd h6 z9 ht, gb_some, if_neg (by decide), w, gb_some, if_neg (by decide), ok, cl, zg, if_pos a1, gl_eq]
            show (if (3 : Int32) ≤ 0 then _ else _) = _
            rw [if_neg (by decide)]
        · by_cases a2 : q ≤ S5 o
          · have le2 : nI q ≤ nI (S5 o) := nI_le a2 (by omega)
            obtain ⟨N, n1, n2, n3, n4⟩ := split_both I R ⟨t, t6⟩ o o1 o2 o3 o4 q1 a2
            obtain ⟨hc, e, ee2, ef, K⟩ := undo_std S
            have e8 := ef 8 (by decide) (by decide)
            have e18 := ef 18 (by decide) (by decide)
            obtain ⟨hs, es, ss, vs⟩ := n3 hc e8
            have s8 : hs.1 8 = h.1 8 := (ss.2 8 (by decide) (by decide)).trans e8
            obtain ⟨I1, R1⟩ := take_both ⟨t, t6⟩ ht o N o4 n1 5 0 (h.1 8) (h.1 18) rfl I R (fun v _ => o1 v)
            obtain ⟨I2, R2⟩ := dv_both N 5 0 _ _ rfl I1 R1
            have D := draw_rel I2 R2 ⟨g, g8⟩ hg q
            have eC := draw_71 ⟨g, g8⟩ N q 5 0 FU (hso hs 8 (tkC ⟨t, t6⟩ N 5 0 (h.1 8))) rfl (by decide) (fun v => vs v)
            rw [hso_hso, hso_at, if_pos rfl] at eC
            have gz : zG (dvZ N 5 0 (tkZ ⟨t, t6⟩ N 5 0 (h.1 18))) 0 ⟨g, g8⟩ = cGr (dvC N 5 0 (tkC ⟨t, t6⟩ N 5 0 (h.1 8))) ⟨g, g8⟩ 0 := R2.2.2.2.2.1 0 ⟨g, g8⟩
            generalize hC : uGr (uGr (dvC N 5 0 (tkC ⟨t, t6⟩ N 5 0 (h.1 8))) ⟨g, g8⟩ 0 (cGr (dvC N 5 0 (tkC ⟨t, t6⟩ N 5 0 (h.1 8))) ⟨g, g8⟩ 0 + -nI q)) ⟨g, g8⟩ 1 (cGr (dvC N 5 0 (tkC ⟨t, t6⟩ N 5 0 (h.1 8))) ⟨g, g8⟩ 1 + nI q) = C at eC D
            generalize hA : cGr (dvC N 5 0 (tkC ⟨t, t6⟩ N 5 0 (h.1 8))) ⟨g, g8⟩ 0 + -nI q = A at eC
            have ec : f_L_draw (nI g) (nI t) (nI q) h = some (0, hsj (hso hs 8 C) 25 0 A.toInt64) := by
              unfold f_L_draw f_X6_draw f_X1_takeOut
              rw [checkGrower_gd h8 i7 hg, gbvx_inl, checkTank_gd h6 i9 ht, gbvx_inl, o', gbvx_inl, gC, gb_some, if_neg a1, oC, gb_some, o2, if_pos le2, e, gbv_some, es, gbv_some]
              have tk := takeOut_8 ⟨t, t6⟩ N 5 0 FU hs rfl (by decide) vs
              rw [s8] at tk
              rw [show (0 : Int32) = nI 0 from rfl, tk, gbv_some, eC, gbx_inl, show nI 0 = (0 : Int32) from rfl, gk_0_1, gl_eq, tn_0]
            obtain ⟨hm, em, m2, mf, mj, K2⟩ := K (hst (hsj (hso hs 8 C) 25 0 A.toInt64) 17 5 0) ⟨ss.2 0 (by decide) (by decide), ss.2 1 (by decide) (by decide), ss.2 9 (by decide) (by decide), ss.2 16 (by decide) (by decide), ss.2 19 (by decide) (by decide), ss.2 20 (by decide) (by decide), congrFun (ss.2 17 (by decide) (by decide)) 1, congrFun (ss.2 17 (by decide) (by decide)) 3⟩ (ss.2 18 (by decide) (by decide))
            have m18 : hm.1 18 = h.1 18 := by
              rw [mf 18 (by decide) (by decide)]
              show hs.1 18 = _
              rw [ss.2 18 (by decide) (by decide)]; exact e18
            have m8 : hm.1 8 = C := mf 8 (by decide) (by decide)
            obtain ⟨hl, el, sl, vl⟩ := n4 hm m18
            have l18 : hl.1 18 = h.1 18 := (sl.2 18 (by decide) (by decide)).trans m18
            have tk := takeShares_2 ⟨t, t6⟩ N 5 0 FU hl rfl (by decide) vl
            rw [l18] at tk
            have dr := draw_89 ⟨g, g8⟩ N q 5 0 FU (hso hl 18 (tkZ ⟨t, t6⟩ N 5 0 (h.1 18))) rfl (by decide) (fun v => vl v)
            rw [hso_hso, hso_at, if_pos rfl, gz, Int32.sub_eq_add_neg, hA] at dr
            rw [gz, Int32.sub_eq_add_neg, hA] at D
            refine agree_ok ec (h2 := hso hl 18 (wG (wG (dvZ N 5 0 (tkZ ⟨t, t6⟩ N 5 0 (h.1 18))) 0 ⟨g, g8⟩ A) 1 ⟨g, g8⟩ (zG (dvZ N 5 0 (tkZ ⟨t, t6⟩ N 5 0 (h.1 18))) 1 ⟨g, g8⟩ + nI q))) ?_ ?_ ?_ ?_
            · have zz : (hsj (hso hs 8 C) 25 0 A.toInt64).1 18 = h.1 18 := by
                show hs.1 18 = _
                rw [ss.2 18 (by decide) (by decide)]; exact e18
              unfold f_X7_draw jb_X7_draw_59 f_X7_takeShares
              rw [isGrower_gd h8 (by rw [zz]; exact z7) hg, gb_some, if_neg (by decide), isTank_gd h6 (by rw [zz]; exact z9) ht, gb_some, if_neg (by decide), w, gb_some, if_neg (by decide), ok, cl, zz, zg, if_neg a1, oM, gb_some, zz, zoil_eq R, o2, if_pos le2, gl_eq]
              show (if (0 : Int32) ≤ 0 then _ else _) = _
              rw [if_pos (by decide), em, gbv_some, el, gbv_some]
              rw [show (0 : Int32) = nI 0 from rfl, tk, gbv_some]
              exact dr
            · show hl.1 17 5 = 0
              rw [sl.2 17 (by decide) (by decide)]; exact mj 5 (by decide)
            · show hl.2 = _
              rw [sl.1, m2]; rfl
            · refine K2 _ ⟨sl.2 0 (by decide) (by decide), sl.2 1 (by decide) (by decide), sl.2 9 (by decide) (by decide), sl.2 16 (by decide) (by decide), sl.2 19 (by decide) (by decide), sl.2 20 (by decide) (by decide), congrFun (sl.2 17 (by decide) (by decide)) 1, congrFun (sl.2 17 (by decide) (by decide)) 3⟩ ?_
              show SimCZ (hl.1 8) _
              rw [sl.2 8 (by decide) (by decide), m8]
              exact D
          · have nle : ¬ nI q ≤ nI (S5 o) := nI_ge (by omega) (by omega)
            refine agree_bad S (k := 3) (by decide) ?_ ?_
            · unfold f_L_draw f_X6_draw jb_X6_draw_42
              rw [checkGrower_gd h8 i7 hg, gbvx_inl, checkTank_gd h6 i9 ht, gbvx_inl, o', gbvx_inl, gC, gb_some, if_neg a1, oC, gb_some, o2, if_neg nle, gbx_inr]
              rfl
            · unfold f_X7_draw jb_X7_draw_54 jb_X7_draw_59
              rw [isGrower_gd h8 z7 hg, gb_some, if_neg (by decide), isTank_gd h6 z9 ht, gb_some, if_neg (by decide), w, gb_some, if_neg (by decide), ok, cl, zg, if_neg a1, oM, gb_some, zoil_eq R, o2, if_neg nle, gl_eq]
              show (if (3 : Int32) ≤ 0 then _ else _) = _
              rw [if_neg (by decide)]
      · refine agree_bad S (k := 2) (by decide) ?_ ?_
        · unfold f_L_draw f_X6_draw
          rw [checkGrower_gd h8 i7 hg, gbvx_inl, checkTank_gd h6 i9 ht, gbvx_inl, o', gbvx_inr, gbx_inr]
          rfl
        · unfold f_X7_draw jb_X7_draw_59
          rw [isGrower_gd h8 z7 hg, gb_some, if_neg (by decide), isTank_gd h6 z9 ht, gb_some, if_neg (by decide), w, gb_some, if_pos rfl, gl_eq]
          show (if (2 : Int32) ≤ 0 then _ else _) = _
          rw [if_neg (by decide)]
    · refine agree_bad S (k := 1) (by decide) ?_ ?_
      · unfold f_L_draw f_X6_draw
        rw [checkGrower_gd h8 i7 hg, gbvx_inl, checkTank_bad i9 b1, gbvx_inr, gbx_inr]
        rfl
      · unfold f_X7_draw jb_X7_draw_17 jb_X7_draw_59
        rw [isGrower_gd h8 z7 hg, gb_some, if_neg (by decide), isTank_bad z9 b1, gb_some, if_pos rfl, gl_eq]
        show (if (1 : Int32) ≤ 0 then _ else _) = _
        rw [if_neg (by decide)]
  · refine agree_bad S (k := 1) (by decide) ?_ ?_
    · unfold f_L_draw f_X6_draw
      rw [checkGrower_bad i7 b0, gbvx_inr, gbx_inr]
      rfl
    · unfold f_X7_draw jb_X7_draw_17 jb_X7_draw_59
      rw [isGrower_bad z7 b0, gb_some, if_pos rfl, gl_eq]
      show (if (1 : Int32) ≤ 0 then _ else _) = _
      rw [if_neg (by decide)]
