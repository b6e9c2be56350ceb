theorem hso_hso (h : Hst) (o : Nat) (f g : Nat → Int32) : hso (hso h o f) o g = hso h o g := by
  unfold hso
  congr 1
  funext k
  by_cases e : k = o
  · simp only [e, if_true]
  · simp only [e, if_false]
theorem fin6 : ∀ k : Fin 6, k = 0 ∨ k = 1 ∨ k = 2 ∨ k = 3 ∨ k = 4 ∨ k = 5 := by decide
def addC (c : Nat → Int32) (l : Fin 40) (p0 p1 p2 p3 p4 x : Int32) : Nat → Int32 := uS (uLo (uLo (uLo (uLo (uLo c l 0 p0) l 1 p1) l 2 p2) l 3 p3) l 4 p4) 8 x
def addZ (z : Nat → Int32) (l : Fin 40) (p0 p1 p2 p3 p4 x : Int32) : Nat → Int32 :=
  wL (wL (wL (wL (wL (wL (wL (wL (wL (wL (wS z 8 x) l 0 p0) l 1 p1) l 2 p2) l 3 p3) l 4 p4) l 5 0) l 6 (-1)) l 7 (-1)) l 8 (-1)) l 9 (-1)
theorem sim_addLot {c z : Nat → Int32} {ng nl nt : Nat} (I : InvC c ng nl nt) (R : RelCZ c z nl) (l : Fin 40) (hl : l.val = nl) (g : Fin 8) (hg : g.val < ng) (v : Fin 5) {p0 p1 p2 p3 p4 x : Int32} (e0 : p0 = nI g.val) (e1 : p1 = nI v.val) (e2 : isN p2 2000) (e3 : isN p3 50) (e4 : isN p4 1500) (ex : x = nI (nl + 1)) :
    InvC (addC c l p0 p1 p2 p3 p4 x) ng (nl + 1) nt ∧ RelCZ (addC c l p0 p1 p2 p3 p4 x) (addZ z l p0 p1 p2 p3 p4 x) (nl + 1) := by
  obtain ⟨⟨a1, a2, a3⟩, ⟨b1, b2, b3⟩, c1, d, e, f, r1, r2, r3, r4⟩ := I
  have z5 := r1 l (by omega)
  have ll := l.isLt
  have hS : ∀ i, cS (addC c l p0 p1 p2 p3 p4 x) i = if i = 8 then x else cS c i := fun i => by simp only [addC, cS_uS, cS_uLo]
  have hV : ∀ i k, cVa (addC c l p0 p1 p2 p3 p4 x) i k = cVa c i k := fun i k => by simp only [addC, cVa_uS, cVa_uLo]
  have hG : ∀ i k, cGr (addC c l p0 p1 p2 p3 p4 x) i k = cGr c i k := fun i k => by simp only [addC, cGr_uS, cGr_uLo]
  have hT : ∀ i k, cTa (addC c l p0 p1 p2 p3 p4 x) i k = cTa c i k := fun i k => by simp only [addC, cTa_uS, cTa_uLo]
  have hL : ∀ i k, i ≠ l → cLo (addC c l p0 p1 p2 p3 p4 x) i k = cLo c i k := fun i k hi => by simp only [addC, cLo_uS, cLo_uLo, hi, false_and, if_false]
  have h0 : cLo (addC c l p0 p1 p2 p3 p4 x) l 0 = p0 := by simp [addC, cLo_uS, cLo_uLo]
  have h1 : cLo (addC c l p0 p1 p2 p3 p4 x) l 1 = p1 := by simp [addC, cLo_uS, cLo_uLo]
  have h2 : cLo (addC c l p0 p1 p2 p3 p4 x) l 2 = p2 := by simp [addC, cLo_uS, cLo_uLo]
  have h3 : cLo (addC c l p0 p1 p2 p3 p4 x) l 3 = p3 := by simp [addC, cLo_uS, cLo_uLo]
  have h4 : cLo (addC c l p0 p1 p2 p3 p4 x) l 4 = p4 := by simp [addC, cLo_uS, cLo_uLo]
  have h5 : cLo (addC c l p0 p1 p2 p3 p4 x) l 5 = 0 := by simp [addC, cLo_uS, cLo_uLo, z5]
  refine ⟨⟨⟨a1, by omega, a3⟩, ⟨by rw [hS, if_neg (by decide)]; exact b1, by rw [hS, if_pos rfl]; exact ex, by rw [hS, if_neg (by decide)]; exact b3⟩, ?_, ?_, fun v => by rw [hV]; exact e v, fun g hg k => by rw [hG]; exact f g hg k, fun l' hl' k => ?_, fun l' hl' => ?_, fun t ht k => by rw [hT]; exact r3 t ht k, fun t => ?_⟩, ?_⟩
  · simp only [hS]; exact c1
  · simp only [hS]; exact d
  · rw [hL l' k (fun q => by rw [q] at hl'; omega)]; exact r1 l' (by omega) k
  · by_cases q : l' = l
    · subst q
      simp only [LotI, h0, h1, h2, h3, h4, h5]
      exact ⟨⟨g, hg, e0⟩, ⟨v, e1⟩, e2, e3, e4, ⟨0, by omega, rfl⟩, fun q => absurd rfl q⟩
    · have := r2 l' (by have : l'.val ≠ l.val := fun w => q (Fin.ext w)
                        omega)
      simp only [LotI, hL l' _ q]; exact this
  · have := r4 t
    simp only [TankI, hT]; exact this
  · obtain ⟨s1, s2, s3, s4, s5, s6, s7, s8, s9⟩ := R
    have gS : ∀ i, zS (addZ z l p0 p1 p2 p3 p4 x) i = if i = 8 then x else zS z i := fun i => by simp only [addZ, zS_wS, zS_wL]
    have gV : ∀ i k, zV (addZ z l p0 p1 p2 p3 p4 x) i k = zV z i k := fun i k => by simp only [addZ, zV_wS, zV_wL]
    have gG : ∀ i k, zG (addZ z l p0 p1 p2 p3 p4 x) i k = zG z i k := fun i k => by simp only [addZ, zG_wS, zG_wL]
    have gT : ∀ i k, zT (addZ z l p0 p1 p2 p3 p4 x) i k = zT z i k := fun i k => by simp only [addZ, zT_wS, zT_wL]
    have gL : ∀ i k, i ≠ l → zL (addZ z l p0 p1 p2 p3 p4 x) i k = zL z i k := fun i k hi => by simp only [addZ, zL_wS, zL_wL, hi, false_and, if_false]
    refine ⟨fun i hi => ?_, ?_, ?_, ?_, ?_, ?_, ?_, ?_, ?_⟩
    · rw [gS, hS]
      by_cases q : i = 8
      · subst q; rfl
      · have q' : ¬ (⟨i.val, by omega⟩ : Fin 15) = 8 := fun w => q (by have w' := congrArg Fin.val w; exact Fin.ext w')
        rw [if_neg q', if_neg q]; exact s1 i hi
    · rw [gS, if_neg (show ¬ (10 : Fin 15) = 8 by decide), hS 11, if_neg (show ¬ (11 : Fin 14) = 8 by decide), hS 10, if_neg (show ¬ (10 : Fin 14) = 8 by decide)]; exact s2
    · rw [gS, if_neg (by decide)]; simp only [hG]; exact s3
    · intro k v; rw [gV, hV]; exact s4 k v
    · intro k g; rw [gG, hG]; exact s5 k g
    · intro t k; rw [gT, hT]; exact s6 t k
    · intro l' k
      by_cases q : l' = l
      · subst q
        rcases fin6 k with rfl | rfl | rfl | rfl | rfl | rfl
        · exact (by simp [addZ, zL_wS, zL_wL] : zL (addZ z l' p0 p1 p2 p3 p4 x) l' 0 = p0).trans h0.symm
        · exact (by simp [addZ, zL_wS, zL_wL] : zL (addZ z l' p0 p1 p2 p3 p4 x) l' 1 = p1).trans h1.symm
        · exact (by simp [addZ, zL_wS, zL_wL] : zL (addZ z l' p0 p1 p2 p3 p4 x) l' 2 = p2).trans h2.symm
        · exact (by simp [addZ, zL_wS, zL_wL] : zL (addZ z l' p0 p1 p2 p3 p4 x) l' 3 = p3).trans h3.symm
        · exact (by simp [addZ, zL_wS, zL_wL] : zL (addZ z l' p0 p1 p2 p3 p4 x) l' 4 = p4).trans h4.symm
        · exact (by simp [addZ, zL_wS, zL_wL] : zL (addZ z l' p0 p1 p2 p3 p4 x) l' 5 = 0).trans h5.symm
      · rw [gL l' _ q, hL l' _ q]; exact s7 l' k
    · intro l' hl' k
      rw [gL l' _ (fun q => by rw [q] at hl'; omega)]; exact s8 l' (by omega) k
    · intro l' hl'
      by_cases q : l' = l
      · subst q
        rw [h5]
        simp [addZ, zL_wS, zL_wL]
      · rw [gL l' _ q, gL l' _ q, gL l' _ q, gL l' _ q, hL l' _ q, hL l' _ q, hL l' _ q, hL l' _ q, hL l' _ q]
        exact s9 l' (by have : l'.val ≠ l.val := fun w => q (Fin.ext w)
                        omega)
theorem enterLot {h : Hst} (l : Fin 40) (e : cS (h.1 8) 8 = nI l.val) (p0 p1 p2 p3 p4 : Int32) : f_X6_enterLot p0 p1 p2 p3 p4 h = some (nI l.val, hso h 8 (addC (h.1 8) l p0 p1 p2 p3 p4 (nI (l.val + 1)))) := by
  unfold f_X6_enterLot
  simp only [row7_1, gb_some, e, put3_0, put3_1, put3_2, put3_3, put3_4, gbv_some, hso_hso, rowa7_1, hso_at, if_true, cS_uLo, nI_1]
  rfl
theorem putLot74 (n : Nat) (i : Fin 40) (h : Hst) : lp_X7_putLot_74 (n + 5) (nI i.val) 6 h = some (nI i.val, hso h 18 (wL (wL (wL (wL (h.1 18) i 6 (-1)) i 7 (-1)) i 8 (-1)) i 9 (-1))) := by
  simp [lp_X7_putLot_74, setLot_6, setLot_7, setLot_8, setLot_9, gbv_some, hso_hso, hso_at]
theorem FU5 : FU = 4091 + 5 := rfl
def addZ0 (z : Nat → Int32) (l : Fin 40) (p0 p1 p2 p3 p4 x : Int32) : Nat → Int32 := wL (wL (wL (wL (wL (wL (wS z 8 x) l 0 p0) l 1 p1) l 2 p2) l 3 p3) l 4 p4) l 5 0
theorem setLot_on (i : Fin 40) (k : Fin 10) (x : Int32) (h : Hst) (f : Nat → Int32) : f_X7_setLot (nI i.val) (nI k.val) x (hso h 18 f) = some (hso h 18 (wL f i k x)) := by
  rw [setLot, hso_hso, hso_at, if_pos rfl]
theorem hst_8 (h : Hst) (x : Int32) : hst h 18 8 x = hso h 18 (wS (h.1 18) 8 x) := rfl
theorem putLotA {h : Hst} (l : Fin 40) (e : h.1 18 8 = nI l.val) (p0 p1 p2 p3 p4 : Int32) : f_X7_putLot p0 p1 p2 p3 p4 h = lp_X7_putLot_74 FU (nI l.val) 6 (hso h 18 (addZ0 (h.1 18) l p0 p1 p2 p3 p4 (nI (l.val + 1)))) := by
  unfold f_X7_putLot
  rw [gk_8_514, gl_eq, gk_8_514, gk_8_514, gl_eq, tn_8, e, nI_1, hst_8]
  rw [show f_X7_setLot (nI l.val) 0 p0 (hso h 18 (wS (h.1 18) 8 (nI (l.val + 1)))) = _ from setLot_on l 0 p0 h _, gbv_some]
  rw [show f_X7_setLot (nI l.val) 1 p1 (hso h 18 _) = _ from setLot_on l 1 p1 h _, gbv_some]
  rw [show f_X7_setLot (nI l.val) 2 p2 (hso h 18 _) = _ from setLot_on l 2 p2 h _, gbv_some]
  rw [show f_X7_setLot (nI l.val) 3 p3 (hso h 18 _) = _ from setLot_on l 3 p3 h _, gbv_some]
  rw [show f_X7_setLot (nI l.val) 4 p4 (hso h 18 _) = _ from setLot_on l 4 p4 h _, gbv_some]
  rw [show f_X7_setLot (nI l.val) 5 0 (hso h 18 _) = _ from setLot_on l 5 0 h _, gbv_some]
  rfl
theorem putLot {h : Hst} (l : Fin 40) (e : h.1 18 8 = nI l.val) (p0 p1 p2 p3 p4 : Int32) : f_X7_putLot p0 p1 p2 p3 p4 h = some (nI l.val, hso h 18 (addZ (h.1 18) l p0 p1 p2 p3 p4 (nI (l.val + 1)))) := by
  rw [putLotA l e, FU5, putLot74, hso_hso, hso_at, if_pos rfl]
  rfl
/-- a lot's other arguments: all good, or refused by both -/
theorem slip_ok (p1 p2 p3 p4 : Int32) :
    ((∃ v : Fin 5, p1 = nI v.val) ∧ isN p2 2000 ∧ isN p3 50 ∧ isN p4 1500 ∧ (∀ p0 h, f_X7_refusedLot p0 p1 p2 p3 p4 h = jb_X7_refusedLot_48 p0 1 h) ∧
      ∀ p0 h, f_X6_checkGrower p0 h = some (.inl h) → f_X6_addLot p0 p1 p2 p3 p4 h = gb (f_X3_get_7 1 h) fun x11 h10 => if x11 < 40 then gbv (f_X0_save h10) fun h12 => gb (f_X6_enterLot p0 p1 p2 p3 p4 h12) fun x14 h13 => some (.inl (x14, h13)) else some (.inr (2, h10))) ∨
    ((∀ p0 h, f_X7_refusedLot p0 p1 p2 p3 p4 h = jb_X7_refusedLot_48 p0 0 h) ∧ ∀ p0 h, f_X6_checkGrower p0 h = some (.inl h) → f_X6_addLot p0 p1 p2 p3 p4 h = some (.inr (1, h))) := by
  have n1 : (1 : Int32) = nI 1 := rfl
  have n2 : (2000 : Int32) = nI 2000 := rfl
  have n3 : (0 : Int32) = nI 0 := rfl
  have n4 : (50 : Int32) = nI 50 := rfl
  have n5 : (500 : Int32) = nI 500 := rfl
  have n6 : (1500 : Int32) = nI 1500 := rfl
  have B2 := bounds p2 1 2000 (by decide) (by decide)
  have B3 := bounds p3 0 50 (by decide) (by decide)
  have B4 := bounds p4 500 1500 (by decide) (by decide)
  rw [← n1, ← n2] at B2
  rw [← n3, ← n4] at B3
  rw [← n5, ← n6] at B4
  rcases idx p1 (n := 5) (by decide) with ⟨v, hv, rfl⟩ | b1
  · rcases B2 with ⟨k, k1, k2, rfl, o2, w2⟩ | ⟨o2, w2⟩
    · rcases B3 with ⟨a, a1, a2, rfl, o3, w3⟩ | ⟨o3, w3⟩
      · rcases B4 with ⟨t, t1, t2, rfl, o4, w4⟩ | ⟨o4, w4⟩
        · refine Or.inl ⟨⟨⟨v, hv⟩, rfl⟩, ⟨k, k2, rfl⟩, ⟨a, a2, rfl⟩, ⟨t, t2, rfl⟩, fun p0 h => ?_, fun p0 h hc => ?_⟩
          · unfold f_X7_refusedLot
            simp only [isVariety7_gd hv, gb_some, w2, w3, w4]; rfl
          · unfold f_X6_addLot
            simp only [hc, gbvx_inl, isVariety_gd hv, gb_some, o2, o3, o4]; rfl
        · refine Or.inr ⟨fun p0 h => ?_, fun p0 h hc => ?_⟩
          · unfold f_X7_refusedLot jb_X7_refusedLot_47
            simp only [isVariety7_gd hv, gb_some, w2, w3, w4]; rfl
          · unfold f_X6_addLot jb_X6_addLot_48
            simp only [hc, gbvx_inl, isVariety_gd hv, gb_some, o2, o3, o4]; rfl
      · refine Or.inr ⟨fun p0 h => ?_, fun p0 h hc => ?_⟩
        · unfold f_X7_refusedLot jb_X7_refusedLot_47
          simp only [isVariety7_gd hv, gb_some, w2, w3]; rfl
        · unfold f_X6_addLot jb_X6_addLot_48
          simp only [hc, gbvx_inl, isVariety_gd hv, gb_some, o2, o3]; rfl
    · refine Or.inr ⟨fun p0 h => ?_, fun p0 h hc => ?_⟩
      · unfold f_X7_refusedLot jb_X7_refusedLot_47
        simp only [isVariety7_gd hv, gb_some, w2]; rfl
      · unfold f_X6_addLot jb_X6_addLot_48
        simp only [hc, gbvx_inl, isVariety_gd hv, gb_some, o2]; rfl
  · refine Or.inr ⟨fun p0 h => ?_, fun p0 h hc => ?_⟩
    · unfold f_X7_refusedLot jb_X7_refusedLot_47
      simp only [isVariety7_bad b1, gb_some]; rfl
    · unfold f_X6_addLot jb_X6_addLot_48
      simp only [hc, gbvx_inl, isVariety_bad b1, gb_some]; rfl
theorem op_addLot {h : Hst} (S : Sim h) (p0 p1 p2 p3 p4 : Int32) : Agree (f_L_addLot p0 p1 p2 p3 p4 h) (f_X7_addLot p0 p1 p2 p3 p4) := by
  obtain ⟨-, ⟨ng, nl, nt, I, R⟩, -⟩ := id S
  obtain ⟨⟨hg, hl, ht⟩, ⟨i7, i8, i9⟩, -⟩ := id I
  have z7 : h.1 18 7 = nI ng := (R.1 7 (by decide)).trans i7
  have z8 : h.1 18 8 = nI nl := (R.1 8 (by decide)).trans i8
  -- a refusal, by its number
  have no : ∀ (E : Nat) (k : Int32), f_X6_addLot p0 p1 p2 p3 p4 h = some (.inr (E, h)) → (E = 0 ∧ k = 1 ∨ E = 1 ∧ k = 2 ∨ E = 2 ∧ k = 3) → f_X7_refusedLot p0 p1 p2 p3 p4 h = some (k, h) → Agree (f_L_addLot p0 p1 p2 p3 p4 h) (f_X7_addLot p0 p1 p2 p3 p4) := by
    intro E k ec hE er
    refine agree_no (k := k) (h1 := h) (h2 := hst h 17 5 k) ?_ ?_ ?_ rfl (S.keep ⟨rfl, rfl, rfl, rfl, rfl, rfl, rfl, rfl⟩ rfl rfl)
    · unfold f_L_addLot
      rw [ec, gbx_inr]
      rcases hE with ⟨rfl, rfl⟩ | ⟨rfl, rfl⟩ | ⟨rfl, rfl⟩ <;> rfl
    · rcases hE with ⟨rfl, rfl⟩ | ⟨rfl, rfl⟩ | ⟨rfl, rfl⟩ <;> decide
    · unfold f_X7_addLot
      rw [er, gb_some, gl_eq]
      show (if k ≤ 0 then _ else _) = _
      rw [if_neg]
      rcases hE with ⟨rfl, rfl⟩ | ⟨rfl, rfl⟩ | ⟨rfl, rfl⟩ <;> decide
  rcases idx p0 (n := ng) (by omega) with ⟨g, hgn, rfl⟩ | b0
  · have ck : f_X6_checkGrower (nI g) h = some (.inl h) := checkGrower_gd hg i7 hgn
    rcases slip_ok p1 p2 p3 p4 with ⟨⟨v, ev⟩, e2, e3, e4, er, ea⟩ | ⟨er, ea⟩
    · by_cases hlt : nl < 40
      · obtain ⟨hc, e, ee2, ef, K⟩ := undo_std S
        have e8 := ef 8 (by decide) (by decide)
        have e18 := ef 18 (by decide) (by decide)
        have ec : f_L_addLot (nI g) p1 p2 p3 p4 h = some (0, hsj (hso hc 8 (addC (hc.1 8) ⟨nl, hlt⟩ (nI g) p1 p2 p3 p4 (nI (nl + 1)))) 25 0 (nI nl).toInt64) := by
          unfold f_L_addLot
          rw [ea _ _ ck, row7_1, gb_some, i8, if_pos (show nI nl < 40 from nI_lt (b := 40) hlt (by decide)), e, gbv_some, enterLot ⟨nl, hlt⟩ (by rw [e8]; exact i8), gb_some, gbx_inl, gk_0_1, gl_eq, tn_0]
        obtain ⟨hm, em, m2, mf, mj, K2⟩ := K (hst (hsj (hso hc 8 (addC (hc.1 8) ⟨nl, hlt⟩ (nI g) p1 p2 p3 p4 (nI (nl + 1)))) 25 0 (nI nl).toInt64) 17 5 0) ⟨rfl, rfl, rfl, rfl, rfl, rfl, rfl, rfl⟩ rfl
        have m18 : hm.1 18 = h.1 18 := (mf 18 (by decide) (by decide)).trans e18
        have m8 : hm.1 8 = addC (h.1 8) ⟨nl, hlt⟩ (nI g) p1 p2 p3 p4 (nI (nl + 1)) := by
          rw [mf 8 (by decide) (by decide)]
          show addC (hc.1 8) _ _ _ _ _ _ _ = _
          rw [e8]
        refine agree_ok ec (h2 := hso hm 18 (addZ (hm.1 18) ⟨nl, hlt⟩ (nI g) p1 p2 p3 p4 (nI (nl + 1)))) ?_ (mj 5 (by decide)) m2 ?_
        · unfold f_X7_addLot
          rw [er]
          unfold jb_X7_refusedLot_48 jb_X7_refusedLot_88
          rw [isGrower_gd hg (show _ = nI ng by rw [← z7, ← e18]; rfl) hgn, gb_some, if_neg (by decide), if_neg (by decide), gk_8_514, tn_8, if_neg (show ¬ (hsj (hso hc 8 (addC (hc.1 8) ⟨nl, hlt⟩ (nI g) p1 p2 p3 p4 (nI (nl + 1)))) 25 0 (nI nl).toInt64).1 18 8 = 40 from fun z => by
            have z' : hc.1 18 8 = 40 := z
            rw [e18, z8] at z'
            exact absurd (nI_inj (by omega) (by decide) (show nI nl = nI 40 from z')) (by omega)), gb_some, gl_eq]
          show (if (0 : Int32) ≤ 0 then _ else _) = _
          rw [if_pos (by decide), em, gbv_some, putLot ⟨nl, hlt⟩ (by rw [m18]; exact z8), gb_some]
        · refine K2 _ ⟨rfl, rfl, rfl, rfl, rfl, rfl, rfl, rfl⟩ ?_
          show SimCZ (hm.1 8) (addZ (hm.1 18) _ _ _ _ _ _ _)
          rw [m8, m18]
          obtain ⟨I', R'⟩ := sim_addLot I R ⟨nl, hlt⟩ rfl ⟨g, by omega⟩ hgn v (p0 := nI g) rfl ev e2 e3 e4 (x := nI (nl + 1)) rfl
          exact ⟨ng, nl + 1, nt, I', R'⟩
      · have e40 : nl = 40 := by omega
        subst e40
        refine no 2 3 ?_ (Or.inr (Or.inr ⟨rfl, rfl⟩)) ?_
        · rw [ea _ _ ck, row7_1, gb_some, i8, if_neg (show ¬ nI 40 < 40 by decide)]
        · rw [er]
          unfold jb_X7_refusedLot_48 jb_X7_refusedLot_88
          rw [isGrower_gd hg z7 hgn, gb_some, if_neg (by decide), if_neg (by decide), gk_8_514, tn_8, z8]
          rfl
    · refine no 1 2 (ea _ _ ck) (Or.inr (Or.inl ⟨rfl, rfl⟩)) ?_
      rw [er]
      unfold jb_X7_refusedLot_48 jb_X7_refusedLot_88
      rw [isGrower_gd hg z7 hgn, gb_some, if_neg (by decide), if_pos rfl]
  · refine no 0 1 ?_ (Or.inl ⟨rfl, rfl⟩) ?_
    · unfold f_X6_addLot
      rw [checkGrower_bad i7 b0, gbvx_inr]
    · rcases slip_ok p1 p2 p3 p4 with ⟨-, -, -, -, er, -⟩ | ⟨er, -⟩
      · rw [er]
        unfold jb_X7_refusedLot_48 jb_X7_refusedLot_88
        rw [isGrower_bad z7 b0, gb_some, if_pos rfl]
      · rw [er]
        unfold jb_X7_refusedLot_48 jb_X7_refusedLot_88
        rw [isGrower_bad z7 b0, gb_some, if_pos rfl]
