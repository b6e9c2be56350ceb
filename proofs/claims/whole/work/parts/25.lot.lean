-- what an appeal would bring, and what is against it
def secV (c : Nat → Int32) (l : Fin 40) : Int32 := (cLo c l 7 - cLo c l 8) * cS c 2 / 1000
def roomV (c : Nat → Int32) (t : Fin 6) : Int32 := cTa c t 0 - oil5 c t
def dueV (c : Nat → Int32) (l : Fin 40) : Int32 := cLo c l 6 * cS c 1 / 1000 * (1000 - cS c 6) / 1000
theorem secondOilOf_v (l : Fin 40) (h : Hst) : f_X6_secondOilOf (nI l.val) h = some (secV (h.1 8) l, h) := by
  unfold f_X6_secondOilOf
  rw [get3_7, gb_some, get3_8, gb_some, gl_eq, row6_2, gb_some, gd_1000]
  rfl
theorem pressedZ {c z : Nat → Int32} {ng nl nt : Nat} (I : InvC c ng nl nt) (R : RelCZ c z nl) {l : Fin 40} (hl : l.val < nl) (h1 : cLo c l 5 = 1) : zL z l 4 = cLo c l 4 ∧ zL z l 6 = cLo c l 6 ∧ zL z l 7 = cLo c l 8 ∧ zL z l 9 = cLo c l 10 ∧ cLo c l 7 = cLo c l 6 * cLo c l 4 / 1000 ∧ ∃ t : Fin 6, t.val < nt ∧ cLo c l 10 = nI t.val := by
  obtain ⟨-, -, -, -, -, -, r7, -, r9⟩ := R
  have n0 : ¬ cLo c l 5 = 0 := by rw [h1]; decide
  obtain ⟨a, b, -, d⟩ := r9 l hl
  rw [if_neg n0] at a b d
  have Il := I.2.2.2.2.2.2.2.1 l hl
  obtain ⟨e, t⟩ := Il.2.2.2.2.2.2 n0
  exact ⟨r7 l 4, a, b, d, e, t⟩
theorem secondOf_v {c z : Nat → Int32} {ng nl nt : Nat} (I : InvC c ng nl nt) (R : RelCZ c z nl) {l : Fin 40} (hl : l.val < nl) (h1 : cLo c l 5 = 1) (h : Hst) (e : h.1 18 = z) : f_X7_secondOf (nI l.val) h = some (secV c l, h) := by
  obtain ⟨a, b, d, -, f, -⟩ := pressedZ I R hl h1
  have z2 : z 2 = cS c 2 := R.1 2 (by decide)
  unfold f_X7_secondOf f_X7_contentBy
  rw [ofLot_6, gb_some, ofLot_4, gb_some, gd_1000, gb_some, ofLot_7, gb_some, gk_2_514, gd_1000, tn_2, e, a, b, d, z2, ← f]
  rfl
theorem reasonAgainstAppeal_v {c z : Nat → Int32} {ng nl nt : Nat} (I : InvC c ng nl nt) (R : RelCZ c z nl) {l : Fin 40} (hl : l.val < nl) : ∃ v, (∀ h, h.1 8 = c → f_X6_reasonAgainstAppeal (nI l.val) h = some (v, h)) ∧ (∀ h, h.1 18 = z → f_X7_whyNoAppeal (nI l.val) h = some (v, h)) ∧ (v = 0 → cLo c l 5 = 1 ∧ ∀ t : Fin 6, cLo c l 10 = nI t.val → secV c l ≤ roomV c t) := by
  have z5 : zL z l 5 = cLo c l 5 := R.2.2.2.2.2.2.1 l 5
  have z1 : z 1 = cS c 1 := R.1 1 (by decide)
  have z6 : z 6 = cS c 6 := R.1 6 (by decide)
  by_cases h1 : cLo c l 5 = 1
  · obtain ⟨a, b, d, f, g, t, t1, t2⟩ := pressedZ I R hl h1
    by_cases h2 : cLo c l 8 < dueV c l
    · have rz : zT z t 0 - zoil5 z t = roomV c t := by
        rw [zoil_eq R t, R.2.2.2.2.2.1 t 0]; rfl
      refine ⟨if secV c l ≤ roomV c t then 0 else 3, fun h e => ?_, fun h e => ?_, fun q => ⟨h1, fun t' ht' => ?_⟩⟩
      · unfold f_X6_reasonAgainstAppeal
        have h2' : cLo c l 8 < cLo c l 6 * cS c 1 / 1000 * (1000 - cS c 6) / 1000 := h2
        rw [get3_5, gb_some, e, if_pos h1, get3_6, gb_some, row6_1, gb_some, gd_1000, gl_eq, get3_8, gb_some, row6_6, gb_some, gd_1000, e, if_pos h2', secondOilOf_v, gb_some, get3_10, gb_some, e, t2, roomOf, gb_some, e]
        show (if secV c l ≤ roomV c t then _ else _) = _
        split <;> rfl
      · unfold f_X7_whyNoAppeal jb_X7_whyNoAppeal_86
        rw [ofLot_5, gb_some, e, z5, if_pos h1, ofLot_6, gb_some, gk_1_514, gd_1000, gk_6_514, gd_1000, gl_eq, tn_1, tn_6, ofLot_7, gb_some, e, b, d, z1, z6]
        have h2' : cLo c l 8 < cLo c l 6 * cS c 1 / 1000 * (1000 - cS c 6) / 1000 := h2
        rw [if_pos h2', secondOf_v I R hl h1 h e, gb_some, ofLot_9, gb_some, e, f, t2, roomIn, gb_some, e, rz]
        split <;> rfl
      · have : t = t' := Fin.ext (nI_inj (by have := t.isLt; omega) (by have := t'.isLt; omega) (t2.symm.trans ht'))
        subst this
        by_cases w : secV c l ≤ roomV c t
        · exact w
        · rw [if_neg w] at q; exact absurd q (by decide)
    · refine ⟨2, fun h e => ?_, fun h e => ?_, fun q => absurd q (by decide)⟩
      · unfold f_X6_reasonAgainstAppeal
        have h2' : ¬ cLo c l 8 < cLo c l 6 * cS c 1 / 1000 * (1000 - cS c 6) / 1000 := h2
        rw [get3_5, gb_some, e, if_pos h1, get3_6, gb_some, row6_1, gb_some, gd_1000, gl_eq, get3_8, gb_some, row6_6, gb_some, gd_1000, e, if_neg h2']
      · unfold f_X7_whyNoAppeal jb_X7_whyNoAppeal_86
        rw [ofLot_5, gb_some, e, z5, if_pos h1, ofLot_6, gb_some, gk_1_514, gd_1000, gk_6_514, gd_1000, gl_eq, tn_1, tn_6, ofLot_7, gb_some, e, b, d, z1, z6]
        have h2' : ¬ cLo c l 8 < cLo c l 6 * cS c 1 / 1000 * (1000 - cS c 6) / 1000 := h2
        rw [if_neg h2']
  · refine ⟨1, fun h e => ?_, fun h e => ?_, fun q => absurd q (by decide)⟩
    · unfold f_X6_reasonAgainstAppeal
      rw [get3_5, gb_some, e, if_neg h1]
    · unfold f_X7_whyNoAppeal
      rw [ofLot_5, gb_some, e, z5, if_neg h1]
theorem fin11 : ∀ k : Fin 11, k = 0 ∨ k = 1 ∨ k = 2 ∨ k = 3 ∨ k = 4 ∨ k = 5 ∨ k = 6 ∨ k = 7 ∨ k = 8 ∨ k = 9 ∨ k = 10 := by decide
theorem ifPressed_v (l : Fin 40) (t : Int32) (k : Fin 11) (h : Hst) : f_X6_ifPressed (nI l.val) t (nI k.val) h = some (if cLo (h.1 8) l 5 < t then -1 else cLo (h.1 8) l k, h) := by
  unfold f_X6_ifPressed jb_X6_ifPressed_32
  rw [get3_5, gb_some, get3, gb_some]
  split <;> rfl
theorem getV_lot {c z : Nat → Int32} {ng nl nt : Nat} (I : InvC c ng nl nt) (R : RelCZ c z nl) (s : Int32) (l : Fin 40) (hl : l.val < nl) (k : Fin 11) : GetV c z s (f_X6_lot (nI l.val) (nI k.val)) (f_X7_lotNow (nI l.val) (nI k.val)) := by
  obtain ⟨⟨-, h40, -⟩, ⟨-, i8, -⟩, -⟩ := id I
  have cc : ∀ h : Hst, h.1 8 = c → f_X6_checkLot (nI l.val) h = some (.inl h) := fun h e => checkLot_gd h40 (by rw [e]; exact i8) hl
  have Il := I.2.2.2.2.2.2.2.1 l hl
  obtain ⟨-, -, -, c3, -, ⟨n5, c5, e5⟩, -⟩ := id Il
  have r7 := R.2.2.2.2.2.2.1 l
  obtain ⟨q6, q7, q8, q9⟩ := R.2.2.2.2.2.2.2.2 l hl
  have lt1 : cLo c l 5 < 1 ↔ cLo c l 5 = 0 := by
    rw [e5]
    have a1 : nI n5 < 1 ↔ n5 < 1 := nI_ltI (b := 1) (by omega) (by decide)
    have a2 : nI n5 = 0 ↔ n5 = 0 := nI_eq (b := 0) (by omega) (by decide)
    rw [a1, a2]; omega
  have lt2 : cLo c l 5 < 2 ↔ ¬ cLo c l 5 = 2 := by
    rw [e5]
    have a1 : nI n5 < 2 ↔ n5 < 2 := nI_ltI (b := 2) (by omega) (by decide)
    have a2 : nI n5 = 2 ↔ n5 = 2 := nI_eq (b := 2) (by omega) (by decide)
    rw [a1, a2]; omega
  rcases fin11 k with rfl | rfl | rfl | rfl | rfl | rfl | rfl | rfl | rfl | rfl | rfl
  · refine getV_pure (cLo c l 0) (fun h e _ => ?_) (fun h e _ => ?_)
    · unfold f_X6_lot
      rw [cc h e, gbvx_inl, if_pos (by decide), get3_0, gb_some, e]
    · unfold f_X7_lotNow jb_X7_lotNow_45
      rw [if_neg (by decide), show nI (0 : Fin 11).val = nI (0 : Fin 10).val from rfl, ofLot, gb_some, e]
      exact congrArg (fun x => some (x, h)) (r7 0)
  · refine getV_pure (cLo c l 1) (fun h e _ => ?_) (fun h e _ => ?_)
    · unfold f_X6_lot
      rw [cc h e, gbvx_inl, if_neg (by decide), if_pos (by decide), get3_1, gb_some, e]
    · unfold f_X7_lotNow jb_X7_lotNow_45
      rw [if_neg (by decide), show nI (1 : Fin 11).val = nI (1 : Fin 10).val from rfl, ofLot, gb_some, e]
      exact congrArg (fun x => some (x, h)) (r7 1)
  · refine getV_pure (cLo c l 2) (fun h e _ => ?_) (fun h e _ => ?_)
    · unfold f_X6_lot
      rw [cc h e, gbvx_inl, if_neg (by decide), if_neg (by decide), if_pos (by decide), get3_2, gb_some, e]
    · unfold f_X7_lotNow jb_X7_lotNow_45
      rw [if_neg (by decide), show nI (2 : Fin 11).val = nI (2 : Fin 10).val from rfl, ofLot, gb_some, e]
      exact congrArg (fun x => some (x, h)) (r7 2)
  · refine getV_pure (cLo c l 3) (fun h e _ => ?_) (fun h e _ => ?_)
    · unfold f_X6_lot
      rw [cc h e, gbvx_inl, if_neg (by decide), if_neg (by decide), if_neg (by decide), if_pos (by decide), get3_3, gb_some, e]
    · unfold f_X7_lotNow jb_X7_lotNow_45
      rw [if_neg (by decide), show nI (3 : Fin 11).val = nI (3 : Fin 10).val from rfl, ofLot, gb_some, e]
      exact congrArg (fun x => some (x, h)) (r7 3)
  · refine getV_pure (gl3 (cLo c l 3)) (fun h e _ => ?_) (fun h e _ => ?_)
    · unfold f_X6_lot
      rw [cc h e, gbvx_inl, if_neg (by decide), if_neg (by decide), if_neg (by decide), if_neg (by decide), if_pos (by decide), gradeOfLot, gb_some, e]
    · unfold f_X7_lotNow jb_X7_lotNow_45
      have e3 : zL (h.1 18) l 3 = cLo c l 3 := by rw [e]; exact r7 3
      rw [if_pos (by decide), if_pos (by decide), gradeOfLot7 l h (by rw [e3]; exact c3), gb_some, e3]
  · refine getV_pure (cLo c l 5) (fun h e _ => ?_) (fun h e _ => ?_)
    · unfold f_X6_lot
      rw [cc h e, gbvx_inl, if_neg (by decide), if_neg (by decide), if_neg (by decide), if_neg (by decide), if_neg (by decide), if_pos (by decide), get3_5, gb_some, e]
    · unfold f_X7_lotNow jb_X7_lotNow_45
      rw [if_pos (by decide), if_neg (by decide), if_neg (by decide), show nI (5 : Fin 11).val = nI (5 : Fin 10).val from rfl, ofLot, gb_some, e]
      exact congrArg (fun x => some (x, h)) (r7 5)
  · refine getV_pure (if cLo c l 5 < 1 then -1 else cLo c l 6) (fun h e _ => ?_) (fun h e _ => ?_)
    · unfold f_X6_lot
      have := ifPressed_v l 1 6 h
      rw [show nI (6 : Fin 11).val = (6 : Int32) from rfl] at this
      rw [cc h e, gbvx_inl, if_neg (by decide), if_neg (by decide), if_neg (by decide), if_neg (by decide), if_neg (by decide), if_neg (by decide), if_pos (by decide), this, gb_some, e]
    · unfold f_X7_lotNow jb_X7_lotNow_45
      rw [if_pos (by decide), if_neg (by decide), if_neg (by decide), show nI (6 : Fin 11).val = nI (6 : Fin 10).val from rfl, ofLot, gb_some, e]
      rw [q6]
      by_cases w : cLo c l 5 = 0
      · rw [if_pos w, if_pos (lt1.mpr w)]
      · rw [if_neg w, if_neg (fun x => w (lt1.mp x))]
  · refine getV_pure (if cLo c l 5 < 1 then -1 else cLo c l 8) (fun h e _ => ?_) (fun h e _ => ?_)
    · unfold f_X6_lot
      have := ifPressed_v l 1 8 h
      rw [show nI (8 : Fin 11).val = (8 : Int32) from rfl] at this
      rw [cc h e, gbvx_inl, if_neg (by decide), if_neg (by decide), if_neg (by decide), if_neg (by decide), if_neg (by decide), if_neg (by decide), if_neg (by decide), if_pos (by decide), this, gb_some, e]
    · unfold f_X7_lotNow jb_X7_lotNow_45
      rw [if_pos (by decide), if_neg (by decide), if_neg (by decide), show nI (7 : Fin 11).val = nI (7 : Fin 10).val from rfl, ofLot, gb_some, e]
      rw [q7]
      by_cases w : cLo c l 5 = 0
      · rw [if_pos w, if_pos (lt1.mpr w)]
      · rw [if_neg w, if_neg (fun x => w (lt1.mp x))]
  · refine getV_pure (if cLo c l 5 < 2 then -1 else cLo c l 9) (fun h e _ => ?_) (fun h e _ => ?_)
    · unfold f_X6_lot
      have := ifPressed_v l 2 9 h
      rw [show nI (9 : Fin 11).val = (9 : Int32) from rfl] at this
      rw [cc h e, gbvx_inl, if_neg (by decide), if_neg (by decide), if_neg (by decide), if_neg (by decide), if_neg (by decide), if_neg (by decide), if_neg (by decide), if_neg (by decide), if_pos (by decide), this, gb_some, e]
    · unfold f_X7_lotNow jb_X7_lotNow_45
      rw [if_pos (by decide), if_neg (by decide), if_neg (by decide), show nI (8 : Fin 11).val = nI (8 : Fin 10).val from rfl, ofLot, gb_some, e]
      rw [q8]
      by_cases w : cLo c l 5 = 2
      · rw [if_pos w, if_neg (fun x => lt2.mp x w)]
      · rw [if_neg w, if_pos (lt2.mpr w)]
  · refine getV_pure (if cLo c l 5 < 1 then -1 else cLo c l 10) (fun h e _ => ?_) (fun h e _ => ?_)
    · unfold f_X6_lot
      have := ifPressed_v l 1 10 h
      rw [show nI (10 : Fin 11).val = (10 : Int32) from rfl] at this
      rw [cc h e, gbvx_inl, if_neg (by decide), if_neg (by decide), if_neg (by decide), if_neg (by decide), if_neg (by decide), if_neg (by decide), if_neg (by decide), if_neg (by decide), if_neg (by decide), if_pos (by decide), this, gb_some, e]
    · unfold f_X7_lotNow jb_X7_lotNow_45
      rw [if_pos (by decide), if_neg (by decide), if_neg (by decide), show nI (9 : Fin 11).val = nI (9 : Fin 10).val from rfl, ofLot, gb_some, e]
      rw [q9]
      by_cases w : cLo c l 5 = 0
      · rw [if_pos w, if_pos (lt1.mpr w)]
      · rw [if_neg w, if_neg (fun x => w (lt1.mp x))]
  · obtain ⟨v, v1, v2, -⟩ := reasonAgainstAppeal_v I R hl
    refine getV_pure v (fun h e _ => ?_) (fun h e _ => ?_)
    · unfold f_X6_lot
      rw [cc h e, gbvx_inl, if_neg (by decide), if_neg (by decide), if_neg (by decide), if_neg (by decide), if_neg (by decide), if_neg (by decide), if_neg (by decide), if_neg (by decide), if_neg (by decide), if_neg (by decide), if_pos (by decide), v1 h e, gb_some]
    · unfold f_X7_lotNow jb_X7_lotNow_45
      rw [if_pos (by decide), if_neg (by decide), if_pos (by decide), v2 h e, gb_some]
theorem op_lot {h : Hst} (S : Sim h) (p0 p1 : Int32) : Agree (f_L_lot p0 p1 h) (f_X7_lot p0 p1) := by
  obtain ⟨-, ⟨ng, nl, nt, I, R⟩, -⟩ := id S
  obtain ⟨⟨-, h40, -⟩, ⟨-, i8, -⟩, -⟩ := id I
  have z8 : h.1 18 8 = nI nl := (R.1 8 (by decide)).trans i8
  rcases idx p0 (n := nl) (by omega) with ⟨l, hl, rfl⟩ | b0
  · rcases idx p1 (n := 11) (by decide) with ⟨k, hk, rfl⟩ | b1
    · refine agree_get S (getV_lot I R (h.1 1 9) ⟨l, by omega⟩ hl ⟨k, hk⟩) rfl (fun H e => ?_)
      unfold f_X7_lot jb_X7_lot_28 jb_X7_lot_48
      rw [isLot_gd h40 (by rw [e]; exact z8) hl, gb_some, if_neg (by decide), show (10 : Int32) = nI 11 - 1 from rfl, within_gd hk (by decide), gb_some, if_neg (by decide), gl_eq]
      show (if (0 : Int32) ≤ 0 then _ else _) = _
      rw [if_pos (by decide), gb_eta]
    · refine agree_bad S (k := 2) (by decide) ?_ ?_
      · unfold f_L_lot f_X6_lot
        rw [checkLot_gd h40 i8 hl, gbvx_inl, if_neg (b1.nq 0 0 rfl (by decide) (by decide)), if_neg (b1.nq 1 1 rfl (by decide) (by decide)), if_neg (b1.nq 2 2 rfl (by decide) (by decide)), if_neg (b1.nq 3 3 rfl (by decide) (by decide)), if_neg (b1.nq 4 4 rfl (by decide) (by decide)), if_neg (b1.nq 5 5 rfl (by decide) (by decide)), if_neg (b1.nq 6 6 rfl (by decide) (by decide)), if_neg (b1.nq 7 7 rfl (by decide) (by decide)), if_neg (b1.nq 8 8 rfl (by decide) (by decide)), if_neg (b1.nq 9 9 rfl (by decide) (by decide)), if_neg (b1.nq 10 10 rfl (by decide) (by decide)), gbx_inr]
        rfl
      · unfold f_X7_lot jb_X7_lot_28 jb_X7_lot_48
        rw [isLot_gd h40 z8 hl, gb_some, if_neg (by decide), show (10 : Int32) = nI 11 - 1 from rfl, within_bad b1, gb_some, if_pos rfl, gl_eq]
        show (if (2 : Int32) ≤ 0 then _ else _) = _
        rw [if_neg (by decide)]
  · refine agree_bad S (k := 1) (by decide) ?_ ?_
    · unfold f_L_lot f_X6_lot
      rw [checkLot_bad i8 b0, gbvx_inr, gbx_inr]
      rfl
    · unfold f_X7_lot jb_X7_lot_28 jb_X7_lot_48
      rw [isLot_bad z8 b0, gb_some, if_pos rfl, gl_eq]
      show (if (1 : Int32) ≤ 0 then _ else _) = _
      rw [if_neg (by decide)]
