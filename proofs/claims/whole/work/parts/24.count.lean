theorem cntF_all : ∀ (f : Nat → Bool) (m i a : Nat), (∀ j, i ≤ j → j < i + m → f j = true) → cntF f m i (nI a) = nI (a + m)
  | _, 0, _, _, _ => rfl
  | f, m + 1, i, a, h => by
    rw [cntF, if_pos (h i (by omega) (by omega)), nI_1, cntF_all f m (i + 1) (a + 1) (fun j x y => h j (by omega) (by omega)), show a + 1 + m = a + (m + 1) by omega]
theorem lotsOf_all {c z : Nat → Int32} {ng nl nt : Nat} (I : InvC c ng nl nt) (R : RelCZ c z nl) (h : Hst) (e : h.1 18 = z) : f_X7_lotsOf (-1) (-1) 0 h = some (cS c 8, h) := by
  obtain ⟨⟨-, hl, -⟩, ⟨-, i8, -⟩, -⟩ := I
  have z8 : z 8 = nI nl := (R.1 8 (by decide)).trans i8
  unfold f_X7_lotsOf
  have := lotsOf_6 hl z8 (-1) (-1) 0 (fun _ => true) (fun l _ => ⟨fun _ => ⟨Or.inl rfl, Or.inl rfl, Or.inl rfl⟩, fun _ => rfl⟩) nl 0 FU 0 h e (by omega) (Nat.lt_of_le_of_lt hl (by decide))
  rw [show nI 0 = (0 : Int32) from rfl] at this
  rw [this, show (0 : Int32) = nI 0 from rfl, cntF_all _ nl 0 0 (fun _ _ _ => rfl), i8, Nat.zero_add]
theorem getV_count {c z : Nat → Int32} {ng nl nt : Nat} (I : InvC c ng nl nt) (R : RelCZ c z nl) (s : Int32) (k : Fin 13) : GetV c z s (f_X6_count (nI k.val)) (f_X7_counted (nI k.val)) := by
  have zs : ∀ i : Fin 14, i ≠ 10 → z (0 + i.val) = cS c i := fun i hi => R.1 i hi
  have r14 : z 14 = sum8 (fun g => cGr c g 2) := R.2.2.1
  have hT : ∀ t, TankI c t := I.2.2.2.2.2.2.2.2.2
  have lg : ∀ l : Fin 40, l.val < nl → (((0 : Int32) = 0 ∨ cLo c l 5 = 0) ∧ cLo c l 5 = 0 ↔ ((-1 : Int32) = -1 ∨ cLo c l 0 = -1) ∧ ((-1 : Int32) = -1 ∨ cLo c l 1 = -1) ∧ ((1 : Int32) = 0 ∨ cLo c l 5 = 0)) := fun l _ =>
    ⟨fun ⟨_, q⟩ => ⟨Or.inl rfl, Or.inl rfl, Or.inr q⟩, fun ⟨_, _, p⟩ => ⟨Or.inl rfl, p.elim (fun w => absurd w (by decide)) id⟩⟩
  have lc : ∀ h, h.1 8 = c → f_X6_lotsWith 5 0 0 h = some (cntF (fLots c 5 0 0) nl 0 0, h) := fun h e => lotsWith_v I 5 0 0 h e
  rcases fin13 k with rfl | rfl | rfl | rfl | rfl | rfl | rfl | rfl | rfl | rfl | rfl | rfl | rfl
  · refine getV_pure (cS c 7) (fun h e _ => ?_) (fun h e _ => ?_)
    · unfold f_X6_count
      rw [if_pos (by decide), row7_0, gb_some, e]
    · unfold f_X7_counted
      rw [if_pos (by decide), gk_7_514, tn_7, e]
      exact congrArg (fun x => some (x, h)) (zs 7 (by decide))
  · refine getV_pure (cS c 8) (fun h e _ => ?_) (fun h e _ => ?_)
    · unfold f_X6_count
      rw [if_neg (by decide), if_pos (by decide), row7_1, gb_some, e]
    · unfold f_X7_counted jb_X7_counted_85
      rw [if_neg (by decide), if_pos (by decide), if_neg (by decide), gb_eta, lotsOf_all I R h e]
  · refine getV_pure (cntF (fLots c 5 0 0) nl 0 0) (fun h e _ => ?_) (fun h e _ => ?_)
    · unfold f_X6_count
      rw [if_neg (by decide), if_neg (by decide), if_pos (by decide), lc h e, gb_some]
    · unfold f_X7_counted jb_X7_counted_85
      rw [if_neg (by decide), if_neg (by decide), if_pos (by decide), if_pos (by decide), gb_eta, lotsOf_v I R _ _ _ 5 0 0 lg h e]
  · refine getV_pure (cS c 9) (fun h e _ => ?_) (fun h e _ => ?_)
    · unfold f_X6_count
      rw [if_neg (by decide), if_neg (by decide), if_neg (by decide), if_pos (by decide), row7_2, gb_some, e]
    · unfold f_X7_counted
      rw [if_neg (by decide), if_neg (by decide), if_neg (by decide), if_pos (by decide), gk_9_514, tn_9, e]
      exact congrArg (fun x => some (x, h)) (zs 9 (by decide))
  · refine getV_pure (z 10) (fun h e _ => ?_) (fun h e _ => ?_)
    · unfold f_X6_count
      rw [if_neg (by decide), if_neg (by decide), if_neg (by decide), if_neg (by decide), if_pos (by decide), residueVariety_v I R h e, gb_some]
    · unfold f_X7_counted
      rw [if_neg (by decide), if_neg (by decide), if_neg (by decide), if_neg (by decide), if_pos (by decide), show (10 : Int32) + nI (4 : Fin 13).val - 4 = 10 by decide, gk_10_514, tn_10, e]
  · refine getV_pure (cS c 11) (fun h e _ => ?_) (fun h e _ => ?_)
    · unfold f_X6_count
      rw [if_neg (by decide), if_neg (by decide), if_neg (by decide), if_neg (by decide), if_neg (by decide), if_pos (by decide), row7_4, gb_some, e]
    · unfold f_X7_counted
      rw [if_neg (by decide), if_neg (by decide), if_neg (by decide), if_neg (by decide), if_neg (by decide), if_pos (by decide), show (10 : Int32) + nI (5 : Fin 13).val - 4 = 11 by decide, gk_11_514, tn_11, e]
      exact congrArg (fun x => some (x, h)) (zs 11 (by decide))
  · refine getV_pure (cS c 12) (fun h e _ => ?_) (fun h e _ => ?_)
    · unfold f_X6_count
      rw [if_neg (by decide), if_neg (by decide), if_neg (by decide), if_neg (by decide), if_neg (by decide), if_neg (by decide), if_pos (by decide), row7_5, gb_some, e]
    · unfold f_X7_counted
      rw [if_neg (by decide), if_neg (by decide), if_neg (by decide), if_neg (by decide), if_neg (by decide), if_neg (by decide), if_pos (by decide), show (10 : Int32) + nI (6 : Fin 13).val - 4 = 12 by decide, gk_12_514, tn_12, e]
      exact congrArg (fun x => some (x, h)) (zs 12 (by decide))
  · refine getV_pure (cS c 13) (fun h e _ => ?_) (fun h e _ => ?_)
    · unfold f_X6_count
      rw [if_neg (by decide), if_neg (by decide), if_neg (by decide), if_neg (by decide), if_neg (by decide), if_neg (by decide), if_neg (by decide), if_pos (by decide), row7_6, gb_some, e]
    · unfold f_X7_counted
      rw [if_neg (by decide), if_neg (by decide), if_neg (by decide), if_neg (by decide), if_neg (by decide), if_neg (by decide), if_neg (by decide), if_pos (by decide), show (10 : Int32) + nI (7 : Fin 13).val - 4 = 13 by decide, gk_13_514, tn_13, e]
      exact congrArg (fun x => some (x, h)) (zs 13 (by decide))
  · refine getV_pure (sumF (lft (oil5 c)) 6 0 0) (fun h e _ => ?_) (fun h e _ => ?_)
    · unfold f_X6_count
      rw [if_neg (by decide), if_neg (by decide), if_neg (by decide), if_neg (by decide), if_neg (by decide), if_neg (by decide), if_neg (by decide), if_neg (by decide), if_pos (by decide), allOil_v, gb_some, e]
    · unfold f_X7_counted
      rw [if_neg (by decide), if_neg (by decide), if_neg (by decide), if_neg (by decide), if_neg (by decide), if_neg (by decide), if_neg (by decide), if_neg (by decide), if_pos (by decide), sumOil_v I R 0 h e, gb_some]
      rfl
  · refine getV_pure (sumF (lft (fun g => cGr c g 0)) 8 0 0) (fun h e _ => ?_) (fun h e _ => ?_)
    · unfold f_X6_count
      have : f_X6_sumOfGrowers 0 h = some (sumF (lft (fun g => cGr (h.1 8) g 0)) 8 0 0, h) := sumOfGrowers_v 0 h
      rw [if_neg (by decide), if_neg (by decide), if_neg (by decide), if_neg (by decide), if_neg (by decide), if_neg (by decide), if_neg (by decide), if_neg (by decide), if_neg (by decide), if_pos (by decide), this, gb_some, e]
    · unfold f_X7_counted
      rw [if_neg (by decide), if_neg (by decide), if_neg (by decide), if_neg (by decide), if_neg (by decide), if_neg (by decide), if_neg (by decide), if_neg (by decide), if_neg (by decide), if_pos (by decide), accounts_v I R h e, gb_some]
  · refine getV_pure (sumF (lft (og c 1)) 6 0 0) (fun h e _ => ?_) (fun h e _ => ?_)
    · unfold f_X6_count f_X1_oilOfGrade
      have := oilOfGrade_4 hT 6 0 FU 0 h e rfl (by decide)
      rw [show nI 0 = (0 : Int32) from rfl] at this
      rw [if_neg (by decide), if_neg (by decide), if_neg (by decide), if_neg (by decide), if_neg (by decide), if_neg (by decide), if_neg (by decide), if_neg (by decide), if_neg (by decide), if_neg (by decide), if_pos (by decide), this, gb_some]
    · unfold f_X7_counted
      rw [if_neg (by decide), if_neg (by decide), if_neg (by decide), if_neg (by decide), if_neg (by decide), if_neg (by decide), if_neg (by decide), if_neg (by decide), if_neg (by decide), if_neg (by decide), if_pos (by decide), sumOil_v I R 1 h e, gb_some]
  · refine getV_pure (sum8 (fun g => cGr c g 2)) (fun h e _ => ?_) (fun h e _ => ?_)
    · unfold f_X6_count
      have := sumOfGrowers_v 2 h
      rw [if_neg (by decide), if_neg (by decide), if_neg (by decide), if_neg (by decide), if_neg (by decide), if_neg (by decide), if_neg (by decide), if_neg (by decide), if_neg (by decide), if_neg (by decide), if_neg (by decide), if_pos (by decide), show (2 : Int32) = nI (2 : Fin 4).val from rfl, this, gb_some, e]
      rfl
    · unfold f_X7_counted
      rw [if_neg (by decide), if_neg (by decide), if_neg (by decide), if_neg (by decide), if_neg (by decide), if_neg (by decide), if_neg (by decide), if_neg (by decide), if_neg (by decide), if_neg (by decide), if_neg (by decide), if_pos (by decide), gk_14_514, tn_14, e, r14]
  · refine getV_pure s (fun h e q => ?_) (fun h e q => ?_)
    · unfold f_X6_count
      rw [if_neg (by decide), if_neg (by decide), if_neg (by decide), if_neg (by decide), if_neg (by decide), if_neg (by decide), if_neg (by decide), if_neg (by decide), if_neg (by decide), if_neg (by decide), if_neg (by decide), if_neg (by decide), if_pos (by decide), q]
    · unfold f_X7_counted
      rw [if_neg (by decide), if_neg (by decide), if_neg (by decide), if_neg (by decide), if_neg (by decide), if_neg (by decide), if_neg (by decide), if_neg (by decide), if_neg (by decide), if_neg (by decide), if_neg (by decide), if_neg (by decide), q]
theorem op_count {h : Hst} (S : Sim h) (p0 : Int32) : Agree (f_L_count p0 h) (f_X7_count p0) := by
  obtain ⟨-, ⟨ng, nl, nt, I, R⟩, -⟩ := id S
  rcases idx p0 (n := 13) (by decide) with ⟨k, hk, rfl⟩ | b1
  · refine agree_get S (getV_count I R (h.1 1 9) ⟨k, hk⟩) rfl (fun H e => ?_)
    unfold f_X7_count jb_X7_count_16 jb_X7_count_35
    rw [show (12 : Int32) = nI 13 - 1 from rfl, within_gd hk (by decide), gb_some, if_neg (by decide), gl_eq]
    show (if (0 : Int32) ≤ 0 then _ else _) = _
    rw [if_pos (by decide), gb_eta]
  · refine agree_bad S (k := 1) (by decide) ?_ ?_
    · unfold f_L_count f_X6_count
      rw [if_neg (b1.nq 0 0 rfl (by decide) (by decide)), if_neg (b1.nq 1 1 rfl (by decide) (by decide)), if_neg (b1.nq 2 2 rfl (by decide) (by decide)), if_neg (b1.nq 3 3 rfl (by decide) (by decide)), if_neg (b1.nq 4 4 rfl (by decide) (by decide)), if_neg (b1.nq 5 5 rfl (by decide) (by decide)), if_neg (b1.nq 6 6 rfl (by decide) (by decide)), if_neg (b1.nq 7 7 rfl (by decide) (by decide)), if_neg (b1.nq 8 8 rfl (by decide) (by decide)), if_neg (b1.nq 9 9 rfl (by decide) (by decide)), if_neg (b1.nq 10 10 rfl (by decide) (by decide)), if_neg (b1.nq 11 11 rfl (by decide) (by decide)), if_neg (b1.nq 12 12 rfl (by decide) (by decide)), gbx_inr]
      rfl
    · unfold f_X7_count jb_X7_count_16 jb_X7_count_35
      rw [show (12 : Int32) = nI 13 - 1 from rfl, within_bad b1, gb_some, if_pos rfl, gl_eq]
      show (if (1 : Int32) ≤ 0 then _ else _) = _
      rw [if_neg (by decide)]
