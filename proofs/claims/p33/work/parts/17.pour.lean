def pourC (c : Nat → Int32) (t : Fin 6) (v : Fin 5) (x g : Int32) : Nat → Int32 := if x ≤ 0 then c else uTa (uTa c t 1 (if grd (oil5 c t) (cTa c t 1) < g then g else grd (oil5 c t) (cTa c t 1))) t (ts v) (cTa c t (ts v) + x)
theorem ts_ne1 (v : Fin 5) : ¬ ts v = 1 := fun z => by have := congrArg Fin.val z; simp only [ts] at this; revert this; show ¬ 2 + v.val = 1; omega
theorem ts_ne0 (v : Fin 5) : ¬ ts v = 0 := fun z => by have := congrArg Fin.val z; simp only [ts] at this; revert this; show ¬ 2 + v.val = 0; omega
theorem cTa_1v (c : Nat → Int32) (t : Fin 6) (v : Fin 5) (x : Int32) : cTa (uTa c t 1 x) t (ts v) = cTa c t (ts v) := by
  rw [cTa_uTa, if_neg (fun z => ts_ne1 v z.2)]
theorem pour_C (t : Fin 6) (v : Fin 5) (x g : Int32) (h : Hst) (hT : TankI (h.1 8) t) : f_X1_pour (nI t.val) (nI v.val) x g h = some (hso h 8 (pourC (h.1 8) t v x g)) := by
  unfold f_X1_pour jb_X1_pour_41 pourC
  by_cases hx : x ≤ 0
  · rw [if_pos hx, if_pos hx, hso_self]
  · rw [if_neg hx, if_neg hx, gradeOf t hT, gb_some, put4_1, gbv_some, add4_v, gbv_some, hso_hso, hso_at, if_pos rfl, cTa_1v]
theorem i_max (a b : Int32) : (if a < b then b else a) = if a ≤ b then b else a := by
  by_cases h : a < b
  · rw [if_pos h, if_pos (Int32.le_of_lt h)]
  · by_cases h2 : a ≤ b
    · rw [if_neg h, if_pos h2]; exact Int32.le_antisymm h2 (Int32.not_lt.mp h)
    · rw [if_neg h, if_neg h2]
theorem TankI_1 {c : Nat → Int32} {t : Fin 6} (h : TankI c t) (x : Int32) : TankI (uTa c t 1 x) t := by
  obtain ⟨s, o0, o1, o2, o3, o4, h1, h2, e0, e2, e3, e4, e5, e6⟩ := h
  refine ⟨s, o0, o1, o2, o3, o4, h1, h2, ?_⟩
  simp only [cTa_uTa]
  exact ⟨e0, e2, e3, e4, e5, e6⟩
theorem oil5_1 (c : Nat → Int32) (t t' : Fin 6) (x : Int32) : oil5 (uTa c t 1 x) t' = oil5 c t' := by
  unfold oil5
  simp only [cTa_uTa, show ¬ (2 : Fin 7) = 1 by decide, show ¬ (3 : Fin 7) = 1 by decide, show ¬ (4 : Fin 7) = 1 by decide, show ¬ (5 : Fin 7) = 1 by decide, show ¬ (6 : Fin 7) = 1 by decide, and_false, if_false]
theorem TankI_inc {c : Nat → Int32} {t : Fin 6} (h : TankI c t) (v : Fin 5) {n : Nat} (hn : nI n ≤ roomV c t) (hb : n < 2 ^ 31) : TankI (uTa c t (ts v) (cTa c t (ts v) + nI n)) t := by
  obtain ⟨s, o0, o1, o2, o3, o4, h1, h2, e0, e2, e3, e4, e5, e6⟩ := h
  have er : roomV c t = nI (s - (o0 + o1 + o2 + o3 + o4)) := by
    unfold roomV oil5
    rw [e0, e2, e3, e4, e5, e6, show (0 : Int32) = nI 0 from rfl, nI_add, nI_add, nI_add, nI_add, nI_add, Nat.zero_add, pk_sub h2]
  have le : n ≤ s - (o0 + o1 + o2 + o3 + o4) := by
    rw [er] at hn
    exact Nat.not_lt.mp (fun w => nI_ge w hb hn)
  rcases fin5 v with rfl | rfl | rfl | rfl | rfl
  · refine ⟨s, o0 + n, o1, o2, o3, o4, h1, by omega, ?_⟩
    rw [show ts 0 = 2 from rfl, e2]
    simp only [cTa_uTa]
    exact ⟨e0, nI_add o0 n, e3, e4, e5, e6⟩
  · refine ⟨s, o0, o1 + n, o2, o3, o4, h1, by omega, ?_⟩
    rw [show ts 1 = 3 from rfl, e3]
    simp only [cTa_uTa]
    exact ⟨e0, e2, nI_add o1 n, e4, e5, e6⟩
  · refine ⟨s, o0, o1, o2 + n, o3, o4, h1, by omega, ?_⟩
    rw [show ts 2 = 4 from rfl, e4]
    simp only [cTa_uTa]
    exact ⟨e0, e2, e3, nI_add o2 n, e5, e6⟩
  · refine ⟨s, o0, o1, o2, o3 + n, o4, h1, by omega, ?_⟩
    rw [show ts 3 = 5 from rfl, e5]
    simp only [cTa_uTa]
    exact ⟨e0, e2, e3, e4, nI_add o3 n, e6⟩
  · refine ⟨s, o0, o1, o2, o3, o4 + n, h1, by omega, ?_⟩
    rw [show ts 4 = 6 from rfl, e6]
    simp only [cTa_uTa]
    exact ⟨e0, e2, e3, e4, e5, nI_add o4 n⟩
theorem roomV_1 (c : Nat → Int32) (t t' : Fin 6) (x : Int32) : roomV (uTa c t 1 x) t' = roomV c t' := by
  unfold roomV
  rw [oil5_1, cTa_uTa, if_neg (fun w => absurd w.2 (by decide))]
theorem roomV_N {c : Nat → Int32} {t : Fin 6} (h : TankI c t) : ∃ r : Nat, r ≤ 20000 ∧ roomV c t = nI r := by
  obtain ⟨o, s, h1, h2, e, e'⟩ := oil5_N h
  exact ⟨s - o, by omega, by unfold roomV; rw [e, e', pk_sub h1]⟩
theorem pos_N {x : Int32} (h : ¬ x ≤ 0) : ∃ n : Nat, n ≠ 0 ∧ n < 2 ^ 31 ∧ x = nI n := by
  have h1 : 0 < x.toInt := by
    have := Int32.lt_iff_toInt_lt.mp (Int32.not_le.mp h)
    exact this
  have h2 := x.toInt_lt
  refine ⟨x.toInt.toNat, by omega, by omega, ?_⟩
  apply Int32.toInt_inj.mp
  rw [nI_toInt (by omega)]
  omega
theorem inv_pour {c : Nat → Int32} {ng nl nt : Nat} (I : InvC c ng nl nt) (t : Fin 6) (ht : t.val < nt) (v : Fin 5) (x g : Int32) (hx : x ≤ roomV c t) : InvC (pourC c t v x g) ng nl nt := by
  have T := I.2.2.2.2.2.2.2.2.2 t
  unfold pourC
  by_cases h0 : x ≤ 0
  · rw [if_pos h0]; exact I
  · rw [if_neg h0]
    obtain ⟨n, -, n1, rfl⟩ := pos_N h0
    have I1 := inv_T I t 1 ht (if grd (oil5 c t) (cTa c t 1) < g then g else grd (oil5 c t) (cTa c t 1)) (TankI_1 T _)
    refine inv_T I1 t (ts v) ht _ ?_
    have := TankI_inc (TankI_1 T (if grd (oil5 c t) (cTa c t 1) < g then g else grd (oil5 c t) (cTa c t 1))) v (n := n) (by rw [roomV_1]; exact hx) n1
    rw [cTa_1v] at this
    exact this
theorem cGr_pour (c : Nat → Int32) (t : Fin 6) (v : Fin 5) (x g : Int32) (i : Fin 8) (k : Fin 4) : cGr (pourC c t v x g) i k = cGr c i k := by
  unfold pourC; split
  · rfl
  · rw [cGr_uTa, cGr_uTa]
theorem cLo_pour (c : Nat → Int32) (t : Fin 6) (v : Fin 5) (x g : Int32) (i : Fin 40) (k : Fin 11) : cLo (pourC c t v x g) i k = cLo c i k := by
  unfold pourC; split
  · rfl
  · rw [cLo_uTa, cLo_uTa]
theorem cVa_pour (c : Nat → Int32) (t : Fin 6) (v : Fin 5) (x g : Int32) (i k : Fin 5) : cVa (pourC c t v x g) i k = cVa c i k := by
  unfold pourC; split
  · rfl
  · rw [cVa_uTa, cVa_uTa]
theorem cS_pour (c : Nat → Int32) (t : Fin 6) (v : Fin 5) (x g : Int32) (i : Fin 14) : cS (pourC c t v x g) i = cS c i := by
  unfold pourC; split
  · rfl
  · rw [cS_uTa, cS_uTa]
theorem cTa_pour_congr {c c' : Nat → Int32} (e : ∀ t k, cTa c t k = cTa c' t k) (t : Fin 6) (v : Fin 5) (x g : Int32) (i : Fin 6) (k : Fin 7) : cTa (pourC c t v x g) i k = cTa (pourC c' t v x g) i k := by
  unfold pourC; split
  · exact e i k
  · have eo : oil5 c t = oil5 c' t := by simp only [oil5, e]
    rw [cTa_uTa, cTa_uTa, cTa_uTa, cTa_uTa, eo, e t 1, e t (ts v), e i k]
theorem oil5_inc (c : Nat → Int32) (t : Fin 6) (v : Fin 5) (x : Int32) : oil5 (uTa c t (ts v) (cTa c t (ts v) + x)) t = oil5 c t + x := by
  unfold oil5
  rcases fin5 v with rfl | rfl | rfl | rfl | rfl
  · rw [show ts 0 = 2 from rfl]
    simp only [cTa_uTa]
    show 0 + (cTa c t 2 + x) + cTa c t 3 + cTa c t 4 + cTa c t 5 + cTa c t 6 = _
    ac_rfl
  · rw [show ts 1 = 3 from rfl]
    simp only [cTa_uTa]
    show 0 + cTa c t 2 + (cTa c t 3 + x) + cTa c t 4 + cTa c t 5 + cTa c t 6 = _
    ac_rfl
  · rw [show ts 2 = 4 from rfl]
    simp only [cTa_uTa]
    show 0 + cTa c t 2 + cTa c t 3 + (cTa c t 4 + x) + cTa c t 5 + cTa c t 6 = _
    ac_rfl
  · rw [show ts 3 = 5 from rfl]
    simp only [cTa_uTa]
    show 0 + cTa c t 2 + cTa c t 3 + cTa c t 4 + (cTa c t 5 + x) + cTa c t 6 = _
    ac_rfl
  · rw [show ts 4 = 6 from rfl]
    simp only [cTa_uTa]
    show 0 + cTa c t 2 + cTa c t 3 + cTa c t 4 + cTa c t 5 + (cTa c t 6 + x) = _
    ac_rfl
theorem roomV_pour (c : Nat → Int32) (t : Fin 6) (v : Fin 5) {n : Nat} (hn : n < 2 ^ 31) (g : Int32) : roomV (pourC c t v (nI n) g) t = roomV c t - nI n := by
  unfold pourC
  by_cases h0 : n = 0
  · subst h0
    rw [if_pos (show nI 0 ≤ 0 by decide)]
    show _ = roomV c t - 0
    rw [Int32.sub_zero]
  · rw [if_neg (nI_nle (by omega) hn)]
    have e : cTa c t (ts v) = cTa (uTa c t 1 (if grd (oil5 c t) (cTa c t 1) < g then g else grd (oil5 c t) (cTa c t 1))) t (ts v) := (cTa_1v _ _ _ _).symm
    rw [e]
    unfold roomV
    rw [oil5_inc, oil5_1, cTa_uTa, if_neg (fun w => ts_ne0 v w.2.symm), cTa_uTa, if_neg (fun w => absurd w.2 (by decide)), Int32.sub_eq_add_neg, Int32.neg_add, Int32.sub_eq_add_neg, ← Int32.add_assoc, ← Int32.sub_eq_add_neg, ← Int32.sub_eq_add_neg]
theorem roomV_lo (c : Nat → Int32) (v : Fin 5) (L : Nat) (t : Fin 6) : roomV (loC c v L) t = roomV c t := by
  unfold roomV oil5
  simp only [cTa_lo]
