-- pouring
def pourC (c : Nat → Int32) (t : Fin 6) (v : Fin 5) (x g : Int32) : Nat → Int32 := if x ≤ 0 then c else uTa (uTa c t 1 (if grd (oil5 c t) (cTa c t 1) < g then g else grd (oil5 c t) (cTa c t 1))) t (ts v) (cTa c t (ts v) + x)
def pourZ (z : Nat → Int32) (t : Fin 6) (v : Fin 5) (x g : Int32) : Nat → Int32 := if x ≤ 0 then z else wT (wT z t 1 (if grd (zoil5 z t) (zT z t 1) ≤ g then g else grd (zoil5 z t) (zT z t 1))) t (ts v) (zT z t (ts v) + x)
theorem ts_ne1 (v : Fin 5) : ¬ ts v = 1 := fun z => by have := congrArg Fin.val z; simp only [ts] at this; revert this; show ¬ 2 + v.val = 1; omega
theorem ts_ne0 (v : Fin 5) : ¬ ts v = 0 := fun z => by have := congrArg Fin.val z; simp only [ts] at this; revert this; show ¬ 2 + v.val = 0; omega
theorem cTa_1v (c : Nat → Int32) (t : Fin 6) (v : Fin 5) (x : Int32) : cTa (uTa c t 1 x) t (ts v) = cTa c t (ts v) := by
  rw [cTa_uTa, if_neg (fun z => ts_ne1 v z.2)]
theorem pour_C (t : Fin 6) (v : Fin 5) (x g : Int32) (h : Hst) (hT : TankI (h.1 8) t) : f_X1_pour (nI t.val) (nI v.val) x g h = some (hso h 8 (pourC (h.1 8) t v x g)) := by
  unfold f_X1_pour jb_X1_pour_41 pourC
  by_cases hx : x ≤ 0
  · rw [if_pos hx, if_pos hx, hso_self]
  · rw [if_neg hx, if_neg hx, gradeOf t hT, gb_some, put4_1, gbv_some, add4_v, gbv_some, hso_hso, hso_at, if_pos rfl, cTa_1v]
theorem pour_M (t : Fin 6) (v : Fin 5) (x g : Int32) (h : Hst) : f_X7_pour (nI t.val) (nI v.val) x g h = some (hso h 18 (pourZ (h.1 18) t v x g)) := by
  have l1 := t.isLt
  have l2 := v.isLt
  have s39 : ∀ y, jb_X7_pour_39 (nI t.val) (nI v.val) x y ((472 + (7 * nI t.val)) + 1) h = some (hso h 18 (wT (wT (h.1 18) t 1 y) t (ts v) (zT (h.1 18) t (ts v) + x))) := fun y => by
    unfold jb_X7_pour_39 jb_X7_pour_61
    have i1 : (472 : Int32) + 7 * nI t.val + 1 = nI (472 + 7 * t.val + 1) := by
      show nI 472 + nI 7 * nI t.val + nI 1 = _
      rw [pk_mul, nI_add, nI_add]
    have i2 : (472 : Int32) + 7 * nI t.val + 2 + nI v.val = nI (472 + 7 * t.val + (2 + v.val)) := by
      show nI 472 + nI 7 * nI t.val + nI 2 + nI v.val = _
      rw [pk_mul, nI_add, nI_add, nI_add, Nat.add_assoc (472 + 7 * t.val)]
    rw [i1, gck_nI (by omega) (by decide), nI_clamp (by omega), gl_eq, i2, gl_eq, gck_nI (by omega) (by decide), gck_nI (by omega) (by decide), nI_clamp (by omega), gl_eq]
    unfold hst
    rw [hso_hso]
    congr 2
    simp only [hso_at, if_true, upd_at]
    rw [if_neg (by omega)]
    rfl
  unfold f_X7_pour jb_X7_pour_61 pourZ
  by_cases hx : x ≤ 0
  · rw [if_pos hx, if_pos hx, hso_self]
  · rw [if_neg hx, if_neg hx, gradeOf7, gb_some]
    split
    · rw [s39]
    · rw [s39]
theorem i_max (a b : Int32) : (if a < b then b else a) = if a ≤ b then b else a := by
  by_cases h : a < b
  · rw [if_pos h, if_pos (Int32.le_of_lt h)]
  · by_cases h2 : a ≤ b
    · rw [if_neg h, if_pos h2]; exact Int32.le_antisymm h2 (Int32.not_lt.mp h)
    · rw [if_neg h, if_neg h2]
theorem rel_pour {c z : Nat → Int32} {nl : Nat} (R : RelCZ c z nl) (t : Fin 6) (v : Fin 5) (x g : Int32) : RelCZ (pourC c t v x g) (pourZ z t v x g) nl := by
  have e1 := zoil_eq R t
  have e2 := R.2.2.2.2.2.1 t
  unfold pourC pourZ
  by_cases hx : x ≤ 0
  · rw [if_pos hx, if_pos hx]; exact R
  · rw [if_neg hx, if_neg hx, e1, e2, e2, i_max]
    exact rel_T (rel_T R t 1 _) t (ts v) _
theorem TankI_1 {c : Nat → Int32} {t : Fin 6} (h : TankI c t) (x : Int32) : TankI (uTa c t 1 x) t := by
  obtain ⟨s, o0, o1, o2, o3, o4, h1, h2, e0, e2, e3, e4, e5, e6⟩ := h
  refine ⟨s, o0, o1, o2, o3, o4, h1, h2, ?_⟩
  simp only [cTa_uTa]
  exact ⟨e0, e2, e3, e4, e5, e6⟩
theorem oil5_1 (c : Nat → Int32) (t t' : Fin 6) (x : Int32) : oil5 (uTa c t 1 x) t' = oil5 c t' := by
  unfold oil5
  simp only [cTa_uTa, show ¬ (2 : Fin 7) = 1 by decide, show ¬ (3 : Fin 7) = 1 by decide, show ¬ (4 : Fin 7) = 1 by decide, show ¬ (5 : Fin 7) = 1 by decide, show ¬ (6 : Fin 7) = 1 by decide, and_false, if_false]
/-- room for n more -/
theorem TankI_inc {c : Nat → Int32} {t : Fin 6} (h : TankI c t) (v : Fin 5) {n : Nat} (hn : nI n ≤ roomV c t) (hb : n < 2 ^ 31) : TankI (uTa c t (ts v) (cTa c t (ts v) + nI n)) t := by
  obtain ⟨s, o0, o1, o2, o3, o4, h1, h2, e0, e2, e3, e4, e5, e6⟩ := h
  have er : roomV c t = nI (s - (o0 + o1 + o2 + o3 + o4)) := by
    unfold roomV oil5
    rw [e0, e2, e3, e4, e5, e6, show (0 : Int32) = nI 0 from rfl, nI_add, nI_add, nI_add, nI_add, nI_add, Nat.zero_add, pk_sub h2]
  have le : n ≤ s - (o0 + o1 + o2 + o3 + o4) := by
    rw [er] at hn
    exact Nat.not_lt.mp (fun w => nI_ge w hb hn)
  rcases fin5 v with rfl | rfl | rfl | rfl | rfl
  · refine ⟨s, o0 + n, o1, o2, o3, o4, h1, by omega, ?_⟩
    rw [show ts 0 = 2 from rfl, e2]
    simp only [cTa_uTa]
    exact ⟨e0, nI_add o0 n, e3, e4, e5, e6⟩
  · refine ⟨s, o0, o1 + n, o2, o3, o4, h1, by omega, ?_⟩
    rw [show ts 1 = 3 from rfl, e3]
    simp only [cTa_uTa]
    exact ⟨e0, e2, nI_add o1 n, e4, e5, e6⟩
  · refine ⟨s, o0, o1, o2 + n, o3, o4, h1, by omega, ?_⟩
    rw [show ts 2 = 4 from rfl, e4]
    simp only [cTa_uTa]
    exact ⟨e0, e2, e3, nI_add o2 n, e5, e6⟩
  · refine ⟨s, o0, o1, o2, o3 + n, o4, h1, by omega, ?_⟩
    rw [show ts 3 = 5 from rfl, e5]
    simp only [cTa_uTa]
    exact ⟨e0, e2, e3, e4, nI_add o3 n, e6⟩
  · refine ⟨s, o0, o1, o2, o3, o4 + n, h1, by omega, ?_⟩
    rw [show ts 4 = 6 from rfl, e6]
    simp only [cTa_uTa]
    exact ⟨e0, e2, e3, e4, e5, nI_add o4 n⟩
theorem roomV_1 (c : Nat → Int32) (t t' : Fin 6) (x : Int32) : roomV (uTa c t 1 x) t' = roomV c t' := by
  unfold roomV
  rw [oil5_1, cTa_uTa, if_neg (fun w => absurd w.2 (by decide))]
theorem roomV_N {c : Nat → Int32} {t : Fin 6} (h : TankI c t) : ∃ r : Nat, r ≤ 20000 ∧ roomV c t = nI r := by
  obtain ⟨o, s, h1, h2, e, e'⟩ := oil5_N h
  exact ⟨s - o, by omega, by unfold roomV; rw [e, e', pk_sub h1]⟩
theorem pos_N {x : Int32} (h : ¬ x ≤ 0) : ∃ n : Nat, n ≠ 0 ∧ n < 2 ^ 31 ∧ x = nI n := by
  have h1 : 0 < x.toInt := by
    have := Int32.lt_iff_toInt_lt.mp (Int32.not_le.mp h)
    exact this
  have h2 := x.toInt_lt
  refine ⟨x.toInt.toNat, by omega, by omega, ?_⟩
  apply Int32.toInt_inj.mp
  rw [nI_toInt (by omega)]
  omega
theorem inv_pour {c : Nat → Int32} {ng nl nt : Nat} (I : InvC c ng nl nt) (t : Fin 6) (ht : t.val < nt) (v : Fin 5) (x g : Int32) (hx : x ≤ roomV c t) : InvC (pourC c t v x g) ng nl nt := by
  have T := I.2.2.2.2.2.2.2.2.2 t
  unfold pourC
  by_cases h0 : x ≤ 0
  · rw [if_pos h0]; exact I
  · rw [if_neg h0]
    obtain ⟨n, -, n1, rfl⟩ := pos_N h0
    have I1 := inv_T I t 1 ht (if grd (oil5 c t) (cTa c t 1) < g then g else grd (oil5 c t) (cTa c t 1)) (TankI_1 T _)
    refine inv_T I1 t (ts v) ht _ ?_
    have := TankI_inc (TankI_1 T (if grd (oil5 c t) (cTa c t 1) < g then g else grd (oil5 c t) (cTa c t 1))) v (n := n) (by rw [roomV_1]; exact hx) n1
    rw [cTa_1v] at this
    exact this
theorem cGr_pour (c : Nat → Int32) (t : Fin 6) (v : Fin 5) (x g : Int32) (i : Fin 8) (k : Fin 4) : cGr (pourC c t v x g) i k = cGr c i k := by
  unfold pourC; split
  · rfl
  · rw [cGr_uTa, cGr_uTa]
theorem cLo_pour (c : Nat → Int32) (t : Fin 6) (v : Fin 5) (x g : Int32) (i : Fin 40) (k : Fin 11) : cLo (pourC c t v x g) i k = cLo c i k := by
  unfold pourC; split
  · rfl
  · rw [cLo_uTa, cLo_uTa]
theorem cVa_pour (c : Nat → Int32) (t : Fin 6) (v : Fin 5) (x g : Int32) (i k : Fin 5) : cVa (pourC c t v x g) i k = cVa c i k := by
  unfold pourC; split
  · rfl
  · rw [cVa_uTa, cVa_uTa]
theorem cS_pour (c : Nat → Int32) (t : Fin 6) (v : Fin 5) (x g : Int32) (i : Fin 14) : cS (pourC c t v x g) i = cS c i := by
  unfold pourC; split
  · rfl
  · rw [cS_uTa, cS_uTa]
/-- the tanks behind pouring depend on the tanks before alone -/
theorem cTa_pour_congr {c c' : Nat → Int32} (e : ∀ t k, cTa c t k = cTa c' t k) (t : Fin 6) (v : Fin 5) (x g : Int32) (i : Fin 6) (k : Fin 7) : cTa (pourC c t v x g) i k = cTa (pourC c' t v x g) i k := by
  unfold pourC; split
  · exact e i k
  · have eo : oil5 c t = oil5 c' t := by simp only [oil5, e]
    rw [cTa_uTa, cTa_uTa, cTa_uTa, cTa_uTa, eo, e t 1, e t (ts v), e i k]
