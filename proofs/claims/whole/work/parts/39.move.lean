-- pouring parts into another tank
theorem oil5_inc (c : Nat → Int32) (t : Fin 6) (v : Fin 5) (x : Int32) : oil5 (uTa c t (ts v) (cTa c t (ts v) + x)) t = oil5 c t + x := by
  unfold oil5
  rcases fin5 v with rfl | rfl | rfl | rfl | rfl
  · rw [show ts 0 = 2 from rfl]
    simp only [cTa_uTa]
    show 0 + (cTa c t 2 + x) + cTa c t 3 + cTa c t 4 + cTa c t 5 + cTa c t 6 = _
    ac_rfl
  · rw [show ts 1 = 3 from rfl]
    simp only [cTa_uTa]
    show 0 + cTa c t 2 + (cTa c t 3 + x) + cTa c t 4 + cTa c t 5 + cTa c t 6 = _
    ac_rfl
  · rw [show ts 2 = 4 from rfl]
    simp only [cTa_uTa]
    show 0 + cTa c t 2 + cTa c t 3 + (cTa c t 4 + x) + cTa c t 5 + cTa c t 6 = _
    ac_rfl
  · rw [show ts 3 = 5 from rfl]
    simp only [cTa_uTa]
    show 0 + cTa c t 2 + cTa c t 3 + cTa c t 4 + (cTa c t 5 + x) + cTa c t 6 = _
    ac_rfl
  · rw [show ts 4 = 6 from rfl]
    simp only [cTa_uTa]
    show 0 + cTa c t 2 + cTa c t 3 + cTa c t 4 + cTa c t 5 + (cTa c t 6 + x) = _
    ac_rfl
theorem roomV_pour (c : Nat → Int32) (t : Fin 6) (v : Fin 5) {n : Nat} (hn : n < 2 ^ 31) (g : Int32) : roomV (pourC c t v (nI n) g) t = roomV c t - nI n := by
  unfold pourC
  by_cases h0 : n = 0
  · subst h0
    rw [if_pos (show nI 0 ≤ 0 by decide)]
    show _ = roomV c t - 0
    rw [Int32.sub_zero]
  · rw [if_neg (nI_nle (by omega) hn)]
    have e : cTa c t (ts v) = cTa (uTa c t 1 (if grd (oil5 c t) (cTa c t 1) < g then g else grd (oil5 c t) (cTa c t 1))) t (ts v) := (cTa_1v _ _ _ _).symm
    rw [e]
    unfold roomV
    rw [oil5_inc, oil5_1, cTa_uTa, if_neg (fun w => ts_ne0 v w.2.symm), cTa_uTa, if_neg (fun w => absurd w.2 (by decide)), Int32.sub_eq_add_neg, Int32.neg_add, Int32.sub_eq_add_neg, ← Int32.add_assoc, ← Int32.sub_eq_add_neg, ← Int32.sub_eq_add_neg]
def mvC (t : Fin 6) (N : Fin 5 → Nat) (g : Int32) : Nat → Nat → (Nat → Int32) → Nat → Int32
  | 0, _, c => c
  | m + 1, i, c => if hi : i < 5 then mvC t N g m (i + 1) (pourC c t ⟨i, hi⟩ (nI (N ⟨i, hi⟩)) g) else c
def mvZ (t : Fin 6) (N : Fin 5 → Nat) (g : Int32) : Nat → Nat → (Nat → Int32) → Nat → Int32
  | 0, _, z => z
  | m + 1, i, z => if hi : i < 5 then mvZ t N g m (i + 1) (pourZ z t ⟨i, hi⟩ (nI (N ⟨i, hi⟩)) g) else z
def sumN (N : Fin 5 → Nat) : Nat → Nat → Nat
  | 0, _ => 0
  | m + 1, i => lfN N i + sumN N m (i + 1)
theorem mv_both {ng nl nt : Nat} (t : Fin 6) (ht : t.val < nt) (N : Fin 5 → Nat) (g : Int32) : ∀ (m i r : Nat) (c z : Nat → Int32), i + m = 5 → InvC c ng nl nt → RelCZ c z nl → roomV c t = nI r → r ≤ 20000 → sumN N m i ≤ r →
    InvC (mvC t N g m i c) ng nl nt ∧ RelCZ (mvC t N g m i c) (mvZ t N g m i z) nl ∧
    (∀ (n : Nat) (h : Hst), m < n → h.1 8 = c → (∀ v : Fin 5, h.1 11 v.val = nI (N v)) → lp_X6_move_107 n (nI t.val) g (nI i) h = some (.inl (oil5 (mvC t N g m i c) t, hso h 8 (mvC t N g m i c)))) ∧
    (∀ (n : Nat) (h : Hst), m < n → h.1 18 = z → (∀ v : Fin 5, h.1 22 v.val = nI (N v)) → lp_X7_move_91 n (nI t.val) g (nI i) h = some (zoil5 (mvZ t N g m i z) t, hso h 18 (mvZ t N g m i z)))
  | 0, i, r, c, z, hi, I, R, _, _, _ => by
    refine ⟨I, R, fun n h hn e _ => ?_, fun n h hn e _ => ?_⟩
    · cases n with
      | zero => omega
      | succ n => rw [lp_X6_move_107, if_pos (show (5 : Int32) ≤ nI i from nI_le (a := 5) (by omega) (by omega)), oilOf, gb_some, mvC, e, ← e, hso_self]
    · cases n with
      | zero => omega
      | succ n => rw [lp_X7_move_91, if_pos (show (5 : Int32) ≤ nI i from nI_le (a := 5) (by omega) (by omega)), oilOf7, gb_some, mvZ, e, ← e, hso_self]
  | m + 1, i, r, c, z, hi, I, R, er, hr, hs => by
    have i5 : i < 5 := by omega
    rw [sumN, lfN_at N i i5] at hs
    have hx : nI (N ⟨i, i5⟩) ≤ roomV c t := by rw [er]; exact nI_le (by omega) (by omega)
    have T := I.2.2.2.2.2.2.2.2.2 t
    obtain ⟨a1, a2, a3, a4⟩ := mv_both t ht N g m (i + 1) (r - N ⟨i, i5⟩) (pourC c t ⟨i, i5⟩ (nI (N ⟨i, i5⟩)) g) (pourZ z t ⟨i, i5⟩ (nI (N ⟨i, i5⟩)) g) (by omega) (inv_pour I t ht ⟨i, i5⟩ _ g hx) (rel_pour R t ⟨i, i5⟩ _ g) (by rw [roomV_pour c t ⟨i, i5⟩ (by omega), er, pk_sub (by omega)]) (by omega) (by omega)
    rw [mvC, dif_pos i5, mvZ, dif_pos i5]
    refine ⟨a1, a2, fun n h hn e hv => ?_, fun n h hn e hv => ?_⟩
    · cases n with
      | zero => omega
      | succ n =>
        rw [lp_X6_move_107, if_neg (show ¬ (5 : Int32) ≤ nI i from nI_ge (b := 5) i5 (by decide)), show nI i = nI (⟨i, i5⟩ : Fin 5).val from rfl, part_v, gb_some, hv, pour_C t ⟨i, i5⟩ _ g h (by rw [e]; exact T), gbv_some, show nI (⟨i, i5⟩ : Fin 5).val + 1 = nI (i + 1) from nI_1 i, e, a3 n _ (by omega) (by rw [hso_at, if_pos rfl]) (fun v => by rw [hso_at, if_neg (by decide)]; exact hv v), hso_hso]
    · cases n with
      | zero => omega
      | succ n =>
        have hvi : h.1 22 i = nI (N ⟨i, i5⟩) := hv ⟨i, i5⟩
        have pm := pour_M t ⟨i, i5⟩ (nI (N ⟨i, i5⟩)) g h
        rw [lp_X7_move_91, if_neg (show ¬ (5 : Int32) ≤ nI i from nI_ge (b := 5) i5 (by decide)), gck_nI i5 (by decide), nI_clamp (by omega), hvi, show nI i = nI (⟨i, i5⟩ : Fin 5).val from rfl, pm, gbv_some, show nI (⟨i, i5⟩ : Fin 5).val + 1 = nI (i + 1) from nI_1 i, e, a4 n _ (by omega) (by rw [hso_at, if_pos rfl]) (fun v => by rw [hso_at, if_neg (by decide)]; exact hv v), hso_hso]
