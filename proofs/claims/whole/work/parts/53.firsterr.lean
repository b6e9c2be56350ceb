-- the first error
def run (t : Nat → Nat) : Nat → Nat → PS → Nat × PS
  | 0, i, p => (i, p)
  | m + 1, i, p => match stp (t i) p with
    | none => (i, p)
    | some p' => run t m (i + 1) p'
theorem run_no {t : Nat → Nat} {m i : Nat} {p : PS} (e : stp (t i) p = none) : run t (m + 1) i p = (i, p) := by rw [run, e]
theorem run_ok {t : Nat → Nat} {m i : Nat} {p p' : PS} (e : stp (t i) p = some p') : run t (m + 1) i p = run t m (i + 1) p' := by rw [run, e]
theorem run_le (t : Nat → Nat) : ∀ (m i : Nat) (p : PS), (run t m i p).1 ≤ i + m
  | 0, i, p => Nat.le_refl _
  | m + 1, i, p => by
    cases e : stp (t i) p with
    | none => rw [run_no e]; exact Nat.le_add_right _ _
    | some p' =>
      rw [run_ok e]
      have := run_le t m (i + 1) p'
      omega
theorem run_inv (t : Nat → Nat) : ∀ (m i : Nat) (p : PS), InvP i p → InvP (run t m i p).1 (run t m i p).2
  | 0, i, p, V => V
  | m + 1, i, p, V => by
    cases e : stp (t i) p with
    | none => rw [run_no e]; exact V
    | some p' =>
      rw [run_ok e]
      exact run_inv t m (i + 1) p' (stp_inv V e)
def P0 : PS := (0, none, 0, 0, 0, 0, 0, fun _ _ => 0)
theorem P0_inv : InvP 0 P0 := ⟨by decide, by decide, fun z => absurd z (by decide), fun z => absurd z (by decide), fun z => absurd z (by decide), fun z => absurd z (by decide), fun _ => rfl, fun n z => nomatch z⟩
theorem codeAt_v {i : Nat} (hi : i < 60) (h : Hst) : f_X6_codeAt (nI i) h = some (h.1 16 i, h) := by
  unfold f_X6_codeAt jb_X6_codeAt_22 jb_X6_codeAt_23
  rw [if_neg (nI_pos (by omega)), if_neg (show ¬ (60 : Int32) ≤ nI i from nI_ge (b := 60) hi (by decide)), gck_nI hi (by decide), nI_clamp (by omega)]
theorem err_C {t : Nat → Nat} {len : Nat} (hl : len ≤ 60) (ht : ∀ j, t j < 127) : ∀ (m i n : Nat) (p : PS) (h : Hst), i + m = len → m < n → InvP i p → RdC h p → h.1 0 5 = nI len → (∀ j, j < len → h.1 16 j = nI (t j)) → ∃ h', lp_X6_firstError_9 n (nI i) h = some (nI (run t m i p).1, h') ∧ On15 h h' ∧ ((run t m i p).1 = len → RdC h' (run t m i p).2)
  | 0, i, n + 1, p, h, hi, _, V, D, e5, e16 => by
    refine ⟨h, ?_, On15.rf, fun _ => D⟩
    rw [lp_X6_firstError_9, e5, if_pos (nI_le (by omega) (by omega)), show len = i by omega]
    rfl
  | m + 1, i, n + 1, p, h, hi, hn, V, D, e5, e16 => by
    obtain ⟨b, h1, e, oo, r⟩ := reads_C (ht i) V h D
    rw [lp_X6_firstError_9, e5, if_neg (nI_ge (by omega) (by omega)), codeAt_v (by omega), gb_some, e16 i (by omega), e, gb_some]
    cases es : stp (t i) p with
    | none =>
      rw [es] at r
      change b = 0 at r
      rw [run_no es, r, if_pos rfl]
      exact ⟨h1, rfl, oo, fun z => by change i = len at z; omega⟩
    | some p' =>
      rw [es] at r
      change b = 1 ∧ RdC h1 p' at r
      rw [run_ok es, r.1, if_neg (by decide), nI_1]
      obtain ⟨h', e', oo', r'⟩ := err_C hl ht m (i + 1) n p' h1 (by omega) (by omega) (stp_inv V es) r.2 (by rw [oo.2 0 (by decide)]; exact e5) (fun j hj => by rw [oo.2 16 (by decide)]; exact e16 j hj)
      exact ⟨h', e', oo.trans oo', r'⟩
theorem err_M {t : Nat → Nat} {len : Nat} (hl : len ≤ 60) (ht : ∀ j, t j < 127) : ∀ (m i n : Nat) (p : PS) (h : Hst), i + m = len → m < n → InvP i p → RdM h p → h.1 17 3 = nI len → (∀ j, j < len → h.1 20 j = nI (t j)) → ∃ h', lp_X7_rightUpTo_17 n (nI i) h = some (nI (run t m i p).1, h') ∧ OnM h h' ∧ ((run t m i p).1 = len → RdM h' (run t m i p).2)
  | 0, i, n + 1, p, h, hi, _, V, D, e5, e16 => by
    refine ⟨h, ?_, OnM.rf, fun _ => D⟩
    unfold lp_X7_rightUpTo_17 jb_X7_rightUpTo_44
    rw [e5, if_pos (nI_le (by omega) (by omega))]
    rfl
  | m + 1, i, n + 1, p, h, hi, hn, V, D, e5, e16 => by
    obtain ⟨b, h1, e, oo, r⟩ := takes_M (by omega) (ht i) V h D
    unfold lp_X7_rightUpTo_17 jb_X7_rightUpTo_44
    rw [e5, if_neg (nI_ge (by omega) (by omega)), gck_nI (by omega) (by decide), nI_clamp (by omega), e16 i (by omega), e, gb_some]
    cases es : stp (t i) p with
    | none =>
      rw [es] at r
      change b = 0 at r
      rw [run_no es, r, if_pos rfl]
      exact ⟨h1, rfl, oo, fun z => by change i = len at z; omega⟩
    | some p' =>
      rw [es] at r
      change b = 1 ∧ RdM h1 p' at r
      rw [run_ok es, r.1, if_neg (by decide), nI_1]
      obtain ⟨h', e', oo', r'⟩ := err_M hl ht m (i + 1) n p' h1 (by omega) (by omega) (stp_inv V es) r.2 (by rw [oo.2.2 3 (by decide)]; exact e5) (fun j hj => by rw [oo.2.1 20 (by decide) (by decide)]; exact e16 j hj)
      exact ⟨h', e', oo.trans oo', r'⟩
theorem fe_C {t : Nat → Nat} {len : Nat} (hl : len ≤ 60) (ht : ∀ j, t j < 127) (h : Hst) (e5 : h.1 0 5 = nI len) (e16 : ∀ j, j < len → h.1 16 j = nI (t j)) : ∃ h', f_X6_firstError h = some (nI (run t len 0 P0).1, h') ∧ On15 h h' ∧ ((run t len 0 P0).1 = len → RdC h' (run t len 0 P0).2) := by
  obtain ⟨h', e, oo, r⟩ := err_C hl ht len 0 FU P0 (hst h 15 0 0) (by omega) (Nat.lt_of_le_of_lt hl (by decide)) P0_inv ⟨rfl, fun z => absurd z (by decide), fun z => absurd z (by decide), fun z => absurd z (by decide), fun z => absurd z (by decide)⟩ e5 e16
  refine ⟨h', ?_, On15.trans (On15.st 0 0) oo, r⟩
  unfold f_X6_firstError f_X4_restart
  rw [gl_eq, gbv_some]
  exact e
theorem fe_M {t : Nat → Nat} {len : Nat} (hl : len ≤ 60) (ht : ∀ j, t j < 127) (h : Hst) (e5 : h.1 17 3 = nI len) (e16 : ∀ j, j < len → h.1 20 j = nI (t j)) : ∃ h', f_X7_rightUpTo h = some (nI (run t len 0 P0).1, h') ∧ OnM h h' ∧ ((run t len 0 P0).1 = len → RdM h' (run t len 0 P0).2) := by
  obtain ⟨h', e, oo, r⟩ := err_M hl ht len 0 FU P0 (hst (hst (hst h 17 19 0) 17 20 (-1)) 17 21 0) (by omega) (Nat.lt_of_le_of_lt hl (by decide)) P0_inv ⟨rfl, rfl, rfl, fun z => absurd z (by decide), fun z => absurd z (by decide), fun z => absurd z (by decide), fun z => absurd z (by decide), fun j c z => absurd z (by omega)⟩ e5 e16
  refine ⟨h', ?_, OnM.trans (OnM.trans (OnM.trans (OnM.st 19 0 (by decide)) (OnM.st 20 (-1) (by decide))) (OnM.st 21 0 (by decide))) oo, r⟩
  unfold f_X7_rightUpTo
  rw [gl_eq, gl_eq, gl_eq]
  exact e
/-- the text of a state -/
theorem text_v {h : Hst} {len : Nat} (B : BF h.1 len) : ∃ t : Nat → Nat, (∀ j, t j < 127) ∧ t len = 59 ∧ (∀ j, j < len → h.1 16 j = nI (t j)) ∧ ∀ j, j < len → h.1 20 j = nI (t j) := by
  obtain ⟨-, -, -, b4⟩ := B
  have c : ∀ j, j < len → h.1 16 j = nI (h.1 16 j).toNatClampNeg ∧ (h.1 16 j).toNatClampNeg < 127 := fun j hj => by
    obtain ⟨-, q, q1, q2, q3⟩ := b4 j hj
    rw [q3, nI_clamp (by omega)]
    exact ⟨rfl, by omega⟩
  refine ⟨fun j => if j < len then (h.1 16 j).toNatClampNeg else 59, fun j => ?_, if_neg (by omega), fun j hj => ?_, fun j hj => ?_⟩
  · show (if j < len then (h.1 16 j).toNatClampNeg else 59) < 127
    by_cases q : j < len
    · rw [if_pos q]; exact (c j q).2
    · rw [if_neg q]; decide
  · show _ = nI (if j < len then (h.1 16 j).toNatClampNeg else 59)
    rw [if_pos hj]; exact (c j hj).1
  · show _ = nI (if j < len then (h.1 16 j).toNatClampNeg else 59)
    rw [if_pos hj, ← (b4 j hj).1]; exact (c j hj).1
theorem op_firstError {h : Hst} (S : Sim h) : Agree2 (f_X6_firstError h) f_X7_firstError := by
  obtain ⟨-, -, len, B⟩ := id S
  obtain ⟨t, ht, t59, t16, t20⟩ := text_v B
  obtain ⟨hl, b2, b3, -⟩ := B
  obtain ⟨h1, e1, o1, -⟩ := fe_C hl ht h b2 t16
  have f : ∀ k, k ≠ 15 → (hst h1 17 5 0).1 k = (hst h 17 5 0).1 k := fun k hk => by
    rw [hst_at, hst_at]
    by_cases q : k = 17
    · rw [if_pos q, if_pos q, o1.2 17 (by decide)]
    · rw [if_neg q, if_neg q, o1.2 k hk]
  obtain ⟨h2, e2, o2, -⟩ := fe_M hl ht (hst h1 17 5 0) (by rw [f 17 (by decide)]; exact b3) (fun j hj => by rw [f 20 (by decide)]; exact t20 j hj)
  refine ⟨nI (run t len 0 P0).1, h1, h2, e1, ?_, Sim.scr S o1.scr (b := hst h1 17 5 0) rfl o2.scr⟩
  unfold f_X7_firstError
  rw [gl_eq, e2, gb_some]
