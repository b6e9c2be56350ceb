theorem layMill_2 {c z : Nat → Int32} {ng nl nt : Nat} (I : InvC c ng nl nt) (R : RelCZ c z nl) : ∀ (m i n : Nat) (h : Hst), i + m = nl → m < n → h.1 18 = z → (∀ j, j < i → h.1 21 j = if wB c j = true then 1 else 0) →
    ∃ h', lp_X7_layMill_2 n (nI i) h = some h' ∧ h'.2 = h.2 ∧ (∀ k, k ≠ 17 → k ≠ 21 → h'.1 k = h.1 k) ∧ (∀ j, j ≠ 7 → j ≠ 8 → h'.1 17 j = h.1 17 j) ∧ Wm h' nl (wB c) ∧ h'.1 17 7 = z 10 ∧ h'.1 17 8 = z 11
  | 0, i, n + 1, h, hi, _, e, hw => by
    have hl := I.1.2.1
    have z8 : z 8 = nI nl := (R.1 8 (by decide)).trans I.2.1.2.1
    refine ⟨hst (hst h 17 7 (z 10)) 17 8 (z 11), ?_, rfl, fun k k1 k2 => ?_, fun j j7 j8 => ?_, fun j hj => ?_, rfl, rfl⟩
    · have : (hst h 17 7 (z 10)).1 18 = z := e
      rw [lp_X7_layMill_2, gk_8_514, tn_8, e, z8, if_pos (nI_le (by omega) (by omega)), gk_10_514, gl_eq, tn_10, gk_11_514, gl_eq, tn_11, this]
    · rw [hst_at, if_neg k1, hst_at, if_neg k1]
    · show upd (upd (h.1 17) 7 _) 8 _ j = _
      rw [upd_at, if_neg j8, upd_at, if_neg j7]
    · show h.1 21 j = _
      exact hw j (by omega)
  | m + 1, i, n + 1, h, hi, hn, e, hw => by
    have hl := I.1.2.1
    have z8 : z 8 = nI nl := (R.1 8 (by decide)).trans I.2.1.2.1
    have i40 : i < 40 := by omega
    have st : ∀ x : Int32, (x = if wB c i = true then 1 else 0) → ∃ h', jb_X7_layMill_32 (lp_X7_layMill_2 n) (nI i) x (nI i) h = some h' ∧ h'.2 = h.2 ∧ (∀ k, k ≠ 17 → k ≠ 21 → h'.1 k = h.1 k) ∧ (∀ j, j ≠ 7 → j ≠ 8 → h'.1 17 j = h.1 17 j) ∧ Wm h' nl (wB c) ∧ h'.1 17 7 = z 10 ∧ h'.1 17 8 = z 11 := fun x hv => by
      obtain ⟨h', e', r1, r2, r3⟩ := layMill_2 I R m (i + 1) n (hst h 21 i x) (by omega) (by omega) e (fun j hj => by
        show upd (h.1 21) i x j = _
        rw [upd_at]
        by_cases q : j = i
        · rw [if_pos q, hv, q]
        · rw [if_neg q]; exact hw j (by omega))
      refine ⟨h', ?_, r1, fun k k1 k2 => by rw [r2 k k1 k2, hst_at, if_neg k2], r3⟩
      unfold jb_X7_layMill_32
      rw [gck_nI i40 (by decide), nI_clamp (by omega), gl_eq, nI_1]
      exact e'
    have g5 : f_X7_ofLot (nI i) 5 h = some (cLo c ⟨i, i40⟩ 5, h) := by
      have := ofLot_5 ⟨i, i40⟩ h
      rw [e, show zL z ⟨i, i40⟩ 5 = cLo c ⟨i, i40⟩ 5 from R.2.2.2.2.2.2.1 ⟨i, i40⟩ 5] at this
      exact this
    have wi := wB_iff c ⟨i, i40⟩
    rw [lp_X7_layMill_2, gk_8_514, tn_8, e, z8, if_neg (nI_ge (by omega) (by omega)), g5, gb_some]
    by_cases w : cLo c ⟨i, i40⟩ 5 = 0
    · rw [if_pos w]
      exact st 1 (by rw [if_pos (wi.mpr w)])
    · rw [if_neg w]
      exact st 0 (by rw [if_neg (fun x => w (wi.mp x))])
theorem layMill_v {c z : Nat → Int32} {ng nl nt : Nat} (I : InvC c ng nl nt) (R : RelCZ c z nl) (h : Hst) (e : h.1 18 = z) : ∃ h', f_X7_layMill h = some h' ∧ h'.2 = h.2 ∧ (∀ k, k ≠ 17 → k ≠ 21 → h'.1 k = h.1 k) ∧ (∀ j, j ≠ 7 → j ≠ 8 → h'.1 17 j = h.1 17 j) ∧ Wm h' nl (wB c) ∧ h'.1 17 7 = z 10 ∧ h'.1 17 8 = z 11 := by
  unfold f_X7_layMill
  exact layMill_2 I R nl 0 FU h (by omega) (Nat.lt_of_le_of_lt I.1.2.1 (by decide)) e (fun j hj => absurd hj (by omega))
