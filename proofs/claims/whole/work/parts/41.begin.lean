-- the rehearsal: which lots wait
def wB (c : Nat → Int32) (j : Nat) : Bool := if hj : j < 40 then decide (cLo c ⟨j, hj⟩ 5 = 0) else false
theorem wB_iff (c : Nat → Int32) (l : Fin 40) : wB c l.val = true ↔ cLo c l 5 = 0 := by
  unfold wB
  rw [dif_pos l.isLt]
  exact decide_eq_true_iff
/-- the class's row of waiting lots -/
def Wc (h : Hst) (nl : Nat) (W : Nat → Bool) : Prop := ∀ j, j < 40 → h.1 14 j = if j < nl ∧ W j = true then 1 else 0
def Wm (h : Hst) (nl : Nat) (W : Nat → Bool) : Prop := ∀ j, j < nl → h.1 21 j = if W j = true then 1 else 0
theorem begin_14 {c : Nat → Int32} {nl : Nat} (hl : nl ≤ 40) : ∀ (m i n : Nat) (h : Hst), i + m = 40 → m < n → h.1 8 = c → (∀ j, j < i → h.1 14 j = if j < nl ∧ wB c j = true then 1 else 0) →
    ∃ h', lp_X2_begin_14 n (nI nl) (nI i) h = some h' ∧ h'.2 = h.2 ∧ (∀ k, k ≠ 13 → k ≠ 14 → h'.1 k = h.1 k) ∧ Wc h' nl (wB c) ∧ h'.1 13 2 = cS c 10 ∧ h'.1 13 3 = cS c 11
  | 0, i, n + 1, h, hi, _, e, hw => by
    refine ⟨hst (hst h 13 2 (cS c 10)) 13 3 (cS c 11), ?_, rfl, fun k k1 k2 => ?_, fun j hj => ?_, rfl, rfl⟩
    · rw [lp_X2_begin_14, if_pos (show (40 : Int32) ≤ nI i from nI_le (a := 40) (by omega) (by omega)), row7_3, gb_some, gl_eq, row7_4, gb_some, gl_eq, e]
      have : (hst h 13 2 (cS c 10)).1 8 = c := e
      rw [this]
    · rw [hst_at, if_neg k1, hst_at, if_neg k1]
    · show h.1 14 j = _
      exact hw j (by omega)
  | m + 1, i, n + 1, h, hi, hn, e, hw => by
    have i40 : i < 40 := by omega
    have st : ∀ x : Int32, vp_nar .boolean x = x → (x = if i < nl ∧ wB c i = true then 1 else 0) → ∃ h', jb_X2_begin_53 (lp_X2_begin_14 n) (nI nl) (nI i) x (nI i) h = some h' ∧ h'.2 = h.2 ∧ (∀ k, k ≠ 13 → k ≠ 14 → h'.1 k = h.1 k) ∧ Wc h' nl (wB c) ∧ h'.1 13 2 = cS c 10 ∧ h'.1 13 3 = cS c 11 := fun x hx hv => by
      obtain ⟨h', e', r1, r2, r3⟩ := begin_14 hl m (i + 1) n (hst h 14 i x) (by omega) (by omega) e (fun j hj => by
        show upd (h.1 14) i x j = _
        rw [upd_at]
        by_cases q : j = i
        · rw [if_pos q, hv, q]
        · rw [if_neg q]; exact hw j (by omega))
      refine ⟨h', ?_, r1, fun k k1 k2 => by rw [r2 k k1 k2, hst_at, if_neg k2], r3⟩
      unfold jb_X2_begin_53
      rw [gck_nI i40 (by decide), nI_clamp (by omega), hx, gl_eq, nI_1]
      exact e'
    have g5 : f_X5_get_3 (nI i) 5 h = some (cLo c ⟨i, i40⟩ 5, h) := by rw [← e]; exact get3 ⟨i, i40⟩ 5 h
    have wi := wB_iff c ⟨i, i40⟩
    rw [lp_X2_begin_14, if_neg (show ¬ (40 : Int32) ≤ nI i from nI_ge (b := 40) i40 (by decide))]
    unfold jb_X2_begin_52
    by_cases q : nl ≤ i
    · rw [if_pos (nI_le q (by omega))]
      exact st 0 rfl (by rw [if_neg (fun w => by omega)])
    · rw [if_neg (nI_ge (by omega) (by omega)), g5, gb_some]
      by_cases w : cLo c ⟨i, i40⟩ 5 = 0
      · rw [if_pos w]
        exact st 1 rfl (by rw [if_pos ⟨by omega, wi.mpr w⟩])
      · rw [if_neg w]
        exact st 0 rfl (by rw [if_neg (fun x => w (wi.mp x.2))])
theorem begin_v {c : Nat → Int32} {ng nl nt : Nat} (I : InvC c ng nl nt) (h : Hst) (e : h.1 8 = c) : ∃ h', f_X2_begin h = some h' ∧ h'.2 = h.2 ∧ (∀ k, k ≠ 13 → k ≠ 14 → h'.1 k = h.1 k) ∧ Wc h' nl (wB c) ∧ h'.1 13 2 = cS c 10 ∧ h'.1 13 3 = cS c 11 := by
  unfold f_X2_begin
  rw [row7_1, gb_some, e, I.2.1.2.1]
  exact begin_14 I.1.2.1 40 0 FU h rfl (by decide) e (fun j hj => absurd hj (by omega))
