-- the lot in turn, of the law
theorem next_58 {c : Nat → Int32} {nl : Nat} (hl : nl ≤ 10) {h : Hst} (e1 : h.1 17 1 = nI nl) (R : R19 c (h.1 19) nl) : ∀ (m i n : Nat), i + m = nl → m < n → lp_L_next_58 n (nI i) h = some (encW (fstW (wB c) m i), h)
  | 0, i, n + 1, hi, _ => by
    rw [lp_L_next_58, gk_1_15, tn_1, e1, if_pos (nI_le (by omega) (by omega))]
    rfl
  | m + 1, i, n + 1, hi, hn => by
    have i40 : i < 40 := by omega
    have r5 : h.1 19 (6 * i + 5) = cLo c ⟨i, i40⟩ 5 := R ⟨i, i40⟩ (by show i < nl; omega) 5
    have wi := wB_iff c ⟨i, i40⟩
    rw [lp_L_next_58, gk_1_15, tn_1, e1, if_neg (nI_ge (by omega) (by omega)), ix65, gck_nI (by omega) (by decide), nI_clamp (by omega), r5, fstW]
    by_cases w : cLo c ⟨i, i40⟩ 5 = 0
    · rw [if_pos w, if_pos (wi.mpr w)]
      rfl
    · rw [if_neg w, if_neg (fun x => w (wi.mp x)), nI_1]
      exact next_58 hl e1 R m (i + 1) n (by omega) (by omega)
theorem next_16 {c : Nat → Int32} {nl : Nat} (hl : nl ≤ 10) {v : Fin 5} {h : Hst} (e1 : h.1 17 1 = nI nl) (e3 : h.1 17 3 = nI v.val) (R : R19 c (h.1 19) nl) : ∀ (m i n : Nat), i + m = nl → m < n → lp_L_next_16 n (nI i) h = some (encW (match fstW (fun j => wB c j && lvB c v j) m i with | some l => some l | none => fstW (wB c) nl 0), h)
  | 0, i, n + 1, hi, _ => by
    rw [lp_L_next_16, gk_1_15, tn_1, e1, if_pos (nI_le (by omega) (by omega))]
    unfold jb_L_next_56
    exact next_58 hl e1 R nl 0 FU (by omega) (Nat.lt_of_le_of_lt hl (by decide))
  | m + 1, i, n + 1, hi, hn => by
    have i40 : i < 40 := by omega
    have r5 : h.1 19 (6 * i + 5) = cLo c ⟨i, i40⟩ 5 := R ⟨i, i40⟩ (by show i < nl; omega) 5
    have r1 : h.1 19 (6 * i + 1) = cLo c ⟨i, i40⟩ 1 := R ⟨i, i40⟩ (by show i < nl; omega) 1
    have wi := wB_iff c ⟨i, i40⟩
    have lv := lvB_iff c v ⟨i, i40⟩
    have ih := next_16 hl (v := v) e1 e3 R m (i + 1) n (by omega) (by omega)
    rw [lp_L_next_16, gk_1_15, tn_1, e1, if_neg (nI_ge (by omega) (by omega)), ix65, gck_nI (by omega) (by decide), nI_clamp (by omega), r5, fstW]
    have no : ¬ (wB c i && lvB c v i) = true → jb_L_next_50 (lp_L_next_16 n) (nI i) h = some (encW (match (if (wB c i && lvB c v i) = true then some i else fstW (fun j => wB c j && lvB c v j) m (i + 1)) with | some l => some l | none => fstW (wB c) nl 0), h) := fun q => by
      rw [if_neg q]
      unfold jb_L_next_50
      rw [nI_1]
      exact ih
    by_cases w : cLo c ⟨i, i40⟩ 5 = 0
    · rw [if_pos w, ix61, gck_nI (by omega) (by decide), gk_3_15, nI_clamp (by omega), r1, tn_3, e3]
      by_cases q1 : cLo c ⟨i, i40⟩ 1 = nI v.val
      · have : (wB c i && lvB c v i) = true := by rw [wi.mpr w, lv.mpr q1]; rfl
        rw [if_pos q1, if_pos this]
        rfl
      · rw [if_neg q1]
        exact no (fun x => q1 (lv.mp ((Bool.and_eq_true _ _ ▸ x).2)))
    · rw [if_neg w]
      exact no (fun x => w (wi.mp ((Bool.and_eq_true _ _ ▸ x).1)))
theorem fst_qW (c : Nat → Int32) {nl : Nat} (hl : nl ≤ 10) : fstW (qW nl (wB c)) 40 0 = fstW (wB c) nl 0 := by
  have := fstW_cut (q := qW nl (wB c)) (q' := wB c) (40 - nl) nl 0 (fun j _ b => by
    unfold qW
    rw [decide_eq_true (by omega : j < nl)]
    rfl) (fun j a => by
    unfold qW
    rw [decide_eq_false (by omega : ¬ j < nl)]
    rfl)
  rw [show nl + (40 - nl) = 40 by omega] at this
  exact this
theorem fst_qV (c : Nat → Int32) (v : Fin 5) {nl : Nat} (hl : nl ≤ 10) : fstW (qV c v nl (wB c)) 40 0 = fstW (fun j => wB c j && lvB c v j) nl 0 := by
  have := fstW_cut (q := qV c v nl (wB c)) (q' := fun j => wB c j && lvB c v j) (40 - nl) nl 0 (fun j _ b => by
    unfold qV qW
    rw [decide_eq_true (by omega : j < nl)]
    rfl) (fun j a => by
    unfold qV qW
    rw [decide_eq_false (by omega : ¬ j < nl)]
    rfl)
  rw [show nl + (40 - nl) = 40 by omega] at this
  exact this
theorem rv_N {c : Nat → Int32} {v : Fin 5} {r : Nat} (ev : cS c 10 = nI v.val) (er : cS c 11 = nI r) (hr : r ≤ 50) : rv c = if r = 0 then -1 else nI v.val := by
  unfold rv
  rw [er, ev]
  by_cases q : r = 0
  · rw [if_pos (by rw [q]; rfl), if_pos q]
  · rw [if_neg (nI_ne0 (by omega) (by omega)), if_neg q]
theorem nextL {c : Nat → Int32} {nl : Nat} (hl : nl ≤ 10) {v : Fin 5} {r way : Nat} (ev : cS c 10 = nI v.val) (er : cS c 11 = nI r) (hr : r ≤ 50) (ew : cS c 5 = nI way) (hw : way ≤ 2) {h : Hst} (A : R17 c (h.1 17) nl) (R : R19 c (h.1 19) nl) : f_L_next h = some (encW (pick c nl (wB c) v r way), h) := by
  have lv := v.isLt
  have e1 := A.1.2.1
  have e3 : h.1 17 3 = if r = 0 then -1 else nI v.val := A.1.2.2.2.1.trans (rv_N ev er hr)
  have e13 : h.1 17 13 = nI way := (A.2 5).trans ew
  have all : jb_L_next_56 h = some (encW (fstW (qW nl (wB c)) 40 0), h) := by
    unfold jb_L_next_56
    rw [fst_qW c hl]
    exact next_58 hl e1 R nl 0 FU (by omega) (Nat.lt_of_le_of_lt hl (by decide))
  unfold f_L_next pick
  rw [gk_13_15, tn_13, e13]
  by_cases w1 : way = 1
  · rw [if_pos (by rw [w1]; rfl), gk_3_15, tn_3, e3]
    by_cases r0 : r = 0
    · rw [if_pos r0, if_pos (by decide), if_neg (fun x => by omega)]
      exact all
    · rw [if_neg r0, if_neg (nI_pos (by omega)), if_pos ⟨w1, by omega⟩, fst_qV c v hl, fst_qW c hl]
      exact next_16 hl e1 (by rw [e3, if_neg r0]) R nl 0 FU (by omega) (Nat.lt_of_le_of_lt hl (by decide))
  · rw [if_neg (nI_nq 1 1 rfl (by decide) (by omega) w1), if_neg (fun x => w1 x.1)]
    exact all
