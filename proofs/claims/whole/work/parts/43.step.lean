-- the lot in turn
def fstW (q : Nat → Bool) : Nat → Nat → Option Nat
  | 0, _ => none
  | m + 1, i => if q i = true then some i else fstW q m (i + 1)
def encW : Option Nat → Int32
  | none => -1
  | some l => nI l
theorem fstW_none {q : Nat → Bool} : ∀ (m i : Nat), (∀ j, i ≤ j → q j = false) → fstW q m i = none
  | 0, _, _ => rfl
  | m + 1, i, h => by
    rw [fstW, if_neg (by rw [h i (Nat.le_refl _)]; decide)]
    exact fstW_none m (i + 1) (fun j hj => h j (by omega))
theorem fstW_cut {q q' : Nat → Bool} (k : Nat) : ∀ (m i : Nat), (∀ j, i ≤ j → j < i + m → q j = q' j) → (∀ j, i + m ≤ j → q j = false) → fstW q (m + k) i = fstW q' m i
  | 0, i, _, h2 => by rw [Nat.zero_add]; exact fstW_none k i (fun j hj => h2 j hj)
  | m + 1, i, h1, h2 => by
    rw [show m + 1 + k = (m + k) + 1 by omega, fstW, fstW, h1 i (Nat.le_refl _) (by omega), fstW_cut k m (i + 1) (fun j a b => h1 j (by omega) (by omega)) (fun j a => h2 j (by omega))]
theorem fstW_some {q : Nat → Bool} {l : Nat} : ∀ (m i : Nat), fstW q m i = some l → l < i + m ∧ q l = true
  | 0, _, e => by exact absurd e (by rw [fstW]; exact fun z => nomatch z)
  | m + 1, i, e => by
    rw [fstW] at e
    by_cases h : q i = true
    · rw [if_pos h] at e
      cases e
      exact ⟨by omega, h⟩
    · rw [if_neg h] at e
      have := fstW_some m (i + 1) e
      exact ⟨by omega, this.2⟩
def lvB (c : Nat → Int32) (v : Fin 5) (j : Nat) : Bool := if hj : j < 40 then decide (cLo c ⟨j, hj⟩ 1 = nI v.val) else false
theorem lvB_iff (c : Nat → Int32) (v : Fin 5) (l : Fin 40) : lvB c v l.val = true ↔ cLo c l 1 = nI v.val := by
  unfold lvB
  rw [dif_pos l.isLt]
  exact decide_eq_true_iff
def qW (nl : Nat) (W : Nat → Bool) (j : Nat) : Bool := decide (j < nl) && W j
def qV (c : Nat → Int32) (v : Fin 5) (nl : Nat) (W : Nat → Bool) (j : Nat) : Bool := qW nl W j && lvB c v j
theorem qW_iff {nl j : Nat} {W : Nat → Bool} : qW nl W j = true ↔ j < nl ∧ W j = true := by
  unfold qW
  rw [Bool.and_eq_true, decide_eq_true_iff]
/-- the next lot -/
def pick (c : Nat → Int32) (nl : Nat) (W : Nat → Bool) (v : Fin 5) (r way : Nat) : Option Nat :=
  if way = 1 ∧ 0 < r then (match fstW (qV c v nl W) 40 0 with | some l => some l | none => fstW (qW nl W) 40 0) else fstW (qW nl W) 40 0
theorem pick_some {c : Nat → Int32} {nl : Nat} {W : Nat → Bool} {v : Fin 5} {r way l : Nat} (e : pick c nl W v r way = some l) : l < nl ∧ l < 40 ∧ W l = true := by
  unfold pick at e
  have a : ∀ {l}, fstW (qW nl W) 40 0 = some l → l < nl ∧ l < 40 ∧ W l = true := fun x => by
    have := fstW_some _ _ x
    have q := qW_iff.mp this.2
    exact ⟨q.1, by omega, q.2⟩
  by_cases w : way = 1 ∧ 0 < r
  · rw [if_pos w] at e
    cases q : fstW (qV c v nl W) 40 0 with
    | none => rw [q] at e; exact a e
    | some k =>
      rw [q] at e
      cases e
      have := fstW_some _ _ q
      have q2 := qW_iff.mp ((Bool.and_eq_true _ _ ▸ this.2).1)
      exact ⟨q2.1, by omega, q2.2⟩
  · rw [if_neg w] at e
    exact a e
theorem turn_61 {nl : Nat} {W : Nat → Bool} (h : Hst) (w : Wc h nl W) : ∀ (m i n : Nat), i + m = 40 → m < n → lp_X2_lotInTurn_61 n (nI i) h = some (encW (fstW (qW nl W) m i), h)
  | 0, i, n + 1, hi, _ => by
    rw [lp_X2_lotInTurn_61, if_pos (show (40 : Int32) ≤ nI i from nI_le (a := 40) (by omega) (by omega))]
    rfl
  | m + 1, i, n + 1, hi, hn => by
    rw [lp_X2_lotInTurn_61, if_neg (show ¬ (40 : Int32) ≤ nI i from nI_ge (b := 40) (by omega) (by decide)), gck_nI (by omega) (by decide), nI_clamp (by omega), w i (by omega), fstW]
    by_cases q : i < nl ∧ W i = true
    · rw [if_pos q, if_neg (by decide), if_pos (qW_iff.mpr q)]
      rfl
    · rw [if_neg q, if_pos rfl, if_neg (fun x => q (qW_iff.mp x)), nI_1]
      exact turn_61 h w m (i + 1) n (by omega) (by omega)
theorem turn_14 {c : Nat → Int32} {nl : Nat} {W : Nat → Bool} {v : Fin 5} (h : Hst) (e : h.1 8 = c) (w : Wc h nl W) (e2 : h.1 13 2 = nI v.val) : ∀ (m i n : Nat), i + m = 40 → m < n → lp_X2_lotInTurn_14 n (nI i) h = some (encW (match fstW (qV c v nl W) m i with | some l => some l | none => fstW (qW nl W) 40 0), h)
  | 0, i, n + 1, hi, _ => by
    rw [lp_X2_lotInTurn_14, if_pos (show (40 : Int32) ≤ nI i from nI_le (a := 40) (by omega) (by omega))]
    exact turn_61 h w 40 0 FU rfl (by decide)
  | m + 1, i, n + 1, hi, hn => by
    have i40 : i < 40 := by omega
    have ih := turn_14 h e w e2 m (i + 1) n (by omega) (by omega)
    rw [lp_X2_lotInTurn_14, if_neg (show ¬ (40 : Int32) ≤ nI i from nI_ge (b := 40) (by omega) (by decide)), gck_nI (by omega) (by decide), nI_clamp (by omega), w i (by omega), fstW]
    have no : ¬ qV c v nl W i = true → jb_X2_lotInTurn_53 (lp_X2_lotInTurn_14 n) (nI i) h = some (encW (match (if qV c v nl W i = true then some i else fstW (qV c v nl W) m (i + 1)) with | some l => some l | none => fstW (qW nl W) 40 0), h) := fun q => by
      rw [if_neg q]
      unfold jb_X2_lotInTurn_53
      rw [nI_1]
      exact ih
    by_cases q : i < nl ∧ W i = true
    · have g1 : f_X5_get_3 (nI i) 1 h = some (cLo c ⟨i, i40⟩ 1, h) := by rw [← e]; exact get3_1 ⟨i, i40⟩ h
      have lv := lvB_iff c v ⟨i, i40⟩
      rw [if_pos q, if_neg (by decide), g1, gb_some, e2]
      by_cases q1 : cLo c ⟨i, i40⟩ 1 = nI v.val
      · have : qV c v nl W i = true := by
          unfold qV
          rw [qW_iff.mpr q, lv.mpr q1]
          rfl
        rw [if_pos q1, this]
        rfl
      · rw [if_neg q1]
        exact no (fun x => q1 (lv.mp ((Bool.and_eq_true _ _ ▸ x).2)))
    · rw [if_neg q, if_pos rfl]
      exact no (fun x => q (qW_iff.mp ((Bool.and_eq_true _ _ ▸ x).1)))
theorem turn_v {c : Nat → Int32} {nl : Nat} {W : Nat → Bool} {v : Fin 5} {r way : Nat} (hr : r ≤ 50) (hw : way ≤ 2) (h : Hst) (e : h.1 8 = c) (w : Wc h nl W) (e2 : h.1 13 2 = nI v.val) (e3 : h.1 13 3 = nI r) : f_X2_lotInTurn (nI way) h = some (encW (pick c nl W v r way), h) := by
  unfold f_X2_lotInTurn pick jb_X2_lotInTurn_59
  by_cases w1 : way = 1
  · rw [if_pos (by rw [w1]; rfl), e3]
    by_cases r0 : 0 < r
    · rw [if_neg (nI_nle r0 (by omega)), if_pos ⟨w1, r0⟩]
      exact turn_14 h e w e2 40 0 FU rfl (by decide)
    · rw [if_pos (by rw [show r = 0 by omega]; decide), if_neg (fun x => r0 x.2)]
      exact turn_61 h w 40 0 FU rfl (by decide)
  · rw [if_neg (nI_nq 1 1 rfl (by decide) (by omega) w1), if_neg (fun x => w1 x.1)]
    exact turn_61 h w 40 0 FU rfl (by decide)
theorem fw_2 {c z : Nat → Int32} {ng nl nt : Nat} (I : InvC c ng nl nt) (R : RelCZ c z nl) {W : Nat → Bool} (h : Hst) (e : h.1 18 = z) (w : Wm h nl W) (p : Int32) (q : Nat → Bool) (hq : ∀ l : Fin 40, l.val < nl → (q l.val = true ↔ W l.val = true ∧ (p = -1 ∨ cLo c l 1 = p))) : ∀ (m i n : Nat), i + m = nl → m < n → lp_X7_firstWaiting_2 n p (nI i) h = some (encW (fstW q m i), h)
  | 0, i, n + 1, hi, _ => by
    have hl := I.1.2.1
    have z8 : z 8 = nI nl := (R.1 8 (by decide)).trans I.2.1.2.1
    rw [lp_X7_firstWaiting_2, gk_8_514, tn_8, e, z8, if_pos (nI_le (by omega) (by omega))]
    rfl
  | m + 1, i, n + 1, hi, hn => by
    have hl := I.1.2.1
    have z8 : z 8 = nI nl := (R.1 8 (by decide)).trans I.2.1.2.1
    have i40 : i < 40 := by omega
    have ih := fw_2 I R h e w p q hq m (i + 1) n (by omega) (by omega)
    have g1 : f_X7_ofLot (nI i) 1 h = some (cLo c ⟨i, i40⟩ 1, h) := by
      have := ofLot_1 ⟨i, i40⟩ h
      rw [e, show zL z ⟨i, i40⟩ 1 = cLo c ⟨i, i40⟩ 1 from R.2.2.2.2.2.2.1 ⟨i, i40⟩ 1] at this
      exact this
    have hq' := hq ⟨i, i40⟩ (by show i < nl; omega)
    rw [lp_X7_firstWaiting_2, gk_8_514, tn_8, e, z8, if_neg (nI_ge (by omega) (by omega)), gck_nI i40 (by decide), nI_clamp (by omega), w i (by omega), fstW]
    unfold jb_X7_firstWaiting_40 jb_X7_firstWaiting_38
    by_cases q0 : W i = true
    · rw [if_pos q0, if_pos rfl]
      by_cases q1 : p = -1
      · rw [if_pos q1, if_pos (hq'.mpr ⟨q0, .inl q1⟩)]
        rfl
      · rw [if_neg q1, g1, gb_some]
        by_cases q2 : cLo c ⟨i, i40⟩ 1 = p
        · rw [if_pos q2, if_pos (hq'.mpr ⟨q0, .inr q2⟩)]
          rfl
        · rw [if_neg q2, if_neg (fun x => (hq'.mp x).2.elim q1 q2), nI_1]
          exact ih
    · rw [if_neg q0, if_neg (by decide), if_neg (fun x => q0 (hq'.mp x).1), nI_1]
      exact ih
theorem fw_all {c z : Nat → Int32} {ng nl nt : Nat} (I : InvC c ng nl nt) (R : RelCZ c z nl) {W : Nat → Bool} (h : Hst) (e : h.1 18 = z) (w : Wm h nl W) : f_X7_firstWaiting (-1) h = some (encW (fstW (qW nl W) 40 0), h) := by
  have hl := I.1.2.1
  have := fstW_cut (q := qW nl W) (q' := W) (40 - nl) nl 0 (fun j _ b => by
    unfold qW
    rw [decide_eq_true (by omega : j < nl)]
    rfl) (fun j a => by
    unfold qW
    rw [decide_eq_false (by omega : ¬ j < nl)]
    rfl)
  rw [show nl + (40 - nl) = 40 by omega] at this
  rw [this]
  exact fw_2 I R h e w (-1) W (fun l _ => ⟨fun x => ⟨x, .inl rfl⟩, fun x => x.1⟩) nl 0 FU (by omega) (Nat.lt_of_le_of_lt hl (by decide))
theorem fw_var {c z : Nat → Int32} {ng nl nt : Nat} (I : InvC c ng nl nt) (R : RelCZ c z nl) {W : Nat → Bool} (v : Fin 5) (h : Hst) (e : h.1 18 = z) (w : Wm h nl W) : f_X7_firstWaiting (nI v.val) h = some (encW (fstW (qV c v nl W) 40 0), h) := by
  have hl := I.1.2.1
  have := fstW_cut (q := qV c v nl W) (q' := fun j => W j && lvB c v j) (40 - nl) nl 0 (fun j _ b => by
    unfold qV qW
    rw [decide_eq_true (by omega : j < nl)]
    rfl) (fun j a => by
    unfold qV qW
    rw [decide_eq_false (by omega : ¬ j < nl)]
    rfl)
  rw [show nl + (40 - nl) = 40 by omega] at this
  rw [this]
  exact fw_2 I R h e w (nI v.val) _ (fun l _ => by
    rw [Bool.and_eq_true, lvB_iff]
    exact ⟨fun x => ⟨x.1, .inr x.2⟩, fun x => ⟨x.1, x.2.elim (fun y => absurd y (nI_neM1 (by omega))) id⟩⟩) nl 0 FU (by omega) (Nat.lt_of_le_of_lt hl (by decide))
