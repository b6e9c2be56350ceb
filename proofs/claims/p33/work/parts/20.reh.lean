-- the rehearsal
def wB (c : Nat → Int32) (j : Nat) : Bool := if hj : j < 40 then decide (cLo c ⟨j, hj⟩ 5 = 0) else false
theorem wB_iff (c : Nat → Int32) (l : Fin 40) : wB c l.val = true ↔ cLo c l 5 = 0 := by
  unfold wB
  rw [dif_pos l.isLt]
  exact decide_eq_true_iff
def Wc (h : Hst) (nl : Nat) (W : Nat → Bool) : Prop := ∀ j, j < 40 → h.1 14 j = if j < nl ∧ W j = true then 1 else 0
theorem begin_14 {c : Nat → Int32} {nl : Nat} (hl : nl ≤ 40) : ∀ (m i n : Nat) (h : Hst), i + m = 40 → m < n → h.1 8 = c → (∀ j, j < i → h.1 14 j = if j < nl ∧ wB c j = true then 1 else 0) →
    ∃ h', lp_X2_begin_14 n (nI nl) (nI i) h = some h' ∧ h'.2 = h.2 ∧ (∀ k, k ≠ 13 → k ≠ 14 → h'.1 k = h.1 k) ∧ Wc h' nl (wB c) ∧ h'.1 13 2 = cS c 10 ∧ h'.1 13 3 = cS c 11
  | 0, i, n + 1, h, hi, _, e, hw => by
    refine ⟨hst (hst h 13 2 (cS c 10)) 13 3 (cS c 11), ?_, rfl, fun k k1 k2 => ?_, fun j hj => ?_, rfl, rfl⟩
    · rw [lp_X2_begin_14, if_pos (show (40 : Int32) ≤ nI i from nI_le (a := 40) (by omega) (by omega)), row7_3, gb_some, gl_eq, row7_4, gb_some, gl_eq, e]
      have : (hst h 13 2 (cS c 10)).1 8 = c := e
      rw [this]
    · rw [hst_at, if_neg k1, hst_at, if_neg k1]
    · show h.1 14 j = _
      exact hw j (by omega)
  | m + 1, i, n + 1, h, hi, hn, e, hw => by
    have i40 : i < 40 := by omega
    have st : ∀ x : Int32, vp_nar .boolean x = x → (x = if i < nl ∧ wB c i = true then 1 else 0) → ∃ h', jb_X2_begin_53 (lp_X2_begin_14 n) (nI nl) (nI i) x (nI i) h = some h' ∧ h'.2 = h.2 ∧ (∀ k, k ≠ 13 → k ≠ 14 → h'.1 k = h.1 k) ∧ Wc h' nl (wB c) ∧ h'.1 13 2 = cS c 10 ∧ h'.1 13 3 = cS c 11 := fun x hx hv => by
      obtain ⟨h', e', r1, r2, r3⟩ := begin_14 hl m (i + 1) n (hst h 14 i x) (by omega) (by omega) e (fun j hj => by
        show upd (h.1 14) i x j = _
        rw [upd_at]
        by_cases q : j = i
        · rw [if_pos q, hv, q]
        · rw [if_neg q]; exact hw j (by omega))
      refine ⟨h', ?_, r1, fun k k1 k2 => by rw [r2 k k1 k2, hst_at, if_neg k2], r3⟩
      unfold jb_X2_begin_53
      rw [gck_nI i40 (by decide), nI_clamp (by omega), hx, gl_eq, nI_1]
      exact e'
    have g5 : f_X5_get_3 (nI i) 5 h = some (cLo c ⟨i, i40⟩ 5, h) := by rw [← e]; exact get3 ⟨i, i40⟩ 5 h
    have wi := wB_iff c ⟨i, i40⟩
    rw [lp_X2_begin_14, if_neg (show ¬ (40 : Int32) ≤ nI i from nI_ge (b := 40) i40 (by decide))]
    unfold jb_X2_begin_52
    by_cases q : nl ≤ i
    · rw [if_pos (nI_le q (by omega))]
      exact st 0 rfl (by rw [if_neg (fun w => by omega)])
    · rw [if_neg (nI_ge (by omega) (by omega)), g5, gb_some]
      by_cases w : cLo c ⟨i, i40⟩ 5 = 0
      · rw [if_pos w]
        exact st 1 rfl (by rw [if_pos ⟨by omega, wi.mpr w⟩])
      · rw [if_neg w]
        exact st 0 rfl (by rw [if_neg (fun x => w (wi.mp x.2))])
theorem begin_v {c : Nat → Int32} {ng nl nt : Nat} (I : InvC c ng nl nt) (h : Hst) (e : h.1 8 = c) : ∃ h', f_X2_begin h = some h' ∧ h'.2 = h.2 ∧ (∀ k, k ≠ 13 → k ≠ 14 → h'.1 k = h.1 k) ∧ Wc h' nl (wB c) ∧ h'.1 13 2 = cS c 10 ∧ h'.1 13 3 = cS c 11 := by
  unfold f_X2_begin
  rw [row7_1, gb_some, e, I.2.1.2.1]
  exact begin_14 I.1.2.1 40 0 FU h rfl (by decide) e (fun j hj => absurd hj (by omega))
def fstW (q : Nat → Bool) : Nat → Nat → Option Nat
  | 0, _ => none
  | m + 1, i => if q i = true then some i else fstW q m (i + 1)
def encW : Option Nat → Int32
  | none => -1
  | some l => nI l
theorem fstW_none {q : Nat → Bool} : ∀ (m i : Nat), (∀ j, i ≤ j → q j = false) → fstW q m i = none
  | 0, _, _ => rfl
  | m + 1, i, h => by
    rw [fstW, if_neg (by rw [h i (Nat.le_refl _)]; decide)]
    exact fstW_none m (i + 1) (fun j hj => h j (by omega))
theorem fstW_cut {q q' : Nat → Bool} (k : Nat) : ∀ (m i : Nat), (∀ j, i ≤ j → j < i + m → q j = q' j) → (∀ j, i + m ≤ j → q j = false) → fstW q (m + k) i = fstW q' m i
  | 0, i, _, h2 => by rw [Nat.zero_add]; exact fstW_none k i (fun j hj => h2 j hj)
  | m + 1, i, h1, h2 => by
    rw [show m + 1 + k = (m + k) + 1 by omega, fstW, fstW, h1 i (Nat.le_refl _) (by omega), fstW_cut k m (i + 1) (fun j a b => h1 j (by omega) (by omega)) (fun j a => h2 j (by omega))]
theorem fstW_some {q : Nat → Bool} {l : Nat} : ∀ (m i : Nat), fstW q m i = some l → l < i + m ∧ q l = true
  | 0, _, e => by exact absurd e (by rw [fstW]; exact fun z => nomatch z)
  | m + 1, i, e => by
    rw [fstW] at e
    by_cases h : q i = true
    · rw [if_pos h] at e
      cases e
      exact ⟨by omega, h⟩
    · rw [if_neg h] at e
      have := fstW_some m (i + 1) e
      exact ⟨by omega, this.2⟩
def lvB (c : Nat → Int32) (v : Fin 5) (j : Nat) : Bool := if hj : j < 40 then decide (cLo c ⟨j, hj⟩ 1 = nI v.val) else false
theorem lvB_iff (c : Nat → Int32) (v : Fin 5) (l : Fin 40) : lvB c v l.val = true ↔ cLo c l 1 = nI v.val := by
  unfold lvB
  rw [dif_pos l.isLt]
  exact decide_eq_true_iff
def qW (nl : Nat) (W : Nat → Bool) (j : Nat) : Bool := decide (j < nl) && W j
def qV (c : Nat → Int32) (v : Fin 5) (nl : Nat) (W : Nat → Bool) (j : Nat) : Bool := qW nl W j && lvB c v j
theorem qW_iff {nl j : Nat} {W : Nat → Bool} : qW nl W j = true ↔ j < nl ∧ W j = true := by
  unfold qW
  rw [Bool.and_eq_true, decide_eq_true_iff]
def pick (c : Nat → Int32) (nl : Nat) (W : Nat → Bool) (v : Fin 5) (r way : Nat) : Option Nat :=
  if way = 1 ∧ 0 < r then (match fstW (qV c v nl W) 40 0 with | some l => some l | none => fstW (qW nl W) 40 0) else fstW (qW nl W) 40 0
theorem pick_some {c : Nat → Int32} {nl : Nat} {W : Nat → Bool} {v : Fin 5} {r way l : Nat} (e : pick c nl W v r way = some l) : l < nl ∧ l < 40 ∧ W l = true := by
  unfold pick at e
  have a : ∀ {l}, fstW (qW nl W) 40 0 = some l → l < nl ∧ l < 40 ∧ W l = true := fun x => by
    have := fstW_some _ _ x
    have q := qW_iff.mp this.2
    exact ⟨q.1, by omega, q.2⟩
  by_cases w : way = 1 ∧ 0 < r
  · rw [if_pos w] at e
    cases q : fstW (qV c v nl W) 40 0 with
    | none => rw [q] at e; exact a e
    | some k =>
      rw [q] at e
      cases e
      have := fstW_some _ _ q
      have q2 := qW_iff.mp ((Bool.and_eq_true _ _ ▸ this.2).1)
      exact ⟨q2.1, by omega, q2.2⟩
  · rw [if_neg w] at e
    exact a e
theorem turn_61 {nl : Nat} {W : Nat → Bool} (h : Hst) (w : Wc h nl W) : ∀ (m i n : Nat), i + m = 40 → m < n → lp_X2_lotInTurn_61 n (nI i) h = some (encW (fstW (qW nl W) m i), h)
  | 0, i, n + 1, hi, _ => by
    rw [lp_X2_lotInTurn_61, if_pos (show (40 : Int32) ≤ nI i from nI_le (a := 40) (by omega) (by omega))]
    rfl
  | m + 1, i, n + 1, hi, hn => by
    rw [lp_X2_lotInTurn_61, if_neg (show ¬ (40 : Int32) ≤ nI i from nI_ge (b := 40) (by omega) (by decide)), gck_nI (by omega) (by decide), nI_clamp (by omega), w i (by omega), fstW]
    by_cases q : i < nl ∧ W i = true
    · rw [if_pos q, if_neg (by decide), if_pos (qW_iff.mpr q)]
      rfl
    · rw [if_neg q, if_pos rfl, if_neg (fun x => q (qW_iff.mp x)), nI_1]
      exact turn_61 h w m (i + 1) n (by omega) (by omega)
theorem turn_14 {c : Nat → Int32} {nl : Nat} {W : Nat → Bool} {v : Fin 5} (h : Hst) (e : h.1 8 = c) (w : Wc h nl W) (e2 : h.1 13 2 = nI v.val) : ∀ (m i n : Nat), i + m = 40 → m < n → lp_X2_lotInTurn_14 n (nI i) h = some (encW (match fstW (qV c v nl W) m i with | some l => some l | none => fstW (qW nl W) 40 0), h)
  | 0, i, n + 1, hi, _ => by
    rw [lp_X2_lotInTurn_14, if_pos (show (40 : Int32) ≤ nI i from nI_le (a := 40) (by omega) (by omega))]
    exact turn_61 h w 40 0 FU rfl (by decide)
  | m + 1, i, n + 1, hi, hn => by
    have i40 : i < 40 := by omega
    have ih := turn_14 h e w e2 m (i + 1) n (by omega) (by omega)
    rw [lp_X2_lotInTurn_14, if_neg (show ¬ (40 : Int32) ≤ nI i from nI_ge (b := 40) (by omega) (by decide)), gck_nI (by omega) (by decide), nI_clamp (by omega), w i (by omega), fstW]
    have no : ¬ qV c v nl W i = true → jb_X2_lotInTurn_53 (lp_X2_lotInTurn_14 n) (nI i) h = some (encW (match (if qV c v nl W i = true then some i else fstW (qV c v nl W) m (i + 1)) with | some l => some l | none => fstW (qW nl W) 40 0), h) := fun q => by
      rw [if_neg q]
      unfold jb_X2_lotInTurn_53
      rw [nI_1]
      exact ih
    by_cases q : i < nl ∧ W i = true
    · have g1 : f_X5_get_3 (nI i) 1 h = some (cLo c ⟨i, i40⟩ 1, h) := by rw [← e]; exact get3_1 ⟨i, i40⟩ h
      have lv := lvB_iff c v ⟨i, i40⟩
      rw [if_pos q, if_neg (by decide), g1, gb_some, e2]
      by_cases q1 : cLo c ⟨i, i40⟩ 1 = nI v.val
      · have : qV c v nl W i = true := by
          unfold qV
          rw [qW_iff.mpr q, lv.mpr q1]
          rfl
        rw [if_pos q1, this]
        rfl
      · rw [if_neg q1]
        exact no (fun x => q1 (lv.mp ((Bool.and_eq_true _ _ ▸ x).2)))
    · rw [if_neg q, if_pos rfl]
      exact no (fun x => q (qW_iff.mp ((Bool.and_eq_true _ _ ▸ x).1)))
theorem turn_v {c : Nat → Int32} {nl : Nat} {W : Nat → Bool} {v : Fin 5} {r way : Nat} (hr : r ≤ 50) (hw : way ≤ 2) (h : Hst) (e : h.1 8 = c) (w : Wc h nl W) (e2 : h.1 13 2 = nI v.val) (e3 : h.1 13 3 = nI r) : f_X2_lotInTurn (nI way) h = some (encW (pick c nl W v r way), h) := by
  unfold f_X2_lotInTurn pick jb_X2_lotInTurn_59
  by_cases w1 : way = 1
  · rw [if_pos (by rw [w1]; rfl), e3]
    by_cases r0 : 0 < r
    · rw [if_neg (nI_nle r0 (by omega)), if_pos ⟨w1, r0⟩]
      exact turn_14 h e w e2 40 0 FU rfl (by decide)
    · rw [if_pos (by rw [show r = 0 by omega]; decide), if_neg (fun x => r0 x.2)]
      exact turn_61 h w 40 0 FU rfl (by decide)
  · rw [if_neg (nI_nq 1 1 rfl (by decide) (by omega) w1), if_neg (fun x => w1 x.1)]
    exact turn_61 h w 40 0 FU rfl (by decide)
def LotV (c : Nat → Int32) (l : Fin 40) (u : Fin 5) (due cont f k0 : Nat) : Prop :=
  cLo c l 1 = nI u.val ∧ cLo c l 2 * cVa c u 0 / 100 = nI due ∧ nI due * cLo c l 4 / 1000 = nI cont ∧ nI cont * cS c 1 / 1000 = nI f ∧ f ≤ 12000 ∧ cS c 0 = nI k0 ∧ k0 ≤ 50
theorem lotV {c : Nat → Int32} {ng nl nt : Nat} (I : InvC c ng nl nt) (l : Fin 40) (hl : l.val < nl) : ∃ u due cont f k0, LotV c l u due cont f k0 := by
  obtain ⟨-, ⟨u, eu⟩, ⟨kg, k1, k2⟩, -, ⟨tr, t1, t2⟩, -, -⟩ := I.2.2.2.2.2.2.2.1 l hl
  obtain ⟨y, y1, y2⟩ := I.2.2.2.2.1 u
  obtain ⟨⟨k0, a1, a2⟩, ⟨s1, b1, b2⟩, -⟩ := I.2.2.1
  have p1 : kg * y ≤ 2000 * 400 := Nat.mul_le_mul k1 y1
  have p2 : kg * y / 100 * tr ≤ 8000 * 1500 := Nat.mul_le_mul (by omega) t1
  have p3 : kg * y / 100 * tr / 1000 * s1 ≤ 12000 * 1000 := Nat.mul_le_mul (by omega) b1
  refine ⟨u, kg * y / 100, kg * y / 100 * tr / 1000, kg * y / 100 * tr / 1000 * s1 / 1000, k0, eu, ?_, ?_, ?_, by omega, a2, a1⟩
  · rw [k2, y2, pk_mul]
    exact pk_div (d := 100) (by omega) (by decide) (by decide)
  · rw [t2, pk_mul]
    exact pk_div (d := 1000) (by omega) (by decide) (by decide)
  · rw [b2, pk_mul]
    exact pk_div (d := 1000) (by omega) (by decide) (by decide)
def foR (u v : Fin 5) (r : Nat) : Nat := if v = u then 0 else r
def toR (f : Nat) (u v : Fin 5) (r : Nat) : Nat := f + (r - foR u v r)
def reR (k0 T : Nat) : Nat := if k0 ≤ T then k0 else T
def loR (way F : Nat) : Nat := if way = 2 then 0 else F
def caR (way F : Nat) : Nat := if way = 2 then F else 0
theorem foR_le (u v : Fin 5) (r : Nat) : foR u v r ≤ r := by
  unfold foR
  split <;> omega
theorem toR_le (f : Nat) (u v : Fin 5) (r : Nat) : toR f u v r ≤ f + r := by
  unfold toR
  omega
theorem reR_le (k0 T : Nat) : reR k0 T ≤ T ∧ reR k0 T ≤ k0 := by
  unfold reR
  split <;> omega
theorem caR_le (way F : Nat) : caR way F ≤ F := by
  unfold caR
  split <;> omega
theorem loR_le (way F : Nat) : loR way F ≤ F := by
  unfold loR
  split <;> omega
def wgC (h : Hst) (due cont f : Nat) : Hst := hst (hst (hst h 13 6 (nI due)) 13 7 (nI cont)) 13 8 (nI f)
theorem weigh_v {c : Nat → Int32} {l : Fin 40} {u : Fin 5} {due cont f k0 : Nat} (L : LotV c l u due cont f k0) (h : Hst) (e : h.1 8 = c) (e5 : h.1 13 5 = nI l.val) : f_X2_weigh h = some (wgC h due cont f) := by
  obtain ⟨eu, l1, l2, l3, -⟩ := L
  unfold f_X2_weigh
  rw [e5, get3_1, gb_some, e, eu, get5_0, gb_some, e5, get3_2, gb_some, gd_100, gl_eq, e, l1]
  have a : (hst h 13 6 (nI due)).1 13 5 = nI l.val := e5
  have a8 : (hst h 13 6 (nI due)).1 8 = c := e
  have a6 : (hst h 13 6 (nI due)).1 13 6 = nI due := rfl
  rw [a, get3_4, gb_some, a8, a6, gd_1000, gl_eq, l2]
  have b8 : (hst (hst h 13 6 (nI due)) 13 7 (nI cont)).1 8 = c := e
  have b7 : (hst (hst h 13 6 (nI due)) 13 7 (nI cont)).1 13 7 = nI cont := rfl
  rw [row6_1, gb_some, b8, b7, gd_1000, gl_eq, l3]
  rfl
def psC (h : Hst) (u v : Fin 5) (L C T Re : Nat) : Hst := hst (hst (hst (hst (hst (hst h 13 9 (nI L)) 13 10 (nI C)) 13 4 (nI v.val)) 13 2 (nI u.val)) 13 3 (nI Re)) 13 11 (nI (C + T - Re))
theorem ps_71 {c : Nat → Int32} {u v : Fin 5} {k0 T C : Nat} (ek : cS c 0 = nI k0) (hk : k0 ≤ 50) (hT : T ≤ 20000) (h : Hst) (e : h.1 8 = c) (e2 : h.1 13 2 = nI v.val) : jb_X2_passThroughMill_71 (nI u.val) (nI T) (nI C) h = some (hst (hst (hst (hst (hst h 13 10 (nI C)) 13 4 (nI v.val)) 13 2 (nI u.val)) 13 3 (nI (reR k0 T))) 13 11 (nI (C + T - reR k0 T))) := by
  unfold jb_X2_passThroughMill_71
  have a2 : (hst h 13 10 (nI C)).1 13 2 = nI v.val := e2
  rw [gl_eq, a2, gl_eq, gl_eq, row6_0, gb_some]
  have a8 : (hst (hst (hst h 13 10 (nI C)) 13 4 (nI v.val)) 13 2 (nI u.val)).1 8 = c := e
  rw [a8, ek, gl_eq]
  have m : (if nI k0 < nI T then nI k0 else nI T) = nI (reR k0 T) := by
    unfold reR
    by_cases q : k0 < T
    · rw [if_pos (nI_lt q (by omega)), if_pos (by omega)]
    · rw [if_neg (nI_nlt (by omega) (by omega))]
      by_cases q2 : k0 ≤ T
      · rw [if_pos q2, show k0 = T by omega]
      · rw [if_neg q2]
  rw [m]
  have b10 : (hst (hst (hst (hst h 13 10 (nI C)) 13 4 (nI v.val)) 13 2 (nI u.val)) 13 3 (nI (reR k0 T))).1 13 10 = nI C := rfl
  have b3 : (hst (hst (hst (hst h 13 10 (nI C)) 13 4 (nI v.val)) 13 2 (nI u.val)) 13 3 (nI (reR k0 T))).1 13 3 = nI (reR k0 T) := rfl
  rw [b10, b3, nI_add, pk_sub (by have := (reR_le k0 T).1; omega), gl_eq]
theorem ps_57 {c : Nat → Int32} {u v : Fin 5} {k0 T F L way : Nat} (hw : way ≤ 2) (ek : cS c 0 = nI k0) (hk : k0 ≤ 50) (hT : T ≤ 20000) (h : Hst) (e : h.1 8 = c) (e2 : h.1 13 2 = nI v.val) : jb_X2_passThroughMill_57 (nI way) (nI u.val) (nI F) (nI T) (nI L) h = some (psC h u v L (caR way F) T (reR k0 T)) := by
  unfold jb_X2_passThroughMill_57 caR
  rw [gl_eq]
  by_cases w : way = 2
  · rw [if_pos (by rw [w]; rfl), if_pos w]
    exact ps_71 ek hk hT _ e e2
  · rw [if_neg (nI_nq 2 2 rfl (by decide) (by omega) w), if_neg w]
    exact ps_71 (C := 0) ek hk hT _ e e2
theorem ps_32 {c : Nat → Int32} {u v : Fin 5} {k0 f r F way : Nat} (hw : way ≤ 2) (hF : F ≤ r) (ek : cS c 0 = nI k0) (hk : k0 ≤ 50) (hf : f ≤ 12000) (hr : r ≤ 50) (h : Hst) (e : h.1 8 = c) (e2 : h.1 13 2 = nI v.val) (e3 : h.1 13 3 = nI r) (e8 : h.1 13 8 = nI f) : jb_X2_passThroughMill_32 (nI way) (nI u.val) (nI F) h = some (psC h u v (loR way F) (caR way F) (f + (r - F)) (reR k0 (f + (r - F)))) := by
  unfold jb_X2_passThroughMill_32 loR
  rw [e8, e3, nI_add, pk_sub (by omega), show f + r - F = f + (r - F) by omega, gl_eq]
  by_cases w : way = 2
  · rw [if_pos (by rw [w]; rfl), if_pos w]
    exact ps_57 (L := 0) hw ek hk (by omega) h e e2
  · rw [if_neg (nI_nq 2 2 rfl (by decide) (by omega) w), if_neg w]
    exact ps_57 hw ek hk (by omega) h e e2
theorem passThrough_v {c : Nat → Int32} {l : Fin 40} {u v : Fin 5} {due cont f k0 r way : Nat} (L : LotV c l u due cont f k0) (hw : way ≤ 2) (hr : r ≤ 50) (h : Hst) (e : h.1 8 = c) (e5 : h.1 13 5 = nI l.val) (e2 : h.1 13 2 = nI v.val) (e3 : h.1 13 3 = nI r) (e8 : h.1 13 8 = nI f) :
    f_X2_passThroughMill (nI way) h = some (psC h u v (loR way (foR u v r)) (caR way (foR u v r)) (toR f u v r) (reR k0 (toR f u v r))) := by
  obtain ⟨eu, -, -, -, hf, ek, hk⟩ := L
  unfold f_X2_passThroughMill
  rw [e5, get3_1, gb_some, e, eu, e2]
  unfold toR
  have fl := foR_le u v r
  by_cases q : v = u
  · have q0 : foR u v r = 0 := if_pos q
    rw [if_pos (by rw [q]), q0]
    exact ps_32 (F := 0) hw (by omega) ek hk hf hr h e e2 e3 e8
  · have q0 : foR u v r = r := if_neg q
    rw [if_neg (fun x => q (Fin.ext (nI_inj (by omega) (by omega) x))), e3, q0]
    exact ps_32 hw (Nat.le_refl _) ek hk hf hr h e e2 e3 e8
def stC (h : Hst) (l : Fin 40) (u v : Fin 5) (due cont f L C T Re : Nat) : Hst := psC (wgC (hst (hst h 13 5 (nI l.val)) 14 l.val 0) due cont f) u v L C T Re
theorem step_none {c : Nat → Int32} {nl : Nat} {W : Nat → Bool} {v : Fin 5} {r way : Nat} (hr : r ≤ 50) (hw : way ≤ 2) (h : Hst) (e : h.1 8 = c) (w : Wc h nl W) (e2 : h.1 13 2 = nI v.val) (e3 : h.1 13 3 = nI r) (p : pick c nl W v r way = none) : f_X2_step (nI way) h = some (0, hst h 13 5 (-1)) := by
  unfold f_X2_step
  rw [turn_v hr hw h e w e2 e3, p, gb_some, gl_eq]
  show (if (-1 : Int32) < 0 then _ else _) = _
  rw [if_pos (by decide)]
  rfl
theorem step_some {c : Nat → Int32} {nl : Nat} {W : Nat → Bool} {l : Fin 40} {u v : Fin 5} {due cont f k0 r way : Nat} (L : LotV c l u due cont f k0) (hr : r ≤ 50) (hw : way ≤ 2) (h : Hst) (e : h.1 8 = c) (w : Wc h nl W) (e2 : h.1 13 2 = nI v.val) (e3 : h.1 13 3 = nI r) (p : pick c nl W v r way = some l.val) :
    f_X2_step (nI way) h = some (1, stC h l u v due cont f (loR way (foR u v r)) (caR way (foR u v r)) (toR f u v r) (reR k0 (toR f u v r))) := by
  unfold f_X2_step
  have hl := l.isLt
  rw [turn_v hr hw h e w e2 e3, p, gb_some, gl_eq]
  show (if nI l.val < 0 then _ else if nI l.val < 40 then gck (nI l.val) 40 (gl (hst (hst h 13 5 (nI l.val)) 14 (nI l.val).toNatClampNeg 0) _) else _) = _
  rw [if_neg (nI_pos (by omega)), if_pos (show nI l.val < 40 from nI_lt (b := 40) hl (by decide)), gck_nI hl (by decide), nI_clamp (by omega), gl_eq, weigh_v L _ (by exact e) (by rfl), gbv_some, passThrough_v L hw hr _ (by exact e) (by rfl) (by exact e2) (by exact e3) (by rfl), gbv_some, gzr_1]
  rfl
def RehC (h : Hst) (l : Fin 40) (u v : Fin 5) (due cont f L C T Re : Nat) : Prop :=
  h.1 13 2 = nI u.val ∧ h.1 13 3 = nI Re ∧ h.1 13 4 = nI v.val ∧ h.1 13 5 = nI l.val ∧ h.1 13 6 = nI due ∧ h.1 13 7 = nI cont ∧ h.1 13 8 = nI f ∧ h.1 13 9 = nI L ∧ h.1 13 10 = nI C ∧ h.1 13 11 = nI (C + (T - Re))
theorem stC_reh (h : Hst) (l : Fin 40) (u v : Fin 5) (due cont f L C T Re : Nat) (hR : Re ≤ T) : RehC (stC h l u v due cont f L C T Re) l u v due cont f L C T Re :=
  ⟨rfl, rfl, rfl, rfl, rfl, rfl, rfl, rfl, rfl, by rw [← (show C + T - Re = C + (T - Re) by omega)]; rfl⟩
theorem stC_2 (h : Hst) (l : Fin 40) (u v : Fin 5) (due cont f L C T Re : Nat) : (stC h l u v due cont f L C T Re).2 = h.2 := rfl
theorem stC_k (h : Hst) (l : Fin 40) (u v : Fin 5) (due cont f L C T Re : Nat) (k : Nat) (h3 : k ≠ 13) (h4 : k ≠ 14) : (stC h l u v due cont f L C T Re).1 k = h.1 k := by
  unfold stC psC wgC
  simp only [hst_at, if_neg h3, if_neg h4]
theorem lo_ca_0 {way : Nat} {u v : Fin 5} {r : Nat} (h : r = 0) : loR way (foR u v r) = 0 ∧ caR way (foR u v r) = 0 := by
  have := foR_le u v r
  have := loR_le way (foR u v r)
  have := caR_le way (foR u v r)
  omega
theorem ahead_pc {c : Nat → Int32} {ng nl nt : Nat} (I : InvC c ng nl nt) {v : Fin 5} {r way : Nat} (ev : cS c 10 = nI v.val) (er : cS c 11 = nI r) (ew : cS c 5 = nI way) (h : Hst) (e : h.1 8 = c) :
    ∃ h0, ScrC h h0 ∧ h0.1 8 = c ∧ Wc h0 nl (wB c) ∧ h0.1 13 2 = nI v.val ∧ h0.1 13 3 = nI r ∧ f_X2_lookAhead h = gb (f_X2_step (nI way) h0) fun x5 h4 => gzr x5 (some (x5, h4)) := by
  obtain ⟨h0, e0, a1, a2, a3, a4, a5⟩ := begin_v I h e
  have e8 : h0.1 8 = c := (a2 8 (by decide) (by decide)).trans e
  refine ⟨h0, ⟨a1, fun k hk => a2 k (by omega) (by omega)⟩, e8, a3, a4.trans ev, a5.trans er, ?_⟩
  unfold f_X2_lookAhead
  rw [e0, gbv_some, row6_5, gb_some, e8, ew]
theorem ahead_none {c : Nat → Int32} {ng nl nt : Nat} (I : InvC c ng nl nt) {v : Fin 5} {r way : Nat} (ev : cS c 10 = nI v.val) (er : cS c 11 = nI r) (hr : r ≤ 50) (ew : cS c 5 = nI way) (hw : way ≤ 2) (p : pick c nl (wB c) v r way = none) (h : Hst) (e : h.1 8 = c) : ∃ h', f_X2_lookAhead h = some (0, h') ∧ ScrC h h' := by
  obtain ⟨h0, s, e8, w, e2, e3, eq⟩ := ahead_pc I ev er ew h e
  refine ⟨_, ?_, s.trans (b := h0) (c := hst h0 13 5 (-1)) ⟨rfl, fun k hk => by rw [hst_at, if_neg (by omega)]⟩⟩
  rw [eq, step_none hr hw h0 e8 w e2 e3 p, gb_some, gzr_0]
theorem ahead_some {c : Nat → Int32} {ng nl nt : Nat} (I : InvC c ng nl nt) {l : Fin 40} {u v : Fin 5} {due cont f k0 r way : Nat} (LV : LotV c l u due cont f k0) (ev : cS c 10 = nI v.val) (er : cS c 11 = nI r) (hr : r ≤ 50) (ew : cS c 5 = nI way) (hw : way ≤ 2) (p : pick c nl (wB c) v r way = some l.val) (h : Hst) (e : h.1 8 = c) :
    ∃ h', f_X2_lookAhead h = some (1, h') ∧ ScrC h h' ∧ RehC h' l u v due cont f (loR way (foR u v r)) (caR way (foR u v r)) (toR f u v r) (reR k0 (toR f u v r)) := by
  obtain ⟨h0, s, e8, w, e2, e3, eq⟩ := ahead_pc I ev er ew h e
  refine ⟨_, ?_, s.trans (b := h0) (c := stC h0 l u v due cont f _ _ _ _) ⟨stC_2 _ _ _ _ _ _ _ _ _ _ _, fun k hk => stC_k _ _ _ _ _ _ _ _ _ _ _ k (by omega) (by omega)⟩, stC_reh _ _ _ _ _ _ _ _ _ _ _ (reR_le _ _).1⟩
  rw [eq, step_some LV hr hw h0 e8 w e2 e3 p, gb_some, gzr_1]
theorem next_none {c : Nat → Int32} {ng nl nt : Nat} (I : InvC c ng nl nt) {v : Fin 5} {r way : Nat} (ev : cS c 10 = nI v.val) (er : cS c 11 = nI r) (hr : r ≤ 50) (ew : cS c 5 = nI way) (hw : way ≤ 2) (p : pick c nl (wB c) v r way = none) (h : Hst) (e : h.1 8 = c) : ∃ h', f_X6_next 2 h = some (-1, h') ∧ ScrC h h' := by
  obtain ⟨h', e', s'⟩ := ahead_none I ev er hr ew hw p h e
  refine ⟨h', ?_, s'⟩
  unfold f_X6_next
  rw [show f_X6_isOutside 2 0 4 h = some (0, h) from isOut_gd (n := 2) (lo := 0) (hi := 4) (by decide) (by decide) (by decide) h, gb_some, if_pos rfl, e', gb_some, if_pos rfl]
theorem next_some {c : Nat → Int32} {ng nl nt : Nat} (I : InvC c ng nl nt) {l : Fin 40} {u v : Fin 5} {due cont f k0 r way : Nat} (LV : LotV c l u due cont f k0) (ev : cS c 10 = nI v.val) (er : cS c 11 = nI r) (hr : r ≤ 50) (ew : cS c 5 = nI way) (hw : way ≤ 2) (p : pick c nl (wB c) v r way = some l.val) {q : Nat} (hq : q ≤ 4) (h : Hst) (e : h.1 8 = c) :
    ∃ h', f_X6_next (nI q) h = some (if q = 0 then nI l.val else if q = 1 then nI f else if q = 2 then nI (caR way (foR u v r) + (toR f u v r - reR k0 (toR f u v r))) else if q = 3 then nI (loR way (foR u v r)) else nI (reR k0 (toR f u v r)), h') ∧ ScrC h h' := by
  have o : ∀ h, f_X6_isOutside (nI q) 0 4 h = some (0, h) := fun h => isOut_gd (lo := 0) (hi := 4) (Nat.zero_le _) hq (by decide) h
  obtain ⟨h', e', s', r2, r3, r4, r5, r6, r7, r8, r9, r10, r11⟩ := ahead_some I LV ev er hr ew hw p h e
  refine ⟨h', ?_, s'⟩
  unfold f_X6_next
  rw [o, gb_some, if_pos rfl, e', gb_some, if_neg (by decide), r3, r5, r8, r9, r11]
  have : q = 0 ∨ q = 1 ∨ q = 2 ∨ q = 3 ∨ q = 4 := by omega
  rcases this with rfl | rfl | rfl | rfl | rfl <;> rfl
def rpV (c : Nat → Int32) (t : Fin 6) (l : Fin 40) (P : Nat) (m : Int32) : Int32 :=
  if nI P ≤ roomV c t then (if nI P ≤ 0 then 0 else if adm (grd (oil5 c t) (cTa c t 1)) (gl3 (cLo c l 3)) m = 0 then 3 else 0) else 2
theorem reas_C {c : Nat → Int32} {ng nl nt : Nat} (I : InvC c ng nl nt) (t : Fin 6) {l : Fin 40} {P : Nat} {h h' : Hst} (ea : f_X2_lookAhead h = some (1, h')) (e8 : h'.1 8 = c) (r5 : h'.1 13 5 = nI l.val) (r11 : h'.1 13 11 = nI P) (m : Int32) : f_X6_reasonAgainstPress (nI t.val) m h = some (rpV c t l P m, h') := by
  have hT : TankI c t := I.2.2.2.2.2.2.2.2.2 t
  unfold f_X6_reasonAgainstPress jb_X6_reasonAgainstPress_70
  rw [ea, gb_some, if_neg (by decide), roomOf, gb_some, r11, r5, e8]
  show (if nI P ≤ roomV c t then _ else _) = _
  unfold rpV
  by_cases q : nI P ≤ roomV c t
  · rw [if_pos q, if_pos q]
    by_cases q0 : nI P ≤ 0
    · rw [if_pos q0, if_pos q0]
    · rw [if_neg q0, if_neg q0, gradeOfLot, gb_some, e8, admits t (by rw [e8]; exact hT), gb_some, e8]
      by_cases q1 : adm (grd (oil5 c t) (cTa c t 1)) (gl3 (cLo c l 3)) m = 0
      · rw [if_pos q1, if_pos q1]
      · rw [if_neg q1, if_neg q1]
  · rw [if_neg q, if_neg q]
theorem whyNot_none {c : Nat → Int32} {ng nl nt : Nat} (I : InvC c ng nl nt) {v : Fin 5} {r way : Nat} (ev : cS c 10 = nI v.val) (er : cS c 11 = nI r) (hr : r ≤ 50) (ew : cS c 5 = nI way) (hw : way ≤ 2) (p : pick c nl (wB c) v r way = none) (t : Fin 6) (ht : t.val < nt) (m : Int32) (h : Hst) (e : h.1 8 = c) : ∃ h', f_X6_whyNot (nI t.val) m h = some (1, h') ∧ ScrC h h' := by
  obtain ⟨h', e', s'⟩ := ahead_none I ev er hr ew hw p h e
  refine ⟨h', ?_, s'⟩
  unfold f_X6_whyNot f_X6_reasonAgainstPress
  rw [checkTank_gd I.1.2.2 (by rw [e]; exact I.2.1.2.2) ht, gbv_some, e', gb_some, if_pos rfl, gb_some]
theorem whyNot_some {c : Nat → Int32} {ng nl nt : Nat} (I : InvC c ng nl nt) {l : Fin 40} {u v : Fin 5} {due cont f k0 r way : Nat} (LV : LotV c l u due cont f k0) (ev : cS c 10 = nI v.val) (er : cS c 11 = nI r) (hr : r ≤ 50) (ew : cS c 5 = nI way) (hw : way ≤ 2) (p : pick c nl (wB c) v r way = some l.val) (t : Fin 6) (ht : t.val < nt) (m : Int32) (h : Hst) (e : h.1 8 = c) :
    ∃ h', f_X6_whyNot (nI t.val) m h = some (rpV c t l (caR way (foR u v r) + (toR f u v r - reR k0 (toR f u v r))) m, h') ∧ ScrC h h' := by
  obtain ⟨h', e', s', r2, r3, r4, r5, r6, r7, r8, r9, r10, r11⟩ := ahead_some I LV ev er hr ew hw p h e
  refine ⟨h', ?_, s'⟩
  unfold f_X6_whyNot
  rw [checkTank_gd I.1.2.2 (by rw [e]; exact I.2.1.2.2) ht, gbv_some, reas_C I t e' (s'.e8.trans e) r5 r11, gb_some]
