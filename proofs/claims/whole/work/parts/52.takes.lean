-- the model takes a character
def fl (f : Nat) (C : Prop) [Decidable C] : Nat := if f = 1 ∨ C then 1 else 0
theorem fl_1 (f : Nat) (C : Prop) [Decidable C] : fl f C = 1 ↔ f = 1 ∨ C := by
  unfold fl
  by_cases h : f = 1 ∨ C
  · rw [if_pos h]; exact ⟨fun _ => h, fun _ => rfl⟩
  · rw [if_neg h]; exact ⟨fun z => absurd z (by decide), fun z => absurd z h⟩
theorem fl_le (f : Nat) (C : Prop) [Decidable C] : fl f C ≤ 1 := by
  unfold fl
  split <;> omega
theorem cbt_step (n v f b j : Nat) (h : Hst) (hj : j < 4) (hf : f ≤ 1) (hv : v ≤ 30000) (b1 : 1 ≤ b) (b2 : b ≤ 1000) : lp_X7_canBeTruth_6 (n + 1) (nI v) (nI f) (nI b) (nI j) h = lp_X7_canBeTruth_6 n (nI v) (nI (fl f (0 < v ∧ v * b ≤ 1500 ∧ 500 ≤ v * b + b - 1))) (nI (b * 10)) (nI (j + 1)) h := by
  have vb : v * b ≤ 30000 * 1000 := Nat.mul_le_mul hv b2
  have t : ∀ s, jb_X7_canBeTruth_46 (lp_X7_canBeTruth_6 n) (nI v) (nI b) (nI j) s h = lp_X7_canBeTruth_6 n (nI v) s (nI (b * 10)) (nI (j + 1)) h := fun s => by
    unfold jb_X7_canBeTruth_46
    rw [show (10 : Int32) = nI 10 from rfl, pk_mul, gl_eq, nI_1]
  rw [lp_X7_canBeTruth_6, if_neg (show ¬ (4 : Int32) ≤ nI j from nI_ge (b := 4) hj (by decide))]
  unfold jb_X7_canBeTruth_41 jb_X7_canBeTruth_45
  rw [t, t, pk_mul, nI_add, show nI (v * b + b) - 1 = nI (v * b + b - 1) from pk_sub (b := 1) (by omega)]
  have : f = 0 ∨ f = 1 := by omega
  rcases this with rfl | rfl
  · rw [if_pos (show nI 0 = 0 from rfl)]
    by_cases v0 : 0 < v
    · rw [if_neg (nI_nle v0 (by omega))]
      by_cases c : v * b ≤ 1500
      · rw [if_neg (show ¬ (1500 : Int32) < nI (v * b) from nI_nlt (a := 1500) c (by decide))]
        by_cases d : 500 ≤ v * b + b - 1
        · rw [if_neg (show ¬ nI (v * b + b - 1) < 500 from nI_nlt (b := 500) d (by omega)), (fl_1 0 _).mpr (.inr ⟨v0, c, d⟩)]
          rfl
        · rw [if_pos (show nI (v * b + b - 1) < 500 from nI_lt (b := 500) (by omega) (by decide)), show fl 0 (0 < v ∧ v * b ≤ 1500 ∧ 500 ≤ v * b + b - 1) = 0 from if_neg (fun z => z.elim (by decide) (fun y => d y.2.2))]
          rfl
      · rw [if_pos (show (1500 : Int32) < nI (v * b) from nI_lt (a := 1500) (by omega) (by omega)), show fl 0 (0 < v ∧ v * b ≤ 1500 ∧ 500 ≤ v * b + b - 1) = 0 from if_neg (fun z => z.elim (by decide) (fun y => c y.2.1))]
        rfl
    · rw [if_pos (show nI v ≤ 0 by rw [show v = 0 by omega]; decide), show fl 0 (0 < v ∧ v * b ≤ 1500 ∧ 500 ≤ v * b + b - 1) = 0 from if_neg (fun z => z.elim (by decide) (fun y => v0 y.1))]
      rfl
  · rw [if_neg (show ¬ nI 1 = 0 by decide), (fl_1 1 _).mpr (.inl rfl)]
    rfl
theorem cbt_v {v : Nat} (h : Hst) (hv : v ≤ 30000) : f_X7_canBeTruth (nI v) h = some (if okS v 500 1500 = true then 1 else 0, h) := by
  unfold f_X7_canBeTruth
  rw [FU_5, show (0 : Int32) = nI 0 from rfl, show (1 : Int32) = nI 1 from rfl, cbt_step _ v 0 1 0 h (by decide) (by decide) hv (by decide) (by decide), cbt_step _ v _ (1 * 10) 1 h (by decide) (fl_le _ _) hv (by decide) (by decide), cbt_step _ v _ (1 * 10 * 10) 2 h (by decide) (fl_le _ _) hv (by decide) (by decide), cbt_step _ v _ (1 * 10 * 10 * 10) 3 h (by decide) (fl_le _ _) hv (by decide) (by decide)]
  generalize hf : fl (fl (fl (fl 0 (0 < v ∧ v * 1 ≤ 1500 ∧ 500 ≤ v * 1 + 1 - 1)) (0 < v ∧ v * (1 * 10) ≤ 1500 ∧ 500 ≤ v * (1 * 10) + 1 * 10 - 1)) (0 < v ∧ v * (1 * 10 * 10) ≤ 1500 ∧ 500 ≤ v * (1 * 10 * 10) + 1 * 10 * 10 - 1)) (0 < v ∧ v * (1 * 10 * 10 * 10) ≤ 1500 ∧ 500 ≤ v * (1 * 10 * 10 * 10) + 1 * 10 * 10 * 10 - 1) = f
  have f1 : f ≤ 1 := by rw [← hf]; exact fl_le _ _
  have fi : f = 1 ↔ okS v 500 1500 = true := by
    rw [← hf, fl_1, fl_1, fl_1, fl_1, okS_iff]
    omega
  rw [lp_X7_canBeTruth_6, if_pos (show (4 : Int32) ≤ nI (3 + 1) by decide)]
  by_cases o : okS v 500 1500 = true
  · rw [fi.mpr o, if_pos o]
    rfl
  · have : f = 0 := by
      have : ¬ f = 1 := fun z => o (fi.mp z)
      omega
    rw [this, if_neg o]
    rfl
def OnM (h h' : Hst) : Prop := h'.2 = h.2 ∧ (∀ k, k ≠ 17 → k ≠ 24 → h'.1 k = h.1 k) ∧ ∀ j, j < 19 ∨ 21 < j → h'.1 17 j = h.1 17 j
theorem OnM.rf {h : Hst} : OnM h h := ⟨rfl, fun _ _ _ => rfl, fun _ _ => rfl⟩
theorem OnM.trans {a b c : Hst} (p : OnM a b) (q : OnM b c) : OnM a c := ⟨q.1.trans p.1, fun k h1 h2 => (q.2.1 k h1 h2).trans (p.2.1 k h1 h2), fun j hj => (q.2.2 j hj).trans (p.2.2 j hj)⟩
theorem OnM.st {h : Hst} (j : Nat) (x : Int32) (hj : 19 ≤ j ∧ j ≤ 21) : OnM h (hst h 17 j x) := ⟨rfl, fun k h1 _ => by rw [hst_at, if_neg h1], fun i hi => by
  show upd (h.1 17) j x i = _
  rw [upd_at, if_neg (by omega)]⟩
theorem OnM.st24 {h : Hst} (j : Nat) (x : Int32) : OnM h (hst h 24 j x) := ⟨rfl, fun k _ h2 => by rw [hst_at, if_neg h2], fun i hi => rfl⟩
theorem OnM.scr {h h' : Hst} (p : OnM h h') : ScrM h h' := ⟨p.1, fun k hk => p.2.1 k (by omega) (by omega), p.2.2 1 (by decide), p.2.2 3 (by decide), p.2.2 5 (by decide)⟩
def OutM (h : Hst) (r : Option (Int32 × Hst)) (e : Option PS) : Prop :=
  ∃ b h', r = some (b, h') ∧ OnM h h' ∧ match e with
    | none => b = 0
    | some p' => b = 1 ∧ RdM h' p'
theorem wi9 : ∀ x : Fin 127, (if nI x.val - 48 < 0 then (0 : Int32) else if 9 < nI x.val - 48 then 0 else 1) = if 48 ≤ x.val ∧ x.val ≤ 57 then 1 else 0 := by decide
theorem within9 {x : Nat} (hx : x < 127) (h : Hst) : f_X7_within (nI x - 48) 0 9 h = some (if 48 ≤ x ∧ x ≤ 57 then 1 else 0, h) := by
  rw [within7, wi9 ⟨x, hx⟩]
theorem tdig_bad {x : Nat} (hx : x < 127) (nd : ¬ (48 ≤ x ∧ x ≤ 57)) (H : Hst) : OutM H (f_X7_takesDigit (nI x - 48) H) none := by
  have e : ∀ s, jb_X7_takesDigit_21 (nI x - 48) s H = some (0, hst H 17 20 (H.1 17 20)) := fun s => by
    unfold jb_X7_takesDigit_21 jb_X7_takesDigit_43 jb_X7_takesDigit_44 jb_X7_takesDigit_99 jb_X7_takesDigit_100 jb_X7_takesDigit_114
    rw [within9 hx, if_neg nd, gb_some, if_pos rfl, if_pos rfl, if_pos rfl, gl_eq, gzr_0]
  refine ⟨0, hst H 17 20 (H.1 17 20), ?_, OnM.st 20 _ (by decide), rfl⟩
  unfold f_X7_takesDigit
  rw [e, e]
  split <;> rfl
theorem tdig_M {q x k g v w a : Nat} {o : Option Nat} {F : Nat → Nat → Nat} (q2 : 2 ≤ q) (q4 : q ≤ 4) (hx : 48 ≤ x ∧ x ≤ 57) (hn : ∀ n, o = some n → (q = 2 → 1 ≤ n ∧ n ≤ 2000) ∧ (q = 3 → n ≤ 50) ∧ (q = 4 → n ≤ 1500)) (H : Hst) (D : RdM H (q, o, k, g, v, w, a, F)) : OutM H (f_X7_takesDigit (nI x - 48) H) (stpN x (q, o, k, g, v, w, a, F)) := by
  have gd := getD_le q2 q4 hn
  obtain ⟨d21, d20, d19, dr⟩ := D
  have nv : nxV o x ≤ 30000 := by unfold nxV; omega
  have go : OutM H (jb_X7_takesDigit_44 (nI (nxV o x)) 1 H) (if okS (nxV o x) (lsQ q) (msQ q) = true then some (q, some (nxV o x), k, g, v, w, a, F) else none) := by
    have ok : OutM H (jb_X7_takesDigit_95 (nI (nxV o x)) H) (some (q, some (nxV o x), k, g, v, w, a, F)) := by
      unfold jb_X7_takesDigit_95 jb_X7_takesDigit_100 jb_X7_takesDigit_114
      rw [if_neg (by decide), gl_eq, gzr_1]
      exact ⟨1, _, rfl, OnM.st 20 _ (by decide), rfl, d21, rfl, d19, dr⟩
    have no : OutM H (jb_X7_takesDigit_99 (nI (nxV o x)) H) none := by
      unfold jb_X7_takesDigit_99 jb_X7_takesDigit_100 jb_X7_takesDigit_114
      rw [if_pos rfl, gl_eq, gzr_0]
      exact ⟨0, _, rfl, OnM.st 20 _ (by decide), rfl⟩
    unfold jb_X7_takesDigit_44
    rw [if_neg (by decide), d21]
    have qq : q = 2 ∨ q = 3 ∨ q = 4 := by omega
    rcases qq with rfl | rfl | rfl
    · rw [if_pos (show nI 2 = 2 from rfl), within7]
      have oi := okS_iff (v := nxV o x) (ls := lsQ 2) (ms := msQ 2)
      rw [show lsQ 2 = 1 from rfl, show msQ 2 = 2000 from rfl] at oi ⊢
      by_cases c : 1 ≤ nxV o x ∧ nxV o x ≤ 2000
      · rw [if_pos (oi.mpr (by omega)), if_neg (show ¬ nI (nxV o x) < 1 from nI_nlt (b := 1) c.1 (by omega)), if_neg (show ¬ (2000 : Int32) < nI (nxV o x) from nI_nlt (a := 2000) c.2 (by decide)), gb_some, if_neg (by decide)]
        exact ok
      · rw [if_neg (show ¬ okS (nxV o x) 1 2000 = true from fun z => by have := oi.mp z; omega)]
        by_cases c1 : nxV o x < 1
        · rw [if_pos (show nI (nxV o x) < 1 from nI_lt (b := 1) c1 (by decide)), gb_some, if_pos rfl]
          exact no
        · rw [if_neg (show ¬ nI (nxV o x) < 1 from nI_nlt (b := 1) (by omega) (by omega)), if_pos (show (2000 : Int32) < nI (nxV o x) from nI_lt (a := 2000) (by omega) (by omega)), gb_some, if_pos rfl]
          exact no
    · rw [if_neg (show ¬ nI 3 = 2 by decide), if_pos (show nI 3 = 3 from rfl)]
      have oi := okS_iff (v := nxV o x) (ls := lsQ 3) (ms := msQ 3)
      rw [show lsQ 3 = 0 from rfl, show msQ 3 = 50 from rfl] at oi ⊢
      by_cases c : nxV o x ≤ 50
      · rw [if_pos (oi.mpr (by omega)), if_neg (show ¬ (50 : Int32) < nI (nxV o x) from nI_nlt (a := 50) c (by decide))]
        exact ok
      · rw [if_neg (show ¬ okS (nxV o x) 0 50 = true from fun z => by have := oi.mp z; omega), if_pos (show (50 : Int32) < nI (nxV o x) from nI_lt (a := 50) (by omega) (by omega))]
        exact no
    · rw [if_neg (show ¬ nI 4 = 2 by decide), if_neg (show ¬ nI 4 = 3 by decide), cbt_v H nv, gb_some, show lsQ 4 = 500 from rfl, show msQ 4 = 1500 from rfl]
      by_cases c : okS (nxV o x) 500 1500 = true
      · rw [if_pos c, if_pos c, if_neg (by decide)]
        exact ok
      · rw [if_neg c, if_neg c, if_pos rfl]
        exact no
  have ex : nI x - 48 = nI (x - 48) := pk_sub (b := 48) hx.1
  have w9 := within9 (x := x) (by omega) H
  rw [if_pos hx, ex] at w9
  unfold f_X7_takesDigit jb_X7_takesDigit_21
  rw [stpN_eq, ex, w9]
  cases o with
  | none =>
    rw [d20, if_pos (show numM none = -1 from rfl), gb_some, if_neg (show ¬ (1 : Int32) = 0 by decide), d20, if_neg (show ¬ numM none = 0 by decide), if_neg (show ¬ none = some 0 from fun z => nomatch z)]
    have : nI (x - 48) = nI (nxV none x) := by
      unfold nxV
      rw [show Option.getD none 0 * 10 + (x - 48) = x - 48 from Nat.zero_add _]
    rw [this]
    exact go
  | some n =>
    have nb : n ≤ 2000 := gd
    rw [d20, if_neg (show ¬ numM (some n) = -1 from nI_neM1 (by omega)), gb_some, if_neg (show ¬ (1 : Int32) = 0 by decide), d20]
    by_cases n0 : n = 0
    · subst n0
      rw [if_pos (show numM (some 0) = 0 from rfl), if_pos rfl]
      unfold jb_X7_takesDigit_43 jb_X7_takesDigit_44 jb_X7_takesDigit_99 jb_X7_takesDigit_100 jb_X7_takesDigit_114
      rw [if_pos rfl, if_pos rfl, gl_eq, gzr_0]
      exact ⟨0, _, rfl, OnM.st 20 _ (by decide), rfl⟩
    · have : 10 * numM (some n) + nI (x - 48) = nI (nxV (some n) x) := by
        show nI 10 * nI n + nI (x - 48) = _
        rw [pk_mul, nI_add]
        show nI (10 * n + (x - 48)) = nI (n * 10 + (x - 48))
        rw [Nat.mul_comm]
      rw [if_neg (show ¬ numM (some n) = 0 from nI_ne0 (by omega) (by omega)), if_neg (show ¬ some n = some 0 from fun z => n0 (Option.some.inj z)), this]
      exact go
theorem ends_v {q k nx : Nat} (H : Hst) (hk : 5 * k + q < 60) (d21 : H.1 17 21 = nI q) (d19 : H.1 17 19 = nI k) : f_X7_ends (nI nx) H = some (1, hst (hst (hst H 24 (5 * k + q) (H.1 17 20)) 17 20 (-1)) 17 21 (nI nx)) := by
  unfold f_X7_ends
  rw [d21, d19, show (5 : Int32) = nI 5 from rfl, pk_mul, nI_add, gck_nI hk (by decide), nI_clamp (by omega), gl_eq, gl_eq, gl_eq, gzr_1]
theorem OnM.en {H : Hst} (j : Nat) (x y z : Int32) : OnM H (hst (hst (hst H 24 j x) 17 20 y) 17 21 z) := OnM.trans (OnM.trans (OnM.st24 j x) (OnM.st 20 y (by decide))) (OnM.st 21 z (by decide))
/-- a character that is no digit, no sign that ends a number -/
theorem out178 {x : Nat} (hx : x < 127) (nd : ¬ (48 ≤ x ∧ x ≤ 57)) (H : Hst) : OutM H (jb_X7_takes_178 (nI x) H) none := by
  obtain ⟨b, h', e, s, r⟩ := tdig_bad hx nd H
  change b = 0 at r
  unfold jb_X7_takes_178
  rw [e, gb_some, r, gzr_0]
  exact ⟨0, h', rfl, s, rfl⟩
def enV (q : Nat) : Option Nat → Int32
  | none => 0
  | some n => if q = 3 ∨ (q = 4 ∧ 500 ≤ n) then 1 else 0
theorem enV_1 {q n : Nat} (c : q = 3 ∨ (q = 4 ∧ 500 ≤ n)) : enV q (some n) = 1 := if_pos c
theorem enV_0 {q n : Nat} (c : ¬ (q = 3 ∨ (q = 4 ∧ 500 ≤ n))) : enV q (some n) = 0 := if_neg c
theorem isEnded_v {q : Nat} {o : Option Nat} (H : Hst) (q4 : q ≤ 4) (hn : ∀ n, o = some n → n ≤ 2000) (d21 : H.1 17 21 = nI q) (d20 : H.1 17 20 = numM o) : f_X7_isEnded H = some (enV q o, H) := by
  unfold f_X7_isEnded jb_X7_isEnded_16 jb_X7_isEnded_38 jb_X7_isEnded_34 jb_X7_isEnded_39
  rw [d21]
  cases o with
  | none =>
    have n5 : (numM none) < 500 := by decide
    by_cases q3 : q = 3
    · rw [if_pos (by rw [q3]; rfl), d20, if_pos (show numM none = -1 from rfl), if_neg (by rw [q3]; decide), gzr_0]
      rfl
    · rw [if_neg (nI_nq 3 3 rfl (by decide) (by omega) q3)]
      by_cases q4' : q = 4
      · rw [if_pos (by rw [q4']; rfl), d20, if_pos n5, gzr_0]
        rfl
      · rw [if_neg (nI_nq 4 4 rfl (by decide) (by omega) q4'), gzr_0]
        rfl
  | some n =>
    have nb := hn n rfl
    by_cases q3 : q = 3
    · rw [if_pos (by rw [q3]; rfl), d20, if_neg (show ¬ numM (some n) = -1 from nI_neM1 (by omega)), enV_1 (.inl q3), gzr_1]
    · rw [if_neg (nI_nq 3 3 rfl (by decide) (by omega) q3)]
      by_cases q4' : q = 4
      · rw [if_pos (by rw [q4']; rfl), d20]
        by_cases c : 500 ≤ n
        · rw [if_neg (show ¬ numM (some n) < 500 from nI_nlt (b := 500) c (by omega)), enV_1 (.inr ⟨q4', c⟩), gzr_1]
        · rw [if_pos (show numM (some n) < 500 from nI_lt (b := 500) (by omega) (by decide)), enV_0 (fun z => z.elim q3 (fun y => c y.2)), gzr_0]
      · rw [if_neg (nI_nq 4 4 rfl (by decide) (by omega) q4'), enV_0 (fun z => z.elim q3 (fun y => q4' y.1)), gzr_0]
theorem tsign_M {i q x k g v w a : Nat} {o : Option Nat} {F : Nat → Nat → Nat} (i60 : i ≤ 60) (q2 : 2 ≤ q) (q4 : q ≤ 4) (hw : 6 * k + wgt q o ≤ i) (hx : x < 127) (nd : ¬ (48 ≤ x ∧ x ≤ 57)) (hn : ∀ n, o = some n → (q = 2 → 1 ≤ n ∧ n ≤ 2000) ∧ (q = 3 → n ≤ 50) ∧ (q = 4 → n ≤ 1500)) (H : Hst) (D : RdM H (q, o, k, g, v, w, a, F)) :
    OutM H (if nI x = 47 then (if nI q = 2 then (if H.1 17 20 = -1 then jb_X7_takes_119 (nI x) H else gb (f_X7_ends 3 H) fun x2 h1 => gzr x2 (some (x2, h1))) else jb_X7_takes_119 (nI x) H) else jb_X7_takes_119 (nI x) H) (stpS x (q, o, k, g, v, w, a, F)) := by
  obtain ⟨d21, d20, d19, p0, p1, p2, p3, pF⟩ := D
  have bad := out178 hx nd H
  have hn2 : ∀ n, o = some n → n ≤ 2000 := fun n e => by have := hn n e; omega
  have ie := isEnded_v (o := o) H q4 hn2 d21 d20
  have k5 : 5 * k + q < 60 := by
    unfold wgt at hw
    rw [if_neg (by omega)] at hw
    split at hw <;> omega
  obtain ⟨a0, a4⟩ := p0 (by omega)
  have a1 := p1 q2
  unfold jb_X7_takes_119
  rw [d21]
  cases o with
  | none =>
    have b147 : OutM H (jb_X7_takes_147 (nI x) H) none := by
      unfold jb_X7_takes_147
      rw [ie, gb_some, if_pos (show enV q none = 0 from rfl)]
      split <;> exact bad
    rw [stpS_no, d20, if_pos (show numM none = -1 from rfl), if_pos (show numM none = -1 from rfl)]
    split <;> (try split) <;> (try split) <;> (try split) <;> exact b147
  | some n =>
    have nb := hn2 n rfl
    have nm : H.1 17 20 = nI n := d20
    have nM : ¬ H.1 17 20 = -1 := by rw [nm]; exact nI_neM1 (by omega)
    rw [stpS_eq, if_neg nM, if_neg nM]
    have fin : ∀ (q' : Nat) (b : Bool), q = 3 ∨ (q = 4 ∧ 500 ≤ n) → x = 59 → OutM H (jb_X7_takes_147 (nI x) H) (some (finP n (q, some n, k, g, v, w, a, F))) := fun _ _ c x59 => by
      unfold jb_X7_takes_147
      rw [if_pos (by rw [x59]; rfl), ie, gb_some]
      rw [enV_1 c, if_neg (show ¬ (1 : Int32) = 0 by decide), show (0 : Int32) = nI 0 from rfl, ends_v H k5 d21 d19, gb_some, nm]
      have e19 : (hst (hst (hst H 24 (5 * k + q) (nI n)) 17 20 (-1)) 17 21 (nI 0)).1 17 19 = nI k := d19
      rw [e19, nI_1, gl_eq, gzr_1]
      refine ⟨1, _, rfl, OnM.trans (OnM.en _ _ _ _) (OnM.st 19 _ (by decide)), rfl, rfl, rfl, rfl, fun z => absurd z (by decide), fun z => absurd z (by decide), fun z => absurd z (by decide), fun z => absurd z (by decide), fun j c' hj hc => ?_⟩
      show upd (H.1 24) (5 * k + q) (nI n) (5 * j + c') = nI (if j = k then slF q n g v w a c' else F j c')
      rw [upd_at]
      by_cases jk : j = k
      · subst jk
        rw [if_pos rfl]
        have cc : c' = 0 ∨ c' = 1 ∨ c' = 2 ∨ c' = 3 ∨ c' = 4 := by omega
        rcases cc with rfl | rfl | rfl | rfl | rfl
        · rw [if_neg (by omega)]; exact a0
        · rw [if_neg (by omega)]; exact a1
        · rw [if_neg (by omega)]; exact p2 (by omega)
        · show (if 5 * j + 3 = 5 * j + q then nI n else H.1 24 (5 * j + 3)) = nI (if q = 3 then n else a)
          by_cases q3 : q = 3
          · rw [if_pos (by omega), if_pos q3]
          · rw [if_neg (by omega), if_neg q3]; exact p3 (by omega)
        · show (if 5 * j + 4 = 5 * j + q then nI n else H.1 24 (5 * j + 4)) = nI (if q = 3 then 1000 else n)
          by_cases q3 : q = 3
          · rw [if_neg (by omega), if_pos q3]; exact a4
          · rw [if_pos (by omega), if_neg q3]
      · rw [if_neg jk, if_neg (by omega)]
        exact pF j c' (by omega) hc
    have b147 : ¬ ((q = 3 ∨ (q = 4 ∧ 500 ≤ n)) ∧ x = 59) → OutM H (jb_X7_takes_147 (nI x) H) none := fun c => by
      unfold jb_X7_takes_147
      rw [ie, gb_some]
      by_cases x59 : x = 59
      · rw [if_pos (show nI x = 59 by rw [x59]; rfl), enV_0 (fun z => c ⟨z, x59⟩), if_pos rfl]
        exact bad
      · rw [if_neg (nI_nq 59 59 rfl (by decide) (by omega) x59)]
        exact bad
    have qq : q = 2 ∨ q = 3 ∨ q = 4 := by omega
    rcases qq with rfl | rfl | rfl
    · rw [if_pos (show nI 2 = 2 from rfl), if_neg (show ¬ nI 2 = 3 by decide), if_pos (show 2 = 2 from rfl)]
      by_cases c : x = 47
      · subst c
        rw [if_pos (show nI 47 = 47 from rfl), if_pos rfl, show (3 : Int32) = nI 3 from rfl, ends_v H k5 d21 d19, gb_some, gzr_1, nm]
        refine ⟨1, _, rfl, OnM.en _ _ _ _, rfl, rfl, rfl, d19, fun _ => ⟨?_, ?_⟩, fun _ => ?_, fun _ => ?_, fun z => absurd z (by decide), fun j c hj hc => ?_⟩
        · show upd (H.1 24) (5 * k + 2) (nI n) (5 * k) = _
          rw [upd_at, if_neg (by omega)]; exact a0
        · show upd (H.1 24) (5 * k + 2) (nI n) (5 * k + 4) = _
          rw [upd_at, if_neg (by omega)]; exact a4
        · show upd (H.1 24) (5 * k + 2) (nI n) (5 * k + 1) = _
          rw [upd_at, if_neg (by omega)]; exact a1
        · show upd (H.1 24) (5 * k + 2) (nI n) (5 * k + 2) = _
          rw [upd_at, if_pos rfl]
        · show upd (H.1 24) (5 * k + 2) (nI n) (5 * j + c) = _
          rw [upd_at, if_neg (by omega)]; exact pF j c hj hc
      · rw [if_neg (nI_nq 47 47 rfl (by decide) (by omega) c), if_neg c]
        split <;> exact b147 (fun z => by omega)
    · rw [if_neg (show ¬ nI 3 = 2 by decide), if_pos (show nI 3 = 3 from rfl), if_neg (show ¬ 3 = 2 by decide), if_pos (show 3 = 3 from rfl)]
      by_cases c : x = 42
      · subst c
        rw [if_neg (show ¬ nI 42 = 47 by decide), if_pos (show nI 42 = 42 from rfl), if_pos rfl, show (4 : Int32) = nI 4 from rfl, ends_v H k5 d21 d19, gb_some, gzr_1, nm]
        refine ⟨1, _, rfl, OnM.en _ _ _ _, rfl, rfl, rfl, d19, fun _ => ⟨?_, ?_⟩, fun _ => ?_, fun _ => ?_, fun _ => ?_, fun j c hj hc => ?_⟩
        · show upd (H.1 24) (5 * k + 3) (nI n) (5 * k) = _
          rw [upd_at, if_neg (by omega)]; exact a0
        · show upd (H.1 24) (5 * k + 3) (nI n) (5 * k + 4) = _
          rw [upd_at, if_neg (by omega)]; exact a4
        · show upd (H.1 24) (5 * k + 3) (nI n) (5 * k + 1) = _
          rw [upd_at, if_neg (by omega)]; exact a1
        · show upd (H.1 24) (5 * k + 3) (nI n) (5 * k + 2) = _
          rw [upd_at, if_neg (by omega)]; exact p2 (by decide)
        · show upd (H.1 24) (5 * k + 3) (nI n) (5 * k + 3) = _
          rw [upd_at, if_pos rfl]
        · show upd (H.1 24) (5 * k + 3) (nI n) (5 * j + c) = _
          rw [upd_at, if_neg (by omega)]; exact pF j c hj hc
      · rw [if_neg c, if_neg (nI_nq 42 42 rfl (by decide) (by omega) c)]
        by_cases x59 : x = 59
        · rw [if_pos x59]
          split <;> exact fin 0 true (.inl rfl) x59
        · rw [if_neg x59]
          split <;> exact b147 (fun z => x59 z.2)
    · rw [if_neg (show ¬ nI 4 = 2 by decide), if_neg (show ¬ nI 4 = 3 by decide), if_neg (show ¬ 4 = 2 by decide), if_neg (show ¬ 4 = 3 by decide)]
      by_cases n5 : n < 500
      · rw [if_pos n5]
        split <;> (try split) <;> exact b147 (fun z => by omega)
      · rw [if_neg n5]
        by_cases x59 : x = 59
        · rw [if_pos x59]
          split <;> (try split) <;> exact fin 0 true (.inr ⟨rfl, by omega⟩) x59
        · rw [if_neg x59]
          split <;> (try split) <;> exact b147 (fun z => x59 z.2)
theorem takes_M {i x : Nat} {p : PS} (i60 : i ≤ 60) (hx : x < 127) (V : InvP i p) (H : Hst) (D : RdM H p) : OutM H (f_X7_takes (nI x) H) (stp x p) := by
  obtain ⟨q, o, k, g, v, w, a, F⟩ := p
  obtain ⟨h4, hw, hg, hv, hk, ha, ho, hn⟩ := V
  obtain ⟨d21, d20, d19, p0, p1, p2, p3, pF⟩ := id D
  have k5 : 5 * k + 4 < 60 ∨ (2 ≤ q) := by
    unfold wgt at hw
    split at hw <;> omega
  rw [stp_eq]
  unfold f_X7_takes
  rw [d21]
  by_cases q0 : q = 0
  · have kk : 5 * k + 4 < 60 := k5.elim id (fun z => by omega)
    subst q0
    have on := ho (by decide)
    subst on
    have w8 : ∀ h, f_X7_within (nI x) 48 55 h = some (if 48 ≤ x ∧ x ≤ 55 then 1 else 0, h) := fun h => by
      rw [within7]
      by_cases l : x < 48
      · rw [if_pos (show nI x < 48 from nI_lt (b := 48) l (by decide)), if_neg (fun z => by omega)]
      · rw [if_neg (show ¬ nI x < 48 from nI_nlt (b := 48) (by omega) (by omega))]
        by_cases u : x ≤ 55
        · rw [if_neg (show ¬ (55 : Int32) < nI x from nI_nlt (a := 55) u (by decide)), if_pos ⟨by omega, u⟩]
        · rw [if_pos (show (55 : Int32) < nI x from nI_lt (a := 55) (by omega) (by omega)), if_neg (fun z => u z.2)]
    have e19 : ∀ y z, (hst H 24 y z).1 17 19 = nI k := fun _ _ => d19
    rw [if_pos (show nI 0 = 0 from rfl), if_pos rfl, d19, show (5 : Int32) = nI 5 from rfl, pk_mul, gck_nI (by omega) (by decide), nI_clamp (by omega), gl_eq, e19, pk_mul, show (4 : Int32) = nI 4 from rfl, nI_add, gck_nI (by omega) (by decide), nI_clamp (by omega), gl_eq, gl_eq, w8, gb_some, gzr_if]
    refine ⟨_, _, rfl, OnM.trans (OnM.trans (OnM.st24 _ _) (OnM.st24 _ _)) (OnM.st 21 _ (by decide)), ?_⟩
    by_cases c : 48 ≤ x ∧ x ≤ 55
    · rw [if_pos c, if_pos c]
      refine ⟨rfl, rfl, d20, d19, fun _ => ⟨?_, ?_⟩, fun z => absurd z (by decide), fun z => absurd z (by decide), fun z => absurd z (by decide), fun j c' hj hc => ?_⟩
      · show upd (upd (H.1 24) (5 * k) (nI x - 48)) (5 * k + 4) 1000 (5 * k) = _
        rw [upd_at, if_neg (by omega), upd_at, if_pos rfl]
        exact pk_sub (b := 48) c.1
      · show upd (upd (H.1 24) (5 * k) (nI x - 48)) (5 * k + 4) 1000 (5 * k + 4) = _
        rw [upd_at, if_pos rfl]
      · show upd (upd (H.1 24) (5 * k) (nI x - 48)) (5 * k + 4) 1000 (5 * j + c') = _
        rw [upd_at, if_neg (by omega), upd_at, if_neg (by omega)]
        exact pF j c' hj hc
    · rw [if_neg c, if_neg c]
  · rw [if_neg q0, if_neg (nI_nq 0 0 rfl (by decide) (by omega) q0)]
    by_cases q1 : q = 1
    · have kk : 5 * k + 4 < 60 := k5.elim id (fun z => by omega)
      subst q1
      have on := ho (by decide)
      subst on
      obtain ⟨a0, a4⟩ := p0 (by decide)
      have w8 : ∀ h, f_X7_within (nI x) 97 101 h = some (if 97 ≤ x ∧ x ≤ 101 then 1 else 0, h) := fun h => by
        rw [within7]
        by_cases l : x < 97
        · rw [if_pos (show nI x < 97 from nI_lt (b := 97) l (by decide)), if_neg (fun z => by omega)]
        · rw [if_neg (show ¬ nI x < 97 from nI_nlt (b := 97) (by omega) (by omega))]
          by_cases u : x ≤ 101
          · rw [if_neg (show ¬ (101 : Int32) < nI x from nI_nlt (a := 101) u (by decide)), if_pos ⟨by omega, u⟩]
          · rw [if_pos (show (101 : Int32) < nI x from nI_lt (a := 101) (by omega) (by omega)), if_neg (fun z => u z.2)]
      rw [if_pos (show nI 1 = 1 from rfl), if_pos rfl, d19, show (5 : Int32) = nI 5 from rfl, pk_mul, nI_1, gck_nI (by omega) (by decide), nI_clamp (by omega), gl_eq, gl_eq, w8, gb_some, gzr_if]
      refine ⟨_, _, rfl, OnM.trans (OnM.st24 _ _) (OnM.st 21 _ (by decide)), ?_⟩
      by_cases c : 97 ≤ x ∧ x ≤ 101
      · rw [if_pos c, if_pos c]
        refine ⟨rfl, rfl, d20, d19, fun _ => ⟨?_, ?_⟩, fun _ => ?_, fun z => absurd z (by decide), fun z => absurd z (by decide), fun j c' hj hc => ?_⟩
        · show upd (H.1 24) (5 * k + 1) (nI x - 97) (5 * k) = _
          rw [upd_at, if_neg (by omega)]; exact a0
        · show upd (H.1 24) (5 * k + 1) (nI x - 97) (5 * k + 4) = _
          rw [upd_at, if_neg (by omega)]; exact a4
        · show upd (H.1 24) (5 * k + 1) (nI x - 97) (5 * k + 1) = _
          rw [upd_at, if_pos rfl]
          exact pk_sub (b := 97) c.1
        · show upd (H.1 24) (5 * k + 1) (nI x - 97) (5 * j + c') = _
          rw [upd_at, if_neg (by omega)]
          exact pF j c' hj hc
      · rw [if_neg c, if_neg c]
    · have q2 : 2 ≤ q := by omega
      rw [if_neg q1, if_neg (nI_nq 1 1 rfl (by decide) (by omega) q1)]
      by_cases c : 48 ≤ x ∧ x ≤ 57
      · have e178 : OutM H (jb_X7_takes_178 (nI x) H) (stpN x (q, o, k, g, v, w, a, F)) := by
          obtain ⟨b, h', e, oo, r⟩ := tdig_M q2 h4 c hn H D
          unfold jb_X7_takes_178
          rw [e, gb_some]
          refine ⟨b, h', ?_, oo, r⟩
          have : b = 0 ∨ b = 1 := by
            cases hs : stpN x (q, o, k, g, v, w, a, F) with
            | none => rw [hs] at r; exact .inl r
            | some p' => rw [hs] at r; exact .inr r.1
          rcases this with rfl | rfl <;> rfl
        unfold jb_X7_takes_119 jb_X7_takes_147
        rw [if_pos c, if_neg (nI_nq 47 47 rfl (by decide) (by omega) (by omega)), if_neg (nI_nq 42 42 rfl (by decide) (by omega) (by omega)), if_neg (nI_nq 59 59 rfl (by decide) (by omega) (by omega))]
        exact e178
      · rw [if_neg c]
        exact tsign_M i60 q2 h4 hw hx c hn H D
