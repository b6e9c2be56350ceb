theorem hso_at (h : Hst) (o : Nat) (f : Nat → Int32) (k : Nat) : (hso h o f).1 k = if k = o then f else h.1 k := rfl
theorem hso_2 (h : Hst) (o : Nat) (f : Nat → Int32) : (hso h o f).2 = h.2 := rfl
theorem hst_at (h : Hst) (o j : Nat) (x : Int32) (k : Nat) : (hst h o j x).1 k = if k = o then upd (h.1 o) j x else h.1 k := rfl
theorem hst_2 (h : Hst) (o j : Nat) (x : Int32) : (hst h o j x).2 = h.2 := rfl
theorem upd_at (f : Nat → Int32) (j : Nat) (x : Int32) (i : Nat) : upd f j x i = if i = j then x else f i := rfl
theorem gl_eq {α β : Type} (e : α) (f : α → Option β) : gl e f = f e := rfl
theorem gb_some {α β : Type} (a : α) (h : Hst) (F : α → Hst → Option β) : gb (some (a, h)) F = F a h := rfl
theorem gbv_some {β : Type} (h : Hst) (F : Hst → Option β) : gbv (some h) F = F h := rfl
theorem gb_if {α β : Type} (c : Prop) [Decidable c] (x y : Option (α × Hst)) (F : α → Hst → Option β) : gb (if c then x else y) F = if c then gb x F else gb y F := by split <;> rfl
theorem gbv_if {β : Type} (c : Prop) [Decidable c] (x y : Option Hst) (F : Hst → Option β) : gbv (if c then x else y) F = if c then gbv x F else gbv y F := by split <;> rfl
theorem gck_nI {β : Type} {n N : Nat} (h : n < N) (hN : N < 2 ^ 31) (x : Option β) : gck (nI n) N x = x := by
  unfold gck
  rw [if_neg (nI_pos (by omega)), nI_clamp (by omega), if_neg (by omega)]
theorem gck_ok {β : Type} {i : Int32} {N : Nat} (h0 : ¬ i < 0) (h1 : i.toNatClampNeg < N) (x : Option β) : gck i N x = x := by
  unfold gck
  rw [if_neg h0, if_neg (by omega)]
theorem gdz_ne {β : Type} {y : Int32} (h : ¬ y = 0) (x : Option β) : gdz y x = x := if_neg h
theorem gzr_0 {β : Type} (x : Option β) : gzr 0 x = x := rfl
theorem gzr_1 {β : Type} (x : Option β) : gzr 1 x = x := rfl
theorem gzr_if {β : Type} (c : Prop) [Decidable c] (x : Option β) : gzr (if c then 1 else 0) x = x := by split <;> rfl
theorem gzr_if0 {β : Type} (c : Prop) [Decidable c] (x : Option β) : gzr (if c then 0 else 1) x = x := by split <;> rfl
theorem n553 {n : Nat} (h : n < 553) : ¬ (553 : Int32) ≤ nI n := nI_ge (b := 553) h (by decide)
theorem FU_s : FU = 4095 + 1 := rfl
def cGr (f : Nat → Int32) (i : Fin 8) (k : Fin 4) : Int32 := f (0 + 4 * i.val + k.val)
def uGr (f : Nat → Int32) (i : Fin 8) (k : Fin 4) (x : Int32) : Nat → Int32 := upd f (0 + 4 * i.val + k.val) x
def cLo (f : Nat → Int32) (i : Fin 40) (k : Fin 11) : Int32 := f (32 + 11 * i.val + k.val)
def uLo (f : Nat → Int32) (i : Fin 40) (k : Fin 11) (x : Int32) : Nat → Int32 := upd f (32 + 11 * i.val + k.val) x
def cTa (f : Nat → Int32) (i : Fin 6) (k : Fin 7) : Int32 := f (472 + 7 * i.val + k.val)
def uTa (f : Nat → Int32) (i : Fin 6) (k : Fin 7) (x : Int32) : Nat → Int32 := upd f (472 + 7 * i.val + k.val) x
def cVa (f : Nat → Int32) (i : Fin 5) (k : Fin 5) : Int32 := f (514 + 5 * i.val + k.val)
def uVa (f : Nat → Int32) (i : Fin 5) (k : Fin 5) (x : Int32) : Nat → Int32 := upd f (514 + 5 * i.val + k.val) x
def cS (f : Nat → Int32) (i : Fin 14) : Int32 := f (539 + i.val)
def uS (f : Nat → Int32) (i : Fin 14) (x : Int32) : Nat → Int32 := upd f (539 + i.val) x
theorem cGr_uGr (f : Nat → Int32) (i : Fin 8) (k : Fin 4) (j : Fin 8) (q : Fin 4) (x : Int32) : cGr (uGr f j q x) i k = if i = j ∧ k = q then x else cGr f i k := by
  unfold cGr uGr
  rw [upd_at]
  have hi := i.isLt; have hj := j.isLt; have hk := k.isLt; have hq := q.isLt
  by_cases e1 : i = j
  · subst e1
    by_cases e2 : k = q
    · subst e2; rw [if_pos rfl, if_pos ⟨rfl, rfl⟩]
    · have := Fin.val_ne_of_ne e2
      rw [if_neg (by omega), if_neg (fun z => e2 z.2)]
  · have := Fin.val_ne_of_ne e1
    rw [if_neg (by omega), if_neg (fun z => e1 z.1)]
theorem cGr_uLo (f : Nat → Int32) (i : Fin 8) (k : Fin 4) (j : Fin 40) (q : Fin 11) (x : Int32) : cGr (uLo f j q x) i k = cGr f i k := by
  unfold cGr uLo
  rw [upd_at]
  have hi := i.isLt; have hj := j.isLt; have hk := k.isLt; have hq := q.isLt
  exact if_neg (by omega)
theorem cGr_uTa (f : Nat → Int32) (i : Fin 8) (k : Fin 4) (j : Fin 6) (q : Fin 7) (x : Int32) : cGr (uTa f j q x) i k = cGr f i k := by
  unfold cGr uTa
  rw [upd_at]
  have hi := i.isLt; have hj := j.isLt; have hk := k.isLt; have hq := q.isLt
  exact if_neg (by omega)
theorem cGr_uVa (f : Nat → Int32) (i : Fin 8) (k : Fin 4) (j : Fin 5) (q : Fin 5) (x : Int32) : cGr (uVa f j q x) i k = cGr f i k := by
  unfold cGr uVa
  rw [upd_at]
  have hi := i.isLt; have hj := j.isLt; have hk := k.isLt; have hq := q.isLt
  exact if_neg (by omega)
theorem cGr_uS (f : Nat → Int32) (i : Fin 8) (k : Fin 4) (j : Fin 14) (x : Int32) : cGr (uS f j x) i k = cGr f i k := by
  unfold cGr uS
  rw [upd_at]
  have hi := i.isLt; have hj := j.isLt; have hk := k.isLt
  exact if_neg (by omega)
theorem cLo_uGr (f : Nat → Int32) (i : Fin 40) (k : Fin 11) (j : Fin 8) (q : Fin 4) (x : Int32) : cLo (uGr f j q x) i k = cLo f i k := by
  unfold cLo uGr
  rw [upd_at]
  have hi := i.isLt; have hj := j.isLt; have hk := k.isLt; have hq := q.isLt
  exact if_neg (by omega)
theorem cLo_uLo (f : Nat → Int32) (i : Fin 40) (k : Fin 11) (j : Fin 40) (q : Fin 11) (x : Int32) : cLo (uLo f j q x) i k = if i = j ∧ k = q then x else cLo f i k := by
  unfold cLo uLo
  rw [upd_at]
  have hi := i.isLt; have hj := j.isLt; have hk := k.isLt; have hq := q.isLt
  by_cases e1 : i = j
  · subst e1
    by_cases e2 : k = q
    · subst e2; rw [if_pos rfl, if_pos ⟨rfl, rfl⟩]
    · have := Fin.val_ne_of_ne e2
      rw [if_neg (by omega), if_neg (fun z => e2 z.2)]
  · have := Fin.val_ne_of_ne e1
    rw [if_neg (by omega), if_neg (fun z => e1 z.1)]
theorem cLo_uTa (f : Nat → Int32) (i : Fin 40) (k : Fin 11) (j : Fin 6) (q : Fin 7) (x : Int32) : cLo (uTa f j q x) i k = cLo f i k := by
  unfold cLo uTa
  rw [upd_at]
  have hi := i.isLt; have hj := j.isLt; have hk := k.isLt; have hq := q.isLt
  exact if_neg (by omega)
theorem cLo_uVa (f : Nat → Int32) (i : Fin 40) (k : Fin 11) (j : Fin 5) (q : Fin 5) (x : Int32) : cLo (uVa f j q x) i k = cLo f i k := by
  unfold cLo uVa
  rw [upd_at]
  have hi := i.isLt; have hj := j.isLt; have hk := k.isLt; have hq := q.isLt
  exact if_neg (by omega)
theorem cLo_uS (f : Nat → Int32) (i : Fin 40) (k : Fin 11) (j : Fin 14) (x : Int32) : cLo (uS f j x) i k = cLo f i k := by
  unfold cLo uS
  rw [upd_at]
  have hi := i.isLt; have hj := j.isLt; have hk := k.isLt
  exact if_neg (by omega)
theorem cTa_uGr (f : Nat → Int32) (i : Fin 6) (k : Fin 7) (j : Fin 8) (q : Fin 4) (x : Int32) : cTa (uGr f j q x) i k = cTa f i k := by
  unfold cTa uGr
  rw [upd_at]
  have hi := i.isLt; have hj := j.isLt; have hk := k.isLt; have hq := q.isLt
  exact if_neg (by omega)
theorem cTa_uLo (f : Nat → Int32) (i : Fin 6) (k : Fin 7) (j : Fin 40) (q : Fin 11) (x : Int32) : cTa (uLo f j q x) i k = cTa f i k := by
  unfold cTa uLo
  rw [upd_at]
  have hi := i.isLt; have hj := j.isLt; have hk := k.isLt; have hq := q.isLt
  exact if_neg (by omega)
theorem cTa_uTa (f : Nat → Int32) (i : Fin 6) (k : Fin 7) (j : Fin 6) (q : Fin 7) (x : Int32) : cTa (uTa f j q x) i k = if i = j ∧ k = q then x else cTa f i k := by
  unfold cTa uTa
  rw [upd_at]
  have hi := i.isLt; have hj := j.isLt; have hk := k.isLt; have hq := q.isLt
  by_cases e1 : i = j
  · subst e1
    by_cases e2 : k = q
    · subst e2; rw [if_pos rfl, if_pos ⟨rfl, rfl⟩]
    · have := Fin.val_ne_of_ne e2
      rw [if_neg (by omega), if_neg (fun z => e2 z.2)]
  · have := Fin.val_ne_of_ne e1
    rw [if_neg (by omega), if_neg (fun z => e1 z.1)]
theorem cTa_uVa (f : Nat → Int32) (i : Fin 6) (k : Fin 7) (j : Fin 5) (q : Fin 5) (x : Int32) : cTa (uVa f j q x) i k = cTa f i k := by
  unfold cTa uVa
  rw [upd_at]
  have hi := i.isLt; have hj := j.isLt; have hk := k.isLt; have hq := q.isLt
  exact if_neg (by omega)
theorem cTa_uS (f : Nat → Int32) (i : Fin 6) (k : Fin 7) (j : Fin 14) (x : Int32) : cTa (uS f j x) i k = cTa f i k := by
  unfold cTa uS
  rw [upd_at]
  have hi := i.isLt; have hj := j.isLt; have hk := k.isLt
  exact if_neg (by omega)
theorem cVa_uGr (f : Nat → Int32) (i : Fin 5) (k : Fin 5) (j : Fin 8) (q : Fin 4) (x : Int32) : cVa (uGr f j q x) i k = cVa f i k := by
  unfold cVa uGr
  rw [upd_at]
  have hi := i.isLt; have hj := j.isLt; have hk := k.isLt; have hq := q.isLt
  exact if_neg (by omega)
theorem cVa_uLo (f : Nat → Int32) (i : Fin 5) (k : Fin 5) (j : Fin 40) (q : Fin 11) (x : Int32) : cVa (uLo f j q x) i k = cVa f i k := by
  unfold cVa uLo
  rw [upd_at]
  have hi := i.isLt; have hj := j.isLt; have hk := k.isLt; have hq := q.isLt
  exact if_neg (by omega)
theorem cVa_uTa (f : Nat → Int32) (i : Fin 5) (k : Fin 5) (j : Fin 6) (q : Fin 7) (x : Int32) : cVa (uTa f j q x) i k = cVa f i k := by
  unfold cVa uTa
  rw [upd_at]
  have hi := i.isLt; have hj := j.isLt; have hk := k.isLt; have hq := q.isLt
  exact if_neg (by omega)
theorem cVa_uVa (f : Nat → Int32) (i : Fin 5) (k : Fin 5) (j : Fin 5) (q : Fin 5) (x : Int32) : cVa (uVa f j q x) i k = if i = j ∧ k = q then x else cVa f i k := by
  unfold cVa uVa
  rw [upd_at]
  have hi := i.isLt; have hj := j.isLt; have hk := k.isLt; have hq := q.isLt
  by_cases e1 : i = j
  · subst e1
    by_cases e2 : k = q
    · subst e2; rw [if_pos rfl, if_pos ⟨rfl, rfl⟩]
    · have := Fin.val_ne_of_ne e2
      rw [if_neg (by omega), if_neg (fun z => e2 z.2)]
  · have := Fin.val_ne_of_ne e1
    rw [if_neg (by omega), if_neg (fun z => e1 z.1)]
theorem cVa_uS (f : Nat → Int32) (i : Fin 5) (k : Fin 5) (j : Fin 14) (x : Int32) : cVa (uS f j x) i k = cVa f i k := by
  unfold cVa uS
  rw [upd_at]
  have hi := i.isLt; have hj := j.isLt; have hk := k.isLt
  exact if_neg (by omega)
theorem cS_uGr (f : Nat → Int32) (i : Fin 14) (j : Fin 8) (q : Fin 4) (x : Int32) : cS (uGr f j q x) i = cS f i := by
  unfold cS uGr
  rw [upd_at]
  have hi := i.isLt; have hj := j.isLt; have hq := q.isLt
  exact if_neg (by omega)
theorem cS_uLo (f : Nat → Int32) (i : Fin 14) (j : Fin 40) (q : Fin 11) (x : Int32) : cS (uLo f j q x) i = cS f i := by
  unfold cS uLo
  rw [upd_at]
  have hi := i.isLt; have hj := j.isLt; have hq := q.isLt
  exact if_neg (by omega)
theorem cS_uTa (f : Nat → Int32) (i : Fin 14) (j : Fin 6) (q : Fin 7) (x : Int32) : cS (uTa f j q x) i = cS f i := by
  unfold cS uTa
  rw [upd_at]
  have hi := i.isLt; have hj := j.isLt; have hq := q.isLt
  exact if_neg (by omega)
theorem cS_uVa (f : Nat → Int32) (i : Fin 14) (j : Fin 5) (q : Fin 5) (x : Int32) : cS (uVa f j q x) i = cS f i := by
  unfold cS uVa
  rw [upd_at]
  have hi := i.isLt; have hj := j.isLt; have hq := q.isLt
  exact if_neg (by omega)
theorem cS_uS (f : Nat → Int32) (i : Fin 14) (j : Fin 14) (x : Int32) : cS (uS f j x) i = if i = j then x else cS f i := by
  unfold cS uS
  rw [upd_at]
  have hi := i.isLt; have hj := j.isLt
  by_cases e1 : i = j
  · subst e1; rw [if_pos rfl, if_pos rfl]
  · have := Fin.val_ne_of_ne e1
    rw [if_neg (by omega), if_neg e1]
theorem get2 (i : Fin 8) (k : Fin 4) (h : Hst) : f_X5_get_2 (nI i.val) (nI k.val) h = some (cGr (h.1 8) i k, h) := by
  have hi := i.isLt; have hk := k.isLt
  have e : (0 : Int32) + nI i.val * 4 + nI k.val = nI (0 + 4 * i.val + k.val) := by
    show nI 0 + nI i.val * nI 4 + nI k.val = _
    rw [pk_mul, nI_add, nI_add, Nat.mul_comm]
  unfold f_X5_get_2 jb_X5_get_2_36 jb_X5_get_2_37
  rw [gl_eq, e, if_neg (nI_pos (by omega)), if_neg (n553 (by omega)), gck_nI (by omega) (by omega), nI_clamp (by omega)]
  rfl
theorem put2 (i : Fin 8) (k : Fin 4) (x : Int32) (h : Hst) : f_X5_put_2 (nI i.val) (nI k.val) x h = some (hso h 8 (uGr (h.1 8) i k x)) := by
  have hi := i.isLt; have hk := k.isLt
  have e : (0 : Int32) + nI i.val * 4 + nI k.val = nI (0 + 4 * i.val + k.val) := by
    show nI 0 + nI i.val * nI 4 + nI k.val = _
    rw [pk_mul, nI_add, nI_add, Nat.mul_comm]
  unfold f_X5_put_2 jb_X5_put_2_38
  rw [gl_eq, e, if_neg (nI_pos (by omega)), if_neg (n553 (by omega)), gck_nI (by omega) (by omega), nI_clamp (by omega)]
  rfl
theorem add2 (i : Fin 8) (k : Fin 4) (x : Int32) (h : Hst) : f_X5_add_2 (nI i.val) (nI k.val) x h = some (hso h 8 (uGr (h.1 8) i k (cGr (h.1 8) i k + x))) := by
  unfold f_X5_add_2
  rw [get2, gb_some, put2, gbv_some]
theorem get2_0 (i : Fin 8) (h : Hst) : f_X5_get_2 (nI i.val) 0 h = some (cGr (h.1 8) i 0, h) := get2 i 0 h
theorem put2_0 (i : Fin 8) (x : Int32) (h : Hst) : f_X5_put_2 (nI i.val) 0 x h = some (hso h 8 (uGr (h.1 8) i 0 x)) := put2 i 0 x h
theorem add2_0 (i : Fin 8) (x : Int32) (h : Hst) : f_X5_add_2 (nI i.val) 0 x h = some (hso h 8 (uGr (h.1 8) i 0 (cGr (h.1 8) i 0 + x))) := add2 i 0 x h
theorem get2_1 (i : Fin 8) (h : Hst) : f_X5_get_2 (nI i.val) 1 h = some (cGr (h.1 8) i 1, h) := get2 i 1 h
theorem put2_1 (i : Fin 8) (x : Int32) (h : Hst) : f_X5_put_2 (nI i.val) 1 x h = some (hso h 8 (uGr (h.1 8) i 1 x)) := put2 i 1 x h
theorem add2_1 (i : Fin 8) (x : Int32) (h : Hst) : f_X5_add_2 (nI i.val) 1 x h = some (hso h 8 (uGr (h.1 8) i 1 (cGr (h.1 8) i 1 + x))) := add2 i 1 x h
theorem get2_2 (i : Fin 8) (h : Hst) : f_X5_get_2 (nI i.val) 2 h = some (cGr (h.1 8) i 2, h) := get2 i 2 h
theorem put2_2 (i : Fin 8) (x : Int32) (h : Hst) : f_X5_put_2 (nI i.val) 2 x h = some (hso h 8 (uGr (h.1 8) i 2 x)) := put2 i 2 x h
theorem add2_2 (i : Fin 8) (x : Int32) (h : Hst) : f_X5_add_2 (nI i.val) 2 x h = some (hso h 8 (uGr (h.1 8) i 2 (cGr (h.1 8) i 2 + x))) := add2 i 2 x h
theorem get2_3 (i : Fin 8) (h : Hst) : f_X5_get_2 (nI i.val) 3 h = some (cGr (h.1 8) i 3, h) := get2 i 3 h
theorem put2_3 (i : Fin 8) (x : Int32) (h : Hst) : f_X5_put_2 (nI i.val) 3 x h = some (hso h 8 (uGr (h.1 8) i 3 x)) := put2 i 3 x h
theorem add2_3 (i : Fin 8) (x : Int32) (h : Hst) : f_X5_add_2 (nI i.val) 3 x h = some (hso h 8 (uGr (h.1 8) i 3 (cGr (h.1 8) i 3 + x))) := add2 i 3 x h
theorem get3 (i : Fin 40) (k : Fin 11) (h : Hst) : f_X5_get_3 (nI i.val) (nI k.val) h = some (cLo (h.1 8) i k, h) := by
  have hi := i.isLt; have hk := k.isLt
  have e : (32 : Int32) + nI i.val * 11 + nI k.val = nI (32 + 11 * i.val + k.val) := by
    show nI 32 + nI i.val * nI 11 + nI k.val = _
    rw [pk_mul, nI_add, nI_add, Nat.mul_comm]
  unfold f_X5_get_3 jb_X5_get_3_36 jb_X5_get_3_37
  rw [gl_eq, e, if_neg (nI_pos (by omega)), if_neg (n553 (by omega)), gck_nI (by omega) (by omega), nI_clamp (by omega)]
  rfl
theorem put3 (i : Fin 40) (k : Fin 11) (x : Int32) (h : Hst) : f_X5_put_3 (nI i.val) (nI k.val) x h = some (hso h 8 (uLo (h.1 8) i k x)) := by
  have hi := i.isLt; have hk := k.isLt
  have e : (32 : Int32) + nI i.val * 11 + nI k.val = nI (32 + 11 * i.val + k.val) := by
    show nI 32 + nI i.val * nI 11 + nI k.val = _
    rw [pk_mul, nI_add, nI_add, Nat.mul_comm]
  unfold f_X5_put_3 jb_X5_put_3_38
  rw [gl_eq, e, if_neg (nI_pos (by omega)), if_neg (n553 (by omega)), gck_nI (by omega) (by omega), nI_clamp (by omega)]
  rfl
theorem get3_0 (i : Fin 40) (h : Hst) : f_X5_get_3 (nI i.val) 0 h = some (cLo (h.1 8) i 0, h) := get3 i 0 h
theorem put3_0 (i : Fin 40) (x : Int32) (h : Hst) : f_X5_put_3 (nI i.val) 0 x h = some (hso h 8 (uLo (h.1 8) i 0 x)) := put3 i 0 x h
theorem get3_1 (i : Fin 40) (h : Hst) : f_X5_get_3 (nI i.val) 1 h = some (cLo (h.1 8) i 1, h) := get3 i 1 h
theorem put3_1 (i : Fin 40) (x : Int32) (h : Hst) : f_X5_put_3 (nI i.val) 1 x h = some (hso h 8 (uLo (h.1 8) i 1 x)) := put3 i 1 x h
theorem get3_2 (i : Fin 40) (h : Hst) : f_X5_get_3 (nI i.val) 2 h = some (cLo (h.1 8) i 2, h) := get3 i 2 h
theorem put3_2 (i : Fin 40) (x : Int32) (h : Hst) : f_X5_put_3 (nI i.val) 2 x h = some (hso h 8 (uLo (h.1 8) i 2 x)) := put3 i 2 x h
theorem get3_3 (i : Fin 40) (h : Hst) : f_X5_get_3 (nI i.val) 3 h = some (cLo (h.1 8) i 3, h) := get3 i 3 h
theorem put3_3 (i : Fin 40) (x : Int32) (h : Hst) : f_X5_put_3 (nI i.val) 3 x h = some (hso h 8 (uLo (h.1 8) i 3 x)) := put3 i 3 x h
theorem get3_4 (i : Fin 40) (h : Hst) : f_X5_get_3 (nI i.val) 4 h = some (cLo (h.1 8) i 4, h) := get3 i 4 h
theorem put3_4 (i : Fin 40) (x : Int32) (h : Hst) : f_X5_put_3 (nI i.val) 4 x h = some (hso h 8 (uLo (h.1 8) i 4 x)) := put3 i 4 x h
theorem get3_5 (i : Fin 40) (h : Hst) : f_X5_get_3 (nI i.val) 5 h = some (cLo (h.1 8) i 5, h) := get3 i 5 h
theorem put3_5 (i : Fin 40) (x : Int32) (h : Hst) : f_X5_put_3 (nI i.val) 5 x h = some (hso h 8 (uLo (h.1 8) i 5 x)) := put3 i 5 x h
theorem get3_6 (i : Fin 40) (h : Hst) : f_X5_get_3 (nI i.val) 6 h = some (cLo (h.1 8) i 6, h) := get3 i 6 h
theorem put3_6 (i : Fin 40) (x : Int32) (h : Hst) : f_X5_put_3 (nI i.val) 6 x h = some (hso h 8 (uLo (h.1 8) i 6 x)) := put3 i 6 x h
theorem get3_7 (i : Fin 40) (h : Hst) : f_X5_get_3 (nI i.val) 7 h = some (cLo (h.1 8) i 7, h) := get3 i 7 h
theorem put3_7 (i : Fin 40) (x : Int32) (h : Hst) : f_X5_put_3 (nI i.val) 7 x h = some (hso h 8 (uLo (h.1 8) i 7 x)) := put3 i 7 x h
theorem get3_8 (i : Fin 40) (h : Hst) : f_X5_get_3 (nI i.val) 8 h = some (cLo (h.1 8) i 8, h) := get3 i 8 h
theorem put3_8 (i : Fin 40) (x : Int32) (h : Hst) : f_X5_put_3 (nI i.val) 8 x h = some (hso h 8 (uLo (h.1 8) i 8 x)) := put3 i 8 x h
theorem get3_9 (i : Fin 40) (h : Hst) : f_X5_get_3 (nI i.val) 9 h = some (cLo (h.1 8) i 9, h) := get3 i 9 h
theorem put3_9 (i : Fin 40) (x : Int32) (h : Hst) : f_X5_put_3 (nI i.val) 9 x h = some (hso h 8 (uLo (h.1 8) i 9 x)) := put3 i 9 x h
theorem get3_10 (i : Fin 40) (h : Hst) : f_X5_get_3 (nI i.val) 10 h = some (cLo (h.1 8) i 10, h) := get3 i 10 h
theorem put3_10 (i : Fin 40) (x : Int32) (h : Hst) : f_X5_put_3 (nI i.val) 10 x h = some (hso h 8 (uLo (h.1 8) i 10 x)) := put3 i 10 x h
theorem get4 (i : Fin 6) (k : Fin 7) (h : Hst) : f_X5_get_4 (nI i.val) (nI k.val) h = some (cTa (h.1 8) i k, h) := by
  have hi := i.isLt; have hk := k.isLt
  have e : (472 : Int32) + nI i.val * 7 + nI k.val = nI (472 + 7 * i.val + k.val) := by
    show nI 472 + nI i.val * nI 7 + nI k.val = _
    rw [pk_mul, nI_add, nI_add, Nat.mul_comm]
  unfold f_X5_get_4 jb_X5_get_4_36 jb_X5_get_4_37
  rw [gl_eq, e, if_neg (nI_pos (by omega)), if_neg (n553 (by omega)), gck_nI (by omega) (by omega), nI_clamp (by omega)]
  rfl
theorem put4 (i : Fin 6) (k : Fin 7) (x : Int32) (h : Hst) : f_X5_put_4 (nI i.val) (nI k.val) x h = some (hso h 8 (uTa (h.1 8) i k x)) := by
  have hi := i.isLt; have hk := k.isLt
  have e : (472 : Int32) + nI i.val * 7 + nI k.val = nI (472 + 7 * i.val + k.val) := by
    show nI 472 + nI i.val * nI 7 + nI k.val = _
    rw [pk_mul, nI_add, nI_add, Nat.mul_comm]
  unfold f_X5_put_4 jb_X5_put_4_38
  rw [gl_eq, e, if_neg (nI_pos (by omega)), if_neg (n553 (by omega)), gck_nI (by omega) (by omega), nI_clamp (by omega)]
  rfl
theorem add4 (i : Fin 6) (k : Fin 7) (x : Int32) (h : Hst) : f_X5_add_4 (nI i.val) (nI k.val) x h = some (hso h 8 (uTa (h.1 8) i k (cTa (h.1 8) i k + x))) := by
  unfold f_X5_add_4
  rw [get4, gb_some, put4, gbv_some]
theorem get4_0 (i : Fin 6) (h : Hst) : f_X5_get_4 (nI i.val) 0 h = some (cTa (h.1 8) i 0, h) := get4 i 0 h
theorem put4_0 (i : Fin 6) (x : Int32) (h : Hst) : f_X5_put_4 (nI i.val) 0 x h = some (hso h 8 (uTa (h.1 8) i 0 x)) := put4 i 0 x h
theorem add4_0 (i : Fin 6) (x : Int32) (h : Hst) : f_X5_add_4 (nI i.val) 0 x h = some (hso h 8 (uTa (h.1 8) i 0 (cTa (h.1 8) i 0 + x))) := add4 i 0 x h
theorem get4_1 (i : Fin 6) (h : Hst) : f_X5_get_4 (nI i.val) 1 h = some (cTa (h.1 8) i 1, h) := get4 i 1 h
theorem put4_1 (i : Fin 6) (x : Int32) (h : Hst) : f_X5_put_4 (nI i.val) 1 x h = some (hso h 8 (uTa (h.1 8) i 1 x)) := put4 i 1 x h
theorem add4_1 (i : Fin 6) (x : Int32) (h : Hst) : f_X5_add_4 (nI i.val) 1 x h = some (hso h 8 (uTa (h.1 8) i 1 (cTa (h.1 8) i 1 + x))) := add4 i 1 x h
theorem get4_2 (i : Fin 6) (h : Hst) : f_X5_get_4 (nI i.val) 2 h = some (cTa (h.1 8) i 2, h) := get4 i 2 h
theorem put4_2 (i : Fin 6) (x : Int32) (h : Hst) : f_X5_put_4 (nI i.val) 2 x h = some (hso h 8 (uTa (h.1 8) i 2 x)) := put4 i 2 x h
theorem add4_2 (i : Fin 6) (x : Int32) (h : Hst) : f_X5_add_4 (nI i.val) 2 x h = some (hso h 8 (uTa (h.1 8) i 2 (cTa (h.1 8) i 2 + x))) := add4 i 2 x h
theorem get4_3 (i : Fin 6) (h : Hst) : f_X5_get_4 (nI i.val) 3 h = some (cTa (h.1 8) i 3, h) := get4 i 3 h
theorem put4_3 (i : Fin 6) (x : Int32) (h : Hst) : f_X5_put_4 (nI i.val) 3 x h = some (hso h 8 (uTa (h.1 8) i 3 x)) := put4 i 3 x h
theorem add4_3 (i : Fin 6) (x : Int32) (h : Hst) : f_X5_add_4 (nI i.val) 3 x h = some (hso h 8 (uTa (h.1 8) i 3 (cTa (h.1 8) i 3 + x))) := add4 i 3 x h
theorem get4_4 (i : Fin 6) (h : Hst) : f_X5_get_4 (nI i.val) 4 h = some (cTa (h.1 8) i 4, h) := get4 i 4 h
theorem put4_4 (i : Fin 6) (x : Int32) (h : Hst) : f_X5_put_4 (nI i.val) 4 x h = some (hso h 8 (uTa (h.1 8) i 4 x)) := put4 i 4 x h
theorem add4_4 (i : Fin 6) (x : Int32) (h : Hst) : f_X5_add_4 (nI i.val) 4 x h = some (hso h 8 (uTa (h.1 8) i 4 (cTa (h.1 8) i 4 + x))) := add4 i 4 x h
theorem get4_5 (i : Fin 6) (h : Hst) : f_X5_get_4 (nI i.val) 5 h = some (cTa (h.1 8) i 5, h) := get4 i 5 h
theorem put4_5 (i : Fin 6) (x : Int32) (h : Hst) : f_X5_put_4 (nI i.val) 5 x h = some (hso h 8 (uTa (h.1 8) i 5 x)) := put4 i 5 x h
theorem add4_5 (i : Fin 6) (x : Int32) (h : Hst) : f_X5_add_4 (nI i.val) 5 x h = some (hso h 8 (uTa (h.1 8) i 5 (cTa (h.1 8) i 5 + x))) := add4 i 5 x h
theorem get4_6 (i : Fin 6) (h : Hst) : f_X5_get_4 (nI i.val) 6 h = some (cTa (h.1 8) i 6, h) := get4 i 6 h
theorem put4_6 (i : Fin 6) (x : Int32) (h : Hst) : f_X5_put_4 (nI i.val) 6 x h = some (hso h 8 (uTa (h.1 8) i 6 x)) := put4 i 6 x h
theorem add4_6 (i : Fin 6) (x : Int32) (h : Hst) : f_X5_add_4 (nI i.val) 6 x h = some (hso h 8 (uTa (h.1 8) i 6 (cTa (h.1 8) i 6 + x))) := add4 i 6 x h
theorem get5 (i : Fin 5) (k : Fin 5) (h : Hst) : f_X5_get_5 (nI i.val) (nI k.val) h = some (cVa (h.1 8) i k, h) := by
  have hi := i.isLt; have hk := k.isLt
  have e : (514 : Int32) + nI i.val * 5 + nI k.val = nI (514 + 5 * i.val + k.val) := by
    show nI 514 + nI i.val * nI 5 + nI k.val = _
    rw [pk_mul, nI_add, nI_add, Nat.mul_comm]
  unfold f_X5_get_5 jb_X5_get_5_36 jb_X5_get_5_37
  rw [gl_eq, e, if_neg (nI_pos (by omega)), if_neg (n553 (by omega)), gck_nI (by omega) (by omega), nI_clamp (by omega)]
  rfl
theorem put5 (i : Fin 5) (k : Fin 5) (x : Int32) (h : Hst) : f_X5_put_5 (nI i.val) (nI k.val) x h = some (hso h 8 (uVa (h.1 8) i k x)) := by
  have hi := i.isLt; have hk := k.isLt
  have e : (514 : Int32) + nI i.val * 5 + nI k.val = nI (514 + 5 * i.val + k.val) := by
    show nI 514 + nI i.val * nI 5 + nI k.val = _
    rw [pk_mul, nI_add, nI_add, Nat.mul_comm]
  unfold f_X5_put_5 jb_X5_put_5_38
  rw [gl_eq, e, if_neg (nI_pos (by omega)), if_neg (n553 (by omega)), gck_nI (by omega) (by omega), nI_clamp (by omega)]
  rfl
theorem add5 (i : Fin 5) (k : Fin 5) (x : Int32) (h : Hst) : f_X5_add_5 (nI i.val) (nI k.val) x h = some (hso h 8 (uVa (h.1 8) i k (cVa (h.1 8) i k + x))) := by
  unfold f_X5_add_5
  rw [get5, gb_some, put5, gbv_some]
theorem get5_0 (i : Fin 5) (h : Hst) : f_X5_get_5 (nI i.val) 0 h = some (cVa (h.1 8) i 0, h) := get5 i 0 h
theorem put5_0 (i : Fin 5) (x : Int32) (h : Hst) : f_X5_put_5 (nI i.val) 0 x h = some (hso h 8 (uVa (h.1 8) i 0 x)) := put5 i 0 x h
theorem add5_0 (i : Fin 5) (x : Int32) (h : Hst) : f_X5_add_5 (nI i.val) 0 x h = some (hso h 8 (uVa (h.1 8) i 0 (cVa (h.1 8) i 0 + x))) := add5 i 0 x h
theorem get5_1 (i : Fin 5) (h : Hst) : f_X5_get_5 (nI i.val) 1 h = some (cVa (h.1 8) i 1, h) := get5 i 1 h
theorem put5_1 (i : Fin 5) (x : Int32) (h : Hst) : f_X5_put_5 (nI i.val) 1 x h = some (hso h 8 (uVa (h.1 8) i 1 x)) := put5 i 1 x h
theorem add5_1 (i : Fin 5) (x : Int32) (h : Hst) : f_X5_add_5 (nI i.val) 1 x h = some (hso h 8 (uVa (h.1 8) i 1 (cVa (h.1 8) i 1 + x))) := add5 i 1 x h
theorem get5_2 (i : Fin 5) (h : Hst) : f_X5_get_5 (nI i.val) 2 h = some (cVa (h.1 8) i 2, h) := get5 i 2 h
theorem put5_2 (i : Fin 5) (x : Int32) (h : Hst) : f_X5_put_5 (nI i.val) 2 x h = some (hso h 8 (uVa (h.1 8) i 2 x)) := put5 i 2 x h
theorem add5_2 (i : Fin 5) (x : Int32) (h : Hst) : f_X5_add_5 (nI i.val) 2 x h = some (hso h 8 (uVa (h.1 8) i 2 (cVa (h.1 8) i 2 + x))) := add5 i 2 x h
theorem get5_3 (i : Fin 5) (h : Hst) : f_X5_get_5 (nI i.val) 3 h = some (cVa (h.1 8) i 3, h) := get5 i 3 h
theorem put5_3 (i : Fin 5) (x : Int32) (h : Hst) : f_X5_put_5 (nI i.val) 3 x h = some (hso h 8 (uVa (h.1 8) i 3 x)) := put5 i 3 x h
theorem add5_3 (i : Fin 5) (x : Int32) (h : Hst) : f_X5_add_5 (nI i.val) 3 x h = some (hso h 8 (uVa (h.1 8) i 3 (cVa (h.1 8) i 3 + x))) := add5 i 3 x h
theorem get5_4 (i : Fin 5) (h : Hst) : f_X5_get_5 (nI i.val) 4 h = some (cVa (h.1 8) i 4, h) := get5 i 4 h
theorem put5_4 (i : Fin 5) (x : Int32) (h : Hst) : f_X5_put_5 (nI i.val) 4 x h = some (hso h 8 (uVa (h.1 8) i 4 x)) := put5 i 4 x h
theorem add5_4 (i : Fin 5) (x : Int32) (h : Hst) : f_X5_add_5 (nI i.val) 4 x h = some (hso h 8 (uVa (h.1 8) i 4 (cVa (h.1 8) i 4 + x))) := add5 i 4 x h
theorem row6 (i : Fin 7) (h : Hst) : f_X3_get_6 (nI i.val) h = some (cS (h.1 8) ⟨i.val + 0, by omega⟩, h) := by
  have hi := i.isLt
  have e : (539 : Int32) + nI i.val = nI (539 + i.val) := nI_add _ _
  unfold f_X3_get_6 jb_X3_get_6_29 jb_X3_get_6_30
  rw [gl_eq, e, if_neg (nI_pos (by omega)), if_neg (n553 (by omega)), gck_nI (by omega) (by omega), nI_clamp (by omega)]
  show some (h.1 8 (539 + i.val), h) = some (h.1 8 (539 + (i.val + 0)), h)
  rw [show 539 + (i.val + 0) = 539 + i.val by omega]
theorem rowp6 (i : Fin 7) (x : Int32) (h : Hst) : f_X3_put_6 (nI i.val) x h = some (hso h 8 (uS (h.1 8) ⟨i.val + 0, by omega⟩ x)) := by
  have hi := i.isLt
  have e : (539 : Int32) + nI i.val = nI (539 + i.val) := nI_add _ _
  unfold f_X3_put_6 jb_X3_put_6_27
  rw [gl_eq, e, if_neg (nI_pos (by omega)), if_neg (n553 (by omega)), gck_nI (by omega) (by omega), nI_clamp (by omega)]
  unfold uS
  have e2 : 539 + (i.val + 0) = 539 + i.val := by omega
  show some _ = some (hso h 8 (upd (h.1 8) (539 + (i.val + 0)) x))
  rw [e2]
  rfl
theorem row6_0 (h : Hst) : f_X3_get_6 0 h = some (cS (h.1 8) 0, h) := row6 0 h
theorem rowp6_0 (x : Int32) (h : Hst) : f_X3_put_6 0 x h = some (hso h 8 (uS (h.1 8) 0 x)) := rowp6 0 x h
theorem row6_1 (h : Hst) : f_X3_get_6 1 h = some (cS (h.1 8) 1, h) := row6 1 h
theorem rowp6_1 (x : Int32) (h : Hst) : f_X3_put_6 1 x h = some (hso h 8 (uS (h.1 8) 1 x)) := rowp6 1 x h
theorem row6_2 (h : Hst) : f_X3_get_6 2 h = some (cS (h.1 8) 2, h) := row6 2 h
theorem rowp6_2 (x : Int32) (h : Hst) : f_X3_put_6 2 x h = some (hso h 8 (uS (h.1 8) 2 x)) := rowp6 2 x h
theorem row6_3 (h : Hst) : f_X3_get_6 3 h = some (cS (h.1 8) 3, h) := row6 3 h
theorem rowp6_3 (x : Int32) (h : Hst) : f_X3_put_6 3 x h = some (hso h 8 (uS (h.1 8) 3 x)) := rowp6 3 x h
theorem row6_4 (h : Hst) : f_X3_get_6 4 h = some (cS (h.1 8) 4, h) := row6 4 h
theorem rowp6_4 (x : Int32) (h : Hst) : f_X3_put_6 4 x h = some (hso h 8 (uS (h.1 8) 4 x)) := rowp6 4 x h
theorem row6_5 (h : Hst) : f_X3_get_6 5 h = some (cS (h.1 8) 5, h) := row6 5 h
theorem rowp6_5 (x : Int32) (h : Hst) : f_X3_put_6 5 x h = some (hso h 8 (uS (h.1 8) 5 x)) := rowp6 5 x h
theorem row6_6 (h : Hst) : f_X3_get_6 6 h = some (cS (h.1 8) 6, h) := row6 6 h
theorem rowp6_6 (x : Int32) (h : Hst) : f_X3_put_6 6 x h = some (hso h 8 (uS (h.1 8) 6 x)) := rowp6 6 x h
theorem row7 (i : Fin 7) (h : Hst) : f_X3_get_7 (nI i.val) h = some (cS (h.1 8) ⟨i.val + 7, by omega⟩, h) := by
  have hi := i.isLt
  have e : (546 : Int32) + nI i.val = nI (546 + i.val) := nI_add _ _
  unfold f_X3_get_7 jb_X3_get_7_29 jb_X3_get_7_30
  rw [gl_eq, e, if_neg (nI_pos (by omega)), if_neg (n553 (by omega)), gck_nI (by omega) (by omega), nI_clamp (by omega)]
  show some (h.1 8 (546 + i.val), h) = some (h.1 8 (539 + (i.val + 7)), h)
  rw [show 539 + (i.val + 7) = 546 + i.val by omega]
theorem rowp7 (i : Fin 7) (x : Int32) (h : Hst) : f_X3_put_7 (nI i.val) x h = some (hso h 8 (uS (h.1 8) ⟨i.val + 7, by omega⟩ x)) := by
  have hi := i.isLt
  have e : (546 : Int32) + nI i.val = nI (546 + i.val) := nI_add _ _
  unfold f_X3_put_7 jb_X3_put_7_27
  rw [gl_eq, e, if_neg (nI_pos (by omega)), if_neg (n553 (by omega)), gck_nI (by omega) (by omega), nI_clamp (by omega)]
  unfold uS
  have e2 : 539 + (i.val + 7) = 546 + i.val := by omega
  show some _ = some (hso h 8 (upd (h.1 8) (539 + (i.val + 7)) x))
  rw [e2]
  rfl
theorem row7_0 (h : Hst) : f_X3_get_7 0 h = some (cS (h.1 8) 7, h) := row7 0 h
theorem rowp7_0 (x : Int32) (h : Hst) : f_X3_put_7 0 x h = some (hso h 8 (uS (h.1 8) 7 x)) := rowp7 0 x h
theorem rowa7_0 (x : Int32) (h : Hst) : f_X3_add_7 0 x h = some (hso h 8 (uS (h.1 8) 7 (cS (h.1 8) 7 + x))) := by
  unfold f_X3_add_7
  rw [row7_0, gb_some, rowp7_0, gbv_some]
theorem row7_1 (h : Hst) : f_X3_get_7 1 h = some (cS (h.1 8) 8, h) := row7 1 h
theorem rowp7_1 (x : Int32) (h : Hst) : f_X3_put_7 1 x h = some (hso h 8 (uS (h.1 8) 8 x)) := rowp7 1 x h
theorem rowa7_1 (x : Int32) (h : Hst) : f_X3_add_7 1 x h = some (hso h 8 (uS (h.1 8) 8 (cS (h.1 8) 8 + x))) := by
  unfold f_X3_add_7
  rw [row7_1, gb_some, rowp7_1, gbv_some]
theorem row7_2 (h : Hst) : f_X3_get_7 2 h = some (cS (h.1 8) 9, h) := row7 2 h
theorem rowp7_2 (x : Int32) (h : Hst) : f_X3_put_7 2 x h = some (hso h 8 (uS (h.1 8) 9 x)) := rowp7 2 x h
theorem rowa7_2 (x : Int32) (h : Hst) : f_X3_add_7 2 x h = some (hso h 8 (uS (h.1 8) 9 (cS (h.1 8) 9 + x))) := by
  unfold f_X3_add_7
  rw [row7_2, gb_some, rowp7_2, gbv_some]
theorem row7_3 (h : Hst) : f_X3_get_7 3 h = some (cS (h.1 8) 10, h) := row7 3 h
theorem rowp7_3 (x : Int32) (h : Hst) : f_X3_put_7 3 x h = some (hso h 8 (uS (h.1 8) 10 x)) := rowp7 3 x h
theorem rowa7_3 (x : Int32) (h : Hst) : f_X3_add_7 3 x h = some (hso h 8 (uS (h.1 8) 10 (cS (h.1 8) 10 + x))) := by
  unfold f_X3_add_7
  rw [row7_3, gb_some, rowp7_3, gbv_some]
theorem row7_4 (h : Hst) : f_X3_get_7 4 h = some (cS (h.1 8) 11, h) := row7 4 h
theorem rowp7_4 (x : Int32) (h : Hst) : f_X3_put_7 4 x h = some (hso h 8 (uS (h.1 8) 11 x)) := rowp7 4 x h
theorem rowa7_4 (x : Int32) (h : Hst) : f_X3_add_7 4 x h = some (hso h 8 (uS (h.1 8) 11 (cS (h.1 8) 11 + x))) := by
  unfold f_X3_add_7
  rw [row7_4, gb_some, rowp7_4, gbv_some]
theorem row7_5 (h : Hst) : f_X3_get_7 5 h = some (cS (h.1 8) 12, h) := row7 5 h
theorem rowp7_5 (x : Int32) (h : Hst) : f_X3_put_7 5 x h = some (hso h 8 (uS (h.1 8) 12 x)) := rowp7 5 x h
theorem rowa7_5 (x : Int32) (h : Hst) : f_X3_add_7 5 x h = some (hso h 8 (uS (h.1 8) 12 (cS (h.1 8) 12 + x))) := by
  unfold f_X3_add_7
  rw [row7_5, gb_some, rowp7_5, gbv_some]
theorem row7_6 (h : Hst) : f_X3_get_7 6 h = some (cS (h.1 8) 13, h) := row7 6 h
theorem rowp7_6 (x : Int32) (h : Hst) : f_X3_put_7 6 x h = some (hso h 8 (uS (h.1 8) 13 x)) := rowp7 6 x h
theorem rowa7_6 (x : Int32) (h : Hst) : f_X3_add_7 6 x h = some (hso h 8 (uS (h.1 8) 13 (cS (h.1 8) 13 + x))) := by
  unfold f_X3_add_7
  rw [row7_6, gb_some, rowp7_6, gbv_some]
