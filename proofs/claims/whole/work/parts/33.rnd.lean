-- the greatest of five, the first of them
def am1 (f : Fin 5 → Int32) : Fin 5 := if f 1 ≤ f 0 then 0 else 1
def am2 (f : Fin 5 → Int32) : Fin 5 := if f 2 ≤ f (am1 f) then am1 f else 2
def am3 (f : Fin 5 → Int32) : Fin 5 := if f 3 ≤ f (am2 f) then am2 f else 3
def am (f : Fin 5 → Int32) : Fin 5 := if f 4 ≤ f (am3 f) then am3 f else 4
def AM (f : Fin 5 → Int32) (k g : Fin 5) : Prop := g ≤ k ∧ (∀ j, j ≤ k → f j ≤ f g) ∧ ∀ j, j < g → f j < f g
theorem AM.step {f : Fin 5 → Int32} {k k' g : Fin 5} (hk : k'.val = k.val + 1) (h : AM f k g) : AM f k' (if f k' ≤ f g then g else k') := by
  obtain ⟨h0, h1, h2⟩ := h
  have h0' : g.val ≤ k.val := h0
  by_cases q : f k' ≤ f g
  · rw [if_pos q]
    refine ⟨by show g.val ≤ k'.val; omega, fun j hj => ?_, h2⟩
    by_cases e : j = k'
    · rw [e]; exact q
    · have hj' : j.val ≤ k'.val := hj
      exact h1 j (by show j.val ≤ k.val; have : j.val ≠ k'.val := fun z => e (Fin.ext z); omega)
  · rw [if_neg q]
    have lt : f g < f k' := Int32.not_le.mp q
    refine ⟨by show k'.val ≤ k'.val; omega, fun j hj => ?_, fun j hj => ?_⟩
    · by_cases e : j = k'
      · rw [e]; exact Int32.le_refl _
      · have hj' : j.val ≤ k'.val := hj
        exact Int32.le_trans (h1 j (by show j.val ≤ k.val; have : j.val ≠ k'.val := fun z => e (Fin.ext z); omega)) (Int32.le_of_lt lt)
    · have hj' : j.val < k'.val := hj
      exact Int32.lt_of_le_of_lt (h1 j (by show j.val ≤ k.val; omega)) lt
theorem AM_0 (f : Fin 5 → Int32) : AM f 0 0 := ⟨by decide, fun j hj => by
  have hj' : j.val ≤ 0 := hj
  have : j = 0 := Fin.ext (by show j.val = 0; omega)
  rw [this]; exact Int32.le_refl _, fun j hj => by
  have hj' : j.val < 0 := hj
  omega⟩
theorem am_AM (f : Fin 5 → Int32) : AM f 4 (am f) := by
  have a1 : AM f 1 (am1 f) := (AM_0 f).step (k' := 1) rfl
  have a2 : AM f 2 (am2 f) := a1.step (k' := 2) rfl
  have a3 : AM f 3 (am3 f) := a2.step (k' := 3) rfl
  exact a3.step (k' := 4) rfl
theorem AM_uniq {f : Fin 5 → Int32} {g g' : Fin 5} (h : AM f 4 g) (h' : AM f 4 g') : g = g' := by
  obtain ⟨a0, a1, a2⟩ := h
  obtain ⟨b0, b1, b2⟩ := h'
  by_cases q : g < g'
  · exact absurd (b2 g q) (Int32.not_lt.mpr (a1 g' b0))
  · by_cases q' : g' < g
    · exact absurd (a2 g' q') (Int32.not_lt.mpr (b1 g a0))
    · have c1 : ¬ g.val < g'.val := q
      have c2 : ¬ g'.val < g.val := q'
      exact Fin.ext (by omega)
/-- rounding up m times: p the parts, r the remainders, x what a rounded one gets -/
def rnd (x : Int32) : Nat → (Fin 5 → Int32) → (Fin 5 → Int32) → Fin 5 → Int32
  | 0, p, _ => p
  | m + 1, p, r => rnd x m (fun v => if v = am r then p v + 1 else p v) (fun v => if v = am r then x else r v)
def S5 (f : Fin 5 → Nat) : Nat := f 0 + f 1 + f 2 + f 3 + f 4
theorem S5_upd (f : Fin 5 → Nat) (g : Fin 5) (y : Nat) : S5 (fun v => if v = g then y else f v) + f g = S5 f + y := by
  unfold S5
  rcases fin5 g with rfl | rfl | rfl | rfl | rfl
  · simp; omega
  · simp; omega
  · simp; omega
  · simp; omega
  · simp; omega
theorem S5_pos {f : Fin 5 → Nat} (h : 0 < S5 f) : ∃ v, 0 < f v := by
  unfold S5 at h
  rcases (by omega : 0 < f 0 ∨ 0 < f 1 ∨ 0 < f 2 ∨ 0 < f 3 ∨ 0 < f 4) with q | q | q | q | q
  · exact ⟨0, q⟩
  · exact ⟨1, q⟩
  · exact ⟨2, q⟩
  · exact ⟨3, q⟩
  · exact ⟨4, q⟩
theorem rnd_ok (all : Nat) (ha : all ≤ 20000) (o : Fin 5 → Nat) : ∀ (m : Nat) (b r : Fin 5 → Nat) (K : Fin 5 → Bool) (p rc rm : Fin 5 → Int32), (∀ v, p v = nI (b v)) → (∀ v, r v < all) → (∀ v, rc v = if K v then 0 else nI (r v)) → (∀ v, rm v = if K v then -1 else nI (r v)) →
    (∀ v, b v ≤ o v) → (∀ v, K v = false → 0 < r v → b v + 1 ≤ o v) → m * all < S5 (fun v => if K v then 0 else r v) + all ∨ m = 0 →
    ∃ N : Fin 5 → Nat, (∀ v, rnd 0 m p rc v = nI (N v)) ∧ (∀ v, rnd (-1) m p rm v = nI (N v)) ∧ (∀ v, N v ≤ o v) ∧ S5 N = S5 b + m
  | 0, b, r, K, p, rc, rm, hp, _, _, _, hb, _, _ => ⟨b, hp, hp, hb, rfl⟩
  | m + 1, b, r, K, p, rc, rm, hp, hr, hc, hm, hb, hk, hs => by
    have hs' : (m + 1) * all < S5 (fun v => if K v then 0 else r v) + all := hs.elim id (fun w => absurd w (by omega))
    rw [Nat.succ_mul] at hs'
    obtain ⟨j, hj⟩ := S5_pos (f := fun v => if K v then 0 else r v) (by omega)
    have hj' : 0 < (if K j then 0 else r j) := hj
    have Kj : K j = false := by
      cases q : K j with
      | false => rfl
      | true => rw [q, if_pos rfl] at hj'; omega
    rw [Kj, if_neg (by decide)] at hj'
    have A := am_AM rc
    generalize eg : am rc = g at A
    obtain ⟨a0, a1, a2⟩ := A
    have rcj : rc j = nI (r j) := by rw [hc, Kj, if_neg (by decide)]
    have Kg : K g = false := by
      cases q : K g with
      | false => rfl
      | true =>
        have e0 : rc g = 0 := by rw [hc, q, if_pos rfl]
        have := a1 j (by show j.val ≤ 4; have := j.isLt; omega)
        rw [rcj, e0] at this
        exact absurd this (nI_nle (by omega) (by have := hr j; omega))
    have rcg : rc g = nI (r g) := by rw [hc, Kg, if_neg (by decide)]
    have rmg : rm g = nI (r g) := by rw [hm, Kg, if_neg (by decide)]
    have rg0 : 0 < r g := by
      have := a1 j (by show j.val ≤ 4; have := j.isLt; omega)
      rw [rcj, rcg] at this
      rcases Nat.eq_zero_or_pos (r g) with q | q
      · rw [q] at this
        exact absurd this (nI_nle (by omega) (by have := hr j; omega))
      · exact q
    have le : ∀ v, rm v ≤ rc v := fun v => by
      rw [hc, hm]
      cases K v with
      | true => rw [if_pos rfl, if_pos rfl]; decide
      | false => exact Int32.le_refl _
    have A' : AM rm 4 g := ⟨a0, fun i hi => by rw [rmg, ← rcg]; exact Int32.le_trans (le i) (a1 i hi), fun i hi => by rw [rmg, ← rcg]; exact Int32.lt_of_le_of_lt (le i) (a2 i hi)⟩
    have eg' : am rm = g := AM_uniq (am_AM rm) A'
    have U := S5_upd (fun v => if K v then 0 else r v) g 0
    have Ug : (if K g then 0 else r g) = r g := by rw [Kg, if_neg (by decide)]
    have rlt := hr g
    obtain ⟨N, n1, n2, n3, n4⟩ := rnd_ok all ha o m (fun v => if v = g then b v + 1 else b v) r (fun v => if v = g then true else K v) (fun v => if v = g then p v + 1 else p v) (fun v => if v = g then 0 else rc v) (fun v => if v = g then -1 else rm v)
      (fun v => by
        by_cases q : v = g
        · simp only [if_pos q]; rw [hp, nI_1]
        · simp only [if_neg q]; exact hp v) hr
      (fun v => by
        by_cases q : v = g
        · simp only [if_pos q, if_true]
        · simp only [if_neg q]; exact hc v)
      (fun v => by
        by_cases q : v = g
        · simp only [if_pos q, if_true]
        · simp only [if_neg q]; exact hm v)
      (fun v => by
        by_cases q : v = g
        · simp only [if_pos q]; rw [q]; exact hk g Kg rg0
        · simp only [if_neg q]; exact hb v)
      (fun v => by
        by_cases q : v = g
        · simp only [if_pos q]; intro w; exact absurd w (by decide)
        · simp only [if_neg q]; exact hk v)
      (by
        have e : (fun v => if (if v = g then true else K v) then 0 else r v) = fun v => if v = g then 0 else (if K v then 0 else r v) := by
          funext v
          by_cases q : v = g
          · rw [if_pos q, if_pos q, if_pos rfl]
          · rw [if_neg q, if_neg q]
        rw [e]
        have U' : S5 (fun v => if v = g then 0 else (if K v then 0 else r v)) + r g = S5 (fun v => if K v then 0 else r v) := by
          have := U
          simp only [Ug] at this
          omega
        rcases Nat.eq_zero_or_pos m with q | q
        · exact Or.inr q
        · left; omega)
    refine ⟨N, fun v => ?_, fun v => ?_, n3, ?_⟩
    · rw [rnd, eg]; exact n1 v
    · rw [rnd, eg']; exact n2 v
    · rw [n4]
      have := S5_upd b g (b g + 1)
      have e : (fun v => if v = g then b v + 1 else b v) = fun v => if v = g then b g + 1 else b v := by
        funext v
        by_cases q : v = g
        · rw [if_pos q, if_pos q, q]
        · rw [if_neg q, if_neg q]
      rw [e]; omega
