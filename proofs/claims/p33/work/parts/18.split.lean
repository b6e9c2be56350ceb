def am1 (f : Fin 5 → Int32) : Fin 5 := if f 1 ≤ f 0 then 0 else 1
def am2 (f : Fin 5 → Int32) : Fin 5 := if f 2 ≤ f (am1 f) then am1 f else 2
def am3 (f : Fin 5 → Int32) : Fin 5 := if f 3 ≤ f (am2 f) then am2 f else 3
def am (f : Fin 5 → Int32) : Fin 5 := if f 4 ≤ f (am3 f) then am3 f else 4
def AM (f : Fin 5 → Int32) (k g : Fin 5) : Prop := g ≤ k ∧ (∀ j, j ≤ k → f j ≤ f g) ∧ ∀ j, j < g → f j < f g
theorem AM.step {f : Fin 5 → Int32} {k k' g : Fin 5} (hk : k'.val = k.val + 1) (h : AM f k g) : AM f k' (if f k' ≤ f g then g else k') := by
  obtain ⟨h0, h1, h2⟩ := h
  have h0' : g.val ≤ k.val := h0
  by_cases q : f k' ≤ f g
  · rw [if_pos q]
    refine ⟨by show g.val ≤ k'.val; omega, fun j hj => ?_, h2⟩
    by_cases e : j = k'
    · rw [e]; exact q
    · have hj' : j.val ≤ k'.val := hj
      exact h1 j (by show j.val ≤ k.val; have : j.val ≠ k'.val := fun z => e (Fin.ext z); omega)
  · rw [if_neg q]
    have lt : f g < f k' := Int32.not_le.mp q
    refine ⟨by show k'.val ≤ k'.val; omega, fun j hj => ?_, fun j hj => ?_⟩
    · by_cases e : j = k'
      · rw [e]; exact Int32.le_refl _
      · have hj' : j.val ≤ k'.val := hj
        exact Int32.le_trans (h1 j (by show j.val ≤ k.val; have : j.val ≠ k'.val := fun z => e (Fin.ext z); omega)) (Int32.le_of_lt lt)
    · have hj' : j.val < k'.val := hj
      exact Int32.lt_of_le_of_lt (h1 j (by show j.val ≤ k.val; omega)) lt
theorem AM_0 (f : Fin 5 → Int32) : AM f 0 0 := ⟨by decide, fun j hj => by
  have hj' : j.val ≤ 0 := hj
  have : j = 0 := Fin.ext (by show j.val = 0; omega)
  rw [this]; exact Int32.le_refl _, fun j hj => by
  have hj' : j.val < 0 := hj
  omega⟩
theorem am_AM (f : Fin 5 → Int32) : AM f 4 (am f) := by
  have a1 : AM f 1 (am1 f) := (AM_0 f).step (k' := 1) rfl
  have a2 : AM f 2 (am2 f) := a1.step (k' := 2) rfl
  have a3 : AM f 3 (am3 f) := a2.step (k' := 3) rfl
  exact a3.step (k' := 4) rfl
theorem AM_uniq {f : Fin 5 → Int32} {g g' : Fin 5} (h : AM f 4 g) (h' : AM f 4 g') : g = g' := by
  obtain ⟨a0, a1, a2⟩ := h
  obtain ⟨b0, b1, b2⟩ := h'
  by_cases q : g < g'
  · exact absurd (b2 g q) (Int32.not_lt.mpr (a1 g' b0))
  · by_cases q' : g' < g
    · exact absurd (a2 g' q') (Int32.not_lt.mpr (b1 g a0))
    · have c1 : ¬ g.val < g'.val := q
      have c2 : ¬ g'.val < g.val := q'
      exact Fin.ext (by omega)
def rnd (x : Int32) : Nat → (Fin 5 → Int32) → (Fin 5 → Int32) → Fin 5 → Int32
  | 0, p, _ => p
  | m + 1, p, r => rnd x m (fun v => if v = am r then p v + 1 else p v) (fun v => if v = am r then x else r v)
def S5 (f : Fin 5 → Nat) : Nat := f 0 + f 1 + f 2 + f 3 + f 4
theorem S5_upd (f : Fin 5 → Nat) (g : Fin 5) (y : Nat) : S5 (fun v => if v = g then y else f v) + f g = S5 f + y := by
  unfold S5
  rcases fin5 g with rfl | rfl | rfl | rfl | rfl
  · simp; omega
  · simp; omega
  · simp; omega
  · simp; omega
  · simp; omega
theorem S5_pos {f : Fin 5 → Nat} (h : 0 < S5 f) : ∃ v, 0 < f v := by
  unfold S5 at h
  rcases (by omega : 0 < f 0 ∨ 0 < f 1 ∨ 0 < f 2 ∨ 0 < f 3 ∨ 0 < f 4) with q | q | q | q | q
  · exact ⟨0, q⟩
  · exact ⟨1, q⟩
  · exact ⟨2, q⟩
  · exact ⟨3, q⟩
  · exact ⟨4, q⟩
theorem rnd_ok (all : Nat) (ha : all ≤ 20000) (o : Fin 5 → Nat) : ∀ (m : Nat) (b r : Fin 5 → Nat) (K : Fin 5 → Bool) (p rc rm : Fin 5 → Int32), (∀ v, p v = nI (b v)) → (∀ v, r v < all) → (∀ v, rc v = if K v then 0 else nI (r v)) → (∀ v, rm v = if K v then -1 else nI (r v)) →
    (∀ v, b v ≤ o v) → (∀ v, K v = false → 0 < r v → b v + 1 ≤ o v) → m * all < S5 (fun v => if K v then 0 else r v) + all ∨ m = 0 →
    ∃ N : Fin 5 → Nat, (∀ v, rnd 0 m p rc v = nI (N v)) ∧ (∀ v, rnd (-1) m p rm v = nI (N v)) ∧ (∀ v, N v ≤ o v) ∧ S5 N = S5 b + m
  | 0, b, r, K, p, rc, rm, hp, _, _, _, hb, _, _ => ⟨b, hp, hp, hb, rfl⟩
  | m + 1, b, r, K, p, rc, rm, hp, hr, hc, hm, hb, hk, hs => by
    have hs' : (m + 1) * all < S5 (fun v => if K v then 0 else r v) + all := hs.elim id (fun w => absurd w (by omega))
    rw [Nat.succ_mul] at hs'
    obtain ⟨j, hj⟩ := S5_pos (f := fun v => if K v then 0 else r v) (by omega)
    have hj' : 0 < (if K j then 0 else r j) := hj
    have Kj : K j = false := by
      cases q : K j with
      | false => rfl
      | true => rw [q, if_pos rfl] at hj'; omega
    rw [Kj, if_neg (by decide)] at hj'
    have A := am_AM rc
    generalize eg : am rc = g at A
    obtain ⟨a0, a1, a2⟩ := A
    have rcj : rc j = nI (r j) := by rw [hc, Kj, if_neg (by decide)]
    have Kg : K g = false := by
      cases q : K g with
      | false => rfl
      | true =>
        have e0 : rc g = 0 := by rw [hc, q, if_pos rfl]
        have := a1 j (by show j.val ≤ 4; have := j.isLt; omega)
        rw [rcj, e0] at this
        exact absurd this (nI_nle (by omega) (by have := hr j; omega))
    have rcg : rc g = nI (r g) := by rw [hc, Kg, if_neg (by decide)]
    have rmg : rm g = nI (r g) := by rw [hm, Kg, if_neg (by decide)]
    have rg0 : 0 < r g := by
      have := a1 j (by show j.val ≤ 4; have := j.isLt; omega)
      rw [rcj, rcg] at this
      rcases Nat.eq_zero_or_pos (r g) with q | q
      · rw [q] at this
        exact absurd this (nI_nle (by omega) (by have := hr j; omega))
      · exact q
    have le : ∀ v, rm v ≤ rc v := fun v => by
      rw [hc, hm]
      cases K v with
      | true => rw [if_pos rfl, if_pos rfl]; decide
      | false => exact Int32.le_refl _
    have A' : AM rm 4 g := ⟨a0, fun i hi => by rw [rmg, ← rcg]; exact Int32.le_trans (le i) (a1 i hi), fun i hi => by rw [rmg, ← rcg]; exact Int32.lt_of_le_of_lt (le i) (a2 i hi)⟩
    have eg' : am rm = g := AM_uniq (am_AM rm) A'
    have U := S5_upd (fun v => if K v then 0 else r v) g 0
    have Ug : (if K g then 0 else r g) = r g := by rw [Kg, if_neg (by decide)]
    have rlt := hr g
    obtain ⟨N, n1, n2, n3, n4⟩ := rnd_ok all ha o m (fun v => if v = g then b v + 1 else b v) r (fun v => if v = g then true else K v) (fun v => if v = g then p v + 1 else p v) (fun v => if v = g then 0 else rc v) (fun v => if v = g then -1 else rm v)
      (fun v => by
        by_cases q : v = g
        · simp only [if_pos q]; rw [hp, nI_1]
        · simp only [if_neg q]; exact hp v) hr
      (fun v => by
        by_cases q : v = g
        · simp only [if_pos q, if_true]
        · simp only [if_neg q]; exact hc v)
      (fun v => by
        by_cases q : v = g
        · simp only [if_pos q, if_true]
        · simp only [if_neg q]; exact hm v)
      (fun v => by
        by_cases q : v = g
        · simp only [if_pos q]; rw [q]; exact hk g Kg rg0
        · simp only [if_neg q]; exact hb v)
      (fun v => by
        by_cases q : v = g
        · simp only [if_pos q]; intro w; exact absurd w (by decide)
        · simp only [if_neg q]; exact hk v)
      (by
        have e : (fun v => if (if v = g then true else K v) then 0 else r v) = fun v => if v = g then 0 else (if K v then 0 else r v) := by
          funext v
          by_cases q : v = g
          · rw [if_pos q, if_pos q, if_pos rfl]
          · rw [if_neg q, if_neg q]
        rw [e]
        have U' : S5 (fun v => if v = g then 0 else (if K v then 0 else r v)) + r g = S5 (fun v => if K v then 0 else r v) := by
          have := U
          simp only [Ug] at this
          omega
        rcases Nat.eq_zero_or_pos m with q | q
        · exact Or.inr q
        · left; omega)
    refine ⟨N, fun v => ?_, fun v => ?_, n3, ?_⟩
    · rw [rnd, eg]; exact n1 v
    · rw [rnd, eg']; exact n2 v
    · rw [n4]
      have := S5_upd b g (b g + 1)
      have e : (fun v => if v = g then b v + 1 else b v) = fun v => if v = g then b g + 1 else b v := by
        funext v
        by_cases q : v = g
        · rw [if_pos q, if_pos q, q]
        · rw [if_neg q, if_neg q]
      rw [e]; omega
def ScrS (h h' : Hst) : Prop := h'.2 = h.2 ∧ ∀ k, k ≠ 11 → k ≠ 12 → h'.1 k = h.1 k
theorem ScrS.trans {a b c : Hst} (p : ScrS a b) (q : ScrS b c) : ScrS a c := ⟨q.1.trans p.1, fun k x y => (q.2 k x y).trans (p.2 k x y)⟩
theorem ScrS.two {h h' : Hst} {a b : Nat} {x y : Int32} (s : ScrS (hst (hst h 11 a x) 12 b y) h') : ScrS h h' :=
  ⟨s.1, fun k k1 k2 => by rw [s.2 k k1 k2, hst_at, if_neg k2, hst_at, if_neg k1]⟩
theorem great_step {r : Fin 5 → Int32} {h : Hst} (hr : ∀ v : Fin 5, h.1 12 v.val = r v) (n : Nat) (g k : Fin 5) : lp_X1_greatestRemainder_4 (n + 1) (nI g.val) (nI k.val) h = lp_X1_greatestRemainder_4 n (nI (if r k ≤ r g then g else k).val) (nI (k.val + 1)) h := by
  have lg := g.isLt
  have lk := k.isLt
  rw [lp_X1_greatestRemainder_4, if_neg (show ¬ (5 : Int32) ≤ nI k.val from nI_ge (b := 5) k.isLt (by decide)), gck_nI lk (by decide), gck_nI lg (by decide), nI_clamp (by omega), nI_clamp (by omega), hr, hr]
  unfold jb_X1_greatestRemainder_30
  rw [nI_1]
  split <;> rfl
theorem great_end (h : Hst) (n : Nat) (g : Fin 5) : lp_X1_greatestRemainder_4 (n + 1) (nI g.val) (nI 5) h = some (nI g.val, h) := by
  rw [lp_X1_greatestRemainder_4, if_pos (by decide)]
theorem great {r : Fin 5 → Int32} {h : Hst} (hr : ∀ v : Fin 5, h.1 12 v.val = r v) : f_X1_greatestRemainder h = some (nI (am r).val, h) := by
  unfold f_X1_greatestRemainder
  exact (great_step hr 4095 0 1).trans ((great_step hr 4094 (am1 r) 2).trans ((great_step hr 4093 (am2 r) 3).trans ((great_step hr 4092 (am3 r) 4).trans (great_end h 4091 (am r)))))
theorem roundUp_v (g : Fin 5) (h : Hst) : f_X1_roundUp (nI g.val) h = some (hst (hst h 11 g.val (h.1 11 g.val + 1)) 12 g.val 0) := by
  have lg := g.isLt
  have n5 : ¬ (5 : Int32) ≤ nI g.val := nI_ge (b := 5) g.isLt (by decide)
  unfold f_X1_roundUp jb_X1_roundUp_39
  rw [if_neg (nI_pos (by omega)), if_neg n5, if_neg n5, gck_nI lg (by decide), gck_nI lg (by decide), nI_clamp (by omega), gl_eq, gck_nI lg (by decide), gl_eq]
theorem split_99 : ∀ (m i n : Nat) (h : Hst) (p r : Fin 5 → Int32), m + i ≤ 5 → m < n → (∀ v : Fin 5, h.1 11 v.val = p v) → (∀ v : Fin 5, h.1 12 v.val = r v) → ∃ h', lp_X1_split_99 n (nI m) (nI i) h = some h' ∧ ScrS h h' ∧ ∀ v : Fin 5, h'.1 11 v.val = rnd 0 m p r v
  | 0, i, n + 1, h, p, r, hi, _, hp, hr => by
    refine ⟨h, ?_, ⟨rfl, fun _ _ _ => rfl⟩, hp⟩
    unfold lp_X1_split_99 jb_X1_split_127
    rw [if_pos (show nI 0 ≤ 0 by decide)]
    split <;> rfl
  | m + 1, i, n + 1, h, p, r, hi, hn, hp, hr => by
    have e : nI (m + 1) + (-1) = nI m := by
      have := nI_pred m
      rw [Int32.sub_eq_add_neg] at this; exact this
    have ne : ∀ {a b : Fin 5}, a.val = b.val ↔ a = b := ⟨Fin.ext, congrArg Fin.val⟩
    obtain ⟨h', e', s, q⟩ := split_99 m (i + 1) n (hst (hst h 11 (am r).val (h.1 11 (am r).val + 1)) 12 (am r).val 0) (fun v => if v = am r then p v + 1 else p v) (fun v => if v = am r then 0 else r v) (by omega) (by omega)
      (fun v => by
        rw [hst_at, if_neg (by decide), hst_at, if_pos rfl, upd_at]
        by_cases w : v = am r
        · rw [if_pos w, if_pos (ne.mpr w), hp, w]
        · rw [if_neg w, if_neg (fun x => w (ne.mp x)), hp])
      (fun v => by
        show (if v.val = (am r).val then (0 : Int32) else h.1 12 v.val) = _
        by_cases w : v = am r
        · rw [if_pos w, if_pos (ne.mpr w)]
        · rw [if_neg w, if_neg (fun x => w (ne.mp x)), hr])
    refine ⟨h', ?_, ScrS.two s, q⟩
    rw [lp_X1_split_99, if_neg (show ¬ (5 : Int32) ≤ nI i from nI_ge (b := 5) (by omega) (by decide)), if_neg (nI_nle (by omega) (by omega)), great hr, gb_some, roundUp_v, gbv_some, e, nI_1]
    exact e'
def misF (f : Nat → Nat) : Nat → Nat → Int32 → Int32
  | 0, _, a => a
  | m + 1, i, a => misF f m (i + 1) (a - nI (f i))
def lfN (f : Fin 5 → Nat) (i : Nat) : Nat := if h : i < 5 then f ⟨i, h⟩ else 0
theorem lfN_at (f : Fin 5 → Nat) (i : Nat) (h : i < 5) : lfN f i = f ⟨i, h⟩ := dif_pos h
theorem misF_5 (f : Fin 5 → Nat) (q : Nat) (h : S5 f ≤ q) : misF (lfN f) 5 0 (nI q) = nI (q - S5 f) := by
  unfold S5 at h ⊢
  show nI q - nI (f 0) - nI (f 1) - nI (f 2) - nI (f 3) - nI (f 4) = _
  rw [pk_sub (by omega), pk_sub (by omega), pk_sub (by omega), pk_sub (by omega), pk_sub (by omega)]
  congr 1
  omega
theorem split_17 (t : Fin 6) {q all : Nat} (h0 : 0 < all) (h1 : all ≤ 20000) (hq : q ≤ 20000) (o : Fin 5 → Nat) (ho : ∀ v, o v ≤ 20000) : ∀ (m i n : Nat) (a4 : Int32) (h : Hst), i + m = 5 → m < n → (∀ v, cTa (h.1 8) t (ts v) = nI (o v)) → (∀ v : Fin 5, v.val < i → h.1 11 v.val = nI (o v * q / all) ∧ h.1 12 v.val = nI (o v * q % all)) →
    ∃ h', lp_X1_split_17 n (nI t.val) (nI q) (nI all) a4 (nI i) h = jb_X1_split_96 (misF (lfN fun v => o v * q / all) m i a4) h' ∧ ScrS h h' ∧ ∀ v : Fin 5, h'.1 11 v.val = nI (o v * q / all) ∧ h'.1 12 v.val = nI (o v * q % all)
  | 0, i, n + 1, a4, h, hi, _, _, hv => by
    refine ⟨h, ?_, ⟨rfl, fun _ _ _ => rfl⟩, fun v => hv v (by have := v.isLt; omega)⟩
    rw [lp_X1_split_17, if_pos (show (5 : Int32) ≤ nI i from nI_le (a := 5) (by omega) (by omega))]
    rfl
  | m + 1, i, n + 1, a4, h, hi, hn, hc, hv => by
    have i5 : i < 5 := by omega
    have b1 : o ⟨i, i5⟩ * q < 2 ^ 31 := Nat.lt_of_le_of_lt (Nat.mul_le_mul (ho _) hq) (by decide)
    have d1 : nI (o ⟨i, i5⟩ * q) / nI all = nI (o ⟨i, i5⟩ * q / all) := pk_div b1 h0 (by omega)
    have d2 : nI (o ⟨i, i5⟩ * q) - nI (o ⟨i, i5⟩ * q / all) * nI all = nI (o ⟨i, i5⟩ * q % all) := by
      rw [← d1]; exact pk_rem b1 h0 (by omega)
    obtain ⟨h', e', s, w⟩ := split_17 t h0 h1 hq o ho m (i + 1) n (a4 - nI (o ⟨i, i5⟩ * q / all)) (hst (hst h 11 i (nI (o ⟨i, i5⟩ * q / all))) 12 i (nI (o ⟨i, i5⟩ * q % all))) (by omega) (by omega) (fun v => hc v) (fun v hv' => by
      by_cases x : v.val = i
      · have : v = ⟨i, i5⟩ := Fin.ext x
        subst this
        refine ⟨?_, ?_⟩
        · rw [hst_at, if_neg (by decide), hst_at, if_pos rfl, upd_at, if_pos rfl]
        · rw [hst_at, if_pos rfl, upd_at, if_pos rfl]
      · obtain ⟨y1, y2⟩ := hv v (by omega)
        refine ⟨?_, ?_⟩
        · rw [hst_at, if_neg (by decide), hst_at, if_pos rfl, upd_at, if_neg x]; exact y1
        · rw [hst_at, if_pos rfl, upd_at, if_neg x, hst_at, if_neg (by decide)]; exact y2)
    refine ⟨h', ?_, ScrS.two s, w⟩
    have n5 : ¬ (5 : Int32) ≤ nI i := nI_ge (b := 5) i5 (by decide)
    have z : (hst (hst h 11 i (nI (o ⟨i, i5⟩ * q / all))) 12 i (nI (o ⟨i, i5⟩ * q % all))).1 11 i = nI (o ⟨i, i5⟩ * q / all) := by
      rw [hst_at, if_neg (by decide), hst_at, if_pos rfl, upd_at, if_pos rfl]
    rw [lp_X1_split_17, if_neg n5, if_neg n5, show nI i = nI (⟨i, i5⟩ : Fin 5).val from rfl, get4_v, gb_some, hc, pk_mul, gl_eq, gdz_ne (nI_ne0 (by omega) (by omega)), gck_nI i5 (by decide), d1, gl_eq, gdz_ne (nI_ne0 (by omega) (by omega)), gck_nI i5 (by decide), d2, gl_eq, gck_nI i5 (by decide), nI_clamp (by show i < _; omega), z, gl_eq, misF, lfN_at _ i i5]
    refine Eq.trans ?_ e'
    rw [← nI_1 i]
theorem TankI_o {c : Nat → Int32} {t : Fin 6} (h : TankI c t) : ∃ o : Fin 5 → Nat, (∀ v, cTa c t (ts v) = nI (o v)) ∧ oil5 c t = nI (S5 o) ∧ S5 o ≤ 20000 ∧ ∀ v, o v ≤ 20000 := by
  obtain ⟨s, o0, o1, o2, o3, o4, h1, h2, e0, e2, e3, e4, e5, e6⟩ := h
  refine ⟨fun v => match v with | 0 => o0 | 1 => o1 | 2 => o2 | 3 => o3 | 4 => o4, fun v => ?_, ?_, ?_, fun v => ?_⟩
  · rcases fin5 v with rfl | rfl | rfl | rfl | rfl
    · exact e2
    · exact e3
    · exact e4
    · exact e5
    · exact e6
  · unfold oil5
    rw [e2, e3, e4, e5, e6, show (0 : Int32) = nI 0 from rfl, nI_add, nI_add, nI_add, nI_add, nI_add, Nat.zero_add]
    rfl
  · show o0 + o1 + o2 + o3 + o4 ≤ 20000
    omega
  · rcases fin5 v with rfl | rfl | rfl | rfl | rfl
    · show o0 ≤ 20000; omega
    · show o1 ≤ 20000; omega
    · show o2 ≤ 20000; omega
    · show o3 ≤ 20000; omega
    · show o4 ≤ 20000; omega
theorem share_sum (o : Fin 5 → Nat) (q : Nat) : S5 o * S5 (fun v => o v * q / S5 o) + S5 (fun v => o v * q % S5 o) = S5 o * q := by
  have d := fun v => Nat.div_add_mod (o v * q) (S5 o)
  have e : S5 o * q = o 0 * q + o 1 * q + o 2 * q + o 3 * q + o 4 * q := by
    show (o 0 + o 1 + o 2 + o 3 + o 4) * q = _
    rw [Nat.add_mul, Nat.add_mul, Nat.add_mul, Nat.add_mul]
  have e2 : S5 o * S5 (fun v => o v * q / S5 o) = S5 o * (o 0 * q / S5 o) + S5 o * (o 1 * q / S5 o) + S5 o * (o 2 * q / S5 o) + S5 o * (o 3 * q / S5 o) + S5 o * (o 4 * q / S5 o) := by
    show S5 o * (o 0 * q / S5 o + o 1 * q / S5 o + o 2 * q / S5 o + o 3 * q / S5 o + o 4 * q / S5 o) = _
    rw [Nat.mul_add, Nat.mul_add, Nat.mul_add, Nat.mul_add]
  have e3 : S5 (fun v => o v * q % S5 o) = o 0 * q % S5 o + o 1 * q % S5 o + o 2 * q % S5 o + o 3 * q % S5 o + o 4 * q % S5 o := rfl
  have d0 := d 0
  have d1 := d 1
  have d2 := d 2
  have d3 := d 3
  have d4 := d 4
  rw [e, e2, e3]
  omega
theorem ScrS.scr {h h' : Hst} (s : ScrS h h') : ScrC h h' := ⟨s.1, fun k hk => s.2 k (by omega) (by omega)⟩
theorem part_v (v : Fin 5) (h : Hst) : f_X1_part (nI v.val) h = some (h.1 11 v.val, h) := by
  have lv := v.isLt
  unfold f_X1_part jb_X1_part_23
  rw [if_neg (nI_pos (by omega)), if_neg (show ¬ (5 : Int32) ≤ nI v.val from nI_ge (b := 5) lv (by decide)), gck_nI lv (by decide), nI_clamp (by omega)]
theorem checkOil_gd {n : Nat} (n1 : 1 ≤ n) (n2 : n ≤ 20000) (h : Hst) : f_X6_checkOil (nI n) h = some h := by
  unfold f_X6_checkOil
  rw [isOutside, if_neg (show ¬ nI n < 1 from nI_nlt (b := 1) n1 (by omega)), if_pos (show nI n ≤ 20000 from nI_le (b := 20000) n2 (by decide)), gb_some, if_pos rfl]
theorem split_N (o : Fin 5 → Nat) (h1 : S5 o ≤ 20000) {q : Nat} (q1 : 1 ≤ q) (q2 : q ≤ S5 o) :
    ∃ (N : Fin 5 → Nat) (m : Nat), (∀ v, N v ≤ o v) ∧ S5 N = q ∧ m < 5 ∧ misF (lfN fun v => o v * q / S5 o) 5 0 (nI q) = nI m ∧ (∀ v, rnd 0 m (fun v => nI (o v * q / S5 o)) (fun v => nI (o v * q % S5 o)) v = nI (N v)) ∧
      (∀ v, rnd (-1) m (fun v => nI (o v * q / S5 o)) (fun v => nI (o v * q % S5 o)) v = nI (N v)) ∧ m * S5 o ≤ S5 (fun v => o v * q % S5 o) := by
  have h0 : 0 < S5 o := by omega
  have hs := share_sum o q
  have le : S5 (fun v => o v * q / S5 o) ≤ q := Nat.le_of_mul_le_mul_left (show S5 o * S5 (fun v => o v * q / S5 o) ≤ S5 o * q by omega) h0
  obtain ⟨m, hm⟩ : ∃ m, q = S5 (fun v => o v * q / S5 o) + m := ⟨q - S5 (fun v => o v * q / S5 o), by omega⟩
  have hr : ∀ v, o v * q % S5 o < S5 o := fun v => Nat.mod_lt _ h0
  have hmr : S5 o * m = S5 (fun v => o v * q % S5 o) := by
    have : S5 o * q = S5 o * S5 (fun v => o v * q / S5 o) + S5 o * m := by rw [← Nat.mul_add, ← hm]
    omega
  have m5 : m < 5 := by
    have a0 := hr 0
    have a1 := hr 1
    have a2 := hr 2
    have a3 := hr 3
    have a4 := hr 4
    have e3 : S5 (fun v => o v * q % S5 o) = o 0 * q % S5 o + o 1 * q % S5 o + o 2 * q % S5 o + o 3 * q % S5 o + o 4 * q % S5 o := rfl
    refine Nat.lt_of_mul_lt_mul_left (a := S5 o) ?_
    omega
  obtain ⟨N, n1, n2, n3, n4⟩ := rnd_ok (S5 o) h1 o m (fun v => o v * q / S5 o) (fun v => o v * q % S5 o) (fun _ => false) (fun v => nI (o v * q / S5 o)) (fun v => nI (o v * q % S5 o)) (fun v => nI (o v * q % S5 o)) (fun _ => rfl) hr (fun _ => rfl) (fun _ => rfl)
    (fun v => Nat.div_le_of_le_mul (by rw [Nat.mul_comm (S5 o)]; exact Nat.mul_le_mul_left _ q2))
    (fun v _ w => by
      refine Nat.lt_of_mul_lt_mul_left (a := S5 o) ?_
      have d := Nat.div_add_mod (o v * q) (S5 o)
      have l : o v * q ≤ S5 o * o v := by rw [Nat.mul_comm (S5 o)]; exact Nat.mul_le_mul_left _ q2
      have w' : 0 < o v * q % S5 o := w
      omega)
    (Or.inl (by
      show m * S5 o < S5 (fun v => o v * q % S5 o) + S5 o
      rw [Nat.mul_comm]; omega))
  have mis : misF (lfN fun v => o v * q / S5 o) 5 0 (nI q) = nI m := by
    rw [misF_5 _ q le]
    congr 1
    omega
  exact ⟨N, m, n3, by rw [n4]; exact hm.symm, m5, mis, n1, n2, by rw [Nat.mul_comm]; omega⟩
theorem split_C {c : Nat → Int32} (t : Fin 6) (o : Fin 5 → Nat) (ho : ∀ v, cTa c t (ts v) = nI (o v)) (he : oil5 c t = nI (S5 o)) (h1 : S5 o ≤ 20000) (h2 : ∀ v, o v ≤ 20000) {q m : Nat} {N : Fin 5 → Nat} (q1 : 1 ≤ q) (q2 : q ≤ S5 o) (m5 : m < 5) (mis : misF (lfN fun v => o v * q / S5 o) 5 0 (nI q) = nI m)
    (n1 : ∀ v, rnd 0 m (fun v => nI (o v * q / S5 o)) (fun v => nI (o v * q % S5 o)) v = nI (N v)) (h : Hst) (e : h.1 8 = c) : ∃ h', f_X1_split (nI t.val) (nI q) h = some h' ∧ ScrS h h' ∧ ∀ v : Fin 5, h'.1 11 v.val = nI (N v) := by
  have h0 : 0 < S5 o := by omega
  obtain ⟨ha, e1, s1, v1⟩ := split_17 t h0 h1 (Nat.le_trans q2 h1) o h2 5 0 FU (nI q) h rfl (by decide) (by rw [e]; exact ho) (fun v hv => absurd hv (by omega))
  obtain ⟨hb, e2, s2, v2⟩ := split_99 m 0 FU ha _ _ (by omega) (Nat.lt_trans m5 (by decide)) (fun v => (v1 v).1) (fun v => (v1 v).2)
  refine ⟨hb, ?_, s1.trans s2, fun v => by rw [v2]; exact n1 v⟩
  unfold f_X1_split
  rw [oilOf, gb_some, e, he, if_pos (show 0 < nI (S5 o) from nI_lt (a := 0) h0 (by omega))]
  rw [mis] at e1
  exact e1.trans e2
theorem cls_taken {c : Nat → Int32} {ng nl nt : Nat} (I : InvC c ng nl nt) (t : Fin 6) (ht : t.val < nt) (o : Fin 5 → Nat) (ho : ∀ v, cTa c t (ts v) = nI (o v)) (he : oil5 c t = nI (S5 o)) (h1 : S5 o ≤ 20000) (h2 : ∀ v, o v ≤ 20000) {q m : Nat} {N : Fin 5 → Nat} (q1 : 1 ≤ q) (q2 : q ≤ S5 o) (m5 : m < 5) (mis : misF (lfN fun v => o v * q / S5 o) 5 0 (nI q) = nI m)
    (n1 : ∀ v, rnd 0 m (fun v => nI (o v * q / S5 o)) (fun v => nI (o v * q % S5 o)) v = nI (N v)) (v : Fin 5) (h : Hst) (e : h.1 8 = c) : ∃ h', f_X6_taken (nI t.val) (nI q) (nI v.val) h = some (nI (N v), h') ∧ ScrC h h' := by
  have lv := v.isLt
  obtain ⟨h', e', s', w⟩ := split_C t o ho he h1 h2 q1 q2 m5 mis n1 h e
  refine ⟨h', ?_, s'.scr⟩
  unfold f_X6_taken
  rw [checkTank_gd I.1.2.2 (by rw [e]; exact I.2.1.2.2) ht, gbv_some, checkOil_gd q1 (by omega), gbv_some, isVariety_gd lv, gb_some, if_neg (by decide), oilOf, gb_some, e, he, if_pos (nI_le q2 (by omega)), e', gbv_some, part_v, gb_some, w]
theorem cls_taken0 {c : Nat → Int32} {ng nl nt : Nat} (I : InvC c ng nl nt) (t : Fin 6) (ht : t.val < nt) (he : oil5 c t = 0) (h : Hst) (e : h.1 8 = c) : f_X6_taken (nI t.val) 1 0 h = some (-1, h) := by
  unfold f_X6_taken
  rw [checkTank_gd I.1.2.2 (by rw [e]; exact I.2.1.2.2) ht, gbv_some, show f_X6_checkOil 1 h = some h from checkOil_gd (n := 1) (by decide) (by decide) h, gbv_some, show f_X6_isVariety 0 h = some (1, h) from isVariety_gd (i := 0) (by decide) h, gb_some, if_neg (by decide), oilOf, gb_some, e, he, if_neg (by decide)]
