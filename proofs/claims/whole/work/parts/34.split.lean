-- splitting, of the class
def ScrS (h h' : Hst) : Prop := h'.2 = h.2 ∧ ∀ k, k ≠ 11 → k ≠ 12 → h'.1 k = h.1 k
theorem ScrS.trans {a b c : Hst} (p : ScrS a b) (q : ScrS b c) : ScrS a c := ⟨q.1.trans p.1, fun k x y => (q.2 k x y).trans (p.2 k x y)⟩
theorem ScrS.two {h h' : Hst} {a b : Nat} {x y : Int32} (s : ScrS (hst (hst h 11 a x) 12 b y) h') : ScrS h h' :=
  ⟨s.1, fun k k1 k2 => by rw [s.2 k k1 k2, hst_at, if_neg k2, hst_at, if_neg k1]⟩
theorem great_step {r : Fin 5 → Int32} {h : Hst} (hr : ∀ v : Fin 5, h.1 12 v.val = r v) (n : Nat) (g k : Fin 5) : lp_X1_greatestRemainder_4 (n + 1) (nI g.val) (nI k.val) h = lp_X1_greatestRemainder_4 n (nI (if r k ≤ r g then g else k).val) (nI (k.val + 1)) h := by
  have lg := g.isLt
  have lk := k.isLt
  rw [lp_X1_greatestRemainder_4, if_neg (show ¬ (5 : Int32) ≤ nI k.val from nI_ge (b := 5) k.isLt (by decide)), gck_nI lk (by decide), gck_nI lg (by decide), nI_clamp (by omega), nI_clamp (by omega), hr, hr]
  unfold jb_X1_greatestRemainder_30
  rw [nI_1]
  split <;> rfl
theorem great_end (h : Hst) (n : Nat) (g : Fin 5) : lp_X1_greatestRemainder_4 (n + 1) (nI g.val) (nI 5) h = some (nI g.val, h) := by
  rw [lp_X1_greatestRemainder_4, if_pos (by decide)]
theorem great {r : Fin 5 → Int32} {h : Hst} (hr : ∀ v : Fin 5, h.1 12 v.val = r v) : f_X1_greatestRemainder h = some (nI (am r).val, h) := by
  unfold f_X1_greatestRemainder
  exact (great_step hr 4095 0 1).trans ((great_step hr 4094 (am1 r) 2).trans ((great_step hr 4093 (am2 r) 3).trans ((great_step hr 4092 (am3 r) 4).trans (great_end h 4091 (am r)))))
theorem roundUp_v (g : Fin 5) (h : Hst) : f_X1_roundUp (nI g.val) h = some (hst (hst h 11 g.val (h.1 11 g.val + 1)) 12 g.val 0) := by
  have lg := g.isLt
  have n5 : ¬ (5 : Int32) ≤ nI g.val := nI_ge (b := 5) g.isLt (by decide)
  unfold f_X1_roundUp jb_X1_roundUp_39
  rw [if_neg (nI_pos (by omega)), if_neg n5, if_neg n5, gck_nI lg (by decide), gck_nI lg (by decide), nI_clamp (by omega), gl_eq, gck_nI lg (by decide), gl_eq]
theorem split_99 : ∀ (m i n : Nat) (h : Hst) (p r : Fin 5 → Int32), m + i ≤ 5 → m < n → (∀ v : Fin 5, h.1 11 v.val = p v) → (∀ v : Fin 5, h.1 12 v.val = r v) → ∃ h', lp_X1_split_99 n (nI m) (nI i) h = some h' ∧ ScrS h h' ∧ ∀ v : Fin 5, h'.1 11 v.val = rnd 0 m p r v
  | 0, i, n + 1, h, p, r, hi, _, hp, hr => by
    refine ⟨h, ?_, ⟨rfl, fun _ _ _ => rfl⟩, hp⟩
    unfold lp_X1_split_99 jb_X1_split_127
    rw [if_pos (show nI 0 ≤ 0 by decide)]
    split <;> rfl
  | m + 1, i, n + 1, h, p, r, hi, hn, hp, hr => by
    have e : nI (m + 1) + (-1) = nI m := by
      have := nI_pred m
      rw [Int32.sub_eq_add_neg] at this; exact this
    have ne : ∀ {a b : Fin 5}, a.val = b.val ↔ a = b := ⟨Fin.ext, congrArg Fin.val⟩
    obtain ⟨h', e', s, q⟩ := split_99 m (i + 1) n (hst (hst h 11 (am r).val (h.1 11 (am r).val + 1)) 12 (am r).val 0) (fun v => if v = am r then p v + 1 else p v) (fun v => if v = am r then 0 else r v) (by omega) (by omega)
      (fun v => by
        rw [hst_at, if_neg (by decide), hst_at, if_pos rfl, upd_at]
        by_cases w : v = am r
        · rw [if_pos w, if_pos (ne.mpr w), hp, w]
        · rw [if_neg w, if_neg (fun x => w (ne.mp x)), hp])
      (fun v => by
        show (if v.val = (am r).val then (0 : Int32) else h.1 12 v.val) = _
        by_cases w : v = am r
        · rw [if_pos w, if_pos (ne.mpr w)]
        · rw [if_neg w, if_neg (fun x => w (ne.mp x)), hr])
    refine ⟨h', ?_, ScrS.two s, q⟩
    rw [lp_X1_split_99, if_neg (show ¬ (5 : Int32) ≤ nI i from nI_ge (b := 5) (by omega) (by decide)), if_neg (nI_nle (by omega) (by omega)), great hr, gb_some, roundUp_v, gbv_some, e, nI_1]
    exact e'
def misF (f : Nat → Nat) : Nat → Nat → Int32 → Int32
  | 0, _, a => a
  | m + 1, i, a => misF f m (i + 1) (a - nI (f i))
def lfN (f : Fin 5 → Nat) (i : Nat) : Nat := if h : i < 5 then f ⟨i, h⟩ else 0
theorem lfN_at (f : Fin 5 → Nat) (i : Nat) (h : i < 5) : lfN f i = f ⟨i, h⟩ := dif_pos h
theorem misF_5 (f : Fin 5 → Nat) (q : Nat) (h : S5 f ≤ q) : misF (lfN f) 5 0 (nI q) = nI (q - S5 f) := by
  unfold S5 at h ⊢
  show nI q - nI (f 0) - nI (f 1) - nI (f 2) - nI (f 3) - nI (f 4) = _
  rw [pk_sub (by omega), pk_sub (by omega), pk_sub (by omega), pk_sub (by omega), pk_sub (by omega)]
  congr 1
  omega
theorem split_17 (t : Fin 6) {q all : Nat} (h0 : 0 < all) (h1 : all ≤ 20000) (hq : q ≤ 20000) (o : Fin 5 → Nat) (ho : ∀ v, o v ≤ 20000) : ∀ (m i n : Nat) (a4 : Int32) (h : Hst), i + m = 5 → m < n → (∀ v, cTa (h.1 8) t (ts v) = nI (o v)) → (∀ v : Fin 5, v.val < i → h.1 11 v.val = nI (o v * q / all) ∧ h.1 12 v.val = nI (o v * q % all)) →
    ∃ h', lp_X1_split_17 n (nI t.val) (nI q) (nI all) a4 (nI i) h = jb_X1_split_96 (misF (lfN fun v => o v * q / all) m i a4) h' ∧ ScrS h h' ∧ ∀ v : Fin 5, h'.1 11 v.val = nI (o v * q / all) ∧ h'.1 12 v.val = nI (o v * q % all)
  | 0, i, n + 1, a4, h, hi, _, _, hv => by
    refine ⟨h, ?_, ⟨rfl, fun _ _ _ => rfl⟩, fun v => hv v (by have := v.isLt; omega)⟩
    rw [lp_X1_split_17, if_pos (show (5 : Int32) ≤ nI i from nI_le (a := 5) (by omega) (by omega))]
    rfl
  | m + 1, i, n + 1, a4, h, hi, hn, hc, hv => by
    have i5 : i < 5 := by omega
    have b1 : o ⟨i, i5⟩ * q < 2 ^ 31 := Nat.lt_of_le_of_lt (Nat.mul_le_mul (ho _) hq) (by decide)
    have d1 : nI (o ⟨i, i5⟩ * q) / nI all = nI (o ⟨i, i5⟩ * q / all) := pk_div b1 h0 (by omega)
    have d2 : nI (o ⟨i, i5⟩ * q) - nI (o ⟨i, i5⟩ * q / all) * nI all = nI (o ⟨i, i5⟩ * q % all) := by
      rw [← d1]; exact pk_rem b1 h0 (by omega)
    obtain ⟨h', e', s, w⟩ := split_17 t h0 h1 hq o ho m (i + 1) n (a4 - nI (o ⟨i, i5⟩ * q / all)) (hst (hst h 11 i (nI (o ⟨i, i5⟩ * q / all))) 12 i (nI (o ⟨i, i5⟩ * q % all))) (by omega) (by omega) (fun v => hc v) (fun v hv' => by
      by_cases x : v.val = i
      · have : v = ⟨i, i5⟩ := Fin.ext x
        subst this
        refine ⟨?_, ?_⟩
        · rw [hst_at, if_neg (by decide), hst_at, if_pos rfl, upd_at, if_pos rfl]
        · rw [hst_at, if_pos rfl, upd_at, if_pos rfl]
      · obtain ⟨y1, y2⟩ := hv v (by omega)
        refine ⟨?_, ?_⟩
        · rw [hst_at, if_neg (by decide), hst_at, if_pos rfl, upd_at, if_neg x]; exact y1
        · rw [hst_at, if_pos rfl, upd_at, if_neg x, hst_at, if_neg (by decide)]; exact y2)
    refine ⟨h', ?_, ScrS.two s, w⟩
    have n5 : ¬ (5 : Int32) ≤ nI i := nI_ge (b := 5) i5 (by decide)
    have z : (hst (hst h 11 i (nI (o ⟨i, i5⟩ * q / all))) 12 i (nI (o ⟨i, i5⟩ * q % all))).1 11 i = nI (o ⟨i, i5⟩ * q / all) := by
      rw [hst_at, if_neg (by decide), hst_at, if_pos rfl, upd_at, if_pos rfl]
    rw [lp_X1_split_17, if_neg n5, if_neg n5, show nI i = nI (⟨i, i5⟩ : Fin 5).val from rfl, get4_v, gb_some, hc, pk_mul, gl_eq, gdz_ne (nI_ne0 (by omega) (by omega)), gck_nI i5 (by decide), d1, gl_eq, gdz_ne (nI_ne0 (by omega) (by omega)), gck_nI i5 (by decide), d2, gl_eq, gck_nI i5 (by decide), nI_clamp (by show i < _; omega), z, gl_eq, misF, lfN_at _ i i5]
    refine Eq.trans ?_ e'
    rw [← nI_1 i]
