-- splitting, of the model
def ScrL (h h' : Hst) : Prop := h'.2 = h.2 ∧ ∀ k, k ≠ 22 → k ≠ 23 → h'.1 k = h.1 k
theorem ScrL.two {h h' : Hst} {a b : Nat} {x y : Int32} (s : ScrL (hst (hst h 22 a x) 23 b y) h') : ScrL h h' :=
  ⟨s.1, fun k k1 k2 => by rw [s.2 k k1 k2, hst_at, if_neg k2, hst_at, if_neg k1]⟩
theorem lay_step {r : Fin 5 → Int32} {h : Hst} (hr : ∀ v : Fin 5, h.1 23 v.val = r v) (R : Int32 → Hst → Option Hst) (a4 : Int32) (n : Nat) (g k : Fin 5) : lp_X7_layShares_82 R (n + 1) a4 (nI g.val) (nI k.val) h = lp_X7_layShares_82 R n a4 (nI (if r k ≤ r g then g else k).val) (nI (k.val + 1)) h := by
  have lg := g.isLt
  have lk := k.isLt
  rw [lp_X7_layShares_82, if_neg (show ¬ (5 : Int32) ≤ nI k.val from nI_ge (b := 5) k.isLt (by decide)), gck_nI lk (by decide), gck_nI lg (by decide), nI_clamp (by omega), nI_clamp (by omega), hr, hr]
  unfold jb_X7_layShares_112
  rw [nI_1]
  split <;> rfl
theorem lay_end (h : Hst) (R : Int32 → Hst → Option Hst) (a4 : Int32) (n : Nat) (g : Fin 5) : lp_X7_layShares_82 R (n + 1) a4 (nI g.val) (nI 5) h = R (a4 + (-1)) (hst (hst h 22 g.val (h.1 22 g.val + 1)) 23 g.val (-1)) := by
  have lg := g.isLt
  rw [lp_X7_layShares_82, if_pos (by decide), gck_nI lg (by decide), gck_nI lg (by decide), nI_clamp (by omega), gl_eq, gck_nI lg (by decide), gl_eq]
theorem lay {r : Fin 5 → Int32} {h : Hst} (hr : ∀ v : Fin 5, h.1 23 v.val = r v) (R : Int32 → Hst → Option Hst) (a4 : Int32) : lp_X7_layShares_82 R FU a4 0 1 h = R (a4 + (-1)) (hst (hst h 22 (am r).val (h.1 22 (am r).val + 1)) 23 (am r).val (-1)) :=
  (lay_step hr R a4 4095 0 1).trans ((lay_step hr R a4 4094 (am1 r) 2).trans ((lay_step hr R a4 4093 (am2 r) 3).trans ((lay_step hr R a4 4092 (am3 r) 4).trans (lay_end h R a4 4091 (am r)))))
theorem lay_71 : ∀ (m n : Nat) (h : Hst) (p r : Fin 5 → Int32), m < 2 ^ 30 → m < n → (∀ v : Fin 5, h.1 22 v.val = p v) → (∀ v : Fin 5, h.1 23 v.val = r v) → ∃ h', lp_X7_layShares_71 n (nI m) h = some h' ∧ ScrL h h' ∧ ∀ v : Fin 5, h'.1 22 v.val = rnd (-1) m p r v
  | 0, n + 1, h, p, r, hi, _, hp, hr => by
    refine ⟨h, ?_, ⟨rfl, fun _ _ _ => rfl⟩, hp⟩
    unfold lp_X7_layShares_71
    rw [if_pos (show nI 0 ≤ 0 by decide)]
  | m + 1, n + 1, h, p, r, hi, hn, hp, hr => by
    have e : nI (m + 1) + (-1) = nI m := by
      have := nI_pred m
      rw [Int32.sub_eq_add_neg] at this; exact this
    have ne : ∀ {a b : Fin 5}, a.val = b.val ↔ a = b := ⟨Fin.ext, congrArg Fin.val⟩
    obtain ⟨h', e', s, q⟩ := lay_71 m n (hst (hst h 22 (am r).val (h.1 22 (am r).val + 1)) 23 (am r).val (-1)) (fun v => if v = am r then p v + 1 else p v) (fun v => if v = am r then -1 else r v) (by omega) (by omega)
      (fun v => by
        rw [hst_at, if_neg (by decide), hst_at, if_pos rfl, upd_at]
        by_cases w : v = am r
        · rw [if_pos w, if_pos (ne.mpr w), hp, w]
        · rw [if_neg w, if_neg (fun x => w (ne.mp x)), hp])
      (fun v => by
        show (if v.val = (am r).val then (-1 : Int32) else h.1 23 v.val) = _
        by_cases w : v = am r
        · rw [if_pos w, if_pos (ne.mpr w)]
        · rw [if_neg w, if_neg (fun x => w (ne.mp x)), hr])
    refine ⟨h', ?_, ScrL.two s, q⟩
    rw [lp_X7_layShares_71, if_neg (nI_nle (by omega) (by omega)), lay hr, e]
    exact e'
theorem lay_12 (t : Fin 6) {q all : Nat} (h0 : 0 < all) (h1 : all ≤ 20000) (hq : q ≤ 20000) (o : Fin 5 → Nat) (ho : ∀ v, o v ≤ 20000) : ∀ (m i n : Nat) (a4 : Int32) (h : Hst), i + m = 5 → m < n → (∀ v, zT (h.1 18) t (ts v) = nI (o v)) → (∀ v : Fin 5, v.val < i → h.1 22 v.val = nI (o v * q / all) ∧ h.1 23 v.val = nI (o v * q % all)) →
    ∃ h', lp_X7_layShares_12 n (nI t.val) (nI q) (nI all) a4 (nI i) h = lp_X7_layShares_71 FU (misF (lfN fun v => o v * q / all) m i a4) h' ∧ ScrL h h' ∧ ∀ v : Fin 5, h'.1 22 v.val = nI (o v * q / all) ∧ h'.1 23 v.val = nI (o v * q % all)
  | 0, i, n + 1, a4, h, hi, _, _, hv => by
    refine ⟨h, ?_, ⟨rfl, fun _ _ _ => rfl⟩, fun v => hv v (by have := v.isLt; omega)⟩
    rw [lp_X7_layShares_12, if_pos (show (5 : Int32) ≤ nI i from nI_le (a := 5) (by omega) (by omega))]
    rfl
  | m + 1, i, n + 1, a4, h, hi, hn, hc, hv => by
    have i5 : i < 5 := by omega
    have b1 : o ⟨i, i5⟩ * q < 2 ^ 31 := Nat.lt_of_le_of_lt (Nat.mul_le_mul (ho _) hq) (by decide)
    have d1 : nI (o ⟨i, i5⟩ * q) / nI all = nI (o ⟨i, i5⟩ * q / all) := pk_div b1 h0 (by omega)
    have d2 : nI (o ⟨i, i5⟩ * q) - nI (o ⟨i, i5⟩ * q / all) * nI all = nI (o ⟨i, i5⟩ * q % all) := by
      rw [← d1]; exact pk_rem b1 h0 (by omega)
    obtain ⟨h', e', s, w⟩ := lay_12 t h0 h1 hq o ho m (i + 1) n (a4 - nI (o ⟨i, i5⟩ * q / all)) (hst (hst h 22 i (nI (o ⟨i, i5⟩ * q / all))) 23 i (nI (o ⟨i, i5⟩ * q % all))) (by omega) (by omega) (fun v => hc v) (fun v hv' => by
      by_cases x : v.val = i
      · have : v = ⟨i, i5⟩ := Fin.ext x
        subst this
        refine ⟨?_, ?_⟩
        · rw [hst_at, if_neg (by decide), hst_at, if_pos rfl, upd_at, if_pos rfl]
        · rw [hst_at, if_pos rfl, upd_at, if_pos rfl]
      · obtain ⟨y1, y2⟩ := hv v (by omega)
        refine ⟨?_, ?_⟩
        · rw [hst_at, if_neg (by decide), hst_at, if_pos rfl, upd_at, if_neg x]; exact y1
        · rw [hst_at, if_pos rfl, upd_at, if_neg x, hst_at, if_neg (by decide)]; exact y2)
    refine ⟨h', ?_, ScrL.two s, w⟩
    have n5 : ¬ (5 : Int32) ≤ nI i := nI_ge (b := 5) i5 (by decide)
    have z : (hst (hst h 22 i (nI (o ⟨i, i5⟩ * q / all))) 23 i (nI (o ⟨i, i5⟩ * q % all))).1 22 i = nI (o ⟨i, i5⟩ * q / all) := by
      rw [hst_at, if_neg (by decide), hst_at, if_pos rfl, upd_at, if_pos rfl]
    rw [lp_X7_layShares_12, if_neg n5, show nI i = nI (⟨i, i5⟩ : Fin 5).val from rfl, ofTank_v, gb_some, hc, pk_mul, gl_eq, gdz_ne (nI_ne0 (by omega) (by omega)), gck_nI i5 (by decide), d1, gl_eq, gdz_ne (nI_ne0 (by omega) (by omega)), gck_nI i5 (by decide), d2, gl_eq, gck_nI i5 (by decide), nI_clamp (by show i < _; omega), z, gl_eq, misF, lfN_at _ i i5]
    refine Eq.trans ?_ e'
    rw [← nI_1 i]
/-- the oils of a tank as numbers -/
theorem TankI_o {c : Nat → Int32} {t : Fin 6} (h : TankI c t) : ∃ o : Fin 5 → Nat, (∀ v, cTa c t (ts v) = nI (o v)) ∧ oil5 c t = nI (S5 o) ∧ S5 o ≤ 20000 ∧ ∀ v, o v ≤ 20000 := by
  obtain ⟨s, o0, o1, o2, o3, o4, h1, h2, e0, e2, e3, e4, e5, e6⟩ := h
  refine ⟨fun v => match v with | 0 => o0 | 1 => o1 | 2 => o2 | 3 => o3 | 4 => o4, fun v => ?_, ?_, ?_, fun v => ?_⟩
  · rcases fin5 v with rfl | rfl | rfl | rfl | rfl
    · exact e2
    · exact e3
    · exact e4
    · exact e5
    · exact e6
  · unfold oil5
    rw [e2, e3, e4, e5, e6, show (0 : Int32) = nI 0 from rfl, nI_add, nI_add, nI_add, nI_add, nI_add, Nat.zero_add]
    rfl
  · show o0 + o1 + o2 + o3 + o4 ≤ 20000
    omega
  · rcases fin5 v with rfl | rfl | rfl | rfl | rfl
    · show o0 ≤ 20000; omega
    · show o1 ≤ 20000; omega
    · show o2 ≤ 20000; omega
    · show o3 ≤ 20000; omega
    · show o4 ≤ 20000; omega
theorem share_sum (o : Fin 5 → Nat) (q : Nat) : S5 o * S5 (fun v => o v * q / S5 o) + S5 (fun v => o v * q % S5 o) = S5 o * q := by
  have d := fun v => Nat.div_add_mod (o v * q) (S5 o)
  have e : S5 o * q = o 0 * q + o 1 * q + o 2 * q + o 3 * q + o 4 * q := by
    show (o 0 + o 1 + o 2 + o 3 + o 4) * q = _
    rw [Nat.add_mul, Nat.add_mul, Nat.add_mul, Nat.add_mul]
  have e2 : S5 o * S5 (fun v => o v * q / S5 o) = S5 o * (o 0 * q / S5 o) + S5 o * (o 1 * q / S5 o) + S5 o * (o 2 * q / S5 o) + S5 o * (o 3 * q / S5 o) + S5 o * (o 4 * q / S5 o) := by
    show S5 o * (o 0 * q / S5 o + o 1 * q / S5 o + o 2 * q / S5 o + o 3 * q / S5 o + o 4 * q / S5 o) = _
    rw [Nat.mul_add, Nat.mul_add, Nat.mul_add, Nat.mul_add]
  have e3 : S5 (fun v => o v * q % S5 o) = o 0 * q % S5 o + o 1 * q % S5 o + o 2 * q % S5 o + o 3 * q % S5 o + o 4 * q % S5 o := rfl
  have d0 := d 0
  have d1 := d 1
  have d2 := d 2
  have d3 := d 3
  have d4 := d 4
  rw [e, e2, e3]
  omega
