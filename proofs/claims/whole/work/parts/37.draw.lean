-- taking out
def tkC (t : Fin 6) (N : Fin 5 → Nat) : Nat → Nat → (Nat → Int32) → Nat → Int32
  | 0, _, c => c
  | m + 1, i, c => if hi : i < 5 then tkC t N m (i + 1) (uTa c t (ts ⟨i, hi⟩) (cTa c t (ts ⟨i, hi⟩) + -nI (N ⟨i, hi⟩))) else c
def tkZ (t : Fin 6) (N : Fin 5 → Nat) : Nat → Nat → (Nat → Int32) → Nat → Int32
  | 0, _, z => z
  | m + 1, i, z => if hi : i < 5 then tkZ t N m (i + 1) (wT z t (ts ⟨i, hi⟩) (zT z t (ts ⟨i, hi⟩) - nI (N ⟨i, hi⟩))) else z
theorem takeOut_8 (t : Fin 6) (N : Fin 5 → Nat) : ∀ (m i n : Nat) (h : Hst), i + m = 5 → m < n → (∀ v : Fin 5, h.1 11 v.val = nI (N v)) → lp_X1_takeOut_8 n (nI t.val) (nI i) h = some (hso h 8 (tkC t N m i (h.1 8)))
  | 0, i, n + 1, h, hi, _, _ => by
    rw [lp_X1_takeOut_8, if_pos (show (5 : Int32) ≤ nI i from nI_le (a := 5) (by omega) (by omega)), tkC, hso_self]
  | m + 1, i, n + 1, h, hi, hn, hv => by
    have i5 : i < 5 := by omega
    rw [lp_X1_takeOut_8, if_neg (show ¬ (5 : Int32) ≤ nI i from nI_ge (b := 5) i5 (by decide)), show nI i = nI (⟨i, i5⟩ : Fin 5).val from rfl, part_v, gb_some, add4_v, gbv_some, hv, show nI (⟨i, i5⟩ : Fin 5).val + 1 = nI (i + 1) from nI_1 i, takeOut_8 t N m (i + 1) n _ (by omega) (by omega) (fun v => by rw [hso_at, if_neg (by decide)]; exact hv v), hso_hso, hso_at, if_pos rfl, tkC, dif_pos i5]
theorem takeShares_2 (t : Fin 6) (N : Fin 5 → Nat) : ∀ (m i n : Nat) (h : Hst), i + m = 5 → m < n → (∀ v : Fin 5, h.1 22 v.val = nI (N v)) → lp_X7_takeShares_2 n (nI t.val) (nI i) h = some (hso h 18 (tkZ t N m i (h.1 18)))
  | 0, i, n + 1, h, hi, _, _ => by
    rw [lp_X7_takeShares_2, if_pos (show (5 : Int32) ≤ nI i from nI_le (a := 5) (by omega) (by omega)), tkZ, hso_self]
  | m + 1, i, n + 1, h, hi, hn, hv => by
    have i5 : i < 5 := by omega
    have lt := t.isLt
    have i2 : (472 : Int32) + 7 * nI t.val + 2 + nI i = nI (472 + 7 * t.val + (2 + i)) := by
      show nI 472 + nI 7 * nI t.val + nI 2 + nI i = _
      rw [pk_mul, nI_add, nI_add, nI_add, Nat.add_assoc (472 + 7 * t.val)]
    have e : hst h 18 (472 + 7 * t.val + (2 + i)) (h.1 18 (472 + 7 * t.val + (2 + i)) - nI (N ⟨i, i5⟩)) = hso h 18 (wT (h.1 18) t (ts ⟨i, i5⟩) (zT (h.1 18) t (ts ⟨i, i5⟩) - nI (N ⟨i, i5⟩))) := rfl
    have hvi : h.1 22 i = nI (N ⟨i, i5⟩) := hv ⟨i, i5⟩
    rw [lp_X7_takeShares_2, if_neg (show ¬ (5 : Int32) ≤ nI i from nI_ge (b := 5) i5 (by decide)), i2, gl_eq, gck_nI (by omega) (by decide), gck_nI i5 (by decide), gck_nI (by omega) (by decide), nI_clamp (by omega), nI_clamp (by omega), gl_eq, hvi, e, nI_1, takeShares_2 t N m (i + 1) n _ (by omega) (by omega) (fun v => by rw [hso_at, if_neg (by decide)]; exact hv v), hso_hso, hso_at, if_pos rfl, tkZ, dif_pos i5]
theorem take_both {ng nl nt : Nat} (t : Fin 6) (ht : t.val < nt) (o N : Fin 5 → Nat) (ho : ∀ v, o v ≤ 20000) (hN : ∀ v, N v ≤ o v) : ∀ (m i : Nat) (c z : Nat → Int32), i + m = 5 → InvC c ng nl nt → RelCZ c z nl → (∀ v : Fin 5, i ≤ v.val → cTa c t (ts v) = nI (o v)) → InvC (tkC t N m i c) ng nl nt ∧ RelCZ (tkC t N m i c) (tkZ t N m i z) nl
  | 0, i, c, z, _, I, R, _ => ⟨I, R⟩
  | m + 1, i, c, z, hi, I, R, hc => by
    have i5 : i < 5 := by omega
    have e1 : cTa c t (ts ⟨i, i5⟩) + -nI (N ⟨i, i5⟩) = nI (o ⟨i, i5⟩ - N ⟨i, i5⟩) := by
      rw [← Int32.sub_eq_add_neg, hc ⟨i, i5⟩ (Nat.le_refl _), pk_sub (hN _)]
    have e2 : zT z t (ts ⟨i, i5⟩) - nI (N ⟨i, i5⟩) = cTa c t (ts ⟨i, i5⟩) + -nI (N ⟨i, i5⟩) := by
      rw [R.2.2.2.2.2.1 t (ts ⟨i, i5⟩), Int32.sub_eq_add_neg]
    obtain ⟨o', ho', eo', T⟩ := TankI_dec (I.2.2.2.2.2.2.2.2.2 t) ⟨i, i5⟩
    have eo : o' = o ⟨i, i5⟩ := nI_inj (by omega) (by have := ho ⟨i, i5⟩; omega) (eo'.symm.trans (hc ⟨i, i5⟩ (Nat.le_refl _)))
    rw [tkC, dif_pos i5, tkZ, dif_pos i5, e2]
    refine take_both t ht o N ho hN m (i + 1) _ _ (by omega) (inv_T I t _ ht _ (by rw [e1]; exact T _ (by omega))) (rel_T R t _ _) (fun v hv => ?_)
    rw [cTa_uTa, if_neg (fun w => by have := congrArg Fin.val (ts_inj.mp w.2); have q : v.val = i := this; omega)]
    exact hc v (by omega)
-- what is drawn, by variety
def dvC (N : Fin 5 → Nat) : Nat → Nat → (Nat → Int32) → Nat → Int32
  | 0, _, c => c
  | m + 1, i, c => if hi : i < 5 then dvC N m (i + 1) (uVa c ⟨i, hi⟩ 2 (cVa c ⟨i, hi⟩ 2 + nI (N ⟨i, hi⟩))) else c
def dvZ (N : Fin 5 → Nat) : Nat → Nat → (Nat → Int32) → Nat → Int32
  | 0, _, z => z
  | m + 1, i, z => if hi : i < 5 then dvZ N m (i + 1) (wV z 2 ⟨i, hi⟩ (zV z 2 ⟨i, hi⟩ + nI (N ⟨i, hi⟩))) else z
theorem dv_both {ng nl nt : Nat} (N : Fin 5 → Nat) : ∀ (m i : Nat) (c z : Nat → Int32), i + m = 5 → InvC c ng nl nt → RelCZ c z nl → InvC (dvC N m i c) ng nl nt ∧ RelCZ (dvC N m i c) (dvZ N m i z) nl
  | 0, i, c, z, _, I, R => ⟨I, R⟩
  | m + 1, i, c, z, hi, I, R => by
    have i5 : i < 5 := by omega
    have e2 : zV z 2 ⟨i, i5⟩ = cVa c ⟨i, i5⟩ 2 := R.2.2.2.1 2 ⟨i, i5⟩
    rw [dvC, dif_pos i5, dvZ, dif_pos i5, e2]
    exact dv_both N m (i + 1) _ _ (by omega) (inv_V I _ 2 _ (fun w => absurd w (by decide))) (rel_V R 2 _ _)
theorem draw_71 (g : Fin 8) (N : Fin 5 → Nat) (q : Nat) : ∀ (m i n : Nat) (h : Hst), i + m = 5 → m < n → (∀ v : Fin 5, h.1 11 v.val = nI (N v)) → lp_X6_draw_71 n (nI g.val) (nI q) (nI i) h = some (.inl (cGr (dvC N m i (h.1 8)) g 0 + -nI q, hso h 8 (uGr (uGr (dvC N m i (h.1 8)) g 0 (cGr (dvC N m i (h.1 8)) g 0 + -nI q)) g 1 (cGr (dvC N m i (h.1 8)) g 1 + nI q))))
  | 0, i, n + 1, h, hi, _, _ => by
    rw [lp_X6_draw_71, if_pos (show (5 : Int32) ≤ nI i from nI_le (a := 5) (by omega) (by omega)), add2_0, gbv_some, add2_1, gbv_some, hso_hso, hso_at, if_pos rfl, get2_0, gb_some, hso_at, if_pos rfl, cGr_uGr, if_neg (fun w => absurd w.2 (by decide)), cGr_uGr, if_pos ⟨rfl, rfl⟩, cGr_uGr, if_neg (fun w => absurd w.2 (by decide))]
    rfl
  | m + 1, i, n + 1, h, hi, hn, hv => by
    have i5 : i < 5 := by omega
    rw [lp_X6_draw_71, if_neg (show ¬ (5 : Int32) ≤ nI i from nI_ge (b := 5) i5 (by decide)), show nI i = nI (⟨i, i5⟩ : Fin 5).val from rfl, part_v, gb_some, add5_2, gbv_some, hv, show nI (⟨i, i5⟩ : Fin 5).val + 1 = nI (i + 1) from nI_1 i, draw_71 g N q m (i + 1) n _ (by omega) (by omega) (fun v => by rw [hso_at, if_neg (by decide)]; exact hv v), hso_hso, hso_at, if_pos rfl, dvC, dif_pos i5]
theorem draw_89 (g : Fin 8) (N : Fin 5 → Nat) (q : Nat) : ∀ (m i n : Nat) (h : Hst), i + m = 5 → m < n → (∀ v : Fin 5, h.1 22 v.val = nI (N v)) → lp_X7_draw_89 n (nI g.val) (nI q) (nI i) h = some (zG (dvZ N m i (h.1 18)) 0 g - nI q, hso h 18 (wG (wG (dvZ N m i (h.1 18)) 0 g (zG (dvZ N m i (h.1 18)) 0 g - nI q)) 1 g (zG (dvZ N m i (h.1 18)) 1 g + nI q)))
  | 0, i, n + 1, h, hi, _, _ => by
    have lg := g.isLt
    have cl : (nI 40 + nI g.val).toNatClampNeg = 40 + g.val := by rw [nI_add, nI_clamp (by omega)]
    have ok : ∀ {β : Type} (x : Option β), gck (nI 40 + nI g.val) 514 x = x := fun x => by rw [nI_add, gck_nI (by omega) (by decide)]
    rw [lp_X7_draw_89, if_pos (show (5 : Int32) ≤ nI i from nI_le (a := 5) (by omega) (by omega)), show (40 : Int32) = nI 40 from rfl, gl_eq, ok, ok, cl, gl_eq, show (48 : Int32) = nI 48 from rfl, gl_z (by omega), ok]
    have e0 : h = hso h 18 (h.1 18) := (hso_self h 18).symm
    have s1 : hst h 18 (40 + g.val) (h.1 18 (40 + g.val) - nI q) = hso h 18 (upd (h.1 18) (40 + g.val) (h.1 18 (40 + g.val) - nI q)) := rfl
    rw [s1, hst_hso]
    simp only [hso_at, if_true, upd_at]
    rw [if_neg (by omega), if_neg (by omega)]
    rfl
  | m + 1, i, n + 1, h, hi, hn, hv => by
    have i5 : i < 5 := by omega
    have hvi : h.1 22 i = nI (N ⟨i, i5⟩) := hv ⟨i, i5⟩
    have e : hst h 18 (25 + i) (h.1 18 (25 + i) + nI (N ⟨i, i5⟩)) = hso h 18 (wV (h.1 18) 2 ⟨i, i5⟩ (zV (h.1 18) 2 ⟨i, i5⟩ + nI (N ⟨i, i5⟩))) := rfl
    rw [lp_X7_draw_89, if_neg (show ¬ (5 : Int32) ≤ nI i from nI_ge (b := 5) i5 (by decide)), show (25 : Int32) + nI i = nI (25 + i) from nI_add 25 i, gl_eq, gck_nI (by omega) (by decide), gck_nI i5 (by decide), gck_nI (by omega) (by decide), nI_clamp (by omega), nI_clamp (by omega), gl_eq, hvi, e, nI_1, draw_89 g N q m (i + 1) n _ (by omega) (by omega) (fun v => by rw [hso_at, if_neg (by decide)]; exact hv v), hso_hso, hso_at, if_pos rfl, dvZ, dif_pos i5]
