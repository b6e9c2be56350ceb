theorem Bad.ne {p : Int32} {n : Nat} (b : Bad p n) {k : Nat} (hk : k < n) (hn : n < 2 ^ 30) : ¬ p = nI k := fun e => by
  obtain ⟨a1, a2, a3⟩ := idx_gd hk hn
  subst e
  rcases b with q | ⟨-, q, -⟩
  · exact a1 q
  · exact q a2
theorem Bad.mono {p : Int32} {n m : Nat} (b : Bad p n) (h : m ≤ n) (hn : n < 2 ^ 30) : Bad p m := by
  rcases idx p (n := m) (by omega) with ⟨i, hi, e⟩ | b'
  · exact absurd e (b.ne (by omega) hn)
  · exact b'
theorem Bad.nq {p : Int32} {n : Nat} (b : Bad p n) (q : Int32) (k : Nat) (e : q = nI k) (hk : k < n) (hn : n < 2 ^ 30) : ¬ p = q := by
  subst e; exact b.ne hk hn
theorem nI_nq {i : Nat} (q : Int32) (k : Nat) (e : q = nI k) (hk : k < 2 ^ 31) (hi : i < 2 ^ 31) (h : i ≠ k) : ¬ nI i = q := by
  subst e; exact fun w => h (nI_inj hi hk w)
theorem nI_neM1 {i : Nat} (h : i < 2 ^ 31) : ¬ nI i = -1 := fun w => nI_pos h (by rw [w]; decide)
theorem gk_z {b i : Nat} (h : b + i < 514) (H : Hst) : gck (nI b + nI i) 514 (some (H.1 18 (nI b + nI i).toNatClampNeg, H)) = some (H.1 18 (b + i), H) := by
  rw [nI_add, gck_nI h (by decide), nI_clamp (by omega)]
theorem getV_grower {c z : Nat → Int32} {ng nl nt : Nat} (I : InvC c ng nl nt) (R : RelCZ c z nl) (s : Int32) (g : Fin 8) (hg : g.val < ng) (k : Fin 6) : GetV c z s (f_X6_grower (nI g.val) (nI k.val)) (f_X7_growerNow (nI g.val) (nI k.val)) := by
  obtain ⟨⟨h8, -, -⟩, ⟨i7, -, -⟩, -⟩ := id I
  have hg8 := g.isLt
  have zg : ∀ k : Fin 4, z (40 + 8 * k.val + g.val) = cGr c g k := fun k => R.2.2.2.2.1 k g
  have cc : ∀ h : Hst, h.1 8 = c → f_X6_checkGrower (nI g.val) h = some (.inl h) := fun h e => checkGrower_gd h8 (by rw [e]; exact i7) hg
  have lg : ∀ b : Int32, ∀ l : Fin 40, l.val < nl → ((b = 0 ∨ cLo c l 5 = 0) ∧ cLo c l 0 = nI g.val ↔ (nI g.val = -1 ∨ cLo c l 0 = nI g.val) ∧ ((-1 : Int32) = -1 ∨ cLo c l 1 = -1) ∧ (b = 0 ∨ cLo c l 5 = 0)) := fun b l _ =>
    ⟨fun ⟨p, q⟩ => ⟨Or.inr q, Or.inl rfl, p⟩, fun ⟨p, _, q⟩ => ⟨q, p.elim (fun w => absurd w (nI_neM1 (by omega))) id⟩⟩
  have lc : ∀ b h, h.1 8 = c → f_X6_lotsWith 0 (nI g.val) b h = some (cntF (fLots c 0 (nI g.val) b) nl 0 0, h) := fun b h e => lotsWith_v I 0 (nI g.val) b h e
  rcases fin6 k with rfl | rfl | rfl | rfl | rfl | rfl
  · refine getV_pure (cGr c g 0) (fun h e _ => ?_) (fun h e _ => ?_)
    · unfold f_X6_grower
      rw [cc h e, gbvx_inl, if_pos (by decide), get2_0, gb_some, e]
    · unfold f_X7_growerNow
      rw [if_pos (by decide), show (40 : Int32) = nI 40 from rfl, gk_z (by omega), e]
      exact congrArg (fun x => some (x, h)) (zg 0)
  · refine getV_pure (cntF (fLots c 0 (nI g.val) 0) nl 0 0) (fun h e _ => ?_) (fun h e _ => ?_)
    · unfold f_X6_grower
      rw [cc h e, gbvx_inl, if_neg (by decide), if_pos (by decide), lc 0 h e, gb_some]
    · unfold f_X7_growerNow jb_X7_growerNow_59
      rw [if_neg (by decide), if_pos (by decide), if_neg (by decide), gb_eta, lotsOf_v I R _ _ _ 0 (nI g.val) 0 (lg 0) h e]
  · refine getV_pure (cntF (fLots c 0 (nI g.val) 1) nl 0 0) (fun h e _ => ?_) (fun h e _ => ?_)
    · unfold f_X6_grower
      rw [cc h e, gbvx_inl, if_neg (by decide), if_neg (by decide), if_pos (by decide), lc 1 h e, gb_some]
    · unfold f_X7_growerNow jb_X7_growerNow_59
      rw [if_neg (by decide), if_neg (by decide), if_pos (by decide), if_pos (by decide), gb_eta, lotsOf_v I R _ _ _ 0 (nI g.val) 1 (lg 1) h e]
  · refine getV_pure (cGr c g 1) (fun h e _ => ?_) (fun h e _ => ?_)
    · unfold f_X6_grower
      rw [cc h e, gbvx_inl, if_neg (by decide), if_neg (by decide), if_neg (by decide), if_pos (by decide), get2_1, gb_some, e]
    · unfold f_X7_growerNow
      rw [if_neg (by decide), if_neg (by decide), if_neg (by decide), if_pos (by decide), show (48 : Int32) = nI 48 from rfl, gk_z (by omega), e]
      exact congrArg (fun x => some (x, h)) (zg 1)
  · refine getV_pure (cGr c g 2) (fun h e _ => ?_) (fun h e _ => ?_)
    · unfold f_X6_grower
      rw [cc h e, gbvx_inl, if_neg (by decide), if_neg (by decide), if_neg (by decide), if_neg (by decide), if_pos (by decide), get2_2, gb_some, e]
    · unfold f_X7_growerNow
      rw [if_neg (by decide), if_neg (by decide), if_neg (by decide), if_neg (by decide), if_pos (by decide), show (56 : Int32) = nI 56 from rfl, gk_z (by omega), e]
      exact congrArg (fun x => some (x, h)) (zg 2)
  · refine getV_pure (cGr c g 3) (fun h e _ => ?_) (fun h e _ => ?_)
    · unfold f_X6_grower
      rw [cc h e, gbvx_inl, if_neg (by decide), if_neg (by decide), if_neg (by decide), if_neg (by decide), if_neg (by decide), if_pos (by decide), get2_3, gb_some, e]
    · unfold f_X7_growerNow
      rw [if_neg (by decide), if_neg (by decide), if_neg (by decide), if_neg (by decide), if_neg (by decide), show (64 : Int32) = nI 64 from rfl, gk_z (by omega), e]
      exact congrArg (fun x => some (x, h)) (zg 3)
theorem op_grower {h : Hst} (S : Sim h) (p0 p1 : Int32) : Agree (f_L_grower p0 p1 h) (f_X7_grower p0 p1) := by
  obtain ⟨-, ⟨ng, nl, nt, I, R⟩, -⟩ := id S
  obtain ⟨⟨h8, -, -⟩, ⟨i7, -, -⟩, -⟩ := id I
  have z7 : h.1 18 7 = nI ng := (R.1 7 (by decide)).trans i7
  rcases idx p0 (n := ng) (by omega) with ⟨g, hg, rfl⟩ | b0
  · rcases idx p1 (n := 6) (by decide) with ⟨k, hk, rfl⟩ | b1
    · refine agree_get S (getV_grower I R (h.1 1 9) ⟨g, by omega⟩ hg ⟨k, hk⟩) rfl (fun H e => ?_)
      unfold f_X7_grower jb_X7_grower_27 jb_X7_grower_47
      rw [isGrower_gd h8 (by rw [e]; exact z7) hg, gb_some, if_neg (by decide), show (5 : Int32) = nI 6 - 1 from rfl, within_gd hk (by decide), gb_some, if_neg (by decide), gl_eq]
      show (if (0 : Int32) ≤ 0 then _ else _) = _
      rw [if_pos (by decide), gb_eta]
    · refine agree_bad S (k := 2) (by decide) ?_ ?_
      · unfold f_L_grower f_X6_grower
        rw [checkGrower_gd h8 i7 hg, gbvx_inl, if_neg (b1.nq 0 0 rfl (by decide) (by decide)), if_neg (b1.nq 1 1 rfl (by decide) (by decide)), if_neg (b1.nq 2 2 rfl (by decide) (by decide)), if_neg (b1.nq 3 3 rfl (by decide) (by decide)), if_neg (b1.nq 4 4 rfl (by decide) (by decide)), if_neg (b1.nq 5 5 rfl (by decide) (by decide)), gbx_inr]
        rfl
      · unfold f_X7_grower jb_X7_grower_27 jb_X7_grower_47
        rw [isGrower_gd h8 z7 hg, gb_some, if_neg (by decide), show (5 : Int32) = nI 6 - 1 from rfl, within_bad b1, gb_some, if_pos rfl, gl_eq]
        show (if (2 : Int32) ≤ 0 then _ else _) = _
        rw [if_neg (by decide)]
  · refine agree_bad S (k := 1) (by decide) ?_ ?_
    · unfold f_L_grower f_X6_grower
      rw [checkGrower_bad i7 b0, gbvx_inr, gbx_inr]
      rfl
    · unfold f_X7_grower jb_X7_grower_27 jb_X7_grower_47
      rw [isGrower_bad z7 b0, gb_some, if_pos rfl, gl_eq]
      show (if (1 : Int32) ≤ 0 then _ else _) = _
      rw [if_neg (by decide)]
-- tank
def isT (k : Nat) : Prop := k < 3 ∨ (10 ≤ k ∧ k < 15)
def tankOf (c : Nat → Int32) (t : Fin 6) (k : Nat) : Int32 := if k = 0 then cTa c t 0 else if k = 1 then oil5 c t else if k = 2 then grd (oil5 c t) (cTa c t 1) else if h : k - 8 < 7 then cTa c t ⟨k - 8, h⟩ else 0
theorem tank_C {c : Nat → Int32} {ng nl nt : Nat} (I : InvC c ng nl nt) (t : Fin 6) (ht : t.val < nt) {k : Nat} (hk : isT k) (h : Hst) (e : h.1 8 = c) : f_X6_tank (nI t.val) (nI k) h = some (.inl (tankOf c t k, h)) := by
  obtain ⟨⟨-, -, h6⟩, ⟨-, -, i9⟩, -, -, -, -, -, -, -, hT⟩ := I
  subst e
  unfold f_X6_tank tankOf
  rw [checkTank_gd h6 i9 ht, gbvx_inl]
  unfold isT at hk
  rcases (by omega : k = 0 ∨ k = 1 ∨ k = 2 ∨ k = 10 ∨ k = 11 ∨ k = 12 ∨ k = 13 ∨ k = 14) with rfl | rfl | rfl | rfl | rfl | rfl | rfl | rfl
  · rw [if_pos (by decide), get4_0, gb_some, if_pos rfl]
  · rw [if_neg (by decide), if_pos (by decide), oilOf, gb_some, if_neg (by decide), if_pos rfl]
  · rw [if_neg (by decide), if_neg (by decide), if_pos (by decide), gradeOf t (hT t), gb_some, if_neg (by decide), if_neg (by decide), if_pos rfl]
  · rw [if_neg (by decide), if_neg (by decide), if_neg (by decide), if_neg (by decide), if_neg (by decide), if_neg (by decide), if_neg (by decide), if_neg (by decide), if_neg (by decide), if_neg (by decide), if_pos (by decide), show (2 : Int32) + nI 10 - 10 = 2 by decide, get4_2, gb_some, if_neg (by decide), if_neg (by decide), if_neg (by decide)]
    rfl
  · rw [if_neg (by decide), if_neg (by decide), if_neg (by decide), if_neg (by decide), if_neg (by decide), if_neg (by decide), if_neg (by decide), if_neg (by decide), if_neg (by decide), if_neg (by decide), if_neg (by decide), if_pos (by decide), show (2 : Int32) + nI 11 - 10 = 3 by decide, get4_3, gb_some, if_neg (by decide), if_neg (by decide), if_neg (by decide)]
    rfl
  · rw [if_neg (by decide), if_neg (by decide), if_neg (by decide), if_neg (by decide), if_neg (by decide), if_neg (by decide), if_neg (by decide), if_neg (by decide), if_neg (by decide), if_neg (by decide), if_neg (by decide), if_neg (by decide), if_pos (by decide), show (2 : Int32) + nI 12 - 10 = 4 by decide, get4_4, gb_some, if_neg (by decide), if_neg (by decide), if_neg (by decide)]
    rfl
  · rw [if_neg (by decide), if_neg (by decide), if_neg (by decide), if_neg (by decide), if_neg (by decide), if_neg (by decide), if_neg (by decide), if_neg (by decide), if_neg (by decide), if_neg (by decide), if_neg (by decide), if_neg (by decide), if_neg (by decide), if_pos (by decide), show (2 : Int32) + nI 13 - 10 = 5 by decide, get4_5, gb_some, if_neg (by decide), if_neg (by decide), if_neg (by decide)]
    rfl
  · rw [if_neg (by decide), if_neg (by decide), if_neg (by decide), if_neg (by decide), if_neg (by decide), if_neg (by decide), if_neg (by decide), if_neg (by decide), if_neg (by decide), if_neg (by decide), if_neg (by decide), if_neg (by decide), if_neg (by decide), if_neg (by decide), if_pos (by decide), show (2 : Int32) + nI 14 - 10 = 6 by decide, get4_6, gb_some, if_neg (by decide), if_neg (by decide), if_neg (by decide)]
    rfl
theorem tank_M {c z : Nat → Int32} {nl : Nat} (R : RelCZ c z nl) (t : Fin 6) {k : Nat} (hk : isT k) (h : Hst) (e : h.1 18 = z) : f_X7_tankNow (nI t.val) (nI k) h = some (tankOf c t k, h) := by
  have q := zoil_eq R t
  have r6 := R.2.2.2.2.2.1 t
  subst e
  unfold f_X7_tankNow jb_X7_tankNow_50 tankOf
  unfold isT at hk
  rcases (by omega : k = 0 ∨ k = 1 ∨ k = 2 ∨ k = 10 ∨ k = 11 ∨ k = 12 ∨ k = 13 ∨ k = 14) with rfl | rfl | rfl | rfl | rfl | rfl | rfl | rfl
  · rw [if_pos (by decide), ofTank_0, gb_some, if_pos rfl, r6]
  · rw [if_neg (by decide), if_pos (by decide), oilOf7, gb_some, if_neg (by decide), if_pos rfl, q]
  · rw [if_neg (by decide), if_neg (by decide), if_pos (by decide), gradeOf7, gb_some, if_neg (by decide), if_neg (by decide), if_pos rfl, q, r6]
  · rw [if_neg (by decide), if_neg (by decide), if_neg (by decide), show (2 : Int32) + nI 10 - 10 = 2 by decide, ofTank_2, gb_some, r6, if_neg (by decide), if_neg (by decide), if_neg (by decide)]
    rfl
  · rw [if_neg (by decide), if_neg (by decide), if_neg (by decide), show (2 : Int32) + nI 11 - 10 = 3 by decide, ofTank_3, gb_some, r6, if_neg (by decide), if_neg (by decide), if_neg (by decide)]
    rfl
  · rw [if_neg (by decide), if_neg (by decide), if_neg (by decide), show (2 : Int32) + nI 12 - 10 = 4 by decide, ofTank_4, gb_some, r6, if_neg (by decide), if_neg (by decide), if_neg (by decide)]
    rfl
  · rw [if_neg (by decide), if_neg (by decide), if_neg (by decide), show (2 : Int32) + nI 13 - 10 = 5 by decide, ofTank_5, gb_some, r6, if_neg (by decide), if_neg (by decide), if_neg (by decide)]
    rfl
  · rw [if_neg (by decide), if_neg (by decide), if_neg (by decide), show (2 : Int32) + nI 14 - 10 = 6 by decide, ofTank_6, gb_some, r6, if_neg (by decide), if_neg (by decide), if_neg (by decide)]
    rfl
theorem op_tank {h : Hst} (S : Sim h) (p0 p1 : Int32) : Agree (f_L_tank p0 p1 h) (f_X7_tank p0 p1) := by
  obtain ⟨-, ⟨ng, nl, nt, I, R⟩, -⟩ := id S
  obtain ⟨⟨-, -, h6⟩, ⟨-, -, i9⟩, -⟩ := id I
  have z9 : h.1 18 9 = nI nt := (R.1 9 (by decide)).trans i9
  rcases idx p0 (n := nt) (by omega) with ⟨t, ht, rfl⟩ | b0
  · have good : ∀ k, isT k → p1 = nI k → Agree (f_L_tank (nI t) p1 h) (f_X7_tank (nI t) p1) := fun k hk e1 => by
      subst e1
      refine agree_get S (getV_pure (tankOf (h.1 8) ⟨t, by omega⟩ k) (fun H e _ => tank_C I ⟨t, by omega⟩ ht hk H e) (fun H e _ => tank_M R ⟨t, by omega⟩ hk H e)) rfl (fun H e => ?_)
      unfold f_X7_tank jb_X7_tank_33 jb_X7_tank_38 jb_X7_tank_58
      have fin : (gl (hst H 17 5 0) fun h1 => if (h1.1 17 5) ≤ 0 then gb (f_X7_tankNow (nI t) (nI k) h1) fun x3 h2 => some (x3, h2) else some (0, h1)) = f_X7_tankNow (nI t) (nI k) (hst H 17 5 0) := by
        rw [gl_eq]
        show (if (0 : Int32) ≤ 0 then _ else _) = _
        rw [if_pos (by decide), gb_eta]
      rw [isTank_gd h6 (by rw [e]; exact z9) ht, gb_some, if_neg (by decide), show (2 : Int32) = nI 3 - 1 from rfl]
      rcases hk with hk | ⟨k1, k2⟩
      · rw [within_gd hk (by decide), gb_some, if_neg (by decide)]; exact fin
      · rw [within7, if_neg (nI_pos (by omega)), if_pos (show nI 3 - 1 < nI k from nI_lt (a := 2) (by omega) (by omega)), gb_some, if_pos rfl, within7, if_neg (show ¬ nI k < 10 from nI_nlt (b := 10) (by omega) (by omega)), if_neg (show ¬ 14 < nI k from nI_nlt (a := 14) (by omega) (by omega)), gb_some, if_neg (by decide)]; exact fin
    have bad : (∀ H : Hst, f_X7_within p1 0 2 H = some (0, H)) → (∀ H : Hst, f_X7_within p1 10 14 H = some (0, H)) → ¬ p1 = 0 → ¬ p1 = 1 → ¬ p1 = 2 → ¬ p1 = 10 → ¬ p1 = 11 → ¬ p1 = 12 → ¬ p1 = 13 → ¬ p1 = 14 → Agree (f_L_tank (nI t) p1 h) (f_X7_tank (nI t) p1) := fun w1 w2 n0 n1 n2 n10 n11 n12 n13 n14 => by
      refine agree_bad S (k := 2) (by decide) ?_ ?_
      · unfold f_L_tank f_X6_tank
        rw [checkTank_gd h6 i9 ht, gbvx_inl, if_neg n0, if_neg n1, if_neg n2]
        have : (if p1 = 10 then gb (f_X5_get_4 (nI t) (2 + p1 - 10) h) fun x9 h8 => some (Sum.inl (x9, h8)) else if p1 = 11 then gb (f_X5_get_4 (nI t) (2 + p1 - 10) h) fun x11 h10 => some (Sum.inl (x11, h10)) else if p1 = 12 then gb (f_X5_get_4 (nI t) (2 + p1 - 10) h) fun x13 h12 => some (Sum.inl (x13, h12)) else if p1 = 13 then gb (f_X5_get_4 (nI t) (2 + p1 - 10) h) fun x15 h14 => some (Sum.inl (x15, h14)) else if p1 = 14 then gb (f_X5_get_4 (nI t) (2 + p1 - 10) h) fun x17 h16 => some (Sum.inl (x17, h16)) else some (Sum.inr (1, h)) : Option ((Int32 × Hst) ⊕ (Nat × Hst))) = some (.inr (1, h)) := by
          rw [if_neg n10, if_neg n11, if_neg n12, if_neg n13, if_neg n14]
        rw [this]
        have s : ∀ (P : Prop) [Decidable P] (x : Option ((Int32 × Hst) ⊕ (Nat × Hst))), (if P then x else x) = x := fun P _ x => by split <;> rfl
        rw [s, s, s, s, s, s, s, gbx_inr]
        rfl
      · unfold f_X7_tank jb_X7_tank_38 jb_X7_tank_58
        rw [isTank_gd h6 z9 ht, gb_some, if_neg (by decide), w1, gb_some, if_pos rfl, w2, gb_some, if_pos rfl, gl_eq]
        show (if (2 : Int32) ≤ 0 then _ else _) = _
        rw [if_neg (by decide)]
    rcases idx p1 (n := 15) (by decide) with ⟨k, hk, rfl⟩ | b1
    · by_cases q : isT k
      · exact good k q rfl
      · unfold isT at q
        refine bad (fun H => ?_) (fun H => ?_) (nI_nq 0 0 rfl (by decide) (by omega) (by omega)) (nI_nq 1 1 rfl (by decide) (by omega) (by omega)) (nI_nq 2 2 rfl (by decide) (by omega) (by omega)) (nI_nq 10 10 rfl (by decide) (by omega) (by omega)) (nI_nq 11 11 rfl (by decide) (by omega) (by omega)) (nI_nq 12 12 rfl (by decide) (by omega) (by omega)) (nI_nq 13 13 rfl (by decide) (by omega) (by omega)) (nI_nq 14 14 rfl (by decide) (by omega) (by omega))
        · rw [within7, if_neg (nI_pos (by omega)), if_pos (show 2 < nI k from nI_lt (a := 2) (by omega) (by omega))]
        · rw [within7, if_pos (show nI k < 10 from nI_lt (b := 10) (by omega) (by omega))]
    · have w := b1.mono (m := 3) (by decide) (by decide)
      refine bad (fun H => within_bad w H) (fun H => ?_) (b1.nq 0 0 rfl (by decide) (by decide)) (b1.nq 1 1 rfl (by decide) (by decide)) (b1.nq 2 2 rfl (by decide) (by decide)) (b1.nq 10 10 rfl (by decide) (by decide)) (b1.nq 11 11 rfl (by decide) (by decide)) (b1.nq 12 12 rfl (by decide) (by decide)) (b1.nq 13 13 rfl (by decide) (by decide)) (b1.nq 14 14 rfl (by decide) (by decide))
      rw [within7]
      rcases b1 with b | ⟨-, -, b⟩
      · rw [if_pos (Int32.lt_trans b (by decide))]
      · by_cases q : p1 < 10
        · rw [if_pos q]
        · rw [if_neg q, if_pos (show 14 < p1 from b)]
  · refine agree_bad S (k := 1) (by decide) ?_ ?_
    · unfold f_L_tank f_X6_tank
      rw [checkTank_bad i9 b0, gbvx_inr, gbx_inr]
      rfl
    · unfold f_X7_tank jb_X7_tank_38 jb_X7_tank_58
      rw [isTank_bad z9 b0, gb_some, if_pos rfl, gl_eq]
      show (if (1 : Int32) ≤ 0 then _ else _) = _
      rw [if_neg (by decide)]
-- variety
theorem fin5 : ∀ k : Fin 5, k = 0 ∨ k = 1 ∨ k = 2 ∨ k = 3 ∨ k = 4 := by decide
theorem fin8 : ∀ k : Fin 8, k = 0 ∨ k = 1 ∨ k = 2 ∨ k = 3 ∨ k = 4 ∨ k = 5 ∨ k = 6 ∨ k = 7 := by decide
theorem fin13 : ∀ k : Fin 13, k = 0 ∨ k = 1 ∨ k = 2 ∨ k = 3 ∨ k = 4 ∨ k = 5 ∨ k = 6 ∨ k = 7 ∨ k = 8 ∨ k = 9 ∨ k = 10 ∨ k = 11 ∨ k = 12 := by decide
theorem residueVariety_v {c z : Nat → Int32} {ng nl nt : Nat} (I : InvC c ng nl nt) (R : RelCZ c z nl) (h : Hst) (e : h.1 8 = c) : f_X6_residueVariety h = some (z 10, h) := by
  obtain ⟨-, -, -, ⟨⟨v, d1⟩, r, d2, d3⟩, -⟩ := I
  have r10 : z 10 = (if cS c 11 = 0 then -1 else cS c 10) := R.2.1
  unfold f_X6_residueVariety jb_X6_residueVariety_29
  rw [row7_4, gb_some, e, d3, r10, d3]
  by_cases r0 : r = 0
  · subst r0
    rw [if_pos (show nI 0 ≤ 0 by decide), if_pos (show nI 0 = 0 from rfl)]
  · rw [if_neg (nI_nle (by omega) (by omega)), row7_3, gb_some, e, if_neg (nI_ne0 (by omega) (by omega))]
theorem getV_variety {c z : Nat → Int32} {ng nl nt : Nat} (I : InvC c ng nl nt) (R : RelCZ c z nl) (s : Int32) (g : Fin 5) (k : Fin 8) : GetV c z s (f_X6_variety (nI g.val) (nI k.val)) (f_X7_varietyNow (nI g.val) (nI k.val)) := by
  have hg5 := g.isLt
  have zg : ∀ k : Fin 5, z (15 + 5 * k.val + g.val) = cVa c g k := fun k => R.2.2.2.1 k g
  have cc : ∀ h : Hst, f_X6_checkVariety (nI g.val) h = some (.inl h) := fun h => checkVariety_gd hg5 h
  have lg : ∀ l : Fin 40, l.val < nl → (((1 : Int32) = 0 ∨ cLo c l 5 = 0) ∧ cLo c l 1 = nI g.val ↔ ((-1 : Int32) = -1 ∨ cLo c l 0 = -1) ∧ (nI g.val = -1 ∨ cLo c l 1 = nI g.val) ∧ ((1 : Int32) = 0 ∨ cLo c l 5 = 0)) := fun l _ =>
    ⟨fun ⟨p, q⟩ => ⟨Or.inl rfl, Or.inr q, p⟩, fun ⟨_, p, q⟩ => ⟨q, p.elim (fun w => absurd w (nI_neM1 (by omega))) id⟩⟩
  have lc : ∀ h, h.1 8 = c → f_X6_lotsWith 1 (nI g.val) 1 h = some (cntF (fLots c 1 (nI g.val) 1) nl 0 0, h) := fun h e => lotsWith_v I 1 (nI g.val) 1 h e
  rcases fin8 k with rfl | rfl | rfl | rfl | rfl | rfl | rfl | rfl
  · refine getV_pure (cVa c g 0) (fun h e _ => ?_) (fun h e _ => ?_)
    · unfold f_X6_variety
      rw [cc h, gbvx_inl, if_pos (by decide), get5_0, gb_some, e]
    · unfold f_X7_varietyNow
      rw [if_pos (by decide), show (15 : Int32) = nI 15 from rfl, gk_z (by omega), e]
      exact congrArg (fun x => some (x, h)) (zg 0)
  · refine getV_pure (cVa c g 1) (fun h e _ => ?_) (fun h e _ => ?_)
    · unfold f_X6_variety
      rw [cc h, gbvx_inl, if_neg (by decide), if_pos (by decide), get5_1, gb_some, e]
    · unfold f_X7_varietyNow
      rw [if_neg (by decide), if_pos (by decide), show (20 : Int32) = nI 20 from rfl, gk_z (by omega), e]
      exact congrArg (fun x => some (x, h)) (zg 1)
  · refine getV_pure (sumF (lft (tv c g)) 6 0 0) (fun h e _ => ?_) (fun h e _ => ?_)
    · unfold f_X6_variety
      rw [cc h, gbvx_inl, if_neg (by decide), if_neg (by decide), if_pos (by decide), oilOfVariety_v, gb_some, e]
    · unfold f_X7_varietyNow
      rw [if_neg (by decide), if_neg (by decide), if_pos (by decide), inTanks_v I R g h e, gb_some]
  · refine getV_pure (if z 10 = nI g.val then cS c 11 else 0) (fun h e _ => ?_) (fun h e _ => ?_)
    · unfold f_X6_variety jb_X6_variety_110
      rw [cc h, gbvx_inl, if_neg (by decide), if_neg (by decide), if_neg (by decide), if_pos (by decide), residueVariety_v I R h e, gb_some, row7_4, gb_some, e]
      split <;> rfl
    · unfold f_X7_varietyNow jb_X7_varietyNow_92
      rw [if_neg (by decide), if_neg (by decide), if_neg (by decide), if_pos (by decide), gk_10_514, gk_11_514, tn_10, tn_11, e, show z 11 = cS c 11 from R.1 11 (by decide)]
      split <;> rfl
  · refine getV_pure (cVa c g 2) (fun h e _ => ?_) (fun h e _ => ?_)
    · unfold f_X6_variety
      rw [cc h, gbvx_inl, if_neg (by decide), if_neg (by decide), if_neg (by decide), if_neg (by decide), if_pos (by decide), get5_2, gb_some, e]
    · unfold f_X7_varietyNow
      rw [if_neg (by decide), if_neg (by decide), if_neg (by decide), if_neg (by decide), if_pos (by decide), show (25 : Int32) = nI 25 from rfl, gk_z (by omega), e]
      exact congrArg (fun x => some (x, h)) (zg 2)
  · refine getV_pure (cVa c g 3) (fun h e _ => ?_) (fun h e _ => ?_)
    · unfold f_X6_variety
      rw [cc h, gbvx_inl, if_neg (by decide), if_neg (by decide), if_neg (by decide), if_neg (by decide), if_neg (by decide), if_pos (by decide), get5_3, gb_some, e]
    · unfold f_X7_varietyNow
      rw [if_neg (by decide), if_neg (by decide), if_neg (by decide), if_neg (by decide), if_neg (by decide), if_pos (by decide), show (30 : Int32) = nI 30 from rfl, gk_z (by omega), e]
      exact congrArg (fun x => some (x, h)) (zg 3)
  · refine getV_pure (cVa c g 4) (fun h e _ => ?_) (fun h e _ => ?_)
    · unfold f_X6_variety
      rw [cc h, gbvx_inl, if_neg (by decide), if_neg (by decide), if_neg (by decide), if_neg (by decide), if_neg (by decide), if_neg (by decide), if_pos (by decide), get5_4, gb_some, e]
    · unfold f_X7_varietyNow
      rw [if_neg (by decide), if_neg (by decide), if_neg (by decide), if_neg (by decide), if_neg (by decide), if_neg (by decide), if_pos (by decide), show (35 : Int32) = nI 35 from rfl, gk_z (by omega), e]
      exact congrArg (fun x => some (x, h)) (zg 4)
  · refine getV_pure (cntF (fLots c 1 (nI g.val) 1) nl 0 0) (fun h e _ => ?_) (fun h e _ => ?_)
    · unfold f_X6_variety
      rw [cc h, gbvx_inl, if_neg (by decide), if_neg (by decide), if_neg (by decide), if_neg (by decide), if_neg (by decide), if_neg (by decide), if_neg (by decide), if_pos (by decide), lc h e, gb_some]
    · unfold f_X7_varietyNow
      rw [if_neg (by decide), if_neg (by decide), if_neg (by decide), if_neg (by decide), if_neg (by decide), if_neg (by decide), if_neg (by decide), gb_eta, lotsOf_v I R _ _ _ 1 (nI g.val) 1 lg h e]
theorem op_variety {h : Hst} (S : Sim h) (p0 p1 : Int32) : Agree (f_L_variety p0 p1 h) (f_X7_variety p0 p1) := by
  obtain ⟨-, ⟨ng, nl, nt, I, R⟩, -⟩ := id S
  rcases idx p0 (n := 5) (by decide) with ⟨g, hg, rfl⟩ | b0
  · rcases idx p1 (n := 8) (by decide) with ⟨k, hk, rfl⟩ | b1
    · refine agree_get S (getV_variety I R (h.1 1 9) ⟨g, by omega⟩ ⟨k, hk⟩) rfl (fun H e => ?_)
      unfold f_X7_variety jb_X7_variety_27 jb_X7_variety_47
      rw [isVariety7_gd hg, gb_some, if_neg (by decide), show (7 : Int32) = nI 8 - 1 from rfl, within_gd hk (by decide), gb_some, if_neg (by decide), gl_eq]
      show (if (0 : Int32) ≤ 0 then _ else _) = _
      rw [if_pos (by decide), gb_eta]
    · refine agree_bad S (k := 2) (by decide) ?_ ?_
      · unfold f_L_variety f_X6_variety
        rw [checkVariety_gd hg, gbvx_inl, if_neg (b1.nq 0 0 rfl (by decide) (by decide)), if_neg (b1.nq 1 1 rfl (by decide) (by decide)), if_neg (b1.nq 2 2 rfl (by decide) (by decide)), if_neg (b1.nq 3 3 rfl (by decide) (by decide)), if_neg (b1.nq 4 4 rfl (by decide) (by decide)), if_neg (b1.nq 5 5 rfl (by decide) (by decide)), if_neg (b1.nq 6 6 rfl (by decide) (by decide)), if_neg (b1.nq 7 7 rfl (by decide) (by decide)), gbx_inr]
        rfl
      · unfold f_X7_variety jb_X7_variety_27 jb_X7_variety_47
        rw [isVariety7_gd hg, gb_some, if_neg (by decide), show (7 : Int32) = nI 8 - 1 from rfl, within_bad b1, gb_some, if_pos rfl, gl_eq]
        show (if (2 : Int32) ≤ 0 then _ else _) = _
        rw [if_neg (by decide)]
  · refine agree_bad S (k := 1) (by decide) ?_ ?_
    · unfold f_L_variety f_X6_variety
      rw [checkVariety_bad b0, gbvx_inr, gbx_inr]
      rfl
    · unfold f_X7_variety jb_X7_variety_27 jb_X7_variety_47
      rw [isVariety7_bad b0, gb_some, if_pos rfl, gl_eq]
      show (if (1 : Int32) ≤ 0 then _ else _) = _
      rw [if_neg (by decide)]
-- setting
theorem op_setting {h : Hst} (S : Sim h) (p0 : Int32) : Agree (f_L_setting p0 h) (f_X7_setting p0) := by
  obtain ⟨-, ⟨ng, nl, nt, I, R⟩, -⟩ := id S
  rcases idx p0 (n := 7) (by decide) with ⟨i, hi, rfl⟩ | b0
  · have zv : h.1 18 (0 + i) = cS (h.1 8) ⟨i, by omega⟩ := R.1 ⟨i, by omega⟩ (fun q => by have := congrArg Fin.val q; simp at this; omega)
    refine agree_get S (fc := f_X6_setting (nI i)) (fm := fun H => some (H.1 18 (0 + i), H)) (getV_pure (cS (h.1 8) ⟨i, by omega⟩) (fun H e _ => ?_) (fun H e _ => ?_)) rfl (fun H e => ?_)
    · unfold f_X6_setting
      rw [isSetting_gd hi, gb_some, if_neg (by decide)]
      have := row6 ⟨i, hi⟩ H
      rw [show nI i = nI (⟨i, hi⟩ : Fin 7).val from rfl, this, gb_some, e]
      rfl
    · show some (H.1 18 (0 + i), H) = _
      rw [e, zv]
    · unfold f_X7_setting jb_X7_setting_13 jb_X7_setting_35
      rw [isSetting7_gd hi, gb_some, if_neg (by decide), gl_eq]
      show (if (0 : Int32) ≤ 0 then _ else _) = _
      rw [if_pos (by decide), show (0 : Int32) = nI 0 from rfl, gk_z (by omega)]
  · refine agree_bad S (k := 1) (by decide) ?_ ?_
    · unfold f_L_setting f_X6_setting
      rw [isSetting_bad b0, gb_some, if_pos rfl, gbx_inr]
      rfl
    · unfold f_X7_setting jb_X7_setting_13 jb_X7_setting_35
      rw [isSetting7_bad b0, gb_some, if_pos rfl, gl_eq]
      show (if (1 : Int32) ≤ 0 then _ else _) = _
      rw [if_neg (by decide)]
