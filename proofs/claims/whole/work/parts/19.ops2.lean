theorem fin7 : ∀ k : Fin 7, k = 0 ∨ k = 1 ∨ k = 2 ∨ k = 3 ∨ k = 4 ∨ k = 5 ∨ k = 6 := by decide
-- addTank
theorem sim_addTank {c z : Nat → Int32} {ng nl nt : Nat} (I : InvC c ng nl nt) (R : RelCZ c z nl) (t : Fin 6) (ht : t.val = nt) {p x : Int32} (hp : isN p 20000) (hx : x = nI (nt + 1)) : SimCZ (uS (uTa c t 0 p) 9 x) (wS (wT z t 0 p) 9 x) := by
  refine ⟨ng, nl, nt + 1, ?_, rel_S (rel_T R t 0 p) 9 (by decide) (by decide) x⟩
  subst hx
  have tl := t.isLt
  obtain ⟨⟨a1, a2, a3⟩, ⟨b1, b2, b3⟩, c1, d, e, f, r1, r2, r3, r4⟩ := I
  have z5 := r3 t (by omega)
  simp only [InvC, LotI, TankI, cVa_uS, cLo_uS, cGr_uS, cTa_uS, cVa_uTa, cLo_uTa, cGr_uTa, cS_uS, cS_uTa]
  refine ⟨⟨a1, a2, by omega⟩, ⟨b1, b2, rfl⟩, c1, d, e, f, r1, fun l hl => ?_, fun t' ht' k => ?_, fun t' => ?_⟩
  · obtain ⟨q0, q1, q2, q3, q4, q5, q6⟩ := r2 l hl
    refine ⟨q0, q1, q2, q3, q4, q5, fun w => ?_⟩
    obtain ⟨w1, t2, w2, w3⟩ := q6 w
    exact ⟨w1, t2, by omega, w3⟩
  · rw [cTa_uTa, if_neg (fun w => by have := congrArg Fin.val w.1; omega)]; exact r3 t' (by omega) k
  · by_cases q : t' = t
    · subst q
      obtain ⟨s, hs, es⟩ := hp
      simp only [cTa_uTa]
      exact ⟨s, 0, 0, 0, 0, 0, hs, by omega, es, z5 2, z5 3, z5 4, z5 5, z5 6⟩
    · have := r4 t'
      simp only [TankI] at this
      simp only [cTa_uTa, q, false_and, if_false]; exact this
theorem op_addTank {h : Hst} (S : Sim h) (p : Int32) : Agree (f_L_addTank p h) (f_X7_addTank p) := by
  obtain ⟨-, ⟨ng, nl, nt, I, R⟩, -⟩ := id S
  obtain ⟨⟨hg, hl, ht⟩, ⟨i7, i8, i9⟩, -⟩ := id I
  have z9 : h.1 18 9 = nI nt := (R.1 9 (by decide)).trans i9
  have B := bounds p 100 20000 (by decide) (by decide)
  rw [show nI 100 = (100 : Int32) from rfl, show nI 20000 = (20000 : Int32) from rfl] at B
  rcases B with ⟨n, n1, n2, rfl, o, w⟩ | ⟨o, w⟩
  · by_cases hlt : nt < 6
    · obtain ⟨hc, e, ee2, ef, K⟩ := undo_std S
      have e8 := ef 8 (by decide) (by decide)
      have e18 := ef 18 (by decide) (by decide)
      have ec : f_L_addTank (nI n) h = some (0, hsj (hso hc 8 (uS (uTa (hc.1 8) ⟨nt, hlt⟩ 0 (nI n)) 9 (nI (nt + 1)))) 25 0 (nI nt).toInt64) := by
        unfold f_L_addTank f_X6_addTank
        rw [o, gb_some, if_pos rfl, row7_2, gb_some, i9, if_pos (show nI nt < 6 from nI_lt (b := 6) hlt (by decide)), e, gbv_some, show nI nt = nI (⟨nt, hlt⟩ : Fin 6).val from rfl, put4_0, gbv_some, rowa7_2, gbv_some, gbx_inl, gk_0_1, gl_eq, tn_0, hso_hso, hso_at, if_pos rfl, cS_uTa, e8, i9, nI_1]
      obtain ⟨hm, em, m2, mf, mj, K2⟩ := K (hst (hsj (hso hc 8 (uS (uTa (hc.1 8) ⟨nt, hlt⟩ 0 (nI n)) 9 (nI (nt + 1)))) 25 0 (nI nt).toInt64) 17 5 0) ⟨rfl, rfl, rfl, rfl, rfl, rfl, rfl, rfl⟩ rfl
      have m18 : hm.1 18 = h.1 18 := (mf 18 (by decide) (by decide)).trans e18
      have m8 : hm.1 8 = uS (uTa (h.1 8) ⟨nt, hlt⟩ 0 (nI n)) 9 (nI (nt + 1)) := by
        rw [mf 8 (by decide) (by decide)]
        show uS (uTa (hc.1 8) _ _ _) _ _ = _
        rw [e8]
      have m9 : hm.1 18 9 = nI nt := by rw [m18]; exact z9
      have ei : (472 : Int32) + 7 * nI nt = nI (472 + 7 * nt) := by
        show nI 472 + nI 7 * nI nt = _; rw [pk_mul, nI_add]
      refine agree_ok ec (h2 := hst (hst hm 18 (472 + 7 * nt) (nI n)) 18 9 (nI (nt + 1))) ?_ (mj 5 (by decide)) m2 ?_
      · unfold f_X7_addTank jb_X7_addTank_34
        rw [w, gb_some, if_neg (by decide), gk_9_514, tn_9, if_neg (show ¬ (hsj (hso hc 8 (uS (uTa (hc.1 8) ⟨nt, hlt⟩ 0 (nI n)) 9 (nI (nt + 1)))) 25 0 (nI nt).toInt64).1 18 9 = 6 from fun zz => by
          have z' : hc.1 18 9 = 6 := zz
          rw [e18, z9] at z'
          exact absurd (nI_inj (by omega) (by decide) (show nI nt = nI 6 from z')) (by omega)), gl_eq]
        show (if (0 : Int32) ≤ 0 then _ else _) = _
        rw [if_pos (by decide), em, gbv_some, gk_9_514, m9, ei, gck_nI (by omega) (by decide), nI_clamp (by omega), gl_eq, gk_9_514, gk_9_514, gl_eq, gk_9_514]
        have q : (hst hm 18 (472 + 7 * nt) (nI n)).1 18 9 = nI nt := by
          rw [hst_at, if_pos rfl, upd_at, if_neg (by omega)]; exact m9
        rw [q, nI_1]
        congr 2
        exact nI_pred nt
      · refine K2 _ ⟨rfl, rfl, rfl, rfl, rfl, rfl, rfl, rfl⟩ ?_
        show SimCZ (hm.1 8) (wS (wT (hm.1 18) ⟨nt, hlt⟩ 0 (nI n)) 9 (nI (nt + 1)))
        rw [m8, m18]
        exact sim_addTank I R ⟨nt, hlt⟩ rfl ⟨n, n2, rfl⟩ rfl
    · have e6 : nt = 6 := by omega
      subst e6
      refine agree_no (k := 2) (h1 := h) (h2 := hst h 17 5 2) ?_ (by decide) ?_ rfl (S.keep ⟨rfl, rfl, rfl, rfl, rfl, rfl, rfl, rfl⟩ rfl rfl)
      · unfold f_L_addTank f_X6_addTank
        rw [o, gb_some, if_pos rfl, row7_2, gb_some, i9, if_neg (show ¬ nI 6 < 6 by decide), gbx_inr]
        rfl
      · unfold f_X7_addTank jb_X7_addTank_34
        rw [w, gb_some, if_neg (by decide), gk_9_514, tn_9, z9, if_pos (by rfl), gl_eq]
        show (if (2 : Int32) ≤ 0 then _ else _) = _
        rw [if_neg (by decide)]
  · refine agree_no (k := 1) (h1 := h) (h2 := hst h 17 5 1) ?_ (by decide) ?_ rfl (S.keep ⟨rfl, rfl, rfl, rfl, rfl, rfl, rfl, rfl⟩ rfl rfl)
    · unfold f_L_addTank f_X6_addTank
      rw [o, gb_some, if_neg (by decide), gbx_inr]
      rfl
    · unfold f_X7_addTank jb_X7_addTank_34
      rw [w, gb_some, if_pos rfl, gl_eq]
      show (if (1 : Int32) ≤ 0 then _ else _) = _
      rw [if_neg (by decide)]
-- setYield
theorem op_setYield {h : Hst} (S : Sim h) (p0 p1 : Int32) : Agree (f_L_setYield p0 p1 h) (f_X7_setYield p0 p1) := by
  obtain ⟨-, ⟨ng, nl, nt, I, R⟩, -⟩ := id S
  have B := bounds p1 50 400 (by decide) (by decide)
  rw [show nI 50 = (50 : Int32) from rfl, show nI 400 = (400 : Int32) from rfl] at B
  rcases idx p0 (n := 5) (by decide) with ⟨v, hv, rfl⟩ | b0
  · rcases B with ⟨n, n1, n2, rfl, o, w⟩ | ⟨o, w⟩
    · obtain ⟨hc, e, ee2, ef, K⟩ := undo_std S
      have e8 := ef 8 (by decide) (by decide)
      have e18 := ef 18 (by decide) (by decide)
      have ec : f_L_setYield (nI v) (nI n) h = some (0, hsj (hso hc 8 (uVa (hc.1 8) ⟨v, hv⟩ 0 (nI n))) 25 0 (cVa (h.1 8) ⟨v, hv⟩ 0).toInt64) := by
        unfold f_L_setYield f_X6_setYield
        rw [checkVariety_gd hv, gbvx_inl, o, gb_some, if_pos rfl, show nI v = nI (⟨v, hv⟩ : Fin 5).val from rfl, get5_0, gb_some, e, gbv_some, put5_0, gbv_some, gbx_inl, gk_0_1, gl_eq, tn_0]
      obtain ⟨hm, em, m2, mf, mj, K2⟩ := K (hst (hsj (hso hc 8 (uVa (hc.1 8) ⟨v, hv⟩ 0 (nI n))) 25 0 (cVa (h.1 8) ⟨v, hv⟩ 0).toInt64) 17 5 0) ⟨rfl, rfl, rfl, rfl, rfl, rfl, rfl, rfl⟩ rfl
      have m18 : hm.1 18 = h.1 18 := (mf 18 (by decide) (by decide)).trans e18
      have m8 : hm.1 8 = uVa (h.1 8) ⟨v, hv⟩ 0 (nI n) := by
        rw [mf 8 (by decide) (by decide)]
        show uVa (hc.1 8) _ _ _ = _
        rw [e8]
      have zv : h.1 18 (15 + v) = cVa (h.1 8) ⟨v, hv⟩ 0 := by
        have := R.2.2.2.1 0 ⟨v, hv⟩
        rw [← this]; rfl
      refine agree_ok ec (h2 := hst hm 18 (15 + v) (nI n)) ?_ (mj 5 (by decide)) m2 ?_
      · unfold f_X7_setYield jb_X7_setYield_29
        rw [isVariety7_gd hv, gb_some, if_neg (by decide), w, gb_some, if_neg (by decide), gl_eq]
        show (if (0 : Int32) ≤ 0 then _ else _) = _
        rw [if_pos (by decide), em, gbv_some, show (15 : Int32) + nI v = nI (15 + v) from nI_add 15 v, gck_nI (by omega) (by decide), nI_clamp (by omega), gl_eq, gck_nI (by omega) (by decide), gl_eq, m18, zv]
      · refine K2 _ ⟨rfl, rfl, rfl, rfl, rfl, rfl, rfl, rfl⟩ ?_
        show SimCZ (hm.1 8) (wV (hm.1 18) 0 ⟨v, hv⟩ (nI n))
        rw [m8, m18]
        exact ⟨ng, nl, nt, inv_V I _ _ _ (fun _ => ⟨n, n2, rfl⟩), rel_V R 0 ⟨v, hv⟩ (nI n)⟩
    · refine agree_no (k := 2) (h1 := h) (h2 := hst h 17 5 2) ?_ (by decide) ?_ rfl (S.keep ⟨rfl, rfl, rfl, rfl, rfl, rfl, rfl, rfl⟩ rfl rfl)
      · unfold f_L_setYield f_X6_setYield
        rw [checkVariety_gd hv, gbvx_inl, o, gb_some, if_neg (by decide), gbx_inr]
        rfl
      · unfold f_X7_setYield jb_X7_setYield_29
        rw [isVariety7_gd hv, gb_some, if_neg (by decide), w, gb_some, if_pos rfl, gl_eq]
        show (if (2 : Int32) ≤ 0 then _ else _) = _
        rw [if_neg (by decide)]
  · refine agree_no (k := 1) (h1 := h) (h2 := hst h 17 5 1) ?_ (by decide) ?_ rfl (S.keep ⟨rfl, rfl, rfl, rfl, rfl, rfl, rfl, rfl⟩ rfl rfl)
    · unfold f_L_setYield f_X6_setYield
      rw [checkVariety_bad b0, gbvx_inr, gbx_inr]
      rfl
    · unfold f_X7_setYield jb_X7_setYield_29
      rw [isVariety7_bad b0, gb_some, if_pos rfl, gl_eq]
      show (if (1 : Int32) ≤ 0 then _ else _) = _
      rw [if_neg (by decide)]
-- set
def MX : Nat → Nat := fun i => match i with
  | 0 => 50
  | 1 => 1000
  | 2 => 1000
  | 3 => 50
  | 4 => 500
  | 5 => 2
  | _ => 500
theorem settingValue (i : Fin 7) (p : Int32) : (isN p (MX i.val) ∧ (∀ h, f_X6_isSettingValue (nI i.val) p h = some (1, h)) ∧ ∀ h, f_X7_isValue (nI i.val) p h = some (1, h)) ∨ ((∀ h, f_X6_isSettingValue (nI i.val) p h = some (0, h)) ∧ ∀ h, f_X7_isValue (nI i.val) p h = some (0, h)) := by
  have key : ∀ (lo hi : Nat), lo ≤ hi → hi < 2 ^ 30 → (∃ n, n ≤ hi ∧ p = nI n ∧ ¬ p < nI lo ∧ ¬ nI hi < p) ∨ (p < nI lo ∨ (¬ p < nI lo ∧ nI hi < p)) := by
    intro lo hi h0 h1
    by_cases c1 : p < nI lo
    · exact Or.inr (Or.inl c1)
    · by_cases c2 : nI hi < p
      · exact Or.inr (Or.inr ⟨c1, c2⟩)
      · rcases bounds p lo hi h0 h1 with ⟨n, -, n2, e, -⟩ | ⟨-, w⟩
        · exact Or.inl ⟨n, n2, e, c1, c2⟩
        · have := w (fun _ _ => 0, fun _ _ => 0)
          rw [within7, if_neg c1, if_neg c2] at this
          simp at this
  have fin : ∀ (lo hi : Nat), lo ≤ hi → hi < 2 ^ 30 → hi = MX i.val →
      (∀ h, f_X6_isSettingValue (nI i.val) p h = if p < nI lo then some (0, h) else if nI hi < p then some (0, h) else some (1, h)) → (∀ h, f_X7_isValue (nI i.val) p h = gb (f_X7_within p (nI lo) (nI hi) h) fun x h => gzr x (some (x, h))) →
      (isN p (MX i.val) ∧ (∀ h, f_X6_isSettingValue (nI i.val) p h = some (1, h)) ∧ ∀ h, f_X7_isValue (nI i.val) p h = some (1, h)) ∨ ((∀ h, f_X6_isSettingValue (nI i.val) p h = some (0, h)) ∧ ∀ h, f_X7_isValue (nI i.val) p h = some (0, h)) := by
    intro lo hi h0 h1 hM hc hm
    rcases key lo hi h0 h1 with ⟨n, n2, e, c1, c2⟩ | c1 | ⟨c1, c2⟩
    · exact Or.inl ⟨⟨n, by omega, e⟩, fun h => by rw [hc, if_neg c1, if_neg c2], fun h => by rw [hm, within7, if_neg c1, if_neg c2, gb_some, gzr_1]⟩
    · exact Or.inr ⟨fun h => by rw [hc, if_pos c1], fun h => by rw [hm, within7, if_pos c1, gb_some, gzr_0]⟩
    · exact Or.inr ⟨fun h => by rw [hc, if_neg c1, if_pos c2], fun h => by rw [hm, within7, if_neg c1, if_pos c2, gb_some, gzr_0]⟩
  rcases fin7 i with rfl | rfl | rfl | rfl | rfl | rfl | rfl
  · exact fin 0 50 (by decide) (by decide) rfl (fun h => rfl) (fun h => rfl)
  · exact fin 500 1000 (by decide) (by decide) rfl (fun h => rfl) (fun h => rfl)
  · exact fin 0 1000 (by decide) (by decide) rfl (fun h => rfl) (fun h => rfl)
  · exact fin 0 50 (by decide) (by decide) rfl (fun h => rfl) (fun h => rfl)
  · exact fin 0 500 (by decide) (by decide) rfl (fun h => rfl) (fun h => rfl)
  · exact fin 0 2 (by decide) (by decide) rfl (fun h => rfl) (fun h => rfl)
  · exact fin 0 500 (by decide) (by decide) rfl (fun h => rfl) (fun h => rfl)
theorem isSetting_gd {i : Nat} (hi : i < 7) (h : Hst) : f_X6_isSetting (nI i) h = some (1, h) := by
  unfold f_X6_isSetting jb_X6_isSetting_15
  rw [if_neg (nI_pos (by omega)), if_neg (show ¬ (7 : Int32) ≤ nI i from nI_ge (b := 7) hi (by decide)), gzr_1]
theorem isSetting_bad {p : Int32} (hp : Bad p 7) (h : Hst) : f_X6_isSetting p h = some (0, h) := by
  unfold f_X6_isSetting jb_X6_isSetting_14 jb_X6_isSetting_15
  rcases hp with a | ⟨a, b, -⟩
  · rw [if_pos a, gzr_0]
  · rw [if_neg a, if_pos (show (7 : Int32) ≤ p from Int32.not_lt.mp b), gzr_0]
theorem isSetting7_gd {i : Nat} (hi : i < 7) (h : Hst) : f_X7_isSetting (nI i) h = some (1, h) := by
  unfold f_X7_isSetting
  rw [show (6 : Int32) = nI 7 - 1 from rfl, within_gd hi (by decide), gb_some, gzr_1]
theorem isSetting7_bad {p : Int32} (hp : Bad p 7) (h : Hst) : f_X7_isSetting p h = some (0, h) := by
  unfold f_X7_isSetting
  rw [show (6 : Int32) = nI 7 - 1 from rfl, within_bad hp, gb_some, gzr_0]
theorem inv_set {c : Nat → Int32} {ng nl nt : Nat} (I : InvC c ng nl nt) (i : Fin 7) {p : Int32} (hp : isN p (MX i.val)) : InvC (uS c ⟨i.val, by omega⟩ p) ng nl nt := by
  obtain ⟨a, b, c1, d, r⟩ := I
  obtain ⟨c10, c11, c12, c13, c14, c15, c16⟩ := c1
  rcases fin7 i with rfl | rfl | rfl | rfl | rfl | rfl | rfl
  · simp only [InvC, LotI, TankI, cVa_uS, cLo_uS, cGr_uS, cTa_uS, cS_uS]; exact ⟨a, b, ⟨hp, c11, c12, c13, c14, c15, c16⟩, d, r⟩
  · simp only [InvC, LotI, TankI, cVa_uS, cLo_uS, cGr_uS, cTa_uS, cS_uS]; exact ⟨a, b, ⟨c10, hp, c12, c13, c14, c15, c16⟩, d, r⟩
  · simp only [InvC, LotI, TankI, cVa_uS, cLo_uS, cGr_uS, cTa_uS, cS_uS]; exact ⟨a, b, ⟨c10, c11, hp, c13, c14, c15, c16⟩, d, r⟩
  · simp only [InvC, LotI, TankI, cVa_uS, cLo_uS, cGr_uS, cTa_uS, cS_uS]; exact ⟨a, b, ⟨c10, c11, c12, hp, c14, c15, c16⟩, d, r⟩
  · simp only [InvC, LotI, TankI, cVa_uS, cLo_uS, cGr_uS, cTa_uS, cS_uS]; exact ⟨a, b, ⟨c10, c11, c12, c13, hp, c15, c16⟩, d, r⟩
  · simp only [InvC, LotI, TankI, cVa_uS, cLo_uS, cGr_uS, cTa_uS, cS_uS]; exact ⟨a, b, ⟨c10, c11, c12, c13, c14, hp, c16⟩, d, r⟩
  · simp only [InvC, LotI, TankI, cVa_uS, cLo_uS, cGr_uS, cTa_uS, cS_uS]; exact ⟨a, b, ⟨c10, c11, c12, c13, c14, c15, hp⟩, d, r⟩
theorem op_set {h : Hst} (S : Sim h) (p0 p1 : Int32) : Agree (f_L_set p0 p1 h) (f_X7_set p0 p1) := by
  obtain ⟨-, ⟨ng, nl, nt, I, R⟩, -⟩ := id S
  rcases idx p0 (n := 7) (by decide) with ⟨i, hi, rfl⟩ | b0
  · rcases settingValue ⟨i, hi⟩ p1 with ⟨hp, o, w⟩ | ⟨o, w⟩
    · obtain ⟨hc, e, ee2, ef, K⟩ := undo_std S
      have e8 := ef 8 (by decide) (by decide)
      have e18 := ef 18 (by decide) (by decide)
      have ec : f_L_set (nI i) p1 h = some (0, hsj (hso hc 8 (uS (hc.1 8) ⟨i, by omega⟩ p1)) 25 0 (cS (h.1 8) ⟨i, by omega⟩).toInt64) := by
        unfold f_L_set f_X6_set
        rw [isSetting_gd hi, gb_some, if_neg (by decide), o, gb_some, if_neg (by decide), show nI i = nI (⟨i, hi⟩ : Fin 7).val from rfl, row6, gb_some, e, gbv_some, rowp6, gbv_some, gbx_inl, gk_0_1, gl_eq, tn_0]
        rfl
      obtain ⟨hm, em, m2, mf, mj, K2⟩ := K (hst (hsj (hso hc 8 (uS (hc.1 8) ⟨i, by omega⟩ p1)) 25 0 (cS (h.1 8) ⟨i, by omega⟩).toInt64) 17 5 0) ⟨rfl, rfl, rfl, rfl, rfl, rfl, rfl, rfl⟩ rfl
      have m18 : hm.1 18 = h.1 18 := (mf 18 (by decide) (by decide)).trans e18
      have m8 : hm.1 8 = uS (h.1 8) ⟨i, by omega⟩ p1 := by
        rw [mf 8 (by decide) (by decide)]
        show uS (hc.1 8) _ _ = _
        rw [e8]
      have zv : h.1 18 (0 + i) = cS (h.1 8) ⟨i, by omega⟩ := R.1 ⟨i, by omega⟩ (fun q => by have := congrArg Fin.val q; simp at this; omega)
      refine agree_ok ec (h2 := hst hm 18 (0 + i) p1) ?_ (mj 5 (by decide)) m2 ?_
      · unfold f_X7_set jb_X7_set_25
        rw [isSetting7_gd hi, gb_some, if_neg (by decide), w, gb_some, if_neg (by decide), gl_eq]
        show (if (0 : Int32) ≤ 0 then _ else _) = _
        rw [if_pos (by decide), em, gbv_some, show (0 : Int32) + nI i = nI (0 + i) from nI_add 0 i, gck_nI (by omega) (by decide), nI_clamp (by omega), gl_eq, gck_nI (by omega) (by decide), gl_eq, m18, zv]
      · refine K2 _ ⟨rfl, rfl, rfl, rfl, rfl, rfl, rfl, rfl⟩ ?_
        show SimCZ (hm.1 8) (wS (hm.1 18) ⟨i, by omega⟩ p1)
        rw [m8, m18]
        exact ⟨ng, nl, nt, inv_set I ⟨i, hi⟩ hp, rel_S R ⟨i, by omega⟩ (fun q => by have := congrArg Fin.val q; simp at this; omega) (fun q => by have := congrArg Fin.val q; simp at this; omega) p1⟩
    · refine agree_no (k := 2) (h1 := h) (h2 := hst h 17 5 2) ?_ (by decide) ?_ rfl (S.keep ⟨rfl, rfl, rfl, rfl, rfl, rfl, rfl, rfl⟩ rfl rfl)
      · unfold f_L_set f_X6_set
        rw [isSetting_gd hi, gb_some, if_neg (by decide), o, gb_some, if_pos rfl, gbx_inr]
        rfl
      · unfold f_X7_set jb_X7_set_25
        rw [isSetting7_gd hi, gb_some, if_neg (by decide), w, gb_some, if_pos rfl, gl_eq]
        show (if (2 : Int32) ≤ 0 then _ else _) = _
        rw [if_neg (by decide)]
  · refine agree_no (k := 1) (h1 := h) (h2 := hst h 17 5 1) ?_ (by decide) ?_ rfl (S.keep ⟨rfl, rfl, rfl, rfl, rfl, rfl, rfl, rfl⟩ rfl rfl)
    · unfold f_L_set f_X6_set
      rw [isSetting_bad b0, gb_some, if_pos rfl, gbx_inr]
      rfl
    · unfold f_X7_set jb_X7_set_25
      rw [isSetting7_bad b0, gb_some, if_pos rfl, gl_eq]
      show (if (1 : Int32) ≤ 0 then _ else _) = _
      rw [if_neg (by decide)]
