-- the law's loop
theorem cmp_self (x : Int64) : lg_cmp x x = 0 := by
  unfold lg_cmp
  simp
theorem ag_tail {r : Option (Int32 × Hst)} {m : Hst → Option (Int32 × Hst)} (A : Agree r m) (K : Hst → Option (Int32 × Hst)) (N : ∀ h', Sim h' → ∃ h'', K h' = some (1, h'')) :
    ∃ h'', (gb r fun x3 h2 => gb (m h2) fun x5 h4 => gb (f_X7_thrown h4) fun x7 h6 => if x7 = x3 then (if x3 = 0 then gck 0 1 (if (lg_cmp (h6.2 25 (0 : Int32).toNatClampNeg) (x5.toInt64)) = 0 then K h6 else gzr 0 (some (0, h6))) else K h6) else gzr 0 (some (0, h6))) = some (1, h'') := by
  obtain ⟨k, h1, b, h2, e1, e2, e3, e4, S⟩ := A
  obtain ⟨h'', e⟩ := N h2 S
  refine ⟨h'', ?_⟩
  unfold f_X7_thrown
  rw [e1, gb_some, e2, gb_some, gb_some, e3, if_pos rfl]
  by_cases q : k = 0
  · rw [if_pos q, gk_0_1, tn_0, e4 q, cmp_self, if_pos rfl, e]
  · rw [if_neg q, e]
theorem ag2_tail {r : Option (Int32 × Hst)} {m : Hst → Option (Int32 × Hst)} (A : Agree2 r m) (K : Hst → Option (Int32 × Hst)) (N : ∀ h', Sim h' → ∃ h'', K h' = some (1, h'')) :
    ∃ h'', (gb r fun x3 h2 => gb (m h2) fun x5 h4 => if x3 = x5 then K h4 else gzr 0 (some (0, h4))) = some (1, h'') := by
  obtain ⟨v, h1, h2, e1, e2, S⟩ := A
  obtain ⟨h'', e⟩ := N h2 S
  exact ⟨h'', by rw [e1, gb_some, e2, gb_some, if_pos rfl, e]⟩
theorem ag3_tail {r : Option (Int64 × Hst)} {m : Hst → Option (Int64 × Hst)} (A : Agree2 r m) (K : Hst → Option (Int32 × Hst)) (N : ∀ h', Sim h' → ∃ h'', K h' = some (1, h'')) :
    ∃ h'', (gb r fun x3 h2 => gb (m h2) fun x5 h4 => if (lg_cmp x3 x5) = 0 then K h4 else gzr 0 (some (0, h4))) = some (1, h'') := by
  obtain ⟨v, h1, h2, e1, e2, S⟩ := A
  obtain ⟨h'', e⟩ := N h2 S
  exact ⟨h'', by rw [e1, gb_some, e2, gb_some, cmp_self, if_pos rfl, e]⟩
theorem sh_eq {x : UInt64} (hx : isSh x) : FP.dcmp x x = some .eq := by
  rcases hx with rfl | ⟨e, m, rfl, e1, e2, hm⟩
  · decide
  · exact dcmp_self (by omega) hm
theorem nI_6lt : ∀ l : Fin 6, nI l.val - 6 < 0 := by decide
theorem law_lp (xs : Nat → Int32) (Lx : Nat) (hL : Lx ≤ 3072) : ∀ (m i n : Nat) (h : Hst), Sim h → i ≤ Lx → (Lx - i) / 6 = m → m < n → ∃ h', lp_L_law_23 xs Lx n (nI i) h = some (1, h')
  | 0, i, n + 1, h, S, hi, hm, _ => by
    refine ⟨h, ?_⟩
    rw [lp_L_law_23, if_pos, gzr_1]
    by_cases q : 6 ≤ Lx
    · rw [show Int32.ofNat Lx - 6 = nI (Lx - 6) from pk_sub (b := 6) q]
      exact nI_lt (by omega) (by omega)
    · have := nI_6lt ⟨Lx, by omega⟩
      exact Int32.lt_of_lt_of_le this (nI_pos' (by omega))
  | m + 1, i, n + 1, h, S, hi, hm, hn => by
    have i6 : i + 6 ≤ Lx := by omega
    have N : ∀ h', Sim h' → ∃ h'', lp_L_law_23 xs Lx n (nI i + 6) h' = some (1, h'') := fun h' S' => by
      rw [show nI i + 6 = nI (i + 6) from nI_add i 6]
      exact law_lp xs Lx hL m (i + 6) n h' S' (by omega) (by omega) (by omega)
    have g : ∀ j : Nat, j < 6 → ∀ x : Option (Int32 × Hst), gck (nI i + nI j) Lx x = x := fun j hj x => by
      rw [nI_add]
      exact gck_nI (by omega) (by omega) x
    have g1 : ∀ x : Option (Int32 × Hst), gck (nI i + 1) Lx x = x := g 1 (by decide)
    have g2 : ∀ x : Option (Int32 × Hst), gck (nI i + 2) Lx x = x := g 2 (by decide)
    have g3 : ∀ x : Option (Int32 × Hst), gck (nI i + 3) Lx x = x := g 3 (by decide)
    have g4 : ∀ x : Option (Int32 × Hst), gck (nI i + 4) Lx x = x := g 4 (by decide)
    have g5 : ∀ x : Option (Int32 × Hst), gck (nI i + 5) Lx x = x := g 5 (by decide)
    rw [lp_L_law_23, if_neg (by
      rw [show Int32.ofNat Lx - 6 = nI (Lx - 6) from pk_sub (b := 6) (by omega)]
      exact nI_nlt (by omega) (by omega)), gck_nI (by omega) (by omega), gl_eq]
    generalize hx1 : xs (nI i).toNatClampNeg &&& 31 = x1
    by_cases c0 : x1 = 0
    · rw [if_pos c0]
      exact ag_tail (op_addGrower S) _ N
    rw [if_neg c0]
    by_cases c1 : x1 = 1
    · rw [if_pos c1]
      simp only [g1, g2, g3, g4, g5]
      exact ag_tail (op_addLot S _ _ _ _ _) _ N
    rw [if_neg c1]
    by_cases c2 : x1 = 2
    · rw [if_pos c2]
      simp only [g1, g2, g3, g4, g5]
      exact ag_tail (op_addTank S _) _ N
    rw [if_neg c2]
    by_cases c3 : x1 = 3
    · rw [if_pos c3]
      simp only [g1, g2, g3, g4, g5]
      exact ag_tail (op_setYield S _ _) _ N
    rw [if_neg c3]
    by_cases c4 : x1 = 4
    · rw [if_pos c4]
      simp only [g1, g2, g3, g4, g5]
      exact ag_tail (op_set S _ _) _ N
    rw [if_neg c4]
    by_cases c5 : x1 = 5
    · rw [if_pos c5]
      unfold jb_L_law_537 jb_L_law_564
      simp only [g1, g2, g3, g4, g5]
      by_cases b : xs (nI i + 2).toNatClampNeg = 0
      · simp only [b, if_true]
        exact ag_tail (op_press S _ _) _ N
      · simp only [b, if_false]
        exact ag_tail (op_press S _ _) _ N
    rw [if_neg c5]
    by_cases c6 : x1 = 6
    · rw [if_pos c6]
      exact ag2_tail (op_clean S) _ N
    rw [if_neg c6]
    by_cases c7 : x1 = 7
    · rw [if_pos c7]
      simp only [g1, g2, g3, g4, g5]
      exact ag_tail (op_appeal S _) _ N
    rw [if_neg c7]
    by_cases c8 : x1 = 8
    · rw [if_pos c8]
      simp only [g1, g2, g3, g4, g5]
      exact ag_tail (op_draw S _ _ _) _ N
    rw [if_neg c8]
    by_cases c9 : x1 = 9
    · rw [if_pos c9]
      unfold jb_L_law_782 jb_L_law_821
      simp only [g1, g2, g3, g4, g5]
      by_cases b : xs (nI i + 4).toNatClampNeg = 0
      · simp only [b, if_true]
        exact ag_tail (op_move S _ _ _ _) _ N
      · simp only [b, if_false]
        exact ag_tail (op_move S _ _ _ _) _ N
    rw [if_neg c9]
    by_cases c10 : x1 = 10
    · rw [if_pos c10]
      simp only [g1, g2, g3, g4, g5]
      exact ag_tail (op_pass S _) _ N
    rw [if_neg c10]
    by_cases c11 : x1 = 11
    · rw [if_pos c11]
      simp only [g1, g2, g3, g4, g5]
      exact ag_tail (op_append S _) _ N
    rw [if_neg c11]
    by_cases c12 : x1 = 12
    · rw [if_pos c12]
      exact ag2_tail (op_clearBuffer S) _ N
    rw [if_neg c12]
    by_cases c13 : x1 = 13
    · rw [if_pos c13]
      exact ag2_tail (op_firstError S) _ N
    rw [if_neg c13]
    by_cases c14 : x1 = 14
    · rw [if_pos c14]
      exact ag_tail (op_addSlips S) _ N
    rw [if_neg c14]
    by_cases c15 : x1 = 15
    · rw [if_pos c15]
      exact ag_tail (op_undo S) _ N
    rw [if_neg c15]
    by_cases c16 : x1 = 16
    · rw [if_pos c16]
      simp only [g1, g2, g3, g4, g5]
      exact ag_tail (op_grower S _ _) _ N
    rw [if_neg c16]
    by_cases c17 : x1 = 17
    · rw [if_pos c17]
      simp only [g1, g2, g3, g4, g5]
      exact ag_tail (op_lot S _ _) _ N
    rw [if_neg c17]
    by_cases c18 : x1 = 18
    · rw [if_pos c18]
      simp only [g1, g2, g3, g4, g5]
      exact ag_tail (op_tank S _ _) _ N
    rw [if_neg c18]
    by_cases c19 : x1 = 19
    · rw [if_pos c19]
      simp only [g1, g2, g3, g4, g5]
      exact ag_tail (op_variety S _ _) _ N
    rw [if_neg c19]
    by_cases c20 : x1 = 20
    · rw [if_pos c20]
      simp only [g1, g2, g3, g4, g5]
      exact ag_tail (op_count S _) _ N
    rw [if_neg c20]
    by_cases c21 : x1 = 21
    · rw [if_pos c21]
      simp only [g1, g2, g3, g4, g5]
      exact ag_tail (op_setting S _) _ N
    rw [if_neg c21]
    by_cases c22 : x1 = 22
    · rw [if_pos c22]
      unfold jb_L_law_1488 jb_L_law_1515
      simp only [g1, g2, g3, g4, g5]
      by_cases b : xs (nI i + 2).toNatClampNeg = 0
      · simp only [b, if_true]
        exact ag_tail (op_whyNot S _ _) _ N
      · simp only [b, if_false]
        exact ag_tail (op_whyNot S _ _) _ N
    rw [if_neg c22]
    by_cases c23 : x1 = 23
    · rw [if_pos c23]
      simp only [g1, g2, g3, g4, g5]
      exact ag_tail (op_next S _) _ N
    rw [if_neg c23]
    by_cases c24 : x1 = 24
    · rw [if_pos c24]
      simp only [g1, g2, g3, g4, g5]
      exact ag_tail (op_taken S _ _ _) _ N
    rw [if_neg c24]
    by_cases c25 : x1 = 25
    · rw [if_pos c25]
      simp only [g1, g2, g3, g4, g5]
      exact ag_tail (op_oilIn S _ _) _ N
    rw [if_neg c25]
    by_cases c26 : x1 = 26
    · rw [if_pos c26]
      simp only [g1, g2, g3, g4, g5]
      exact ag_tail (op_lossBy S _) _ N
    rw [if_neg c26]
    by_cases c27 : x1 = 27
    · rw [if_pos c27]
      exact ag2_tail (op_bestTank S) _ N
    rw [if_neg c27]
    by_cases c28 : x1 = 28
    · rw [if_pos c28]
      obtain ⟨x, sh, e1, e2, S'⟩ := op_goodShare S
      obtain ⟨h'', e⟩ := N _ S'
      refine ⟨h'', ?_⟩
      rw [e1, gb_some, e2, gb_some, sh_eq sh, if_pos (show Op.cmpValue (some .eq) .l = 0 from rfl)]
      exact e
    rw [if_neg c28]
    by_cases c29 : x1 = 29
    · rw [if_pos c29]
      exact ag3_tail (op_digest S) _ N
    rw [if_neg c29]
    exact N h S
theorem law_all (xs : Nat → Int32) (Lx : Nat) (hL : Lx ≤ 3072) (h : Hst) (S : Sim h) : ∃ h', lp_L_law_23 xs Lx 513 0 h = some (1, h') :=
  law_lp xs Lx hL (Lx / 6) 0 513 h S (Nat.zero_le _) rfl (by omega)
