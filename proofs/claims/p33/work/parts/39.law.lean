-- the law's loops
theorem law_220 (xs : Nat → Int32) {Lx : Nat} (hL : Lx ≤ 260) : ∀ (m k n : Nat) (h : Hst) (nl b : Nat), k + m = 50 → m < n → b + m ≤ 48 → J h nl b → ∃ h', lp_L_law_220 xs Lx n (nI k) h = some (1, h')
  | 0, k, n + 1, h, nl, b, hk, _, _, j => by
    refine ⟨h, ?_⟩
    rw [lp_L_law_220, if_pos (show (50 : Int32) ≤ nI k from nI_le (a := 50) (by omega) (by omega)), gzr_1]
  | m + 1, k, n + 1, h, nl, b, hk, hn, hb, j => by
    obtain ⟨x, ex⟩ := cell_v xs hL (k := 2 * k) (by omega)
    obtain ⟨y, ey⟩ := cell_v xs hL (k := 2 * k + 1) (by omega)
    have e1 : (2 : Int32) * nI k = nI (2 * k) := pk_mul 2 k
    obtain ⟨h1, nl1, e2, j1⟩ := act_v j (by omega) x y
    obtain ⟨h', e'⟩ := law_220 xs hL m (k + 1) n h1 nl1 (b + 1) (by omega) (by omega) (by omega) j1
    refine ⟨h', ?_⟩
    rw [lp_L_law_220, if_neg (show ¬ (50 : Int32) ≤ nI k from nI_ge (b := 50) (by omega) (by decide)), e1, ex, gb_some, nI_1, ey, gb_some, e2, gb_some, if_neg (by decide), agree_v j1, gb_some, if_neg (by decide), nI_1]
    exact e'
/-- the world while the law sets up: k growers, k tanks -/
def P0 (h : Hst) (k : Nat) : Prop :=
  SVx h ∧ InvC (h.1 8) k 0 k ∧ RT (h.1 24) (h.1 8) ∧ (∀ g : Fin 8, g.val < 3 → h.1 25 g.val = 0) ∧ (∀ g q, cGr (h.1 8) g q = 0) ∧ (∀ t, cTa (h.1 8) t 1 = 0) ∧ (cS (h.1 8) 11 = 0 ∧ cS (h.1 8) 12 = 0 ∧ cS (h.1 8) 13 = 0) ∧
  (h.1 17 1 = nI 0 ∧ h.1 17 3 = -1 ∧ h.1 17 4 = 0 ∧ h.1 17 5 = 0 ∧ h.1 17 6 = 0 ∧ h.1 17 7 = 0) ∧ ∀ i : Fin 7, h.1 17 (8 + i.val) = cS (h.1 8) ⟨i.val, by omega⟩
theorem law_107 (xs : Nat → Int32) (Lx : Nat) : ∀ (m v n : Nat) (h : Hst), v + m = 5 → m < n → P0 h 0 → (∀ w : Fin 5, w.val < v → h.1 18 w.val = cVa (h.1 8) w 0) → ∃ h', lp_L_law_107 xs Lx n (nI v) h = lp_L_law_133 xs Lx FU 0 h' ∧ P0 h' 0 ∧ R18 (h'.1 8) (h'.1 18)
  | 0, v, n + 1, h, hv, _, P, R => by
    refine ⟨h, ?_, P, fun w => R w (by have := w.isLt; omega)⟩
    rw [lp_L_law_107, if_pos (show (5 : Int32) ≤ nI v from nI_le (a := 5) (by omega) (by omega))]
  | m + 1, v, n + 1, h, hv, hn, P, R => by
    have v5 : v < 5 := by omega
    have e : f_X6_variety (nI v) 0 h = some (cVa (h.1 8) ⟨v, v5⟩ 0, h) := variety_0 ⟨v, v5⟩ h
    obtain ⟨h', e', P', R'⟩ := law_107 xs Lx m (v + 1) n (hst h 18 v (cVa (h.1 8) ⟨v, v5⟩ 0)) (by omega) (by omega) ⟨P.1.same rfl, P.2⟩ (fun w hw => by
      rw [hst_at, if_pos rfl, upd_at]
      by_cases q : w.val = v
      · rw [if_pos q, show w = ⟨v, v5⟩ from Fin.ext q]; rfl
      · rw [if_neg q]; exact R w (by omega))
    refine ⟨h', ?_, P', R'⟩
    rw [lp_L_law_107, if_neg (show ¬ (5 : Int32) ≤ nI v from nI_ge (b := 5) v5 (by decide)), e, gb_some, gck_nI v5 (by decide), nI_clamp (by omega), gl_eq, nI_1]
    exact e'
theorem law_179 (xs : Nat → Int32) (Lx : Nat) (R133 : Int32 → Hst → Option (Int32 × Hst)) {k : Nat} (hk : k < 3) {h h3 : Hst} (P : P0 h k) (R : R18 (h.1 8) (h.1 18)) (e8 : h3.1 8 = uS (h.1 8) 7 (nI (k + 1))) (S3 : SVx h3) (o3 : Out h h3) {M : Nat} (M1 : 0 < M) (M2 : M ≤ 19901) (x : Int32) :
    ∃ h', jb_L_law_179 xs Lx R133 (nI k) (nI M) x 100 (7 * nI k) h3 = R133 (nI (k + 1)) h' ∧ P0 h' (k + 1) ∧ R18 (h'.1 8) (h'.1 18) := by
  obtain ⟨-, I, rt, z25, zG, zT, ⟨s11, s12, s13⟩, n17, ns⟩ := P
  obtain ⟨y, hy, ey⟩ := at_v x (n := M) M1 (by omega)
  have k6 : k < 6 := by omega
  have I1 := inv_addGrower I (by omega)
  obtain ⟨h', e', f8, S', o'⟩ := cls_addTank (h := hst h3 24 (7 * k) (nI (100 + y))) (ng := k + 1) (nl := 0) (nt := k) (S3.same rfl) (by show InvC (h3.1 8) _ _ _; rw [e8]; exact I1) k6 (n := 100 + y) (by omega) (by omega)
  have g8 : (hst h3 24 (7 * k) (nI (100 + y))).1 8 = uS (h.1 8) 7 (nI (k + 1)) := e8
  rw [g8] at f8
  have g24 : (hst h3 24 (7 * k) (nI (100 + y))).1 24 = upd (h.1 24) (7 * k) (nI (100 + y)) := by
    show upd (h3.1 24) _ _ = _
    rw [o3 24 (by decide)]
  have gk : ∀ i, 17 ≤ i → i ≠ 24 → h'.1 i = h.1 i := fun i hi hi2 => by
    rw [o' i hi, hst_at, if_neg hi2, o3 i hi]
  have I2 := inv_addTank I1 ⟨k, k6⟩ rfl (p := nI (100 + y)) (x := nI (k + 1)) ⟨100 + y, by omega, rfl⟩ rfl
  have cs : ∀ i : Fin 14, i.val ≠ 7 → i.val ≠ 9 → cS (h'.1 8) i = cS (h.1 8) i := fun i a b => by
    rw [f8, cS_ne _ _ (by show i.val ≠ 9; exact b), cS_uTa, cS_ne _ _ (by show i.val ≠ 7; exact a)]
  refine ⟨h', ?_, ⟨S', by rw [f8]; exact I2, ?_, fun g hg => by rw [gk 25 (by decide) (by decide)]; exact z25 g hg, fun g q => by rw [f8, cGr_uS, cGr_uTa, cGr_uS]; exact zG g q, fun t => ?_, ?_, by rw [gk 17 (by decide) (by decide)]; exact n17, fun i => ?_⟩, ?_⟩
  · unfold jb_L_law_179
    rw [ey, gb_some, ix70, gck_nI (by omega) (by decide), nI_clamp (by omega), show (100 : Int32) + nI y = nI (100 + y) from nI_add 100 y, gl_eq, gck_nI (by omega) (by decide), g24, upd_eq, e', gb_some, if_pos rfl, nI_1]
  · rw [o' 24 (by decide), g24, f8]
    have := (rt.congr (c' := uS (h.1 8) 7 (nI (k + 1))) (fun t _ q => cTa_uS _ _ _ _ _)).upd ⟨k, k6⟩ 0 (nI (100 + y))
    exact this.congr (fun t _ q => cTa_uS _ _ _ _ _)
  · rw [f8, cTa_uS, cTa_uTa, if_neg (fun w => absurd w.2 (by decide)), cTa_uS]
    exact zT t
  · rw [cs 11 (by decide) (by decide), cs 12 (by decide) (by decide), cs 13 (by decide) (by decide)]
    exact ⟨s11, s12, s13⟩
  · have li := i.isLt
    rw [gk 17 (by decide) (by decide), cs _ (by show i.val ≠ 7; omega) (by show i.val ≠ 9; omega)]
    exact ns i
  · rw [gk 18 (by decide) (by decide), f8]
    exact R.congr (fun v => by rw [cVa_uS, cVa_uTa, cVa_uS])
theorem law_133 (xs : Nat → Int32) {Lx : Nat} (hL : Lx ≤ 260) : ∀ (m k n : Nat) (h : Hst), k + m = 3 → m < n → P0 h k → R18 (h.1 8) (h.1 18) → ∃ h', lp_L_law_133 xs Lx n (nI k) h = lp_L_law_220 xs Lx FU (nI 2) h' ∧ J h' 0 0
  | 0, k, n + 1, h, hk, _, P, R => by
    have k3 : k = 3 := by omega
    subst k3
    obtain ⟨S, I, rt, z25, zG, zT, ⟨s11, s12, s13⟩, ⟨n1, n3, n4, n5, n6, n7⟩, ns⟩ := P
    refine ⟨hst (hst h 17 0 3) 17 2 3, ?_, by decide, S.same rfl, I, ⟨⟨?_, fun i => ?_⟩, R, fun l hl => absurd hl (Nat.not_lt_zero _), fun l hl => absurd hl (Nat.not_lt_zero _), fun l hl => absurd hl (Nat.not_lt_zero _), rt, fun g hg => ?_, fun t _ => ?_, fun l hl => absurd hl (Nat.not_lt_zero _), fun g _ => ?_⟩⟩
    · rw [lp_L_law_133, if_pos (show (3 : Int32) ≤ nI 3 by decide), gk_0_15, gl_eq, tn_0, gk_2_15, gl_eq, tn_2]
      rfl
    · show upd (upd (h.1 17) 0 3) 2 3 0 = 3 ∧ upd (upd (h.1 17) 0 3) 2 3 1 = nI 0 ∧ upd (upd (h.1 17) 0 3) 2 3 2 = 3 ∧ upd (upd (h.1 17) 0 3) 2 3 3 = rv (h.1 8) ∧ upd (upd (h.1 17) 0 3) 2 3 4 = cS (h.1 8) 11 ∧ upd (upd (h.1 17) 0 3) 2 3 5 = cS (h.1 8) 12 ∧ upd (upd (h.1 17) 0 3) 2 3 6 = cS (h.1 8) 13 ∧ upd (upd (h.1 17) 0 3) 2 3 7 = sum8 (fun g => cGr (h.1 8) g 2)
      have q7 : sum8 (fun g => cGr (h.1 8) g 2) = 0 := by
        simp only [zG]
        rfl
      have q3 : rv (h.1 8) = -1 := by unfold rv; rw [s11, if_pos rfl]
      rw [q3, q7, s11, s12, s13, upd_eq, upd_ne (by decide), upd_eq, upd_ne (by decide), upd_ne (by decide), upd_ne (by decide), upd_ne (by decide), upd_ne (by decide), upd_ne (by decide), upd_ne (by decide), upd_ne (by decide), upd_ne (by decide), upd_ne (by decide), upd_ne (by decide), upd_ne (by decide)]
      exact ⟨rfl, n1, rfl, n3, n4, n5, n6, n7⟩
    · show upd (upd (h.1 17) 0 3) 2 3 (8 + i.val) = _
      rw [upd_ne (by omega), upd_ne (by omega)]
      exact ns i
    · exact (z25 g hg).trans (zG g 0).symm
    · exact ⟨0, by decide, zT t⟩
    · exact ⟨0, Nat.zero_le _, zG g 0⟩
  | m + 1, k, n + 1, h, hk, hn, P, R => by
    have k3 : k < 3 := by omega
    obtain ⟨h3, e3, f8, S3, o3⟩ := cls_addGrower (ng := k) (nl := 0) (nt := k) P.1 P.2.1 (by omega)
    obtain ⟨x, ex⟩ := cell_v xs hL (k := k) (by omega)
    rw [lp_L_law_133, if_neg (show ¬ (3 : Int32) ≤ nI k from nI_ge (b := 3) k3 (by decide)), e3, gb_some, if_pos rfl, ex, gb_some]
    by_cases z : nI k = 0
    · rw [if_pos z]
      obtain ⟨h1, e1, P1, R1⟩ := law_179 xs Lx (lp_L_law_133 xs Lx n) k3 P R f8 S3 o3 (M := 900) (by decide) (by decide) x
      obtain ⟨h', e', j'⟩ := law_133 xs hL m (k + 1) n h1 (by omega) (by omega) P1 R1
      exact ⟨h', e1.trans e', j'⟩
    · rw [if_neg z]
      obtain ⟨h1, e1, P1, R1⟩ := law_179 xs Lx (lp_L_law_133 xs Lx n) k3 P R f8 S3 o3 (M := 19901) (by decide) (by decide) x
      obtain ⟨h', e', j'⟩ := law_133 xs hL m (k + 1) n h1 (by omega) (by omega) P1 R1
      exact ⟨h', e1.trans e', j'⟩
theorem law_all (xs : Nat → Int32) (Lx : Nat) (hL : Lx ≤ 260) (h : Hst) (P : P0 h 0) : ∃ h', lp_L_law_107 xs Lx FU 0 h = some (1, h') := by
  obtain ⟨h1, e1, P1, R1⟩ := law_107 xs Lx 5 0 FU h rfl (by decide) P (fun w hw => absurd hw (Nat.not_lt_zero _))
  obtain ⟨h2, e2, j2⟩ := law_133 xs hL 3 0 FU h1 rfl (by decide) P1 R1
  obtain ⟨h3, e3⟩ := law_220 xs hL 48 2 FU h2 0 0 rfl (by decide) (by decide) j2
  exact ⟨h3, e1.trans (e2.trans e3)⟩
