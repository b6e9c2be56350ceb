-- a tank with less of one oil
theorem TankI_dec {c : Nat → Int32} {t : Fin 6} (h : TankI c t) (v : Fin 5) : ∃ o : Nat, o ≤ 20000 ∧ cTa c t (ts v) = nI o ∧ ∀ y : Nat, y ≤ o → TankI (uTa c t (ts v) (nI y)) t := by
  obtain ⟨s, o0, o1, o2, o3, o4, h1, h2, e0, e2, e3, e4, e5, e6⟩ := h
  rcases fin5 v with rfl | rfl | rfl | rfl | rfl
  · refine ⟨o0, by omega, e2, fun y hy => ⟨s, y, o1, o2, o3, o4, h1, by omega, ?_⟩⟩
    rw [show ts 0 = 2 from rfl]
    simp only [cTa_uTa]
    exact ⟨e0, rfl, e3, e4, e5, e6⟩
  · refine ⟨o1, by omega, e3, fun y hy => ⟨s, o0, y, o2, o3, o4, h1, by omega, ?_⟩⟩
    rw [show ts 1 = 3 from rfl]
    simp only [cTa_uTa]
    exact ⟨e0, e2, rfl, e4, e5, e6⟩
  · refine ⟨o2, by omega, e4, fun y hy => ⟨s, o0, o1, y, o3, o4, h1, by omega, ?_⟩⟩
    rw [show ts 2 = 4 from rfl]
    simp only [cTa_uTa]
    exact ⟨e0, e2, e3, rfl, e5, e6⟩
  · refine ⟨o3, by omega, e5, fun y hy => ⟨s, o0, o1, o2, y, o4, h1, by omega, ?_⟩⟩
    rw [show ts 3 = 5 from rfl]
    simp only [cTa_uTa]
    exact ⟨e0, e2, e3, e4, rfl, e6⟩
  · refine ⟨o4, by omega, e6, fun y hy => ⟨s, o0, o1, o2, o3, y, h1, by omega, ?_⟩⟩
    rw [show ts 4 = 6 from rfl]
    simp only [cTa_uTa]
    exact ⟨e0, e2, e3, e4, e5, rfl⟩
theorem aft1 (s x : Int32) : aft s 1 x = x - x * s / 1000 := rfl
/-- a day of one oil in one tank, of the model and of the class that stands beside it -/
theorem pass_step {c z : Nat → Int32} {ng nl nt : Nat} (I : InvC c ng nl nt) (R : RelCZ c z nl) (t : Fin 6) (ht : t.val < nt) (v : Fin 5) {x q : Int32} (hx : x = cTa c t (ts v)) (hq : q = x * cS c 3 / 1000) :
    InvC (uVa (uTa c t (ts v) (x - q)) v 3 (cVa c v 3 + q)) ng nl nt ∧ RelCZ (uVa (uTa c t (ts v) (x - q)) v 3 (cVa c v 3 + q)) (wV (wT z t (ts v) (zT z t (ts v) - q)) 3 v (zV z 3 v + q)) nl := by
  obtain ⟨o, ho, eo, T⟩ := TankI_dec (I.2.2.2.2.2.2.2.2.2 t) v
  obtain ⟨-, -, ⟨-, -, -, ⟨sd, hsd, esd⟩, -⟩, -⟩ := id I
  have e1 : q = nI (o * sd / 1000) := by
    rw [hq, hx, eo, esd, pk_mul]
    exact pk_div (d := 1000) (Nat.lt_of_le_of_lt (Nat.mul_le_mul ho hsd) (by decide)) (by decide) (by decide)
  have le : o * sd / 1000 ≤ o := by
    have : o * sd ≤ o * 1000 := Nat.mul_le_mul_left o (by omega)
    omega
  have e2 : x - q = nI (o - o * sd / 1000) := by rw [hx, eo, e1, pk_sub le]
  refine ⟨inv_V (inv_T I t (ts v) ht _ (by rw [e2]; exact T _ (by omega))) v 3 _ (fun w => absurd w (by decide)), ?_⟩
  have r1 : zT z t (ts v) = x := by rw [hx]; exact R.2.2.2.2.2.1 t (ts v)
  have r2 : zV z 3 v = cVa c v 3 := R.2.2.2.1 3 v
  rw [r1, r2]
  exact rel_V (rel_T R t (ts v) (x - q)) 3 v (cVa c v 3 + q)
def dn (nt a j : Nat) : Nat := (a + (nt * 5 - 1 - j)) / (nt * 5)
theorem dn_step {nt a : Nat} (h1 : 1 ≤ nt) (h6 : nt ≤ 6) {t v : Nat} (ht : t < nt) (hv : v < 5) : dn nt (a + 1) (t * 5 + v) = if t = a / 5 % nt ∧ v = a % 5 then dn nt a (t * 5 + v) + 1 else dn nt a (t * 5 + v) := by
  unfold dn
  rcases (by omega : nt = 1 ∨ nt = 2 ∨ nt = 3 ∨ nt = 4 ∨ nt = 5 ∨ nt = 6) with rfl | rfl | rfl | rfl | rfl | rfl
  all_goals
    split
    · omega
    · omega
theorem dn_end {nt D : Nat} (h1 : 1 ≤ nt) (h6 : nt ≤ 6) {t v : Nat} (ht : t < nt) (hv : v < 5) : dn nt (D * nt * 5) (t * 5 + v) = D := by
  unfold dn
  rcases (by omega : nt = 1 ∨ nt = 2 ∨ nt = 3 ∨ nt = 4 ∨ nt = 5 ∨ nt = 6) with rfl | rfl | rfl | rfl | rfl | rfl
  all_goals omega
theorem dn_0 {nt : Nat} (h6 : nt ≤ 6) {t v : Nat} (ht : t < nt) (hv : v < 5) : dn nt 0 (t * 5 + v) = 0 := by
  unfold dn
  rcases (by omega : nt = 1 ∨ nt = 2 ∨ nt = 3 ∨ nt = 4 ∨ nt = 5 ∨ nt = 6) with rfl | rfl | rfl | rfl | rfl | rfl
  all_goals omega
theorem pass_36 {s : Int32} {c0 : Nat → Int32} (hs : cS c0 3 = s) {D ng nl nt : Nat} (hD : D ≤ 100) (h6 : nt ≤ 6) : ∀ (m a n : Nat) (acc : Int32) (c : Nat → Int32) (h : Hst), a + m = D * nt * 5 → m < n → InvC c ng nl nt → RelCZ c (h.1 18) nl → PassI s c0 c (fun t v => if t.val < nt then dn nt a (t.val * 5 + v.val) else 0) acc →
    ∃ c' z' acc' h', lp_X7_pass_36 n (nI D) acc (nI a) h = some (acc', h') ∧ h'.2 = h.2 ∧ (∀ k, k ≠ 18 → h'.1 k = h.1 k) ∧ h'.1 18 = wS z' 13 (zS z' 13 + nI D) ∧ InvC c' ng nl nt ∧ RelCZ c' z' nl ∧ PassI s c0 c' (fun t v => if t.val < nt then dn nt (D * nt * 5) (t.val * 5 + v.val) else 0) acc'
  | m, a, n + 1, acc, c, h, hi, hn, I, R, P => by
    have hb : D * nt * 5 ≤ 3000 := by
      have : D * nt ≤ 100 * 6 := Nat.mul_le_mul hD h6
      omega
    have z9 : h.1 18 9 = nI nt := (R.1 9 (by decide)).trans I.2.1.2.2
    have e9 : nI D * nI nt * 5 = nI (D * nt * 5) := by
      show nI D * nI nt * nI 5 = _
      rw [pk_mul, pk_mul]
    cases m with
    | zero =>
      refine ⟨c, h.1 18, acc, hst h 18 13 (h.1 18 13 + nI D), ?_, rfl, fun k hk => ?_, rfl, I, R, P.f_eq (fun t v => by rw [show a = D * nt * 5 by omega])⟩
      · rw [lp_X7_pass_36, gk_9_514, tn_9, z9, e9, if_pos (nI_le (by omega) (by omega)), gk_13_514, gk_13_514, gl_eq, tn_13]
      · rw [hst_at, if_neg hk]
    | succ m =>
      have n1 : 1 ≤ nt := by
        rcases Nat.eq_zero_or_pos nt with q | q
        · rw [q, Nat.mul_zero] at hi; omega
        · exact q
      have lt : a / 5 % nt < nt := Nat.mod_lt _ n1
      have lv : a % 5 < 5 := Nat.mod_lt _ (by decide)
      have tz : h.1 18 (472 + 7 * (a / 5 % nt) + 2 + a % 5) = cTa c ⟨a / 5 % nt, by omega⟩ (ts ⟨a % 5, lv⟩) := by
        rw [← R.2.2.2.2.2.1]
        show _ = h.1 18 (472 + 7 * (a / 5 % nt) + (2 + a % 5))
        rw [Nat.add_assoc (472 + 7 * (a / 5 % nt))]
      have sz : h.1 18 3 = cS c 3 := R.1 3 (by decide)
      have s3 : cS c 3 = s := (P.2.2.1 3).trans hs
      obtain ⟨I', R'⟩ := pass_step I R ⟨a / 5 % nt, by omega⟩ lt ⟨a % 5, lv⟩ rfl rfl
      have P' := P.step ⟨a / 5 % nt, by omega⟩ ⟨a % 5, lv⟩ 1 rfl rfl
      rw [aft1, i_ssub, ← s3] at P'
      obtain ⟨c', z', acc', h', e, r1, r2, r3, r4, r5, r6⟩ := pass_36 hs hD h6 m (a + 1) n _ _ (hso h 18 (wV (wT (h.1 18) ⟨a / 5 % nt, by omega⟩ (ts ⟨a % 5, lv⟩) (zT (h.1 18) ⟨a / 5 % nt, by omega⟩ (ts ⟨a % 5, lv⟩) - cTa c ⟨a / 5 % nt, by omega⟩ (ts ⟨a % 5, lv⟩) * cS c 3 / 1000)) 3 ⟨a % 5, lv⟩ (zV (h.1 18) 3 ⟨a % 5, lv⟩ + cTa c ⟨a / 5 % nt, by omega⟩ (ts ⟨a % 5, lv⟩) * cS c 3 / 1000))) (by omega) (by omega) I' R' (by
        rw [s3]
        rw [s3] at P'
        refine P'.f_eq (fun t v => ?_)
        dsimp only
        by_cases w : t.val < nt
        · rw [if_pos w, if_pos lt, if_pos w, dn_step n1 h6 w v.isLt]
          by_cases q : t = ⟨a / 5 % nt, by omega⟩ ∧ v = ⟨a % 5, lv⟩
          · obtain ⟨q1, q2⟩ := q
            have q1' : t.val = a / 5 % nt := congrArg Fin.val q1
            have q2' : v.val = a % 5 := congrArg Fin.val q2
            rw [if_pos ⟨q1, q2⟩, if_pos ⟨q1', q2'⟩, q1', q2']
          · rw [if_neg q, if_neg (fun z => q ⟨Fin.ext z.1, Fin.ext z.2⟩)]
        · rw [if_neg w, if_neg (fun z => w (by rw [z.1]; exact lt)), if_neg w])
      refine ⟨c', z', acc', h', ?_, r1, fun k hk => ?_, r3, r4, r5, r6⟩
      · have i1 : nI a / 5 = nI (a / 5) := pk_div (d := 5) (by omega) (by decide) (by decide)
        have i2 : nI a - nI (a / 5) * 5 = nI (a % 5) := by
          have := pk_rem (a := a) (d := 5) (by omega) (by decide) (by decide)
          rw [← i1]; exact this
        have i3 : nI (a / 5) - nI (a / 5) / nI nt * nI nt = nI (a / 5 % nt) := pk_rem (by omega) (by omega) (by omega)
        have i4 : (472 : Int32) + 7 * nI (a / 5 % nt) + 2 + nI (a % 5) = nI (472 + 7 * (a / 5 % nt) + 2 + a % 5) := by
          show nI 472 + nI 7 * nI (a / 5 % nt) + nI 2 + nI (a % 5) = _
          rw [pk_mul, nI_add, nI_add, nI_add]
        rw [lp_X7_pass_36, gk_9_514, tn_9, z9, e9, if_neg (nI_ge (show a < D * nt * 5 by omega) (by omega)), gd_5, i1, i2, gl_eq, gd_5, gk_9_514, gdz_ne (nI_ne0 (by omega) (by omega)), i3, i4, gl_eq, gck_nI (by omega) (by decide), gk_3_514, gd_1000, tn_3, nI_clamp (by omega), tz, sz, gl_eq, gck_nI (by omega) (by decide), gck_nI (by omega) (by decide), gl_eq, show (30 : Int32) + nI (a % 5) = nI (30 + a % 5) from nI_add 30 _, gl_eq, gck_nI (by omega) (by decide), gck_nI (by omega) (by decide), nI_clamp (by omega), gl_eq, gl_eq, nI_1]
        rw [← s3] at e
        refine Eq.trans (congrArg (fun H => lp_X7_pass_36 n (nI D) _ (nI (a + 1)) H) ?_) e
        unfold hst
        rw [hso_hso]
        congr 1
        unfold wV wT zV zT ts
        simp only [hso_at, if_true, upd_at]
        have tz' := tz
        rw [Nat.add_assoc (472 + 7 * (a / 5 % nt))] at tz'
        rw [if_neg (by omega), Nat.add_assoc (472 + 7 * (a / 5 % nt)), tz']
        rfl
      · rw [r2 k hk, hso_at, if_neg hk]
theorem PassI.start (s : Int32) (c0 : Nat → Int32) : PassI s c0 c0 (fun _ _ => 0) 0 :=
  ⟨fun _ _ => rfl, fun _ _ => rfl, fun _ => rfl, fun _ _ _ => rfl, fun _ => ⟨rfl, rfl⟩, fun _ _ => rfl, fun _ => rfl, Int32.zero_add _⟩
theorem cTa_all {c c' : Nat → Int32} {t : Fin 6} (h0 : cTa c t 0 = cTa c' t 0) (h1 : cTa c t 1 = cTa c' t 1) (hv : ∀ v, cTa c t (ts v) = cTa c' t (ts v)) (k : Fin 7) : cTa c t k = cTa c' t k := by
  rcases fin7 k with rfl | rfl | rfl | rfl | rfl | rfl | rfl
  · exact h0
  · exact h1
  · exact hv 0
  · exact hv 1
  · exact hv 2
  · exact hv 3
  · exact hv 4
theorem i_canc {a b S : Int32} (h : a + S = b + S) : a = b := by
  have := congrArg (fun x => x + -S) h
  simpa only [Int32.add_assoc, Int32.add_right_neg, Int32.add_zero] using this
theorem op_pass {h : Hst} (S : Sim h) (p : Int32) : Agree (f_L_pass p h) (f_X7_pass p) := by
  obtain ⟨-, ⟨ng, nl, nt, I, R⟩, -⟩ := id S
  obtain ⟨⟨hg, hl, ht⟩, ⟨i7, i8, i9⟩, -⟩ := id I
  have B := bounds p 1 100 (by decide) (by decide)
  rw [show nI 1 = (1 : Int32) from rfl, show nI 100 = (100 : Int32) from rfl] at B
  rcases B with ⟨D, D1, hD, rfl, o, w⟩ | ⟨o, w⟩
  · obtain ⟨hc, e, ee2, ef, K⟩ := undo_std S
    have e8 := ef 8 (by decide) (by decide)
    have e18 := ef 18 (by decide) (by decide)
    have P0 : PassI (cS (h.1 8) 3) (uS (h.1 8) 13 (cS (h.1 8) 13 + nI D)) ((hso hc 8 (uS (hc.1 8) 13 (cS (hc.1 8) 13 + nI D))).1 8) (fun t' v' => if t'.val * 5 + v'.val < 0 * 5 then D else 0) 0 := by
      rw [hso_at, if_pos rfl, e8]
      exact (PassI.start _ _).f_eq (fun t v => by rw [if_neg (by omega)])
    obtain ⟨acc1, h1, c1, c2, c3, c4⟩ := pass_57 (nt := nt) (D := D) (by rw [cS_uS, if_neg (by decide)]) (by omega) ht nt 0 FU 0 _ (by omega) (Nat.lt_of_le_of_lt ht (by decide)) P0
    have ec : f_L_pass (nI D) h = some (0, hsj h1 25 0 acc1.toInt64) := by
      unfold f_L_pass f_X6_pass
      rw [o, gb_some, if_pos rfl, e, gbv_some, rowa7_6, gbv_some, row7_2, gb_some, hso_at, if_pos rfl, cS_uS, if_neg (by decide), e8, i9]
      rw [e8, show nI 0 = (0 : Int32) from rfl] at c1
      rw [c1, gbx_inl, gk_0_1, gl_eq, tn_0]
    obtain ⟨hm, em, m2, mf, mj, K2⟩ := K (hst (hsj h1 25 0 acc1.toInt64) 17 5 0) ⟨c3 0 (by decide), c3 1 (by decide), c3 9 (by decide), c3 16 (by decide), c3 19 (by decide), c3 20 (by decide), congrFun (c3 17 (by decide)) 1, congrFun (c3 17 (by decide)) 3⟩ (c3 18 (by decide))
    have m18 : hm.1 18 = h.1 18 := by
      rw [mf 18 (by decide) (by decide)]
      show h1.1 18 = _
      rw [c3 18 (by decide)]
      exact e18
    have m8 : hm.1 8 = h1.1 8 := mf 8 (by decide) (by decide)
    obtain ⟨c', z', acc2, h2, q1, q2, q3, q4, q5, q6, q7⟩ := pass_36 (s := cS (h.1 8) 3) (c0 := h.1 8) rfl hD ht (D * nt * 5) 0 FU 0 (h.1 8) hm (by omega) (by
        have : D * nt ≤ 100 * 6 := Nat.mul_le_mul hD ht
        show D * nt * 5 < 4096
        omega) I (by rw [m18]; exact R) ((PassI.start _ _).f_eq (fun t v => by
          split
          · next q => rw [dn_0 ht q v.isLt]
          · rfl))
    have fin : ∀ t : Fin 6, ∀ v : Fin 5, (if t.val * 5 + v.val < nt * 5 then D else 0) = if t.val < nt then dn nt (D * nt * 5) (t.val * 5 + v.val) else 0 := fun t v => by
      have := v.isLt
      by_cases q : t.val < nt
      · rw [if_pos q, if_pos (by omega), dn_end (by omega) ht q v.isLt]
      · rw [if_neg q, if_neg (by omega)]
    have c4' := c4.f_eq fin
    obtain ⟨a1, a2, a3, a4, a5, a6, a7, a8⟩ := c4'
    obtain ⟨b1, b2, b3, b4, b5, b6, b7, b8⟩ := q7
    have cells : ∀ t v, cTa (h1.1 8) t (ts v) = cTa c' t (ts v) := fun t v => by rw [a6, b6, cTa_uS]
    have s6 : ∀ v, sum6 (fun t => cTa (h1.1 8) t (ts v)) = sum6 (fun t => cTa c' t (ts v)) := fun v => by
      congr 1; funext t; exact cells t v
    have acce : acc1 = acc2 := by
      have s5 : sum5 (fun v => sum6 (fun t => cTa (h1.1 8) t (ts v))) = sum5 (fun v => sum6 (fun t => cTa c' t (ts v))) := by
        congr 1; funext v; exact s6 v
      rw [s5] at a8
      simp only [cTa_uS] at a8
      exact i_canc (a8.trans b8.symm)
    refine agree_ok ec (h2 := h2) ?_ ?_ ?_ ?_
    · unfold f_X7_pass jb_X7_pass_16
      rw [w, gb_some, if_neg (by decide), gl_eq]
      show (if (0 : Int32) ≤ 0 then _ else _) = _
      rw [if_pos (by decide), em, gbv_some, acce]
      exact q1
    · rw [q3 17 (by decide)]; exact mj 5 (by decide)
    · rw [q2, m2]; rfl
    · refine K2 h2 ⟨by rw [q3 0 (by decide)], by rw [q3 1 (by decide)], by rw [q3 9 (by decide)], by rw [q3 16 (by decide)], by rw [q3 19 (by decide)], by rw [q3 20 (by decide)], by rw [q3 17 (by decide)], by rw [q3 17 (by decide)]⟩ ?_
      rw [q3 8 (by decide), m8, q4]
      have z13 : zS z' 13 = cS c' 13 := q6.1 13 (by decide)
      have T : SimCZ (uS c' 13 (zS z' 13 + nI D)) (wS z' 13 (zS z' 13 + nI D)) := ⟨ng, nl, nt, inv_S q5 13 (Or.inr rfl) _, rel_S q6 13 (by decide) (by decide) _⟩
      refine T.acc (fun i k => ?_) (fun i k => ?_) (fun i k => ?_) (fun i k => ?_) (fun i => ?_)
      · rw [a1, cGr_uS, cGr_uS, b1]
      · rw [a2, cLo_uS, cLo_uS, b2]
      · rw [cTa_uS]
        exact cTa_all ((a5 i).1.trans (by rw [cTa_uS, (b5 i).1])) ((a5 i).2.trans (by rw [cTa_uS, (b5 i).2])) (cells i) k
      · rw [cVa_uS]
        by_cases k3 : k = 3
        · subst k3
          have x1 := a7 i
          have x2 := b7 i
          rw [s6] at x1
          simp only [cTa_uS, cVa_uS] at x1
          exact i_canc (x1.trans x2.symm)
        · rw [a4 i k k3, cVa_uS, b4 i k k3]
      · rw [a3, cS_uS, cS_uS, z13, b3, b3]
  · refine agree_no (k := 1) (h1 := h) (h2 := hst h 17 5 1) ?_ (by decide) ?_ rfl (S.keep ⟨rfl, rfl, rfl, rfl, rfl, rfl, rfl, rfl⟩ rfl rfl)
    · unfold f_L_pass f_X6_pass
      rw [o, gb_some, if_neg (by decide), gbx_inr]
      rfl
    · unfold f_X7_pass jb_X7_pass_16
      rw [w, gb_some, if_pos rfl, gl_eq]
      show (if (1 : Int32) ≤ 0 then _ else _) = _
      rw [if_neg (by decide)]
