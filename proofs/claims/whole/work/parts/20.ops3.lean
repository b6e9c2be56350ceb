theorem hso_self (h : Hst) (o : Nat) : hso h o (h.1 o) = h := by
  unfold hso
  have e : (fun k => if k = o then h.1 o else h.1 k) = h.1 := by
    funext k
    by_cases q : k = o
    · subst q; rw [if_pos rfl]
    · rw [if_neg q]
  rw [e]
def Agree2 {α : Type} (r : Option (α × Hst)) (m : Hst → Option (α × Hst)) : Prop := ∃ v h1 h2, r = some (v, h1) ∧ m h1 = some (v, h2) ∧ Sim h2
-- clean
def clC (c : Nat → Int32) (v : Fin 5) (r : Int32) : Nat → Int32 := uS (uVa c v 4 (cVa c v 4 + r)) 12 (cS c 12 + 1)
def clZ (z : Nat → Int32) (v : Fin 5) (r : Int32) : Nat → Int32 := wS (wV z 4 v (zV z 4 v + r)) 12 (zS z 12 + 1)
theorem lose_0 (p : Int32) (h : Hst) : f_X6_loseByCleaning p 0 h = some h := by
  unfold f_X6_loseByCleaning jb_X6_loseByCleaning_29
  rw [if_pos (by decide)]
theorem lose_S (v : Fin 5) {r : Nat} (r0 : r ≠ 0) (r1 : r < 2 ^ 30) (h : Hst) : f_X6_loseByCleaning (nI v.val) (nI r) h = some (hso h 8 (clC (h.1 8) v (nI r))) := by
  unfold f_X6_loseByCleaning jb_X6_loseByCleaning_29
  rw [if_neg (nI_nle (by omega) (by omega)), add5_4, gbv_some, rowa7_5, gbv_some, hso_hso, hso_at, if_pos rfl, cS_uVa]
  rfl
theorem cnow_0 (h : Hst) : f_X7_cleanNow 0 h = some h := by
  unfold f_X7_cleanNow jb_X7_cleanNow_34
  rw [if_pos (by decide)]
theorem cnow_S (v : Fin 5) {r : Nat} (r0 : r ≠ 0) (r1 : r < 2 ^ 30) (h : Hst) (e : h.1 18 10 = nI v.val) : f_X7_cleanNow (nI r) h = some (hso h 18 (clZ (h.1 18) v (nI r))) := by
  have hv := v.isLt
  unfold f_X7_cleanNow jb_X7_cleanNow_34
  rw [if_neg (nI_nle (by omega) (by omega)), gk_10_514, tn_10, e, gl_eq, show (35 : Int32) + nI v.val = nI (35 + v.val) from nI_add 35 v.val, gck_nI (by omega) (by decide), gck_nI (by omega) (by decide), nI_clamp (by omega), gl_eq, gk_12_514, gk_12_514, gl_eq, tn_12]
  unfold hst
  rw [hso_hso]
  congr 2
  simp only [hso_at, if_true, clZ, wS, wV, zV, zS, upd_at]
  rw [if_neg (show ¬ 12 = 35 + v.val by omega)]
  rfl
theorem sim_lose {c z : Nat → Int32} {ng nl nt : Nat} (I : InvC c ng nl nt) (R : RelCZ c z nl) (v : Fin 5) (x : Int32) : InvC (clC c v x) ng nl nt ∧ RelCZ (clC c v x) (clZ z v x) nl := by
  constructor
  · exact inv_S (inv_V I v 4 _ (fun q => absurd q (by decide))) 12 (Or.inl rfl) _
  · have e1 : zV z 4 v = cVa c v 4 := R.2.2.2.1 4 v
    have e2 : zS z 12 = cS c 12 := R.1 12 (by decide)
    unfold clC clZ
    rw [e1, e2]
    have := rel_S (rel_V R 4 v (cVa c v 4 + x)) 12 (by decide) (by decide) (cS c 12 + 1)
    exact this
theorem op_clean {h : Hst} (S : Sim h) : Agree2 (f_X6_clean h) f_X7_clean := by
  obtain ⟨-, ⟨ng, nl, nt, I, R⟩, -⟩ := id S
  obtain ⟨-, -, -, ⟨⟨v, d1⟩, r, d2, d3⟩, -⟩ := id I
  obtain ⟨hc, e, e2, ef, K⟩ := undo_std S
  have e8 := ef 8 (by decide) (by decide)
  have e18 := ef 18 (by decide) (by decide)
  have z11 : h.1 18 11 = nI r := (R.1 11 (by decide)).trans d3
  by_cases r0 : r = 0
  · subst r0
    have ec : f_X6_clean h = some (0, hso hc 8 (uS (hc.1 8) 11 0)) := by
      unfold f_X6_clean
      rw [e, gbv_some, row7_4, gb_some, row7_3, gb_some, e8, d3, show nI 0 = (0 : Int32) from rfl, lose_0, gbv_some, rowp7_4, gbv_some, e8]
    obtain ⟨hm, em, m2, mf, mj, K2⟩ := K (hst (hso hc 8 (uS (hc.1 8) 11 0)) 17 5 0) ⟨rfl, rfl, rfl, rfl, rfl, rfl, rfl, rfl⟩ rfl
    have m18 : hm.1 18 = h.1 18 := (mf 18 (by decide) (by decide)).trans e18
    have m8 : hm.1 8 = uS (h.1 8) 11 0 := by
      rw [mf 8 (by decide) (by decide)]
      show uS (hc.1 8) _ _ = _
      rw [e8]
    refine ⟨0, _, hst (hst hm 18 10 (-1)) 18 11 0, ec, ?_, K2 _ ⟨rfl, rfl, rfl, rfl, rfl, rfl, rfl, rfl⟩ ?_⟩
    · unfold f_X7_clean
      rw [gl_eq, em, gbv_some, gk_11_514, tn_11, m18, z11, gl_eq, show nI 0 = (0 : Int32) from rfl, cnow_0, gbv_some, gk_10_514, gl_eq, gk_11_514, gl_eq, tn_10]
    · show SimCZ (hm.1 8) (wS (wS (hm.1 18) 10 (-1)) 11 0)
      rw [m8, m18]
      have e10 : uS (h.1 8) 11 0 = uS (uS (h.1 8) 10 (nI v.val)) 11 0 := by
        have : uS (h.1 8) 10 (nI v.val) = h.1 8 := by
          rw [← d1]; funext i; unfold uS cS; rw [upd_at]
          split
          · next q => rw [q]
          · rfl
        rw [this]
      rw [e10]
      exact ⟨ng, nl, nt, inv_R I v 0 ⟨0, by decide, rfl⟩, rel_R R (nI v.val) 0 (-1) rfl⟩
  · have ec : f_X6_clean h = some (nI r, hso hc 8 (uS (clC (hc.1 8) v (nI r)) 11 0)) := by
      unfold f_X6_clean
      rw [e, gbv_some, row7_4, gb_some, row7_3, gb_some, e8, d3, d1, lose_S v r0 (by omega), gbv_some, rowp7_4, gbv_some, hso_hso, hso_at, if_pos rfl, e8]
    obtain ⟨hm, em, m2, mf, mj, K2⟩ := K (hst (hso hc 8 (uS (clC (hc.1 8) v (nI r)) 11 0)) 17 5 0) ⟨rfl, rfl, rfl, rfl, rfl, rfl, rfl, rfl⟩ rfl
    have m18 : hm.1 18 = h.1 18 := (mf 18 (by decide) (by decide)).trans e18
    have m8 : hm.1 8 = uS (clC (h.1 8) v (nI r)) 11 0 := by
      rw [mf 8 (by decide) (by decide)]
      show uS (clC (hc.1 8) v (nI r)) _ _ = _
      rw [e8]
    have z10 : h.1 18 10 = nI v.val := by
      have := R.2.1
      rw [d3, d1, if_neg (nI_ne0 (by omega) (by omega))] at this
      exact this
    refine ⟨nI r, _, hst (hst (hso hm 18 (clZ (hm.1 18) v (nI r))) 18 10 (-1)) 18 11 0, ec, ?_, K2 _ ⟨rfl, rfl, rfl, rfl, rfl, rfl, rfl, rfl⟩ ?_⟩
    · unfold f_X7_clean
      rw [gl_eq, em, gbv_some, gk_11_514, tn_11, m18, z11, gl_eq, cnow_S v r0 (by omega) hm (by rw [m18]; exact z10), gbv_some, gk_10_514, gl_eq, gk_11_514, gl_eq, tn_10, m18]
    · show SimCZ (hm.1 8) (wS (wS (clZ (hm.1 18) v (nI r)) 10 (-1)) 11 0)
      rw [m8, m18]
      obtain ⟨I2, R2⟩ := sim_lose I R v (nI r)
      have d1' : cS (clC (h.1 8) v (nI r)) 10 = nI v.val := by
        unfold clC; rw [cS_uS, if_neg (by decide), cS_uVa]; exact d1
      have e10 : uS (clC (h.1 8) v (nI r)) 11 0 = uS (uS (clC (h.1 8) v (nI r)) 10 (nI v.val)) 11 0 := by
        have : uS (clC (h.1 8) v (nI r)) 10 (nI v.val) = clC (h.1 8) v (nI r) := by
          generalize clC (h.1 8) v (nI r) = C at d1' ⊢
          rw [← d1']; funext i; unfold uS cS; rw [upd_at]
          split
          · next q => rw [q]
          · rfl
        rw [this]
      rw [e10]
      exact ⟨ng, nl, nt, inv_R I2 v 0 ⟨0, by decide, rfl⟩, rel_R R2 (nI v.val) 0 (-1) rfl⟩
-- the buffer
theorem op_clearBuffer {h : Hst} (S : Sim h) : Agree2 (f_X6_clearBuffer h) f_X7_clearBuffer := by
  obtain ⟨⟨o, ns, s1, s2, s3, s4, s5, s6⟩, C, len, b1, b2, b3, b4⟩ := S
  refine ⟨nI len, hst h 0 5 0, hst (hst (hst h 0 5 0) 17 5 0) 17 3 0, ?_, ?_, ⟨o, ns, s1, s2, s3, s4, s5, s6⟩, C, 0, by decide, rfl, rfl, fun i hi => absurd hi (by omega)⟩
  · unfold f_X6_clearBuffer
    rw [gl_eq, gl_eq, b2]
  · unfold f_X7_clearBuffer
    rw [gl_eq, gl_eq, gl_eq]
    congr 2
theorem op_append {h : Hst} (S : Sim h) (p : Int32) : Agree (f_L_append p h) (f_X7_append p) := by
  have B := bounds p 33 126 (by decide) (by decide)
  rw [show nI 33 = (33 : Int32) from rfl, show nI 126 = (126 : Int32) from rfl] at B
  obtain ⟨⟨o, ns, s1, s2, s3, s4, s5, s6⟩, C, len, b1, b2, b3, b4⟩ := id S
  rcases B with ⟨n, n1, n2, rfl, oc, w⟩ | ⟨oc, w⟩
  · by_cases hl : len < 60
    · have ec : f_L_append (nI n) h = some (0, hsj (hst (hst h 16 len (nI n)) 0 5 (nI (len + 1))) 25 0 (nI (len + 1)).toInt64) := by
        unfold f_L_append f_X6_append
        rw [oc, gb_some, if_pos rfl, b2, if_neg (nI_pos (by omega)), if_pos (show nI len < 60 from nI_lt (b := 60) hl (by decide)), gck_nI hl (by decide), nI_clamp (by omega), gl_eq, gl_eq, gbx_inl, gk_0_1, gl_eq, tn_0]
        have e : (hst h 16 len (nI n)).1 0 5 + 1 = nI (len + 1) := by
          show h.1 0 5 + 1 = _
          rw [b2, nI_1]
        rw [e]
        rfl
      refine agree_ok ec (h2 := hst (hst (hst (hsj (hst (hst h 16 len (nI n)) 0 5 (nI (len + 1))) 25 0 (nI (len + 1)).toInt64) 17 5 0) 20 len (nI n)) 17 3 (nI (len + 1))) ?_ rfl rfl ?_
      · unfold f_X7_append jb_X7_append_30
        have e3 : (hsj (hst (hst h 16 len (nI n)) 0 5 (nI (len + 1))) 25 0 (nI (len + 1)).toInt64).1 17 3 = nI len := b3
        rw [w, gb_some, if_neg (by decide), e3, if_neg (show ¬ nI len = 60 from fun q => absurd (nI_inj (by omega) (by decide) (show nI len = nI 60 from q)) (by omega)), gl_eq]
        have e4 : (hst (hsj (hst (hst h 16 len (nI n)) 0 5 (nI (len + 1))) 25 0 (nI (len + 1)).toInt64) 17 5 0).1 17 3 = nI len := b3
        show (if (0 : Int32) ≤ 0 then _ else _) = _
        rw [if_pos (by decide), e4, gck_nI hl (by decide), nI_clamp (by omega), gl_eq]
        have e5 : (hst (hst (hsj (hst (hst h 16 len (nI n)) 0 5 (nI (len + 1))) 25 0 (nI (len + 1)).toInt64) 17 5 0) 20 len (nI n)).1 17 3 + 1 = nI (len + 1) := by
          show h.1 17 3 + 1 = _
          rw [b3, nI_1]
        rw [e5, gl_eq]
        rfl
      · refine ⟨⟨o, ns, s1, s2, s3, s4, s5, s6⟩, C, len + 1, by omega, rfl, rfl, fun i hi => ?_⟩
        show upd (h.1 16) len (nI n) i = upd (h.1 20) len (nI n) i ∧ ∃ q : Nat, 33 ≤ q ∧ q ≤ 126 ∧ upd (h.1 16) len (nI n) i = nI q
        rw [upd_at, upd_at]
        by_cases q : i = len
        · rw [if_pos q, if_pos q]; exact ⟨rfl, n, n1, n2, rfl⟩
        · rw [if_neg q, if_neg q]; exact b4 i (by omega)
    · have e6 : len = 60 := by omega
      subst e6
      refine agree_no (k := 2) (h1 := h) (h2 := hst h 17 5 2) ?_ (by decide) ?_ rfl (S.keep ⟨rfl, rfl, rfl, rfl, rfl, rfl, rfl, rfl⟩ rfl rfl)
      · unfold f_L_append f_X6_append
        rw [oc, gb_some, if_pos rfl, b2, if_neg (nI_pos (by decide)), if_neg (show ¬ nI 60 < 60 by decide)]
        unfold jb_X6_append_40
        rw [gbx_inr]
        rfl
      · unfold f_X7_append jb_X7_append_30
        rw [w, gb_some, if_neg (by decide), b3, if_pos (show nI 60 = 60 from rfl), gl_eq]
        show (if (2 : Int32) ≤ 0 then _ else _) = _
        rw [if_neg (by decide)]
  · refine agree_no (k := 1) (h1 := h) (h2 := hst h 17 5 1) ?_ (by decide) ?_ rfl (S.keep ⟨rfl, rfl, rfl, rfl, rfl, rfl, rfl, rfl⟩ rfl rfl)
    · unfold f_L_append f_X6_append
      rw [oc, gb_some, if_neg (by decide), gbx_inr]
      rfl
    · unfold f_X7_append jb_X7_append_30
      rw [w, gb_some, if_pos rfl, gl_eq]
      show (if (1 : Int32) ≤ 0 then _ else _) = _
      rw [if_neg (by decide)]
-- undo
theorem undoM_37 {s : Nat} (hs : s ≤ 5) : ∀ (m a n : Nat) (h : Hst), a + m = 514 → m < n → h.1 17 1 = nI s → ∃ h', lp_X7_undo_37 n (nI a) h = some (nI s, h') ∧ h'.2 = h.2 ∧ (∀ k, k ≠ 18 → h'.1 k = h.1 k) ∧ (∀ j, j < a → h'.1 18 j = h.1 18 j) ∧ (∀ i, a ≤ i → i < 514 → h'.1 18 i = h.1 19 (514 * s + i))
  | 0, a, n + 1, h, ha, _, h1 => by
    have : a = 514 := by omega
    subst this
    refine ⟨h, ?_, rfl, fun k k1 => rfl, fun j hj => rfl, fun i h1 h2 => by omega⟩
    rw [lp_X7_undo_37, if_pos (show (514 : Int32) ≤ nI 514 from nI_le (a := 514) (b := 514) (Nat.le_refl _) (by decide)), h1]
  | m + 1, a, n + 1, h, ha, hn, h1 => by
    have e : (514 : Int32) * h.1 17 1 + nI a = nI (514 * s + a) := by
      rw [h1]; show nI 514 * nI s + nI a = _; rw [pk_mul, nI_add]
    obtain ⟨h', e', r1, r2, r3, r4⟩ := undoM_37 hs m (a + 1) n (hst h 18 a (h.1 19 (514 * s + a))) (by omega) (by omega) (by simp [hst_at, h1])
    refine ⟨h', ?_, r1, fun k k1 => ?_, fun j hj => ?_, fun i i1 i2 => ?_⟩
    · rw [lp_X7_undo_37, if_neg (show ¬ (514 : Int32) ≤ nI a from nI_ge (b := 514) (by omega) (by decide)), e, gck_nI (by omega) (by decide), gck_nI (by omega) (by decide), gl_eq, nI_clamp (by omega), nI_clamp (by omega), nI_1]
      exact e'
    · rw [r2 k k1]; simp only [hst_at, k1, if_false]
    · rw [r3 j (by omega)]; simp only [hst_at, if_true, upd_at]; rw [if_neg (by omega)]
    · by_cases h9 : i = a
      · subst h9
        rw [r3 _ (by omega)]; simp only [hst_at, if_true, upd_at]
      · rw [r4 i (by omega) i2]; simp [hst_at]
theorem restore_C {h : Hst} {o ns : Nat} (ho : o < 6) (hn : ns ≤ 5) (h8 : h.1 1 8 = nI o) (h9 : h.1 1 9 = nI (ns + 1)) : ∃ h', f_X0_restore h = some h' ∧ h'.2 = h.2 ∧ (∀ k, k ≠ 1 → k ≠ 8 → h'.1 k = h.1 k) ∧ h'.1 1 8 = nI o ∧ h'.1 1 9 = nI ns ∧ ∀ i, i < 553 → h'.1 8 i = h.1 9 ((o + ns) % 6 * 553 + i) := by
  have hp : (o + ns) % 6 < 6 := Nat.mod_lt _ (by decide)
  have e1 : h.1 1 9 - 1 = nI ns := by rw [h9, nI_pred]
  have hq : (hst h 1 9 (nI ns)).1 1 8 = nI o := by simp [hst_at, upd_at, h8]
  refine ⟨hso (hst h 1 9 (nI ns)) 8 (va_cpy (h.1 9) (h.1 8) ((o + ns) % 6 * 553) 0 553), ?_, rfl, fun k k1 k2 => ?_, ?_, ?_, fun i hi => ?_⟩
  · unfold f_X0_restore jb_X0_restore_52
    rw [gl_eq, e1, show (hst h 1 9 (nI ns)).1 1 9 = nI ns from rfl, placeOfSaved (h := hst h 1 9 (nI ns)) (o := o) hq (by omega), gb_some, if_neg (nI_pos (by omega)), show (3318 : Int32) - 553 = nI 2765 from rfl, if_neg (nI_nlt (by omega) (by decide))]
    unfold gcp
    rw [if_neg (nI_pos (by omega)), if_neg (by decide), if_neg (by decide), tn_0, tn_553, nI_clamp (by omega), if_neg (by omega), if_neg (by omega), gl_eq]
    rfl
  · simp only [hst_at, hso_at, k1, k2, if_false]
  · simp [hst_at, hso_at, upd_at, h8]
  · simp [hst_at, hso_at, upd_at]
  · simp only [hso_at, if_true]
    rw [pk_cpy_in (by omega) (by omega)]
    congr 1
theorem op_undo {h : Hst} (S : Sim h) : Agree (f_L_undo h) f_X7_undo := by
  obtain ⟨⟨o, ns, s1, s2, s3, s4, s5, s6⟩, C, len, b1, b2, b3, b4⟩ := id S
  by_cases n0 : ns = 0
  · subst n0
    refine agree_no (k := 1) (h1 := h) (h2 := hst h 17 5 1) ?_ (by decide) ?_ rfl (S.keep ⟨rfl, rfl, rfl, rfl, rfl, rfl, rfl, rfl⟩ rfl rfl)
    · unfold f_L_undo f_X6_undo
      rw [s4, if_pos (show nI 0 = 0 from rfl), gbx_inr]
      rfl
    · unfold f_X7_undo jb_X7_undo_13
      rw [s5, if_pos (by decide), gl_eq]
      show (if (1 : Int32) ≤ 0 then _ else _) = _
      rw [if_neg (by decide)]
  · obtain ⟨n, rfl⟩ : ∃ n, ns = n + 1 := ⟨ns - 1, by omega⟩
    obtain ⟨hc, e, c1, c2, c3, c4, c5⟩ := restore_C (ns := n) s1 (by omega) s3 s4
    have ec : f_L_undo h = some (0, hsj hc 25 0 (nI n).toInt64) := by
      unfold f_L_undo f_X6_undo
      rw [s4, if_neg (nI_ne0 (by omega) (by omega)), e, gbv_some, c4, gbx_inl, gk_0_1, gl_eq, tn_0]
    have q17 : ∀ j, j ≠ 1 → (hst (hst (hsj hc 25 0 (nI n).toInt64) 17 5 0) 17 1 (nI n)).1 17 j = (hst hc 17 5 0).1 17 j := fun j hj => by
      simp [hst_at, upd_at, hj, hsj_1]
    obtain ⟨hm, em, m1, m2, m3, m4⟩ := undoM_37 (s := n) (by omega) 514 0 FU (hst (hst (hsj hc 25 0 (nI n).toInt64) 17 5 0) 17 1 (nI n)) (by omega) (by decide) rfl
    have e17 := c2 17 (by decide) (by decide)
    refine agree_ok ec (h2 := hm) ?_ ?_ m1 ?_
    · unfold f_X7_undo jb_X7_undo_13
      have z1 : (hsj hc 25 0 (nI n).toInt64).1 17 1 = nI (n + 1) := by
        show hc.1 17 1 = _
        rw [e17, s5]
      have z2 : (hst (hsj hc 25 0 (nI n).toInt64) 17 5 0).1 17 1 = nI (n + 1) := z1
      rw [z1, if_neg (nI_nle (by omega) (by omega)), gl_eq]
      show (if (0 : Int32) ≤ 0 then _ else _) = _
      rw [if_pos (by decide), z2, nI_pred, gl_eq]
      exact em
    · rw [m2 17 (by decide)]; rfl
    · have f1 : hm.1 1 = hc.1 1 := m2 1 (by decide)
      have f9 : hm.1 9 = h.1 9 := (m2 9 (by decide)).trans (c2 9 (by decide) (by decide))
      have f19 : hm.1 19 = h.1 19 := (m2 19 (by decide)).trans (c2 19 (by decide) (by decide))
      have f8 : hm.1 8 = hc.1 8 := m2 8 (by decide)
      refine ⟨⟨o, n, s1, by omega, by rw [f1, c3], by rw [f1, c4], by rw [m2 17 (by decide)]; rfl, fun k hk => by rw [f9, f19]; exact s6 k (by omega)⟩, ?_, len, b1, ?_, ?_, ?_⟩
      · refine SimCZ.congr (fun i hi => ?_) (fun i hi => ?_) (s6 n (by omega))
        · rw [f8, c5 i hi]
        · rw [m4 i (by omega) hi]
          show hc.1 19 _ = h.1 19 _
          rw [c2 19 (by decide) (by decide)]
      · rw [m2 0 (by decide)]
        show hc.1 0 5 = _
        rw [c2 0 (by decide) (by decide)]; exact b2
      · rw [m2 17 (by decide)]
        show hc.1 17 3 = _
        rw [e17]; exact b3
      · rw [m2 16 (by decide), m2 20 (by decide)]
        intro i hi
        show hc.1 16 i = hc.1 20 i ∧ ∃ q : Nat, 33 ≤ q ∧ q ≤ 126 ∧ hc.1 16 i = nI q
        rw [c2 16 (by decide) (by decide), c2 20 (by decide) (by decide)]
        exact b4 i hi
