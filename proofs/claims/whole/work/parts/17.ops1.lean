/-- what a call of both sides owes: the same refusal, the same answer, and the relation behind it -/
def Agree (r : Option (Int32 × Hst)) (m : Hst → Option (Int32 × Hst)) : Prop :=
  ∃ (k : Int32) (h1 : Hst) (b : Int32) (h2 : Hst), r = some (k, h1) ∧ m h1 = some (b, h2) ∧ h2.1 17 5 = k ∧ (k = 0 → h2.2 25 0 = b.toInt64) ∧ Sim h2
def Keep (a b : Hst) : Prop := a.1 0 = b.1 0 ∧ a.1 1 = b.1 1 ∧ a.1 9 = b.1 9 ∧ a.1 16 = b.1 16 ∧ a.1 19 = b.1 19 ∧ a.1 20 = b.1 20 ∧ a.1 17 1 = b.1 17 1 ∧ a.1 17 3 = b.1 17 3
theorem Keep.trans {a b c : Hst} (h1 : Keep a b) (h2 : Keep b c) : Keep a c := by
  obtain ⟨a0, a1, a2, a3, a4, a5, a6, a7⟩ := h1
  obtain ⟨b0, b1, b2, b3, b4, b5, b6, b7⟩ := h2
  exact ⟨a0.trans b0, a1.trans b1, a2.trans b2, a3.trans b3, a4.trans b4, a5.trans b5, a6.trans b6, a7.trans b7⟩
theorem Keep.rf {a : Hst} : Keep a a := ⟨rfl, rfl, rfl, rfl, rfl, rfl, rfl, rfl⟩
/-- scratch has changed, nothing else -/
theorem Sim.keep {h h' : Hst} (S : Sim h) (K : Keep h' h) (e8 : h'.1 8 = h.1 8) (e18 : h'.1 18 = h.1 18) : Sim h' := by
  obtain ⟨⟨o, ns, s1, s2, s3, s4, s5, s6⟩, C, len, b1, b2, b3, b4⟩ := S
  obtain ⟨a0, a1, a2, a3, a4, a5, a6, a7⟩ := K
  refine ⟨⟨o, ns, s1, s2, by rw [a1]; exact s3, by rw [a1]; exact s4, by rw [a6]; exact s5, by rw [a2, a4]; exact s6⟩, by rw [e8, e18]; exact C, len, b1, by rw [a0]; exact b2, by rw [a7]; exact b3, by rw [a3, a5]; exact b4⟩
theorem undo_std {h : Hst} (S : Sim h) : ∃ hc, f_X0_save h = some hc ∧ hc.2 = h.2 ∧ (∀ k, k ≠ 1 → k ≠ 9 → hc.1 k = h.1 k) ∧
    ∀ hx : Hst, Keep hx hc → hx.1 18 = hc.1 18 → ∃ hm, f_X7_save hx = some hm ∧ hm.2 = hx.2 ∧ (∀ k, k ≠ 17 → k ≠ 19 → hm.1 k = hx.1 k) ∧ (∀ j, j ≠ 1 → hm.1 17 j = hx.1 17 j) ∧
      ∀ h3 : Hst, Keep h3 hm → SimCZ (h3.1 8) (h3.1 18) → Sim h3 := by
  obtain ⟨⟨o, ns, sv⟩, C, len, b1, b2, b3, b4⟩ := S
  obtain ⟨hc, e, e2, ef, K⟩ := undoable sv C
  refine ⟨hc, e, e2, ef, fun hx kx x18 => ?_⟩
  obtain ⟨k0, k1, k2, k3, k4, k5, k6, k7⟩ := kx
  have e17 := ef 17 (by decide) (by decide)
  obtain ⟨hm, em, m2, mf, mj, K2⟩ := K hx (by rw [k1]) (by rw [k1]) k2 (by rw [k6, e17]) (by rw [x18]; exact ef 18 (by decide) (by decide)) (by rw [k4]; exact ef 19 (by decide) (by decide))
  refine ⟨hm, em, m2, mf, mj, fun h3 k3' C3 => ?_⟩
  obtain ⟨q0, q1, q2, q3, q4, q5, q6, q7⟩ := k3'
  refine ⟨K2 h3 (by rw [q1]) (by rw [q1]) q2 q6 q4, C3, len, b1, ?_, ?_, ?_⟩
  · rw [q0, mf 0 (by decide) (by decide), k0, ef 0 (by decide) (by decide)]; exact b2
  · rw [q7, mj 3 (by decide), k7, e17]; exact b3
  · rw [q3, q5, mf 16 (by decide) (by decide), mf 20 (by decide) (by decide), k3, k5, ef 16 (by decide) (by decide), ef 20 (by decide) (by decide)]; exact b4
/-- a refusal of both -/
theorem agree_no {r : Option (Int32 × Hst)} {m : Hst → Option (Int32 × Hst)} {k : Int32} {h1 h2 : Hst} (hr : r = some (k, h1)) (hk : k ≠ 0) (hm : m h1 = some (0, h2)) (ht : h2.1 17 5 = k) (S : Sim h2) : Agree r m :=
  ⟨k, h1, 0, h2, hr, hm, ht, fun z => absurd z hk, S⟩
theorem agree_ok {r : Option (Int32 × Hst)} {m : Hst → Option (Int32 × Hst)} {v : Int32} {hd h2 : Hst} (hr : r = some (0, hsj hd 25 0 v.toInt64)) (hm : m (hsj hd 25 0 v.toInt64) = some (v, h2)) (ht : h2.1 17 5 = 0) (ho : h2.2 = (hsj hd 25 0 v.toInt64).2) (S : Sim h2) : Agree r m :=
  ⟨0, _, v, h2, hr, hm, ht, fun _ => by rw [ho, hsj_at]; rfl, S⟩
-- addGrower
theorem sim_addGrower {c z : Nat → Int32} {ng nl nt : Nat} (I : InvC c ng nl nt) (R : RelCZ c z nl) (hg : ng < 8) (x : Int32) (hx : x = nI (ng + 1)) : SimCZ (uS c 7 x) (wS z 7 x) := by
  refine ⟨ng + 1, nl, nt, ?_, rel_S R 7 (by decide) (by decide) x⟩
  subst hx
  simp only [InvC, LotI, TankI, cVa_uS, cLo_uS, cGr_uS, cTa_uS] at I ⊢
  obtain ⟨⟨a1, a2, a3⟩, ⟨b1, b2, b3⟩, c1, d, e, f, r1, r2, r3⟩ := I
  simp only [cS_uS]
  refine ⟨⟨by omega, a2, a3⟩, ⟨rfl, b2, b3⟩, c1, d, e, fun g hg' => f g (by omega), r1, fun l hl => ?_, r3⟩
  obtain ⟨⟨g, g1, g2⟩, q⟩ := r2 l hl
  exact ⟨⟨g, by omega, g2⟩, q⟩
theorem op_addGrower {h : Hst} (S : Sim h) : Agree (f_L_addGrower h) f_X7_addGrower := by
  obtain ⟨-, ⟨ng, nl, nt, I, R⟩, -⟩ := id S
  obtain ⟨⟨hg, hl, ht⟩, ⟨i7, i8, i9⟩, -⟩ := id I
  have z7 : h.1 18 7 = nI ng := (R.1 7 (by decide)).trans i7
  by_cases hlt : ng < 8
  · obtain ⟨hc, e, e2, ef, K⟩ := undo_std S
    have e8 := ef 8 (by decide) (by decide)
    have e18 := ef 18 (by decide) (by decide)
    have ec : f_L_addGrower h = some (0, hsj (hso hc 8 (uS (hc.1 8) 7 (cS (hc.1 8) 7 + 1))) 25 0 (nI ng).toInt64) := by
      unfold f_L_addGrower f_X6_addGrower
      rw [row7_0, gb_some, i7, if_pos (show nI ng < 8 from nI_lt (b := 8) hlt (by decide)), e, gbv_some, rowa7_0, gbv_some, gbx_inl, gk_0_1, gl_eq, tn_0]
    obtain ⟨hm, em, m2, mf, mj, K2⟩ := K (hst (hsj (hso hc 8 (uS (hc.1 8) 7 (cS (hc.1 8) 7 + 1))) 25 0 (nI ng).toInt64) 17 5 0) ⟨rfl, rfl, rfl, rfl, rfl, rfl, rfl, rfl⟩ rfl
    have m18 : hm.1 18 = h.1 18 := (mf 18 (by decide) (by decide)).trans e18
    have m8 : hm.1 8 = uS (h.1 8) 7 (nI (ng + 1)) := by
      rw [mf 8 (by decide) (by decide)]
      show uS (hc.1 8) 7 (cS (hc.1 8) 7 + 1) = _
      rw [e8, i7, nI_1]
    refine agree_ok ec (h2 := hst hm 18 7 (hm.1 18 7 + 1)) ?_ ?_ ?_ ?_
    · unfold f_X7_addGrower jb_X7_addGrower_18
      rw [gk_7_514, tn_7, if_neg (show ¬ (hsj (hso hc 8 (uS (hc.1 8) 7 (cS (hc.1 8) 7 + 1))) 25 0 (nI ng).toInt64).1 18 7 = 8 from fun z => by
        have z' : hc.1 18 7 = 8 := z
        rw [e18, z7] at z'
        exact absurd (nI_inj (by omega) (by decide) (show nI ng = nI 8 from z')) (by omega)), gl_eq]
      show (if (0 : Int32) ≤ 0 then _ else _) = _
      rw [if_pos (by decide), em, gbv_some, gk_7_514, gk_7_514, gl_eq, gk_7_514]
      congr 2
      show hm.1 18 7 + 1 - 1 = nI ng
      rw [m18, z7, show nI ng + 1 = nI (ng + 1) from nI_1 ng, nI_pred]
    · exact mj 5 (by decide)
    · exact m2
    · refine K2 _ ⟨rfl, rfl, rfl, rfl, rfl, rfl, rfl, rfl⟩ ?_
      show SimCZ (hm.1 8) (wS (hm.1 18) 7 (hm.1 18 7 + 1))
      rw [m8, m18, z7, nI_1]
      exact sim_addGrower I R hlt _ rfl
  · have e8 : ng = 8 := by omega
    subst e8
    refine agree_no (k := 1) (h1 := h) (h2 := hst h 17 5 1) ?_ (by decide) ?_ rfl (S.keep ⟨rfl, rfl, rfl, rfl, rfl, rfl, rfl, rfl⟩ rfl rfl)
    · unfold f_L_addGrower f_X6_addGrower
      rw [row7_0, gb_some, i7, if_neg (show ¬ nI 8 < 8 by decide), gbx_inr]
      rfl
    · unfold f_X7_addGrower jb_X7_addGrower_18
      rw [gk_7_514, tn_7, z7, if_pos (by rfl), gl_eq]
      show (if (1 : Int32) ≤ 0 then _ else _) = _
      rw [if_neg (by decide)]
