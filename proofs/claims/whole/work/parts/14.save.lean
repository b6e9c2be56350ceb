theorem savM_54 {s : Nat} (hs : s ≤ 5) : ∀ (m a n : Nat) (h : Hst), a + m = 514 → m < n → h.1 17 1 = nI s → ∃ h', lp_X7_save_54 n (nI a) h = some h' ∧ h'.2 = h.2 ∧ (∀ k, k ≠ 17 → k ≠ 19 → h'.1 k = h.1 k) ∧ (∀ j, j ≠ 1 → h'.1 17 j = h.1 17 j) ∧ h'.1 17 1 = nI (s + 1) ∧ (∀ j, j < 514 * s + a ∨ 514 * s + 514 ≤ j → h'.1 19 j = h.1 19 j) ∧ (∀ i, a ≤ i → i < 514 → h'.1 19 (514 * s + i) = h.1 18 i)
  | 0, a, n + 1, h, ha, _, h1 => by
    have : a = 514 := by omega
    subst this
    refine ⟨hst h 17 1 (h.1 17 1 + 1), ?_, rfl, fun k k1 k2 => ?_, fun j hj => ?_, ?_, fun j hj => ?_, fun i h1 h2 => by omega⟩
    · rw [lp_X7_save_54, if_pos (show (514 : Int32) ≤ nI 514 from nI_le (a := 514) (b := 514) (Nat.le_refl _) (by decide)), gl_eq]
    · simp only [hst_at, k1, if_false]
    · simp [hst_at, upd_at, hj]
    · simp [hst_at, upd_at, h1, nI_succ]
    · simp [hst_at]
  | m + 1, a, n + 1, h, ha, hn, h1 => by
    have e : (514 : Int32) * h.1 17 1 + nI a = nI (514 * s + a) := by
      rw [h1]; show nI 514 * nI s + nI a = _; rw [pk_mul, nI_add]
    obtain ⟨h', e', r1, r2, r3, r4, r5, r6⟩ := savM_54 hs m (a + 1) n (hst h 19 (514 * s + a) (h.1 18 a)) (by omega) (by omega) (by simp [hst_at, h1])
    refine ⟨h', ?_, r1, fun k k1 k2 => ?_, fun j hj => ?_, r4, fun j hj => ?_, fun i i1 i2 => ?_⟩
    · rw [lp_X7_save_54, if_neg (show ¬ (514 : Int32) ≤ nI a from nI_ge (b := 514) (by omega) (by decide)), e, gck_nI (by omega) (by decide), gck_nI (by omega) (by decide), gl_eq, nI_clamp (by omega), nI_clamp (by omega), nI_1]
      exact e'
    · rw [r2 k k1 k2]; simp only [hst_at, k2, if_false]
    · rw [r3 j hj]; simp [hst_at]
    · rw [r5 j (by omega)]; simp only [hst_at, if_true, upd_at]; exact if_neg (by omega)
    · by_cases h9 : i = a
      · subst h9
        rw [r5 _ (by omega)]; simp only [hst_at, if_true, upd_at]
      · rw [r6 i (by omega) i2]; simp [hst_at]
theorem savM_13 : ∀ (m b n : Nat) (h : Hst), b + m = 2570 → m < n → ∃ h', lp_X7_save_13 n (nI (b + 514)) h = jb_X7_save_52 h' ∧ h'.2 = h.2 ∧ (∀ k, k ≠ 17 → k ≠ 19 → h'.1 k = h.1 k) ∧ (∀ j, j ≠ 1 → h'.1 17 j = h.1 17 j) ∧ h'.1 17 1 = h.1 17 1 - 1 ∧ (∀ j, j < b → h'.1 19 j = h.1 19 j) ∧ (∀ j, b ≤ j → j < 2570 → h'.1 19 j = h.1 19 (j + 514))
  | 0, b, n + 1, h, ha, _ => by
    have : b = 2570 := by omega
    subst this
    refine ⟨hst h 17 1 (h.1 17 1 - 1), ?_, rfl, fun k k1 k2 => ?_, fun j hj => ?_, ?_, fun j hj => ?_, fun i h1 h2 => by omega⟩
    · rw [lp_X7_save_13, if_pos (show (3084 : Int32) ≤ nI (2570 + 514) from nI_le (a := 3084) (b := 3084) (Nat.le_refl _) (by decide)), gl_eq]
    · simp only [hst_at, k1, if_false]
    · simp [hst_at, upd_at, hj]
    · simp [hst_at, upd_at]
    · simp [hst_at]
  | m + 1, b, n + 1, h, ha, hn => by
    have e : nI (b + 514) - 514 = nI b := by
      have := pk_sub (a := b + 514) (b := 514) (by omega)
      rw [Nat.add_sub_cancel] at this; exact this
    obtain ⟨h', e', r1, r2, r3, r4, r5, r6⟩ := savM_13 m (b + 1) n (hst h 19 b (h.1 19 (b + 514))) (by omega) (by omega)
    refine ⟨h', ?_, r1, fun k k1 k2 => ?_, fun j hj => ?_, ?_, fun j hj => ?_, fun j j1 j2 => ?_⟩
    · rw [lp_X7_save_13, if_neg (show ¬ (3084 : Int32) ≤ nI (b + 514) from nI_ge (b := 3084) (by omega) (by decide)), e, gck_nI (by omega) (by decide), gck_nI (by omega) (by decide), gl_eq, nI_clamp (by omega), nI_clamp (by omega), nI_1, show b + 514 + 1 = b + 1 + 514 by omega]
      exact e'
    · rw [r2 k k1 k2]; simp only [hst_at, k2, if_false]
    · rw [r3 j hj]; simp [hst_at]
    · rw [r4]; simp [hst_at]
    · rw [r5 j (by omega)]; simp only [hst_at, if_true, upd_at]; rw [if_neg (by omega)]
    · by_cases h9 : j = b
      · subst h9
        rw [r5 _ (by omega)]; simp only [hst_at, if_true, upd_at]
      · rw [r6 j (by omega) j2]; simp only [hst_at, if_true, upd_at]; rw [if_neg (by omega)]
/-- behind a save of the model -/
def SavM (h h' : Hst) (ns ns' : Nat) : Prop :=
  h'.2 = h.2 ∧ (∀ k, k ≠ 17 → k ≠ 19 → h'.1 k = h.1 k) ∧ (∀ j, j ≠ 1 → h'.1 17 j = h.1 17 j) ∧ h'.1 17 1 = nI ns' ∧ (∀ i, i < 514 → h'.1 19 (514 * (ns' - 1) + i) = h.1 18 i) ∧
  ∀ k i, k < ns' - 1 → i < 514 → h'.1 19 (514 * k + i) = h.1 19 (514 * (if ns = 6 then k + 1 else k) + i)
theorem save_M {h : Hst} {ns : Nat} (hn : ns ≤ 6) (h1 : h.1 17 1 = nI ns) : ∃ h', f_X7_save h = some h' ∧ SavM h h' ns (if ns = 6 then 6 else ns + 1) := by
  unfold f_X7_save
  by_cases h6 : ns = 6
  · subst h6
    rw [if_pos (by rw [h1]; rfl), if_pos rfl]
    obtain ⟨h2, e, r1, r2, r3, r4, r5, r6⟩ := savM_13 2570 0 FU h (by omega) (by decide)
    obtain ⟨h', e', s1, s2, s3, s4, s5, s6⟩ := savM_54 (s := 5) (by omega) 514 0 FU h2 (by omega) (by decide) (by rw [r4, h1]; rfl)
    refine ⟨h', ?_, s1.trans r1, fun k k1 k2 => (s2 k k1 k2).trans (r2 k k1 k2), fun j hj => (s3 j hj).trans (r3 j hj), s4, fun i hi => ?_, fun k i hk hi => ?_⟩
    · rw [show (514 : Int32) = nI (0 + 514) from rfl, e]; unfold jb_X7_save_52; exact e'
    · rw [s6 i (by omega) hi, r2 18 (by decide) (by decide)]
    · rw [s5 _ (by omega), r6 _ (by omega) (by omega), if_pos rfl, show 514 * k + i + 514 = 514 * (k + 1) + i by omega]
  · rw [if_neg (by rw [h1]; exact fun z => h6 (nI_inj (by omega) (by decide) z)), if_neg h6]
    unfold jb_X7_save_52
    obtain ⟨h', e', s1, s2, s3, s4, s5, s6⟩ := savM_54 (s := ns) (by omega) 514 0 FU h (by omega) (by decide) h1
    refine ⟨h', e', s1, s2, s3, s4, fun i hi => s6 i (by omega) hi, fun k i hk hi => ?_⟩
    rw [s5 _ (Or.inl (by omega)), if_neg h6]
/-- an undoable call: both save; what then stands in the saved places -/
theorem undoable {h : Hst} {o ns : Nat} (S : SV h.1 o ns) (C : SimCZ (h.1 8) (h.1 18)) : ∃ hc, f_X0_save h = some hc ∧ hc.2 = h.2 ∧ (∀ k, k ≠ 1 → k ≠ 9 → hc.1 k = h.1 k) ∧
    ∀ h2 : Hst, h2.1 1 8 = hc.1 1 8 → h2.1 1 9 = hc.1 1 9 → h2.1 9 = hc.1 9 → h2.1 17 1 = h.1 17 1 → h2.1 18 = h.1 18 → h2.1 19 = h.1 19 →
      ∃ hm, f_X7_save h2 = some hm ∧ hm.2 = h2.2 ∧ (∀ k, k ≠ 17 → k ≠ 19 → hm.1 k = h2.1 k) ∧ (∀ j, j ≠ 1 → hm.1 17 j = h2.1 17 j) ∧
        ∀ h3 : Hst, h3.1 1 8 = hm.1 1 8 → h3.1 1 9 = hm.1 1 9 → h3.1 9 = hm.1 9 → h3.1 17 1 = hm.1 17 1 → h3.1 19 = hm.1 19 → ∃ o' ns', SV h3.1 o' ns' := by
  obtain ⟨hc, e, c1, c2, c3, c4, c5, c6⟩ := save_C S
  obtain ⟨ho, hn, s1, s2, s3, s4⟩ := S
  refine ⟨hc, e, c1, c2, fun h2 a1 a2 a3 a4 a5 a6 => ?_⟩
  obtain ⟨hm, e', m1, m2, m3, m4, m5, m6⟩ := save_M (h := h2) hn (by rw [a4, s3])
  refine ⟨hm, e', m1, m2, m3, fun h3 b1 b2 b3 b4 b5 => ?_⟩
  have z1 : h3.1 1 8 = nI (if ns = 6 then (o + 1) % 6 else o) := by rw [b1, m2 1 (by decide) (by decide), a1, c3]
  have z2 : h3.1 1 9 = nI (if ns = 6 then 6 else ns + 1) := by rw [b2, m2 1 (by decide) (by decide), a2, c4]
  have z3 : h3.1 9 = hc.1 9 := by rw [b3, m2 9 (by decide) (by decide), a3]
  refine ⟨_, _, ?_, ?_, z1, z2, by rw [b4, m4], fun k hk => ?_⟩
  · split
    · exact Nat.mod_lt _ (by decide)
    · exact ho
  · split <;> omega
  · rw [z3, b5]
    by_cases h6 : ns = 6
    · subst h6
      simp only [if_true] at hk m5 m6 ⊢
      by_cases hl : k = 5
      · subst hl
        refine SimCZ.congr (fun i hi => ?_) (fun i hi => ?_) C
        · have := c5 i hi
          rw [show ((o + 1) % 6 + 5) % 6 = (o + 6) % 6 by omega]; exact this
        · have := m5 i hi
          rw [a5] at this; exact this
      · refine SimCZ.congr (fun i hi => ?_) (fun i hi => ?_) (s4 (k + 1) (by omega))
        · have := c6 (((o + 1) % 6 + k) % 6) i (Nat.mod_lt _ (by decide)) (by omega) hi
          rw [this]
          show h.1 9 _ = h.1 9 _
          rw [show ((o + 1) % 6 + k) % 6 = (o + (k + 1)) % 6 by omega]
        · have := m6 k i (by omega) hi
          rw [this, a6]
    · simp only [if_neg h6] at hk m5 m6 ⊢
      by_cases hl : k = ns
      · subst hl
        refine SimCZ.congr (fun i hi => c5 i hi) (fun i hi => ?_) C
        have := m5 i hi
        rw [a5] at this; exact this
      · refine SimCZ.congr (fun i hi => ?_) (fun i hi => ?_) (s4 k (by omega))
        · exact c6 ((o + k) % 6) i (Nat.mod_lt _ (by decide)) (by omega) hi
        · have := m6 k i (by omega) hi
          rw [this, a6]
