theorem settle_y {a x fe : Nat} (h1 : a + x < 2 ^ 31) (h2 : fe ≤ 500) : ∃ y : Nat, y ≤ a + x ∧ nI y = if nI fe ≤ nI x then nI (a + x) else if 0 < nI (a + x) - nI fe then nI (a + x) - nI fe else 0 := by
  by_cases q : fe ≤ x
  · exact ⟨a + x, Nat.le_refl _, by rw [if_pos (nI_le q (by omega))]⟩
  · rw [if_neg (nI_ge (by omega) (by omega))]
    by_cases w : fe ≤ a + x
    · rw [pk_sub w]
      by_cases z : a + x - fe = 0
      · exact ⟨0, by omega, by rw [z, if_neg (by decide)]; rfl⟩
      · exact ⟨a + x - fe, by omega, by rw [if_pos (show 0 < nI (a + x - fe) from nI_lt (a := 0) (by omega) (by omega))]⟩
    · refine ⟨0, by omega, ?_⟩
      have e : (nI (a + x) - nI fe).toInt ≤ 0 := by
        rw [pk_sub_toInt (by omega) (by omega)]; omega
      rw [if_neg (fun z => by
        have := Int32.lt_iff_toInt_lt.mp z
        rw [show (0 : Int32).toInt = 0 from rfl] at this; omega)]
      rfl
theorem appeal_157 {h : Hst} {nl b : Nat} (j : J h nl b) (hb : b ≤ 47) (l : Fin 40) (hl : l.val < nl) (t : Fin 6) (et : cLo (h.1 8) l 5 = 1 → t.val < 3 ∧ cLo (h.1 8) l 10 = nI t.val) {x : Nat} (hx : x ≤ 12000) (ex : cLo (h.1 8) l 5 = 1 → secV (h.1 8) l = nI x) : ∃ h', jb_L_appeals_157 (nI l.val) (nI x) (raV (h.1 8) l t) h = some (1, h') ∧ J h' nl (b + 1) := by
  obtain ⟨hn, S, I, ⟨⟨n0, n1, n2, n3, n4, n5, n6, n7⟩, n8⟩, r18, r19, r20, r22, rt, r25, rg⟩ := id j
  have e10 := lot_10 I hl t (fun w => (et w).2) h rfl
  unfold jb_L_appeals_157
  rw [e10, gb_some, if_pos rfl]
  by_cases r0 : raV (h.1 8) l t = 0
  · have h5 : cLo (h.1 8) l 5 = 1 := by
      unfold raV at r0
      by_cases q : cLo (h.1 8) l 5 = 1
      · exact q
      · rw [if_neg q] at r0; exact absurd r0 (by decide)
    obtain ⟨ht, et2⟩ := et h5
    obtain ⟨⟨g, hg, eg⟩, ⟨v, ev⟩, -, c3, -⟩ := I.2.2.2.2.2.2.2.1 l hl
    obtain ⟨gr, hgr, egr⟩ := gl3_N c3
    obtain ⟨a, aL, ea⟩ := rg.2.2 g hg
    have q0 : h.1 19 (6 * l.val) = nI g.val := (r19 l hl 0).trans eg
    have q1 : h.1 19 (6 * l.val + 1) = nI v.val := (r19 l hl 1).trans ev
    have q3 : h.1 19 (6 * l.val + 3) = cLo (h.1 8) l 3 := r19 l hl 3
    have q23 : h.1 23 l.val = nI t.val := (r20 l hl (by rw [h5]; decide)).2.2.trans et2
    have T : TankI (h.1 8) t := I.2.2.2.2.2.2.2.2.2 t
    obtain ⟨ta', ep, RP⟩ := pourL (h := h) rt ht T v (x := x) (g := gr) (by omega) hgr (rg.1 t ht)
    obtain ⟨fe, f1, f2⟩ := I.2.2.1.2.2.2.2.1
    obtain ⟨y, hy, ey⟩ := settle_y (a := a) (x := x) (fe := fe) (by omega) f1
    rw [← f2] at ey
    have ac0 : (hso h 24 ta').1 25 g.val = nI a := (r25 g hg).trans ea
    have n12 : ∀ H : Hst, H.1 17 = h.1 17 → H.1 17 12 = cS (h.1 8) 4 := fun H e => by rw [e]; exact n8 4
    have fin : ∀ h1 : Hst, (∀ k, k ≠ 24 → k ≠ 25 → h1.1 k = h.1 k) → h1.1 24 = ta' → h1.1 25 = upd (h.1 25) g.val (nI y) → ∃ h', jb_L_appeals_273 (nI l.val) (nI x) h1 = some (1, h') ∧ J h' nl (b + 1) := fun h1 k8 k24 k25 =>
      act_appeal j hb l hl g hg eg v ev t ht et2 h5 r0 (ex h5) hx egr hgr ea aL k8 (by rw [k24]; exact RP) hy ey k25
    have f17 : ∀ z, (hst (hso h 24 ta') 25 g.val z).1 17 12 = cS (h.1 8) 4 := fun z => n12 _ rfl
    have f25 : ∀ z, (hst (hso h 24 ta') 25 g.val z).1 25 g.val = z := fun z => by
      show upd (h.1 25) g.val z g.val = z
      exact upd_eq
    have k8 : ∀ z, ∀ k, k ≠ 24 → k ≠ 25 → (hst (hso h 24 ta') 25 g.val z).1 k = h.1 k := fun z k a1 a2 => by
      rw [hst_at, if_neg a2, hso_at, if_neg a1]
    have m272 : ∀ z w : Int32, nI y = w → ∃ h', jb_L_appeals_272 (nI l.val) (nI x) w (nI g.val) (hst (hso h 24 ta') 25 g.val z) = some (1, h') ∧ J h' nl (b + 1) := fun z w ew => by
      unfold jb_L_appeals_272
      rw [gck_nI (by omega) (by decide), nI_clamp (by omega), gl_eq, hst_twice, ← ew]
      exact fin _ (k8 _) rfl rfl
    rw [if_pos (by rw [r0]; decide), ix60, gck_nI (by omega) (by decide), nI_clamp (by omega), gl_eq, q0, gck_nI (by omega) (by decide), nI_1, gck_nI (by omega) (by decide), show nI (6 * l.val) + 3 = nI (6 * l.val + 3) from nI_add _ 3, gck_nI (by omega) (by decide), nI_clamp (by omega), q3, gradeL c3, gb_some, egr, nI_clamp (by omega), q23, nI_clamp (by omega), q1, ep, gbv_some, gck_nI (by omega) (by decide), gck_nI (by omega) (by decide), nI_clamp (by omega), gl_eq, ac0, nI_add, gk_12_15, tn_12, f17]
    by_cases c1 : cS (h.1 8) 4 ≤ nI x
    · rw [if_pos c1]
      rw [if_pos c1] at ey
      rw [← ey]
      exact fin _ (k8 _) rfl rfl
    · rw [if_neg c1] at ey
      rw [if_neg c1, gck_nI (by omega) (by decide), gk_12_15, f25]
      by_cases c2 : cS (h.1 8) 4 ≤ nI (a + x)
      · rw [if_pos c2, gck_nI (by omega) (by decide), gk_12_15]
        refine m272 _ _ ?_
        rw [ey, f2]
        rw [f2] at c2
        have le : fe ≤ a + x := Nat.le_of_not_lt (fun w => nI_ge w (by omega) c2)
        rw [pk_sub le]
        by_cases z : a + x - fe = 0
        · rw [z, if_neg (by decide)]; rfl
        · rw [if_pos (show 0 < nI (a + x - fe) from nI_lt (a := 0) (by omega) (by omega))]
      · rw [if_neg c2]
        refine m272 _ _ ?_
        rw [ey, f2]
        rw [f2] at c2
        have lt : a + x < fe := Nat.lt_of_not_le (fun w => c2 (nI_le w (by omega)))
        rw [if_neg (fun z => by
          have := Int32.lt_iff_toInt_lt.mp z
          rw [pk_sub_toInt (by omega) (by omega), show (0 : Int32).toInt = 0 from rfl] at this; omega)]
  · have rc : raV (h.1 8) l t = 0 ∨ raV (h.1 8) l t = 1 ∨ raV (h.1 8) l t = 2 ∨ raV (h.1 8) l t = 3 := by
      unfold raV
      split
      · split
        · split
          · exact .inl rfl
          · exact .inr (.inr (.inr rfl))
        · exact .inr (.inr (.inl rfl))
      · exact .inr (.inl rfl)
    rw [if_neg (fun w => by
      rcases rc with e | e | e | e
      · exact r0 e
      · rw [e] at w; exact absurd w (by decide)
      · rw [e] at w; exact absurd w (by decide)
      · rw [e] at w; exact absurd w (by decide)), gzr_1]
    exact ⟨h, rfl, j.mono (by omega)⟩
theorem sec_N {c : Nat → Int32} {l : Fin 40} {ct f : Nat} (hf : f ≤ ct) (hc : ct ≤ 12000) (e7 : cLo c l 7 = nI ct) (e8 : cLo c l 8 = nI f) (h2 : isN (cS c 2) 1000) : ∃ x : Nat, x ≤ 12000 ∧ secV c l = nI x := by
  obtain ⟨s, s1, s2⟩ := h2
  have p : (ct - f) * s ≤ 12000 * 1000 := Nat.mul_le_mul (by omega) s1
  refine ⟨(ct - f) * s / 1000, by omega, ?_⟩
  unfold secV
  rw [e7, e8, s2, pk_sub hf, pk_mul]
  exact pk_div (d := 1000) (by omega) (by decide) (by decide)
theorem act_appeals {h : Hst} {nl b : Nat} (j : J h nl b) (hb : b ≤ 47) (p : Int32) : ∃ h', f_L_appeals p h = some (1, h') ∧ J h' nl (b + 1) := by
  obtain ⟨hn, S, I, ⟨⟨n0, n1, n2, n3, n4, n5, n6, n7⟩, n8⟩, r18, r19, r20, r22, rt, r25, rg⟩ := id j
  unfold f_L_appeals
  rw [gk_1_15, tn_1, n1]
  by_cases z : nl = 0
  · rw [if_pos (by rw [z]; rfl), gzr_1]
    exact ⟨h, rfl, j.mono (by omega)⟩
  · obtain ⟨l, hl, el⟩ := at_v p (n := nl) (by omega) (by omega)
    have l40 : l < 40 := by omega
    have q4 : h.1 19 (6 * l + 4) = cLo (h.1 8) ⟨l, l40⟩ 4 := r19 ⟨l, l40⟩ hl 4
    have q5 : h.1 19 (6 * l + 5) = cLo (h.1 8) ⟨l, l40⟩ 5 := r19 ⟨l, l40⟩ hl 5
    rw [if_neg (nI_ne0 (by omega) (by omega)), gk_1_15, el, gb_some, ix65, gck_nI (by omega) (by decide), nI_clamp (by omega), q5]
    have m67 : ∀ (s : Int32) (t : Fin 6) (et : cLo (h.1 8) ⟨l, l40⟩ 5 = 1 → t.val < 3 ∧ cLo (h.1 8) ⟨l, l40⟩ 10 = nI t.val) (es : cLo (h.1 8) ⟨l, l40⟩ 5 = 1 → secV (h.1 8) ⟨l, l40⟩ = s), jb_L_appeals_67 (nI l) s h = jb_L_appeals_157 (nI l) s (raV (h.1 8) ⟨l, l40⟩ t) h := fun s t et es => by
      unfold jb_L_appeals_67 raV
      rw [ix65, gck_nI (by omega) (by decide), nI_clamp (by omega), q5]
      by_cases h5 : cLo (h.1 8) ⟨l, l40⟩ 5 = 1
      · obtain ⟨ht, et2⟩ := et h5
        obtain ⟨d20, d21, d23⟩ := r20 ⟨l, l40⟩ hl (by rw [h5]; decide)
        have d20' : h.1 20 l = cLo (h.1 8) ⟨l, l40⟩ 6 := d20
        have d21' : h.1 21 l = cLo (h.1 8) ⟨l, l40⟩ 8 := d21
        have d23' : h.1 23 l = nI t.val := d23.trans et2
        have n9 : h.1 17 9 = cS (h.1 8) 1 := n8 1
        have n14 : h.1 17 14 = cS (h.1 8) 6 := n8 6
        rw [if_pos h5, if_pos h5, gck_nI (by omega) (by decide), gck_nI (by omega) (by decide), gk_9_15, gd_1000, gk_14_15, gd_1000, nI_clamp (by omega), d20', d21', tn_9, n9, tn_14, n14]
        by_cases h2 : cLo (h.1 8) ⟨l, l40⟩ 8 < dueV (h.1 8) ⟨l, l40⟩
        · have h2' : cLo (h.1 8) ⟨l, l40⟩ 8 < cLo (h.1 8) ⟨l, l40⟩ 6 * cS (h.1 8) 1 / 1000 * (1000 - cS (h.1 8) 6) / 1000 := h2
          have st : h.1 24 (7 * t.val) = cTa (h.1 8) t 0 := rt.s ht
          rw [if_pos h2', if_pos h2, gck_nI (by omega) (by decide), d23', ix70, gck_nI (by omega) (by decide), gck_nI (by omega) (by decide), oilL rt ht, gb_some, nI_clamp (by omega), st, es h5]
          by_cases h3 : s ≤ roomV (h.1 8) t
          · have h3' : s ≤ cTa (h.1 8) t 0 - oil5 (h.1 8) t := h3
            rw [if_pos h3', if_pos h3]
          · have h3' : ¬ s ≤ cTa (h.1 8) t 0 - oil5 (h.1 8) t := h3
            rw [if_neg h3', if_neg h3]
        · have h2' : ¬ cLo (h.1 8) ⟨l, l40⟩ 8 < cLo (h.1 8) ⟨l, l40⟩ 6 * cS (h.1 8) 1 / 1000 * (1000 - cS (h.1 8) 6) / 1000 := h2
          rw [if_neg h2', if_neg h2]
      · rw [if_neg h5, if_neg h5]
    by_cases h0 : cLo (h.1 8) ⟨l, l40⟩ 5 = 0
    · have no : ¬ cLo (h.1 8) ⟨l, l40⟩ 5 = 1 := by rw [h0]; decide
      rw [if_pos h0, m67 0 0 (fun w => absurd w no) (fun w => absurd w no)]
      exact appeal_157 j hb ⟨l, l40⟩ hl 0 (fun w => absurd w no) (x := 0) (by decide) (fun w => absurd w no)
    · obtain ⟨ct, f, f1, f2, f3, f4⟩ := rg.2.1 ⟨l, l40⟩ hl h0
      obtain ⟨x, hx, ex⟩ := sec_N f1 f2 f3 f4 I.2.2.1.2.2.1
      obtain ⟨c7, t, ht, et⟩ := (I.2.2.2.2.2.2.2.1 ⟨l, l40⟩ hl).2.2.2.2.2.2 h0
      obtain ⟨d20, d21, -⟩ := r20 ⟨l, l40⟩ hl h0
      have d20' : h.1 20 l = cLo (h.1 8) ⟨l, l40⟩ 6 := d20
      have d21' : h.1 21 l = cLo (h.1 8) ⟨l, l40⟩ 8 := d21
      have n10 : h.1 17 10 = cS (h.1 8) 2 := n8 2
      have es : (cLo (h.1 8) ⟨l, l40⟩ 6 * cLo (h.1 8) ⟨l, l40⟩ 4 / 1000 - cLo (h.1 8) ⟨l, l40⟩ 8) * cS (h.1 8) 2 / 1000 = nI x := by
        rw [← ex, ← c7]; rfl
      rw [if_neg h0, gck_nI (by omega) (by decide), ix64, gck_nI (by omega) (by decide), gd_1000, gck_nI (by omega) (by decide), gk_10_15, gd_1000, nI_clamp (by omega), nI_clamp (by omega), d20', q4, d21', tn_10, n10, es, m67 (nI x) t (fun _ => ⟨ht, et⟩) (fun _ => ex)]
      exact appeal_157 j hb ⟨l, l40⟩ hl t (fun _ => ⟨ht, et⟩) hx (fun _ => ex)
