-- pressing, of the law: what it finds
theorem lotV2 {c : Nat → Int32} {ng nl nt : Nat} (I : InvC c ng nl nt) (l : Fin 40) (hl : l.val < nl) : ∃ u due cont f k0, LotV c l u due cont f k0 ∧ f ≤ cont ∧ cont ≤ 12000 := by
  obtain ⟨-, ⟨u, eu⟩, ⟨kg, k1, k2⟩, -, ⟨tr, t1, t2⟩, -, -⟩ := I.2.2.2.2.2.2.2.1 l hl
  obtain ⟨y, y1, y2⟩ := I.2.2.2.2.1 u
  obtain ⟨⟨k0, a1, a2⟩, ⟨s1, b1, b2⟩, -⟩ := I.2.2.1
  have p1 : kg * y ≤ 2000 * 400 := Nat.mul_le_mul k1 y1
  have p2 : kg * y / 100 * tr ≤ 8000 * 1500 := Nat.mul_le_mul (by omega) t1
  have p3 : kg * y / 100 * tr / 1000 * s1 ≤ 12000 * 1000 := Nat.mul_le_mul (by omega) b1
  have p4 : kg * y / 100 * tr / 1000 * s1 ≤ kg * y / 100 * tr / 1000 * 1000 := Nat.mul_le_mul_left _ b1
  refine ⟨u, kg * y / 100, kg * y / 100 * tr / 1000, kg * y / 100 * tr / 1000 * s1 / 1000, k0, ⟨eu, ?_, ?_, ?_, by omega, a2, a1⟩, by omega, by omega⟩
  · rw [k2, y2, pk_mul]
    exact pk_div (d := 100) (by omega) (by decide) (by decide)
  · rw [t2, pk_mul]
    exact pk_div (d := 1000) (by omega) (by decide) (by decide)
  · rw [b2, pk_mul]
    exact pk_div (d := 1000) (by omega) (by decide) (by decide)
theorem pr_209 {h : Hst} {k0 f add : Nat} (e8 : h.1 17 8 = nI k0) (hk : k0 ≤ 50) (hf : f + add ≤ 13000) (t m l u due a18 a19 : Int32) : jb_L_presses_209 t m l u due (nI f) a18 a19 (nI add) (nI f) h = jb_L_presses_230 t m l u due (nI f) a18 a19 (nI (f + add)) (nI (reR k0 (f + add))) h := by
  unfold jb_L_presses_209 reR
  rw [nI_add, gl_eq, gk_8_15, gk_8_15, tn_8, e8]
  by_cases q : k0 ≤ f + add
  · rw [if_pos (nI_le q (by omega)), if_pos q]
  · rw [if_neg (nI_ge (by omega) (by omega)), if_neg q]
theorem pr_190 {h : Hst} {k0 f r : Nat} {u v : Fin 5} (e8 : h.1 17 8 = nI k0) (hk : k0 ≤ 50) (e3 : h.1 17 3 = if r = 0 then -1 else nI v.val) (e4 : h.1 17 4 = nI r) (hr : r ≤ 50) (hf : f ≤ 12000) (t m l due a18 a19 : Int32) : jb_L_presses_190 t m l (nI u.val) due (nI f) a18 a19 h = jb_L_presses_230 t m l (nI u.val) due (nI f) a18 a19 (nI (toR f u v r)) (nI (reR k0 (toR f u v r))) h := by
  unfold jb_L_presses_190
  rw [gk_3_15, tn_3, e3]
  by_cases r0 : r = 0
  · rw [if_pos r0, if_neg (fun w => nI_neM1 (by omega) w.symm)]
    have := pr_209 (h := h) (f := f) (add := 0) e8 hk (by omega) t m l (nI u.val) due a18 a19
    rw [show nI 0 = (0 : Int32) from rfl, Nat.add_zero] at this
    have e : toR f u v r = f := by unfold toR; omega
    rw [this, e]
  · rw [if_neg r0]
    by_cases q : v = u
    · rw [if_pos (by rw [q]), gk_4_15, tn_4, e4, pr_209 e8 hk (by omega)]
      have e : toR f u v r = f + r := by unfold toR foR; rw [if_pos q]; omega
      rw [e]
    · rw [if_neg (fun w => q (Fin.ext (nI_inj (by omega) (by omega) w)))]
      have := pr_209 (h := h) (f := f) (add := 0) e8 hk (by omega) t m l (nI u.val) due a18 a19
      rw [show nI 0 = (0 : Int32) from rfl, Nat.add_zero] at this
      have e : toR f u v r = f := by unfold toR foR; rw [if_neg q]; omega
      rw [this, e]
theorem pr_24 {c : Nat → Int32} {h : Hst} {nl : Nat} (hn : nl ≤ 10) (A : R17 c (h.1 17) nl) (r18 : R18 c (h.1 18)) (r19 : R19 c (h.1 19) nl) {l : Fin 40} (hl : l.val < nl) {u v : Fin 5} {due cont f k0 r way : Nat} (LV : LotV c l u due cont f k0) (ev : cS c 10 = nI v.val) (er : cS c 11 = nI r) (hr : r ≤ 50) (ew : cS c 5 = nI way) (hw : way ≤ 2) (en : f_L_next h = some (nI l.val, h)) (t m : Int32) :
    jb_L_presses_24 t m h = jb_L_presses_230 t m (nI l.val) (nI u.val) (nI due) (nI f) (nI (caR way (foR u v r))) (nI (loR way (foR u v r))) (nI (toR f u v r)) (nI (reR k0 (toR f u v r))) h := by
  obtain ⟨eu, l1, l2, l3, hf, ek, hk⟩ := LV
  have lu := u.isLt
  have e3 : h.1 17 3 = if r = 0 then -1 else nI v.val := A.1.2.2.2.1.trans (rv_N ev er hr)
  have e4 : h.1 17 4 = nI r := A.1.2.2.2.2.1.trans er
  have e8 : h.1 17 8 = nI k0 := (A.2 0).trans ek
  have e9 : h.1 17 9 = cS c 1 := A.2 1
  have e13 : h.1 17 13 = nI way := (A.2 5).trans ew
  have q1 : h.1 19 (6 * l.val + 1) = nI u.val := (r19 l hl 1).trans eu
  have q2 : h.1 19 (6 * l.val + 2) = cLo c l 2 := r19 l hl 2
  have q4 : h.1 19 (6 * l.val + 4) = cLo c l 4 := r19 l hl 4
  have yu : h.1 18 u.val = cVa c u 0 := r18 u
  have no : foR u v r = 0 → jb_L_presses_145 t m (nI l.val) (nI u.val) (nI due) (nI f) h = jb_L_presses_230 t m (nI l.val) (nI u.val) (nI due) (nI f) (nI (caR way (foR u v r))) (nI (loR way (foR u v r))) (nI (toR f u v r)) (nI (reR k0 (toR f u v r))) h := fun F0 => by
    unfold jb_L_presses_145 jb_L_presses_146
    rw [if_pos rfl]
    unfold jb_L_presses_167 jb_L_presses_168
    rw [if_pos rfl]
    unfold jb_L_presses_189
    rw [pr_190 e8 hk e3 e4 hr hf]
    have a : caR way (foR u v r) = 0 := by rw [F0]; unfold caR; split <;> rfl
    have b : loR way (foR u v r) = 0 := by rw [F0]; unfold loR; split <;> rfl
    rw [a, b]
    rfl
  unfold jb_L_presses_24
  rw [en, gb_some, if_pos (nI_pos' (by omega)), ix61, gck_nI (by omega) (by decide), nI_clamp (by omega), q1, gl_eq, ix62, gck_nI (by omega) (by decide), gck_nI (by omega) (by decide), gd_100, nI_clamp (by omega), q2, nI_clamp (by omega), yu, l1, gl_eq, ix64, gck_nI (by omega) (by decide), gd_1000, gk_9_15, gd_1000, nI_clamp (by omega), q4, l2, tn_9, e9, l3, gl_eq, gk_3_15, tn_3, e3, gk_3_15]
  by_cases r0 : r = 0
  · rw [if_pos r0, if_pos (by decide)]
    exact no (by unfold foR; split <;> omega)
  · rw [if_neg r0, if_neg (nI_pos (by omega))]
    by_cases q : v = u
    · rw [if_pos (by rw [q])]
      exact no (by unfold foR; rw [if_pos q])
    · rw [if_neg (fun w => q (Fin.ext (nI_inj (by omega) (by omega) w)))]
      have F : foR u v r = r := if_neg q
      unfold jb_L_presses_146
      rw [if_neg (by decide), gk_13_15, tn_13, e13]
      by_cases w2 : way = 2
      · rw [if_pos (by rw [w2]; rfl), gk_4_15, tn_4, e4]
        unfold jb_L_presses_168
        rw [if_neg (by decide), gk_13_15, tn_13, e13, if_pos (by rw [w2]; decide)]
        unfold jb_L_presses_189
        rw [pr_190 e8 hk e3 e4 hr hf]
        have a : caR way (foR u v r) = r := by rw [F]; unfold caR; rw [if_pos w2]
        have b : loR way (foR u v r) = 0 := by unfold loR; rw [if_pos w2]
        rw [a, b]
        rfl
      · rw [if_neg (nI_nq 2 2 rfl (by decide) (by omega) w2)]
        unfold jb_L_presses_167 jb_L_presses_168
        rw [if_neg (by decide), gk_13_15, tn_13, e13, if_neg (show ¬ (2 : Int32) ≤ nI way from nI_ge (b := 2) (by omega) (by decide)), gk_4_15, tn_4, e4, pr_190 e8 hk e3 e4 hr hf]
        have a : caR way (foR u v r) = 0 := by unfold caR; rw [if_neg w2]
        have b : loR way (foR u v r) = r := by rw [F]; unfold loR; rw [if_neg w2]
        rw [a, b]
        rfl
theorem pr_230 {c : Nat → Int32} {h : Hst} {nl : Nat} (hn : nl ≤ 10) (I : InvC c 3 nl 3) (r19 : R19 c (h.1 19) nl) (rt : RT (h.1 24) c) {l : Fin 40} (hl : l.val < nl) {t : Fin 6} (ht : t.val < 3) (gN : isN (cTa c t 1) 2) {gr : Nat} (egr : gl3 (cLo c l 3) = nI gr) {m : Int32} (u due f : Int32) (L : Int32) {C T Re : Nat} (hRe : Re ≤ T) (hT : T ≤ 13000) (hC : C ≤ 50) :
    jb_L_presses_230 (nI t.val) m (nI l.val) u due f (nI C) L (nI T) (nI Re) h = jb_L_presses_322 (nI t.val) m (nI l.val) u due f (nI C) L (nI T) (nI Re) (nI (C + (T - Re))) (nI gr) (rpV c t l (C + (T - Re)) m) h := by
  have q3 : h.1 19 (6 * l.val + 3) = cLo c l 3 := r19 l hl 3
  have c3 := (I.2.2.2.2.2.2.2.1 l hl).2.2.2.1
  have st : h.1 24 (7 * t.val) = cTa c t 0 := rt.s ht
  have sg : h.1 24 (7 * t.val + 1) = cTa c t 1 := rt.g ht
  obtain ⟨gt, hgt, egt⟩ := gN
  obtain ⟨o, s, o1, o2, eo, es⟩ := oil5_N (I.2.2.2.2.2.2.2.2.2 t)
  unfold jb_L_presses_230 jb_L_presses_321 rpV
  rw [nI_add, pk_sub (by omega), show C + T - Re = C + (T - Re) by omega, gl_eq, ix63, gck_nI (by omega) (by decide), nI_clamp (by omega), q3, gradeL c3, gb_some, egr, ix70, gck_nI (by omega) (by decide), oilL rt ht, gb_some, nI_clamp (by omega), st]
  by_cases p : nI (C + (T - Re)) ≤ roomV c t
  · have p' : nI (C + (T - Re)) ≤ cTa c t 0 - oil5 c t := p
    rw [if_pos p', if_pos p]
    by_cases p0 : nI (C + (T - Re)) ≤ 0
    · rw [if_pos p0, if_pos p0]
    · rw [if_neg p0, if_neg p0]
      unfold adm
      by_cases m0 : m = 0
      · rw [if_pos m0, if_pos m0, oilL rt ht, gb_some, eo]
        unfold grd
        by_cases o0 : o = 0
        · subst o0
          rw [if_pos (show nI 0 ≤ 0 by decide), if_pos (show nI 0 = 0 from rfl), if_pos rfl, if_neg (by decide)]
        · rw [if_neg (nI_nle (by omega) (by omega)), nI_1, gck_nI (by omega) (by decide), nI_clamp (by omega), sg, if_neg (nI_ne0 (by omega) (by omega)), egt, if_neg (nI_neM1 (by omega))]
          by_cases e : nI gt = nI gr
          · rw [if_pos e, if_pos e, if_neg (by decide)]
          · rw [if_neg e, if_neg e, if_pos rfl]
      · rw [if_neg m0, if_neg m0, if_neg (by decide)]
  · have p' : ¬ nI (C + (T - Re)) ≤ cTa c t 0 - oil5 c t := p
    rw [if_neg p', if_neg p]
