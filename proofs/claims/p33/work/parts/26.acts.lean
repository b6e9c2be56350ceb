-- what is behind an act
theorem J_end {h2 h' : Hst} {C : Nat → Int32} {nl b : Nat} (hn : nl ≤ 10) (e8 : h'.1 8 = C) (S : SVx h') (ou : Out h2 h') (I : InvC C 3 nl 3) (R : RelL C h2.1 nl b) : J h' nl b := by
  refine ⟨hn, S, by rw [e8]; exact I, ?_⟩
  rw [e8]
  unfold RelL
  rw [ou 17 (by decide), ou 18 (by decide), ou 19 (by decide), ou 20 (by decide), ou 21 (by decide), ou 22 (by decide), ou 23 (by decide), ou 24 (by decide), ou 25 (by decide)]
  exact R
theorem R18.congr {c c' ye : Nat → Int32} (R : R18 c ye) (e : ∀ v, cVa c' v 0 = cVa c v 0) : R18 c' ye := fun v => (R v).trans (e v).symm
theorem R19.congr {c c' lo : Nat → Int32} {nl : Nat} (R : R19 c lo nl) (e : ∀ l k, cLo c' l k = cLo c l k) : R19 c' lo nl := fun l hl k => (R l hl k).trans (e l _).symm
theorem R20.congr {c c' du fi into : Nat → Int32} {nl : Nat} (R : R20 c du fi into nl) (e : ∀ l k, cLo c' l k = cLo c l k) : R20 c' du fi into nl := fun l hl h5 => by
  rw [e] at h5
  rw [e, e, e]
  exact R l hl h5
theorem R22.congr {c c' se : Nat → Int32} {nl : Nat} (R : R22 c se nl) (e : ∀ l k, cLo c' l k = cLo c l k) : R22 c' se nl := fun l hl h5 => by
  rw [e] at h5
  rw [e]
  exact R l hl h5
theorem R25.congr {c c' ac : Nat → Int32} (R : R25 c ac) (e : ∀ g, cGr c' g 0 = cGr c g 0) : R25 c' ac := fun g hg => (R g hg).trans (e g).symm
theorem RG.congr {c c' : Nat → Int32} {nl b : Nat} (R : RG c nl b) (e : ∀ t, cTa c' t 1 = cTa c t 1) (e2 : ∀ l k, cLo c' l k = cLo c l k) (e3 : ∀ g, cGr c' g 0 = cGr c g 0) : RG c' nl b :=
  ⟨fun t ht => by rw [e]; exact R.1 t ht, fun l hl h5 => by rw [e2] at h5; rw [e2, e2]; exact R.2.1 l hl h5, fun g hg => by rw [e3]; exact R.2.2 g hg⟩
theorem J.e1 {h : Hst} {nl b : Nat} (j : J h nl b) : h.1 17 0 = nI 3 ∧ h.1 17 1 = nI nl ∧ h.1 17 2 = nI 3 := ⟨j.2.2.2.1.1.1, j.2.2.2.1.1.2.1, j.2.2.2.1.1.2.2.1⟩
theorem upd_ne {f : Nat → Int32} {j : Nat} {x : Int32} {i : Nat} (h : i ≠ j) : upd f j x i = f i := if_neg h
theorem upd_eq {f : Nat → Int32} {j : Nat} {x : Int32} : upd f j x j = x := if_pos rfl
theorem cS_ne (c : Nat → Int32) {k i : Fin 14} (x : Int32) (h : i.val ≠ k.val) : cS (uS c k x) i = cS c i := by rw [cS_uS, if_neg (fun z => h (congrArg Fin.val z))]
-- a setting
theorem rv_uS {c : Nat → Int32} {k : Fin 14} (hk : k.val < 10) (x : Int32) : rv (uS c k x) = rv c := by
  unfold rv
  rw [cS_ne c x (show (11 : Fin 14).val ≠ k.val by show 11 ≠ k.val; omega), cS_ne c x (show (10 : Fin 14).val ≠ k.val by show 10 ≠ k.val; omega)]
theorem act_set {h : Hst} {nl b : Nat} (j : J h nl b) {k n : Nat} (hk : k < 7) (h0 : LO k ≤ n) (h1 : n ≤ MX k) : ∃ h', jb_L_act_541 (nI k) (h.1 17 (8 + k)) (nI n) (nI (8 + k)) h = some (1, h') ∧ J h' nl b := by
  obtain ⟨hn, S, I, R⟩ := j
  obtain ⟨h', e', e8, S', ou⟩ := cls_set (h := hst h 17 (8 + k) (nI n)) (S.same rfl) hk h0 h1
  obtain ⟨⟨⟨n0, n1, n2, n3, n4, n5, n6, n7⟩, n8⟩, r18, r19, r20, r22, rt, r25, rg⟩ := R
  have f8 : (hst h 17 (8 + k) (nI n)).1 8 = h.1 8 := rfl
  have f17 : (hst h 17 (8 + k) (nI n)).1 17 = upd (h.1 17) (8 + k) (nI n) := rfl
  rw [f8] at e' e8
  have was : h.1 17 (8 + k) = cS (h.1 8) ⟨k, by omega⟩ := n8 ⟨k, hk⟩
  refine ⟨h', ?_, ?_⟩
  · unfold jb_L_act_541 jb_L_act_565
    rw [gck_nI (by omega) (by decide), nI_clamp (by omega), gl_eq, show (8 : Int32) + nI k = nI (8 + k) from nI_add 8 k, gck_nI (by omega) (by decide), nI_clamp (by omega), f17, upd_at, if_pos rfl, e', gb_some, was, if_pos rfl, gzr_1]
  · refine J_end hn e8 S' ou (inv_set I ⟨k, hk⟩ ⟨n, h1, rfl⟩) ⟨⟨?_, fun i => ?_⟩, r18.congr (fun v => cVa_uS _ _ _ _ _), r19.congr (fun l k => cLo_uS _ _ _ _ _), r20.congr (fun l k => cLo_uS _ _ _ _ _), r22.congr (fun l k => cLo_uS _ _ _ _ _), rt.congr (fun t _ k => cTa_uS _ _ _ _ _), r25.congr (fun g => cGr_uS _ _ _ _ _), rg.congr (fun t => cTa_uS _ _ _ _ _) (fun l k => cLo_uS _ _ _ _ _) (fun g => cGr_uS _ _ _ _ _)⟩
    · rw [f17]
      simp only [cGr_uS]
      rw [upd_ne (by omega), upd_ne (by omega), upd_ne (by omega), upd_ne (by omega), upd_ne (by omega), upd_ne (by omega), upd_ne (by omega), upd_ne (by omega), rv_uS (by show k < 10; omega), cS_ne _ _ (show 11 ≠ k by omega), cS_ne _ _ (show 12 ≠ k by omega), cS_ne _ _ (show 13 ≠ k by omega)]
      exact ⟨n0, n1, n2, n3, n4, n5, n6, n7⟩
    · rw [f17, upd_at, cS_uS]
      by_cases q : i.val = k
      · rw [if_pos (by omega), if_pos (Fin.ext q)]
      · rw [if_neg (by omega), if_neg (fun z => q (congrArg Fin.val z))]
        exact n8 i
-- a yield
theorem act_yield {h : Hst} {nl b : Nat} (j : J h nl b) {v n : Nat} (hv : v < 5) (n1 : 50 ≤ n) (n2 : n ≤ 400) : ∃ h', f_X6_setYield (nI v) (nI n) (hst h 18 v (nI n)) = some (h.1 18 v, h') ∧ J h' nl b := by
  obtain ⟨hn, S, I, R⟩ := j
  obtain ⟨h', e', e8, S', ou⟩ := cls_setYield (h := hst h 18 v (nI n)) (S.same rfl) hv n1 n2
  obtain ⟨r17, r18, r19, r20, r22, rt, r25, rg⟩ := R
  have f8 : (hst h 18 v (nI n)).1 8 = h.1 8 := rfl
  have f18 : (hst h 18 v (nI n)).1 18 = upd (h.1 18) v (nI n) := rfl
  rw [f8] at e' e8
  refine ⟨h', ?_, ?_⟩
  · rw [e', ← r18 ⟨v, hv⟩]
  · refine J_end hn e8 S' ou (inv_V I ⟨v, hv⟩ 0 _ (fun _ => ⟨n, n2, rfl⟩)) ⟨⟨?_, fun i => ?_⟩, ?_, r19.congr (fun l k => cLo_uVa _ _ _ _ _ _), r20.congr (fun l k => cLo_uVa _ _ _ _ _ _), r22.congr (fun l k => cLo_uVa _ _ _ _ _ _), rt.congr (fun t _ k => cTa_uVa _ _ _ _ _ _), r25.congr (fun g => cGr_uVa _ _ _ _ _ _), rg.congr (fun t => cTa_uVa _ _ _ _ _ _) (fun l k => cLo_uVa _ _ _ _ _ _) (fun g => cGr_uVa _ _ _ _ _ _)⟩
    · have : rv (uVa (h.1 8) ⟨v, hv⟩ 0 (nI n)) = rv (h.1 8) := by unfold rv; rw [cS_uVa, cS_uVa]
      rw [this]
      simp only [cS_uVa, cGr_uVa]
      exact r17.1
    · rw [cS_uVa]; exact r17.2 i
    · intro i
      rw [f18, upd_at, cVa_uVa]
      by_cases q : i.val = v
      · rw [if_pos q, if_pos ⟨Fin.ext q, rfl⟩]
      · rw [if_neg q, if_neg (fun z => q (congrArg Fin.val z.1))]
        exact r18 i
-- cleaning
theorem act_clean {h : Hst} {nl b : Nat} (j : J h nl b) : ∃ h', gl (h.1 17 4) (fun x11 => if x11 ≤ 0 then jb_L_act_591 x11 h else gck 5 15 (gck 5 15 (gl (hst h 17 5 (h.1 17 5 + 1)) fun h12 => jb_L_act_591 x11 h12))) = some (1, h') ∧ J h' nl b := by
  obtain ⟨hn, S, I, R⟩ := j
  obtain ⟨-, -, -, ⟨⟨v, ev⟩, r, hr, er⟩, -⟩ := id I
  obtain ⟨⟨⟨n0, n1, n2, n3, n4, n5, n6, n7⟩, n8⟩, r18, r19, r20, r22, rt, r25, rg⟩ := R
  have main : ∀ h1 : Hst, h1.1 1 = h.1 1 → h1.1 8 = h.1 8 → (∀ k, 17 < k → h1.1 k = h.1 k) → (∀ i, i ≠ 5 → h1.1 17 i = h.1 17 i) → h1.1 17 5 = (if r = 0 then cS (h.1 8) 12 else cS (h.1 8) 12 + 1) → ∃ h', jb_L_act_591 (nI r) h1 = some (1, h') ∧ J h' nl b := fun h1 g1 g8 gk gi g5 => by
    obtain ⟨h', e', e8, S', ou⟩ := cls_clean (h := hst (hst h1 17 3 (-1)) 17 4 0) (v := v) (r := r) ((S.same g1 : SVx h1).same rfl) (by show cS (h1.1 8) 11 = _; rw [g8]; exact er) (by show cS (h1.1 8) 10 = _; rw [g8]; exact ev) hr
    have f8 : (hst (hst h1 17 3 (-1)) 17 4 0).1 8 = h.1 8 := g8
    have f17 : (hst (hst h1 17 3 (-1)) 17 4 0).1 17 = upd (upd (h1.1 17) 3 (-1)) 4 0 := rfl
    have fk : ∀ k, 17 < k → (hst (hst h1 17 3 (-1)) 17 4 0).1 k = h.1 k := fun k hk => by
      rw [hst_at, if_neg (by omega), hst_at, if_neg (by omega), gk k hk]
    rw [f8] at e8
    refine ⟨h', ?_, ?_⟩
    · unfold jb_L_act_591 jb_L_act_613
      rw [gk_3_15, gl_eq, tn_3, gk_4_15, gl_eq, tn_4, e', gb_some, if_pos rfl, gzr_1]
    · have I1 : InvC (uS (loC (h.1 8) v r) 11 0) 3 nl 3 := by
        have I0 := inv_R (inv_lo I v r) v 0 ⟨0, by decide, rfl⟩
        refine I0.acc (fun i k => ?_) (fun i k => ?_) (fun i k => ?_) (fun i k => ?_) (fun i => ?_)
        · simp only [cGr_uS]
        · simp only [cLo_uS]
        · simp only [cTa_uS]
        · simp only [cVa_uS]
        · simp only [cS_uS]
          by_cases q : i = 10
          · subst q
            rw [if_neg (by decide), if_neg (by decide), if_pos rfl, cS_lo, if_neg (by decide), ev]
          · rw [if_neg q]
      refine J_end hn e8 S' ou I1 ?_
      unfold RelL
      rw [f17, fk 18 (by decide), fk 19 (by decide), fk 20 (by decide), fk 21 (by decide), fk 22 (by decide), fk 23 (by decide), fk 24 (by decide), fk 25 (by decide)]
      refine ⟨⟨?_, fun i => ?_⟩, r18.congr (fun v' => by rw [cVa_uS, cVa_lo0]), r19.congr (fun l k => by rw [cLo_uS, cLo_lo]), r20.congr (fun l k => by rw [cLo_uS, cLo_lo]), r22.congr (fun l k => by rw [cLo_uS, cLo_lo]), rt.congr (fun t _ k => by rw [cTa_uS, cTa_lo]), r25.congr (fun g => by rw [cGr_uS, cGr_lo]), rg.congr (fun t => by rw [cTa_uS, cTa_lo]) (fun l k => by rw [cLo_uS, cLo_lo]) (fun g => by rw [cGr_uS, cGr_lo])⟩
      · have q3 : rv (uS (loC (h.1 8) v r) 11 0) = -1 := by unfold rv; rw [cS_uS, if_pos rfl, if_pos rfl]
        rw [q3]
        simp only [upd_at, cS_uS, cGr_uS, cGr_lo]
        refine ⟨?_, ?_, ?_, rfl, rfl, ?_, ?_, ?_⟩
        · rw [if_neg (by decide), if_neg (by decide), gi 0 (by decide)]; exact n0
        · rw [if_neg (by decide), if_neg (by decide), gi 1 (by decide)]; exact n1
        · rw [if_neg (by decide), if_neg (by decide), gi 2 (by decide)]; exact n2
        · rw [if_neg (by decide), if_neg (by decide), if_neg (show ¬ (12 : Fin 14) = 11 by decide), cS_lo, if_pos rfl]; exact g5
        · rw [if_neg (by decide), if_neg (by decide), gi 6 (by decide), if_neg (by decide), cS_lo, if_neg (by decide)]; exact n6
        · rw [if_neg (by decide), if_neg (by decide), gi 7 (by decide)]; exact n7
      · have li := i.isLt
        rw [upd_ne (by omega), upd_ne (by omega), gi _ (by omega), cS_ne _ _ (show i.val ≠ 11 by omega), cS_lo, if_neg (fun z => by have : i.val = 12 := congrArg Fin.val z; omega)]
        exact n8 i
  rw [gl_eq, n4, er]
  by_cases r0 : r = 0
  · rw [if_pos (by rw [r0]; decide)]
    exact main h rfl rfl (fun _ _ => rfl) (fun _ _ => rfl) (by rw [if_pos r0]; exact n5)
  · rw [if_neg (nI_nle (by omega) (by omega)), gk_5_15, gk_5_15, gl_eq]
    refine main (hst h 17 5 (h.1 17 5 + 1)) rfl rfl (fun k hk => by rw [hst_at, if_neg (by omega)]) (fun i hi => ?_) ?_
    · rw [hst_at, if_pos rfl, upd_at, if_neg hi]
    · rw [hst_at, if_pos rfl, upd_at, if_pos rfl, if_neg r0, n5]
