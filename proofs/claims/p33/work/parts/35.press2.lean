-- pressing, of the law: what it enters
theorem pr_acc (c : Nat → Int32) (l : Fin 40) (u v : Fin 5) (g : Fin 8) (t : Fin 6) (d ct f : Int32) (L C D Re : Nat) (gr : Int32) :
    (∀ i, cS (prC c l u v g t d ct f L C D Re gr) i = if i = 11 then nI Re else if i = 10 then nI u.val else if i = 12 then (if L = 0 then cS c 12 else cS c 12 + 1) else cS c i) ∧
    (∀ i, cVa (prC c l u v g t d ct f L C D Re gr) i 0 = cVa c i 0) ∧
    (∀ i k, cTa (prC c l u v g t d ct f L C D Re gr) i k = cTa (pourC (pourC c t v (nI C) gr) t u (nI D) gr) i k) ∧
    (∀ i k, cLo (prC c l u v g t d ct f L C D Re gr) i k = cLo (lpC c l d ct f (nI t.val)) i k) ∧
    (∀ i, cGr (prC c l u v g t d ct f L C D Re gr) i 2 = cGr c i 2) ∧
    (∀ i, cGr (prC c l u v g t d ct f L C D Re gr) i 0 = if i = g then cGr c g 0 + f else cGr c i 0) := by
  have eT : ∀ i k, cTa (pourC (pourC (enC (loC c v L) l u g d ct f (nI t.val)) t v (nI C) gr) t u (nI D) gr) i k = cTa (pourC (pourC c t v (nI C) gr) t u (nI D) gr) i k := fun i k =>
    cTa_pour_congr (fun i k => cTa_pour_congr (fun i k => by unfold enC lpC; simp only [cTa_uVa, cTa_uGr, cTa_uLo, cTa_lo]) t v (nI C) gr i k) t u (nI D) gr i k
  refine ⟨fun i => ?_, fun i => ?_, fun i k => ?_, fun i k => ?_, fun i => ?_, fun i => ?_⟩
  · unfold prC
    rw [cS_uS, cS_uS]
    unfold enC lpC
    simp only [cS_pour, cS_uVa, cS_uGr, cS_uLo, cS_lo]
  · unfold prC enC lpC
    simp only [cVa_uS, cVa_pour]
    rw [cVa_uVa, if_neg (fun w => absurd w.2 (by decide))]
    simp only [cVa_uGr, cVa_uLo, cVa_lo0]
  · unfold prC
    simp only [cTa_uS, eT]
  · unfold prC enC lpC
    simp only [cLo_uS, cLo_pour, cLo_uVa, cLo_uGr, cLo_uLo, cLo_lo]
  · unfold prC enC lpC
    simp only [cGr_uS, cGr_pour, cGr_uVa]
    rw [cGr_uGr, if_neg (fun w => absurd w.2 (by decide))]
    simp only [cGr_uLo, cGr_lo]
  · unfold prC enC lpC
    simp only [cGr_uS, cGr_pour, cGr_uVa]
    rw [cGr_uGr]
    simp only [cGr_uLo, cGr_lo]
    by_cases w : i = g
    · rw [if_pos ⟨w, trivial⟩, if_pos w]
    · rw [if_neg (fun z => w z.1), if_neg w]
/-- the law's rows behind the pressing of lot l -/
def prH (H : Hst) (l t due f Re g : Nat) (s y : Int32) : Hst := hst (hst (hst (hst (hst (hst (hst H 17 3 s) 17 4 (nI Re)) 19 (6 * l + 5) 1) 20 l (nI due)) 21 l (nI f)) 23 l (nI t)) 25 g y
theorem pr_456 {H : Hst} {l t due f Re g : Nat} (hl : l < 10) (hg : g < 4) (eg : H.1 19 (6 * l) = nI g) {y : Int32} (ey : H.1 25 g + nI f = y) (m s : Int32) : jb_L_presses_456 (nI t) m (nI l) (nI due) (nI f) (nI Re) s 3 H = gb (f_X6_press (nI t) m (prH H l t due f Re g s y)) fun x10 h9 => if x10 = nI l then jb_L_presses_528 1 h9 else jb_L_presses_528 0 h9 := by
  have e19 : (hst (hst (hst (hst (hst (hst H 17 3 s) 17 4 (nI Re)) 19 (6 * l + 5) 1) 20 l (nI due)) 21 l (nI f)) 23 l (nI t)).1 19 (6 * l) = nI g := by
    show upd (H.1 19) (6 * l + 5) 1 (6 * l) = _
    rw [upd_ne (by omega)]; exact eg
  have e25 : (hst (hst (hst (hst (hst (hst H 17 3 s) 17 4 (nI Re)) 19 (6 * l + 5) 1) 20 l (nI due)) 21 l (nI f)) 23 l (nI t)).1 25 g = H.1 25 g := rfl
  unfold jb_L_presses_456 prH
  rw [gk_3_15, gl_eq, tn_3, gk_4_15, gl_eq, tn_4, ix65, gck_nI (by omega) (by decide), nI_clamp (by omega), gl_eq, gck_nI hl (by decide), nI_clamp (by omega), gl_eq, gck_nI hl (by decide), gl_eq, gck_nI hl (by decide), gl_eq, ix60, gck_nI (by omega) (by decide), nI_clamp (by omega), gl_eq, e19, gck_nI hg (by decide), gck_nI hg (by decide), nI_clamp (by omega), gl_eq, e25, ey]
theorem act_press {h H : Hst} {nl b : Nat} (j : J h nl b) (hb : b ≤ 47) (l : Fin 40) (hl : l.val < nl) (u v : Fin 5) (g : Fin 8) (hg : g.val < 3) (eg : cLo (h.1 8) l 0 = nI g.val) (t : Fin 6) (ht : t.val < 3) {due cont f k0 r way : Nat} (LV : LotV (h.1 8) l u due cont f k0) (fc : f ≤ cont) (cc : cont ≤ 12000) (ev : cS (h.1 8) 10 = nI v.val) (er : cS (h.1 8) 11 = nI r) (hr : r ≤ 50) (ew : cS (h.1 8) 5 = nI way) (hw : way ≤ 2) (p : pick (h.1 8) nl (wB (h.1 8)) v r way = some l.val) (m : Int32)
    {L C T Re gr : Nat} (eL : loR way (foR u v r) = L) (eC : caR way (foR u v r) = C) (eT : toR f u v r = T) (eR : reR k0 T = Re) (egr : gl3 (cLo (h.1 8) l 3) = nI gr) (hgr : gr ≤ 2) (rv0 : rpV (h.1 8) t l (C + (T - Re)) m = 0)
    (k8 : ∀ k, k ≠ 17 → k ≠ 24 → H.1 k = h.1 k) (k17 : ∀ i, i ≠ 5 → H.1 17 i = h.1 17 i) (k5 : H.1 17 5 = if L = 0 then cS (h.1 8) 12 else cS (h.1 8) 12 + 1) (R24 : RT (H.1 24) (pourC (pourC (h.1 8) t v (nI C) (nI gr)) t u (nI (T - Re)) (nI gr))) {s : Int32} (es : s = if nI Re = 0 then -1 else nI u.val) :
    ∃ h', jb_L_presses_456 (nI t.val) m (nI l.val) (nI due) (nI f) (nI Re) s 3 H = some (1, h') ∧ J h' nl (b + 1) := by
  obtain ⟨hn, S, I, ⟨⟨n0, n1, n2, n3, n4, n5, n6, n7⟩, n8⟩, r18, r19, r20, r22, rt, r25, rg⟩ := id j
  have hf : f ≤ 12000 := by omega
  have hk := LV.2.2.2.2.2.2
  have fo := foR_le u v r
  have to := toR_le f u v r
  have re := reR_le k0 T
  have ca := caR_le way (foR u v r)
  have lo := loR_le way (foR u v r)
  obtain ⟨a, aL, ea⟩ := rg.2.2 g hg
  have hRe : Re ≤ T := by omega
  have hT : T ≤ 13000 := by omega
  have room := rpV_room rv0
  have q0 : H.1 19 (6 * l.val) = nI g.val := by rw [k8 19 (by decide) (by decide)]; exact (r19 l hl 0).trans eg
  have ac0 : H.1 25 g.val + nI f = nI (a + f) := by rw [k8 25 (by decide) (by decide), r25 g hg, ea, nI_add]
  have g8 : (prH H l.val t.val due f Re g.val s (nI (a + f))).1 8 = h.1 8 := k8 8 (by decide) (by decide)
  have ac : ∃ h', f_X2_lookAhead (prH H l.val t.val due f Re g.val s (nI (a + f))) = some (1, h') ∧ ScrC (prH H l.val t.val due f Re g.val s (nI (a + f))) h' ∧ RehC h' l u v due cont f L C T Re := by
    have := ahead_some I LV ev er hr ew hw p (prH H l.val t.val due f Re g.val s (nI (a + f))) g8
    rw [eL, eC, eT, eR] at this
    exact this
  obtain ⟨h', e', e8, S', ou⟩ := cls_press (h := prH H l.val t.val due f Re g.val s (nI (a + f))) (ng := 3) (nl := nl) (nt := 3) ((S.same (k8 1 (by decide) (by decide)) : SVx H).same rfl) (by rw [g8]; exact I) l hl u v g hg (by rw [g8]; exact eg) t ht (by rw [g8]; exact LV) hRe (by omega) hT (by omega) (by omega) m (by rw [g8]; exact rv0) ac
  rw [g8, egr] at e8
  have I' := inv_pr (L := L) (Re := Re) I l hl u v g hg t ht LV (by omega) (by omega) (D := T - Re) (C := C) (by omega) room (nI gr)
  obtain ⟨aS, aV, aT, aLo, aG2, aG0⟩ := pr_acc (h.1 8) l u v g t (nI due) (nI cont) (nI f) L C (T - Re) Re (nI gr)
  generalize prC (h.1 8) l u v g t (nI due) (nI cont) (nI f) L C (T - Re) Re (nI gr) = X at e8 I' aS aV aT aLo aG2 aG0
  have f17 : (prH H l.val t.val due f Re g.val s (nI (a + f))).1 17 = upd (upd (H.1 17) 3 s) 4 (nI Re) := rfl
  have f18 : (prH H l.val t.val due f Re g.val s (nI (a + f))).1 18 = h.1 18 := k8 18 (by decide) (by decide)
  have f19 : (prH H l.val t.val due f Re g.val s (nI (a + f))).1 19 = upd (h.1 19) (6 * l.val + 5) 1 := by
    show upd (H.1 19) _ _ = _
    rw [k8 19 (by decide) (by decide)]
  have f20 : (prH H l.val t.val due f Re g.val s (nI (a + f))).1 20 = upd (h.1 20) l.val (nI due) := by
    show upd (H.1 20) _ _ = _
    rw [k8 20 (by decide) (by decide)]
  have f21 : (prH H l.val t.val due f Re g.val s (nI (a + f))).1 21 = upd (h.1 21) l.val (nI f) := by
    show upd (H.1 21) _ _ = _
    rw [k8 21 (by decide) (by decide)]
  have f22 : (prH H l.val t.val due f Re g.val s (nI (a + f))).1 22 = h.1 22 := k8 22 (by decide) (by decide)
  have f23 : (prH H l.val t.val due f Re g.val s (nI (a + f))).1 23 = upd (h.1 23) l.val (nI t.val) := by
    show upd (H.1 23) _ _ = _
    rw [k8 23 (by decide) (by decide)]
  have f24 : (prH H l.val t.val due f Re g.val s (nI (a + f))).1 24 = H.1 24 := rfl
  have f25 : (prH H l.val t.val due f Re g.val s (nI (a + f))).1 25 = upd (h.1 25) g.val (nI (a + f)) := by
    show upd (H.1 25) _ _ = _
    rw [k8 25 (by decide) (by decide)]
  have x5 : cLo X l 5 = 1 := by rw [aLo]; unfold lpC; simp only [cLo_uLo]; rfl
  have x6 : cLo X l 6 = nI due := by rw [aLo]; unfold lpC; simp only [cLo_uLo]; rfl
  have x7 : cLo X l 7 = nI cont := by rw [aLo]; unfold lpC; simp only [cLo_uLo]; rfl
  have x8 : cLo X l 8 = nI f := by rw [aLo]; unfold lpC; simp only [cLo_uLo]; rfl
  have x10 : cLo X l 10 = nI t.val := by rw [aLo]; unfold lpC; simp only [cLo_uLo]; rfl
  have xn : ∀ k : Fin 11, k ≠ 5 → k ≠ 6 → k ≠ 7 → k ≠ 8 → k ≠ 10 → cLo X l k = cLo (h.1 8) l k := fun k a5 a6 a7 a8 a10 => by rw [aLo, lpC_ne _ _ _ _ _ _ k a5 a6 a7 a8 a10]
  have xo : ∀ (l' : Fin 40) (k : Fin 11), ¬ l' = l → cLo X l' k = cLo (h.1 8) l' k := fun l' k q => by rw [aLo, lpC_l _ _ _ _ _ _ _ _ q]
  refine ⟨h', ?_, J_end hn e8 S' ou I' ?_⟩
  · rw [pr_456 (by omega) (by omega) q0 ac0, e', gb_some, if_pos rfl]
    unfold jb_L_presses_528
    rw [gzr_1]
  · unfold RelL
    rw [f17, f18, f19, f20, f21, f22, f23, f24, f25]
    refine ⟨⟨?_, fun i => ?_⟩, r18.congr aV, fun l' hl' k => ?_, fun l' hl' w5 => ?_, fun l' hl' w5 => ?_, R24.congr (fun t' _ k => aT t' k), fun g' hg' => ?_, fun t' ht' => ?_, fun l' hl' w5 => ?_, fun g' hg' => ?_⟩
    · have q3 : rv X = s := by
        unfold rv
        rw [aS, if_pos rfl, aS, if_neg (show ¬ (10 : Fin 14) = 11 by decide), if_pos rfl, es]
      have q7 : sum8 (fun g => cGr X g 2) = sum8 (fun g => cGr (h.1 8) g 2) := by
        congr 1; funext i; exact aG2 i
      have q11 : cS X 11 = nI Re := by rw [aS, if_pos rfl]
      have q12 : cS X 12 = if L = 0 then cS (h.1 8) 12 else cS (h.1 8) 12 + 1 := by rw [aS, if_neg (by decide), if_neg (by decide), if_pos rfl]
      have q13 : cS X 13 = cS (h.1 8) 13 := by rw [aS, if_neg (by decide), if_neg (by decide), if_neg (by decide)]
      rw [q3, q7, q11, q12, q13, upd_ne (by decide), upd_ne (by decide), k17 0 (by decide), upd_ne (by decide), upd_ne (by decide), k17 1 (by decide), upd_ne (by decide), upd_ne (by decide), k17 2 (by decide), upd_ne (by decide), upd_eq, upd_eq, upd_ne (by decide), upd_ne (by decide), k5, upd_ne (by decide), upd_ne (by decide), k17 6 (by decide), upd_ne (by decide), upd_ne (by decide), k17 7 (by decide)]
      exact ⟨n0, n1, n2, rfl, rfl, rfl, n6, n7⟩
    · have li := i.isLt
      rw [upd_ne (by omega), upd_ne (by omega), k17 _ (by omega), aS, if_neg (fun w => by have : i.val = 11 := congrArg Fin.val w; omega), if_neg (fun w => by have : i.val = 10 := congrArg Fin.val w; omega), if_neg (fun w => by have : i.val = 12 := congrArg Fin.val w; omega)]
      exact n8 i
    · have lk := k.isLt
      rw [upd_at]
      by_cases q : l' = l
      · subst q
        by_cases k5 : k.val = 5
        · rw [if_pos (by omega), show (⟨k.val, by omega⟩ : Fin 11) = 5 from Fin.ext k5, x5]
        · rw [if_neg (by omega), xn _ (fun w => k5 (congrArg Fin.val w)) (fun w => by have : k.val = 6 := congrArg Fin.val w; omega) (fun w => by have : k.val = 7 := congrArg Fin.val w; omega) (fun w => by have : k.val = 8 := congrArg Fin.val w; omega) (fun w => by have : k.val = 10 := congrArg Fin.val w; omega)]
          exact r19 l' hl' k
      · have : l'.val ≠ l.val := fun w => q (Fin.ext w)
        rw [if_neg (by omega), xo l' _ q]
        exact r19 l' hl' k
    · by_cases q : l' = l
      · subst q
        rw [x6, x8, x10, upd_eq, upd_eq, upd_eq]
        exact ⟨rfl, rfl, rfl⟩
      · have : l'.val ≠ l.val := fun w => q (Fin.ext w)
        rw [xo l' _ q] at w5
        rw [xo l' _ q, xo l' _ q, xo l' _ q, upd_ne this, upd_ne this, upd_ne this]
        exact r20 l' hl' w5
    · by_cases q : l' = l
      · rw [q, x5] at w5; exact absurd w5 (by decide)
      · rw [xo l' _ q] at w5
        rw [xo l' _ q]
        exact r22 l' hl' w5
    · rw [aG0, upd_at]
      by_cases q : g' = g
      · rw [if_pos (congrArg Fin.val q), if_pos q, ea, nI_add]
      · rw [if_neg (fun w => q (Fin.ext w)), if_neg q]; exact r25 g' hg'
    · rw [aT]
      obtain ⟨rr, rr2, er2⟩ := roomV_N (I.2.2.2.2.2.2.2.2.2 t)
      have cd : C + (T - Re) ≤ rr := by
        rw [er2] at room
        exact Nat.le_of_not_lt (fun w => nI_ge w (by omega) room)
      have I2 := inv_pour I t ht v (nI C) (nI gr) (by rw [er2]; exact nI_le (by omega) (by omega))
      exact pour_grade (I2.2.2.2.2.2.2.2.2.2 t) u _ hgr (pour_grade (I.2.2.2.2.2.2.2.2.2 t) v _ hgr (rg.1 t' ht'))
    · by_cases q : l' = l
      · subst q
        exact ⟨cont, f, fc, cc, x7, x8⟩
      · rw [xo l' _ q] at w5
        rw [xo l' _ q, xo l' _ q]
        exact rg.2.1 l' hl' w5
    · rw [aG0]
      by_cases q : g' = g
      · rw [if_pos q, ea, nI_add]
        exact ⟨a + f, by omega, rfl⟩
      · rw [if_neg q]
        exact (rg.2.2 g' hg').imp fun n w => ⟨by omega, w.2⟩
