theorem roomV_lo (c : Nat → Int32) (v : Fin 5) (L : Nat) (t : Fin 6) : roomV (loC c v L) t = roomV c t := by
  unfold roomV oil5
  simp only [cTa_lo]
theorem pourM_v {t : Fin 6} {v : Fin 5} {s0 : Int32} {C : Nat} (hs : s0 = nI v.val ∨ C = 0) (g : Int32) (h : Hst) : f_X7_pour (nI t.val) s0 (nI C) g h = some (hso h 18 (pourZ (h.1 18) t v (nI C) g)) := by
  rcases hs with rfl | rfl
  · exact pour_M t v (nI C) g h
  · unfold f_X7_pour jb_X7_pour_61 pourZ
    rw [if_pos (by decide), if_pos (by decide), hso_self]
theorem gl_zv {β : Type} {b i : Nat} (hb : b + i < 514) (H : Hst) (Z : Nat → Int32) (x : Int32) (F : Hst → Option β) : (gl (nI b + nI i) fun y => gck y 514 (gck y 514 (gl (hst H 18 y.toNatClampNeg (Z y.toNatClampNeg + x)) F))) = F (hst H 18 (b + i) (Z (b + i) + x)) := by
  rw [nI_add, gl_eq, gck_nI hb (by decide), gck_nI hb (by decide), nI_clamp (by omega), gl_eq]
theorem pr_134 {Z : Nat → Int32} {l : Fin 40} {u : Fin 5} {g : Fin 8} {t : Fin 6} {due f L C T Re : Nat} (y : Int32) (H : Hst) (e : H.1 18 = Z) (M : RehM H l due f L C T Re) (eg : zL Z l 0 = nI g.val) :
    jb_X7_press_134 (nI t.val) (nI u.val) y 10 H = some (nI l.val, hso H 18 (lpZ (wV (wG (wS (wS Z 10 y) 11 (nI Re)) 0 g (zG (wS (wS Z 10 y) 11 (nI Re)) 0 g + nI f)) 1 u (zV (wG (wS (wS Z 10 y) 11 (nI Re)) 0 g (zG (wS (wS Z 10 y) 11 (nI Re)) 0 g + nI f)) 1 u + nI f)) l (nI due) (nI f) (nI t.val))) := by
  have lg := g.isLt
  have lu := u.isLt
  obtain ⟨r9, r10, r11, r12, r13, r14, r15⟩ := M
  have s : ∀ Z k, (hso H 18 Z).1 17 k = H.1 17 k := fun _ _ => rfl
  have w : ∀ Z, (hso H 18 Z).1 18 = Z := fun _ => rfl
  have b0 : hst H 18 10 y = hso H 18 (wS Z 10 y) := by rw [← e]; rfl
  have b1 : hst (hso H 18 (wS Z 10 y)) 18 11 (nI Re) = hso H 18 (wS (wS Z 10 y) 11 (nI Re)) := by rw [hst_hso]; rfl
  have l0 : zL (wS (wS Z 10 y) 11 (nI Re)) l 0 = nI g.val := by rw [zL_wS, zL_wS]; exact eg
  unfold jb_X7_press_134
  rw [gk_10_514, tn_10, gl_eq, b0, s, r15, gk_11_514, tn_11, gl_eq, b1, s, r9, ofLot_0, gb_some, w, l0]
  generalize hz1 : wS (wS Z 10 y) 11 (nI Re) = Z1
  rw [s, r11, show (40 : Int32) = nI 40 from rfl, gl_zv (by omega), hst_hso]
  change (gl (20 + nI u.val) fun x7 => gck x7 514 (gck x7 514 (gl (hst (hso H 18 (wG Z1 0 g (zG Z1 0 g + nI f))) 18 x7.toNatClampNeg (((hso H 18 (wG Z1 0 g (zG Z1 0 g + nI f))).1 18 x7.toNatClampNeg) + ((hso H 18 (wG Z1 0 g (zG Z1 0 g + nI f))).1 17 11))) _))) = _
  rw [s, r11, show (20 : Int32) = nI 20 from rfl, gl_z (by omega), hst_hso, w]
  change gbv (f_X7_setLot ((hso H 18 (wV (wG Z1 0 g (zG Z1 0 g + nI f)) 1 u (zV (wG Z1 0 g (zG Z1 0 g + nI f)) 1 u + nI f))).1 17 9) 5 1 (hso H 18 (wV (wG Z1 0 g (zG Z1 0 g + nI f)) 1 u (zV (wG Z1 0 g (zG Z1 0 g + nI f)) 1 u + nI f)))) _ = _
  rw [s, r9, setLot_5, gbv_some, w, hso_hso, s, r9, s, r10, setLot_6, gbv_some, w, hso_hso, s, r9, s, r11, setLot_7, gbv_some, w, hso_hso, s, r9, setLot_9, gbv_some, w, hso_hso, s, r9]
  rfl
theorem pr_95 {l : Fin 40} {u v : Fin 5} {t : Fin 6} {due f L C T Re : Nat} {s0 : Int32} (hs : s0 = nI v.val ∨ C = 0) (gr : Int32) (H : Hst) (M : RehM H l due f L C T Re) :
    jb_X7_press_95 (nI t.val) (nI u.val) gr s0 (nI t.val) H = jb_X7_press_134 (nI t.val) (nI u.val) (if nI Re = 0 then -1 else nI u.val) 10 (hso H 18 (pourZ (pourZ (H.1 18) t v (nI C) gr) t u (nI (T - Re)) gr)) := by
  obtain ⟨r9, r10, r11, r12, r13, r14, r15⟩ := M
  have s : ∀ Z k, (hso H 18 Z).1 17 k = H.1 17 k := fun _ _ => rfl
  have w : ∀ Z, (hso H 18 Z).1 18 = Z := fun _ => rfl
  unfold jb_X7_press_95
  rw [r13, pourM_v hs, gbv_some, s, r14, pour_M, gbv_some, w, hso_hso, s, r15]
  by_cases q : nI Re = 0
  · rw [if_pos q, if_pos q]
  · rw [if_neg q, if_neg q]
theorem press_M {c : Nat → Int32} {ng nl nt : Nat} (I : InvC c ng nl nt) (H : Hst) (R : RelCZ c (H.1 18) nl) (l : Fin 40) (hl : l.val < nl) (h0 : cLo c l 5 = 0) (g : Fin 8) (hg : g.val < ng) (eg : cLo c l 0 = nI g.val) (u v : Fin 5) (t : Fin 6) (ht : t.val < nt) (gr : Int32) {r L C T Re due cont f k0 : Nat}
    (LV : LotV c l u due cont f k0) (ev : cS c 10 = nI v.val) (er : cS c 11 = nI r) (hr : r ≤ 50) (rz : r = 0 → L = 0 ∧ C = 0) (hRe : Re ≤ T) (hR5 : Re ≤ 50) (hT : T ≤ 13000) (hC : C ≤ 50) (hL : L ≤ 50) (room : nI (C + (T - Re)) ≤ roomV c t) (M : RehM H l due f L C T Re) :
    ∃ z', (gbv (f_X7_cleanNow (H.1 17 12) H) fun h7 =>
    gck 10 514 ((if (h7.1 18 (10 : Int32).toNatClampNeg) = (-1) then
      (jb_X7_press_95 (nI t.val) (nI u.val) gr 0 (nI t.val) h7)
    else
      gck 10 514 ((jb_X7_press_95 (nI t.val) (nI u.val) gr (h7.1 18 (10 : Int32).toNatClampNeg) (nI t.val) h7))))) = some (nI l.val, hso H 18 z') ∧ SimCZ (prV c l u v g t (nI due) (nI cont) (nI f) L C (T - Re) Re gr) z' := by
  obtain ⟨rr, r2, er2⟩ := roomV_N (I.2.2.2.2.2.2.2.2.2 t)
  have cd : C + (T - Re) ≤ rr := by
    rw [er2] at room
    exact Nat.le_of_not_lt (fun w => nI_ge w (by omega) room)
  have z10 : H.1 18 10 = if r = 0 then -1 else nI v.val := by
    have := R.2.1
    rw [er, ev] at this
    refine this.trans ?_
    by_cases q : r = 0
    · rw [if_pos (by rw [q]; rfl), if_pos q]
    · rw [if_neg (nI_ne0 (by omega) (by omega)), if_neg q]
  obtain ⟨I1, R1⟩ := sim_lo I R v L
  have R2 := rel_pour R1 t v (nI C) gr
  have R3 := rel_pour R2 t u (nI (T - Re)) gr
  have R4 := rel_R R3 (nI u.val) (nI Re) (if nI Re = 0 then -1 else nI u.val) rfl
  have R5 := rel_G R4 g 0 (by decide) (cGr c g 0 + nI f)
  have R6 := rel_V R5 1 u (cVa (loC c v L) u 1 + nI f)
  have I2 := inv_pour I1 t ht v (nI C) gr (by rw [roomV_lo, er2]; exact nI_le (by omega) (by omega))
  have I3 := inv_pour I2 t ht u (nI (T - Re)) gr (by rw [roomV_pour _ t v (by omega), roomV_lo, er2, pk_sub (by omega)]; exact nI_le (by omega) (by omega))
  have I4 := inv_R I3 u (nI Re) ⟨Re, hR5, rfl⟩
  have I5 := inv_G I4 g 0 hg (cGr c g 0 + nI f)
  have I6 := inv_V I5 u 1 (cVa (loC c v L) u 1 + nI f) (fun q => absurd q (by decide))
  have lo : ∀ k, cLo (uVa (uGr (uS (uS (pourC (pourC (loC c v L) t v (nI C) gr) t u (nI (T - Re)) gr) 10 (nI u.val)) 11 (nI Re)) g 0 (cGr c g 0 + nI f)) u 1 (cVa (loC c v L) u 1 + nI f)) l k = cLo c l k := fun k => by
    simp only [cLo_uVa, cLo_uGr, cLo_uS, cLo_pour, cLo_lo]
  have R7 := rel_press R6 l hl ((lo 5).trans h0) (nI due) (nI cont) (nI f) (nI t.val)
  have I7 := inv_press I6 l hl (d := nI due) (ct := nI cont) (f := nI f) (by rw [lo 4]; exact LV.2.2.1) t ht
  have q1 : zG (wS (wS (pourZ (pourZ (loZ (H.1 18) v L) t v (nI C) gr) t u (nI (T - Re)) gr) 10 (if nI Re = 0 then -1 else nI u.val)) 11 (nI Re)) 0 g = cGr c g 0 := (R4.2.2.2.2.1 0 g).trans (by simp only [cGr_uS, cGr_pour, cGr_lo])
  have q2 : zV (wG (wS (wS (pourZ (pourZ (loZ (H.1 18) v L) t v (nI C) gr) t u (nI (T - Re)) gr) 10 (if nI Re = 0 then -1 else nI u.val)) 11 (nI Re)) 0 g (cGr c g 0 + nI f)) 1 u = cVa (loC c v L) u 1 := (R5.2.2.2.1 1 u).trans (by simp only [cVa_uGr, cVa_uS, cVa_pour])
  have q3 : zL (pourZ (pourZ (loZ (H.1 18) v L) t v (nI C) gr) t u (nI (T - Re)) gr) l 0 = nI g.val := (R3.2.2.2.2.2.2.1 l 0).trans ((show cLo (pourC (pourC (loC c v L) t v (nI C) gr) t u (nI (T - Re)) gr) l 0 = cLo c l 0 by simp only [cLo_pour, cLo_lo]).trans eg)
  have hk : ∀ s0 : Int32, (s0 = nI v.val ∨ C = 0) → jb_X7_press_95 (nI t.val) (nI u.val) gr s0 (nI t.val) (hso H 18 (loZ (H.1 18) v L)) = some (nI l.val, hso H 18 (lpZ (wV (wG (wS (wS (pourZ (pourZ (loZ (H.1 18) v L) t v (nI C) gr) t u (nI (T - Re)) gr) 10 (if nI Re = 0 then -1 else nI u.val)) 11 (nI Re)) 0 g (cGr c g 0 + nI f)) 1 u (cVa (loC c v L) u 1 + nI f)) l (nI due) (nI f) (nI t.val))) := fun s0 hs => by
    rw [pr_95 hs gr (hso H 18 (loZ (H.1 18) v L)) M, hso_hso]
    refine (pr_134 (Z := pourZ (pourZ (loZ (H.1 18) v L) t v (nI C) gr) t u (nI (T - Re)) gr) (g := g) _ (hso H 18 (pourZ (pourZ (loZ (H.1 18) v L) t v (nI C) gr) t u (nI (T - Re)) gr)) rfl M q3).trans ?_
    rw [q1, q2, hso_hso]
  refine ⟨_, ?_, ⟨ng, nl, nt, I7, R7⟩⟩
  rw [M.2.2.2.1, cnow_v v (by omega) H (fun w => by rw [z10, if_neg (fun x => w (rz x).1)]), gbv_some, gk_10_514, gk_10_514, tn_10, hso_at, if_pos rfl, zS_lo, z10]
  by_cases r0 : r = 0
  · rw [if_pos r0, if_pos rfl]
    exact hk 0 (.inr (rz r0).2)
  · rw [if_neg r0, if_neg (nI_neM1 (by omega))]
    exact hk (nI v.val) (.inl rfl)
theorem press_no {h : Hst} (S : Sim h) {t nt : Nat} (h6 : nt ≤ 6) (ht : t < nt) (i9 : cS (h.1 8) 9 = nI nt) (z9 : h.1 18 9 = nI nt) (m : Int32) {rv : Int32} (hv : rv ≠ 0) (fc : ∃ h', f_X6_reasonAgainstPress (nI t) m h = some (rv, h') ∧ ScrC h h') (fm : ∀ H, H.1 18 = h.1 18 → ∃ H', f_X7_reason (nI t) m H = some (rv, H') ∧ ScrM H H') : Agree (f_L_press (nI t) m h) (f_X7_press (nI t) m) := by
  obtain ⟨h', e', s'⟩ := fc
  have e18 : h'.1 18 = h.1 18 := s'.2 18 (by decide)
  obtain ⟨H', E', S'⟩ := fm h' e18
  have fr : ∀ k, k < 11 ∨ (15 < k ∧ k < 17) ∨ (17 < k ∧ k < 21) → H'.1 k = h.1 k := fun k hk => by
    rw [S'.2.1 k (by omega), s'.2 k (by omega)]
  refine agree_no (k := 2) (h1 := h') (h2 := hst H' 17 5 2) ?_ (by decide) ?_ rfl (S.keep ⟨fr 0 (by decide), fr 1 (by decide), fr 9 (by decide), fr 16 (by decide), fr 19 (by decide), fr 20 (by decide), ?_, ?_⟩ (fr 8 (by decide)) (fr 18 (by decide)))
  · unfold f_L_press f_X6_press
    rw [checkTank_gd h6 i9 ht, gbvx_inl, e', gb_some, if_neg hv, gbx_inr]
    rfl
  · unfold f_X7_press jb_X7_press_27
    rw [isTank_gd h6 (by rw [e18]; exact z9) ht, gb_some, if_neg (by decide), E', gb_some, if_neg hv, gl_eq]
    show (if (2 : Int32) ≤ 0 then _ else _) = _
    rw [if_neg (by decide)]
  · show upd (H'.1 17) 5 2 1 = _
    rw [upd_at, if_neg (by decide), S'.2.2.1, s'.2 17 (by decide)]
  · show upd (H'.1 17) 5 2 3 = _
    rw [upd_at, if_neg (by decide), S'.2.2.2.1, s'.2 17 (by decide)]
theorem op_press {h : Hst} (S : Sim h) (p0 p1 : Int32) : Agree (f_L_press p0 p1 h) (f_X7_press p0 p1) := by
  obtain ⟨-, ⟨ng, nl, nt, I, R⟩, -⟩ := id S
  obtain ⟨⟨-, h40, h6⟩, ⟨-, -, i9⟩, -⟩ := id I
  have z9 : h.1 18 9 = nI nt := (R.1 9 (by decide)).trans i9
  rcases idx p0 (n := nt) (by omega) with ⟨t, ht, rfl⟩ | b0
  · rcases ahead I R with ⟨ac, am⟩ | ⟨l, u, v, due, cont, f, k0, r, L, C, T, Re, hl, l5, LV, ev, er, hr, rz, hRe, hR5, hT, hC, hL, ac, am⟩
    · refine press_no S h6 ht i9 z9 p1 (rv := 1) (by decide) ?_ (fun H E => ?_)
      · obtain ⟨h', e', s'⟩ := ac h rfl
        refine ⟨h', ?_, s'⟩
        unfold f_X6_reasonAgainstPress
        rw [e', gb_some, if_pos rfl]
      · obtain ⟨h', e', s'⟩ := am H E
        refine ⟨h', ?_, s'⟩
        unfold f_X7_reason
        rw [e', gb_some, if_pos rfl]
    · obtain ⟨h', e', s', r2, r3, r4, r5, r6, r7, r8, r9, r10, r11⟩ := ac h rfl
      have ec := reas_C I (⟨t, by omega⟩ : Fin 6) e' s'.e8 r5 r11 p1
      by_cases rv : rpV (h.1 8) ⟨t, by omega⟩ l (C + (T - Re)) p1 = 0
      · have room : nI (C + (T - Re)) ≤ roomV (h.1 8) ⟨t, by omega⟩ := by
          unfold rpV at rv
          by_cases q : nI (C + (T - Re)) ≤ roomV (h.1 8) ⟨t, by omega⟩
          · exact q
          · rw [if_neg q] at rv
            exact absurd rv (by decide)
        rw [rv] at ec
        obtain ⟨⟨g, hg, eg⟩, -, -, c3, -⟩ := I.2.2.2.2.2.2.2.1 l hl
        have eu := LV.1
        have S1 : Sim h' := S.keep ⟨s'.2 0 (by decide), s'.2 1 (by decide), s'.2 9 (by decide), s'.2 16 (by decide), s'.2 19 (by decide), s'.2 20 (by decide), by rw [s'.2 17 (by decide)], by rw [s'.2 17 (by decide)]⟩ s'.e8 (s'.2 18 (by decide))
        obtain ⟨hc, e, ee2, ef, K⟩ := undo_std S1
        have e8 : hc.1 8 = h.1 8 := (ef 8 (by decide) (by decide)).trans s'.e8
        have e18 : hc.1 18 = h.1 18 := (ef 18 (by decide) (by decide)).trans (s'.2 18 (by decide))
        have e13 : hc.1 13 = h'.1 13 := ef 13 (by decide) (by decide)
        have hTt : TankI (h.1 8) ⟨t, by omega⟩ := I.2.2.2.2.2.2.2.2.2 ⟨t, by omega⟩
        generalize hgg : gl3 (cLo (h.1 8) l 3) = gr
        have s : ∀ Z k, (hso hc 8 Z).1 13 k = h'.1 13 k := fun Z k => by show hc.1 13 k = _; rw [e13]
        have w : ∀ Z, (hso hc 8 Z).1 8 = Z := fun _ => rfl
        have cl : ∀ k : Fin 11, k ≠ 5 → k ≠ 6 → k ≠ 7 → k ≠ 8 → k ≠ 10 → cLo (enC (loC (h.1 8) v L) l u g (nI due) (nI cont) (nI f) (nI t)) l k = cLo (h.1 8) l k := fun k a5 a6 a7 a8 a10 => by
          unfold enC
          rw [cLo_uVa, cLo_uGr, lpC_ne _ _ _ _ _ _ k a5 a6 a7 a8 a10, cLo_lo]
        have tk : ∀ i k, cTa (enC (loC (h.1 8) v L) l u g (nI due) (nI cont) (nI f) (nI t)) i k = cTa (h.1 8) i k := fun i k => by
          unfold enC lpC
          simp only [cTa_uVa, cTa_uGr, cTa_uLo, cTa_lo]
        have hT1 : TankI (enC (loC (h.1 8) v L) l u g (nI due) (nI cont) (nI f) (nI t)) ⟨t, by omega⟩ := by
          simp only [TankI, tk]; exact hTt
        obtain ⟨rr, rr2, er2⟩ := roomV_N hTt
        have cd : C + (T - Re) ≤ rr := by
          rw [er2] at room
          exact Nat.le_of_not_lt (fun w => nI_ge w (by omega) room)
        have hT2 : TankI (pourC (enC (loC (h.1 8) v L) l u g (nI due) (nI cont) (nI f) (nI t)) ⟨t, by omega⟩ v (nI C) gr) ⟨t, by omega⟩ := by
          have I1 := (sim_lo I R v L).1
          have I2 := inv_pour I1 ⟨t, by omega⟩ ht v (nI C) gr (by rw [roomV_lo, er2]; exact nI_le (by omega) (by omega))
          have := I2.2.2.2.2.2.2.2.2.2 ⟨t, by omega⟩
          have tk2 : ∀ i k, cTa (pourC (enC (loC (h.1 8) v L) l u g (nI due) (nI cont) (nI f) (nI t)) ⟨t, by omega⟩ v (nI C) gr) i k = cTa (pourC (loC (h.1 8) v L) ⟨t, by omega⟩ v (nI C) gr) i k := fun i k =>
            cTa_pour_congr (fun i k => by rw [tk, cTa_lo]) _ v _ gr i k
          simp only [TankI, tk2]; exact this
        have en := enter_v (c := loC (h.1 8) v L) (l := l) (u := u) (g := g) (d := nI due) (ct := nI cont) (f := nI f) (nI t) (hso hc 8 (loC (h.1 8) v L)) rfl ((s _ 5).trans r5) ((s _ 6).trans r6) ((s _ 7).trans r7) ((s _ 8).trans r8) ((cLo_lo _ _ _ _ _).trans eg) ((cLo_lo _ _ _ _ _).trans eu)
        have pp : nI (C + (T - Re)) - nI C = nI (T - Re) := by rw [pk_sub (by omega), show C + (T - Re) - C = T - Re by omega]
        have eC : f_L_press (nI t) p1 h = some (0, hsj (hso hc 8 (prC (h.1 8) l u v g ⟨t, by omega⟩ (nI due) (nI cont) (nI f) L C (T - Re) Re gr)) 25 0 (nI l.val).toInt64) := by
          unfold f_L_press f_X6_press
          rw [checkTank_gd h6 i9 ht, gbvx_inl, show nI t = nI (⟨t, by omega⟩ : Fin 6).val from rfl, ec, gb_some, if_pos rfl, e, gbv_some, e13, r4, r9, lose_v v (by omega), gbv_some, e8]
          rw [show nI (⟨t, by omega⟩ : Fin 6).val = nI t from rfl, en, gbv_some, hso_hso]
          unfold f_X6_pourPressedOil
          rw [gl_eq, s, r5, gradeOfLot, gb_some, w, cl 3 (by decide) (by decide) (by decide) (by decide) (by decide), hgg, s, r4, s, r10, show nI t = nI (⟨t, by omega⟩ : Fin 6).val from rfl, pour_C ⟨t, by omega⟩ v (nI C) gr _ (by rw [w]; exact hT1), gbv_some, w, hso_hso, get3_1, gb_some, w, cLo_pour, cl 1 (by decide) (by decide) (by decide) (by decide) (by decide), eu, s, r11, s, r10, pp, pour_C ⟨t, by omega⟩ u (nI (T - Re)) gr _ (by rw [w]; exact hT2), gbv_some, w, hso_hso, gbv_some, s, r2, rowp7_3, gbv_some, w, hso_hso, s, r3, rowp7_4, gbv_some, w, hso_hso, s, r5, gbx_inl, gk_0_1, gl_eq, tn_0]
          rfl
        generalize hPR : prC (h.1 8) l u v g ⟨t, by omega⟩ (nI due) (nI cont) (nI f) L C (T - Re) Re gr = PR at eC
        obtain ⟨H', E', SM, RM⟩ := am (hsj (hso hc 8 PR) 25 0 (nI l.val).toInt64) e18
        have EM := reas_M I R (⟨t, by omega⟩ : Fin 6) hl E' (SM.e18.trans e18) RM.1 RM.2.2.2.2.1 RM.2.2.2.2.2.1 p1
        rw [rv] at EM
        have H18 : H'.1 18 = h.1 18 := SM.e18.trans e18
        obtain ⟨hm, em, m2, mf, mj, K2⟩ := K (hst H' 17 5 0) ⟨SM.2.1 0 (by decide), SM.2.1 1 (by decide), SM.2.1 9 (by decide), SM.2.1 16 (by decide), SM.2.1 19 (by decide), SM.2.1 20 (by decide), SM.2.2.1, SM.2.2.2.1⟩ (SM.2.1 18 (by decide))
        have m18 : hm.1 18 = h.1 18 := (mf 18 (by decide) (by decide)).trans H18
        have m8 : hm.1 8 = PR := (mf 8 (by decide) (by decide)).trans (SM.2.1 8 (by decide))
        have hj : ∀ j, j ≠ 1 → j ≠ 5 → hm.1 17 j = H'.1 17 j := fun j a b => by
          rw [mj j a]
          show upd (H'.1 17) 5 0 j = _
          rw [upd_at, if_neg b]
        have M2 : RehM hm l due f L C T Re := ⟨(hj 9 (by decide) (by decide)).trans RM.1, (hj 10 (by decide) (by decide)).trans RM.2.1, (hj 11 (by decide) (by decide)).trans RM.2.2.1, (hj 12 (by decide) (by decide)).trans RM.2.2.2.1, (hj 13 (by decide) (by decide)).trans RM.2.2.2.2.1, (hj 14 (by decide) (by decide)).trans RM.2.2.2.2.2.1, (hj 15 (by decide) (by decide)).trans RM.2.2.2.2.2.2⟩
        obtain ⟨z', ew, TT⟩ := press_M I hm (by rw [m18]; exact R) l hl l5 g hg eg u v ⟨t, by omega⟩ ht gr LV ev er hr rz hRe hR5 hT hC hL room M2
        have z1 : zL (h.1 18) l 1 = nI u.val := (R.2.2.2.2.2.2.1 l 1).trans eu
        have z3 : zL (h.1 18) l 3 = cLo (h.1 8) l 3 := R.2.2.2.2.2.2.1 l 3
        refine agree_ok eC (h2 := hso hm 18 z') ?_ ?_ ?_ ?_
        · unfold f_X7_press
          rw [isTank_gd h6 (by show hc.1 18 9 = _; rw [e18]; exact z9) ht, gb_some, if_neg (by decide), show nI t = nI (⟨t, by omega⟩ : Fin 6).val from rfl, EM, gb_some, if_pos rfl]
          unfold jb_X7_press_27
          rw [gl_eq]
          show (if (0 : Int32) ≤ 0 then _ else _) = _
          rw [if_pos (by decide), em, gbv_some, M2.1, ofLot_1, gb_some, m18, z1, M2.1, gradeOfLot7 _ _ (by rw [m18, z3]; exact c3), gb_some, m18, z3, hgg]
          exact ew
        · show hm.1 17 5 = 0
          rw [mj 5 (by decide)]
          rfl
        · show hm.2 = _
          rw [m2]
          exact SM.1
        · refine K2 _ ⟨rfl, rfl, rfl, rfl, rfl, rfl, rfl, rfl⟩ ?_
          show SimCZ (hm.1 8) z'
          rw [m8, ← hPR]
          exact pr_acc _ _ _ _ _ _ _ _ _ _ _ _ _ TT
      · refine press_no S h6 ht i9 z9 p1 rv ⟨h', ec, s'⟩ (fun H E => ?_)
        obtain ⟨H', E', SM, RM⟩ := am H E
        exact ⟨H', reas_M I R (⟨t, by omega⟩ : Fin 6) hl E' (SM.e18.trans E) RM.1 RM.2.2.2.2.1 RM.2.2.2.2.2.1 p1, SM⟩
  · refine agree_bad S (k := 1) (by decide) ?_ ?_
    · unfold f_L_press f_X6_press
      rw [checkTank_bad i9 b0, gbvx_inr, gbx_inr]
      rfl
    · unfold f_X7_press jb_X7_press_27
      rw [isTank_bad z9 b0, gb_some, if_pos rfl, gl_eq]
      show (if (1 : Int32) ≤ 0 then _ else _) = _
      rw [if_neg (by decide)]
