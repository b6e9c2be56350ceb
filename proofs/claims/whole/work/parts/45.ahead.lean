-- looking ahead
def RehC (h : Hst) (l : Fin 40) (u v : Fin 5) (due cont f L C T Re : Nat) : Prop :=
  h.1 13 2 = nI u.val ∧ h.1 13 3 = nI Re ∧ h.1 13 4 = nI v.val ∧ h.1 13 5 = nI l.val ∧ h.1 13 6 = nI due ∧ h.1 13 7 = nI cont ∧ h.1 13 8 = nI f ∧ h.1 13 9 = nI L ∧ h.1 13 10 = nI C ∧ h.1 13 11 = nI (C + (T - Re))
def RehM (h : Hst) (l : Fin 40) (due f L C T Re : Nat) : Prop :=
  h.1 17 9 = nI l.val ∧ h.1 17 10 = nI due ∧ h.1 17 11 = nI f ∧ h.1 17 12 = nI L ∧ h.1 17 13 = nI C ∧ h.1 17 14 = nI (T - Re) ∧ h.1 17 15 = nI Re
theorem stC_reh (h : Hst) (l : Fin 40) (u v : Fin 5) (due cont f L C T Re : Nat) (hR : Re ≤ T) : RehC (stC h l u v due cont f L C T Re) l u v due cont f L C T Re :=
  ⟨rfl, rfl, rfl, rfl, rfl, rfl, rfl, rfl, rfl, by rw [← (show C + T - Re = C + (T - Re) by omega)]; rfl⟩
theorem lnM_reh (h : Hst) (l : Fin 40) (due f L C T Re : Nat) : RehM (lnM h l due f L C T Re) l due f L C T Re := ⟨rfl, rfl, rfl, rfl, rfl, rfl, rfl⟩
theorem stC_2 (h : Hst) (l : Fin 40) (u v : Fin 5) (due cont f L C T Re : Nat) : (stC h l u v due cont f L C T Re).2 = h.2 := rfl
theorem stC_k (h : Hst) (l : Fin 40) (u v : Fin 5) (due cont f L C T Re : Nat) (k : Nat) (h3 : k ≠ 13) (h4 : k ≠ 14) : (stC h l u v due cont f L C T Re).1 k = h.1 k := by
  unfold stC psC wgC
  simp only [hst_at, if_neg h3, if_neg h4]
theorem stC_14 (h : Hst) (l : Fin 40) (u v : Fin 5) (due cont f L C T Re : Nat) (j : Nat) : (stC h l u v due cont f L C T Re).1 14 j = if j = l.val then 0 else h.1 14 j := rfl
theorem lnM_k (h : Hst) (l : Fin 40) (due f L C T Re : Nat) (k : Nat) (h7 : k ≠ 17) : (lnM h l due f L C T Re).1 k = h.1 k := by
  unfold lnM
  simp only [hst_at, if_neg h7]
theorem lnM_17 (h : Hst) (l : Fin 40) (due f L C T Re : Nat) (j : Nat) (hj : j < 9) : (lnM h l due f L C T Re).1 17 j = h.1 17 j := by
  show upd (upd (upd (upd (upd (upd (upd (h.1 17) 9 _) 10 _) 11 _) 12 _) 13 _) 15 _) 14 _ j = _
  simp only [upd_at]
  rw [if_neg (by omega), if_neg (by omega), if_neg (by omega), if_neg (by omega), if_neg (by omega), if_neg (by omega), if_neg (by omega)]
theorem lo_ca_0 {way : Nat} {u v : Fin 5} {r : Nat} (h : r = 0) : loR way (foR u v r) = 0 ∧ caR way (foR u v r) = 0 := by
  have := foR_le u v r
  have := loR_le way (foR u v r)
  have := caR_le way (foR u v r)
  omega
theorem ahead {c z : Nat → Int32} {ng nl nt : Nat} (I : InvC c ng nl nt) (R : RelCZ c z nl) :
    ((∀ h, h.1 8 = c → ∃ h', f_X2_lookAhead h = some (0, h') ∧ ScrC h h') ∧ (∀ h, h.1 18 = z → ∃ h', f_X7_layNextNow h = some (0, h') ∧ ScrM h h')) ∨
    ∃ (l : Fin 40) (u v : Fin 5) (due cont f k0 r L C T Re : Nat), l.val < nl ∧ cLo c l 5 = 0 ∧ LotV c l u due cont f k0 ∧ cS c 10 = nI v.val ∧ cS c 11 = nI r ∧ r ≤ 50 ∧ (r = 0 → L = 0 ∧ C = 0) ∧ Re ≤ T ∧ Re ≤ 50 ∧ T ≤ 13000 ∧ C ≤ 50 ∧ L ≤ 50 ∧
      (∀ h, h.1 8 = c → ∃ h', f_X2_lookAhead h = some (1, h') ∧ ScrC h h' ∧ RehC h' l u v due cont f L C T Re) ∧ (∀ h, h.1 18 = z → ∃ h', f_X7_layNextNow h = some (1, h') ∧ ScrM h h' ∧ RehM h' l due f L C T Re) := by
  obtain ⟨-, -, ⟨-, -, -, -, -, ⟨way, hw, ew⟩, -⟩, ⟨⟨v, ev⟩, ⟨r, hr, er⟩⟩, -⟩ := id I
  have z5 : z 5 = nI way := (R.1 5 (by decide)).trans ew
  have z11 : z 11 = nI r := (R.1 11 (by decide)).trans er
  have z10 : z 10 = if r = 0 then -1 else nI v.val := by
    have := R.2.1
    rw [er, ev] at this
    refine this.trans ?_
    by_cases q : r = 0
    · rw [if_pos (by rw [q]; rfl), if_pos q]
    · rw [if_neg (nI_ne0 (by omega) (by omega)), if_neg q]
  have mid : ∀ (x : Int32) (G : Hst → Prop), (∀ h', ScrC h' h' → True) → True := fun _ _ _ => trivial
  have pc : ∀ h, h.1 8 = c → ∃ h0, ScrC h h0 ∧ h0.1 8 = c ∧ Wc h0 nl (wB c) ∧ h0.1 13 2 = nI v.val ∧ h0.1 13 3 = nI r ∧ f_X2_lookAhead h = gb (f_X2_step (nI way) h0) fun x5 h4 => gzr x5 (some (x5, h4)) := fun h e => by
    obtain ⟨h0, e0, a1, a2, a3, a4, a5⟩ := begin_v I h e
    have e8 : h0.1 8 = c := (a2 8 (by decide) (by decide)).trans e
    refine ⟨h0, ⟨a1, fun k hk => a2 k (by omega) (by omega)⟩, e8, a3, a4.trans ev, a5.trans er, ?_⟩
    unfold f_X2_lookAhead
    rw [e0, gbv_some, row6_5, gb_some, e8, ew]
  have pm : ∀ h, h.1 18 = z → ∃ h0, ScrM h h0 ∧ h0.1 18 = z ∧ Wm h0 nl (wB c) ∧ h0.1 17 7 = (if r = 0 then -1 else nI v.val) ∧ h0.1 17 8 = nI r ∧ f_X7_layNextNow h = gb (f_X7_layNext (nI way) h0) fun x3 h2 => gzr x3 (some (x3, h2)) := fun h e => by
    obtain ⟨h0, e0, a1, a2, a3, a4, a5, a6⟩ := layMill_v I R h e
    have e18 : h0.1 18 = z := (a2 18 (by decide) (by decide)).trans e
    refine ⟨h0, ⟨a1, fun k hk => a2 k (by omega) (by omega), a3 1 (by decide) (by decide), a3 3 (by decide) (by decide), a3 5 (by decide) (by decide)⟩, e18, a4, a5.trans z10, a6.trans z11, ?_⟩
    unfold f_X7_layNextNow
    rw [e0, gbv_some, gk_5_514, tn_5, e18, z5]
  cases p : pick c nl (wB c) v r way with
  | none =>
    refine .inl ⟨fun h e => ?_, fun h e => ?_⟩
    · obtain ⟨h0, s, e8, w, e2, e3, eq⟩ := pc h e
      refine ⟨_, ?_, s.trans (b := h0) (c := hst h0 13 5 (-1)) ⟨rfl, fun k hk => by rw [hst_at, if_neg (by omega)]⟩⟩
      rw [eq, step_none hr hw h0 e8 w e2 e3 p, gb_some, gzr_0]
    · obtain ⟨h0, s, e18, w, e7, -, eq⟩ := pm h e
      refine ⟨_, ?_, s.trans (b := h0) (c := hst h0 17 9 (-1)) ⟨rfl, fun k hk => by rw [hst_at, if_neg (by omega)], rfl, rfl, rfl⟩⟩
      rw [eq, ln_none I R hr hw h0 e18 w e7 p, gb_some, gzr_0]
  | some l =>
    obtain ⟨l1, l2, l3⟩ := pick_some p
    obtain ⟨u, due, cont, f, k0, LV⟩ := lotV I ⟨l, l2⟩ l1
    have hf := LV.2.2.2.2.1
    have hk := LV.2.2.2.2.2.2
    have fo := foR_le u v r
    have to := toR_le f u v r
    have re := reR_le k0 (toR f u v r)
    have ca := caR_le way (foR u v r)
    have lo := loR_le way (foR u v r)
    refine .inr ⟨⟨l, l2⟩, u, v, due, cont, f, k0, r, loR way (foR u v r), caR way (foR u v r), toR f u v r, reR k0 (toR f u v r), l1, (wB_iff c ⟨l, l2⟩).mp l3, LV, ev, er, hr, lo_ca_0, re.1, by omega, by omega, by omega, by omega, fun h e => ?_, fun h e => ?_⟩
    · obtain ⟨h0, s, e8, w, e2, e3, eq⟩ := pc h e
      refine ⟨_, ?_, s.trans (b := h0) (c := stC h0 ⟨l, l2⟩ u v due cont f _ _ _ _) ⟨stC_2 _ _ _ _ _ _ _ _ _ _ _, fun k hk => stC_k _ _ _ _ _ _ _ _ _ _ _ k (by omega) (by omega)⟩, stC_reh _ _ _ _ _ _ _ _ _ _ _ re.1⟩
      rw [eq, step_some LV hr hw h0 e8 w e2 e3 p, gb_some, gzr_1]
    · obtain ⟨h0, s, e18, w, e7, e8, eq⟩ := pm h e
      refine ⟨_, ?_, s.trans (b := h0) (c := lnM h0 ⟨l, l2⟩ due f _ _ _ _) ⟨rfl, fun k hk => lnM_k _ _ _ _ _ _ _ _ k (by omega), lnM_17 _ _ _ _ _ _ _ _ 1 (by decide), lnM_17 _ _ _ _ _ _ _ _ 3 (by decide), lnM_17 _ _ _ _ _ _ _ _ 5 (by decide)⟩, lnM_reh _ _ _ _ _ _ _ _⟩
      rw [eq, ln_some I R LV hr hw h0 e18 w e7 e8 p, gb_some, gzr_1]
-- next
theorem getV_next {c z : Nat → Int32} {ng nl nt : Nat} (I : InvC c ng nl nt) (R : RelCZ c z nl) (s : Int32) {q : Nat} (hq : q ≤ 4) : GetV c z s (f_X6_next (nI q)) (f_X7_nextNow (nI q)) := by
  have o : ∀ h, f_X6_isOutside (nI q) 0 4 h = some (0, h) := fun h => by
    rw [isOutside, if_neg (nI_pos (by omega)), if_pos (show nI q ≤ 4 from nI_le (b := 4) hq (by decide))]
  rcases ahead I R with ⟨ac, am⟩ | ⟨l, u, v, due, cont, f, k0, r, L, C, T, Re, -, -, -, -, -, -, -, -, -, -, -, -, ac, am⟩
  · refine ⟨-1, fun h e _ => ?_, fun h e _ => ?_⟩
    · obtain ⟨h', e', s'⟩ := ac h e
      refine ⟨h', ?_, s'⟩
      unfold f_X6_next
      rw [o, gb_some, if_pos rfl, e', gb_some, if_pos rfl]
    · obtain ⟨h', e', s'⟩ := am h e
      refine ⟨h', ?_, s'⟩
      unfold f_X7_nextNow
      rw [e', gb_some, if_pos rfl]
  · refine ⟨if q = 0 then nI l.val else if q = 1 then nI f else if q = 2 then nI (C + (T - Re)) else if q = 3 then nI L else nI Re, fun h e _ => ?_, fun h e _ => ?_⟩
    · obtain ⟨h', e', s', r2, r3, r4, r5, r6, r7, r8, r9, r10, r11⟩ := ac h e
      refine ⟨h', ?_, s'⟩
      unfold f_X6_next
      rw [o, gb_some, if_pos rfl, e', gb_some, if_neg (by decide), r3, r5, r8, r9, r11]
      have : q = 0 ∨ q = 1 ∨ q = 2 ∨ q = 3 ∨ q = 4 := by omega
      rcases this with rfl | rfl | rfl | rfl | rfl <;> rfl
    · obtain ⟨h', e', s', r9, r10, r11, r12, r13, r14, r15⟩ := am h e
      refine ⟨h', ?_, s'⟩
      unfold f_X7_nextNow jb_X7_nextNow_65
      rw [e', gb_some, if_neg (by decide), r9, r11, r12, r13, r14, r15, nI_add]
      have : q = 0 ∨ q = 1 ∨ q = 2 ∨ q = 3 ∨ q = 4 := by omega
      rcases this with rfl | rfl | rfl | rfl | rfl <;> rfl
theorem op_next {h : Hst} (S : Sim h) (p0 : Int32) : Agree (f_L_next p0 h) (f_X7_next p0) := by
  obtain ⟨-, ⟨ng, nl, nt, I, R⟩, -⟩ := id S
  have B := bounds p0 0 4 (by decide) (by decide)
  rw [show nI 0 = (0 : Int32) from rfl, show nI 4 = (4 : Int32) from rfl] at B
  rcases B with ⟨q, -, hq, rfl, o, w⟩ | ⟨o, w⟩
  · refine agree_get S (getV_next I R (h.1 1 9) hq) rfl (fun H e => ?_)
    unfold f_X7_next jb_X7_next_15 jb_X7_next_34
    rw [w, gb_some, if_neg (by decide), gl_eq]
    show (if (0 : Int32) ≤ 0 then _ else _) = _
    rw [if_pos (by decide), gb_eta]
  · refine agree_bad S (k := 1) (by decide) ?_ ?_
    · unfold f_L_next f_X6_next
      rw [o, gb_some, if_neg (by decide), gbx_inr]
      rfl
    · unfold f_X7_next jb_X7_next_15
      rw [w, gb_some, if_pos rfl, gl_eq]
      show (if (1 : Int32) ≤ 0 then _ else _) = _
      rw [if_neg (by decide)]
      rfl
