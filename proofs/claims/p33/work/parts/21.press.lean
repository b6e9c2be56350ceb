-- pressing
theorem cLo_ne {f : Nat → Int32} (k : Fin 11) {i j : Fin 40} (h : ¬ i = j) {q : Fin 11} {x : Int32} : cLo (uLo f j q x) i k = cLo f i k := by
  rw [cLo_uLo, if_neg (fun z => h z.1)]
def lpC (c : Nat → Int32) (l : Fin 40) (d ct f t : Int32) : Nat → Int32 := uLo (uLo (uLo (uLo (uLo c l 5 1) l 6 d) l 7 ct) l 8 f) l 10 t
def enC (c : Nat → Int32) (l : Fin 40) (u : Fin 5) (g : Fin 8) (d ct f t : Int32) : Nat → Int32 :=
  uVa (uGr (lpC c l d ct f t) g 0 (cGr c g 0 + f)) u 1 (cVa c u 1 + f)
theorem lpC_ne (c : Nat → Int32) (l : Fin 40) (d ct f t : Int32) (k : Fin 11) (h5 : k ≠ 5) (h6 : k ≠ 6) (h7 : k ≠ 7) (h8 : k ≠ 8) (h10 : k ≠ 10) : cLo (lpC c l d ct f t) l k = cLo c l k := by
  unfold lpC
  rw [cLo_uLo, if_neg (fun w => h10 w.2), cLo_uLo, if_neg (fun w => h8 w.2), cLo_uLo, if_neg (fun w => h7 w.2), cLo_uLo, if_neg (fun w => h6 w.2), cLo_uLo, if_neg (fun w => h5 w.2)]
theorem lpC_l (c : Nat → Int32) (l l' : Fin 40) (d ct f t : Int32) (k : Fin 11) (q : ¬ l' = l) : cLo (lpC c l d ct f t) l' k = cLo c l' k := by
  unfold lpC
  rw [cLo_ne _ q, cLo_ne _ q, cLo_ne _ q, cLo_ne _ q, cLo_ne _ q]
theorem enter_v {c : Nat → Int32} {l : Fin 40} {u : Fin 5} {g : Fin 8} {d ct f : Int32} (t : Int32) (h : Hst) (e : h.1 8 = c) (r5 : h.1 13 5 = nI l.val) (r6 : h.1 13 6 = d) (r7 : h.1 13 7 = ct) (r8 : h.1 13 8 = f) (eg : cLo c l 0 = nI g.val) (eu : cLo c l 1 = nI u.val) : f_X6_enterPressedLot t h = some (hso h 8 (enC c l u g d ct f t)) := by
  have s : ∀ Z k, (hso h 8 Z).1 13 k = h.1 13 k := fun _ _ => rfl
  have w : ∀ Z, (hso h 8 Z).1 8 = Z := fun _ => rfl
  have a0 : cLo (lpC c l d ct f t) l 0 = nI g.val := (lpC_ne c l d ct f t 0 (by decide) (by decide) (by decide) (by decide) (by decide)).trans eg
  have a1 : cLo (uGr (lpC c l d ct f t) g 0 (cGr c g 0 + f)) l 1 = nI u.val := by rw [cLo_uGr]; exact (lpC_ne c l d ct f t 1 (by decide) (by decide) (by decide) (by decide) (by decide)).trans eu
  have ag : cGr (lpC c l d ct f t) g 0 = cGr c g 0 := by
    unfold lpC
    simp only [cGr_uLo]
  have av : cVa (uGr (lpC c l d ct f t) g 0 (cGr c g 0 + f)) u 1 = cVa c u 1 := by
    unfold lpC
    simp only [cVa_uGr, cVa_uLo]
  unfold f_X6_enterPressedLot
  rw [gl_eq, r5, put3_5, gbv_some, s, r6, put3_6, gbv_some, w, hso_hso, s, r7, put3_7, gbv_some, w, hso_hso, s, r8, put3_8, gbv_some, w, hso_hso, put3_10, gbv_some, w, hso_hso, e]
  change gb (f_X5_get_3 (nI l.val) 0 (hso h 8 (lpC c l d ct f t))) _ = _
  rw [get3_0, gb_some, w, a0, s, r8, add2_0, gbv_some, w, hso_hso, ag, get3_1, gb_some, w, a1, s, r8, add5_1, gbv_some, w, hso_hso, av]
  rfl
theorem inv_press {c : Nat → Int32} {ng nl nt : Nat} (I : InvC c ng nl nt) (l : Fin 40) (hl : l.val < nl) {d ct f : Int32} (hc : d * cLo c l 4 / 1000 = ct) (t : Fin 6) (ht : t.val < nt) : InvC (lpC c l d ct f (nI t.val)) ng nl nt := by
  have eS : ∀ i, cS (lpC c l d ct f (nI t.val)) i = cS c i := fun i => by unfold lpC; simp only [cS_uLo]
  have eV : ∀ i k, cVa (lpC c l d ct f (nI t.val)) i k = cVa c i k := fun i k => by unfold lpC; simp only [cVa_uLo]
  have eG : ∀ i k, cGr (lpC c l d ct f (nI t.val)) i k = cGr c i k := fun i k => by unfold lpC; simp only [cGr_uLo]
  have eT : ∀ i k, cTa (lpC c l d ct f (nI t.val)) i k = cTa c i k := fun i k => by unfold lpC; simp only [cTa_uLo]
  simp only [InvC, TankI, eS, eV, eG, eT] at I ⊢
  obtain ⟨a, b, c1, dd, e, ff, r1, r2, r3⟩ := I
  refine ⟨a, b, c1, dd, e, ff, fun l' hl' k => ?_, fun l' hl' => ?_, r3⟩
  · have ne : ¬ l' = l := fun z => by rw [z] at hl'; omega
    rw [lpC_l _ _ _ _ _ _ _ _ ne]; exact r1 l' hl' k
  · by_cases q : l' = l
    · subst q
      obtain ⟨q0, q1, q2, q3, q4, q5, q6⟩ := r2 l' hl'
      have e5 : cLo (lpC c l' d ct f (nI t.val)) l' 5 = 1 := by unfold lpC; simp only [cLo_uLo]; rfl
      have e6 : cLo (lpC c l' d ct f (nI t.val)) l' 6 = d := by unfold lpC; simp only [cLo_uLo]; rfl
      have e7 : cLo (lpC c l' d ct f (nI t.val)) l' 7 = ct := by unfold lpC; simp only [cLo_uLo]; rfl
      have e10 : cLo (lpC c l' d ct f (nI t.val)) l' 10 = nI t.val := by unfold lpC; simp only [cLo_uLo]; rfl
      have n := lpC_ne c l' d ct f (nI t.val)
      simp only [LotI]
      rw [e5, e6, e7, e10, n 0 (by decide) (by decide) (by decide) (by decide) (by decide), n 1 (by decide) (by decide) (by decide) (by decide) (by decide), n 2 (by decide) (by decide) (by decide) (by decide) (by decide), n 3 (by decide) (by decide) (by decide) (by decide) (by decide), n 4 (by decide) (by decide) (by decide) (by decide) (by decide)]
      exact ⟨q0, q1, q2, q3, q4, ⟨1, by decide, rfl⟩, fun _ => ⟨hc.symm, t, ht, rfl⟩⟩
    · have := r2 l' hl'
      have e2 : ∀ k, cLo (lpC c l d ct f (nI t.val)) l' k = cLo c l' k := fun k => lpC_l _ _ _ _ _ _ _ _ q
      simp only [LotI, e2] at this ⊢
      exact this
def prC (c : Nat → Int32) (l : Fin 40) (u v : Fin 5) (g : Fin 8) (t : Fin 6) (d ct f : Int32) (L C D Re : Nat) (gr : Int32) : Nat → Int32 :=
  uS (uS (pourC (pourC (enC (loC c v L) l u g d ct f (nI t.val)) t v (nI C) gr) t u (nI D) gr) 10 (nI u.val)) 11 (nI Re)
def prV (c : Nat → Int32) (l : Fin 40) (u v : Fin 5) (g : Fin 8) (t : Fin 6) (d ct f : Int32) (L C D Re : Nat) (gr : Int32) : Nat → Int32 :=
  lpC (uVa (uGr (uS (uS (pourC (pourC (loC c v L) t v (nI C) gr) t u (nI D) gr) 10 (nI u.val)) 11 (nI Re)) g 0 (cGr c g 0 + f)) u 1 (cVa (loC c v L) u 1 + f)) l d ct f (nI t.val)
theorem inv_pr {c : Nat → Int32} {ng nl nt : Nat} (I : InvC c ng nl nt) (l : Fin 40) (hl : l.val < nl) (u v : Fin 5) (g : Fin 8) (hg : g.val < ng) (t : Fin 6) (ht : t.val < nt) {due cont f k0 L C D Re : Nat} (LV : LotV c l u due cont f k0) (hR5 : Re ≤ 50) (hC : C ≤ 50) (hD : D ≤ 13000) (room : nI (C + D) ≤ roomV c t) (gr : Int32) : InvC (prC c l u v g t (nI due) (nI cont) (nI f) L C D Re gr) ng nl nt := by
  obtain ⟨rr, r2, er2⟩ := roomV_N (I.2.2.2.2.2.2.2.2.2 t)
  have cd : C + D ≤ rr := by
    rw [er2] at room
    exact Nat.le_of_not_lt (fun w => nI_ge w (by omega) room)
  have I1 := inv_lo I v L
  have I2 := inv_pour I1 t ht v (nI C) gr (by rw [roomV_lo, er2]; exact nI_le (by omega) (by omega))
  have I3 := inv_pour I2 t ht u (nI D) gr (by rw [roomV_pour _ t v (by omega), roomV_lo, er2, pk_sub (by omega)]; exact nI_le (by omega) (by omega))
  have I4 := inv_R I3 u (nI Re) ⟨Re, hR5, rfl⟩
  have I5 := inv_G I4 g 0 hg (cGr c g 0 + nI f)
  have I6 := inv_V I5 u 1 (cVa (loC c v L) u 1 + nI f) (fun q => absurd q (by decide))
  have lo : ∀ k, cLo (uVa (uGr (uS (uS (pourC (pourC (loC c v L) t v (nI C) gr) t u (nI D) gr) 10 (nI u.val)) 11 (nI Re)) g 0 (cGr c g 0 + nI f)) u 1 (cVa (loC c v L) u 1 + nI f)) l k = cLo c l k := fun k => by
    simp only [cLo_uVa, cLo_uGr, cLo_uS, cLo_pour, cLo_lo]
  have I7 : InvC (prV c l u v g t (nI due) (nI cont) (nI f) L C D Re gr) ng nl nt := inv_press I6 l hl (d := nI due) (ct := nI cont) (f := nI f) (by rw [lo 4]; exact LV.2.2.1) t ht
  have eT : ∀ i k, cTa (pourC (pourC (enC (loC c v L) l u g (nI due) (nI cont) (nI f) (nI t.val)) t v (nI C) gr) t u (nI D) gr) i k = cTa (pourC (pourC (loC c v L) t v (nI C) gr) t u (nI D) gr) i k := fun i k =>
    cTa_pour_congr (fun i k => cTa_pour_congr (fun i k => by unfold enC lpC; simp only [cTa_uVa, cTa_uGr, cTa_uLo]) t v (nI C) gr i k) t u (nI D) gr i k
  refine I7.acc (fun i k => ?_) (fun i k => ?_) (fun i k => ?_) (fun i k => ?_) (fun i => ?_)
  · unfold prC prV enC lpC
    simp only [cGr_uS, cGr_pour, cGr_uVa, cGr_uGr, cGr_uLo, cGr_lo]
  · unfold prC prV enC lpC
    simp only [cLo_uS, cLo_pour, cLo_uVa, cLo_uGr, cLo_uLo, cLo_lo]
  · unfold prC prV
    unfold lpC
    simp only [cTa_uS, cTa_uVa, cTa_uGr, cTa_uLo, eT]
  · unfold prC prV enC lpC
    simp only [cVa_uS, cVa_pour, cVa_uVa, cVa_uGr, cVa_uLo]
  · unfold prC prV enC lpC
    simp only [cS_uS, cS_pour, cS_uVa, cS_uGr, cS_uLo]
theorem rpV_room {c : Nat → Int32} {t : Fin 6} {l : Fin 40} {P : Nat} {m : Int32} (rv : rpV c t l P m = 0) : nI P ≤ roomV c t := by
  unfold rpV at rv
  by_cases q : nI P ≤ roomV c t
  · exact q
  · rw [if_neg q] at rv
    exact absurd rv (by decide)
theorem cls_press {h : Hst} {ng nl nt : Nat} (S : SVx h) (I : InvC (h.1 8) ng nl nt) (l : Fin 40) (hl : l.val < nl) (u v : Fin 5) (g : Fin 8) (hg : g.val < ng) (eg : cLo (h.1 8) l 0 = nI g.val) (t : Fin 6) (ht : t.val < nt) {due cont f k0 L C T Re : Nat} (LV : LotV (h.1 8) l u due cont f k0)
    (hRe : Re ≤ T) (hR5 : Re ≤ 50) (hT : T ≤ 13000) (hC : C ≤ 50) (hL : L ≤ 50) (m : Int32) (rv : rpV (h.1 8) t l (C + (T - Re)) m = 0) (ac : ∃ h', f_X2_lookAhead h = some (1, h') ∧ ScrC h h' ∧ RehC h' l u v due cont f L C T Re) :
    ∃ h', f_X6_press (nI t.val) m h = some (nI l.val, h') ∧ h'.1 8 = prC (h.1 8) l u v g t (nI due) (nI cont) (nI f) L C (T - Re) Re (gl3 (cLo (h.1 8) l 3)) ∧ SVx h' ∧ Out h h' := by
  obtain ⟨⟨-, h40, h6⟩, ⟨-, -, i9⟩, -⟩ := id I
  obtain ⟨h', e', s', r2, r3, r4, r5, r6, r7, r8, r9, r10, r11⟩ := ac
  have ec := reas_C I t e' s'.e8 r5 r11 m
  have room := rpV_room rv
  rw [rv] at ec
  have eu := LV.1
  obtain ⟨hc, e, ef, Sc⟩ := sav (S.same (s'.2 1 (by decide)))
  have e8 : hc.1 8 = h.1 8 := (ef 8 (by decide) (by decide)).trans s'.e8
  have e13 : hc.1 13 = h'.1 13 := ef 13 (by decide) (by decide)
  have hTt : TankI (h.1 8) t := I.2.2.2.2.2.2.2.2.2 t
  generalize hgg : gl3 (cLo (h.1 8) l 3) = gr
  have s : ∀ Z k, (hso hc 8 Z).1 13 k = h'.1 13 k := fun Z k => by show hc.1 13 k = _; rw [e13]
  have w : ∀ Z, (hso hc 8 Z).1 8 = Z := fun _ => rfl
  have cl : ∀ k : Fin 11, k ≠ 5 → k ≠ 6 → k ≠ 7 → k ≠ 8 → k ≠ 10 → cLo (enC (loC (h.1 8) v L) l u g (nI due) (nI cont) (nI f) (nI t.val)) l k = cLo (h.1 8) l k := fun k a5 a6 a7 a8 a10 => by
    unfold enC
    rw [cLo_uVa, cLo_uGr, lpC_ne _ _ _ _ _ _ k a5 a6 a7 a8 a10, cLo_lo]
  have tk : ∀ i k, cTa (enC (loC (h.1 8) v L) l u g (nI due) (nI cont) (nI f) (nI t.val)) i k = cTa (h.1 8) i k := fun i k => by
    unfold enC lpC
    simp only [cTa_uVa, cTa_uGr, cTa_uLo, cTa_lo]
  have hT1 : TankI (enC (loC (h.1 8) v L) l u g (nI due) (nI cont) (nI f) (nI t.val)) t := by
    simp only [TankI, tk]; exact hTt
  obtain ⟨rr, rr2, er2⟩ := roomV_N hTt
  have cd : C + (T - Re) ≤ rr := by
    rw [er2] at room
    exact Nat.le_of_not_lt (fun w => nI_ge w (by omega) room)
  have hT2 : TankI (pourC (enC (loC (h.1 8) v L) l u g (nI due) (nI cont) (nI f) (nI t.val)) t v (nI C) gr) t := by
    have I1 := inv_lo I v L
    have I2 := inv_pour I1 t ht v (nI C) gr (by rw [roomV_lo, er2]; exact nI_le (by omega) (by omega))
    have := I2.2.2.2.2.2.2.2.2.2 t
    have tk2 : ∀ i k, cTa (pourC (enC (loC (h.1 8) v L) l u g (nI due) (nI cont) (nI f) (nI t.val)) t v (nI C) gr) i k = cTa (pourC (loC (h.1 8) v L) t v (nI C) gr) i k := fun i k =>
      cTa_pour_congr (fun i k => by rw [tk, cTa_lo]) _ v _ gr i k
    simp only [TankI, tk2]; exact this
  have en := enter_v (c := loC (h.1 8) v L) (l := l) (u := u) (g := g) (d := nI due) (ct := nI cont) (f := nI f) (nI t.val) (hso hc 8 (loC (h.1 8) v L)) rfl ((s _ 5).trans r5) ((s _ 6).trans r6) ((s _ 7).trans r7) ((s _ 8).trans r8) ((cLo_lo _ _ _ _ _).trans eg) ((cLo_lo _ _ _ _ _).trans eu)
  have pp : nI (C + (T - Re)) - nI C = nI (T - Re) := by rw [pk_sub (by omega), show C + (T - Re) - C = T - Re by omega]
  refine ⟨hso hc 8 (prC (h.1 8) l u v g t (nI due) (nI cont) (nI f) L C (T - Re) Re gr), ?_, rfl, Sc.same rfl, fun k hk => by rw [hso_at, if_neg (by omega), ef k (by omega) (by omega), s'.2 k (by omega)]⟩
  unfold f_X6_press
  rw [checkTank_gd h6 i9 ht, gbv_some, ec, gb_some, if_pos rfl, e, gbv_some, e13, r4, r9, lose_v v (by omega), gbv_some, e8]
  rw [en, gbv_some, hso_hso]
  unfold f_X6_pourPressedOil
  rw [gl_eq, s, r5, gradeOfLot, gb_some, w, cl 3 (by decide) (by decide) (by decide) (by decide) (by decide), hgg, s, r4, s, r10, pour_C t v (nI C) gr _ (by rw [w]; exact hT1), gbv_some, w, hso_hso, get3_1, gb_some, w, cLo_pour, cl 1 (by decide) (by decide) (by decide) (by decide) (by decide), eu, s, r11, s, r10, pp, pour_C t u (nI (T - Re)) gr _ (by rw [w]; exact hT2), gbv_some, w, hso_hso, gbv_some, s, r2, rowp7_3, gbv_some, w, hso_hso, s, r3, rowp7_4, gbv_some, w, hso_hso, s, r5]
  rfl
-- an appeal
def setC (c : Nat → Int32) (g : Fin 8) (x : Int32) : Nat → Int32 :=
  if cS c 4 ≤ x then uGr (uGr c g 2 (cGr c g 2 + 1)) g 0 (cGr c g 0 + x)
  else uGr (uGr (uGr (uGr c g 2 (cGr c g 2 + 1)) g 0 (cGr c g 0 + x)) g 3 (cGr c g 3 + 1)) g 0 (if 0 < cGr c g 0 + x - cS c 4 then cGr c g 0 + x - cS c 4 else 0)
theorem settleAppeal_v (g : Fin 8) (x : Int32) (h : Hst) : f_X6_settleAppeal (nI g.val) x h = some (hso h 8 (setC (h.1 8) g x)) := by
  have k1 : ∀ y, cGr (uGr (h.1 8) g 2 y) g 0 = cGr (h.1 8) g 0 := fun y => by rw [cGr_uGr, if_neg (fun z => absurd z.2 (by decide))]
  have k2 : ∀ y w, cGr (uGr (uGr (h.1 8) g 2 y) g 0 w) g 3 = cGr (h.1 8) g 3 := fun y w => by rw [cGr_uGr, if_neg (fun z => absurd z.2 (by decide)), cGr_uGr, if_neg (fun z => absurd z.2 (by decide))]
  have k3 : ∀ y w u, cGr (uGr (uGr (uGr (h.1 8) g 2 y) g 0 w) g 3 u) g 0 = w := fun y w u => by rw [cGr_uGr, if_neg (fun z => absurd z.2 (by decide)), cGr_uGr, if_pos ⟨rfl, rfl⟩]
  unfold f_X6_settleAppeal jb_X6_settleAppeal_86 setC
  rw [row6_4, gb_some, add2_2, gbv_some, add2_0, gbv_some, hso_hso, hso_at, if_pos rfl, k1]
  by_cases q : cS (h.1 8) 4 ≤ x
  · rw [if_pos q, if_pos q]
  · rw [if_neg q, if_neg q, add2_3, gbv_some, hso_hso, hso_at, if_pos rfl, k2, get2_0, gb_some, put2_0, gbv_some, hso_hso, hso_at, if_pos rfl, k3]
theorem inv_app {c : Nat → Int32} {ng nl nt : Nat} (I : InvC c ng nl nt) (l : Fin 40) (hl : l.val < nl) (h1 : cLo c l 5 = 1) (x : Int32) : InvC (uLo (uLo c l 5 2) l 9 x) ng nl nt := by
  simp only [InvC, TankI, cS_uLo, cVa_uLo, cGr_uLo, cTa_uLo] at I ⊢
  obtain ⟨a, b, c1, d, e, f, r1, r2, r3⟩ := I
  refine ⟨a, b, c1, d, e, f, fun l' hl' k => ?_, fun l' hl' => ?_, r3⟩
  · have ne : ¬ l' = l := fun z => by rw [z] at hl'; omega
    rw [cLo_uLo, if_neg (fun z => ne z.1), cLo_uLo, if_neg (fun z => ne z.1)]; exact r1 l' hl' k
  · by_cases q : l' = l
    · subst q
      obtain ⟨q0, q1, q2, q3, q4, q5, q6⟩ := r2 l' hl'
      have n0 : cLo c l' 5 ≠ 0 := by rw [h1]; decide
      obtain ⟨w1, w2⟩ := q6 n0
      simp only [LotI, cLo_uLo]
      exact ⟨q0, q1, q2, q3, q4, ⟨2, by decide, rfl⟩, fun _ => ⟨w1, w2⟩⟩
    · have := r2 l' hl'
      have e2 : ∀ k, cLo (uLo (uLo c l 5 2) l 9 x) l' k = cLo c l' k := fun k => by rw [cLo_ne k q, cLo_ne k q]
      simp only [LotI, e2] at this ⊢
      exact this
def appC (c : Nat → Int32) (l : Fin 40) (g : Fin 8) (v : Fin 5) (t : Fin 6) (x gr : Int32) : Nat → Int32 :=
  setC (pourC (uVa (uLo (uLo c l 5 2) l 9 x) v 1 (cVa c v 1 + x)) t v x gr) g x
theorem inv_set2 {c : Nat → Int32} {ng nl nt : Nat} (I : InvC c ng nl nt) (g : Fin 8) (hg : g.val < ng) (x : Int32) : InvC (setC c g x) ng nl nt := by
  unfold setC
  split
  · exact inv_G (inv_G I g 2 hg _) g 0 hg _
  · exact inv_G (inv_G (inv_G (inv_G I g 2 hg _) g 0 hg _) g 3 hg _) g 0 hg _
theorem cls_appeal {h : Hst} {ng nl nt : Nat} (S : SVx h) (I : InvC (h.1 8) ng nl nt) (l : Fin 40) (hl : l.val < nl) (g : Fin 8) (hg : g.val < ng) (eg : cLo (h.1 8) l 0 = nI g.val) (v : Fin 5) (ev : cLo (h.1 8) l 1 = nI v.val) (t : Fin 6) (ht : t.val < nt) (et : cLo (h.1 8) l 10 = nI t.val) (h1 : cLo (h.1 8) l 5 = 1) (ra : raV (h.1 8) l t = 0) :
    ∃ h', f_X6_appeal (nI l.val) h = some (secV (h.1 8) l, h') ∧ h'.1 8 = appC (h.1 8) l g v t (secV (h.1 8) l) (gl3 (cLo (h.1 8) l 3)) ∧ SVx h' ∧ Out h h' ∧ InvC (appC (h.1 8) l g v t (secV (h.1 8) l) (gl3 (cLo (h.1 8) l 3))) ng nl nt ∧ secV (h.1 8) l ≤ roomV (h.1 8) t := by
  obtain ⟨⟨hg8, h40, h6⟩, ⟨i7, i8, i9⟩, -⟩ := id I
  have hx : secV (h.1 8) l ≤ roomV (h.1 8) t := by
    unfold raV at ra
    rw [if_pos h1] at ra
    by_cases q : cLo (h.1 8) l 8 < dueV (h.1 8) l
    · rw [if_pos q] at ra
      by_cases w : secV (h.1 8) l ≤ roomV (h.1 8) t
      · exact w
      · rw [if_neg w] at ra; exact absurd ra (by decide)
    · rw [if_neg q] at ra; exact absurd ra (by decide)
  have rc := reasonAppeal_c l t (fun _ => et) h rfl
  rw [ra] at rc
  obtain ⟨hc, e, ef, Sc⟩ := sav S
  have e8 := ef 8 (by decide) (by decide)
  have hT : TankI (h.1 8) t := I.2.2.2.2.2.2.2.2.2 t
  generalize hxx : secV (h.1 8) l = x at hx
  generalize hgg : gl3 (cLo (h.1 8) l 3) = gr
  have hT2 : TankI (uVa (uLo (uLo (h.1 8) l 5 2) l 9 x) v 1 (cVa (h.1 8) v 1 + x)) t := by
    simp only [TankI, cTa_uVa, cTa_uLo]; exact hT
  have cl : ∀ k : Fin 11, k ≠ 5 → k ≠ 9 → cLo (uVa (uLo (uLo (h.1 8) l 5 2) l 9 x) v 1 (cVa (h.1 8) v 1 + x)) l k = cLo (h.1 8) l k := fun k k5 k9 => by
    rw [cLo_uVa, cLo_uLo, if_neg (fun w => k9 w.2), cLo_uLo, if_neg (fun w => k5 w.2)]
  refine ⟨hso hc 8 (appC (h.1 8) l g v t x gr), ?_, rfl, Sc.same rfl, fun k hk => by rw [hso_at, if_neg (by omega), ef k (by omega) (by omega)], ?_, hx⟩
  · unfold f_X6_appeal
    rw [checkLot_gd h40 i8 hl, gbv_some, rc, gb_some, if_pos rfl, e, gbv_some, secondOilOf_v, gb_some, e8, hxx, get3_1, gb_some, e8, ev, put3_5, gbv_some, put3_9, gbv_some, hso_hso, hso_at, if_pos rfl, e8, add5_1, gbv_some, hso_hso, hso_at, if_pos rfl, cVa_uLo, cVa_uLo, get3_10, gb_some, hso_at, if_pos rfl, cl 10 (by decide) (by decide), et, gradeOfLot, gb_some, hso_at, if_pos rfl, cl 3 (by decide) (by decide), hgg, pour_C t v x gr _ (by rw [hso_at, if_pos rfl]; exact hT2), gbv_some, hso_hso, hso_at, if_pos rfl, get3_0, gb_some, hso_at, if_pos rfl, cLo_pour, cl 0 (by decide) (by decide), eg, settleAppeal_v, gbv_some, hso_hso, hso_at, if_pos rfl]
    rfl
  · have I2 := inv_V (inv_app I l hl h1 x) v 1 (cVa (h.1 8) v 1 + x) (fun q => absurd q (by decide))
    have er : roomV (uVa (uLo (uLo (h.1 8) l 5 2) l 9 x) v 1 (cVa (h.1 8) v 1 + x)) t = roomV (h.1 8) t := by
      unfold roomV oil5
      simp only [cTa_uVa, cTa_uLo]
    exact inv_set2 (inv_pour I2 t ht v x gr (by rw [er]; exact hx)) g hg x
