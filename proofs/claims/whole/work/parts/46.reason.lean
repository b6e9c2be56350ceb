-- the reason against pressing
def rpV (c : Nat → Int32) (t : Fin 6) (l : Fin 40) (P : Nat) (m : Int32) : Int32 :=
  if nI P ≤ roomV c t then (if nI P ≤ 0 then 0 else if adm (grd (oil5 c t) (cTa c t 1)) (gl3 (cLo c l 3)) m = 0 then 3 else 0) else 2
theorem reas_C {c : Nat → Int32} {ng nl nt : Nat} (I : InvC c ng nl nt) (t : Fin 6) {l : Fin 40} {P : Nat} {h h' : Hst} (ea : f_X2_lookAhead h = some (1, h')) (e8 : h'.1 8 = c) (r5 : h'.1 13 5 = nI l.val) (r11 : h'.1 13 11 = nI P) (m : Int32) : f_X6_reasonAgainstPress (nI t.val) m h = some (rpV c t l P m, h') := by
  have hT : TankI c t := I.2.2.2.2.2.2.2.2.2 t
  unfold f_X6_reasonAgainstPress jb_X6_reasonAgainstPress_70
  rw [ea, gb_some, if_neg (by decide), roomOf, gb_some, r11, r5, e8]
  show (if nI P ≤ roomV c t then _ else _) = _
  unfold rpV
  by_cases q : nI P ≤ roomV c t
  · rw [if_pos q, if_pos q]
    by_cases q0 : nI P ≤ 0
    · rw [if_pos q0, if_pos q0]
    · rw [if_neg q0, if_neg q0, gradeOfLot, gb_some, e8, admits t (by rw [e8]; exact hT), gb_some, e8]
      by_cases q1 : adm (grd (oil5 c t) (cTa c t 1)) (gl3 (cLo c l 3)) m = 0
      · rw [if_pos q1, if_pos q1]
      · rw [if_neg q1, if_neg q1]
  · rw [if_neg q, if_neg q]
theorem reas_M {c z : Nat → Int32} {ng nl nt : Nat} (I : InvC c ng nl nt) (R : RelCZ c z nl) (t : Fin 6) {l : Fin 40} (hl : l.val < nl) {C D : Nat} {h h' : Hst} (ea : f_X7_layNextNow h = some (1, h')) (e18 : h'.1 18 = z) (r9 : h'.1 17 9 = nI l.val) (r13 : h'.1 17 13 = nI C) (r14 : h'.1 17 14 = nI D) (m : Int32) : f_X7_reason (nI t.val) m h = some (rpV c t l (C + D) m, h') := by
  have z3 : zL z l 3 = cLo c l 3 := R.2.2.2.2.2.2.1 l 3
  have t0 : zT z t 0 = cTa c t 0 := R.2.2.2.2.2.1 t 0
  have t1 : zT z t 1 = cTa c t 1 := R.2.2.2.2.2.1 t 1
  have c3 : isN (cLo c l 3) 50 := (I.2.2.2.2.2.2.2.1 l hl).2.2.2.1
  unfold f_X7_reason jb_X7_reason_57 jb_X7_reason_58
  rw [ea, gb_some, if_neg (by decide), r13, r14, nI_add, gl_eq, roomIn, gb_some, e18, zoil_eq R, t0, r9]
  show (if nI (C + D) ≤ roomV c t then _ else _) = _
  unfold rpV
  by_cases q : nI (C + D) ≤ roomV c t
  · rw [if_pos q, if_pos q]
    by_cases q0 : nI (C + D) ≤ 0
    · rw [if_pos q0, if_pos q0]
    · rw [if_neg q0, if_neg q0, gradeOfLot7 _ _ (by rw [e18, z3]; exact c3), gb_some, e18, z3, suits, gb_some, e18, zoil_eq R, t1]
      by_cases q1 : adm (grd (oil5 c t) (cTa c t 1)) (gl3 (cLo c l 3)) m = 0
      · rw [if_pos q1, if_pos q1]
      · rw [if_neg q1, if_neg q1]
  · rw [if_neg q, if_neg q]
theorem ScrC.e8 {h h' : Hst} (s : ScrC h h') : h'.1 8 = h.1 8 := s.2 8 (by decide)
theorem ScrM.e18 {h h' : Hst} (s : ScrM h h') : h'.1 18 = h.1 18 := s.2.1 18 (by decide)
theorem getV_whyNot {c z : Nat → Int32} {ng nl nt : Nat} (I : InvC c ng nl nt) (R : RelCZ c z nl) (s : Int32) (t : Fin 6) (ht : t.val < nt) (m : Int32) : GetV c z s (f_X6_whyNot (nI t.val) m) (f_X7_reason (nI t.val) m) := by
  obtain ⟨⟨-, -, h6⟩, ⟨-, -, i9⟩, -⟩ := id I
  rcases ahead I R with ⟨ac, am⟩ | ⟨l, u, v, due, cont, f, k0, r, L, C, T, Re, hl, -, -, -, -, -, -, -, -, -, -, -, ac, am⟩
  · refine ⟨1, fun h e _ => ?_, fun h e _ => ?_⟩
    · obtain ⟨h', e', s'⟩ := ac h e
      refine ⟨h', ?_, s'⟩
      unfold f_X6_whyNot f_X6_reasonAgainstPress
      rw [checkTank_gd h6 (by rw [e]; exact i9) ht, gbvx_inl, e', gb_some, if_pos rfl, gb_some]
    · obtain ⟨h', e', s'⟩ := am h e
      refine ⟨h', ?_, s'⟩
      unfold f_X7_reason
      rw [e', gb_some, if_pos rfl]
  · refine ⟨rpV c t l (C + (T - Re)) m, fun h e _ => ?_, fun h e _ => ?_⟩
    · obtain ⟨h', e', s', r2, r3, r4, r5, r6, r7, r8, r9, r10, r11⟩ := ac h e
      refine ⟨h', ?_, s'⟩
      unfold f_X6_whyNot
      rw [checkTank_gd h6 (by rw [e]; exact i9) ht, gbvx_inl, reas_C I t e' (s'.e8.trans e) r5 r11, gb_some]
    · obtain ⟨h', e', s', r9, r10, r11, r12, r13, r14, r15⟩ := am h e
      exact ⟨h', reas_M I R t hl e' (s'.e18.trans e) r9 r13 r14 m, s'⟩
theorem op_whyNot {h : Hst} (S : Sim h) (p0 p1 : Int32) : Agree (f_L_whyNot p0 p1 h) (f_X7_whyNot p0 p1) := by
  obtain ⟨-, ⟨ng, nl, nt, I, R⟩, -⟩ := id S
  obtain ⟨⟨-, -, h6⟩, ⟨-, -, i9⟩, -⟩ := id I
  have z9 : h.1 18 9 = nI nt := (R.1 9 (by decide)).trans i9
  rcases idx p0 (n := nt) (by omega) with ⟨t, ht, rfl⟩ | b0
  · refine agree_get S (getV_whyNot I R (h.1 1 9) ⟨t, by omega⟩ ht p1) rfl (fun H e => ?_)
    unfold f_X7_whyNot jb_X7_whyNot_14 jb_X7_whyNot_34
    rw [isTank_gd h6 (by rw [e]; exact z9) ht, gb_some, if_neg (by decide), gl_eq]
    show (if (0 : Int32) ≤ 0 then _ else _) = _
    rw [if_pos (by decide), gb_eta]
  · refine agree_bad S (k := 1) (by decide) ?_ ?_
    · unfold f_L_whyNot f_X6_whyNot
      rw [checkTank_bad i9 b0, gbvx_inr, gbx_inr]
      rfl
    · unfold f_X7_whyNot jb_X7_whyNot_14
      rw [isTank_bad z9 b0, gb_some, if_pos rfl, gl_eq]
      show (if (1 : Int32) ≤ 0 then _ else _) = _
      rw [if_neg (by decide)]
      rfl
-- a getter that throws nothing
theorem agree2_get {h : Hst} (S : Sim h) {fc fm m : Hst → Option (Int32 × Hst)} (V : GetW (h.1 8) (h.1 18) (h.1 1 9) fc fm) (hm : ∀ H : Hst, H.1 18 = h.1 18 → m H = fm (hst H 17 5 0)) : Agree2 (fc h) m := by
  obtain ⟨v, vc, vm⟩ := V
  obtain ⟨h', e, s⟩ := vc h rfl rfl
  have e18 : h'.1 18 = h.1 18 := s.2 18 (by decide)
  have e17 : h'.1 17 = h.1 17 := s.2 17 (by decide)
  obtain ⟨⟨o, ns, s1, s2, s3, s4, s5, s6⟩, -⟩ := id S
  obtain ⟨d, e', s'⟩ := vm (hst h' 17 5 0) e18 (by
    show upd (h'.1 17) 5 0 1 = _
    rw [upd_at, if_neg (by decide), e17, s5, s4])
  exact ⟨v, h', d, e, (hm h' e18).trans e', Sim.scr (b := hst h' 17 5 0) S s rfl s'⟩
-- the best tank
def btF (g : Nat → Int32 × Int32) : Nat → Nat → Int32 → Int32 → Int32
  | 0, _, b, _ => b
  | m + 1, i, b, s => if (g i).1 = 0 then (if b = -1 then btF g m (i + 1) (nI i) (g i).2 else if s ≤ (g i).2 then btF g m (i + 1) b s else btF g m (i + 1) (nI i) (g i).2) else btF g m (i + 1) b s
theorem best_C {c : Nat → Int32} {nt : Nat} (h6 : nt ≤ 6) (g : Nat → Int32 × Int32) (hg : ∀ t : Fin 6, t.val < nt → ∀ h, h.1 8 = c → ∃ h', f_X6_reasonAgainstPress (nI t.val) 0 h = some ((g t.val).1, h') ∧ ScrC h h' ∧ ((g t.val).1 = 0 → roomV c t - h'.1 13 11 = (g t.val).2)) :
    ∀ (m i n : Nat) (b s : Int32) (h : Hst), i + m = nt → m < n → h.1 8 = c → ∃ h', lp_X6_bestTank_19 n b s (nI nt) (nI i) h = some (btF g m i b s, h') ∧ ScrC h h'
  | 0, i, n + 1, b, s, h, hi, _, e => by
    refine ⟨h, ?_, ScrC.rf⟩
    rw [lp_X6_bestTank_19, if_pos (nI_le (by omega) (by omega))]
    rfl
  | m + 1, i, n + 1, b, s, h, hi, hn, e => by
    obtain ⟨h1, e1, s1, w⟩ := hg ⟨i, by omega⟩ (by show i < nt; omega) h e
    have e1' : f_X6_reasonAgainstPress (nI i) 0 h = some ((g i).1, h1) := e1
    have h8 : h1.1 8 = c := s1.e8.trans e
    have go := fun b s => best_C h6 g hg m (i + 1) n b s h1 (by omega) (by omega) h8
    have rm : f_X1_roomOf (nI i) h1 = some (roomV c ⟨i, by omega⟩, h1) := by rw [← h8]; exact roomOf ⟨i, by omega⟩ h1
    rw [lp_X6_bestTank_19, if_neg (nI_ge (by omega) (by omega)), e1', gb_some, btF]
    unfold jb_X6_bestTank_65 jb_X6_bestTank_71
    rw [nI_1]
    by_cases q : (g i).1 = 0
    · rw [if_pos q, if_pos q, rm, gb_some, gl_eq, w q]
      show ∃ h', (if b = -1 then _ else if s ≤ (g i).2 then _ else _) = _ ∧ _
      by_cases q1 : b = -1
      · rw [if_pos q1, if_pos q1]
        obtain ⟨h', e', s'⟩ := go (nI i) (g i).2
        exact ⟨h', e', s1.trans s'⟩
      · rw [if_neg q1, if_neg q1]
        by_cases q2 : s ≤ (g i).2
        · rw [if_pos q2, if_pos q2]
          obtain ⟨h', e', s'⟩ := go b s
          exact ⟨h', e', s1.trans s'⟩
        · rw [if_neg q2, if_neg q2]
          obtain ⟨h', e', s'⟩ := go (nI i) (g i).2
          exact ⟨h', e', s1.trans s'⟩
    · rw [if_neg q, if_neg q]
      obtain ⟨h', e', s'⟩ := go b s
      exact ⟨h', e', s1.trans s'⟩
theorem best_M {c z : Nat → Int32} {ng nl nt : Nat} (I : InvC c ng nl nt) (R : RelCZ c z nl) (g : Nat → Int32 × Int32) (hg : ∀ t : Fin 6, t.val < nt → ∀ h, h.1 18 = z → ∃ h', f_X7_reason (nI t.val) 0 h = some ((g t.val).1, h') ∧ ScrM h h' ∧ ((g t.val).1 = 0 → roomV c t - h'.1 17 13 - h'.1 17 14 = (g t.val).2)) :
    ∀ (m i n : Nat) (b s : Int32) (h : Hst), i + m = nt → m < n → h.1 18 = z → ∃ h', lp_X7_tankForNext_6 n b s (nI i) h = some (btF g m i b s, h') ∧ ScrM h h'
  | 0, i, n + 1, b, s, h, hi, _, e => by
    have h6 := I.1.2.2
    have z9 : z 9 = nI nt := (R.1 9 (by decide)).trans I.2.1.2.2
    refine ⟨h, ?_, ScrM.rf⟩
    rw [lp_X7_tankForNext_6, gk_9_514, tn_9, e, z9, if_pos (nI_le (by omega) (by omega))]
    rfl
  | m + 1, i, n + 1, b, s, h, hi, hn, e => by
    have h6 := I.1.2.2
    have z9 : z 9 = nI nt := (R.1 9 (by decide)).trans I.2.1.2.2
    obtain ⟨h1, e1, s1, w⟩ := hg ⟨i, by omega⟩ (by show i < nt; omega) h e
    have e1' : f_X7_reason (nI i) 0 h = some ((g i).1, h1) := e1
    have h8 : h1.1 18 = z := s1.e18.trans e
    have go := fun b s => best_M I R g hg m (i + 1) n b s h1 (by omega) (by omega) h8
    have rm : f_X7_roomIn (nI i) h1 = some (roomV c ⟨i, by omega⟩, h1) := by
      have := roomIn ⟨i, by omega⟩ h1
      rw [h8, zoil_eq R, show zT z ⟨i, by omega⟩ 0 = cTa c ⟨i, by omega⟩ 0 from R.2.2.2.2.2.1 ⟨i, by omega⟩ 0] at this
      exact this
    rw [lp_X7_tankForNext_6, gk_9_514, tn_9, e, z9, if_neg (nI_ge (by omega) (by omega)), e1', gb_some, btF]
    unfold jb_X7_tankForNext_31 jb_X7_tankForNext_57 jb_X7_tankForNext_75 jb_X7_tankForNext_79 jb_X7_tankForNext_80 jb_X7_tankForNext_92 jb_X7_tankForNext_104
    rw [nI_1]
    by_cases q : (g i).1 = 0
    · rw [if_pos q, if_pos q, if_neg (by decide), rm, gb_some, w q, if_neg (by decide)]
      show ∃ h', (if b = -1 then _ else if s ≤ (g i).2 then _ else _) = _ ∧ _
      by_cases q1 : b = -1
      · rw [if_pos q1, if_pos q1]
        obtain ⟨h', e', s'⟩ := go (nI i) (g i).2
        exact ⟨h', e', s1.trans s'⟩
      · rw [if_neg q1, if_neg q1]
        by_cases q2 : s ≤ (g i).2
        · rw [if_pos q2, if_pos q2]
          obtain ⟨h', e', s'⟩ := go b s
          exact ⟨h', e', s1.trans s'⟩
        · rw [if_neg q2, if_neg q2]
          obtain ⟨h', e', s'⟩ := go (nI i) (g i).2
          exact ⟨h', e', s1.trans s'⟩
    · rw [if_neg q, if_neg q]
      obtain ⟨h', e', s'⟩ := go b s
      exact ⟨h', e', s1.trans s'⟩
theorem i_sub2 (x a b : Int32) : x - a - b = x - (a + b) := by
  rw [Int32.sub_eq_add_neg, Int32.sub_eq_add_neg, Int32.sub_eq_add_neg, Int32.neg_add, Int32.sub_eq_add_neg, Int32.add_assoc]
theorem getW_bestTank {c z : Nat → Int32} {ng nl nt : Nat} (I : InvC c ng nl nt) (R : RelCZ c z nl) (s : Int32) : GetW c z s f_X6_bestTank f_X7_tankForNext := by
  have h6 := I.1.2.2
  have i9 : cS c 9 = nI nt := I.2.1.2.2
  have fin : ∀ g : Nat → Int32 × Int32, (∀ t : Fin 6, t.val < nt → ∀ h, h.1 8 = c → ∃ h', f_X6_reasonAgainstPress (nI t.val) 0 h = some ((g t.val).1, h') ∧ ScrC h h' ∧ ((g t.val).1 = 0 → roomV c t - h'.1 13 11 = (g t.val).2)) →
      (∀ t : Fin 6, t.val < nt → ∀ h, h.1 18 = z → ∃ h', f_X7_reason (nI t.val) 0 h = some ((g t.val).1, h') ∧ ScrM h h' ∧ ((g t.val).1 = 0 → roomV c t - h'.1 17 13 - h'.1 17 14 = (g t.val).2)) → GetW c z s f_X6_bestTank f_X7_tankForNext := fun g a b =>
    ⟨btF g nt 0 (-1) 0, fun h e _ => by
      unfold f_X6_bestTank
      rw [row7_2, gb_some, e, i9]
      exact best_C h6 g a nt 0 FU (-1) 0 h (by omega) (Nat.lt_of_le_of_lt h6 (by decide)) e, fun h e _ => by
      unfold f_X7_tankForNext
      exact best_M I R g b nt 0 FU (-1) 0 h (by omega) (Nat.lt_of_le_of_lt h6 (by decide)) e⟩
  rcases ahead I R with ⟨ac, am⟩ | ⟨l, u, v, due, cont, f, k0, r, L, C, T, Re, hl, -, -, -, -, -, -, -, -, -, -, -, ac, am⟩
  · refine fin (fun _ => (1, 0)) (fun t _ h e => ?_) (fun t _ h e => ?_)
    · obtain ⟨h', e', s'⟩ := ac h e
      refine ⟨h', ?_, s', fun w => absurd w (by decide)⟩
      unfold f_X6_reasonAgainstPress
      rw [e', gb_some, if_pos rfl]
    · obtain ⟨h', e', s'⟩ := am h e
      refine ⟨h', ?_, s', fun w => absurd w (by decide)⟩
      unfold f_X7_reason
      rw [e', gb_some, if_pos rfl]
  · refine fin (fun i : Nat => if hi : i < 6 then (rpV c ⟨i, hi⟩ l (C + (T - Re)) 0, roomV c ⟨i, hi⟩ - nI (C + (T - Re))) else (0, 0)) (fun t _ h e => ?_) (fun t _ h e => ?_)
    · obtain ⟨h', e', s', r2, r3, r4, r5, r6, r7, r8, r9, r10, r11⟩ := ac h e
      rw [dif_pos t.isLt]
      exact ⟨h', reas_C I t e' (s'.e8.trans e) r5 r11 0, s', fun _ => by rw [r11]⟩
    · obtain ⟨h', e', s', r9, r10, r11, r12, r13, r14, r15⟩ := am h e
      rw [dif_pos t.isLt]
      exact ⟨h', reas_M I R t hl e' (s'.e18.trans e) r9 r13 r14 0, s', fun _ => by rw [r13, r14, i_sub2, nI_add]⟩
theorem op_bestTank {h : Hst} (S : Sim h) : Agree2 (f_X6_bestTank h) f_X7_bestTank := by
  obtain ⟨-, ⟨ng, nl, nt, I, R⟩, -⟩ := id S
  refine agree2_get S (getW_bestTank I R (h.1 1 9)) (fun H e => ?_)
  unfold f_X7_bestTank
  rw [gl_eq, gb_eta]
