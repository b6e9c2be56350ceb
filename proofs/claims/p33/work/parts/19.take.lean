def tkC (t : Fin 6) (N : Fin 5 → Nat) : Nat → Nat → (Nat → Int32) → Nat → Int32
  | 0, _, c => c
  | m + 1, i, c => if hi : i < 5 then tkC t N m (i + 1) (uTa c t (ts ⟨i, hi⟩) (cTa c t (ts ⟨i, hi⟩) + -nI (N ⟨i, hi⟩))) else c
theorem takeOut_8 (t : Fin 6) (N : Fin 5 → Nat) : ∀ (m i n : Nat) (h : Hst), i + m = 5 → m < n → (∀ v : Fin 5, h.1 11 v.val = nI (N v)) → lp_X1_takeOut_8 n (nI t.val) (nI i) h = some (hso h 8 (tkC t N m i (h.1 8)))
  | 0, i, n + 1, h, hi, _, _ => by
    rw [lp_X1_takeOut_8, if_pos (show (5 : Int32) ≤ nI i from nI_le (a := 5) (by omega) (by omega)), tkC, hso_self]
  | m + 1, i, n + 1, h, hi, hn, hv => by
    have i5 : i < 5 := by omega
    rw [lp_X1_takeOut_8, if_neg (show ¬ (5 : Int32) ≤ nI i from nI_ge (b := 5) i5 (by decide)), show nI i = nI (⟨i, i5⟩ : Fin 5).val from rfl, part_v, gb_some, add4_v, gbv_some, hv, show nI (⟨i, i5⟩ : Fin 5).val + 1 = nI (i + 1) from nI_1 i, takeOut_8 t N m (i + 1) n _ (by omega) (by omega) (fun v => by rw [hso_at, if_neg (by decide)]; exact hv v), hso_hso, hso_at, if_pos rfl, tkC, dif_pos i5]
theorem cTa_tk (t : Fin 6) (N : Fin 5 → Nat) {t' : Fin 6} (ne : ¬ t' = t) (k : Fin 7) : ∀ (m i : Nat) (c : Nat → Int32), cTa (tkC t N m i c) t' k = cTa c t' k
  | 0, _, _ => rfl
  | m + 1, i, c => by
    rw [tkC]
    split
    · rw [cTa_tk t N ne k m (i + 1), cTa_uTa, if_neg (fun w => ne w.1)]
    · rfl
theorem roomV_tk (t : Fin 6) (N : Fin 5 → Nat) {t' : Fin 6} (ne : ¬ t' = t) (m i : Nat) (c : Nat → Int32) : roomV (tkC t N m i c) t' = roomV c t' := by
  unfold roomV oil5
  simp only [cTa_tk t N ne]
theorem inv_tk {ng nl nt : Nat} (t : Fin 6) (ht : t.val < nt) (o N : Fin 5 → Nat) (ho : ∀ v, o v ≤ 20000) (hN : ∀ v, N v ≤ o v) : ∀ (m i : Nat) (c : Nat → Int32), i + m = 5 → InvC c ng nl nt → (∀ v : Fin 5, i ≤ v.val → cTa c t (ts v) = nI (o v)) → InvC (tkC t N m i c) ng nl nt
  | 0, i, c, _, I, _ => I
  | m + 1, i, c, hi, I, hc => by
    have i5 : i < 5 := by omega
    have e1 : cTa c t (ts ⟨i, i5⟩) + -nI (N ⟨i, i5⟩) = nI (o ⟨i, i5⟩ - N ⟨i, i5⟩) := by
      rw [← Int32.sub_eq_add_neg, hc ⟨i, i5⟩ (Nat.le_refl _), pk_sub (hN _)]
    obtain ⟨o', ho', eo', T⟩ := TankI_dec (I.2.2.2.2.2.2.2.2.2 t) ⟨i, i5⟩
    have eo : o' = o ⟨i, i5⟩ := nI_inj (by omega) (by have := ho ⟨i, i5⟩; omega) (eo'.symm.trans (hc ⟨i, i5⟩ (Nat.le_refl _)))
    rw [tkC, dif_pos i5]
    refine inv_tk t ht o N ho hN m (i + 1) _ (by omega) (inv_T I t _ ht _ (by rw [e1]; exact T _ (by omega))) (fun v hv => ?_)
    rw [cTa_uTa, if_neg (fun w => by have := congrArg Fin.val (ts_inj.mp w.2); have q : v.val = i := this; omega)]
    exact hc v (by omega)
theorem cLo_tk (t : Fin 6) (N : Fin 5 → Nat) (i' : Fin 40) (k : Fin 11) : ∀ (m i : Nat) (c : Nat → Int32), cLo (tkC t N m i c) i' k = cLo c i' k
  | 0, _, _ => rfl
  | m + 1, i, c => by
    rw [tkC]
    split
    · rw [cLo_tk t N i' k m (i + 1), cLo_uTa]
    · rfl
theorem cGr_tk (t : Fin 6) (N : Fin 5 → Nat) (i' : Fin 8) (k : Fin 4) : ∀ (m i : Nat) (c : Nat → Int32), cGr (tkC t N m i c) i' k = cGr c i' k
  | 0, _, _ => rfl
  | m + 1, i, c => by
    rw [tkC]
    split
    · rw [cGr_tk t N i' k m (i + 1), cGr_uTa]
    · rfl
theorem cVa_tk (t : Fin 6) (N : Fin 5 → Nat) (i' k : Fin 5) : ∀ (m i : Nat) (c : Nat → Int32), cVa (tkC t N m i c) i' k = cVa c i' k
  | 0, _, _ => rfl
  | m + 1, i, c => by
    rw [tkC]
    split
    · rw [cVa_tk t N i' k m (i + 1), cVa_uTa]
    · rfl
theorem cS_tk (t : Fin 6) (N : Fin 5 → Nat) (i' : Fin 14) : ∀ (m i : Nat) (c : Nat → Int32), cS (tkC t N m i c) i' = cS c i'
  | 0, _, _ => rfl
  | m + 1, i, c => by
    rw [tkC]
    split
    · rw [cS_tk t N i' m (i + 1), cS_uTa]
    · rfl
-- what is drawn, by variety
def dvC (N : Fin 5 → Nat) : Nat → Nat → (Nat → Int32) → Nat → Int32
  | 0, _, c => c
  | m + 1, i, c => if hi : i < 5 then dvC N m (i + 1) (uVa c ⟨i, hi⟩ 2 (cVa c ⟨i, hi⟩ 2 + nI (N ⟨i, hi⟩))) else c
theorem draw_71 (g : Fin 8) (N : Fin 5 → Nat) (q : Nat) : ∀ (m i n : Nat) (h : Hst), i + m = 5 → m < n → (∀ v : Fin 5, h.1 11 v.val = nI (N v)) → lp_X6_draw_71 n (nI g.val) (nI q) (nI i) h = some ((cGr (dvC N m i (h.1 8)) g 0 + -nI q, hso h 8 (uGr (uGr (dvC N m i (h.1 8)) g 0 (cGr (dvC N m i (h.1 8)) g 0 + -nI q)) g 1 (cGr (dvC N m i (h.1 8)) g 1 + nI q))))
  | 0, i, n + 1, h, hi, _, _ => by
    rw [lp_X6_draw_71, if_pos (show (5 : Int32) ≤ nI i from nI_le (a := 5) (by omega) (by omega)), add2_0, gbv_some, add2_1, gbv_some, hso_hso, hso_at, if_pos rfl, get2_0, gb_some, hso_at, if_pos rfl, cGr_uGr, if_neg (fun w => absurd w.2 (by decide)), cGr_uGr, if_pos ⟨rfl, rfl⟩, cGr_uGr, if_neg (fun w => absurd w.2 (by decide))]
    rfl
  | m + 1, i, n + 1, h, hi, hn, hv => by
    have i5 : i < 5 := by omega
    rw [lp_X6_draw_71, if_neg (show ¬ (5 : Int32) ≤ nI i from nI_ge (b := 5) i5 (by decide)), show nI i = nI (⟨i, i5⟩ : Fin 5).val from rfl, part_v, gb_some, add5_2, gbv_some, hv, show nI (⟨i, i5⟩ : Fin 5).val + 1 = nI (i + 1) from nI_1 i, draw_71 g N q m (i + 1) n _ (by omega) (by omega) (fun v => by rw [hso_at, if_neg (by decide)]; exact hv v), hso_hso, hso_at, if_pos rfl, dvC, dif_pos i5]
theorem inv_dv {ng nl nt : Nat} (N : Fin 5 → Nat) : ∀ (m i : Nat) (c : Nat → Int32), i + m = 5 → InvC c ng nl nt → InvC (dvC N m i c) ng nl nt
  | 0, i, c, _, I => I
  | m + 1, i, c, hi, I => by
    have i5 : i < 5 := by omega
    rw [dvC, dif_pos i5]
    exact inv_dv N m (i + 1) _ (by omega) (inv_V I _ 2 _ (fun w => absurd w (by decide)))
theorem cTa_dv (N : Fin 5 → Nat) (i' : Fin 6) (k : Fin 7) : ∀ (m i : Nat) (c : Nat → Int32), cTa (dvC N m i c) i' k = cTa c i' k
  | 0, _, _ => rfl
  | m + 1, i, c => by
    rw [dvC]
    split
    · rw [cTa_dv N i' k m (i + 1), cTa_uVa]
    · rfl
theorem cLo_dv (N : Fin 5 → Nat) (i' : Fin 40) (k : Fin 11) : ∀ (m i : Nat) (c : Nat → Int32), cLo (dvC N m i c) i' k = cLo c i' k
  | 0, _, _ => rfl
  | m + 1, i, c => by
    rw [dvC]
    split
    · rw [cLo_dv N i' k m (i + 1), cLo_uVa]
    · rfl
theorem cGr_dv (N : Fin 5 → Nat) (i' : Fin 8) (k : Fin 4) : ∀ (m i : Nat) (c : Nat → Int32), cGr (dvC N m i c) i' k = cGr c i' k
  | 0, _, _ => rfl
  | m + 1, i, c => by
    rw [dvC]
    split
    · rw [cGr_dv N i' k m (i + 1), cGr_uVa]
    · rfl
theorem cS_dv (N : Fin 5 → Nat) (i' : Fin 14) : ∀ (m i : Nat) (c : Nat → Int32), cS (dvC N m i c) i' = cS c i'
  | 0, _, _ => rfl
  | m + 1, i, c => by
    rw [dvC]
    split
    · rw [cS_dv N i' m (i + 1), cS_uVa]
    · rfl
theorem cVa_dv0 (N : Fin 5 → Nat) (i' : Fin 5) : ∀ (m i : Nat) (c : Nat → Int32), cVa (dvC N m i c) i' 0 = cVa c i' 0
  | 0, _, _ => rfl
  | m + 1, i, c => by
    rw [dvC]
    split
    · rw [cVa_dv0 N i' m (i + 1), cVa_uVa, if_neg (fun w => absurd w.2 (by decide))]
    · rfl
def drC (c : Nat → Int32) (g : Fin 8) (t : Fin 6) (N : Fin 5 → Nat) (q : Nat) : Nat → Int32 :=
  uGr (uGr (dvC N 5 0 (tkC t N 5 0 c)) g 0 (cGr (dvC N 5 0 (tkC t N 5 0 c)) g 0 + -nI q)) g 1 (cGr (dvC N 5 0 (tkC t N 5 0 c)) g 1 + nI q)
theorem cls_draw {h : Hst} {ng nl nt : Nat} (S : SVx h) (I : InvC (h.1 8) ng nl nt) (g : Fin 8) (hg : g.val < ng) (t : Fin 6) (ht : t.val < nt) (o : Fin 5 → Nat) (ho : ∀ v, cTa (h.1 8) t (ts v) = nI (o v)) (he : oil5 (h.1 8) t = nI (S5 o)) (h1 : S5 o ≤ 20000) (h2 : ∀ v, o v ≤ 20000) {q m : Nat} {N : Fin 5 → Nat} (q1 : 1 ≤ q) (q2 : q ≤ S5 o) (m5 : m < 5) (mis : misF (lfN fun v => o v * q / S5 o) 5 0 (nI q) = nI m)
    (n0 : ∀ v, N v ≤ o v) (n1 : ∀ v, rnd 0 m (fun v => nI (o v * q / S5 o)) (fun v => nI (o v * q % S5 o)) v = nI (N v)) (ha : ¬ cGr (h.1 8) g 0 < nI q) :
    ∃ h', f_X6_draw (nI g.val) (nI t.val) (nI q) h = some (cGr (h.1 8) g 0 + -nI q, h') ∧ h'.1 8 = drC (h.1 8) g t N q ∧ SVx h' ∧ Out h h' ∧ InvC (drC (h.1 8) g t N q) ng nl nt := by
  obtain ⟨⟨h8, -, h6⟩, ⟨i7, -, i9⟩, -⟩ := id I
  obtain ⟨hc, e, ef, Sc⟩ := sav S
  have e8 := ef 8 (by decide) (by decide)
  obtain ⟨hs, es, ss, vs⟩ := split_C t o ho he h1 h2 q1 q2 m5 mis n1 hc e8
  have s8 : hs.1 8 = h.1 8 := (ss.2 8 (by decide) (by decide)).trans e8
  have I1 := inv_tk t ht o N h2 n0 5 0 (h.1 8) rfl I (fun v _ => ho v)
  have I2 := inv_dv N 5 0 _ rfl I1
  have eC := draw_71 g N q 5 0 FU (hso hs 8 (tkC t N 5 0 (h.1 8))) rfl (by decide) (fun v => vs v)
  rw [hso_hso, hso_at, if_pos rfl] at eC
  have tk := takeOut_8 t N 5 0 FU hs rfl (by decide) vs
  rw [s8] at tk
  refine ⟨hso hs 8 (drC (h.1 8) g t N q), ?_, rfl, (Sc.same (ss.2 1 (by decide) (by decide))).same rfl, fun k hk => ?_, inv_G (inv_G I2 g 0 hg _) g 1 hg _⟩
  · unfold f_X6_draw f_X1_takeOut
    rw [checkGrower_gd h8 i7 hg, gbv_some, checkTank_gd h6 i9 ht, gbv_some, checkOil_gd q1 (by omega), gbv_some, get2_0, gb_some, if_neg ha, oilOf, gb_some, he, if_pos (nI_le q2 (by omega)), e, gbv_some, es, gbv_some]
    rw [show (0 : Int32) = nI 0 from rfl, tk, gbv_some, eC]
    unfold drC
    rw [cGr_dv, cGr_tk]
  · rw [hso_at, if_neg (by omega), ss.2 k (by omega) (by omega), ef k (by omega) (by omega)]
-- moving
def mvC (t : Fin 6) (N : Fin 5 → Nat) (g : Int32) : Nat → Nat → (Nat → Int32) → Nat → Int32
  | 0, _, c => c
  | m + 1, i, c => if hi : i < 5 then mvC t N g m (i + 1) (pourC c t ⟨i, hi⟩ (nI (N ⟨i, hi⟩)) g) else c
def sumN (N : Fin 5 → Nat) : Nat → Nat → Nat
  | 0, _ => 0
  | m + 1, i => lfN N i + sumN N m (i + 1)
theorem sumN_5 (N : Fin 5 → Nat) : sumN N 5 0 = S5 N := by
  show N 0 + (N 1 + (N 2 + (N 3 + (N 4 + 0)))) = N 0 + N 1 + N 2 + N 3 + N 4
  omega
theorem mv_C {ng nl nt : Nat} (t : Fin 6) (ht : t.val < nt) (N : Fin 5 → Nat) (g : Int32) : ∀ (m i r : Nat) (c : Nat → Int32), i + m = 5 → InvC c ng nl nt → roomV c t = nI r → r ≤ 20000 → sumN N m i ≤ r →
    InvC (mvC t N g m i c) ng nl nt ∧
    (∀ (n : Nat) (h : Hst), m < n → h.1 8 = c → (∀ v : Fin 5, h.1 11 v.val = nI (N v)) → lp_X6_move_107 n (nI t.val) g (nI i) h = some (oil5 (mvC t N g m i c) t, hso h 8 (mvC t N g m i c)))
  | 0, i, r, c, hi, I, _, _, _ => by
    refine ⟨I, fun n h hn e _ => ?_⟩
    cases n with
    | zero => omega
    | succ n => rw [lp_X6_move_107, if_pos (show (5 : Int32) ≤ nI i from nI_le (a := 5) (by omega) (by omega)), oilOf, gb_some, mvC, e, ← e, hso_self]
  | m + 1, i, r, c, hi, I, er, hr, hs => by
    have i5 : i < 5 := by omega
    rw [sumN, lfN_at N i i5] at hs
    have hx : nI (N ⟨i, i5⟩) ≤ roomV c t := by rw [er]; exact nI_le (by omega) (by omega)
    have T := I.2.2.2.2.2.2.2.2.2 t
    obtain ⟨a1, a3⟩ := mv_C t ht N g m (i + 1) (r - N ⟨i, i5⟩) (pourC c t ⟨i, i5⟩ (nI (N ⟨i, i5⟩)) g) (by omega) (inv_pour I t ht ⟨i, i5⟩ _ g hx) (by rw [roomV_pour c t ⟨i, i5⟩ (by omega), er, pk_sub (by omega)]) (by omega) (by omega)
    rw [mvC, dif_pos i5]
    refine ⟨a1, fun n h hn e hv => ?_⟩
    cases n with
    | zero => omega
    | succ n =>
      rw [lp_X6_move_107, if_neg (show ¬ (5 : Int32) ≤ nI i from nI_ge (b := 5) i5 (by decide)), show nI i = nI (⟨i, i5⟩ : Fin 5).val from rfl, part_v, gb_some, hv, pour_C t ⟨i, i5⟩ _ g h (by rw [e]; exact T), gbv_some, show nI (⟨i, i5⟩ : Fin 5).val + 1 = nI (i + 1) from nI_1 i, e, a3 n _ (by omega) (by rw [hso_at, if_pos rfl]) (fun v => by rw [hso_at, if_neg (by decide)]; exact hv v), hso_hso]
theorem cls_move {h : Hst} {ng nl nt : Nat} (S : SVx h) (I : InvC (h.1 8) ng nl nt) (t : Fin 6) (ht : t.val < nt) (u : Fin 6) (hu : u.val < nt) (ne : ¬ u = t) (o : Fin 5 → Nat) (ho : ∀ v, cTa (h.1 8) t (ts v) = nI (o v)) (he : oil5 (h.1 8) t = nI (S5 o)) (h1 : S5 o ≤ 20000) (h2 : ∀ v, o v ≤ 20000) {q m : Nat} {N : Fin 5 → Nat} (q1 : 1 ≤ q) (q2 : q ≤ S5 o) (m5 : m < 5) (mis : misF (lfN fun v => o v * q / S5 o) 5 0 (nI q) = nI m)
    (n0 : ∀ v, N v ≤ o v) (n2 : S5 N = q) (n1 : ∀ v, rnd 0 m (fun v => nI (o v * q / S5 o)) (fun v => nI (o v * q % S5 o)) v = nI (N v)) (hr : nI q ≤ roomV (h.1 8) u) :
    ∃ h', f_X6_move (nI t.val) (nI u.val) (nI q) 1 h = some (oil5 (mvC u N (cTa (h.1 8) t 1) 5 0 (tkC t N 5 0 (h.1 8))) u, h') ∧ h'.1 8 = mvC u N (cTa (h.1 8) t 1) 5 0 (tkC t N 5 0 (h.1 8)) ∧ SVx h' ∧ Out h h' ∧ InvC (mvC u N (cTa (h.1 8) t 1) 5 0 (tkC t N 5 0 (h.1 8))) ng nl nt := by
  obtain ⟨⟨h8, -, h6⟩, ⟨i7, -, i9⟩, -⟩ := id I
  have hT := I.2.2.2.2.2.2.2.2.2
  obtain ⟨hc, e, ef, Sc⟩ := sav S
  have e8 := ef 8 (by decide) (by decide)
  obtain ⟨hs, es, ss, vs⟩ := split_C t o ho he h1 h2 q1 q2 m5 mis n1 hc e8
  have s8 : hs.1 8 = h.1 8 := (ss.2 8 (by decide) (by decide)).trans e8
  have I1 := inv_tk t ht o N h2 n0 5 0 (h.1 8) rfl I (fun v _ => ho v)
  obtain ⟨r, r1, r2⟩ := roomV_N (hT u)
  have qr : q ≤ r := by
    rw [r2] at hr
    exact Nat.le_of_not_lt (fun w => nI_ge w (by omega) hr)
  have gG : grd (oil5 (h.1 8) t) (cTa (h.1 8) t 1) = cTa (h.1 8) t 1 := by
    unfold grd
    rw [he, if_neg (nI_ne0 (by omega) (by omega))]
  obtain ⟨I2, mC⟩ := mv_C u hu N (cTa (h.1 8) t 1) 5 0 r _ rfl I1 (by rw [roomV_tk _ _ ne]; exact r2) r1 (by rw [sumN_5, n2]; exact qr)
  have eC := mC FU (hso hs 8 (tkC t N 5 0 (h.1 8))) (by decide) (by rw [hso_at, if_pos rfl]) (fun v => vs v)
  rw [hso_hso] at eC
  have tk := takeOut_8 t N 5 0 FU hs rfl (by decide) vs
  rw [s8] at tk
  have rC : f_X1_roomOf (nI u.val) h = some (nI r, h) := by
    have := roomOf u h
    rw [← r2]; exact this
  have tu : ¬ nI t.val = nI u.val := fun x => ne (Fin.ext (nI_inj (by omega) (by omega) x).symm)
  refine ⟨hso hs 8 (mvC u N (cTa (h.1 8) t 1) 5 0 (tkC t N 5 0 (h.1 8))), ?_, rfl, (Sc.same (ss.2 1 (by decide) (by decide))).same rfl, fun k hk => ?_, I2⟩
  · unfold f_X6_move f_X1_takeOut
    rw [checkTank_gd h6 i9 ht, gbv_some, checkTank_gd h6 i9 hu, gbv_some, if_neg tu, checkOil_gd q1 (by omega), gbv_some, gradeOf t (hT t), gb_some, gG, oilOf, gb_some, he, if_neg (nI_nlt (by omega) (by omega)), rC, gb_some, if_neg (nI_nlt (by omega) (by omega)), admits u (hT u), gb_some, show adm (grd (oil5 (h.1 8) u) (cTa (h.1 8) u 1)) (cTa (h.1 8) t 1) 1 = 1 from rfl, if_neg (by decide), e, gbv_some, es, gbv_some]
    rw [show (0 : Int32) = nI 0 from rfl, tk, gbv_some, eC]
  · rw [hso_at, if_neg (by omega), ss.2 k (by omega) (by omega), ef k (by omega) (by omega)]
