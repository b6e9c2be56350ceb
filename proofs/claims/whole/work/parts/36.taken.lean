/-- both split alike: q of the oil of the tank t, into N -/
theorem split_both {c z : Nat → Int32} {ng nl nt : Nat} (I : InvC c ng nl nt) (R : RelCZ c z nl) (t : Fin 6) (o : Fin 5 → Nat) (ho : ∀ v, cTa c t (ts v) = nI (o v)) (he : oil5 c t = nI (S5 o)) (h1 : S5 o ≤ 20000) (h2 : ∀ v, o v ≤ 20000) {q : Nat} (q1 : 1 ≤ q) (q2 : q ≤ S5 o) :
    ∃ N : Fin 5 → Nat, (∀ v, N v ≤ o v) ∧ S5 N = q ∧ (∀ h : Hst, h.1 8 = c → ∃ h', f_X1_split (nI t.val) (nI q) h = some h' ∧ ScrS h h' ∧ ∀ v : Fin 5, h'.1 11 v.val = nI (N v)) ∧
      ∀ h : Hst, h.1 18 = z → ∃ h', f_X7_layShares (nI t.val) (nI q) h = some h' ∧ ScrL h h' ∧ ∀ v : Fin 5, h'.1 22 v.val = nI (N v) := by
  have h0 : 0 < S5 o := by omega
  have hs := share_sum o q
  have le : S5 (fun v => o v * q / S5 o) ≤ q := Nat.le_of_mul_le_mul_left (show S5 o * S5 (fun v => o v * q / S5 o) ≤ S5 o * q by omega) h0
  obtain ⟨m, hm⟩ : ∃ m, q = S5 (fun v => o v * q / S5 o) + m := ⟨q - S5 (fun v => o v * q / S5 o), by omega⟩
  have hr : ∀ v, o v * q % S5 o < S5 o := fun v => Nat.mod_lt _ h0
  have hmr : S5 o * m = S5 (fun v => o v * q % S5 o) := by
    have : S5 o * q = S5 o * S5 (fun v => o v * q / S5 o) + S5 o * m := by rw [← Nat.mul_add, ← hm]
    omega
  have m5 : m < 5 := by
    have a0 := hr 0
    have a1 := hr 1
    have a2 := hr 2
    have a3 := hr 3
    have a4 := hr 4
    have e3 : S5 (fun v => o v * q % S5 o) = o 0 * q % S5 o + o 1 * q % S5 o + o 2 * q % S5 o + o 3 * q % S5 o + o 4 * q % S5 o := rfl
    refine Nat.lt_of_mul_lt_mul_left (a := S5 o) ?_
    omega
  obtain ⟨N, n1, n2, n3, n4⟩ := rnd_ok (S5 o) h1 o m (fun v => o v * q / S5 o) (fun v => o v * q % S5 o) (fun _ => false) (fun v => nI (o v * q / S5 o)) (fun v => nI (o v * q % S5 o)) (fun v => nI (o v * q % S5 o)) (fun _ => rfl) hr (fun _ => rfl) (fun _ => rfl)
    (fun v => Nat.div_le_of_le_mul (by rw [Nat.mul_comm (S5 o)]; exact Nat.mul_le_mul_left _ q2))
    (fun v _ w => by
      refine Nat.lt_of_mul_lt_mul_left (a := S5 o) ?_
      have d := Nat.div_add_mod (o v * q) (S5 o)
      have l : o v * q ≤ S5 o * o v := by rw [Nat.mul_comm (S5 o)]; exact Nat.mul_le_mul_left _ q2
      have w' : 0 < o v * q % S5 o := w
      omega)
    (Or.inl (by
      show m * S5 o < S5 (fun v => o v * q % S5 o) + S5 o
      rw [Nat.mul_comm]; omega))
  have mis : misF (lfN fun v => o v * q / S5 o) 5 0 (nI q) = nI m := by
    rw [misF_5 _ q le]
    congr 1
    omega
  refine ⟨N, n3, by rw [n4]; exact hm.symm, fun h e => ?_, fun h e => ?_⟩
  · obtain ⟨ha, e1, s1, v1⟩ := split_17 t h0 h1 (Nat.le_trans q2 h1) o h2 5 0 FU (nI q) h rfl (by decide) (by rw [e]; exact ho) (fun v hv => absurd hv (by omega))
    obtain ⟨hb, e2, s2, v2⟩ := split_99 m 0 FU ha _ _ (by omega) (Nat.lt_trans m5 (by decide)) (fun v => (v1 v).1) (fun v => (v1 v).2)
    refine ⟨hb, ?_, s1.trans s2, fun v => by rw [v2]; exact n1 v⟩
    unfold f_X1_split
    rw [oilOf, gb_some, e, he, if_pos (show 0 < nI (S5 o) from nI_lt (a := 0) h0 (by omega))]
    rw [mis] at e1
    exact e1.trans e2
  · obtain ⟨ha, e1, s1, v1⟩ := lay_12 t h0 h1 (Nat.le_trans q2 h1) o h2 5 0 FU (nI q) h rfl (by decide) (by rw [e]; exact fun v => (R.2.2.2.2.2.1 t (ts v)).trans (ho v)) (fun v hv => absurd hv (by omega))
    obtain ⟨hb, e2, s2, v2⟩ := lay_71 m FU ha _ _ (by omega) (Nat.lt_trans m5 (by decide)) (fun v => (v1 v).1) (fun v => (v1 v).2)
    refine ⟨hb, ?_, ⟨s2.1.trans s1.1, fun k x y => (s2.2 k x y).trans (s1.2 k x y)⟩, fun v => by rw [v2]; exact n2 v⟩
    unfold f_X7_layShares
    rw [oilOf7, gb_some, e, zoil_eq R, he]
    rw [mis] at e1
    exact e1.trans e2
theorem ScrS.scr {h h' : Hst} (s : ScrS h h') : ScrC h h' := ⟨s.1, fun k hk => s.2 k (by omega) (by omega)⟩
theorem ScrL.scr {h h' : Hst} (s : ScrL h h') : ScrM h h' := ⟨s.1, fun k hk => s.2 k (by omega) (by omega), by rw [s.2 17 (by decide) (by decide)], by rw [s.2 17 (by decide) (by decide)], by rw [s.2 17 (by decide) (by decide)]⟩
theorem part_v (v : Fin 5) (h : Hst) : f_X1_part (nI v.val) h = some (h.1 11 v.val, h) := by
  have lv := v.isLt
  unfold f_X1_part jb_X1_part_23
  rw [if_neg (nI_pos (by omega)), if_neg (show ¬ (5 : Int32) ≤ nI v.val from nI_ge (b := 5) lv (by decide)), gck_nI lv (by decide), nI_clamp (by omega)]
theorem checkOil_gd {n : Nat} (n1 : 1 ≤ n) (n2 : n ≤ 20000) (h : Hst) : f_X6_checkOil (nI n) h = some (.inl h) := by
  unfold f_X6_checkOil
  rw [isOutside, if_neg (show ¬ nI n < 1 from nI_nlt (b := 1) n1 (by omega)), if_pos (show nI n ≤ 20000 from nI_le (b := 20000) n2 (by decide)), gb_some, if_pos rfl]
theorem getV_taken {c z : Nat → Int32} {ng nl nt : Nat} (I : InvC c ng nl nt) (R : RelCZ c z nl) (s : Int32) (t : Fin 6) (ht : t.val < nt) {q : Nat} (q1 : 1 ≤ q) (q2 : q ≤ 20000) (v : Fin 5) : GetV c z s (f_X6_taken (nI t.val) (nI q) (nI v.val)) (f_X7_takenNow (nI t.val) (nI q) (nI v.val)) := by
  have lv := v.isLt
  obtain ⟨⟨-, -, h6⟩, ⟨-, -, i9⟩, -⟩ := id I
  obtain ⟨o, o1, o2, o3, o4⟩ := TankI_o (I.2.2.2.2.2.2.2.2.2 t)
  have pre : ∀ h : Hst, h.1 8 = c → f_X6_taken (nI t.val) (nI q) (nI v.val) h = (if nI q ≤ nI (S5 o) then gbv (f_X1_split (nI t.val) (nI q) h) fun h7 => gb (f_X1_part (nI v.val) h7) fun x9 h8 => some (.inl (x9, h8)) else some (.inl (-1, h))) := fun h e => by
    unfold f_X6_taken
    rw [checkTank_gd h6 (by rw [e]; exact i9) ht, gbvx_inl, checkOil_gd q1 q2, gbvx_inl, isVariety_gd lv, gb_some, if_neg (by decide), oilOf, gb_some, e, o2]
  by_cases hq : q ≤ S5 o
  · obtain ⟨N, n1, n2, n3, n4⟩ := split_both I R t o o1 o2 o3 o4 q1 hq
    refine ⟨nI (N v), fun h e _ => ?_, fun h e _ => ?_⟩
    · obtain ⟨h', e', s', w⟩ := n3 h e
      refine ⟨h', ?_, s'.scr⟩
      rw [pre h e, if_pos (nI_le hq (by omega)), e', gbv_some, part_v, gb_some, w]
    · obtain ⟨h', e', s', w⟩ := n4 h e
      refine ⟨h', ?_, s'.scr⟩
      unfold f_X7_takenNow
      rw [oilOf7, gb_some, e, zoil_eq R, o2, if_pos (nI_le hq (by omega)), e', gbv_some, gck_nI lv (by decide), nI_clamp (by omega), w]
  · refine getV_pure (-1) (fun h e _ => ?_) (fun h e _ => ?_)
    · rw [pre h e, if_neg (nI_ge (by omega) (by omega))]
    · unfold f_X7_takenNow
      rw [oilOf7, gb_some, e, zoil_eq R, o2, if_neg (nI_ge (by omega) (by omega))]
theorem isOil (p : Int32) : (∃ n, 1 ≤ n ∧ n ≤ 20000 ∧ p = nI n ∧ (∀ h, f_X6_checkOil p h = some (.inl h)) ∧ ∀ h, f_X7_isOil p h = some (1, h)) ∨ ((∀ h, f_X6_checkOil p h = some (.inr (1, h))) ∧ ∀ h, f_X7_isOil p h = some (0, h)) := by
  have B := bounds p 1 20000 (by decide) (by decide)
  rw [show nI 1 = (1 : Int32) from rfl, show nI 20000 = (20000 : Int32) from rfl] at B
  rcases B with ⟨n, n1, n2, rfl, o, w⟩ | ⟨o, w⟩
  · refine Or.inl ⟨n, n1, n2, rfl, fun h => checkOil_gd n1 n2 h, fun h => ?_⟩
    unfold f_X7_isOil
    rw [w, gb_some, gzr_1]
  · refine Or.inr ⟨fun h => ?_, fun h => ?_⟩
    · unfold f_X6_checkOil
      rw [o, gb_some, if_neg (by decide)]
    · unfold f_X7_isOil
      rw [w, gb_some, gzr_0]
theorem op_taken {h : Hst} (S : Sim h) (p0 p1 p2 : Int32) : Agree (f_L_taken p0 p1 p2 h) (f_X7_taken p0 p1 p2) := by
  obtain ⟨-, ⟨ng, nl, nt, I, R⟩, -⟩ := id S
  obtain ⟨⟨-, -, h6⟩, ⟨-, -, i9⟩, -⟩ := id I
  have z9 : h.1 18 9 = nI nt := (R.1 9 (by decide)).trans i9
  rcases idx p0 (n := nt) (by omega) with ⟨t, ht, rfl⟩ | b0
  · rcases isOil p1 with ⟨q, q1, q2, rfl, o, w⟩ | ⟨o, w⟩
    · rcases idx p2 (n := 5) (by decide) with ⟨v, hv, rfl⟩ | b2
      · refine agree_get S (getV_taken I R (h.1 1 9) ⟨t, by omega⟩ ht q1 q2 ⟨v, hv⟩) rfl (fun H e => ?_)
        unfold f_X7_taken jb_X7_taken_32 jb_X7_taken_53
        rw [isTank_gd h6 (by rw [e]; exact z9) ht, gb_some, if_neg (by decide), w, gb_some, if_neg (by decide), isVariety7_gd hv, gb_some, if_neg (by decide), gl_eq]
        show (if (0 : Int32) ≤ 0 then _ else _) = _
        rw [if_pos (by decide), gb_eta]
      · refine agree_bad S (k := 2) (by decide) ?_ ?_
        · unfold f_L_taken f_X6_taken
          rw [checkTank_gd h6 i9 ht, gbvx_inl, o, gbvx_inl, isVariety_bad b2, gb_some, if_pos rfl, gbx_inr]
          rfl
        · unfold f_X7_taken jb_X7_taken_31 jb_X7_taken_32 jb_X7_taken_53
          rw [isTank_gd h6 z9 ht, gb_some, if_neg (by decide), w, gb_some, if_neg (by decide), isVariety7_bad b2, gb_some, if_pos rfl, gl_eq]
          show (if (2 : Int32) ≤ 0 then _ else _) = _
          rw [if_neg (by decide)]
    · refine agree_bad S (k := 2) (by decide) ?_ ?_
      · unfold f_L_taken f_X6_taken
        rw [checkTank_gd h6 i9 ht, gbvx_inl, o, gbvx_inr, gbx_inr]
        rfl
      · unfold f_X7_taken jb_X7_taken_31 jb_X7_taken_32 jb_X7_taken_53
        rw [isTank_gd h6 z9 ht, gb_some, if_neg (by decide), w, gb_some, if_pos rfl, gl_eq]
        show (if (2 : Int32) ≤ 0 then _ else _) = _
        rw [if_neg (by decide)]
  · refine agree_bad S (k := 1) (by decide) ?_ ?_
    · unfold f_L_taken f_X6_taken
      rw [checkTank_bad i9 b0, gbvx_inr, gbx_inr]
      rfl
    · unfold f_X7_taken jb_X7_taken_32 jb_X7_taken_53
      rw [isTank_bad z9 b0, gb_some, if_pos rfl, gl_eq]
      show (if (1 : Int32) ≤ 0 then _ else _) = _
      rw [if_neg (by decide)]
