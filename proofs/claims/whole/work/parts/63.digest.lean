theorem digest_M {c z : Nat → Int32} {s : Int32} {ng nl nt : Nat} {vc vg vl vv vn vw : Nat → Int32} {vt vk : Nat → Nat → Int32} {r0 r1 oi : Nat → Int32} {bt : Int32} {x : UInt64} {len : Nat} {T : Nat → Int32} (I : InvC c ng nl nt) (R : RelCZ c z nl) (hl : len ≤ 60)
    (G : DgG c z s ng nl nt vc vg vl vv vn vw vt vk r0 r1 oi bt x) (h : Hst) (C : MC z s len T 2393 h) : ∃ h', ScrN h h' ∧ lp_X7_digest_14 FU 0 h = some (dgV z ng nl nt vc vg vl vv vn vw vt vk r0 r1 oi bt x len T, h') := by
  obtain ⟨gc, gg, gl', gt, gv, gn, gw, gb', sh, xc, xm⟩ := G
  obtain ⟨⟨hg8, h40, h6⟩, ⟨i7, i8, i9⟩, -⟩ := id I
  have z7 : z 7 = nI ng := (R.1 7 (by decide)).trans i7
  have z8 : z 8 = nI nl := (R.1 8 (by decide)).trans i8
  have z9 : z 9 = nI nt := (R.1 9 (by decide)).trans i9
  obtain ⟨h1, C1, p1, e1⟩ := loopM (z := z) (s := s) (len := len) (T := T) (L := fun n i h => lp_X7_digest_14 n i h) (mv vc) 13 (fun h => lp_X7_digest_38 FU 0 h) (fun n x h C => by
    show lp_X7_digest_14 (n + 1) (nI 13) h = _
    rw [lp_X7_digest_14, if_pos (show (13 : Int32) ≤ nI 13 by decide)]) (fun n x i h hi C => by
    obtain ⟨h', C', p', e'⟩ := mst (gc i hi).2 C (fun h3 => lp_X7_digest_14 n (nI i + 1) h3)
    refine ⟨h', C', p', ?_⟩
    show lp_X7_digest_14 (n + 1) (nI i) h = _
    rw [lp_X7_digest_14, if_neg (show ¬ (13 : Int32) ≤ nI i from nI_ge (b := 13) hi (by decide)), e', nI_1]) 13 0 FU _ h rfl (by decide) C
  obtain ⟨h2, C2, p2, e2⟩ := loopM (z := z) (s := s) (len := len) (T := T) (L := fun n i h => lp_X7_digest_38 n i h) (mv (fun k => z (0 + k))) 7 (fun h => lp_X7_digest_65 FU 0 h) (fun n x h C => by
    show lp_X7_digest_38 (n + 1) (nI 7) h = _
    rw [lp_X7_digest_38, if_pos (show (7 : Int32) ≤ nI 7 by decide)]) (fun n x i h hi C => by
    obtain ⟨h', e', C', p'⟩ := mix_v C (z (0 + i)).toInt64
    refine ⟨h', C', p', ?_⟩
    show lp_X7_digest_38 (n + 1) (nI i) h = _
    rw [lp_X7_digest_38, if_neg (show ¬ (7 : Int32) ≤ nI i from nI_ge (b := 7) hi (by decide)), show (0 : Int32) + nI i = nI (0 + i) from nI_add 0 i, gck_nI (by omega) (by decide), nI_clamp (by omega), C.1, e', gbv_some, nI_1]) 7 0 FU _ h1 rfl (by decide) C1
  obtain ⟨h3, C3, p3, e3⟩ := loopM (z := z) (s := s) (len := len) (T := T) (L := fun n i h => lp_X7_digest_65 n i h) (mv vg) (6 * ng) (fun h => lp_X7_digest_104 FU 0 h) (fun n x h C => by
    show lp_X7_digest_65 (n + 1) (nI (6 * ng)) h = _
    rw [lp_X7_digest_65, gk_7_514, tn_7, C.1, z7, show (6 : Int32) * nI ng = nI (6 * ng) from pk_mul 6 ng, if_pos (nI_le (Nat.le_refl _) (by omega))]) (fun n x i h hi C => by
    have hr := gg (i / 6) (i % 6) (by omega) (by omega)
    rw [show 6 * (i / 6) + i % 6 = i by omega] at hr
    obtain ⟨h', C', p', e'⟩ := mst hr.2 C (fun h3 => lp_X7_digest_65 n (nI i + 1) h3)
    refine ⟨h', C', p', ?_⟩
    show lp_X7_digest_65 (n + 1) (nI i) h = _
    rw [lp_X7_digest_65, gk_7_514, tn_7, C.1, z7, show (6 : Int32) * nI ng = nI (6 * ng) from pk_mul 6 ng, if_neg (nI_ge hi (by omega)), gd_6, gd_6, rem6 (by omega), show nI i / (6 : Int32) = nI (i / 6) from pk_div (d := 6) (by omega) (by decide) (by decide), e', nI_1]) (6 * ng) 0 FU _ h2 (by omega) (Nat.lt_of_le_of_lt (by omega : _ ≤ 48) (by decide)) C2
  obtain ⟨h4, C4, p4, e4⟩ := loopM (z := z) (s := s) (len := len) (T := T) (L := fun n i h => lp_X7_digest_104 n i h) (mv vl) (11 * nl) (fun h => lp_X7_digest_143 FU 0 h) (fun n x h C => by
    show lp_X7_digest_104 (n + 1) (nI (11 * nl)) h = _
    rw [lp_X7_digest_104, gk_8_514, tn_8, C.1, z8, show (11 : Int32) * nI nl = nI (11 * nl) from pk_mul 11 nl, if_pos (nI_le (Nat.le_refl _) (by omega))]) (fun n x i h hi C => by
    have hr := gl' (i / 11) (i % 11) (by omega) (by omega)
    rw [show 11 * (i / 11) + i % 11 = i by omega] at hr
    obtain ⟨h', C', p', e'⟩ := mst hr.2 C (fun h3 => lp_X7_digest_104 n (nI i + 1) h3)
    refine ⟨h', C', p', ?_⟩
    show lp_X7_digest_104 (n + 1) (nI i) h = _
    rw [lp_X7_digest_104, gk_8_514, tn_8, C.1, z8, show (11 : Int32) * nI nl = nI (11 * nl) from pk_mul 11 nl, if_neg (nI_ge hi (by omega)), gd_11, gd_11, show nI i - nI i / (11 : Int32) * 11 = nI (i % 11) from pk_rem (d := 11) (by omega) (by decide) (by decide), show nI i / (11 : Int32) = nI (i / 11) from pk_div (d := 11) (by omega) (by decide) (by decide), e', nI_1]) (11 * nl) 0 FU _ h3 (by omega) (Nat.lt_of_le_of_lt (by omega : _ ≤ 440) (by decide)) C3
  obtain ⟨h5, C5, p5, e5⟩ := loopM (z := z) (s := s) (len := len) (T := T) (L := fun n i h => lp_X7_digest_143 n i h) (TT vt vk r0 r1 oi) nt (fun h => lp_X7_digest_167 FU 0 h) (fun n x h C => by
    show lp_X7_digest_143 (n + 1) (nI nt) h = _
    rw [lp_X7_digest_143, gk_9_514, tn_9, C.1, z9, if_pos (nI_le (Nat.le_refl _) (by omega))]) (fun n x i h hi C => by
    obtain ⟨h', C', p', e'⟩ := mt_M gt hi x h C
    refine ⟨h', C', p', ?_⟩
    show lp_X7_digest_143 (n + 1) (nI i) h = _
    rw [lp_X7_digest_143, gk_9_514, tn_9, C.1, z9, if_neg (nI_ge hi (by omega)), e', gbv_some, nI_1]) nt 0 FU _ h4 (by omega) (Nat.lt_of_le_of_lt h6 (by decide)) C4
  obtain ⟨h6', C6, p6, e6⟩ := loopM (z := z) (s := s) (len := len) (T := T) (L := fun n i h => lp_X7_digest_167 n i h) (mv vv) (8 * 5) (fun h => lp_X7_digest_198 FU 0 h) (fun n x h C => by
    show lp_X7_digest_167 (n + 1) (nI 40) h = _
    rw [lp_X7_digest_167, if_pos (show (40 : Int32) ≤ nI 40 by decide)]) (fun n x i h hi C => by
    have hr := gv (i / 8) (i % 8) (by omega) (by omega)
    rw [show 8 * (i / 8) + i % 8 = i by omega] at hr
    obtain ⟨h', C', p', e'⟩ := mst hr.2 C (fun h3 => lp_X7_digest_167 n (nI i + 1) h3)
    refine ⟨h', C', p', ?_⟩
    show lp_X7_digest_167 (n + 1) (nI i) h = _
    rw [lp_X7_digest_167, if_neg (show ¬ (40 : Int32) ≤ nI i from nI_ge (b := 40) (by omega) (by decide)), gd_8, gd_8, show nI i - nI i / (8 : Int32) * 8 = nI (i % 8) from pk_rem (d := 8) (by omega) (by decide) (by decide), show nI i / (8 : Int32) = nI (i / 8) from pk_div (d := 8) (by omega) (by decide) (by decide), e', nI_1]) (8 * 5) 0 FU _ h5 rfl (by decide) C5
  obtain ⟨h7, C7, p7, e7⟩ := loopM (z := z) (s := s) (len := len) (T := T) (L := fun n i h => lp_X7_digest_198 n i h) (mv vn) 5 (fun h => lp_X7_digest_221 FU 0 h) (fun n x h C => by
    show lp_X7_digest_198 (n + 1) (nI 5) h = _
    rw [lp_X7_digest_198, if_pos (show (5 : Int32) ≤ nI 5 by decide)]) (fun n x i h hi C => by
    obtain ⟨h', C', p', e'⟩ := mst (gn i hi).2 C (fun h3 => lp_X7_digest_198 n (nI i + 1) h3)
    refine ⟨h', C', p', ?_⟩
    show lp_X7_digest_198 (n + 1) (nI i) h = _
    rw [lp_X7_digest_198, if_neg (show ¬ (5 : Int32) ≤ nI i from nI_ge (b := 5) hi (by decide)), e', nI_1]) 5 0 FU _ h6' rfl (by decide) C6
  obtain ⟨h8, C8, p8, e8⟩ := loopM (z := z) (s := s) (len := len) (T := T) (L := fun n i h => lp_X7_digest_221 n i h) (mv vw) 3 (fun h => gb (f_X7_tankForNext h) fun x2 h1 =>
      gbv (f_X7_mix (x2.toInt64) h1) fun h3 =>
      gb (f_X7_share h3) fun x5 h4 =>
      gb (f_Jxe99ae_doubleToLongBits_ccdee x5 h4) fun x7 h6 =>
      gbv (f_X7_mix x7 h6) fun h8 =>
      gbv (f_X7_mix ((h8.1 17 3).toInt64) h8) fun h9 =>
      (lp_X7_digest_273 FU 0 h9)) (fun n x h C => by
    show lp_X7_digest_221 (n + 1) (nI 3) h = _
    rw [lp_X7_digest_221, if_pos (show (3 : Int32) ≤ nI 3 by decide)]) (fun n x i h hi C => by
    obtain ⟨h', C', p', e'⟩ := mst (gw i hi).2 C (fun h3 => lp_X7_digest_221 n (nI i + 1) h3)
    refine ⟨h', C', p', ?_⟩
    show lp_X7_digest_221 (n + 1) (nI i) h = _
    rw [lp_X7_digest_221, if_neg (show ¬ (3 : Int32) ≤ nI i from nI_ge (b := 3) hi (by decide)), e', nI_1]) 3 0 FU _ h7 rfl (by decide) C7
  obtain ⟨h9, C9, p9, e9⟩ := mst gb'.2 C8 (fun h3 => gb (f_X7_share h3) fun x5 h4 =>
      gb (f_Jxe99ae_doubleToLongBits_ccdee x5 h4) fun x7 h6 =>
      gbv (f_X7_mix x7 h6) fun h8 =>
      gbv (f_X7_mix ((h8.1 17 3).toInt64) h8) fun h9 =>
      (lp_X7_digest_273 FU 0 h9))
  obtain ⟨h10, e10, C10, p10⟩ := mix_v C9 (UInt64.toInt64 x)
  obtain ⟨h11, e11, C11, p11⟩ := mix_v C10 (nI len).toInt64
  obtain ⟨h12, C12, p12, e12⟩ := loopM (z := z) (s := s) (len := len) (T := T) (L := fun n i h => lp_X7_digest_273 n i h) (mv T) len (fun h => some (h.2 17 22, h)) (fun n x h C => by
    show lp_X7_digest_273 (n + 1) (nI len) h = _
    rw [lp_X7_digest_273, C.2.2.1, if_pos (nI_le (Nat.le_refl _) (by omega))]) (fun n x i h hi C => by
    obtain ⟨h', e', C', p'⟩ := mix_v C (T i).toInt64
    refine ⟨h', C', p', ?_⟩
    show lp_X7_digest_273 (n + 1) (nI i) h = _
    rw [lp_X7_digest_273, C.2.2.1, if_neg (nI_ge hi (by omega)), gck_nI (by omega) (by decide), nI_clamp (by omega), C.2.2.2.1 i hi, e', gbv_some, nI_1]) len 0 FU _ h11 (by omega) (Nat.lt_of_le_of_lt hl (by decide)) C11
  refine ⟨h12, p1.trans (p2.trans (p3.trans (p4.trans (p5.trans (p6.trans (p7.trans (p8.trans (p9.trans (p10.trans (p11.trans p12)))))))))), ?_⟩
  refine e1.trans (e2.trans (e3.trans (e4.trans (e5.trans (e6.trans (e7.trans (e8.trans (e9.trans ?_))))))))
  rw [xm h9 C9.1, gb_some, bits_M sh, gb_some, e10, gbv_some, C10.2.2.1, e11, gbv_some]
  refine e12.trans ?_
  rw [C12.2.2.2.2]
  rfl
theorem getV_at {c z : Nat → Int32} {s : Int32} {fc : Hst → Option ((Int32 × Hst) ⊕ (Nat × Hst))} {fm : Hst → Option (Int32 × Hst)} (V : GetV c z s fc fm) : ∃ v, GAt c z s fc fm v := V
theorem op_digest {h : Hst} (S : Sim h) : Agree2 (f_X6_digest h) f_X7_digest := by
  obtain ⟨⟨o, ns, s1, s2, s3, s4, s5, s6⟩, ⟨ng, nl, nt, I, R⟩, len, B⟩ := id S
  obtain ⟨b1, b2, b3, b4⟩ := B
  obtain ⟨⟨hg8, h40, h6⟩, -⟩ := id I
  have hwy : ∀ k, k < 3 → ∀ H, f_X6_isSettingValue 5 (nI k) H = some (1, H) := fun k hk H => by
    have : k = 0 ∨ k = 1 ∨ k = 2 := by omega
    rcases this with rfl | rfl | rfl <;> rfl
  obtain ⟨vc, gc⟩ := pickF (P := fun k v => GAt (h.1 8) (h.1 18) (h.1 1 9) (f_X6_count (nI k)) (f_X7_counted (nI k)) v) 13 (fun k hk => getV_count I R _ ⟨k, hk⟩)
  obtain ⟨vg, gg⟩ := pickF (P := fun k v => GAt (h.1 8) (h.1 18) (h.1 1 9) (f_X6_grower (nI (k / 6)) (nI (k % 6))) (f_X7_growerNow (nI (k / 6)) (nI (k % 6))) v) (6 * ng) (fun k hk => getV_grower I R _ ⟨k / 6, by omega⟩ (by show k / 6 < ng; omega) ⟨k % 6, by omega⟩)
  obtain ⟨vl, gl'⟩ := pickF (P := fun k v => GAt (h.1 8) (h.1 18) (h.1 1 9) (f_X6_lot (nI (k / 11)) (nI (k % 11))) (f_X7_lotNow (nI (k / 11)) (nI (k % 11))) v) (11 * nl) (fun k hk => getV_lot I R _ ⟨k / 11, by omega⟩ (by show k / 11 < nl; omega) ⟨k % 11, by omega⟩)
  obtain ⟨vv, gv⟩ := pickF (P := fun k v => GAt (h.1 8) (h.1 18) (h.1 1 9) (f_X6_variety (nI (k / 8)) (nI (k % 8))) (f_X7_varietyNow (nI (k / 8)) (nI (k % 8))) v) 40 (fun k hk => getV_variety I R _ ⟨k / 8, by omega⟩ ⟨k % 8, by omega⟩)
  obtain ⟨vn, gn⟩ := pickF (P := fun k v => GAt (h.1 8) (h.1 18) (h.1 1 9) (f_X6_next (nI k)) (f_X7_nextNow (nI k)) v) 5 (fun k hk => getV_next I R _ (by omega))
  obtain ⟨vw, gw⟩ := pickF (P := fun k v => GAt (h.1 8) (h.1 18) (h.1 1 9) (f_X6_lossBy (nI k)) (f_X7_lossNow (nI k)) v) 3 (fun k hk => getV_lossBy I R _ (by omega) (hwy k hk))
  obtain ⟨r0, g0⟩ := pickF (P := fun t v => GWt (h.1 8) (h.1 18) (h.1 1 9) (f_X6_reasonAgainstPress (nI t) 0) (f_X7_reason (nI t) 0) v) nt (fun t ht => getW_reason I R _ ⟨t, by omega⟩ 0)
  obtain ⟨r1, g1⟩ := pickF (P := fun t v => GWt (h.1 8) (h.1 18) (h.1 1 9) (f_X6_reasonAgainstPress (nI t) 1) (f_X7_reason (nI t) 1) v) nt (fun t ht => getW_reason I R _ ⟨t, by omega⟩ 1)
  obtain ⟨vk, gk⟩ := pickF (P := fun j v => GAt (h.1 8) (h.1 18) (h.1 1 9) (f_X6_taken (nI (j / 5)) 1 (nI (j % 5))) (f_X7_takenNow (nI (j / 5)) 1 (nI (j % 5))) v) (5 * nt) (fun j hj => getV_taken I R _ ⟨j / 5, by omega⟩ (by show j / 5 < nt; omega) (q := 1) (by decide) (by decide) ⟨j % 5, by omega⟩)
  obtain ⟨bt, gbt⟩ := getW_bestTank I R (h.1 1 9)
  obtain ⟨x, sh, xc, xm⟩ := share_v I R
  have pure : ∀ {fc : Hst → Option ((Int32 × Hst) ⊕ (Nat × Hst))} {fm : Hst → Option (Int32 × Hst)} {v : Int32}, (∀ H, H.1 8 = h.1 8 → fc H = some (.inl (v, H))) → (∀ H, H.1 18 = h.1 18 → fm H = some (v, H)) → GAt (h.1 8) (h.1 18) (h.1 1 9) fc fm v := fun a b => ⟨fun H e _ => ⟨H, a H e, ScrC.rf⟩, fun H e _ => ⟨H, b H e, ScrM.rf⟩⟩
  have G : DgG (h.1 8) (h.1 18) (h.1 1 9) ng nl nt vc vg vl vv vn vw (fun t k => if ht : t < 6 then tankOf (h.1 8) ⟨t, ht⟩ k else 0) (fun t k => vk (5 * t + k)) r0 r1 (fun t => if ht : t < 6 then sumF (lft (oinF (h.1 8) ⟨t, ht⟩ 30)) 5 0 0 else 0) bt x := by
    refine ⟨gc, fun g k hg hk => ?_, fun g k hg hk => ?_, ⟨fun t k ht hT => ?_, g0, g1, fun t ht => ?_, fun t k ht hk => ?_⟩, fun g k hg hk => ?_, gn, gw, gbt, sh, xc, xm⟩
    · have := gg (6 * g + k) (by omega)
      rw [show (6 * g + k) / 6 = g by omega, show (6 * g + k) % 6 = k by omega] at this
      exact this
    · have := gl' (11 * g + k) (by omega)
      rw [show (11 * g + k) / 11 = g by omega, show (11 * g + k) % 11 = k by omega] at this
      exact this
    · dsimp only
      rw [dif_pos (show t < 6 by omega)]
      exact pure (fun H e => tank_C I ⟨t, by omega⟩ ht hT H e) (fun H e => tank_M R ⟨t, by omega⟩ hT H e)
    · dsimp only
      rw [dif_pos (show t < 6 by omega)]
      exact pure (fun H e => oilIn_C I ⟨t, by omega⟩ ht (D := 30) (by decide) H e) (fun H e => oilIn_M R ⟨t, by omega⟩ (D := 30) (by decide) H e)
    · have := gk (5 * t + k) (by omega)
      rw [show (5 * t + k) / 5 = t by omega, show (5 * t + k) % 5 = k by omega] at this
      exact this
    · have := gv (8 * g + k) (by omega)
      rw [show (8 * g + k) / 8 = g by omega, show (8 * g + k) % 8 = k by omega] at this
      exact this
  obtain ⟨h1, p1, e1⟩ := digest_C (T := fun j => h.1 16 j) I R b1 G h ⟨rfl, rfl, b2, fun _ _ => rfl⟩
  have e17 : h1.1 17 = h.1 17 := p1.2 17 (by decide)
  obtain ⟨h2, p2, e2⟩ := digest_M (T := fun j => h.1 16 j) I R b1 G (hsj (hst h1 17 5 0) 17 22 2393) ⟨p1.2 18 (by decide), by
    show upd (h1.1 17) 5 0 1 = _
    rw [upd_at, if_neg (by decide), e17, s5, s4], by
    show upd (h1.1 17) 5 0 3 = _
    rw [upd_at, if_neg (by decide), e17]
    exact b3, fun j hj => by
    show h1.1 20 j = h.1 16 j
    rw [p1.2 20 (by decide)]
    exact (b4 j hj).1.symm, by rw [hsj_at, if_pos rfl, if_pos rfl]⟩
  refine ⟨_, h1, h2, e1, ?_, ?_⟩
  · unfold f_X7_digest
    rw [gl_eq, gl_eq]
    exact e2
  · have sc : Sim (h2.1, (hst h1 17 5 0).2) := Sim.scr (b := hst h1 17 5 0) S p1 rfl ⟨rfl, p2.1, p2.2.1, p2.2.2.1, p2.2.2.2⟩
    exact sc
