-- the digest of the model
def tF (v : Nat → Int32) (i : Nat) (x : Int64) : Int64 := if i < 3 ∨ 9 < i then mv v i x else x
theorem tF_15 (v : Nat → Int32) (x : Int64) : foF (tF v) 15 0 x = foF (mv v) 5 10 (foF (mv v) 3 0 x) := rfl
theorem mt_M {c z : Nat → Int32} {s : Int32} {nt : Nat} {len : Nat} {T : Nat → Int32} {vt vk : Nat → Nat → Int32} {r0 r1 oi : Nat → Int32} (G : TkG c z s nt vt vk r0 r1 oi) {t : Nat} (ht : t < nt) (x : Int64) (h : Hst) (C : MC z s len T x h) :
    ∃ h', MC z s len T (TT vt vk r0 r1 oi t x) h' ∧ ScrN h h' ∧ f_X7_mixTank (nI t) h = some h' := by
  obtain ⟨h1, C1, p1, e1⟩ := loopM (z := z) (s := s) (len := len) (T := T) (L := fun n i h => lp_X7_mixTank_2 n (nI t) i h) (tF (vt t)) 15 (fun h => gb (f_X7_reason (nI t) 0 h) fun x2 h1 =>
      gbv (f_X7_mix (x2.toInt64) h1) fun h3 =>
      gb (f_X7_reason (nI t) 1 h3) fun x5 h4 =>
      gbv (f_X7_mix (x5.toInt64) h4) fun h6 =>
      gb (f_X7_oilBehind (nI t) 30 h6) fun x8 h7 =>
      gbv (f_X7_mix (x8.toInt64) h7) fun h9 =>
      (lp_X7_mixTank_72 FU (nI t) 0 h9)) (fun n x h C => by
    show lp_X7_mixTank_2 (n + 1) (nI t) (nI 15) h = _
    rw [lp_X7_mixTank_2, if_pos (show (15 : Int32) ≤ nI 15 by decide)]) (fun n x i h hi C => by
    show ∃ h', _ ∧ _ ∧ lp_X7_mixTank_2 (n + 1) (nI t) (nI i) h = _
    rw [lp_X7_mixTank_2, if_neg (show ¬ (15 : Int32) ≤ nI i from nI_ge (b := 15) hi (by decide))]
    unfold jb_X7_mixTank_19 jb_X7_mixTank_30
    rw [nI_1]
    have go : isT i → tF (vt t) i x = mv (vt t) i x → ∃ h', MC z s len T (tF (vt t) i x) h' ∧ ScrN h h' ∧ (gb (f_X7_tankNow (nI t) (nI i) h) fun x2 h1 => gbv (f_X7_mix (x2.toInt64) h1) fun h3 => lp_X7_mixTank_2 n (nI t) (nI (i + 1)) h3) = lp_X7_mixTank_2 n (nI t) (nI (i + 1)) h' := fun hT hF => by
      rw [hF]
      exact mst (G.1 t i ht hT).2 C (fun h3 => lp_X7_mixTank_2 n (nI t) (nI (i + 1)) h3)
    by_cases a : i < 3
    · rw [if_pos (show nI i < 3 from nI_lt (b := 3) a (by decide))]
      exact go (.inl a) (if_pos (.inl a))
    · rw [if_neg (show ¬ nI i < 3 from nI_nlt (b := 3) (by omega) (by omega))]
      by_cases b : i ≤ 9
      · rw [if_pos (show nI i ≤ 9 from nI_le (b := 9) b (by decide))]
        exact ⟨h, by rw [show tF (vt t) i x = x from if_neg (by omega)]; exact C, ScrN.rf, rfl⟩
      · rw [if_neg (show ¬ nI i ≤ 9 from nI_ge (a := 9) (by omega) (by omega))]
        exact go (.inr ⟨by omega, by omega⟩) (if_pos (.inr (by omega)))) 15 0 FU x h rfl (by decide) C
  rw [tF_15] at C1
  obtain ⟨h2, C2, p2, e2⟩ := mst (G.2.1 t ht).2 C1 (fun h3 => gb (f_X7_reason (nI t) 1 h3) fun x5 h4 =>
      gbv (f_X7_mix (x5.toInt64) h4) fun h6 =>
      gb (f_X7_oilBehind (nI t) 30 h6) fun x8 h7 =>
      gbv (f_X7_mix (x8.toInt64) h7) fun h9 =>
      (lp_X7_mixTank_72 FU (nI t) 0 h9))
  obtain ⟨h3, C3, p3, e3⟩ := mst (G.2.2.1 t ht).2 C2 (fun h6 => gb (f_X7_oilBehind (nI t) 30 h6) fun x8 h7 =>
      gbv (f_X7_mix (x8.toInt64) h7) fun h9 =>
      (lp_X7_mixTank_72 FU (nI t) 0 h9))
  obtain ⟨h4, C4, p4, e4⟩ := mst (G.2.2.2.1 t ht).2 C3 (fun h9 => (lp_X7_mixTank_72 FU (nI t) 0 h9))
  obtain ⟨h5, C5, p5, e5⟩ := loopM (z := z) (s := s) (len := len) (T := T) (L := fun n i h => lp_X7_mixTank_72 n (nI t) i h) (mv (vk t)) 5 (fun h => some h) (fun n x h C => by
    show lp_X7_mixTank_72 (n + 1) (nI t) (nI 5) h = _
    rw [lp_X7_mixTank_72, if_pos (show (5 : Int32) ≤ nI 5 by decide)]) (fun n x i h hi C => by
    obtain ⟨h', C', p', e'⟩ := mst (G.2.2.2.2 t i ht hi).2 C (fun h3 => lp_X7_mixTank_72 n (nI t) (nI i + 1) h3)
    refine ⟨h', C', p', ?_⟩
    show lp_X7_mixTank_72 (n + 1) (nI t) (nI i) h = _
    rw [lp_X7_mixTank_72, if_neg (show ¬ (5 : Int32) ≤ nI i from nI_ge (b := 5) hi (by decide)), e', nI_1]) 5 0 FU _ h4 rfl (by decide) C4
  refine ⟨h5, C5, p1.trans (p2.trans (p3.trans (p4.trans p5))), ?_⟩
  unfold f_X7_mixTank
  exact e1.trans (e2.trans (e3.trans (e4.trans e5)))
/-- all values of a digest -/
def DgG (c z : Nat → Int32) (s : Int32) (ng nl nt : Nat) (vc vg vl vv vn vw : Nat → Int32) (vt vk : Nat → Nat → Int32) (r0 r1 oi : Nat → Int32) (bt : Int32) (x : UInt64) : Prop :=
  (∀ k, k < 13 → GAt c z s (f_X6_count (nI k)) (f_X7_counted (nI k)) (vc k)) ∧
  (∀ g k, g < ng → k < 6 → GAt c z s (f_X6_grower (nI g) (nI k)) (f_X7_growerNow (nI g) (nI k)) (vg (6 * g + k))) ∧
  (∀ g k, g < nl → k < 11 → GAt c z s (f_X6_lot (nI g) (nI k)) (f_X7_lotNow (nI g) (nI k)) (vl (11 * g + k))) ∧
  TkG c z s nt vt vk r0 r1 oi ∧
  (∀ g k, g < 5 → k < 8 → GAt c z s (f_X6_variety (nI g) (nI k)) (f_X7_varietyNow (nI g) (nI k)) (vv (8 * g + k))) ∧
  (∀ k, k < 5 → GAt c z s (f_X6_next (nI k)) (f_X7_nextNow (nI k)) (vn k)) ∧
  (∀ k, k < 3 → GAt c z s (f_X6_lossBy (nI k)) (f_X7_lossNow (nI k)) (vw k)) ∧
  GWt c z s f_X6_bestTank f_X7_tankForNext bt ∧ isSh x ∧ (∀ h, h.1 8 = c → f_X6_goodShare h = some (x, h)) ∧ (∀ h, h.1 18 = z → f_X7_share h = some (x, h))
def dgV (z : Nat → Int32) (ng nl nt : Nat) (vc vg vl vv vn vw : Nat → Int32) (vt vk : Nat → Nat → Int32) (r0 r1 oi : Nat → Int32) (bt : Int32) (x : UInt64) (len : Nat) (T : Nat → Int32) : Int64 :=
  foF (mv T) len 0 (31 * (31 * (31 * foF (mv vw) 3 0 (foF (mv vn) 5 0 (foF (mv vv) (8 * 5) 0 (foF (TT vt vk r0 r1 oi) nt 0 (foF (mv vl) (11 * nl) 0 (foF (mv vg) (6 * ng) 0 (foF (mv (fun k => z (0 + k))) 7 0 (foF (mv vc) 13 0 2393))))))) + bt.toInt64) + UInt64.toInt64 x) + (nI len).toInt64)
theorem setting_C {c z : Nat → Int32} {nl : Nat} (R : RelCZ c z nl) {k : Nat} (hk : k < 7) (h : Hst) (e : h.1 8 = c) : f_X6_setting (nI k) h = some (.inl (z (0 + k), h)) := by
  have zv : z (0 + k) = cS c ⟨k, by omega⟩ := R.1 ⟨k, by omega⟩ (fun q => by have := congrArg Fin.val q; simp at this; omega)
  unfold f_X6_setting
  rw [isSetting_gd hk, gb_some, if_neg (by decide)]
  have := row6 ⟨k, hk⟩ h
  rw [show nI k = nI (⟨k, hk⟩ : Fin 7).val from rfl, this, gb_some, e, zv]
  rfl
theorem digest_C {c z : Nat → Int32} {s : Int32} {ng nl nt : Nat} {vc vg vl vv vn vw : Nat → Int32} {vt vk : Nat → Nat → Int32} {r0 r1 oi : Nat → Int32} {bt : Int32} {x : UInt64} {len : Nat} {T : Nat → Int32} (I : InvC c ng nl nt) (R : RelCZ c z nl) (hl : len ≤ 60)
    (G : DgG c z s ng nl nt vc vg vl vv vn vw vt vk r0 r1 oi bt x) (h : Hst) (C : CC c s len T h) : ∃ h', ScrC h h' ∧ f_X6_digest h = some (dgV z ng nl nt vc vg vl vv vn vw vt vk r0 r1 oi bt x len T, h') := by
  obtain ⟨gc, gg, gl', gt, gv, gn, gw, gb', sh, xc, xm⟩ := G
  obtain ⟨h1, C1, p1, e1⟩ := loopC (c := c) (s := s) (len := len) (T := T) (L := fun n a i h => lp_X6_digest_6 n a i h) (mv vc) 13 (fun a h => lp_X6_digest_31 FU a 0 h) (fun n a h C => by
    show lp_X6_digest_6 (n + 1) a (nI 13) h = _
    rw [lp_X6_digest_6, if_pos (show (12 : Int32) < nI 13 by decide)]) (fun n a i h hi C => by
    obtain ⟨h', C', p', e'⟩ := cst (gc i hi) C a (fun x4 h3 => lp_X6_digest_6 n x4 (nI i + 1) h3) (fun _ _ => none)
    refine ⟨h', C', p', ?_⟩
    show lp_X6_digest_6 (n + 1) a (nI i) h = _
    rw [lp_X6_digest_6, if_neg (show ¬ (12 : Int32) < nI i from nI_nlt (a := 12) (by omega) (by decide)), e', nI_1]
    rfl) 13 0 FU 2393 h rfl (by decide) C
  obtain ⟨h2, C2, p2, e2⟩ := loopC (c := c) (s := s) (len := len) (T := T) (L := fun n a i h => lp_X6_digest_31 n a i h) (mv (fun k => z (0 + k))) 7 (fun a h => gb (f_X6_mixedWithGrowers a h) fun x2 h1 =>
      gb (f_X6_mixedWithLots x2 h1) fun x4 h3 =>
      gb (f_X6_mixedWithTanks x4 h3) fun x6 h5 =>
      gb (f_X6_mixedWithVarieties x6 h5) fun x8 h7 =>
      (lp_X6_digest_80 FU x8 0 h7)) (fun n a h C => by
    show lp_X6_digest_31 (n + 1) a (nI 7) h = _
    rw [lp_X6_digest_31, if_pos (show (7 : Int32) ≤ nI 7 by decide)]) (fun n a i h hi C => by
    refine ⟨h, C, ScrC.rf, ?_⟩
    show lp_X6_digest_31 (n + 1) a (nI i) h = _
    rw [lp_X6_digest_31, if_neg (show ¬ (7 : Int32) ≤ nI i from nI_ge (b := 7) hi (by decide)), setting_C R hi h C.1, gbx_inl, nI_1]
    rfl) 7 0 FU (foF (mv vc) 13 0 2393) h1 rfl (by decide) C1
  obtain ⟨h3, C3, p3, e3⟩ := dgr_C I vg gg (foF (mv (fun k => z (0 + k))) 7 0 (foF (mv vc) 13 0 2393)) h2 C2
  obtain ⟨h4, C4, p4, e4⟩ := dlo_C I vl gl' (foF (mv vg) (6 * ng) 0 (foF (mv (fun k => z (0 + k))) 7 0 (foF (mv vc) 13 0 2393))) h3 C3
  obtain ⟨h5, C5, p5, e5⟩ := dta_C I gt (foF (mv vl) (11 * nl) 0 (foF (mv vg) (6 * ng) 0 (foF (mv (fun k => z (0 + k))) 7 0 (foF (mv vc) 13 0 2393)))) h4 C4
  obtain ⟨h6, C6, p6, e6⟩ := dva_C vv gv (foF (TT vt vk r0 r1 oi) nt 0 (foF (mv vl) (11 * nl) 0 (foF (mv vg) (6 * ng) 0 (foF (mv (fun k => z (0 + k))) 7 0 (foF (mv vc) 13 0 2393))))) h5 C5
  obtain ⟨h7, C7, p7, e7⟩ := loopC (c := c) (s := s) (len := len) (T := T) (L := fun n a i h => lp_X6_digest_80 n a i h) (mv vn) 5 (fun a h => lp_X6_digest_104 FU a 0 h) (fun n a h C => by
    show lp_X6_digest_80 (n + 1) a (nI 5) h = _
    rw [lp_X6_digest_80, if_pos (show (4 : Int32) < nI 5 by decide)]) (fun n a i h hi C => by
    obtain ⟨h', C', p', e'⟩ := cst (gn i hi) C a (fun x4 h3 => lp_X6_digest_80 n x4 (nI i + 1) h3) (fun _ _ => none)
    refine ⟨h', C', p', ?_⟩
    show lp_X6_digest_80 (n + 1) a (nI i) h = _
    rw [lp_X6_digest_80, if_neg (show ¬ (4 : Int32) < nI i from nI_nlt (a := 4) (by omega) (by decide)), e', nI_1]
    rfl) 5 0 FU _ h6 rfl (by decide) C6
  obtain ⟨h8, C8, p8, e8⟩ := loopC (c := c) (s := s) (len := len) (T := T) (L := fun n a i h => lp_X6_digest_104 n a i h) (mv vw) 3 (fun a h => gb (f_X6_bestTank h) fun x2 h1 =>
      gb (f_X6_mixed a (x2.toInt64) h1) fun x4 h3 =>
      gb (f_X6_goodShare h3) fun x6 h5 =>
      gb (f_X6_bitsOf x6 h5) fun x8 h7 =>
      gb (f_X6_mixed x4 x8 h7) fun x10 h9 =>
      gb (f_X6_mixed x10 ((h9.1 0 5).toInt64) h9) fun x12 h11 =>
      (lp_X6_digest_160 FU x12 0 h11)) (fun n a h C => by
    show lp_X6_digest_104 (n + 1) a (nI 3) h = _
    rw [lp_X6_digest_104, if_pos (show (2 : Int32) < nI 3 by decide)]) (fun n a i h hi C => by
    obtain ⟨h', C', p', e'⟩ := cst (gw i hi) C a (fun x4 h3 => lp_X6_digest_104 n x4 (nI i + 1) h3) (fun _ _ => none)
    refine ⟨h', C', p', ?_⟩
    show lp_X6_digest_104 (n + 1) a (nI i) h = _
    rw [lp_X6_digest_104, if_neg (show ¬ (2 : Int32) < nI i from nI_nlt (a := 2) (by omega) (by decide)), e', nI_1]
    rfl) 3 0 FU _ h7 rfl (by decide) C7
  obtain ⟨h9, C9, p9, e9⟩ := cwt gb' C8 (foF (mv vw) 3 0 (foF (mv vn) 5 0 (foF (mv vv) (8 * 5) 0 (foF (TT vt vk r0 r1 oi) nt 0 (foF (mv vl) (11 * nl) 0 (foF (mv vg) (6 * ng) 0 (foF (mv (fun k => z (0 + k))) 7 0 (foF (mv vc) 13 0 2393)))))))) (fun x4 h3 => gb (f_X6_goodShare h3) fun x6 h5 =>
      gb (f_X6_bitsOf x6 h5) fun x8 h7 =>
      gb (f_X6_mixed x4 x8 h7) fun x10 h9 =>
      gb (f_X6_mixed x10 ((h9.1 0 5).toInt64) h9) fun x12 h11 =>
      (lp_X6_digest_160 FU x12 0 h11))
  obtain ⟨h10, C10, p10, e10⟩ := loopC (c := c) (s := s) (len := len) (T := T) (L := fun n a i h => lp_X6_digest_160 n a i h) (mv T) len (fun a h => some (a, h)) (fun n a h C => by
    show lp_X6_digest_160 (n + 1) a (nI len) h = _
    rw [lp_X6_digest_160, C.2.2.1, if_pos (nI_le (Nat.le_refl _) (by omega))]) (fun n a i h hi C => by
    refine ⟨h, C, ScrC.rf, ?_⟩
    show lp_X6_digest_160 (n + 1) a (nI i) h = _
    rw [lp_X6_digest_160, C.2.2.1, if_neg (nI_ge hi (by omega)), codeAt_v (by omega), gb_some, C.2.2.2 i hi, nI_1]
    rfl) len 0 FU (31 * (31 * (31 * foF (mv vw) 3 0 (foF (mv vn) 5 0 (foF (mv vv) (8 * 5) 0 (foF (TT vt vk r0 r1 oi) nt 0 (foF (mv vl) (11 * nl) 0 (foF (mv vg) (6 * ng) 0 (foF (mv (fun k => z (0 + k))) 7 0 (foF (mv vc) 13 0 2393))))))) + bt.toInt64) + UInt64.toInt64 x) + (nI len).toInt64) h9 (by omega) (Nat.lt_of_le_of_lt hl (by decide)) C9
  refine ⟨h10, p1.trans (p2.trans (p3.trans (p4.trans (p5.trans (p6.trans (p7.trans (p8.trans (p9.trans p10)))))))), ?_⟩
  unfold f_X6_digest
  refine (e1.trans (e2.trans ?_))
  rw [e3, gb_some, e4, gb_some, e5, gb_some, e6, gb_some]
  refine (e7.trans (e8.trans (e9.trans ?_)))
  rw [xc h9 C9.1, gb_some, bits_C sh, gb_some]
  have m : ∀ a b H, f_X6_mixed a b H = some (31 * a + b, H) := fun _ _ _ => rfl
  rw [m, gb_some, m, gb_some, C9.2.2.1]
  exact e10
