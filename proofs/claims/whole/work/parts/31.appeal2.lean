/-- behind an appeal: the class's order, and the model's -/
def appC (c : Nat → Int32) (l : Fin 40) (g : Fin 8) (v : Fin 5) (t : Fin 6) (x gr : Int32) : Nat → Int32 :=
  setC (pourC (uVa (uLo (uLo c l 5 2) l 9 x) v 1 (cVa c v 1 + x)) t v x gr) g x
def appV4 (c : Nat → Int32) (g : Fin 8) (v : Fin 5) (t : Fin 6) (x gr : Int32) : Nat → Int32 :=
  uGr (uVa (uGr (pourC c t v x gr) g 0 (cGr c g 0 + x)) v 1 (cVa c v 1 + x)) g 2 (cGr c g 2 + 1)
def appV5 (c : Nat → Int32) (g : Fin 8) (v : Fin 5) (t : Fin 6) (x gr : Int32) : Nat → Int32 :=
  if cS c 4 ≤ x then appV4 c g v t x gr else uGr (uGr (appV4 c g v t x gr) g 0 (if 0 ≤ cGr c g 0 + x - cS c 4 then cGr c g 0 + x - cS c 4 else 0)) g 3 (cGr c g 3 + 1)
theorem app_acc {c z : Nat → Int32} (l : Fin 40) (g : Fin 8) (v : Fin 5) (t : Fin 6) (x gr : Int32) (h : SimCZ (uLo (uLo (appV5 c g v t x gr) l 5 2) l 9 x) z) : SimCZ (appC c l g v t x gr) z := by
  have eT : ∀ i k, cTa (pourC (uVa (uLo (uLo c l 5 2) l 9 x) v 1 (cVa c v 1 + x)) t v x gr) i k = cTa (pourC c t v x gr) i k := fun i k =>
    cTa_pour_congr (fun t k => by rw [cTa_uVa, cTa_uLo, cTa_uLo]) t v x gr i k
  refine h.acc (fun i k => ?_) (fun i k => ?_) (fun i k => ?_) (fun i k => ?_) (fun i => ?_)
  · unfold appC setC appV5
    simp only [cS_pour, cS_uVa, cS_uLo, cGr_pour, cGr_uVa, cGr_uLo]
    by_cases q : cS c 4 ≤ x
    · rw [if_pos q, if_pos q]
      unfold appV4
      simp only [cGr_uGr, cGr_uVa, cGr_pour, cGr_uLo]
      by_cases k0 : i = g ∧ k = 0
      · rw [if_pos k0, if_neg (fun w => absurd (k0.2.symm.trans w.2) (by decide)), if_pos k0]
      · rw [if_neg k0, if_neg k0]
    · rw [if_neg q, if_neg q]
      unfold appV4
      simp only [cGr_uGr, cGr_uVa, cGr_pour, cGr_uLo]
      rw [i_max0]
      by_cases k0 : i = g ∧ k = 0
      · have nk : ¬ (i = g ∧ k = 3) := fun w => absurd (k0.2.symm.trans w.2) (by decide)
        rw [if_pos k0, if_neg nk, if_pos k0]
      · rw [if_neg k0, if_neg k0, if_neg k0, if_neg k0]
  · unfold appC setC appV5
    by_cases q : cS c 4 ≤ x
    · rw [if_pos (by simp only [cS_pour, cS_uVa, cS_uLo]; exact q), if_pos q]
      unfold appV4
      simp only [cLo_uGr, cLo_pour, cLo_uVa, cLo_uLo]
    · rw [if_neg (by simp only [cS_pour, cS_uVa, cS_uLo]; exact q), if_neg q]
      unfold appV4
      simp only [cLo_uGr, cLo_pour, cLo_uVa, cLo_uLo]
  · unfold appC setC appV5
    by_cases q : cS c 4 ≤ x
    · rw [if_pos (by simp only [cS_pour, cS_uVa, cS_uLo]; exact q), if_pos q]
      unfold appV4
      simp only [cTa_uGr, cTa_uVa, cTa_uLo, eT]
    · rw [if_neg (by simp only [cS_pour, cS_uVa, cS_uLo]; exact q), if_neg q]
      unfold appV4
      simp only [cTa_uGr, cTa_uVa, cTa_uLo, eT]
  · unfold appC setC appV5
    by_cases q : cS c 4 ≤ x
    · rw [if_pos (by simp only [cS_pour, cS_uVa, cS_uLo]; exact q), if_pos q]
      unfold appV4
      simp only [cVa_uGr, cVa_pour, cVa_uVa, cVa_uLo]
    · rw [if_neg (by simp only [cS_pour, cS_uVa, cS_uLo]; exact q), if_neg q]
      unfold appV4
      simp only [cVa_uGr, cVa_pour, cVa_uVa, cVa_uLo]
  · unfold appC setC appV5
    by_cases q : cS c 4 ≤ x
    · rw [if_pos (by simp only [cS_pour, cS_uVa, cS_uLo]; exact q), if_pos q]
      unfold appV4
      simp only [cS_uGr, cS_pour, cS_uVa, cS_uLo]
    · rw [if_neg (by simp only [cS_pour, cS_uVa, cS_uLo]; exact q), if_neg q]
      unfold appV4
      simp only [cS_uGr, cS_pour, cS_uVa, cS_uLo]
theorem appeal_194 (l : Fin 40) (x : Int32) (h : Hst) : jb_X7_appeal_194 (nI l.val) x h = some (x, hso h 18 (wL (wL (h.1 18) l 5 2) l 8 x)) := by
  unfold jb_X7_appeal_194
  rw [setLot_5, gbv_some, setLot_8, gbv_some, hso_hso, hso_at, if_pos rfl]
/-- the model's walk behind the save -/
theorem appeal_M {c : Nat → Int32} {ng nl nt : Nat} (l : Fin 40) (hl : l.val < nl) (g : Fin 8) (hg : g.val < ng) (v : Fin 5) (t : Fin 6) (ht : t.val < nt) (x gr : Int32) (h1 : cLo c l 5 = 1) (ev : cLo c l 1 = nI v.val) (hx : x ≤ roomV c t) (I : InvC c ng nl nt) (H : Hst) (R : RelCZ c (H.1 18) nl) :
    ∃ z', (gbv (f_X7_pour (nI t.val) (nI v.val) x gr H) fun h13 =>
    gl (40 + nI g.val) fun x14 =>
    gck x14 514 (gck x14 514 (gl (hst h13 18 x14.toNatClampNeg ((h13.1 18 x14.toNatClampNeg) + x)) fun h15 =>
    gb (f_X7_ofLot (nI l.val) 1 h15) fun x17 h16 =>
    gl (20 + x17) fun x18 =>
    gck x18 514 (gck x18 514 (gl (hst h16 18 x18.toNatClampNeg ((h16.1 18 x18.toNatClampNeg) + x)) fun h19 =>
    gck 14 514 (gck 14 514 (gl (hst h19 18 (14 : Int32).toNatClampNeg ((h19.1 18 (14 : Int32).toNatClampNeg) + 1)) fun h20 =>
    gl (56 + nI g.val) fun x21 =>
    gck x21 514 (gck x21 514 (gl (hst h20 18 x21.toNatClampNeg ((h20.1 18 x21.toNatClampNeg) + 1)) fun h22 =>
    gck 4 514 ((if (h22.1 18 (4 : Int32).toNatClampNeg) ≤ x then
      (jb_X7_appeal_194 (nI l.val) x h22)
    else
      gck (40 + nI g.val) 514 (gck 4 514 (gl ((h22.1 18 (40 + nI g.val).toNatClampNeg) - (h22.1 18 (4 : Int32).toNatClampNeg)) fun x23 =>
      (if 0 ≤ x23 then
        (jb_X7_appeal_180 (nI l.val) x (nI g.val) x23 (40 + nI g.val) h22)
      else
        (jb_X7_appeal_180 (nI l.val) x (nI g.val) 0 (40 + nI g.val) h22))))))))))))))) = some (x, hso H 18 z') ∧ SimCZ (uLo (uLo (appV5 c g v t x gr) l 5 2) l 9 x) z' := by
  have lg := g.isLt
  have lv := v.isLt
  have R1 := rel_pour R t v x gr
  have R2 := rel_G R1 g 0 (by decide) (cGr c g 0 + x)
  have R3 := rel_V R2 1 v (cVa c v 1 + x)
  have R4 := rel_G2 R3 g
  have I1 := inv_pour I t ht v x gr hx
  have I2 := inv_G I1 g 0 hg (cGr c g 0 + x)
  have I3 := inv_V I2 v 1 (cVa c v 1 + x) (fun q => absurd q (by decide))
  have I4 := inv_G I3 g 2 hg (cGr (uVa (uGr (pourC c t v x gr) g 0 (cGr c g 0 + x)) v 1 (cVa c v 1 + x)) g 2 + 1)
  have g2 : cGr (uVa (uGr (pourC c t v x gr) g 0 (cGr c g 0 + x)) v 1 (cVa c v 1 + x)) g 2 = cGr c g 2 := by
    rw [cGr_uVa, cGr_uGr, if_neg (fun w => absurd w.2 (by decide)), cGr_pour]
  rw [g2] at R4 I4
  change RelCZ (appV4 c g v t x gr) _ nl at R4
  change InvC (appV4 c g v t x gr) ng nl nt at I4
  have q1 : pourZ (H.1 18) t v x gr (40 + g.val) = cGr c g 0 := (R1.2.2.2.2.1 0 g).trans (cGr_pour c t v x gr g 0)
  have q2 : upd (pourZ (H.1 18) t v x gr) (40 + g.val) (cGr c g 0 + x) (20 + v.val) = cVa c v 1 := (R2.2.2.2.1 1 v).trans (by rw [cVa_uGr, cVa_pour])
  have q3 : ∀ h : Hst, h.1 18 = upd (pourZ (H.1 18) t v x gr) (40 + g.val) (cGr c g 0 + x) → f_X7_ofLot (nI l.val) 1 h = some (nI v.val, h) := fun h e => by
    rw [ofLot_1, e]
    have := R2.2.2.2.2.2.2.1 l 1
    rw [cLo_uGr, cLo_pour] at this
    exact congrArg (fun y => some (y, h)) (this.trans ev)
  have q4 : (wG (wS (wV (wG (pourZ (H.1 18) t v x gr) 0 g (cGr c g 0 + x)) 1 v (cVa c v 1 + x)) 14 (zS (wV (wG (pourZ (H.1 18) t v x gr) 0 g (cGr c g 0 + x)) 1 v (cVa c v 1 + x)) 14 + 1)) 2 g (cGr c g 2 + 1)) 4 = cS c 4 := (R4.1 4 (by decide)).trans (by unfold appV4; rw [cS_uGr, cS_uVa, cS_uGr, cS_pour])
  have q5 : (wG (wS (wV (wG (pourZ (H.1 18) t v x gr) 0 g (cGr c g 0 + x)) 1 v (cVa c v 1 + x)) 14 (zS (wV (wG (pourZ (H.1 18) t v x gr) 0 g (cGr c g 0 + x)) 1 v (cVa c v 1 + x)) 14 + 1)) 2 g (cGr c g 2 + 1)) (40 + g.val) = cGr c g 0 + x := (R4.2.2.2.2.1 0 g).trans (by unfold appV4; rw [cGr_uGr, if_neg (fun w => absurd w.2 (by decide)), cGr_uVa, cGr_uGr, if_pos ⟨rfl, rfl⟩])
  have q6 : (wS (wV (wG (pourZ (H.1 18) t v x gr) 0 g (cGr c g 0 + x)) 1 v (cVa c v 1 + x)) 14 (zS (wV (wG (pourZ (H.1 18) t v x gr) 0 g (cGr c g 0 + x)) 1 v (cVa c v 1 + x)) 14 + 1)) (56 + g.val) = cGr c g 2 := by
    have : zG (wS (wV (wG (pourZ (H.1 18) t v x gr) 0 g (cGr c g 0 + x)) 1 v (cVa c v 1 + x)) 14 (zS (wV (wG (pourZ (H.1 18) t v x gr) 0 g (cGr c g 0 + x)) 1 v (cVa c v 1 + x)) 14 + 1)) 2 g = cGr c g 2 := by
      rw [zG_wS, R3.2.2.2.2.1 2 g, g2]
    exact this
  generalize hz4 : (wG (wS (wV (wG (pourZ (H.1 18) t v x gr) 0 g (cGr c g 0 + x)) 1 v (cVa c v 1 + x)) 14 (zS (wV (wG (pourZ (H.1 18) t v x gr) 0 g (cGr c g 0 + x)) 1 v (cVa c v 1 + x)) 14 + 1)) 2 g (cGr c g 2 + 1)) = z4 at q4 q5 R4
  rw [pour_M, gbv_some, show (40 : Int32) = nI 40 from rfl, gl_z (by omega), hst_hso, hso_at, if_pos rfl, q1, q3 _ (by rw [hso_at, if_pos rfl]), gb_some, show (20 : Int32) = nI 20 from rfl, gl_z (by omega), hst_hso, hso_at, if_pos rfl, q2, gk_14_514, gk_14_514, gl_eq, tn_14, hst_hso, hso_at, if_pos rfl, show (56 : Int32) = nI 56 from rfl, gl_z (by omega), hst_hso]
  simp only [hso_at, if_true]
  have e4 : upd (upd (upd (upd (pourZ (H.1 18) t v x gr) (40 + g.val) (cGr c g 0 + x)) (20 + v.val) (cVa c v 1 + x)) 14 (upd (upd (pourZ (H.1 18) t v x gr) (40 + g.val) (cGr c g 0 + x)) (20 + v.val) (cVa c v 1 + x) 14 + 1)) (56 + g.val) (upd (upd (upd (pourZ (H.1 18) t v x gr) (40 + g.val) (cGr c g 0 + x)) (20 + v.val) (cVa c v 1 + x)) 14 (upd (upd (pourZ (H.1 18) t v x gr) (40 + g.val) (cGr c g 0 + x)) (20 + v.val) (cVa c v 1 + x) 14 + 1) (56 + g.val) + 1) = z4 := by
    rw [← hz4]
    have := congrArg (fun y => upd (upd (upd (upd (pourZ (H.1 18) t v x gr) (40 + g.val) (cGr c g 0 + x)) (20 + v.val) (cVa c v 1 + x)) 14 (upd (upd (pourZ (H.1 18) t v x gr) (40 + g.val) (cGr c g 0 + x)) (20 + v.val) (cVa c v 1 + x) 14 + 1)) (56 + g.val) (y + 1)) q6
    exact this
  rw [e4, gk_4_514, gk_4_514, tn_4, q4]
  by_cases w : cS c 4 ≤ x
  · refine ⟨wL (wL z4 l 5 2) l 8 x, ?_, ?_⟩
    · rw [if_pos w, appeal_194, hso_hso, hso_at, if_pos rfl]
    · have e5 : appV5 c g v t x gr = appV4 c g v t x gr := by unfold appV5; rw [if_pos w]
      have l5 : cLo (appV4 c g v t x gr) l 5 = 1 := by unfold appV4; rw [cLo_uGr, cLo_uVa, cLo_uGr, cLo_pour]; exact h1
      rw [e5]
      exact ⟨ng, nl, nt, inv_app I4 l hl l5 x, rel_app R4 l hl l5 x⟩
  · have R5 := rel_G (rel_G R4 g 0 (by decide) (if 0 ≤ cGr c g 0 + x - cS c 4 then cGr c g 0 + x - cS c 4 else 0)) g 3 (by decide) (cGr c g 3 + 1)
    have I5 := inv_G (inv_G I4 g 0 hg (if 0 ≤ cGr c g 0 + x - cS c 4 then cGr c g 0 + x - cS c 4 else 0)) g 3 hg (cGr c g 3 + 1)
    have e5 : appV5 c g v t x gr = uGr (uGr (appV4 c g v t x gr) g 0 (if 0 ≤ cGr c g 0 + x - cS c 4 then cGr c g 0 + x - cS c 4 else 0)) g 3 (cGr c g 3 + 1) := by unfold appV5; rw [if_neg w]
    rw [← e5] at R5 I5
    have l5 : cLo (appV5 c g v t x gr) l 5 = 1 := by rw [e5]; unfold appV4; rw [cLo_uGr, cLo_uGr, cLo_uGr, cLo_uVa, cLo_uGr, cLo_pour]; exact h1
    have s180 : ∀ y, jb_X7_appeal_180 (nI l.val) x (nI g.val) y (nI 40 + nI g.val) (hso H 18 z4) = some (x, hso H 18 (wL (wL (wG (wG z4 0 g y) 3 g (zG (wG z4 0 g y) 3 g + 1)) l 5 2) l 8 x)) := fun y => by
      unfold jb_X7_appeal_180
      rw [nI_add, gck_nI (by omega) (by decide), nI_clamp (by omega), gl_eq, hst_hso, show (64 : Int32) = nI 64 from rfl, gl_z (by omega), hst_hso, hso_at, if_pos rfl, appeal_194, hso_hso, hso_at, if_pos rfl]
      rfl
    have g3 : ∀ y, zG (wG z4 0 g y) 3 g = cGr c g 3 := fun y => by
      rw [zG_wG, if_neg (fun w => absurd w.1 (by decide)), R4.2.2.2.2.1 3 g]
      unfold appV4
      rw [cGr_uGr, if_neg (fun w => absurd w.2 (by decide)), cGr_uVa, cGr_uGr, if_neg (fun w => absurd w.2 (by decide)), cGr_pour]
    refine ⟨wL (wL (wG (wG z4 0 g (if 0 ≤ cGr c g 0 + x - cS c 4 then cGr c g 0 + x - cS c 4 else 0)) 3 g (cGr c g 3 + 1)) l 5 2) l 8 x, ?_, ⟨ng, nl, nt, inv_app I5 l hl l5 x, rel_app R5 l hl l5 x⟩⟩
    rw [if_neg w, gck_ok (by rw [nI_add]; exact nI_pos (by omega)) (by rw [nI_add, nI_clamp (by omega)]; omega)]
    have cl : (nI 40 + nI g.val).toNatClampNeg = 40 + g.val := by rw [nI_add, nI_clamp (by omega)]
    rw [cl, gl_eq, q5]
    split
    · next r => rw [s180, g3]
    · next r => rw [s180, g3]
