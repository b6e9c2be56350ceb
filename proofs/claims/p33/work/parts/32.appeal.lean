-- an appeal
theorem J.mono {h : Hst} {nl b b' : Nat} (j : J h nl b) (hb : b ≤ b') : J h nl b' := by
  obtain ⟨hn, S, I, r17, r18, r19, r20, r22, rt, r25, rg⟩ := j
  exact ⟨hn, S, I, r17, r18, r19, r20, r22, rt, r25, rg.1, rg.2.1, fun g hg => (rg.2.2 g hg).imp fun n w => ⟨Nat.le_trans w.1 (Nat.mul_le_mul_left _ hb), w.2⟩⟩
theorem app_acc (c : Nat → Int32) (l : Fin 40) (g : Fin 8) (v : Fin 5) (t : Fin 6) (x gr : Int32) :
    (∀ i, cS (appC c l g v t x gr) i = cS c i) ∧ (∀ i, cVa (appC c l g v t x gr) i 0 = cVa c i 0) ∧ (∀ i k, cTa (appC c l g v t x gr) i k = cTa (pourC c t v x gr) i k) ∧
    (∀ i k, cLo (appC c l g v t x gr) i k = if i = l ∧ k = 9 then x else if i = l ∧ k = 5 then 2 else cLo c i k) ∧
    (∀ i, cGr (appC c l g v t x gr) i 2 = if i = g then cGr c g 2 + 1 else cGr c i 2) ∧
    (∀ i, cGr (appC c l g v t x gr) i 0 = if i = g then (if cS c 4 ≤ x then cGr c g 0 + x else if 0 < cGr c g 0 + x - cS c 4 then cGr c g 0 + x - cS c 4 else 0) else cGr c i 0) := by
  have eT : ∀ i k, cTa (pourC (uVa (uLo (uLo c l 5 2) l 9 x) v 1 (cVa c v 1 + x)) t v x gr) i k = cTa (pourC c t v x gr) i k := fun i k =>
    cTa_pour_congr (fun t k => by rw [cTa_uVa, cTa_uLo, cTa_uLo]) t v x gr i k
  unfold appC setC
  simp only [cS_pour, cS_uVa, cS_uLo, cGr_pour, cGr_uVa, cGr_uLo]
  by_cases q : cS c 4 ≤ x
  · simp only [if_pos q]
    refine ⟨fun i => ?_, fun i => ?_, fun i k => ?_, fun i k => ?_, fun i => ?_, fun i => ?_⟩
    · simp only [cS_uGr, cS_pour, cS_uVa, cS_uLo]
    · simp only [cVa_uGr, cVa_pour, cVa_uLo]
      rw [cVa_uVa, if_neg (fun w => absurd w.2 (by decide))]
      simp only [cVa_uLo]
    · simp only [cTa_uGr, eT]
    · simp only [cLo_uGr, cLo_pour, cLo_uVa, cLo_uLo]
    · simp only [cGr_uGr, cGr_pour, cGr_uVa, cGr_uLo]
      rw [if_neg (fun w => absurd w.2 (by decide))]
      by_cases w : i = g
      · rw [if_pos ⟨w, trivial⟩, if_pos w]
      · rw [if_neg (fun z => w z.1), if_neg w]
    · simp only [cGr_uGr, cGr_pour, cGr_uVa, cGr_uLo]
      by_cases w : i = g
      · rw [if_pos ⟨w, trivial⟩, if_pos w]
      · rw [if_neg (fun z => w z.1), if_neg (fun z => w z.1), if_neg w]
  · simp only [if_neg q]
    refine ⟨fun i => ?_, fun i => ?_, fun i k => ?_, fun i k => ?_, fun i => ?_, fun i => ?_⟩
    · simp only [cS_uGr, cS_pour, cS_uVa, cS_uLo]
    · simp only [cVa_uGr, cVa_pour, cVa_uLo]
      rw [cVa_uVa, if_neg (fun w => absurd w.2 (by decide))]
      simp only [cVa_uLo]
    · simp only [cTa_uGr, eT]
    · simp only [cLo_uGr, cLo_pour, cLo_uVa, cLo_uLo]
    · simp only [cGr_uGr, cGr_pour, cGr_uVa, cGr_uLo]
      rw [if_neg (fun w => absurd w.2 (by decide)), if_neg (fun w => absurd w.2 (by decide)), if_neg (fun w => absurd w.2 (by decide))]
      by_cases w : i = g
      · rw [if_pos ⟨w, trivial⟩, if_pos w]
      · rw [if_neg (fun z => w z.1), if_neg w]
    · simp only [cGr_uGr, cGr_pour, cGr_uVa, cGr_uLo]
      by_cases w : i = g
      · rw [if_pos ⟨w, trivial⟩, if_pos w]
      · rw [if_neg (fun z => w z.1), if_neg (fun z => w z.1), if_neg (fun z => w z.1), if_neg (fun z => w z.1), if_neg w]
/-- the law's rows behind an appeal of lot l: its state, its second oil, one appeal more -/
def apH (h : Hst) (l : Nat) (x : Int32) : Hst := hst (hst (hst h 19 (6 * l + 5) 2) 22 l x) 17 7 (h.1 17 7 + 1)
theorem appeal_273 {h : Hst} {l : Nat} (hl : l < 10) (x : Int32) : jb_L_appeals_273 (nI l) x h = gb (f_X6_appeal (nI l) (apH h l x)) fun x5 h4 => if x5 = x then jb_L_appeals_314 1 h4 else jb_L_appeals_314 0 h4 := by
  unfold jb_L_appeals_273
  rw [ix65, gck_nI (by omega) (by decide), nI_clamp (by omega), gl_eq, gck_nI hl (by decide), nI_clamp (by omega), gl_eq, gk_7_15, gk_7_15, gl_eq, tn_7]
  rfl
theorem act_appeal {h h1 : Hst} {nl b : Nat} (j : J h nl b) (hb : b ≤ 47) (l : Fin 40) (hl : l.val < nl) (g : Fin 8) (hg : g.val < 3) (eg : cLo (h.1 8) l 0 = nI g.val) (v : Fin 5) (ev : cLo (h.1 8) l 1 = nI v.val) (t : Fin 6) (ht : t.val < 3) (et : cLo (h.1 8) l 10 = nI t.val) (h5 : cLo (h.1 8) l 5 = 1) (ra : raV (h.1 8) l t = 0) {x gr a : Nat} (ex : secV (h.1 8) l = nI x) (hx : x ≤ 12000) (egr : gl3 (cLo (h.1 8) l 3) = nI gr) (hgr : gr ≤ 2) (ea : cGr (h.1 8) g 0 = nI a) (aL : a ≤ 12000 * b)
    (k8 : ∀ k, k ≠ 24 → k ≠ 25 → h1.1 k = h.1 k) (R24 : RT (h1.1 24) (pourC (h.1 8) t v (nI x) (nI gr))) {y : Nat} (hy : y ≤ a + x) (ey : nI y = if cS (h.1 8) 4 ≤ nI x then nI (a + x) else if 0 < nI (a + x) - cS (h.1 8) 4 then nI (a + x) - cS (h.1 8) 4 else 0) (k25 : h1.1 25 = upd (h.1 25) g.val (nI y)) :
    ∃ h', jb_L_appeals_273 (nI l.val) (nI x) h1 = some (1, h') ∧ J h' nl (b + 1) := by
  obtain ⟨hn, S, I, ⟨⟨n0, n1, n2, n3, n4, n5, n6, n7⟩, n8⟩, r18, r19, r20, r22, rt, r25, rg⟩ := id j
  have g8 : (apH h1 l.val (nI x)).1 8 = h.1 8 := k8 8 (by decide) (by decide)
  obtain ⟨h', e', e8, S', ou, I', -⟩ := cls_appeal (h := apH h1 l.val (nI x)) (ng := 3) (nl := nl) (nt := 3) ((S.same (k8 1 (by decide) (by decide)) : SVx h1).same rfl) (by rw [g8]; exact I) l hl g hg (by rw [g8]; exact eg) v (by rw [g8]; exact ev) t ht (by rw [g8]; exact et) (by rw [g8]; exact h5) (by rw [g8]; exact ra)
  rw [g8, ex, egr] at e8 I'
  rw [g8, ex] at e'
  obtain ⟨aS, aV, aT, aL2, aG2, aG0⟩ := app_acc (h.1 8) l g v t (nI x) (nI gr)
  generalize appC (h.1 8) l g v t (nI x) (nI gr) = C at e8 I' aS aV aT aL2 aG2 aG0
  have f17 : (apH h1 l.val (nI x)).1 17 = upd (h.1 17) 7 (h.1 17 7 + 1) := by
    show upd (h1.1 17) 7 (h1.1 17 7 + 1) = _
    rw [k8 17 (by decide) (by decide)]
  have f19 : (apH h1 l.val (nI x)).1 19 = upd (h.1 19) (6 * l.val + 5) 2 := by
    show upd (h1.1 19) _ _ = _
    rw [k8 19 (by decide) (by decide)]
  have f22 : (apH h1 l.val (nI x)).1 22 = upd (h.1 22) l.val (nI x) := by
    show upd (h1.1 22) _ _ = _
    rw [k8 22 (by decide) (by decide)]
  have f24 : (apH h1 l.val (nI x)).1 24 = h1.1 24 := rfl
  have f25 : (apH h1 l.val (nI x)).1 25 = upd (h.1 25) g.val (nI y) := k25
  have fk : ∀ k, k = 18 ∨ k = 20 ∨ k = 21 ∨ k = 23 → (apH h1 l.val (nI x)).1 k = h.1 k := fun k hk => by
    rcases hk with rfl | rfl | rfl | rfl
    · exact k8 18 (by decide) (by decide)
    · exact k8 20 (by decide) (by decide)
    · exact k8 21 (by decide) (by decide)
    · exact k8 23 (by decide) (by decide)
  have aLn : ∀ i k, k ≠ 5 → k ≠ 9 → cLo C i k = cLo (h.1 8) i k := fun i k a5 a9 => by
    rw [aL2, if_neg (fun w => a9 w.2), if_neg (fun w => a5 w.2)]
  refine ⟨h', ?_, J_end hn e8 S' ou I' ?_⟩
  · rw [appeal_273 (by omega), e', gb_some, if_pos rfl]
    unfold jb_L_appeals_314
    rw [gzr_1]
  · unfold RelL
    rw [f17, f19, f22, f24, f25, fk 18 (by decide), fk 20 (by decide), fk 21 (by decide), fk 23 (by decide)]
    refine ⟨⟨?_, fun i => ?_⟩, r18.congr aV, fun l' hl' k => ?_, fun l' hl' w5 => ?_, fun l' hl' w5 => ?_, R24.congr (fun t' _ k => aT t' k), fun g' hg' => ?_, fun t' ht' => ?_, fun l' hl' w5 => ?_, fun g' hg' => ?_⟩
    · have q3 : rv C = rv (h.1 8) := by unfold rv; rw [aS, aS]
      have q7 : sum8 (fun g => cGr C g 2) = sum8 (fun g => cGr (h.1 8) g 2) + 1 :=
        sum8_add _ _ g 1 (by show cGr C g 2 = _; rw [aG2, if_pos rfl]) (fun i hi => by show cGr C i 2 = _; rw [aG2, if_neg hi])
      rw [q3, q7, aS, aS, aS, upd_eq, upd_ne (by decide), upd_ne (by decide), upd_ne (by decide), upd_ne (by decide), upd_ne (by decide), upd_ne (by decide), upd_ne (by decide), n7]
      exact ⟨n0, n1, n2, n3, n4, n5, n6, rfl⟩
    · rw [upd_ne (by omega), aS]; exact n8 i
    · have lk := k.isLt
      rw [aL2, if_neg (fun w => by have : k.val = 9 := congrArg Fin.val w.2; omega), upd_at]
      by_cases q : l' = l ∧ (⟨k.val, by omega⟩ : Fin 11) = 5
      · have : k.val = 5 := congrArg Fin.val q.2
        rw [if_pos q, if_pos (by rw [q.1]; omega)]
      · rw [if_neg q, if_neg (fun w => q ⟨Fin.ext (by omega), Fin.ext (by show k.val = 5; omega)⟩)]
        exact r19 l' hl' k
    · rw [aLn l' 6 (by decide) (by decide), aLn l' 8 (by decide) (by decide), aLn l' 10 (by decide) (by decide)]
      refine r20 l' hl' (fun z => w5 ?_)
      rw [aL2, if_neg (fun w => absurd w.2 (by decide))]
      by_cases q : l' = l
      · rw [q, h5] at z; exact absurd z (by decide)
      · rw [if_neg (fun w => q w.1)]; exact z
    · rw [aL2, upd_at]
      by_cases q : l' = l
      · rw [if_pos (congrArg Fin.val q), if_pos ⟨q, rfl⟩]
      · rw [if_neg (fun w => q (Fin.ext w)), if_neg (fun w => q w.1), if_neg (fun w => q w.1)]
        refine r22 l' hl' ?_
        rw [aL2, if_neg (fun w => q w.1), if_neg (fun w => q w.1)] at w5
        exact w5
    · rw [aG0, upd_at]
      by_cases q : g' = g
      · rw [if_pos (congrArg Fin.val q), if_pos q, ey, ea, nI_add]
      · rw [if_neg (fun w => q (Fin.ext w)), if_neg q]; exact r25 g' hg'
    · rw [aT]; exact pour_grade (I.2.2.2.2.2.2.2.2.2 t) v (nI x) hgr (rg.1 t' ht')
    · rw [aLn l' 7 (by decide) (by decide), aLn l' 8 (by decide) (by decide)]
      refine rg.2.1 l' hl' (fun z => w5 ?_)
      rw [aL2, if_neg (fun w => absurd w.2 (by decide))]
      by_cases q : l' = l
      · rw [q, h5] at z; exact absurd z (by decide)
      · rw [if_neg (fun w => q w.1)]; exact z
    · rw [aG0]
      by_cases q : g' = g
      · rw [if_pos q, ea, nI_add, ← ey]
        exact ⟨y, by omega, rfl⟩
      · rw [if_neg q]
        exact (rg.2.2 g' hg').imp fun n w => ⟨by omega, w.2⟩
