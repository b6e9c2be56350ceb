-- pressing
def loC (c : Nat → Int32) (v : Fin 5) (L : Nat) : Nat → Int32 := if L = 0 then c else clC c v (nI L)
def loZ (z : Nat → Int32) (v : Fin 5) (L : Nat) : Nat → Int32 := if L = 0 then z else clZ z v (nI L)
theorem lose_v (v : Fin 5) {L : Nat} (hL : L < 2 ^ 30) (h : Hst) : f_X6_loseByCleaning (nI v.val) (nI L) h = some (hso h 8 (loC (h.1 8) v L)) := by
  unfold loC
  by_cases q : L = 0
  · subst q
    rw [if_pos rfl, hso_self]
    exact lose_0 _ h
  · rw [if_neg q]
    exact lose_S v q hL h
theorem cnow_v (v : Fin 5) {L : Nat} (hL : L < 2 ^ 30) (h : Hst) (e : L ≠ 0 → h.1 18 10 = nI v.val) : f_X7_cleanNow (nI L) h = some (hso h 18 (loZ (h.1 18) v L)) := by
  unfold loZ
  by_cases q : L = 0
  · subst q
    rw [if_pos rfl, hso_self]
    exact cnow_0 h
  · rw [if_neg q]
    exact cnow_S v q hL h (e q)
theorem sim_lo {c z : Nat → Int32} {ng nl nt : Nat} (I : InvC c ng nl nt) (R : RelCZ c z nl) (v : Fin 5) (L : Nat) : InvC (loC c v L) ng nl nt ∧ RelCZ (loC c v L) (loZ z v L) nl := by
  unfold loC loZ
  by_cases q : L = 0
  · rw [if_pos q, if_pos q]
    exact ⟨I, R⟩
  · rw [if_neg q, if_neg q]
    exact sim_lose I R v (nI L)
theorem cGr_lo (c : Nat → Int32) (v : Fin 5) (L : Nat) (i : Fin 8) (k : Fin 4) : cGr (loC c v L) i k = cGr c i k := by
  unfold loC clC; split
  · rfl
  · rw [cGr_uS, cGr_uVa]
theorem cLo_lo (c : Nat → Int32) (v : Fin 5) (L : Nat) (i : Fin 40) (k : Fin 11) : cLo (loC c v L) i k = cLo c i k := by
  unfold loC clC; split
  · rfl
  · rw [cLo_uS, cLo_uVa]
theorem cTa_lo (c : Nat → Int32) (v : Fin 5) (L : Nat) (i : Fin 6) (k : Fin 7) : cTa (loC c v L) i k = cTa c i k := by
  unfold loC clC; split
  · rfl
  · rw [cTa_uS, cTa_uVa]
theorem zS_lo (z : Nat → Int32) (v : Fin 5) (L : Nat) : loZ z v L 10 = z 10 := by
  have a : zS (loZ z v L) 10 = zS z 10 := by
    unfold loZ clZ; split
    · rfl
    · rw [zS_wS, if_neg (by decide), zS_wV]
  exact a
/-- the pressed lot is entered -/
def lpC (c : Nat → Int32) (l : Fin 40) (d ct f t : Int32) : Nat → Int32 := uLo (uLo (uLo (uLo (uLo c l 5 1) l 6 d) l 7 ct) l 8 f) l 10 t
def lpZ (z : Nat → Int32) (l : Fin 40) (d f t : Int32) : Nat → Int32 := wL (wL (wL (wL z l 5 1) l 6 d) l 7 f) l 9 t
def enC (c : Nat → Int32) (l : Fin 40) (u : Fin 5) (g : Fin 8) (d ct f t : Int32) : Nat → Int32 :=
  uVa (uGr (lpC c l d ct f t) g 0 (cGr c g 0 + f)) u 1 (cVa c u 1 + f)
theorem lpC_ne (c : Nat → Int32) (l : Fin 40) (d ct f t : Int32) (k : Fin 11) (h5 : k ≠ 5) (h6 : k ≠ 6) (h7 : k ≠ 7) (h8 : k ≠ 8) (h10 : k ≠ 10) : cLo (lpC c l d ct f t) l k = cLo c l k := by
  unfold lpC
  rw [cLo_uLo, if_neg (fun w => h10 w.2), cLo_uLo, if_neg (fun w => h8 w.2), cLo_uLo, if_neg (fun w => h7 w.2), cLo_uLo, if_neg (fun w => h6 w.2), cLo_uLo, if_neg (fun w => h5 w.2)]
theorem lpC_l (c : Nat → Int32) (l l' : Fin 40) (d ct f t : Int32) (k : Fin 11) (q : ¬ l' = l) : cLo (lpC c l d ct f t) l' k = cLo c l' k := by
  unfold lpC
  rw [cLo_ne _ q, cLo_ne _ q, cLo_ne _ q, cLo_ne _ q, cLo_ne _ q]
theorem enter_v {c : Nat → Int32} {l : Fin 40} {u : Fin 5} {g : Fin 8} {d ct f : Int32} (t : Int32) (h : Hst) (e : h.1 8 = c) (r5 : h.1 13 5 = nI l.val) (r6 : h.1 13 6 = d) (r7 : h.1 13 7 = ct) (r8 : h.1 13 8 = f) (eg : cLo c l 0 = nI g.val) (eu : cLo c l 1 = nI u.val) : f_X6_enterPressedLot t h = some (hso h 8 (enC c l u g d ct f t)) := by
  have s : ∀ Z k, (hso h 8 Z).1 13 k = h.1 13 k := fun _ _ => rfl
  have w : ∀ Z, (hso h 8 Z).1 8 = Z := fun _ => rfl
  have a0 : cLo (lpC c l d ct f t) l 0 = nI g.val := (lpC_ne c l d ct f t 0 (by decide) (by decide) (by decide) (by decide) (by decide)).trans eg
  have a1 : cLo (uGr (lpC c l d ct f t) g 0 (cGr c g 0 + f)) l 1 = nI u.val := by rw [cLo_uGr]; exact (lpC_ne c l d ct f t 1 (by decide) (by decide) (by decide) (by decide) (by decide)).trans eu
  have ag : cGr (lpC c l d ct f t) g 0 = cGr c g 0 := by
    unfold lpC
    simp only [cGr_uLo]
  have av : cVa (uGr (lpC c l d ct f t) g 0 (cGr c g 0 + f)) u 1 = cVa c u 1 := by
    unfold lpC
    simp only [cVa_uGr, cVa_uLo]
  unfold f_X6_enterPressedLot
  rw [gl_eq, r5, put3_5, gbv_some, s, r6, put3_6, gbv_some, w, hso_hso, s, r7, put3_7, gbv_some, w, hso_hso, s, r8, put3_8, gbv_some, w, hso_hso, put3_10, gbv_some, w, hso_hso, e]
  change gb (f_X5_get_3 (nI l.val) 0 (hso h 8 (lpC c l d ct f t))) _ = _
  rw [get3_0, gb_some, w, a0, s, r8, add2_0, gbv_some, w, hso_hso, ag, get3_1, gb_some, w, a1, s, r8, add5_1, gbv_some, w, hso_hso, av]
  rfl
theorem rel_press {c z : Nat → Int32} {nl : Nat} (R : RelCZ c z nl) (l : Fin 40) (hl : l.val < nl) (h0 : cLo c l 5 = 0) (d ct f t : Int32) : RelCZ (lpC c l d ct f t) (lpZ z l d f t) nl := by
  obtain ⟨r1, r2, r3, r4, r5, r6, r7, r8, r9⟩ := R
  unfold lpZ
  refine ⟨fun i hi => ?_, ?_, ?_, ?_, ?_, ?_, ?_, ?_, ?_⟩
  · unfold lpC; simp only [zS_wL, cS_uLo]; exact r1 i hi
  · unfold lpC; simp only [zS_wL, cS_uLo]; exact r2
  · unfold lpC; simp only [zS_wL, cGr_uLo]; exact r3
  · intro k v; unfold lpC; simp only [zV_wL, cVa_uLo]; exact r4 k v
  · intro k g; unfold lpC; simp only [zG_wL, cGr_uLo]; exact r5 k g
  · intro t k; unfold lpC; simp only [zT_wL, cTa_uLo]; exact r6 t k
  · intro l' k
    by_cases q : l' = l
    · subst q
      have lo : ∀ k : Fin 6, k ≠ 5 → cLo (lpC c l' d ct f t) l' ⟨k.val, by omega⟩ = cLo c l' ⟨k.val, by omega⟩ := fun k hk => by
        have lk := k.isLt
        have h5 : k.val ≠ 5 := fun w => hk (Fin.ext w)
        exact lpC_ne c l' d ct f t _ (fun w => h5 (congrArg Fin.val w)) (fun w => absurd (show k.val = 6 from congrArg Fin.val w) (by omega)) (fun w => absurd (show k.val = 7 from congrArg Fin.val w) (by omega)) (fun w => absurd (show k.val = 8 from congrArg Fin.val w) (by omega)) (fun w => absurd (show k.val = 10 from congrArg Fin.val w) (by omega))
      by_cases k5 : k = 5
      · subst k5
        show zL (wL (wL (wL (wL z l' 5 1) l' 6 d) l' 7 f) l' 9 t) l' 5 = cLo (lpC c l' d ct f t) l' 5
        unfold lpC
        simp only [zL_wL, cLo_uLo]
        rfl
      · rw [lo k k5, ← r7 l' k]
        have lk := k.isLt
        have h5 : k.val ≠ 5 := fun w => k5 (Fin.ext w)
        rw [zL_wL, if_neg (fun w => absurd (show k.val = 9 from congrArg Fin.val w.2) (by omega)), zL_wL, if_neg (fun w => absurd (show k.val = 7 from congrArg Fin.val w.2) (by omega)), zL_wL, if_neg (fun w => absurd (show k.val = 6 from congrArg Fin.val w.2) (by omega)), zL_wL, if_neg (fun w => absurd (show k.val = 5 from congrArg Fin.val w.2) (by omega))]
    · rw [zL_ne _ q, zL_ne _ q, zL_ne _ q, zL_ne _ q, lpC_l _ _ _ _ _ _ _ _ q]; exact r7 l' k
  · intro l' hl' k
    have ne : ¬ l' = l := fun z => by rw [z] at hl'; omega
    rw [zL_ne _ ne, zL_ne _ ne, zL_ne _ ne, zL_ne _ ne]; exact r8 l' hl' k
  · intro l' hl'
    by_cases q : l' = l
    · subst q
      obtain ⟨-, -, b, -⟩ := r9 l' hl
      rw [h0, if_neg (by decide)] at b
      unfold lpC
      simp only [zL_wL, cLo_uLo]
      exact ⟨rfl, rfl, b, rfl⟩
    · have e1 : ∀ k, zL (wL (wL (wL (wL z l 5 1) l 6 d) l 7 f) l 9 t) l' k = zL z l' k := fun k => by rw [zL_ne k q, zL_ne k q, zL_ne k q, zL_ne k q]
      have e2 : ∀ k, cLo (lpC c l d ct f t) l' k = cLo c l' k := fun k => lpC_l _ _ _ _ _ _ _ _ q
      simp only [e1, e2]
      exact r9 l' hl'
theorem inv_press {c : Nat → Int32} {ng nl nt : Nat} (I : InvC c ng nl nt) (l : Fin 40) (hl : l.val < nl) {d ct f : Int32} (hc : d * cLo c l 4 / 1000 = ct) (t : Fin 6) (ht : t.val < nt) : InvC (lpC c l d ct f (nI t.val)) ng nl nt := by
  have eS : ∀ i, cS (lpC c l d ct f (nI t.val)) i = cS c i := fun i => by unfold lpC; simp only [cS_uLo]
  have eV : ∀ i k, cVa (lpC c l d ct f (nI t.val)) i k = cVa c i k := fun i k => by unfold lpC; simp only [cVa_uLo]
  have eG : ∀ i k, cGr (lpC c l d ct f (nI t.val)) i k = cGr c i k := fun i k => by unfold lpC; simp only [cGr_uLo]
  have eT : ∀ i k, cTa (lpC c l d ct f (nI t.val)) i k = cTa c i k := fun i k => by unfold lpC; simp only [cTa_uLo]
  simp only [InvC, TankI, eS, eV, eG, eT] at I ⊢
  obtain ⟨a, b, c1, dd, e, ff, r1, r2, r3⟩ := I
  refine ⟨a, b, c1, dd, e, ff, fun l' hl' k => ?_, fun l' hl' => ?_, r3⟩
  · have ne : ¬ l' = l := fun z => by rw [z] at hl'; omega
    rw [lpC_l _ _ _ _ _ _ _ _ ne]; exact r1 l' hl' k
  · by_cases q : l' = l
    · subst q
      obtain ⟨q0, q1, q2, q3, q4, q5, q6⟩ := r2 l' hl'
      have e5 : cLo (lpC c l' d ct f (nI t.val)) l' 5 = 1 := by unfold lpC; simp only [cLo_uLo]; rfl
      have e6 : cLo (lpC c l' d ct f (nI t.val)) l' 6 = d := by unfold lpC; simp only [cLo_uLo]; rfl
      have e7 : cLo (lpC c l' d ct f (nI t.val)) l' 7 = ct := by unfold lpC; simp only [cLo_uLo]; rfl
      have e10 : cLo (lpC c l' d ct f (nI t.val)) l' 10 = nI t.val := by unfold lpC; simp only [cLo_uLo]; rfl
      have n := lpC_ne c l' d ct f (nI t.val)
      simp only [LotI]
      rw [e5, e6, e7, e10, n 0 (by decide) (by decide) (by decide) (by decide) (by decide), n 1 (by decide) (by decide) (by decide) (by decide) (by decide), n 2 (by decide) (by decide) (by decide) (by decide) (by decide), n 3 (by decide) (by decide) (by decide) (by decide) (by decide), n 4 (by decide) (by decide) (by decide) (by decide) (by decide)]
      exact ⟨q0, q1, q2, q3, q4, ⟨1, by decide, rfl⟩, fun _ => ⟨hc.symm, t, ht, rfl⟩⟩
    · have := r2 l' hl'
      have e2 : ∀ k, cLo (lpC c l d ct f (nI t.val)) l' k = cLo c l' k := fun k => lpC_l _ _ _ _ _ _ _ _ q
      simp only [LotI, e2] at this ⊢
      exact this
def prC (c : Nat → Int32) (l : Fin 40) (u v : Fin 5) (g : Fin 8) (t : Fin 6) (d ct f : Int32) (L C D Re : Nat) (gr : Int32) : Nat → Int32 :=
  uS (uS (pourC (pourC (enC (loC c v L) l u g d ct f (nI t.val)) t v (nI C) gr) t u (nI D) gr) 10 (nI u.val)) 11 (nI Re)
/-- the class's cells in the model's order -/
def prV (c : Nat → Int32) (l : Fin 40) (u v : Fin 5) (g : Fin 8) (t : Fin 6) (d ct f : Int32) (L C D Re : Nat) (gr : Int32) : Nat → Int32 :=
  lpC (uVa (uGr (uS (uS (pourC (pourC (loC c v L) t v (nI C) gr) t u (nI D) gr) 10 (nI u.val)) 11 (nI Re)) g 0 (cGr c g 0 + f)) u 1 (cVa (loC c v L) u 1 + f)) l d ct f (nI t.val)
theorem pr_acc {c z : Nat → Int32} (l : Fin 40) (u v : Fin 5) (g : Fin 8) (t : Fin 6) (d ct f : Int32) (L C D Re : Nat) (gr : Int32) (h : SimCZ (prV c l u v g t d ct f L C D Re gr) z) : SimCZ (prC c l u v g t d ct f L C D Re gr) z := by
  have eT : ∀ i k, cTa (pourC (pourC (enC (loC c v L) l u g d ct f (nI t.val)) t v (nI C) gr) t u (nI D) gr) i k = cTa (pourC (pourC (loC c v L) t v (nI C) gr) t u (nI D) gr) i k := fun i k =>
    cTa_pour_congr (fun i k => cTa_pour_congr (fun i k => by unfold enC lpC; simp only [cTa_uVa, cTa_uGr, cTa_uLo]) t v (nI C) gr i k) t u (nI D) gr i k
  refine h.acc (fun i k => ?_) (fun i k => ?_) (fun i k => ?_) (fun i k => ?_) (fun i => ?_)
  · unfold prC prV enC lpC
    simp only [cGr_uS, cGr_pour, cGr_uVa, cGr_uGr, cGr_uLo, cGr_lo]
  · unfold prC prV enC lpC
    simp only [cLo_uS, cLo_pour, cLo_uVa, cLo_uGr, cLo_uLo, cLo_lo]
  · unfold prC prV
    unfold lpC
    simp only [cTa_uS, cTa_uVa, cTa_uGr, cTa_uLo, eT]
  · unfold prC prV enC lpC
    simp only [cVa_uS, cVa_pour, cVa_uVa, cVa_uGr, cVa_uLo]
  · unfold prC prV enC lpC
    simp only [cS_uS, cS_pour, cS_uVa, cS_uGr, cS_uLo]
