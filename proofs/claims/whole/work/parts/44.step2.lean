-- what a step finds
theorem hst_twice (h : Hst) (o j : Nat) (x y : Int32) : hst (hst h o j x) o j y = hst h o j y := by
  unfold hst hso
  congr 1
  funext k
  by_cases q : k = o
  · simp only [q, if_true]
    funext i
    by_cases q2 : i = j
    · simp only [upd_at, q2, if_true]
    · simp only [upd_at, q2, if_false]
  · simp only [q, if_false]
def LotV (c : Nat → Int32) (l : Fin 40) (u : Fin 5) (due cont f k0 : Nat) : Prop :=
  cLo c l 1 = nI u.val ∧ cLo c l 2 * cVa c u 0 / 100 = nI due ∧ nI due * cLo c l 4 / 1000 = nI cont ∧ nI cont * cS c 1 / 1000 = nI f ∧ f ≤ 12000 ∧ cS c 0 = nI k0 ∧ k0 ≤ 50
theorem lotV {c : Nat → Int32} {ng nl nt : Nat} (I : InvC c ng nl nt) (l : Fin 40) (hl : l.val < nl) : ∃ u due cont f k0, LotV c l u due cont f k0 := by
  obtain ⟨-, ⟨u, eu⟩, ⟨kg, k1, k2⟩, -, ⟨tr, t1, t2⟩, -, -⟩ := I.2.2.2.2.2.2.2.1 l hl
  obtain ⟨y, y1, y2⟩ := I.2.2.2.2.1 u
  obtain ⟨⟨k0, a1, a2⟩, ⟨s1, b1, b2⟩, -⟩ := I.2.2.1
  have p1 : kg * y ≤ 2000 * 400 := Nat.mul_le_mul k1 y1
  have p2 : kg * y / 100 * tr ≤ 8000 * 1500 := Nat.mul_le_mul (by omega) t1
  have p3 : kg * y / 100 * tr / 1000 * s1 ≤ 12000 * 1000 := Nat.mul_le_mul (by omega) b1
  refine ⟨u, kg * y / 100, kg * y / 100 * tr / 1000, kg * y / 100 * tr / 1000 * s1 / 1000, k0, eu, ?_, ?_, ?_, by omega, a2, a1⟩
  · rw [k2, y2, pk_mul]
    exact pk_div (d := 100) (by omega) (by decide) (by decide)
  · rw [t2, pk_mul]
    exact pk_div (d := 1000) (by omega) (by decide) (by decide)
  · rw [b2, pk_mul]
    exact pk_div (d := 1000) (by omega) (by decide) (by decide)
def foR (u v : Fin 5) (r : Nat) : Nat := if v = u then 0 else r
def toR (f : Nat) (u v : Fin 5) (r : Nat) : Nat := f + (r - foR u v r)
def reR (k0 T : Nat) : Nat := if k0 ≤ T then k0 else T
def loR (way F : Nat) : Nat := if way = 2 then 0 else F
def caR (way F : Nat) : Nat := if way = 2 then F else 0
theorem foR_le (u v : Fin 5) (r : Nat) : foR u v r ≤ r := by
  unfold foR
  split <;> omega
theorem toR_le (f : Nat) (u v : Fin 5) (r : Nat) : toR f u v r ≤ f + r := by
  unfold toR
  omega
theorem reR_le (k0 T : Nat) : reR k0 T ≤ T ∧ reR k0 T ≤ k0 := by
  unfold reR
  split <;> omega
theorem caR_le (way F : Nat) : caR way F ≤ F := by
  unfold caR
  split <;> omega
theorem loR_le (way F : Nat) : loR way F ≤ F := by
  unfold loR
  split <;> omega
def wgC (h : Hst) (due cont f : Nat) : Hst := hst (hst (hst h 13 6 (nI due)) 13 7 (nI cont)) 13 8 (nI f)
theorem weigh_v {c : Nat → Int32} {l : Fin 40} {u : Fin 5} {due cont f k0 : Nat} (L : LotV c l u due cont f k0) (h : Hst) (e : h.1 8 = c) (e5 : h.1 13 5 = nI l.val) : f_X2_weigh h = some (wgC h due cont f) := by
  obtain ⟨eu, l1, l2, l3, -⟩ := L
  unfold f_X2_weigh
  rw [e5, get3_1, gb_some, e, eu, get5_0, gb_some, e5, get3_2, gb_some, gd_100, gl_eq, e, l1]
  have a : (hst h 13 6 (nI due)).1 13 5 = nI l.val := e5
  have a8 : (hst h 13 6 (nI due)).1 8 = c := e
  have a6 : (hst h 13 6 (nI due)).1 13 6 = nI due := rfl
  rw [a, get3_4, gb_some, a8, a6, gd_1000, gl_eq, l2]
  have b8 : (hst (hst h 13 6 (nI due)) 13 7 (nI cont)).1 8 = c := e
  have b7 : (hst (hst h 13 6 (nI due)) 13 7 (nI cont)).1 13 7 = nI cont := rfl
  rw [row6_1, gb_some, b8, b7, gd_1000, gl_eq, l3]
  rfl
def psC (h : Hst) (u v : Fin 5) (L C T Re : Nat) : Hst := hst (hst (hst (hst (hst (hst h 13 9 (nI L)) 13 10 (nI C)) 13 4 (nI v.val)) 13 2 (nI u.val)) 13 3 (nI Re)) 13 11 (nI (C + T - Re))
theorem ps_71 {c : Nat → Int32} {u v : Fin 5} {k0 T C : Nat} (ek : cS c 0 = nI k0) (hk : k0 ≤ 50) (hT : T ≤ 20000) (h : Hst) (e : h.1 8 = c) (e2 : h.1 13 2 = nI v.val) : jb_X2_passThroughMill_71 (nI u.val) (nI T) (nI C) h = some (hst (hst (hst (hst (hst h 13 10 (nI C)) 13 4 (nI v.val)) 13 2 (nI u.val)) 13 3 (nI (reR k0 T))) 13 11 (nI (C + T - reR k0 T))) := by
  unfold jb_X2_passThroughMill_71
  have a2 : (hst h 13 10 (nI C)).1 13 2 = nI v.val := e2
  rw [gl_eq, a2, gl_eq, gl_eq, row6_0, gb_some]
  have a8 : (hst (hst (hst h 13 10 (nI C)) 13 4 (nI v.val)) 13 2 (nI u.val)).1 8 = c := e
  rw [a8, ek, gl_eq]
  have m : (if nI k0 < nI T then nI k0 else nI T) = nI (reR k0 T) := by
    unfold reR
    by_cases q : k0 < T
    · rw [if_pos (nI_lt q (by omega)), if_pos (by omega)]
    · rw [if_neg (nI_nlt (by omega) (by omega))]
      by_cases q2 : k0 ≤ T
      · rw [if_pos q2, show k0 = T by omega]
      · rw [if_neg q2]
  rw [m]
  have b10 : (hst (hst (hst (hst h 13 10 (nI C)) 13 4 (nI v.val)) 13 2 (nI u.val)) 13 3 (nI (reR k0 T))).1 13 10 = nI C := rfl
  have b3 : (hst (hst (hst (hst h 13 10 (nI C)) 13 4 (nI v.val)) 13 2 (nI u.val)) 13 3 (nI (reR k0 T))).1 13 3 = nI (reR k0 T) := rfl
  rw [b10, b3, nI_add, pk_sub (by have := (reR_le k0 T).1; omega), gl_eq]
theorem ps_57 {c : Nat → Int32} {u v : Fin 5} {k0 T F L way : Nat} (hw : way ≤ 2) (ek : cS c 0 = nI k0) (hk : k0 ≤ 50) (hT : T ≤ 20000) (h : Hst) (e : h.1 8 = c) (e2 : h.1 13 2 = nI v.val) : jb_X2_passThroughMill_57 (nI way) (nI u.val) (nI F) (nI T) (nI L) h = some (psC h u v L (caR way F) T (reR k0 T)) := by
  unfold jb_X2_passThroughMill_57 caR
  rw [gl_eq]
  by_cases w : way = 2
  · rw [if_pos (by rw [w]; rfl), if_pos w]
    exact ps_71 ek hk hT _ e e2
  · rw [if_neg (nI_nq 2 2 rfl (by decide) (by omega) w), if_neg w]
    exact ps_71 (C := 0) ek hk hT _ e e2
theorem ps_32 {c : Nat → Int32} {u v : Fin 5} {k0 f r F way : Nat} (hw : way ≤ 2) (hF : F ≤ r) (ek : cS c 0 = nI k0) (hk : k0 ≤ 50) (hf : f ≤ 12000) (hr : r ≤ 50) (h : Hst) (e : h.1 8 = c) (e2 : h.1 13 2 = nI v.val) (e3 : h.1 13 3 = nI r) (e8 : h.1 13 8 = nI f) : jb_X2_passThroughMill_32 (nI way) (nI u.val) (nI F) h = some (psC h u v (loR way F) (caR way F) (f + (r - F)) (reR k0 (f + (r - F)))) := by
  unfold jb_X2_passThroughMill_32 loR
  rw [e8, e3, nI_add, pk_sub (by omega), show f + r - F = f + (r - F) by omega, gl_eq]
  by_cases w : way = 2
  · rw [if_pos (by rw [w]; rfl), if_pos w]
    exact ps_57 (L := 0) hw ek hk (by omega) h e e2
  · rw [if_neg (nI_nq 2 2 rfl (by decide) (by omega) w), if_neg w]
    exact ps_57 hw ek hk (by omega) h e e2
theorem passThrough_v {c : Nat → Int32} {l : Fin 40} {u v : Fin 5} {due cont f k0 r way : Nat} (L : LotV c l u due cont f k0) (hw : way ≤ 2) (hr : r ≤ 50) (h : Hst) (e : h.1 8 = c) (e5 : h.1 13 5 = nI l.val) (e2 : h.1 13 2 = nI v.val) (e3 : h.1 13 3 = nI r) (e8 : h.1 13 8 = nI f) :
    f_X2_passThroughMill (nI way) h = some (psC h u v (loR way (foR u v r)) (caR way (foR u v r)) (toR f u v r) (reR k0 (toR f u v r))) := by
  obtain ⟨eu, -, -, -, hf, ek, hk⟩ := L
  unfold f_X2_passThroughMill
  rw [e5, get3_1, gb_some, e, eu, e2]
  unfold toR
  have fl := foR_le u v r
  by_cases q : v = u
  · have q0 : foR u v r = 0 := if_pos q
    rw [if_pos (by rw [q]), q0]
    exact ps_32 (F := 0) hw (by omega) ek hk hf hr h e e2 e3 e8
  · have q0 : foR u v r = r := if_neg q
    rw [if_neg (fun x => q (Fin.ext (nI_inj (by omega) (by omega) x))), e3, q0]
    exact ps_32 hw (Nat.le_refl _) ek hk hf hr h e e2 e3 e8
def stC (h : Hst) (l : Fin 40) (u v : Fin 5) (due cont f L C T Re : Nat) : Hst := psC (wgC (hst (hst h 13 5 (nI l.val)) 14 l.val 0) due cont f) u v L C T Re
theorem step_none {c : Nat → Int32} {nl : Nat} {W : Nat → Bool} {v : Fin 5} {r way : Nat} (hr : r ≤ 50) (hw : way ≤ 2) (h : Hst) (e : h.1 8 = c) (w : Wc h nl W) (e2 : h.1 13 2 = nI v.val) (e3 : h.1 13 3 = nI r) (p : pick c nl W v r way = none) : f_X2_step (nI way) h = some (0, hst h 13 5 (-1)) := by
  unfold f_X2_step
  rw [turn_v hr hw h e w e2 e3, p, gb_some, gl_eq]
  show (if (-1 : Int32) < 0 then _ else _) = _
  rw [if_pos (by decide)]
  rfl
theorem step_some {c : Nat → Int32} {nl : Nat} {W : Nat → Bool} {l : Fin 40} {u v : Fin 5} {due cont f k0 r way : Nat} (L : LotV c l u due cont f k0) (hr : r ≤ 50) (hw : way ≤ 2) (h : Hst) (e : h.1 8 = c) (w : Wc h nl W) (e2 : h.1 13 2 = nI v.val) (e3 : h.1 13 3 = nI r) (p : pick c nl W v r way = some l.val) :
    f_X2_step (nI way) h = some (1, stC h l u v due cont f (loR way (foR u v r)) (caR way (foR u v r)) (toR f u v r) (reR k0 (toR f u v r))) := by
  unfold f_X2_step
  have hl := l.isLt
  rw [turn_v hr hw h e w e2 e3, p, gb_some, gl_eq]
  show (if nI l.val < 0 then _ else if nI l.val < 40 then gck (nI l.val) 40 (gl (hst (hst h 13 5 (nI l.val)) 14 (nI l.val).toNatClampNeg 0) _) else _) = _
  rw [if_neg (nI_pos (by omega)), if_pos (show nI l.val < 40 from nI_lt (b := 40) hl (by decide)), gck_nI hl (by decide), nI_clamp (by omega), gl_eq, weigh_v L _ (by exact e) (by rfl), gbv_some, passThrough_v L hw hr _ (by exact e) (by rfl) (by exact e2) (by exact e3) (by rfl), gbv_some, gzr_1]
  rfl
-- the same of the model
def lnM (h : Hst) (l : Fin 40) (due f L C T Re : Nat) : Hst := hst (hst (hst (hst (hst (hst (hst h 17 9 (nI l.val)) 17 10 (nI due)) 17 11 (nI f)) 17 12 (nI L)) 17 13 (nI C)) 17 15 (nI Re)) 17 14 (nI (T - Re))
theorem ln_210 {z : Nat → Int32} {f a k0 : Nat} (hf : f ≤ 12000) (ha : a ≤ 50) (z0 : z 0 = nI k0) (hk : k0 ≤ 50) (h : Hst) (e : h.1 18 = z) : jb_X7_layNext_210 (nI a) (nI f) h = some (1, hst (hst h 17 15 (nI (reR k0 (f + a)))) 17 14 (nI (f + a - reR k0 (f + a)))) := by
  have p : ∀ Re, Re ≤ f + a → jb_X7_layNext_236 (nI (f + a)) (nI Re) h = some (1, hst (hst h 17 15 (nI Re)) 17 14 (nI (f + a - Re))) := fun Re hR => by
    unfold jb_X7_layNext_236
    have : (hst h 17 15 (nI Re)).1 17 15 = nI Re := rfl
    rw [gl_eq, this, pk_sub hR, gl_eq, gzr_1]
  have b := (reR_le k0 (f + a)).1
  unfold jb_X7_layNext_210
  rw [nI_add, gl_eq, gk_0_514, gk_0_514, tn_0, e, z0]
  by_cases q : k0 ≤ f + a
  · have : reR k0 (f + a) = k0 := if_pos q
    rw [if_pos (nI_le q (by omega)), this]
    exact p k0 q
  · have : reR k0 (f + a) = f + a := if_neg q
    rw [if_neg (nI_ge (by omega) (by omega)), this]
    exact p _ (Nat.le_refl _)
theorem ln_187 {z : Nat → Int32} {f k0 r C : Nat} {u v : Fin 5} (hf : f ≤ 12000) (hr : r ≤ 50) (z0 : z 0 = nI k0) (hk : k0 ≤ 50) (h : Hst) (e : h.1 18 = z) (e7 : h.1 17 7 = if r = 0 then -1 else nI v.val) (e8 : h.1 17 8 = nI r) (e11 : h.1 17 11 = nI f) :
    jb_X7_layNext_187 (nI u.val) (nI C) h = some (1, hst (hst (hst h 17 13 (nI C)) 17 15 (nI (reR k0 (toR f u v r)))) 17 14 (nI (toR f u v r - reR k0 (toR f u v r)))) := by
  unfold jb_X7_layNext_187
  have a7 : (hst h 17 13 (nI C)).1 17 7 = if r = 0 then -1 else nI v.val := e7
  have a8 : (hst h 17 13 (nI C)).1 17 8 = nI r := e8
  have a11 : (hst h 17 13 (nI C)).1 17 11 = nI f := e11
  rw [gl_eq, a7, a8, a11]
  have fin : ∀ a, a ≤ 50 → toR f u v r = f + a → jb_X7_layNext_210 (nI a) (nI f) (hst h 17 13 (nI C)) = some (1, hst (hst (hst h 17 13 (nI C)) 17 15 (nI (reR k0 (toR f u v r)))) 17 14 (nI (toR f u v r - reR k0 (toR f u v r)))) := fun a h1 h2 => by
    rw [h2]
    exact ln_210 hf h1 z0 hk _ e
  by_cases r0 : r = 0
  · rw [if_pos r0, if_neg (fun x => nI_neM1 (by omega) x.symm)]
    exact fin 0 (by omega) (by unfold toR; omega)
  · rw [if_neg r0]
    by_cases q : v = u
    · rw [if_pos (by rw [q])]
      exact fin r hr (by unfold toR foR; rw [if_pos q]; omega)
    · rw [if_neg (fun x => q (Fin.ext (nI_inj (by omega) (by omega) x)))]
      exact fin 0 (by omega) (by unfold toR foR; rw [if_neg q]; omega)
theorem ln_147 {z : Nat → Int32} {f k0 r way : Nat} {u v : Fin 5} (hw : way ≤ 2) (hf : f ≤ 12000) (hr : r ≤ 50) (z0 : z 0 = nI k0) (hk : k0 ≤ 50) (h : Hst) (e : h.1 18 = z) (e7 : h.1 17 7 = if r = 0 then -1 else nI v.val) (e8 : h.1 17 8 = nI r) (e11 : h.1 17 11 = nI f) (s : Int32) (hs : s = if r = 0 ∨ v = u then 0 else 1) :
    jb_X7_layNext_147 (nI way) (nI u.val) s h = some (1, hst (hst (hst (hst h 17 12 (nI (loR way (foR u v r)))) 17 13 (nI (caR way (foR u v r)))) 17 15 (nI (reR k0 (toR f u v r)))) 17 14 (nI (toR f u v r - reR k0 (toR f u v r)))) := by
  have fin : ∀ L C, jb_X7_layNext_187 (nI u.val) (nI C) (hst h 17 12 (nI L)) = some (1, hst (hst (hst (hst h 17 12 (nI L)) 17 13 (nI C)) 17 15 (nI (reR k0 (toR f u v r)))) 17 14 (nI (toR f u v r - reR k0 (toR f u v r)))) := fun L C => ln_187 hf hr z0 hk (hst h 17 12 (nI L)) e e7 e8 e11
  unfold jb_X7_layNext_147 jb_X7_layNext_165 jb_X7_layNext_166 jb_X7_layNext_186
  by_cases q : r = 0 ∨ v = u
  · have f0 : foR u v r = 0 := by
      unfold foR
      split <;> omega
    rw [if_pos q] at hs
    rw [hs, if_pos rfl, gl_eq, if_pos rfl, f0, show loR way 0 = 0 by unfold loR; split <;> rfl, show caR way 0 = 0 by unfold caR; split <;> rfl]
    exact fin 0 0
  · have f0 : foR u v r = r := if_neg (fun x => q (.inr x))
    rw [if_neg q] at hs
    rw [hs, if_neg (by decide), f0, e8]
    by_cases w : way = 2
    · have a8 : (hst h 17 12 0).1 17 8 = nI r := e8
      rw [if_pos (by rw [w]; decide), gl_eq, if_neg (by decide), if_pos (by rw [w]; rfl), a8, show loR way r = 0 from if_pos w, show caR way r = r from if_pos w]
      exact fin 0 r
    · rw [if_neg (show ¬ (2 : Int32) ≤ nI way from nI_ge (b := 2) (by omega) (by decide)), gl_eq, if_neg (by decide), if_neg (nI_nq 2 2 rfl (by decide) (by omega) w), show loR way r = r from if_neg w, show caR way r = 0 from if_neg w]
      exact fin r 0
theorem ln_50 {c z : Nat → Int32} {ng nl nt : Nat} (I : InvC c ng nl nt) (R : RelCZ c z nl) {l : Fin 40} {u v : Fin 5} {due cont f k0 r way : Nat} (L : LotV c l u due cont f k0) (hr : r ≤ 50) (hw : way ≤ 2) (h : Hst) (e : h.1 18 = z) (e7 : h.1 17 7 = if r = 0 then -1 else nI v.val) (e8 : h.1 17 8 = nI r) :
    jb_X7_layNext_50 (nI way) (nI l.val) h = some (1, lnM h l due f (loR way (foR u v r)) (caR way (foR u v r)) (toR f u v r) (reR k0 (toR f u v r))) := by
  obtain ⟨eu, l1, l2, l3, hf, ek, hk⟩ := L
  have hl := l.isLt
  have zl : ∀ k : Fin 6, zL z l ⟨k.val, by omega⟩ = cLo c l ⟨k.val, by omega⟩ := fun k => R.2.2.2.2.2.2.1 l k
  have z1 : zL z l 1 = nI u.val := (zl 1).trans eu
  have z2 : zL z l 2 = cLo c l 2 := zl 2
  have z4 : zL z l 4 = cLo c l 4 := zl 4
  have z0 : z 0 = nI k0 := (R.1 0 (by decide)).trans ek
  have zs1 : z 1 = cS c 1 := R.1 1 (by decide)
  have zv : z (15 + u.val) = cVa c u 0 := R.2.2.2.1 0 u
  unfold jb_X7_layNext_50 f_X7_contentBy
  have a9 : (hst h 17 9 (nI l.val)).1 17 9 = nI l.val := rfl
  have a18 : (hst h 17 9 (nI l.val)).1 18 = z := e
  rw [gl_eq, a9, if_neg (nI_neM1 (by omega)), ofLot_1, gb_some, a9, ofLot_2, gb_some, a18, z1, z2, show (15 : Int32) + nI u.val = nI (15 + u.val) from nI_add 15 u.val, gck_nI (by omega) (by decide), nI_clamp (by omega), zv, l1, gd_100, gl_eq]
  have b9 : (hst (hst h 17 9 (nI l.val)) 17 10 (nI due)).1 17 9 = nI l.val := rfl
  have b10 : (hst (hst h 17 9 (nI l.val)) 17 10 (nI due)).1 17 10 = nI due := rfl
  have b18 : (hst (hst h 17 9 (nI l.val)) 17 10 (nI due)).1 18 = z := e
  rw [b9, b10, ofLot_4, gb_some, b18, z4, l2, gd_1000, gb_some, gk_1_514, tn_1, b18, zs1, l3, gd_1000, gl_eq]
  have d7 : (hst (hst (hst h 17 9 (nI l.val)) 17 10 (nI due)) 17 11 (nI f)).1 17 7 = if r = 0 then -1 else nI v.val := e7
  have fin := fun s hs => ln_147 (u := u) (v := v) (way := way) hw hf hr z0 hk (hst (hst (hst h 17 9 (nI l.val)) 17 10 (nI due)) 17 11 (nI f)) e d7 e8 rfl s hs
  unfold jb_X7_layNext_146
  rw [d7]
  by_cases r0 : r = 0
  · rw [if_pos r0, if_pos rfl]
    exact fin 0 (by rw [if_pos (.inl r0)])
  · rw [if_neg r0, if_neg (nI_neM1 (by omega))]
    by_cases q : v = u
    · rw [if_pos (by rw [q])]
      exact fin 0 (by rw [if_pos (.inr q)])
    · rw [if_neg (fun x => q (Fin.ext (nI_inj (by omega) (by omega) x)))]
      exact fin 1 (by rw [if_neg (fun x => x.elim r0 q)])
theorem lnM_9 (h : Hst) (x : Int32) (l : Fin 40) (due f L C T Re : Nat) : lnM (hst h 17 9 x) l due f L C T Re = lnM h l due f L C T Re := by
  unfold lnM
  rw [hst_twice]
theorem ln_M {c z : Nat → Int32} {ng nl nt : Nat} (I : InvC c ng nl nt) (R : RelCZ c z nl) {W : Nat → Bool} {v : Fin 5} {r way : Nat} (hr : r ≤ 50) (hw : way ≤ 2) (h : Hst) (e : h.1 18 = z) (w : Wm h nl W) (e7 : h.1 17 7 = if r = 0 then -1 else nI v.val) : ∃ h0, (h0 = h ∨ ∃ x, h0 = hst h 17 9 x) ∧ f_X7_layNext (nI way) h = jb_X7_layNext_50 (nI way) (encW (pick c nl W v r way)) h0 := by
  have al : ∀ x, f_X7_firstWaiting (-1) (hst h 17 9 x) = some (encW (fstW (qW nl W) 40 0), hst h 17 9 x) := fun x => fw_all I R _ e w
  have s25 : jb_X7_layNext_25 (nI way) h = jb_X7_layNext_50 (nI way) (encW (fstW (qW nl W) 40 0)) (hst h 17 9 (-1)) := by
    unfold jb_X7_layNext_25 jb_X7_layNext_26
    have a9 : (hst h 17 9 (-1)).1 17 9 = -1 := rfl
    rw [gl_eq, a9, if_pos rfl, al, gb_some]
  unfold f_X7_layNext
  by_cases w1 : way = 1
  · rw [if_pos (by rw [w1]; rfl), e7]
    by_cases r0 : r = 0
    · rw [if_pos r0, if_pos rfl]
      refine ⟨hst h 17 9 (-1), .inr ⟨_, rfl⟩, ?_⟩
      unfold pick
      rw [if_neg (fun x => by omega)]
      exact s25
    · rw [if_neg r0, if_neg (nI_neM1 (by omega)), fw_var I R v h e w, gb_some]
      unfold jb_X7_layNext_26 pick
      rw [if_pos ⟨w1, by omega⟩]
      cases q : fstW (qV c v nl W) 40 0 with
      | none =>
        refine ⟨hst h 17 9 (-1), .inr ⟨_, rfl⟩, ?_⟩
        have a9 : (hst h 17 9 (encW none)).1 17 9 = -1 := rfl
        rw [gl_eq, a9, if_pos rfl]
        show gb (f_X7_firstWaiting (-1) (hst h 17 9 (-1))) _ = _
        rw [al, gb_some]
      | some k =>
        have hk := fstW_some _ _ q
        refine ⟨hst h 17 9 (nI k), .inr ⟨_, rfl⟩, ?_⟩
        have a9 : (hst h 17 9 (encW (some k))).1 17 9 = nI k := rfl
        rw [gl_eq, a9, if_neg (nI_neM1 (by omega))]
        rfl
  · rw [if_neg (nI_nq 1 1 rfl (by decide) (by omega) w1)]
    refine ⟨hst h 17 9 (-1), .inr ⟨_, rfl⟩, ?_⟩
    unfold pick
    rw [if_neg (fun x => w1 x.1)]
    exact s25
theorem ln_none {c z : Nat → Int32} {ng nl nt : Nat} (I : InvC c ng nl nt) (R : RelCZ c z nl) {W : Nat → Bool} {v : Fin 5} {r way : Nat} (hr : r ≤ 50) (hw : way ≤ 2) (h : Hst) (e : h.1 18 = z) (w : Wm h nl W) (e7 : h.1 17 7 = if r = 0 then -1 else nI v.val) (p : pick c nl W v r way = none) : f_X7_layNext (nI way) h = some (0, hst h 17 9 (-1)) := by
  obtain ⟨h0, k, e0⟩ := ln_M I R hr hw h e w e7
  rw [e0, p]
  unfold jb_X7_layNext_50
  have a9 : (hst h0 17 9 (encW none)).1 17 9 = -1 := rfl
  rw [gl_eq, a9, if_pos rfl, gzr_0]
  rcases k with k | ⟨x, k⟩
  · rw [k]
    rfl
  · rw [k, hst_twice]
    rfl
theorem ln_some {c z : Nat → Int32} {ng nl nt : Nat} (I : InvC c ng nl nt) (R : RelCZ c z nl) {W : Nat → Bool} {l : Fin 40} {u v : Fin 5} {due cont f k0 r way : Nat} (L : LotV c l u due cont f k0) (hr : r ≤ 50) (hw : way ≤ 2) (h : Hst) (e : h.1 18 = z) (w : Wm h nl W) (e7 : h.1 17 7 = if r = 0 then -1 else nI v.val) (e8 : h.1 17 8 = nI r) (p : pick c nl W v r way = some l.val) :
    f_X7_layNext (nI way) h = some (1, lnM h l due f (loR way (foR u v r)) (caR way (foR u v r)) (toR f u v r) (reR k0 (toR f u v r))) := by
  obtain ⟨h0, k, e0⟩ := ln_M I R hr hw h e w e7
  rw [e0, p]
  rcases k with k | ⟨x, k⟩
  · rw [k]
    exact ln_50 I R L hr hw h e e7 e8
  · rw [k]
    exact (ln_50 I R L hr hw (hst h 17 9 x) e e7 e8).trans (by rw [lnM_9])
