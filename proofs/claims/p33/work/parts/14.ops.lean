-- the class's calls that enter something
def Out (h h' : Hst) : Prop := ∀ k, 17 ≤ k → h'.1 k = h.1 k
theorem Out.rf {h : Hst} : Out h h := fun _ _ => rfl
theorem Out.trans {a b c : Hst} (p : Out a b) (q : Out b c) : Out a c := fun k hk => (q k hk).trans (p k hk)
theorem InvC.acc {c c' : Nat → Int32} {ng nl nt : Nat} (e1 : ∀ i k, cGr c' i k = cGr c i k) (e2 : ∀ i k, cLo c' i k = cLo c i k) (e3 : ∀ i k, cTa c' i k = cTa c i k) (e4 : ∀ i k, cVa c' i k = cVa c i k) (e5 : ∀ i, cS c' i = cS c i) (h : InvC c ng nl nt) : InvC c' ng nl nt := by
  simpa only [InvC, LotI, TankI, e1, e2, e3, e4, e5] using h
theorem cls_end {h hc : Hst} (X : Nat → Int32) (ef : ∀ k, k ≠ 1 → k ≠ 9 → hc.1 k = h.1 k) (S : SVx hc) : (hso hc 8 X).1 8 = X ∧ SVx (hso hc 8 X) ∧ Out h (hso hc 8 X) :=
  ⟨rfl, S.same rfl, fun k hk => by rw [hso_at, if_neg (by omega), ef k (by omega) (by omega)]⟩
theorem inv_addGrower {c : Nat → Int32} {ng nl nt : Nat} (I : InvC c ng nl nt) (hg : ng < 8) : InvC (uS c 7 (nI (ng + 1))) (ng + 1) nl nt := by
  simp only [InvC, LotI, TankI, cVa_uS, cLo_uS, cGr_uS, cTa_uS] at I ⊢
  obtain ⟨⟨a1, a2, a3⟩, ⟨b1, b2, b3⟩, c1, d, e, f, r1, r2, r3⟩ := I
  simp only [cS_uS]
  refine ⟨⟨by omega, a2, a3⟩, ⟨rfl, b2, b3⟩, c1, d, e, fun g hg' => f g (by omega), r1, fun l hl => ?_, r3⟩
  obtain ⟨⟨g, g1, g2⟩, q⟩ := r2 l hl
  exact ⟨⟨g, by omega, g2⟩, q⟩
theorem cls_addGrower {h : Hst} {ng nl nt : Nat} (S : SVx h) (I : InvC (h.1 8) ng nl nt) (hg : ng < 8) : ∃ h', f_X6_addGrower h = some (nI ng, h') ∧ h'.1 8 = uS (h.1 8) 7 (nI (ng + 1)) ∧ SVx h' ∧ Out h h' := by
  obtain ⟨-, ⟨i7, i8, i9⟩, -⟩ := id I
  obtain ⟨hc, e, ef, Sc⟩ := sav S
  have e8 := ef 8 (by decide) (by decide)
  refine ⟨_, ?_, cls_end (uS (h.1 8) 7 (nI (ng + 1))) ef Sc⟩
  unfold f_X6_addGrower
  rw [row7_0, gb_some, i7, if_pos (show nI ng < 8 from nI_lt (b := 8) hg (by decide)), e, gbv_some, rowa7_0, gbv_some, e8, i7, nI_1]
def addC (c : Nat → Int32) (l : Fin 40) (p0 p1 p2 p3 p4 x : Int32) : Nat → Int32 := uS (uLo (uLo (uLo (uLo (uLo c l 0 p0) l 1 p1) l 2 p2) l 3 p3) l 4 p4) 8 x
theorem enterLot {h : Hst} (l : Fin 40) (e : cS (h.1 8) 8 = nI l.val) (p0 p1 p2 p3 p4 : Int32) : f_X6_enterLot p0 p1 p2 p3 p4 h = some (nI l.val, hso h 8 (addC (h.1 8) l p0 p1 p2 p3 p4 (nI (l.val + 1)))) := by
  unfold f_X6_enterLot
  simp only [row7_1, gb_some, e, put3_0, put3_1, put3_2, put3_3, put3_4, gbv_some, hso_hso, rowa7_1, hso_at, if_true, cS_uLo, nI_1]
  rfl
theorem inv_addLot {c : Nat → Int32} {ng nl nt : Nat} (I : InvC c ng nl nt) (l : Fin 40) (hl : l.val = nl) (g : Fin 8) (hg : g.val < ng) (v : Fin 5) {p0 p1 p2 p3 p4 x : Int32} (e0 : p0 = nI g.val) (e1 : p1 = nI v.val) (e2 : isN p2 2000) (e3 : isN p3 50) (e4 : isN p4 1500) (ex : x = nI (nl + 1)) :
    InvC (addC c l p0 p1 p2 p3 p4 x) ng (nl + 1) nt ∧ (∀ i, cS (addC c l p0 p1 p2 p3 p4 x) i = if i = 8 then x else cS c i) ∧ (∀ i k, cVa (addC c l p0 p1 p2 p3 p4 x) i k = cVa c i k) ∧ (∀ i k, cGr (addC c l p0 p1 p2 p3 p4 x) i k = cGr c i k) ∧ (∀ i k, cTa (addC c l p0 p1 p2 p3 p4 x) i k = cTa c i k) ∧
    (∀ i k, i ≠ l → cLo (addC c l p0 p1 p2 p3 p4 x) i k = cLo c i k) ∧ cLo (addC c l p0 p1 p2 p3 p4 x) l 0 = p0 ∧ cLo (addC c l p0 p1 p2 p3 p4 x) l 1 = p1 ∧ cLo (addC c l p0 p1 p2 p3 p4 x) l 2 = p2 ∧ cLo (addC c l p0 p1 p2 p3 p4 x) l 3 = p3 ∧ cLo (addC c l p0 p1 p2 p3 p4 x) l 4 = p4 ∧ cLo (addC c l p0 p1 p2 p3 p4 x) l 5 = 0 := by
  obtain ⟨⟨a1, a2, a3⟩, ⟨b1, b2, b3⟩, c1, d, e, f, r1, r2, r3, r4⟩ := I
  have z5 := r1 l (by omega)
  have ll := l.isLt
  have hS : ∀ i, cS (addC c l p0 p1 p2 p3 p4 x) i = if i = 8 then x else cS c i := fun i => by simp only [addC, cS_uS, cS_uLo]
  have hV : ∀ i k, cVa (addC c l p0 p1 p2 p3 p4 x) i k = cVa c i k := fun i k => by simp only [addC, cVa_uS, cVa_uLo]
  have hG : ∀ i k, cGr (addC c l p0 p1 p2 p3 p4 x) i k = cGr c i k := fun i k => by simp only [addC, cGr_uS, cGr_uLo]
  have hT : ∀ i k, cTa (addC c l p0 p1 p2 p3 p4 x) i k = cTa c i k := fun i k => by simp only [addC, cTa_uS, cTa_uLo]
  have hL : ∀ i k, i ≠ l → cLo (addC c l p0 p1 p2 p3 p4 x) i k = cLo c i k := fun i k hi => by simp only [addC, cLo_uS, cLo_uLo, hi, false_and, if_false]
  have h0 : cLo (addC c l p0 p1 p2 p3 p4 x) l 0 = p0 := by simp [addC, cLo_uS, cLo_uLo]
  have h1 : cLo (addC c l p0 p1 p2 p3 p4 x) l 1 = p1 := by simp [addC, cLo_uS, cLo_uLo]
  have h2 : cLo (addC c l p0 p1 p2 p3 p4 x) l 2 = p2 := by simp [addC, cLo_uS, cLo_uLo]
  have h3 : cLo (addC c l p0 p1 p2 p3 p4 x) l 3 = p3 := by simp [addC, cLo_uS, cLo_uLo]
  have h4 : cLo (addC c l p0 p1 p2 p3 p4 x) l 4 = p4 := by simp [addC, cLo_uS, cLo_uLo]
  have h5 : cLo (addC c l p0 p1 p2 p3 p4 x) l 5 = 0 := by simp [addC, cLo_uS, cLo_uLo, z5]
  refine ⟨⟨⟨a1, by omega, a3⟩, ⟨by rw [hS, if_neg (by decide)]; exact b1, by rw [hS, if_pos rfl]; exact ex, by rw [hS, if_neg (by decide)]; exact b3⟩, ?_, ?_, fun v => by rw [hV]; exact e v, fun g hg k => by rw [hG]; exact f g hg k, fun l' hl' k => ?_, fun l' hl' => ?_, fun t ht k => by rw [hT]; exact r3 t ht k, fun t => ?_⟩, hS, hV, hG, hT, hL, h0, h1, h2, h3, h4, h5⟩
  · simp only [hS]; exact c1
  · simp only [hS]; exact d
  · rw [hL l' k (fun q => by rw [q] at hl'; omega)]; exact r1 l' (by omega) k
  · by_cases q : l' = l
    · subst q
      simp only [LotI, h0, h1, h2, h3, h4, h5]
      exact ⟨⟨g, hg, e0⟩, ⟨v, e1⟩, e2, e3, e4, ⟨0, by omega, rfl⟩, fun q => absurd rfl q⟩
    · have := r2 l' (by have : l'.val ≠ l.val := fun w => q (Fin.ext w)
                        omega)
      simp only [LotI, hL l' _ q]; exact this
  · have := r4 t
    simp only [TankI, hT]; exact this
theorem cls_addLot {h : Hst} {ng nl nt : Nat} (S : SVx h) (I : InvC (h.1 8) ng nl nt) (hl : nl < 40) {g v k a t : Nat} (hg : g < ng) (hv : v < 5) (k1 : 1 ≤ k) (k2 : k ≤ 2000) (ha : a ≤ 50) (t1 : 500 ≤ t) (t2 : t ≤ 1500) :
    ∃ h', f_X6_addLot (nI g) (nI v) (nI k) (nI a) (nI t) h = some (nI nl, h') ∧ h'.1 8 = addC (h.1 8) ⟨nl, hl⟩ (nI g) (nI v) (nI k) (nI a) (nI t) (nI (nl + 1)) ∧ SVx h' ∧ Out h h' := by
  obtain ⟨⟨hg8, -, -⟩, ⟨i7, i8, i9⟩, -⟩ := id I
  obtain ⟨hc, e, ef, Sc⟩ := sav S
  have e8 := ef 8 (by decide) (by decide)
  have o2 : f_X6_isOutside (nI k) 1 2000 h = some (0, h) := isOut_gd (lo := 1) (hi := 2000) k1 k2 (by decide) h
  have o3 : f_X6_isOutside (nI a) 0 50 h = some (0, h) := isOut_gd (lo := 0) (hi := 50) (Nat.zero_le _) ha (by decide) h
  have o4 : f_X6_isOutside (nI t) 500 1500 h = some (0, h) := isOut_gd (lo := 500) (hi := 1500) t1 t2 (by decide) h
  refine ⟨_, ?_, cls_end (addC (h.1 8) ⟨nl, hl⟩ (nI g) (nI v) (nI k) (nI a) (nI t) (nI (nl + 1))) ef Sc⟩
  unfold f_X6_addLot
  rw [checkGrower_gd hg8 i7 hg, gbv_some, isVariety_gd hv, gb_some, if_neg (by decide), o2, gb_some, if_pos rfl, o3, gb_some, if_pos rfl, o4, gb_some, if_pos rfl, row7_1, gb_some, i8, if_pos (show nI nl < 40 from nI_lt (b := 40) hl (by decide)), e, gbv_some, enterLot ⟨nl, hl⟩ (by rw [e8]; exact i8), gb_some, e8]
theorem inv_addTank {c : Nat → Int32} {ng nl nt : Nat} (I : InvC c ng nl nt) (t : Fin 6) (ht : t.val = nt) {p x : Int32} (hp : isN p 20000) (hx : x = nI (nt + 1)) : InvC (uS (uTa c t 0 p) 9 x) ng nl (nt + 1) := by
  subst hx
  have tl := t.isLt
  obtain ⟨⟨a1, a2, a3⟩, ⟨b1, b2, b3⟩, c1, d, e, f, r1, r2, r3, r4⟩ := I
  have z5 := r3 t (by omega)
  simp only [InvC, LotI, TankI, cVa_uS, cLo_uS, cGr_uS, cTa_uS, cVa_uTa, cLo_uTa, cGr_uTa, cS_uS, cS_uTa]
  refine ⟨⟨a1, a2, by omega⟩, ⟨b1, b2, rfl⟩, c1, d, e, f, r1, fun l hl => ?_, fun t' ht' k => ?_, fun t' => ?_⟩
  · obtain ⟨q0, q1, q2, q3, q4, q5, q6⟩ := r2 l hl
    refine ⟨q0, q1, q2, q3, q4, q5, fun w => ?_⟩
    obtain ⟨w1, t2, w2, w3⟩ := q6 w
    exact ⟨w1, t2, by omega, w3⟩
  · rw [cTa_uTa, if_neg (fun w => by have := congrArg Fin.val w.1; omega)]; exact r3 t' (by omega) k
  · by_cases q : t' = t
    · subst q
      obtain ⟨s, hs, es⟩ := hp
      simp only [cTa_uTa]
      exact ⟨s, 0, 0, 0, 0, 0, hs, by omega, es, z5 2, z5 3, z5 4, z5 5, z5 6⟩
    · have := r4 t'
      simp only [TankI] at this
      simp only [cTa_uTa, q, false_and, if_false]; exact this
theorem cls_addTank {h : Hst} {ng nl nt : Nat} (S : SVx h) (I : InvC (h.1 8) ng nl nt) (ht : nt < 6) {n : Nat} (n1 : 100 ≤ n) (n2 : n ≤ 20000) :
    ∃ h', f_X6_addTank (nI n) h = some (nI nt, h') ∧ h'.1 8 = uS (uTa (h.1 8) ⟨nt, ht⟩ 0 (nI n)) 9 (nI (nt + 1)) ∧ SVx h' ∧ Out h h' := by
  obtain ⟨-, ⟨i7, i8, i9⟩, -⟩ := id I
  obtain ⟨hc, e, ef, Sc⟩ := sav S
  have e8 := ef 8 (by decide) (by decide)
  have o : f_X6_isOutside (nI n) 100 20000 h = some (0, h) := isOut_gd (lo := 100) (hi := 20000) n1 n2 (by decide) h
  refine ⟨_, ?_, cls_end (uS (uTa (h.1 8) ⟨nt, ht⟩ 0 (nI n)) 9 (nI (nt + 1))) ef Sc⟩
  unfold f_X6_addTank
  rw [o, gb_some, if_pos rfl, row7_2, gb_some, i9, if_pos (show nI nt < 6 from nI_lt (b := 6) ht (by decide)), e, gbv_some, show nI nt = nI (⟨nt, ht⟩ : Fin 6).val from rfl, put4_0, gbv_some, rowa7_2, gbv_some, hso_hso, hso_at, if_pos rfl, cS_uTa, e8, i9, nI_1]
theorem cls_setYield {h : Hst} (S : SVx h) {v n : Nat} (hv : v < 5) (n1 : 50 ≤ n) (n2 : n ≤ 400) :
    ∃ h', f_X6_setYield (nI v) (nI n) h = some (cVa (h.1 8) ⟨v, hv⟩ 0, h') ∧ h'.1 8 = uVa (h.1 8) ⟨v, hv⟩ 0 (nI n) ∧ SVx h' ∧ Out h h' := by
  obtain ⟨hc, e, ef, Sc⟩ := sav S
  have e8 := ef 8 (by decide) (by decide)
  have o : f_X6_isOutside (nI n) 50 400 h = some (0, h) := isOut_gd (lo := 50) (hi := 400) n1 n2 (by decide) h
  refine ⟨_, ?_, cls_end (uVa (h.1 8) ⟨v, hv⟩ 0 (nI n)) ef Sc⟩
  unfold f_X6_setYield
  rw [checkVariety_gd hv, gbv_some, o, gb_some, if_pos rfl, show nI v = nI (⟨v, hv⟩ : Fin 5).val from rfl, get5_0, gb_some, e, gbv_some, put5_0, gbv_some, e8]
def MX : Nat → Nat := fun i => match i with
  | 0 => 50
  | 1 => 1000
  | 2 => 1000
  | 3 => 50
  | 4 => 500
  | 5 => 2
  | _ => 500
theorem isSetting_gd {i : Nat} (hi : i < 7) (h : Hst) : f_X6_isSetting (nI i) h = some (1, h) := by
  unfold f_X6_isSetting jb_X6_isSetting_15
  rw [if_neg (nI_pos (by omega)), if_neg (show ¬ (7 : Int32) ≤ nI i from nI_ge (b := 7) hi (by decide)), gzr_1]
theorem inv_set {c : Nat → Int32} {ng nl nt : Nat} (I : InvC c ng nl nt) (i : Fin 7) {p : Int32} (hp : isN p (MX i.val)) : InvC (uS c ⟨i.val, by omega⟩ p) ng nl nt := by
  obtain ⟨a, b, c1, d, r⟩ := I
  obtain ⟨c10, c11, c12, c13, c14, c15, c16⟩ := c1
  rcases fin7 i with rfl | rfl | rfl | rfl | rfl | rfl | rfl
  · simp only [InvC, LotI, TankI, cVa_uS, cLo_uS, cGr_uS, cTa_uS, cS_uS]; exact ⟨a, b, ⟨hp, c11, c12, c13, c14, c15, c16⟩, d, r⟩
  · simp only [InvC, LotI, TankI, cVa_uS, cLo_uS, cGr_uS, cTa_uS, cS_uS]; exact ⟨a, b, ⟨c10, hp, c12, c13, c14, c15, c16⟩, d, r⟩
  · simp only [InvC, LotI, TankI, cVa_uS, cLo_uS, cGr_uS, cTa_uS, cS_uS]; exact ⟨a, b, ⟨c10, c11, hp, c13, c14, c15, c16⟩, d, r⟩
  · simp only [InvC, LotI, TankI, cVa_uS, cLo_uS, cGr_uS, cTa_uS, cS_uS]; exact ⟨a, b, ⟨c10, c11, c12, hp, c14, c15, c16⟩, d, r⟩
  · simp only [InvC, LotI, TankI, cVa_uS, cLo_uS, cGr_uS, cTa_uS, cS_uS]; exact ⟨a, b, ⟨c10, c11, c12, c13, hp, c15, c16⟩, d, r⟩
  · simp only [InvC, LotI, TankI, cVa_uS, cLo_uS, cGr_uS, cTa_uS, cS_uS]; exact ⟨a, b, ⟨c10, c11, c12, c13, c14, hp, c16⟩, d, r⟩
  · simp only [InvC, LotI, TankI, cVa_uS, cLo_uS, cGr_uS, cTa_uS, cS_uS]; exact ⟨a, b, ⟨c10, c11, c12, c13, c14, c15, hp⟩, d, r⟩
def LO : Nat → Nat := fun i => match i with
  | 1 => 500
  | _ => 0
theorem setVal (i : Fin 7) {n : Nat} (h0 : LO i.val ≤ n) (h1 : n ≤ MX i.val) (h : Hst) : f_X6_isSettingValue (nI i.val) (nI n) h = some (1, h) := by
  have fin : ∀ (lo hi : Nat), lo ≤ n → n ≤ hi → hi < 2 ^ 31 → f_X6_isSettingValue (nI i.val) (nI n) h = (if nI n < nI lo then some (0, h) else if nI hi < nI n then some (0, h) else some (1, h)) → f_X6_isSettingValue (nI i.val) (nI n) h = some (1, h) := fun lo hi a b c e => by
    rw [e, if_neg (nI_nlt a (by omega)), if_neg (nI_nlt b (by omega))]
  rcases fin7 i with rfl | rfl | rfl | rfl | rfl | rfl | rfl
  · exact fin 0 50 h0 h1 (by decide) rfl
  · exact fin 500 1000 h0 h1 (by decide) rfl
  · exact fin 0 1000 h0 h1 (by decide) rfl
  · exact fin 0 50 h0 h1 (by decide) rfl
  · exact fin 0 500 h0 h1 (by decide) rfl
  · exact fin 0 2 h0 h1 (by decide) rfl
  · exact fin 0 500 h0 h1 (by decide) rfl
theorem cls_set {h : Hst} (S : SVx h) {i n : Nat} (hi : i < 7) (h0 : LO i ≤ n) (h1 : n ≤ MX i) :
    ∃ h', f_X6_set (nI i) (nI n) h = some (cS (h.1 8) ⟨i, by omega⟩, h') ∧ h'.1 8 = uS (h.1 8) ⟨i, by omega⟩ (nI n) ∧ SVx h' ∧ Out h h' := by
  obtain ⟨hc, e, ef, Sc⟩ := sav S
  have e8 := ef 8 (by decide) (by decide)
  have o : f_X6_isSettingValue (nI i) (nI n) h = some (1, h) := setVal ⟨i, hi⟩ h0 h1 h
  refine ⟨_, ?_, cls_end (uS (h.1 8) ⟨i, by omega⟩ (nI n)) ef Sc⟩
  unfold f_X6_set
  rw [isSetting_gd hi, gb_some, if_neg (by decide), o, gb_some, if_neg (by decide), show nI i = nI (⟨i, hi⟩ : Fin 7).val from rfl, row6, gb_some, e, gbv_some, rowp6, gbv_some, e8]
  rfl
def clC (c : Nat → Int32) (v : Fin 5) (r : Int32) : Nat → Int32 := uS (uVa c v 4 (cVa c v 4 + r)) 12 (cS c 12 + 1)
theorem lose_0 (p : Int32) (h : Hst) : f_X6_loseByCleaning p 0 h = some h := by
  unfold f_X6_loseByCleaning jb_X6_loseByCleaning_29
  rw [if_pos (by decide)]
theorem lose_S (v : Fin 5) {r : Nat} (r0 : r ≠ 0) (r1 : r < 2 ^ 30) (h : Hst) : f_X6_loseByCleaning (nI v.val) (nI r) h = some (hso h 8 (clC (h.1 8) v (nI r))) := by
  unfold f_X6_loseByCleaning jb_X6_loseByCleaning_29
  rw [if_neg (nI_nle (by omega) (by omega)), add5_4, gbv_some, rowa7_5, gbv_some, hso_hso, hso_at, if_pos rfl, cS_uVa]
  rfl
def loC (c : Nat → Int32) (v : Fin 5) (L : Nat) : Nat → Int32 := if L = 0 then c else clC c v (nI L)
theorem lose_v (v : Fin 5) {L : Nat} (hL : L < 2 ^ 30) (h : Hst) : f_X6_loseByCleaning (nI v.val) (nI L) h = some (hso h 8 (loC (h.1 8) v L)) := by
  unfold loC
  by_cases q : L = 0
  · subst q
    rw [if_pos rfl, hso_self]
    exact lose_0 _ h
  · rw [if_neg q]
    exact lose_S v q hL h
theorem cGr_lo (c : Nat → Int32) (v : Fin 5) (L : Nat) (i : Fin 8) (k : Fin 4) : cGr (loC c v L) i k = cGr c i k := by
  unfold loC clC; split
  · rfl
  · rw [cGr_uS, cGr_uVa]
theorem cLo_lo (c : Nat → Int32) (v : Fin 5) (L : Nat) (i : Fin 40) (k : Fin 11) : cLo (loC c v L) i k = cLo c i k := by
  unfold loC clC; split
  · rfl
  · rw [cLo_uS, cLo_uVa]
theorem cTa_lo (c : Nat → Int32) (v : Fin 5) (L : Nat) (i : Fin 6) (k : Fin 7) : cTa (loC c v L) i k = cTa c i k := by
  unfold loC clC; split
  · rfl
  · rw [cTa_uS, cTa_uVa]
theorem inv_lo {c : Nat → Int32} {ng nl nt : Nat} (I : InvC c ng nl nt) (v : Fin 5) (L : Nat) : InvC (loC c v L) ng nl nt := by
  unfold loC clC
  split
  · exact I
  · exact inv_S (inv_V I v 4 _ (fun q => absurd q (by decide))) 12 (Or.inl rfl) _
theorem cS_lo (c : Nat → Int32) (v : Fin 5) (L : Nat) (i : Fin 14) : cS (loC c v L) i = if i = 12 then (if L = 0 then cS c 12 else cS c 12 + 1) else cS c i := by
  unfold loC clC
  by_cases q : L = 0
  · rw [if_pos q, if_pos q]
    split
    · next w => rw [w]
    · rfl
  · rw [if_neg q, if_neg q, cS_uS]
    split
    · rfl
    · rw [cS_uVa]
theorem cVa_lo0 (c : Nat → Int32) (v : Fin 5) (L : Nat) (i : Fin 5) : cVa (loC c v L) i 0 = cVa c i 0 := by
  unfold loC clC
  split
  · rfl
  · rw [cVa_uS, cVa_uVa, if_neg (fun w => absurd w.2 (by decide))]
theorem cls_clean {h : Hst} (S : SVx h) {v : Fin 5} {r : Nat} (er : cS (h.1 8) 11 = nI r) (ev : cS (h.1 8) 10 = nI v.val) (hr : r ≤ 50) :
    ∃ h', f_X6_clean h = some (nI r, h') ∧ h'.1 8 = uS (loC (h.1 8) v r) 11 0 ∧ SVx h' ∧ Out h h' := by
  obtain ⟨hc, e, ef, Sc⟩ := sav S
  have e8 := ef 8 (by decide) (by decide)
  refine ⟨_, ?_, cls_end (uS (loC (h.1 8) v r) 11 0) ef Sc⟩
  unfold f_X6_clean
  rw [e, gbv_some, row7_4, gb_some, row7_3, gb_some, e8, er, ev, lose_v v (by omega), gbv_some, rowp7_4, gbv_some, hso_hso, hso_at, if_pos rfl, e8]
