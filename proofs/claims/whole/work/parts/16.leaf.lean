-- indices against a count
def Bad (p : Int32) (n : Nat) : Prop := p < 0 ∨ (¬ p < 0 ∧ ¬ p < nI n ∧ nI n - 1 < p)
theorem idx (p : Int32) {n : Nat} (hn : n < 2 ^ 30) : (∃ i, i < n ∧ p = nI i) ∨ Bad p n := by
  rcases pk_ix p (n := n) (by omega) with h | h | ⟨j, hj, e⟩
  · exact Or.inr (Or.inl h)
  · have h0 : 0 ≤ p.toInt ∧ (n : Int) ≤ p.toInt := by
      have e1 := Int32.le_iff_toInt_le.mp h
      rw [nI_toInt (by omega)] at e1
      omega
    refine Or.inr (Or.inr ⟨fun z => ?_, fun z => ?_, ?_⟩)
    · have := Int32.lt_iff_toInt_lt.mp z
      rw [show (0 : Int32).toInt = 0 from rfl] at this; omega
    · have := Int32.lt_iff_toInt_lt.mp z
      rw [nI_toInt (by omega)] at this; omega
    · apply Int32.lt_iff_toInt_lt.mpr
      rw [show (nI n - 1) = nI n - nI 1 from rfl, pk_sub_toInt hn (by decide)]
      omega
  · exact Or.inl ⟨j, hj, e⟩
theorem idx_gd {i n : Nat} (h : i < n) (hn : n < 2 ^ 30) : ¬ nI i < 0 ∧ nI i < nI n ∧ ¬ nI n - 1 < nI i := by
  refine ⟨nI_pos (by omega), nI_lt h (by omega), ?_⟩
  rw [show (nI n - 1) = nI (n - 1) from pk_sub (b := 1) (by omega)]
  exact nI_nlt (by omega) (by omega)
theorem within7 (a lo hi : Int32) (h : Hst) : f_X7_within a lo hi h = some (if a < lo then 0 else if hi < a then 0 else 1, h) := by
  simp only [f_X7_within, jb_X7_within_14, jb_X7_within_15, gzr_0, gzr_1]
  split
  · rfl
  · split <;> rfl
theorem within_gd {i n : Nat} (h : i < n) (hn : n < 2 ^ 30) (H : Hst) : f_X7_within (nI i) 0 (nI n - 1) H = some (1, H) := by
  obtain ⟨a, b, c⟩ := idx_gd h hn
  rw [within7, if_neg a, if_neg c]
theorem within_bad {p : Int32} {n : Nat} (h : Bad p n) (H : Hst) : f_X7_within p 0 (nI n - 1) H = some (0, H) := by
  rw [within7]
  rcases h with h | ⟨h1, h2, h3⟩
  · rw [if_pos h]
  · rw [if_neg h1, if_pos h3]
theorem isOutside (a b c : Int32) (h : Hst) : f_X6_isOutside a b c h = some (if a < b then 1 else if a ≤ c then 0 else 1, h) := by
  simp only [f_X6_isOutside, jb_X6_isOutside_10, jb_X6_isOutside_15, gzr_0, gzr_1]
  split
  · rfl
  · split <;> rfl
/-- a value inside its bounds, or out of them: what both say -/
theorem bounds (a : Int32) (lo hi : Nat) (h0 : lo ≤ hi) (h1 : hi < 2 ^ 30) : (∃ n, lo ≤ n ∧ n ≤ hi ∧ a = nI n ∧ (∀ h, f_X6_isOutside a (nI lo) (nI hi) h = some (0, h)) ∧ ∀ h, f_X7_within a (nI lo) (nI hi) h = some (1, h)) ∨
    ((∀ h, f_X6_isOutside a (nI lo) (nI hi) h = some (1, h)) ∧ ∀ h, f_X7_within a (nI lo) (nI hi) h = some (0, h)) := by
  by_cases c1 : a < nI lo
  · exact Or.inr ⟨fun h => by rw [isOutside, if_pos c1], fun h => by rw [within7, if_pos c1]⟩
  · by_cases c2 : nI hi < a
    · refine Or.inr ⟨fun h => ?_, fun h => by rw [within7, if_neg c1, if_pos c2]⟩
      rw [isOutside, if_neg c1, if_neg (fun z => Int32.not_lt.mpr z c2)]
    · have l1 : nI lo ≤ a := Int32.not_lt.mp c1
      have l2 : a ≤ nI hi := Int32.not_lt.mp c2
      have e1 := Int32.le_iff_toInt_le.mp l1
      have e2 := Int32.le_iff_toInt_le.mp l2
      rw [nI_toInt (by omega)] at e1 e2
      refine Or.inl ⟨a.toInt.toNat, by omega, by omega, ?_, fun h => by rw [isOutside, if_neg c1, if_pos l2], fun h => by rw [within7, if_neg c1, if_neg c2]⟩
      apply Int32.toInt_inj.mp
      rw [nI_toInt (by omega)]
      omega
-- the class's checks
theorem checkGrower_gd {h : Hst} {n : Nat} (hn : n ≤ 8) (e : cS (h.1 8) 7 = nI n) {i : Nat} (hi : i < n) : f_X6_checkGrower (nI i) h = some (.inl h) := by
  obtain ⟨a, b, -⟩ := idx_gd hi (by omega)
  unfold f_X6_checkGrower
  rw [if_neg a, row7_0, gb_some, e, if_pos b]
theorem checkGrower_bad {h : Hst} {n : Nat} (e : cS (h.1 8) 7 = nI n) {p : Int32} (hp : Bad p n) : f_X6_checkGrower p h = some (.inr (0, h)) := by
  unfold f_X6_checkGrower jb_X6_checkGrower_19
  rcases hp with a | ⟨a, b, -⟩
  · rw [if_pos a]
  · rw [if_neg a, row7_0, gb_some, e, if_neg b]
theorem checkLot_gd {h : Hst} {n : Nat} (hn : n ≤ 40) (e : cS (h.1 8) 8 = nI n) {i : Nat} (hi : i < n) : f_X6_checkLot (nI i) h = some (.inl h) := by
  obtain ⟨a, b, -⟩ := idx_gd hi (by omega)
  unfold f_X6_checkLot
  rw [if_neg a, row7_1, gb_some, e, if_pos b]
theorem checkLot_bad {h : Hst} {n : Nat} (e : cS (h.1 8) 8 = nI n) {p : Int32} (hp : Bad p n) : f_X6_checkLot p h = some (.inr (0, h)) := by
  unfold f_X6_checkLot jb_X6_checkLot_19
  rcases hp with a | ⟨a, b, -⟩
  · rw [if_pos a]
  · rw [if_neg a, row7_1, gb_some, e, if_neg b]
theorem checkTank_gd {h : Hst} {n : Nat} (hn : n ≤ 6) (e : cS (h.1 8) 9 = nI n) {i : Nat} (hi : i < n) : f_X6_checkTank (nI i) h = some (.inl h) := by
  obtain ⟨a, b, -⟩ := idx_gd hi (by omega)
  unfold f_X6_checkTank
  rw [if_neg a, row7_2, gb_some, e, if_pos b]
theorem checkTank_bad {h : Hst} {n : Nat} (e : cS (h.1 8) 9 = nI n) {p : Int32} (hp : Bad p n) : f_X6_checkTank p h = some (.inr (0, h)) := by
  unfold f_X6_checkTank jb_X6_checkTank_19
  rcases hp with a | ⟨a, b, -⟩
  · rw [if_pos a]
  · rw [if_neg a, row7_2, gb_some, e, if_neg b]
theorem isVariety_gd {i : Nat} (hi : i < 5) (h : Hst) : f_X6_isVariety (nI i) h = some (1, h) := by
  unfold f_X6_isVariety jb_X6_isVariety_14
  rw [if_neg (nI_pos (by omega)), if_neg (show ¬ (5 : Int32) ≤ nI i from nI_ge (b := 5) hi (by decide)), gzr_1]
theorem isVariety_bad {p : Int32} (hp : Bad p 5) (h : Hst) : f_X6_isVariety p h = some (0, h) := by
  unfold f_X6_isVariety jb_X6_isVariety_13 jb_X6_isVariety_14
  rcases hp with a | ⟨a, b, -⟩
  · rw [if_pos a, gzr_0]
  · rw [if_neg a, if_pos (show (5 : Int32) ≤ p from Int32.not_lt.mp b), gzr_0]
theorem checkVariety_gd {i : Nat} (hi : i < 5) (h : Hst) : f_X6_checkVariety (nI i) h = some (.inl h) := by
  unfold f_X6_checkVariety
  rw [isVariety_gd hi, gb_some, if_neg (by decide)]
theorem checkVariety_bad {p : Int32} (hp : Bad p 5) (h : Hst) : f_X6_checkVariety p h = some (.inr (0, h)) := by
  unfold f_X6_checkVariety
  rw [isVariety_bad hp, gb_some, if_pos rfl]
-- the model's
theorem isGrower_gd {h : Hst} {n : Nat} (hn : n ≤ 8) (e : h.1 18 7 = nI n) {i : Nat} (hi : i < n) : f_X7_isGrower (nI i) h = some (1, h) := by
  unfold f_X7_isGrower
  rw [gk_7_514, tn_7, e, within_gd hi (by omega), gb_some, gzr_1]
theorem isGrower_bad {h : Hst} {n : Nat} (e : h.1 18 7 = nI n) {p : Int32} (hp : Bad p n) : f_X7_isGrower p h = some (0, h) := by
  unfold f_X7_isGrower
  rw [gk_7_514, tn_7, e, within_bad hp, gb_some, gzr_0]
theorem isLot_gd {h : Hst} {n : Nat} (hn : n ≤ 40) (e : h.1 18 8 = nI n) {i : Nat} (hi : i < n) : f_X7_isLot (nI i) h = some (1, h) := by
  unfold f_X7_isLot
  rw [gk_8_514, tn_8, e, within_gd hi (by omega), gb_some, gzr_1]
theorem isLot_bad {h : Hst} {n : Nat} (e : h.1 18 8 = nI n) {p : Int32} (hp : Bad p n) : f_X7_isLot p h = some (0, h) := by
  unfold f_X7_isLot
  rw [gk_8_514, tn_8, e, within_bad hp, gb_some, gzr_0]
theorem isTank_gd {h : Hst} {n : Nat} (hn : n ≤ 6) (e : h.1 18 9 = nI n) {i : Nat} (hi : i < n) : f_X7_isTank (nI i) h = some (1, h) := by
  unfold f_X7_isTank
  rw [gk_9_514, tn_9, e, within_gd hi (by omega), gb_some, gzr_1]
theorem isTank_bad {h : Hst} {n : Nat} (e : h.1 18 9 = nI n) {p : Int32} (hp : Bad p n) : f_X7_isTank p h = some (0, h) := by
  unfold f_X7_isTank
  rw [gk_9_514, tn_9, e, within_bad hp, gb_some, gzr_0]
theorem isVariety7_gd {i : Nat} (hi : i < 5) (h : Hst) : f_X7_isVariety (nI i) h = some (1, h) := by
  unfold f_X7_isVariety
  rw [show (4 : Int32) = nI 5 - 1 from rfl, within_gd hi (by decide), gb_some, gzr_1]
theorem isVariety7_bad {p : Int32} (hp : Bad p 5) (h : Hst) : f_X7_isVariety p h = some (0, h) := by
  unfold f_X7_isVariety
  rw [show (4 : Int32) = nI 5 - 1 from rfl, within_bad hp, gb_some, gzr_0]
-- tanks
def oil5 (c : Nat → Int32) (t : Fin 6) : Int32 := 0 + cTa c t 2 + cTa c t 3 + cTa c t 4 + cTa c t 5 + cTa c t 6
def zoil5 (z : Nat → Int32) (t : Fin 6) : Int32 := 0 + zT z t 2 + zT z t 3 + zT z t 4 + zT z t 5 + zT z t 6
theorem zoil_eq {c z : Nat → Int32} {nl : Nat} (R : RelCZ c z nl) (t : Fin 6) : zoil5 z t = oil5 c t := by
  obtain ⟨-, -, -, -, -, r6, -⟩ := R
  simp only [zoil5, oil5, r6]
theorem oilOf (t : Fin 6) (h : Hst) : f_X1_oilOf (nI t.val) h = some (oil5 (h.1 8) t, h) := by
  simp [f_X1_oilOf, FU, lp_X1_oilOf_4, get4_2, get4_3, get4_4, get4_5, get4_6, gb_some, gl_eq, oil5]
theorem oilOf7 (t : Fin 6) (h : Hst) : f_X7_oilOf (nI t.val) h = some (zoil5 (h.1 18) t, h) := by
  simp [f_X7_oilOf, FU, lp_X7_oilOf_4, ofTank_2, ofTank_3, ofTank_4, ofTank_5, ofTank_6, gb_some, gl_eq, zoil5]
theorem roomOf (t : Fin 6) (h : Hst) : f_X1_roomOf (nI t.val) h = some (cTa (h.1 8) t 0 - oil5 (h.1 8) t, h) := by
  unfold f_X1_roomOf
  rw [get4_0, gb_some, oilOf, gb_some]
theorem roomIn (t : Fin 6) (h : Hst) : f_X7_roomIn (nI t.val) h = some (zT (h.1 18) t 0 - zoil5 (h.1 18) t, h) := by
  unfold f_X7_roomIn
  rw [ofTank_0, gb_some, oilOf7, gb_some]
def grd (o g : Int32) : Int32 := if o = 0 then -1 else g
theorem oil5_N {c : Nat → Int32} {t : Fin 6} (h : TankI c t) : ∃ o s : Nat, o ≤ s ∧ s ≤ 20000 ∧ oil5 c t = nI o ∧ cTa c t 0 = nI s := by
  obtain ⟨s, o0, o1, o2, o3, o4, h1, h2, e0, e2, e3, e4, e5, e6⟩ := h
  refine ⟨o0 + o1 + o2 + o3 + o4, s, h2, h1, ?_, e0⟩
  unfold oil5
  rw [e2, e3, e4, e5, e6, show (0 : Int32) = nI 0 from rfl, nI_add, nI_add, nI_add, nI_add, nI_add, Nat.zero_add]
theorem gradeOf {h : Hst} (t : Fin 6) (hT : TankI (h.1 8) t) : f_X1_gradeOf (nI t.val) h = some (grd (oil5 (h.1 8) t) (cTa (h.1 8) t 1), h) := by
  obtain ⟨o, s, h1, h2, e, -⟩ := oil5_N hT
  unfold f_X1_gradeOf jb_X1_gradeOf_24 grd
  rw [oilOf, gb_some, e]
  by_cases z : o = 0
  · subst z
    rw [if_pos (show nI 0 ≤ 0 by decide), if_pos (by rfl)]
  · rw [if_neg (nI_nle (by omega) (by omega)), if_neg (nI_ne0 (by omega) (by omega)), get4_1, gb_some]
theorem gradeOf7 (t : Fin 6) (h : Hst) : f_X7_gradeOf (nI t.val) h = some (grd (zoil5 (h.1 18) t) (zT (h.1 18) t 1), h) := by
  unfold f_X7_gradeOf jb_X7_gradeOf_18 grd
  rw [oilOf7, gb_some]
  split
  · rfl
  · rw [ofTank_1, gb_some]
def gl3 (a : Int32) : Int32 := if 8 < a then (if 20 < a then 2 else 1) else 0
theorem gradeOfLot (l : Fin 40) (h : Hst) : f_X0_gradeOfLot (nI l.val) h = some (gl3 (cLo (h.1 8) l 3), h) := by
  unfold f_X0_gradeOfLot jb_X0_gradeOfLot_29 gl3
  rw [get3_3, gb_some]
  split
  · split <;> rfl
  · rfl
theorem gradeOfLot7 (l : Fin 40) (h : Hst) (hN : isN (zL (h.1 18) l 3) 50) : f_X7_gradeOfLot (nI l.val) h = some (gl3 (zL (h.1 18) l 3), h) := by
  obtain ⟨n, hn, e⟩ := hN
  unfold f_X7_gradeOfLot jb_X7_gradeOfLot_28 gl3
  rw [ofLot_3, gb_some, e]
  have a1 : (9 : Int32) ≤ nI n ↔ 9 ≤ n := nI_leI (a := 9) (by decide) (by omega)
  have a2 : (21 : Int32) ≤ nI n ↔ 21 ≤ n := nI_leI (a := 21) (by decide) (by omega)
  have a3 : (8 : Int32) < nI n ↔ 8 < n := nI_ltI (a := 8) (by decide) (by omega)
  have a4 : (20 : Int32) < nI n ↔ 20 < n := nI_ltI (a := 20) (by decide) (by omega)
  simp only [a1, a2, a3, a4]
  have c1 : (8 < n) = (9 ≤ n) := rfl
  have c2 : (20 < n) = (21 ≤ n) := rfl
  simp only [c1, c2]
  split
  · split <;> rfl
  · rfl
def adm (there grade mixes : Int32) : Int32 := if mixes = 0 then (if there = -1 then 1 else if there = grade then 1 else 0) else 1
theorem admits {h : Hst} (t : Fin 6) (hT : TankI (h.1 8) t) (g m : Int32) : f_X1_admits (nI t.val) g m h = some (adm (grd (oil5 (h.1 8) t) (cTa (h.1 8) t 1)) g m, h) := by
  unfold f_X1_admits jb_X1_admits_23 jb_X1_admits_28 adm
  rw [gradeOf t hT, gb_some, gzr_0, gzr_1]
  split
  · split
    · rfl
    · split <;> rfl
  · rfl
theorem suits (t : Fin 6) (h : Hst) (g m : Int32) : f_X7_suits (nI t.val) g m h = some (adm (grd (zoil5 (h.1 18) t) (zT (h.1 18) t 1)) g m, h) := by
  unfold f_X7_suits jb_X7_suits_22 jb_X7_suits_27 adm
  simp only [gradeOf7, gb_some, gzr_0, gzr_1]
  split
  · split
    · rfl
    · split <;> rfl
  · rfl
