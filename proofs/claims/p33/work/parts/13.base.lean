theorem rem6 {a : Nat} (h : a < 2 ^ 31) : nI a - nI a / 6 * 6 = nI (a % 6) := pk_rem (d := 6) h (by decide) (by decide)
theorem nI_inj {a b : Nat} (ha : a < 2 ^ 31) (hb : b < 2 ^ 31) (h : nI a = nI b) : a = b := (nI_eq ha hb).mp h
def isN (x : Int32) (b : Nat) : Prop := ∃ n : Nat, n ≤ b ∧ x = nI n
def LotI (c : Nat → Int32) (ng nt : Nat) (l : Fin 40) : Prop :=
  (∃ g : Fin 8, g.val < ng ∧ cLo c l 0 = nI g.val) ∧ (∃ v : Fin 5, cLo c l 1 = nI v.val) ∧ isN (cLo c l 2) 2000 ∧ isN (cLo c l 3) 50 ∧ isN (cLo c l 4) 1500 ∧ isN (cLo c l 5) 2 ∧
  (cLo c l 5 ≠ 0 → cLo c l 7 = cLo c l 6 * cLo c l 4 / 1000 ∧ ∃ t : Fin 6, t.val < nt ∧ cLo c l 10 = nI t.val)
def TankI (c : Nat → Int32) (t : Fin 6) : Prop := ∃ s o0 o1 o2 o3 o4 : Nat, s ≤ 20000 ∧ o0 + o1 + o2 + o3 + o4 ≤ s ∧ cTa c t 0 = nI s ∧ cTa c t 2 = nI o0 ∧ cTa c t 3 = nI o1 ∧ cTa c t 4 = nI o2 ∧ cTa c t 5 = nI o3 ∧ cTa c t 6 = nI o4
def InvC (c : Nat → Int32) (ng nl nt : Nat) : Prop :=
  (ng ≤ 8 ∧ nl ≤ 40 ∧ nt ≤ 6) ∧ (cS c 7 = nI ng ∧ cS c 8 = nI nl ∧ cS c 9 = nI nt) ∧
  (isN (cS c 0) 50 ∧ isN (cS c 1) 1000 ∧ isN (cS c 2) 1000 ∧ isN (cS c 3) 50 ∧ isN (cS c 4) 500 ∧ isN (cS c 5) 2 ∧ isN (cS c 6) 500) ∧
  ((∃ v : Fin 5, cS c 10 = nI v.val) ∧ isN (cS c 11) 50) ∧ (∀ v, isN (cVa c v 0) 400) ∧
  (∀ g : Fin 8, ng ≤ g.val → ∀ k, cGr c g k = 0) ∧ (∀ l : Fin 40, nl ≤ l.val → ∀ k, cLo c l k = 0) ∧ (∀ l : Fin 40, l.val < nl → LotI c ng nt l) ∧
  (∀ t : Fin 6, nt ≤ t.val → ∀ k, cTa c t k = 0) ∧ (∀ t : Fin 6, TankI c t)
def sum8 (f : Fin 8 → Int32) : Int32 := 0 + f 0 + f 1 + f 2 + f 3 + f 4 + f 5 + f 6 + f 7
/-- the saved states: a ring of six places -/
def SV (m : Nat → Nat → Int32) (o ns : Nat) : Prop := o < 6 ∧ ns ≤ 6 ∧ m 1 8 = nI o ∧ m 1 9 = nI ns
theorem placeOfSaved {h : Hst} {o : Nat} (ho : h.1 1 8 = nI o) {k : Nat} (hk : o + k < 2 ^ 31) : f_X0_placeOfSaved (nI k) h = some (nI ((o + k) % 6 * 553), h) := by
  unfold f_X0_placeOfSaved
  rw [gd_6, ho, nI_add, rem6 hk, show (553 : Int32) = nI 553 from rfl, pk_mul]
def SavC (h h' : Hst) (o' ns' p : Nat) : Prop :=
  h'.2 = h.2 ∧ (∀ k, k ≠ 1 → k ≠ 9 → h'.1 k = h.1 k) ∧ h'.1 1 8 = nI o' ∧ h'.1 1 9 = nI ns' ∧ (∀ i, i < 553 → h'.1 9 (p * 553 + i) = h.1 8 i) ∧ ∀ q i, q < 6 → q ≠ p → i < 553 → h'.1 9 (q * 553 + i) = h.1 9 (q * 553 + i)
theorem save_32 {h : Hst} {o ns : Nat} (ho : o < 6) (hn : ns ≤ 5) (h8 : h.1 1 8 = nI o) (h9 : h.1 1 9 = nI ns) : ∃ h', jb_X0_save_32 h = some h' ∧ SavC h h' o (ns + 1) ((o + ns) % 6) := by
  have hp : (o + ns) % 6 < 6 := Nat.mod_lt _ (by decide)
  refine ⟨hst (hso h 9 (va_cpy (h.1 8) (h.1 9) 0 ((o + ns) % 6 * 553) 553)) 1 9 (h.1 1 9 + 1), ?_, ?_⟩
  · unfold jb_X0_save_32 jb_X0_save_74
    rw [h9, placeOfSaved h8 (by omega), gb_some, if_neg (nI_pos (by omega)), show (3318 : Int32) - 553 = nI 2765 from rfl, if_neg (nI_nlt (by omega) (by decide))]
    unfold gcp
    rw [if_neg (by decide), if_neg (nI_pos (by omega)), if_neg (by decide), tn_0, tn_553, if_neg (by omega), nI_clamp (by omega), if_neg (by omega), gl_eq, gl_eq]
    show some (hst _ 1 9 (h.1 1 9 + 1)) = _
    rw [h9]
  · refine ⟨rfl, fun k k1 k2 => ?_, ?_, ?_, fun i hi => ?_, fun q i hq hqp hi => ?_⟩
    · simp only [hst_at, hso_at, k1, k2, if_false]
    · simp [hst_at, hso_at, upd_at, h8]
    · simp [hst_at, hso_at, upd_at, h9, nI_succ]
    · simp only [hst_at, hso_at, if_neg (show (9 : Nat) ≠ 1 by decide), if_true]
      rw [pk_cpy_in (by omega) (by omega), show 0 + ((o + ns) % 6 * 553 + i - (o + ns) % 6 * 553) = i by omega]
    · simp only [hst_at, hso_at, if_neg (show (9 : Nat) ≠ 1 by decide), if_true]
      exact pk_cpy_out (by omega)
theorem save_C {h : Hst} {o ns : Nat} (S : SV h.1 o ns) : ∃ h', f_X0_save h = some h' ∧ SavC h h' (if ns = 6 then (o + 1) % 6 else o) (if ns = 6 then 6 else ns + 1) ((o + ns) % 6) := by
  obtain ⟨ho, hn, h8, h9⟩ := S
  unfold f_X0_save
  by_cases h6 : ns = 6
  · subst h6
    rw [if_pos (by rw [h9]; rfl), gd_6, gl_eq, gl_eq, if_pos rfl, if_pos rfl]
    obtain ⟨h', e, s1, s2, s3, s4, s5, s6⟩ := save_32 (h := hst (hst h 1 8 (h.1 1 8 + 1 - (h.1 1 8 + 1) / 6 * 6)) 1 9 ((hst h 1 8 (h.1 1 8 + 1 - (h.1 1 8 + 1) / 6 * 6)).1 1 9 - 1)) (o := (o + 1) % 6) (ns := 5) (Nat.mod_lt _ (by decide)) (by decide)
      (by simp [hst_at, upd_at, h8]; rw [show nI o + 1 = nI (o + 1) from nI_1 o, rem6 (by omega)]) (by simp [hst_at, upd_at, h9]; rfl)
    refine ⟨h', e, s1, fun k k1 k2 => ?_, s3, s4, fun i hi => ?_, fun q i hq hqp hi => ?_⟩
    · rw [s2 k k1 k2]; simp only [hst_at, k1, if_false]
    · have := s5 i hi
      rw [show ((o + 1) % 6 + 5) % 6 = (o + 6) % 6 by omega] at this
      rw [this]; rfl
    · have := s6 q i hq (by omega) hi
      rw [this]; rfl
  · rw [if_neg (by rw [h9]; exact fun z => h6 (nI_inj (by omega) (by decide) z)), if_neg h6, if_neg h6]
    exact save_32 ho (by omega) h8 h9
def SVx (h : Hst) : Prop := ∃ o ns, SV h.1 o ns
theorem SVx.same {h h' : Hst} (S : SVx h) (e : h'.1 1 = h.1 1) : SVx h' := by
  obtain ⟨o, ns, a, b, c, d⟩ := S
  exact ⟨o, ns, a, b, by rw [e]; exact c, by rw [e]; exact d⟩
/-- a save: the ring alone -/
theorem sav {h : Hst} (S : SVx h) : ∃ hc, f_X0_save h = some hc ∧ (∀ k, k ≠ 1 → k ≠ 9 → hc.1 k = h.1 k) ∧ SVx hc := by
  obtain ⟨o, ns, S⟩ := S
  obtain ⟨hc, e, -, c2, c3, c4, -⟩ := save_C S
  refine ⟨hc, e, c2, _, _, ?_, ?_, c3, c4⟩
  · split
    · exact Nat.mod_lt _ (by decide)
    · exact S.1
  · have := S.2.1
    split <;> omega
theorem inv_V {c : Nat → Int32} {ng nl nt : Nat} (I : InvC c ng nl nt) (v k : Fin 5) (x : Int32) (hx : k = 0 → isN x 400) : InvC (uVa c v k x) ng nl nt := by
  simp only [InvC, LotI, TankI, cS_uVa, cGr_uVa, cLo_uVa, cTa_uVa] at I ⊢
  obtain ⟨a, b, c1, d, e, f⟩ := I
  refine ⟨a, b, c1, d, fun v' => ?_, f⟩
  rw [cVa_uVa]
  by_cases e' : v' = v ∧ (0 : Fin 5) = k
  · rw [if_pos e']; exact hx e'.2.symm
  · rw [if_neg e']; exact e v'
theorem inv_G {c : Nat → Int32} {ng nl nt : Nat} (I : InvC c ng nl nt) (g : Fin 8) (k : Fin 4) (hg : g.val < ng) (x : Int32) : InvC (uGr c g k x) ng nl nt := by
  simp only [InvC, LotI, TankI, cS_uGr, cVa_uGr, cLo_uGr, cTa_uGr] at I ⊢
  obtain ⟨a, b, c1, d, e, f, r⟩ := I
  refine ⟨a, b, c1, d, e, fun g' hg' k' => ?_, r⟩
  rw [cGr_uGr, if_neg (fun z => by have := congrArg Fin.val z.1; omega)]; exact f g' hg' k'
theorem inv_T {c : Nat → Int32} {ng nl nt : Nat} (I : InvC c ng nl nt) (t : Fin 6) (k : Fin 7) (ht : t.val < nt) (x : Int32) (hT : TankI (uTa c t k x) t) : InvC (uTa c t k x) ng nl nt := by
  simp only [InvC, LotI, cS_uTa, cVa_uTa, cLo_uTa, cGr_uTa] at I ⊢
  obtain ⟨a, b, c1, d, e, f, r1, r2, r3, r4⟩ := I
  refine ⟨a, b, c1, d, e, f, r1, r2, fun t' ht' k' => ?_, fun t' => ?_⟩
  · rw [cTa_uTa, if_neg (fun z => by have := congrArg Fin.val z.1; omega)]; exact r3 t' ht' k'
  · by_cases e' : t' = t
    · subst e'; exact hT
    · have h4 := r4 t'
      simp only [TankI, cTa_uTa] at h4 ⊢
      have e2 : ∀ q : Fin 7, ¬ (t' = t ∧ q = k) := fun q z => e' z.1
      simp only [e2, if_false]; exact h4
theorem inv_S {c : Nat → Int32} {ng nl nt : Nat} (I : InvC c ng nl nt) (k : Fin 14) (hk : k = 12 ∨ k = 13) (x : Int32) : InvC (uS c k x) ng nl nt := by
  simp only [InvC, LotI, TankI, cVa_uS, cLo_uS, cGr_uS, cTa_uS] at I ⊢
  obtain ⟨a, b, c1, d, r⟩ := I
  rcases hk with rfl | rfl <;> simp only [cS_uS] <;> exact ⟨a, b, c1, d, r⟩
theorem inv_R {c : Nat → Int32} {ng nl nt : Nat} (I : InvC c ng nl nt) (v : Fin 5) (r : Int32) (hr : isN r 50) : InvC (uS (uS c 10 (nI v.val)) 11 r) ng nl nt := by
  simp only [InvC, LotI, TankI, cVa_uS, cLo_uS, cGr_uS, cTa_uS] at I ⊢
  obtain ⟨a, b, c1, d, r'⟩ := I
  simp only [cS_uS]
  exact ⟨a, b, c1, ⟨⟨v, rfl⟩, hr⟩, r'⟩
theorem sum8_add (f f' : Fin 8 → Int32) (g : Fin 8) (x : Int32) (hg : f' g = f g + x) (ho : ∀ j, j ≠ g → f' j = f j) : sum8 f' = sum8 f + x := by
  have h8 : g = 0 ∨ g = 1 ∨ g = 2 ∨ g = 3 ∨ g = 4 ∨ g = 5 ∨ g = 6 ∨ g = 7 := by
    have := g.isLt
    have e : ∀ k : Fin 8, g.val = k.val → g = k := fun k h => Fin.ext h
    rcases (by omega : g.val = 0 ∨ g.val = 1 ∨ g.val = 2 ∨ g.val = 3 ∨ g.val = 4 ∨ g.val = 5 ∨ g.val = 6 ∨ g.val = 7) with h | h | h | h | h | h | h | h
    · exact Or.inl (e 0 h)
    · exact Or.inr (Or.inl (e 1 h))
    · exact Or.inr (Or.inr (Or.inl (e 2 h)))
    · exact Or.inr (Or.inr (Or.inr (Or.inl (e 3 h))))
    · exact Or.inr (Or.inr (Or.inr (Or.inr (Or.inl (e 4 h)))))
    · exact Or.inr (Or.inr (Or.inr (Or.inr (Or.inr (Or.inl (e 5 h))))))
    · exact Or.inr (Or.inr (Or.inr (Or.inr (Or.inr (Or.inr (Or.inl (e 6 h)))))))
    · exact Or.inr (Or.inr (Or.inr (Or.inr (Or.inr (Or.inr (Or.inr (e 7 h)))))))
  unfold sum8
  rcases h8 with rfl | rfl | rfl | rfl | rfl | rfl | rfl | rfl
  · rw [hg, ho 1 (by decide), ho 2 (by decide), ho 3 (by decide), ho 4 (by decide), ho 5 (by decide), ho 6 (by decide), ho 7 (by decide)]; ac_rfl
  · rw [hg, ho 0 (by decide), ho 2 (by decide), ho 3 (by decide), ho 4 (by decide), ho 5 (by decide), ho 6 (by decide), ho 7 (by decide)]; ac_rfl
  · rw [hg, ho 0 (by decide), ho 1 (by decide), ho 3 (by decide), ho 4 (by decide), ho 5 (by decide), ho 6 (by decide), ho 7 (by decide)]; ac_rfl
  · rw [hg, ho 0 (by decide), ho 1 (by decide), ho 2 (by decide), ho 4 (by decide), ho 5 (by decide), ho 6 (by decide), ho 7 (by decide)]; ac_rfl
  · rw [hg, ho 0 (by decide), ho 1 (by decide), ho 2 (by decide), ho 3 (by decide), ho 5 (by decide), ho 6 (by decide), ho 7 (by decide)]; ac_rfl
  · rw [hg, ho 0 (by decide), ho 1 (by decide), ho 2 (by decide), ho 3 (by decide), ho 4 (by decide), ho 6 (by decide), ho 7 (by decide)]; ac_rfl
  · rw [hg, ho 0 (by decide), ho 1 (by decide), ho 2 (by decide), ho 3 (by decide), ho 4 (by decide), ho 5 (by decide), ho 7 (by decide)]; ac_rfl
  · rw [hg, ho 0 (by decide), ho 1 (by decide), ho 2 (by decide), ho 3 (by decide), ho 4 (by decide), ho 5 (by decide), ho 6 (by decide)]; ac_rfl
theorem idx_gd {i n : Nat} (h : i < n) (hn : n < 2 ^ 30) : ¬ nI i < 0 ∧ nI i < nI n ∧ ¬ nI n - 1 < nI i := by
  refine ⟨nI_pos (by omega), nI_lt h (by omega), ?_⟩
  rw [show (nI n - 1) = nI (n - 1) from pk_sub (b := 1) (by omega)]
  exact nI_nlt (by omega) (by omega)
theorem isOutside (a b c : Int32) (h : Hst) : f_X6_isOutside a b c h = some (if a < b then 1 else if a ≤ c then 0 else 1, h) := by
  simp only [f_X6_isOutside, jb_X6_isOutside_10, jb_X6_isOutside_15, gzr_0, gzr_1]
  split
  · rfl
  · split <;> rfl
theorem checkGrower_gd {h : Hst} {n : Nat} (hn : n ≤ 8) (e : cS (h.1 8) 7 = nI n) {i : Nat} (hi : i < n) : f_X6_checkGrower (nI i) h = some h := by
  obtain ⟨a, b, -⟩ := idx_gd hi (by omega)
  unfold f_X6_checkGrower
  rw [if_neg a, row7_0, gb_some, e, if_pos b]
theorem checkLot_gd {h : Hst} {n : Nat} (hn : n ≤ 40) (e : cS (h.1 8) 8 = nI n) {i : Nat} (hi : i < n) : f_X6_checkLot (nI i) h = some h := by
  obtain ⟨a, b, -⟩ := idx_gd hi (by omega)
  unfold f_X6_checkLot
  rw [if_neg a, row7_1, gb_some, e, if_pos b]
theorem checkTank_gd {h : Hst} {n : Nat} (hn : n ≤ 6) (e : cS (h.1 8) 9 = nI n) {i : Nat} (hi : i < n) : f_X6_checkTank (nI i) h = some h := by
  obtain ⟨a, b, -⟩ := idx_gd hi (by omega)
  unfold f_X6_checkTank
  rw [if_neg a, row7_2, gb_some, e, if_pos b]
theorem isVariety_gd {i : Nat} (hi : i < 5) (h : Hst) : f_X6_isVariety (nI i) h = some (1, h) := by
  unfold f_X6_isVariety jb_X6_isVariety_14
  rw [if_neg (nI_pos (by omega)), if_neg (show ¬ (5 : Int32) ≤ nI i from nI_ge (b := 5) hi (by decide)), gzr_1]
theorem checkVariety_gd {i : Nat} (hi : i < 5) (h : Hst) : f_X6_checkVariety (nI i) h = some h := by
  unfold f_X6_checkVariety
  rw [isVariety_gd hi, gb_some, if_neg (by decide)]
theorem isOut_gd {n lo hi : Nat} (h1 : lo ≤ n) (h2 : n ≤ hi) (h3 : hi < 2 ^ 31) (h : Hst) : f_X6_isOutside (nI n) (nI lo) (nI hi) h = some (0, h) := by
  rw [isOutside, if_neg (nI_nlt h1 (by omega)), if_pos (nI_le h2 h3)]
def oil5 (c : Nat → Int32) (t : Fin 6) : Int32 := 0 + cTa c t 2 + cTa c t 3 + cTa c t 4 + cTa c t 5 + cTa c t 6
theorem oilOf (t : Fin 6) (h : Hst) : f_X1_oilOf (nI t.val) h = some (oil5 (h.1 8) t, h) := by
  simp [f_X1_oilOf, FU, lp_X1_oilOf_4, get4_2, get4_3, get4_4, get4_5, get4_6, gb_some, gl_eq, oil5]
theorem roomOf (t : Fin 6) (h : Hst) : f_X1_roomOf (nI t.val) h = some (cTa (h.1 8) t 0 - oil5 (h.1 8) t, h) := by
  unfold f_X1_roomOf
  rw [get4_0, gb_some, oilOf, gb_some]
def grd (o g : Int32) : Int32 := if o = 0 then -1 else g
theorem oil5_N {c : Nat → Int32} {t : Fin 6} (h : TankI c t) : ∃ o s : Nat, o ≤ s ∧ s ≤ 20000 ∧ oil5 c t = nI o ∧ cTa c t 0 = nI s := by
  obtain ⟨s, o0, o1, o2, o3, o4, h1, h2, e0, e2, e3, e4, e5, e6⟩ := h
  refine ⟨o0 + o1 + o2 + o3 + o4, s, h2, h1, ?_, e0⟩
  unfold oil5
  rw [e2, e3, e4, e5, e6, show (0 : Int32) = nI 0 from rfl, nI_add, nI_add, nI_add, nI_add, nI_add, Nat.zero_add]
theorem gradeOf {h : Hst} (t : Fin 6) (hT : TankI (h.1 8) t) : f_X1_gradeOf (nI t.val) h = some (grd (oil5 (h.1 8) t) (cTa (h.1 8) t 1), h) := by
  obtain ⟨o, s, h1, h2, e, -⟩ := oil5_N hT
  unfold f_X1_gradeOf jb_X1_gradeOf_24 grd
  rw [oilOf, gb_some, e]
  by_cases z : o = 0
  · subst z
    rw [if_pos (show nI 0 ≤ 0 by decide), if_pos (by rfl)]
  · rw [if_neg (nI_nle (by omega) (by omega)), if_neg (nI_ne0 (by omega) (by omega)), get4_1, gb_some]
def gl3 (a : Int32) : Int32 := if 8 < a then (if 20 < a then 2 else 1) else 0
theorem gradeOfLot (l : Fin 40) (h : Hst) : f_X0_gradeOfLot (nI l.val) h = some (gl3 (cLo (h.1 8) l 3), h) := by
  unfold f_X0_gradeOfLot jb_X0_gradeOfLot_29 gl3
  rw [get3_3, gb_some]
  split
  · split <;> rfl
  · rfl
def adm (there grade mixes : Int32) : Int32 := if mixes = 0 then (if there = -1 then 1 else if there = grade then 1 else 0) else 1
theorem admits {h : Hst} (t : Fin 6) (hT : TankI (h.1 8) t) (g m : Int32) : f_X1_admits (nI t.val) g m h = some (adm (grd (oil5 (h.1 8) t) (cTa (h.1 8) t 1)) g m, h) := by
  unfold f_X1_admits jb_X1_admits_23 jb_X1_admits_28 adm
  rw [gradeOf t hT, gb_some, gzr_0, gzr_1]
  split
  · split
    · rfl
    · split <;> rfl
  · rfl
theorem hso_hso (h : Hst) (o : Nat) (f g : Nat → Int32) : hso (hso h o f) o g = hso h o g := by
  unfold hso
  congr 1
  funext k
  by_cases e : k = o
  · simp only [e, if_true]
  · simp only [e, if_false]
theorem fin6 : ∀ k : Fin 6, k = 0 ∨ k = 1 ∨ k = 2 ∨ k = 3 ∨ k = 4 ∨ k = 5 := by decide
theorem fin7 : ∀ k : Fin 7, k = 0 ∨ k = 1 ∨ k = 2 ∨ k = 3 ∨ k = 4 ∨ k = 5 ∨ k = 6 := by decide
theorem fin5 : ∀ k : Fin 5, k = 0 ∨ k = 1 ∨ k = 2 ∨ k = 3 ∨ k = 4 := by decide
theorem fin8 : ∀ k : Fin 8, k = 0 ∨ k = 1 ∨ k = 2 ∨ k = 3 ∨ k = 4 ∨ k = 5 ∨ k = 6 ∨ k = 7 := by decide
theorem hso_self (h : Hst) (o : Nat) : hso h o (h.1 o) = h := by
  unfold hso
  have e : (fun k => if k = o then h.1 o else h.1 k) = h.1 := by
    funext k
    by_cases q : k = o
    · subst q; rw [if_pos rfl]
    · rw [if_neg q]
  rw [e]
theorem hst_hso (h : Hst) (o j : Nat) (f : Nat → Int32) (x : Int32) : hst (hso h o f) o j x = hso h o (upd f j x) := by
  unfold hst
  rw [hso_hso, hso_at, if_pos rfl]
theorem hst_twice (h : Hst) (o j : Nat) (x y : Int32) : hst (hst h o j x) o j y = hst h o j y := by
  unfold hst hso
  congr 1
  funext k
  by_cases q : k = o
  · simp only [q, if_true]
    funext i
    by_cases q2 : i = j
    · simp only [upd_at, q2, if_true]
    · simp only [upd_at, q2, if_false]
  · simp only [q, if_false]
theorem nI_nq {i : Nat} (q : Int32) (k : Nat) (e : q = nI k) (hk : k < 2 ^ 31) (hi : i < 2 ^ 31) (h : i ≠ k) : ¬ nI i = q := by
  subst e; exact fun w => h (nI_inj hi hk w)
theorem nI_neM1 {i : Nat} (h : i < 2 ^ 31) : ¬ nI i = -1 := fun w => nI_pos h (by rw [w]; decide)
theorem gb_eta {α : Type} (x : Option (α × Hst)) : gb x (fun a h => some (a, h)) = x := by
  cases x with
  | none => rfl
  | some p => rfl
