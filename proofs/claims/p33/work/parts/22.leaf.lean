-- the law's rows beside the class's cells
def RT (ta c : Nat → Int32) : Prop := ∀ t : Fin 6, t.val < 3 → ∀ k : Fin 7, ta (7 * t.val + k.val) = cTa c t k
def R17 (c n : Nat → Int32) (nl : Nat) : Prop :=
  (n 0 = 3 ∧ n 1 = nI nl ∧ n 2 = 3 ∧ n 3 = rv c ∧ n 4 = cS c 11 ∧ n 5 = cS c 12 ∧ n 6 = cS c 13 ∧ n 7 = sum8 (fun g => cGr c g 2)) ∧ ∀ k : Fin 7, n (8 + k.val) = cS c ⟨k.val, by omega⟩
def R18 (c ye : Nat → Int32) : Prop := ∀ v : Fin 5, ye v.val = cVa c v 0
def R19 (c lo : Nat → Int32) (nl : Nat) : Prop := ∀ l : Fin 40, l.val < nl → ∀ k : Fin 6, lo (6 * l.val + k.val) = cLo c l ⟨k.val, by omega⟩
def R20 (c du fi into : Nat → Int32) (nl : Nat) : Prop := ∀ l : Fin 40, l.val < nl → cLo c l 5 ≠ 0 → du l.val = cLo c l 6 ∧ fi l.val = cLo c l 8 ∧ into l.val = cLo c l 10
def R22 (c se : Nat → Int32) (nl : Nat) : Prop := ∀ l : Fin 40, l.val < nl → cLo c l 5 = 2 → se l.val = cLo c l 9
def R25 (c ac : Nat → Int32) : Prop := ∀ g : Fin 8, g.val < 3 → ac g.val = cGr c g 0
/-- of the class alone, what its own invariant leaves open: grades, a pressed lot's content and first oil, accounts (b pressings and appeals at most) -/
def RG (c : Nat → Int32) (nl b : Nat) : Prop := (∀ t : Fin 6, t.val < 3 → isN (cTa c t 1) 2) ∧ (∀ l : Fin 40, l.val < nl → cLo c l 5 ≠ 0 → ∃ ct f : Nat, f ≤ ct ∧ ct ≤ 12000 ∧ cLo c l 7 = nI ct ∧ cLo c l 8 = nI f) ∧ ∀ g : Fin 8, g.val < 3 → isN (cGr c g 0) (12000 * b)
def RelL (c : Nat → Int32) (m : Nat → Nat → Int32) (nl b : Nat) : Prop :=
  R17 c (m 17) nl ∧ R18 c (m 18) ∧ R19 c (m 19) nl ∧ R20 c (m 20) (m 21) (m 23) nl ∧ R22 c (m 22) nl ∧ RT (m 24) c ∧ R25 c (m 25) ∧ RG c nl b
def J (h : Hst) (nl b : Nat) : Prop := nl ≤ 10 ∧ SVx h ∧ InvC (h.1 8) 3 nl 3 ∧ RelL (h.1 8) h.1 nl b
/-- what a getter of the class leaves is as good as before -/
theorem ScrC.sv {h h' : Hst} (s : ScrC h h') (S : SVx h) : SVx h' := S.same (s.2 1 (by decide))
theorem J.scr {h h' : Hst} {nl b : Nat} (j : J h nl b) (s : ScrC h h') : J h' nl b := by
  obtain ⟨a, sv, c, d⟩ := j
  have e : ∀ k, 16 < k → h'.1 k = h.1 k := fun k hk => s.2 k (by omega)
  refine ⟨a, s.sv sv, by rw [s.e8]; exact c, ?_⟩
  rw [s.e8]
  unfold RelL
  rw [e 17 (by decide), e 18 (by decide), e 19 (by decide), e 20 (by decide), e 21 (by decide), e 22 (by decide), e 23 (by decide), e 24 (by decide), e 25 (by decide)]
  exact d
-- at, cell
theorem u_toI (u : UInt32) : u.toInt32 = nI u.toNat := by
  apply Int32.toBitVec_inj.mp
  show u.toBitVec = BitVec.ofNat 32 u.toBitVec.toNat
  simp
theorem ushr1 (x : Int32) : ∃ k : Nat, k < 2 ^ 31 ∧ (x.toUInt32 >>> ((1 : Int32).toUInt32 &&& Int32.toUInt32 31)).toInt32 = nI k := by
  refine ⟨(x.toUInt32 >>> ((1 : Int32).toUInt32 &&& Int32.toUInt32 31)).toNat, ?_, u_toI _⟩
  show (x.toUInt32 >>> (1 : UInt32)).toNat < 2 ^ 31
  have h := x.toUInt32.toNat_lt
  rw [UInt32.toNat_shiftRight]
  show x.toUInt32.toNat >>> 1 < 2 ^ 31
  rw [Nat.shiftRight_eq_div_pow]
  omega
theorem at_v (x : Int32) {n : Nat} (h0 : 0 < n) (hn : n < 2 ^ 31) : ∃ j : Nat, j < n ∧ ∀ h : Hst, f_L_at x (nI n) h = some (nI j, h) := by
  obtain ⟨k, hk, e⟩ := ushr1 x
  refine ⟨k % n, Nat.mod_lt _ h0, fun h => ?_⟩
  unfold f_L_at
  rw [gdz_ne (nI_ne0 (by omega) hn), e, pk_rem hk h0 hn]
theorem cell_v (xs : Nat → Int32) {Lx : Nat} (hL : Lx ≤ 260) {k : Nat} (hk : k < 2 ^ 31) : ∃ x : Int32, ∀ h : Hst, f_L_cell xs Lx (nI k) h = some (x, h) := by
  unfold f_L_cell jb_L_cell_19
  by_cases q : Lx ≤ k
  · refine ⟨739982445 * (nI k + 103), fun h => ?_⟩
    rw [if_pos (show Int32.ofNat Lx ≤ nI k from nI_le q hk)]
  · refine ⟨xs (nI k).toNatClampNeg, fun h => ?_⟩
    rw [if_neg (show ¬ Int32.ofNat Lx ≤ nI k from nI_ge (by omega) (by omega)), gck_nI (by omega) (by omega)]
-- indices of the rows
theorem ix72 (t v : Nat) : (7 : Int32) * nI t + 2 + nI v = nI (7 * t + 2 + v) := by
  show nI 7 * nI t + nI 2 + nI v = _
  rw [pk_mul, nI_add, nI_add]
theorem ix71 (t : Nat) : (7 : Int32) * nI t + 1 = nI (7 * t + 1) := by
  show nI 7 * nI t + nI 1 = _
  rw [pk_mul, nI_add]
theorem ix70 (t : Nat) : (7 : Int32) * nI t = nI (7 * t) := pk_mul 7 t
theorem ix60 (t : Nat) : (6 : Int32) * nI t = nI (6 * t) := pk_mul 6 t
theorem ix6 (t k : Nat) : (6 : Int32) * nI t + nI k = nI (6 * t + k) := by rw [ix60, nI_add]
theorem ix61 (t : Nat) : (6 : Int32) * nI t + 1 = nI (6 * t + 1) := ix6 t 1
theorem ix62 (t : Nat) : (6 : Int32) * nI t + 2 = nI (6 * t + 2) := ix6 t 2
theorem ix63 (t : Nat) : (6 : Int32) * nI t + 3 = nI (6 * t + 3) := ix6 t 3
theorem ix64 (t : Nat) : (6 : Int32) * nI t + 4 = nI (6 * t + 4) := ix6 t 4
theorem ix65 (t : Nat) : (6 : Int32) * nI t + 5 = nI (6 * t + 5) := ix6 t 5
theorem RT.v {ta c : Nat → Int32} (R : RT ta c) {t : Fin 6} (ht : t.val < 3) (v : Fin 5) : ta (7 * t.val + 2 + v.val) = cTa c t (ts v) := by
  rw [Nat.add_assoc]; exact R t ht (ts v)
theorem RT.g {ta c : Nat → Int32} (R : RT ta c) {t : Fin 6} (ht : t.val < 3) : ta (7 * t.val + 1) = cTa c t 1 := R t ht 1
theorem RT.s {ta c : Nat → Int32} (R : RT ta c) {t : Fin 6} (ht : t.val < 3) : ta (7 * t.val) = cTa c t 0 := R t ht 0
-- oil in a tank
theorem oil_step {c : Nat → Int32} {h : Hst} (R : RT (h.1 24) c) {t : Fin 6} (ht : t.val < 3) (n : Nat) (acc : Int32) (v : Fin 5) : lp_L_oil_4 (n + 1) (nI t.val) acc (nI v.val) h = lp_L_oil_4 n (nI t.val) (acc + cTa c t (ts v)) (nI (v.val + 1)) h := by
  have lv := v.isLt
  rw [lp_L_oil_4, if_neg (show ¬ (5 : Int32) ≤ nI v.val from nI_ge (b := 5) lv (by decide)), ix72, gck_nI (by omega) (by decide), nI_clamp (by omega), R.v ht, gl_eq, nI_1]
theorem oil_end (n : Nat) (a acc : Int32) (h : Hst) : lp_L_oil_4 (n + 1) a acc (nI 5) h = some (acc, h) := by
  rw [lp_L_oil_4, if_pos (by decide)]
theorem oilL {c : Nat → Int32} {h : Hst} (R : RT (h.1 24) c) {t : Fin 6} (ht : t.val < 3) : f_L_oil (nI t.val) h = some (oil5 c t, h) := by
  unfold f_L_oil
  exact (oil_step R ht 4095 0 0).trans ((oil_step R ht 4094 _ 1).trans ((oil_step R ht 4093 _ 2).trans ((oil_step R ht 4092 _ 3).trans ((oil_step R ht 4091 _ 4).trans (oil_end 4090 _ _ h)))))
theorem gl3_N {a : Int32} (h : isN a 50) : isN (gl3 a) 2 := by
  unfold gl3
  split
  · split
    · exact ⟨2, by decide, rfl⟩
    · exact ⟨1, by decide, rfl⟩
  · exact ⟨0, by decide, rfl⟩
theorem gradeL {a : Int32} (hN : isN a 50) (h : Hst) : f_L_grade a h = some (gl3 a, h) := by
  obtain ⟨n, hn, rfl⟩ := hN
  have a1 : nI n ≤ 20 ↔ n ≤ 20 := nI_leI (b := 20) (by omega) (by decide)
  have a2 : nI n ≤ 8 ↔ n ≤ 8 := nI_leI (b := 8) (by omega) (by decide)
  have a3 : (8 : Int32) < nI n ↔ 8 < n := nI_ltI (a := 8) (by decide) (by omega)
  have a4 : (20 : Int32) < nI n ↔ 20 < n := nI_ltI (a := 20) (by decide) (by omega)
  unfold f_L_grade jb_L_grade_21 gl3
  by_cases q : n ≤ 20
  · rw [if_pos (a1.mpr q)]
    by_cases w : n ≤ 8
    · rw [if_pos (a2.mpr w), if_neg (fun z => by have := a3.mp z; omega)]
    · rw [if_neg (fun z => w (a2.mp z)), if_pos (a3.mpr (by omega)), if_neg (fun z => by have := a4.mp z; omega)]
  · rw [if_neg (fun z => q (a1.mp z)), if_pos (a3.mpr (by omega)), if_pos (a4.mpr (by omega))]
-- pouring
theorem RT.upd {ta c : Nat → Int32} (R : RT ta c) (t : Fin 6) (k : Fin 7) (x : Int32) : RT (upd ta (7 * t.val + k.val) x) (uTa c t k x) := by
  intro t' ht' k'
  have lk := k.isLt
  have lk' := k'.isLt
  rw [upd_at, cTa_uTa]
  by_cases q : t' = t ∧ k' = k
  · rw [if_pos q, if_pos (by rw [q.1, q.2])]
  · rw [if_neg q, if_neg (fun z => q ⟨Fin.ext (by omega), Fin.ext (by omega)⟩)]
    exact R t' ht' k'
theorem RT.same {ta c : Nat → Int32} (R : RT ta c) (t : Fin 6) (k : Fin 7) {x : Int32} (hx : cTa c t k = x) : RT ta (uTa c t k x) := by
  intro t' ht' k'
  rw [cTa_uTa]
  by_cases q : t' = t ∧ k' = k
  · rw [if_pos q, ← hx, ← q.1, ← q.2]; exact R t' ht' k'
  · rw [if_neg q]; exact R t' ht' k'
theorem RT.congr {ta c c' : Nat → Int32} (R : RT ta c) (e : ∀ t : Fin 6, t.val < 3 → ∀ k, cTa c' t k = cTa c t k) : RT ta c' := fun t ht k => (R t ht k).trans (e t ht k).symm
theorem pour_36 {h : Hst} (t : Fin 6) (v : Fin 5) (x : Int32) : jb_L_pour_36 (nI t.val) (nI v.val) x h = some (hso h 24 (upd (h.1 24) (7 * t.val + (ts v).val) (h.1 24 (7 * t.val + (ts v).val) + x))) ∨ ¬ t.val < 3 := by
  by_cases ht : t.val < 3
  · refine Or.inl ?_
    have lv := v.isLt
    unfold jb_L_pour_36
    rw [ix72, gl_eq, gck_nI (by omega) (by decide), gck_nI (by omega) (by decide), gl_eq, nI_clamp (by omega), Nat.add_assoc]
    rfl
  · exact Or.inr ht
theorem pourL {c : Nat → Int32} {h : Hst} (R : RT (h.1 24) c) {t : Fin 6} (ht : t.val < 3) (T : TankI c t) (v : Fin 5) {x g : Nat} (hx : x < 2 ^ 31) (hg : g ≤ 2) (gN : isN (cTa c t 1) 2) : ∃ ta', f_L_pour (nI t.val) (nI v.val) (nI x) (nI g) h = some (hso h 24 ta') ∧ RT ta' (pourC c t v (nI x) (nI g)) := by
  have lv := v.isLt
  unfold pourC f_L_pour
  by_cases x0 : x = 0
  · subst x0
    refine ⟨h.1 24, ?_, ?_⟩
    · rw [if_pos (show nI 0 = 0 from rfl), hso_self]
    · rw [if_pos (show nI 0 ≤ 0 by decide)]; exact R
  · have g1 : ∀ H : Hst, jb_L_pour_36 (nI t.val) (nI v.val) (nI x) H = some (hso H 24 (upd (H.1 24) (7 * t.val + (ts v).val) (H.1 24 (7 * t.val + (ts v).val) + nI x))) := fun H => (pour_36 t v (nI x)).resolve_right (fun z => z ht)
    have fin : ∀ (ta1 : Nat → Int32) (y : Int32), RT ta1 (uTa c t 1 y) → RT (upd ta1 (7 * t.val + (ts v).val) (ta1 (7 * t.val + (ts v).val) + nI x)) (uTa (uTa c t 1 y) t (ts v) (cTa c t (ts v) + nI x)) := fun ta1 y R1 => by
      have e : ta1 (7 * t.val + (ts v).val) = cTa c t (ts v) := (R1 t ht (ts v)).trans (cTa_1v c t v y)
      rw [e]; exact R1.upd t (ts v) _
    have s26 : jb_L_pour_26 (nI t.val) (nI v.val) (nI x) (nI g) h = some (hso h 24 (upd (upd (h.1 24) (7 * t.val + 1) (nI g)) (7 * t.val + (ts v).val) (upd (h.1 24) (7 * t.val + 1) (nI g) (7 * t.val + (ts v).val) + nI x))) := by
      unfold jb_L_pour_26
      rw [ix71, gck_nI (by omega) (by decide), gl_eq, nI_clamp (by omega), g1]
      show some (hso (hso h 24 _) 24 _) = _
      rw [hso_hso]
      rfl
    rw [if_neg (nI_ne0 (by omega) hx), if_neg (nI_nle (by omega) hx), oilL R ht, gb_some]
    obtain ⟨o, s, h1, h2, eo, -⟩ := oil5_N T
    obtain ⟨gt, hgt, egt⟩ := gN
    rw [eo]
    unfold grd
    by_cases o0 : o = 0
    · subst o0
      rw [if_pos (show nI 0 = 0 from rfl), if_pos (show nI 0 = 0 from rfl), if_pos (show (-1 : Int32) < nI g from by
        rcases (by omega : g = 0 ∨ g = 1 ∨ g = 2) with rfl | rfl | rfl <;> decide)]
      exact ⟨_, s26, fin _ _ (R.upd t 1 (nI g))⟩
    · rw [if_neg (nI_ne0 (by omega) (by omega)), if_neg (nI_ne0 (by omega) (by omega)), ix71, gck_nI (by omega) (by decide), nI_clamp (by omega), R.g ht, egt]
      by_cases le : g ≤ gt
      · rw [if_pos (nI_le le (by omega)), if_neg (nI_nlt le (by omega))]
        exact ⟨_, g1 h, fin _ _ (R.same t 1 egt)⟩
      · rw [if_neg (nI_ge (by omega) (by omega)), if_pos (nI_lt (by omega) (by omega))]
        exact ⟨_, s26, fin _ _ (R.upd t 1 (nI g))⟩
