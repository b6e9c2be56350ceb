theorem norm_N {n : Nat} (h : n ≠ 0) (hl : n.log2 ≤ 52) : 4503599627370496 ≤ n * 2 ^ (52 - n.log2) ∧ n * 2 ^ (52 - n.log2) < 9007199254740992 := by
  have a := Nat.log2_self_le h
  have b := Nat.lt_log2_self (n := n)
  have p : 2 ^ n.log2 * 2 ^ (52 - n.log2) = 4503599627370496 := by
    rw [← Nat.pow_add, show n.log2 + (52 - n.log2) = 52 by omega]
  have q : 2 ^ (n.log2 + 1) * 2 ^ (52 - n.log2) = 9007199254740992 := by
    rw [← Nat.pow_add, show n.log2 + 1 + (52 - n.log2) = 53 by omega]
  have c := Nat.mul_le_mul_right (2 ^ (52 - n.log2)) a
  have d := Nat.mul_lt_mul_of_pos_right b (Nat.two_pow_pos (52 - n.log2))
  omega
theorem dec_52 : FP.Core.decode FP.Core.b64 (4841369599423283200 : UInt64).toNat = .fin false 4503599627370496 0 := by decide
theorem dmul_52 {e m : Nat} (he : e ≤ 1100) (hm : m < 4503599627370496) : FP.dmul (xu e m) 4841369599423283200 = xu (e + 52) m := by
  show UInt64.ofNat (FP.Core.mul FP.Core.b64 (xu e m).toNat (4841369599423283200 : UInt64).toNat) = _
  rw [xu_N (by omega) hm]
  unfold FP.Core.mul
  rw [dec_XB (by omega) hm, dec_52]
  show UInt64.ofNat (FP.Core.encode FP.Core.b64 (FP.Core.roundRatio FP.Core.b64 false ((4503599627370496 + m) * 4503599627370496) 1 ((e : Int) - 1074 + 0))) = _
  have n0 : (4503599627370496 + m) * 4503599627370496 ≠ 0 := by omega
  have lg : ((4503599627370496 + m) * 4503599627370496).log2 = 104 := log2_of (by omega) (by omega)
  rw [rr_v (c := 4503599627370496 + m) (q := (e : Int) - 1022) n0 (by rw [lead_1 n0, lg]; omega) (by omega) (by omega) (by omega) (by
    rw [show ((e : Int) - 1074 + 0 - ((e : Int) - 1022)).toNat = 0 by omega, show ((e : Int) - 1022 - ((e : Int) - 1074 + 0)).toNat = 52 by omega]
    rw [Nat.pow_zero, Nat.mul_one, Nat.one_mul]
    exact near_mul _ _ (by decide)), enc_XB (e := e + 52) (by omega) (by omega)]
  unfold xu
  rw [Nat.add_sub_cancel_left]
theorem rr_0 (den : Nat) (e : Int) : FP.Core.roundRatio FP.Core.b64 false 0 den e = .fin false 0 (-1074) := by
  unfold FP.Core.roundRatio
  rw [if_pos rfl, f_qmin]
theorem enc_0 : FP.Core.encode FP.Core.b64 (.fin false 0 (-1074)) = 0 := by
  unfold FP.Core.encode FP.Core.assemble
  dsimp only
  rw [f_tails, if_pos (by decide)]
  show (0 * _ + 0) * _ + 0 = 0
  omega
theorem dsub_sum {m : Nat} : FP.Core.exactSum (.fin false (4503599627370496 + m) (((1022 : Nat) : Int) - 1074)) (FP.Core.negate (.fin false 4503599627370496 (-52))) = .fin false m (-52) := by
  show FP.Core.Datum.fin (FP.Core.sumSign false true (FP.Core.sumUnits false (4503599627370496 + m) (-52) true 4503599627370496 (-52) (-52))) (FP.Core.sumUnits false (4503599627370496 + m) (-52) true 4503599627370496 (-52) (-52)).natAbs (-52) = _
  have v : FP.Core.sumUnits false (4503599627370496 + m) (-52) true 4503599627370496 (-52) (-52) = (m : Int) := by
    unfold FP.Core.sumUnits FP.Core.signed FP.Core.inUnits
    rw [show ((-52 : Int) - -52).toNat = 0 from rfl, Nat.pow_zero, Nat.mul_one, Nat.mul_one, if_neg (by decide), if_pos rfl]
    omega
  rw [v]
  have s : FP.Core.sumSign false true (m : Int) = false := by
    unfold FP.Core.sumSign
    by_cases q : (m : Int) = 0
    · rw [if_pos q]; rfl
    · rw [if_neg q]; exact decide_eq_false (by omega)
  rw [s]
  rfl
theorem dsub_0 : FP.dsub (xu 1022 0) FP.dconst1 = 0 := by
  show UInt64.ofNat (FP.Core.sub FP.Core.b64 (xu 1022 0).toNat (FP.dconst1).toNat) = _
  rw [xu_N (by omega) (by omega)]
  unfold FP.Core.sub
  rw [dec_XB (by omega) (by omega), dec_1, dsub_sum]
  show UInt64.ofNat (FP.Core.encode FP.Core.b64 (FP.Core.roundRatio FP.Core.b64 false 0 1 (-52))) = _
  rw [rr_0, enc_0]
  rfl
theorem dsub_m {m : Nat} (hm : m < 4503599627370496) (m0 : m ≠ 0) : FP.dsub (xu 1022 m) FP.dconst1 = xu (m.log2 + 970) (m * 2 ^ (52 - m.log2) - 4503599627370496) := by
  have l51 : m.log2 < 52 := (Nat.log2_lt m0).mpr (by omega)
  have nn := norm_N m0 (by omega)
  show UInt64.ofNat (FP.Core.sub FP.Core.b64 (xu 1022 m).toNat (FP.dconst1).toNat) = _
  rw [xu_N (by omega) hm]
  unfold FP.Core.sub
  rw [dec_XB (by omega) hm, dec_1, dsub_sum]
  show UInt64.ofNat (FP.Core.encode FP.Core.b64 (FP.Core.roundRatio FP.Core.b64 false m 1 (-52))) = _
  rw [rr_v (c := m * 2 ^ (52 - m.log2)) (q := (m.log2 : Int) - 104) m0 (by rw [lead_1 m0]; omega) (by omega) (by omega) nn.2 (by
    rw [show ((-52 : Int) - ((m.log2 : Int) - 104)).toNat = 52 - m.log2 by omega, show ((m.log2 : Int) - 104 - -52).toNat = 0 by omega, Nat.pow_zero, Nat.one_mul]
    exact near_1 _), enc_XB (e := m.log2 + 970) nn.1 (by omega)]
  rfl
theorem d2l_m {m : Nat} (hm : m < 4503599627370496) (m0 : m ≠ 0) : FP.d2l (xu (m.log2 + 1022) (m * 2 ^ (52 - m.log2) - 4503599627370496)) = Int64.ofNat m := by
  have l51 : m.log2 < 52 := (Nat.log2_lt m0).mpr (by omega)
  have nn := norm_N m0 (by omega)
  show FP.Core.toL (FP.Core.decode FP.Core.b64 (xu (m.log2 + 1022) (m * 2 ^ (52 - m.log2) - 4503599627370496)).toNat) = _
  rw [xu_N (by omega) (by omega), dec_XB (by omega) (by omega), show 4503599627370496 + (m * 2 ^ (52 - m.log2) - 4503599627370496) = m * 2 ^ (52 - m.log2) by omega]
  unfold FP.Core.toL FP.Core.toInt FP.Core.truncate FP.Core.signed
  dsimp only
  rw [show (((m.log2 + 1022 : Nat) : Int) - 1074).toNat = 0 by omega, show (-(((m.log2 + 1022 : Nat) : Int) - 1074)).toNat = 52 - m.log2 by omega, Nat.pow_zero, Nat.mul_one, Nat.mul_div_cancel _ (Nat.two_pow_pos _), if_neg (by decide), show max (-2 ^ 63 : Int) (min (2 ^ 63 - 1) (m : Int)) = (m : Int) by omega]
  rfl
theorem d2l_0 : FP.d2l 0 = 0 := by
  show FP.Core.toL (FP.Core.decode FP.Core.b64 (FP.dconst0).toNat) = _
  rw [dec_0]
  unfold FP.Core.toL FP.Core.toInt FP.Core.truncate FP.Core.signed
  dsimp only
  rw [Nat.zero_mul, Nat.zero_div, if_neg (by decide)]
  rfl
theorem sh_52 : ∀ k : Fin 40, (Int64.ofNat (k.val + 1000)) <<< ((52 : Int32).toInt64 &&& 63) = Int64.ofNat ((k.val + 1000) * 4503599627370496) := by decide
theorem jb50_v {k m : Nat} (k1 : 1000 ≤ k) (k2 : k < 1040) (hm : m < 4503599627370496) (h : Hst) : jb_X6_bitsOf_50 (xu 1022 m) (Int64.ofNat k) h = some (Int64.ofNat (k * 4503599627370496 + m), h) := by
  have sh := sh_52 ⟨k - 1000, by omega⟩
  dsimp only at sh
  rw [show k - 1000 + 1000 = k by omega] at sh
  unfold jb_X6_bitsOf_50
  rw [sh]
  by_cases m0 : m = 0
  · subst m0
    have z : FP.dmul 0 4841369599423283200 = 0 := by decide
    rw [dsub_0, z, gnn_0, gnn_0, d2l_0, Nat.add_zero, Int64.add_zero]
  · have l51 : m.log2 < 52 := (Nat.log2_lt m0).mpr (by omega)
    have nn := norm_N m0 (by omega)
    rw [dsub_m hm m0, dmul_52 (by omega) (by omega), gnn_xu (by omega) (by omega), gnn_xu (by omega) (by omega), d2l_m hm m0, ← Int64.ofNat_add]
theorem bits_lp {m k : Nat} (hm : m < 4503599627370496) : ∀ (j e s n : Nat) (h : Hst), e + j = 1022 → s + j ≤ 900 → j < n → lp_X6_bitsOf_18 n (xu e m) (Int64.ofNat (k + j)) (nI s) h = jb_X6_bitsOf_50 (xu 1022 m) (Int64.ofNat k) h
  | 0, e, s, n + 1, h, he, hs, _ => by
    have e2 : e = 1022 := by omega
    subst e2
    rw [lp_X6_bitsOf_18, if_neg (show ¬ (1000 : Int32) ≤ nI s from nI_ge (b := 1000) (by omega) (by decide))]
    rcases dcmp_ge1 hm with d | d
    · rw [d, if_pos (show (0 : Int32) ≤ Op.cmpValue (some .eq) .g by decide)]
      rfl
    · rw [d, if_pos (show (0 : Int32) ≤ Op.cmpValue (some .gt) .g by decide)]
      rfl
  | j + 1, e, s, n + 1, h, he, hs, hn => by
    rw [lp_X6_bitsOf_18, if_neg (show ¬ (1000 : Int32) ≤ nI s from nI_ge (b := 1000) (by omega) (by decide)), dcmp_lt1 (by omega) hm, if_neg (show ¬ (0 : Int32) ≤ Op.cmpValue (some .lt) .g by decide), dmul_2 (by omega) hm, gnn_xu (by omega) hm, gl_eq, gl_eq, nI_1,
      show Int64.ofNat (k + (j + 1)) - 1 = Int64.ofNat (k + j) by rw [← Nat.add_assoc, Int64.ofNat_add]; exact Int64.add_sub_cancel (Int64.ofNat (k + j)) (Int64.ofNat 1)]
    exact bits_lp hm j (e + 1) (s + 1) n h (by omega) (by omega) (by omega)
/-- a share: nothing, or a double from 2 to the power of -23 to 1 -/
def isSh (x : UInt64) : Prop := x = 0 ∨ ∃ e m, x = xu e m ∧ 1000 ≤ e ∧ e ≤ 1022 ∧ m < 4503599627370496
theorem bits_C {x : UInt64} (hx : isSh x) (h : Hst) : f_X6_bitsOf x h = some (UInt64.toInt64 x, h) := by
  unfold f_X6_bitsOf
  rcases hx with rfl | ⟨e, m, rfl, e1, e2, hm⟩
  · rw [show FP.dcmp 0 FP.dconst0 = some .eq by decide, if_neg (show ¬ (0 : Int32) < Op.cmpValue (some .eq) .l by decide)]
    rfl
  · rw [dcmp_gt0 (by omega) hm, if_pos (show (0 : Int32) < Op.cmpValue (some .gt) .l by decide)]
    have := bits_lp (k := e + 1) hm (1022 - e) e 0 FU h (by omega) (by omega) (Nat.lt_of_le_of_lt (by omega : _ ≤ 30) (by decide))
    rw [show e + 1 + (1022 - e) = 1023 by omega] at this
    rw [show (1023 : Int64) = Int64.ofNat 1023 from rfl, show (0 : Int32) = nI 0 from rfl, this, jb50_v (by omega) (by omega) hm]
    rfl
theorem bits_M {x : UInt64} (hx : isSh x) (h : Hst) : f_Jxe99ae_doubleToLongBits_ccdee x h = some (UInt64.toInt64 x, h) := by
  have e : FP.dcmp x x = some .eq := by
    rcases hx with rfl | ⟨e, m, rfl, e1, e2, hm⟩
    · decide
    · exact dcmp_self (by omega) hm
  unfold f_Jxe99ae_doubleToLongBits_ccdee f_Jxe99ae_isNaN_b9ae7 jb_Jxe99ae_isNaN_b9ae7_11
  rw [e, if_pos (show Op.cmpValue (some .eq) .l = 0 from rfl), gzr_0, gb_some, if_pos rfl]
theorem gnn_sh {β : Type} {x : UInt64} (hx : isSh x) (y : Option β) : gnn x y = y := by
  rcases hx with rfl | ⟨e, m, rfl, e1, e2, hm⟩
  · exact gnn_0 y
  · exact gnn_xu (by omega) hm y
