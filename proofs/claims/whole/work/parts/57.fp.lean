-- doubles from 2 to the power of -70 to 1
theorem f_tails : FP.Core.Fmt.tails FP.Core.b64 = 4503599627370496 := by decide
theorem f_exps : FP.Core.Fmt.exps FP.Core.b64 = 2048 := by decide
theorem f_qmin : FP.Core.Fmt.qmin FP.Core.b64 = -1074 := by decide
theorem f_qmax : FP.Core.Fmt.qmax FP.Core.b64 = 971 := by decide
theorem f_p : FP.Core.b64.p = 53 := rfl
theorem f_c : (2 : Nat) ^ FP.Core.b64.p = 9007199254740992 := by decide
/-- the bits of (2^52 + m) * 2^(e - 1074) -/
def XB (e m : Nat) : Nat := (e + 1) * 4503599627370496 + m
theorem log2_of {n L : Nat} (h1 : 2 ^ L ≤ n) (h2 : n < 2 ^ (L + 1)) : n.log2 = L := by
  have n0 : n ≠ 0 := by
    have := Nat.two_pow_pos L
    omega
  have a := (Nat.le_log2 n0).mpr h1
  have b := (Nat.log2_lt n0).mpr h2
  omega
theorem dec_XB {e m : Nat} (he : e ≤ 1200) (hm : m < 4503599627370496) : FP.Core.decode FP.Core.b64 (XB e m) = .fin false (4503599627370496 + m) ((e : Int) - 1074) := by
  have hE : FP.Core.fieldE FP.Core.b64 (XB e m) = e + 1 := by
    unfold FP.Core.fieldE XB
    rw [f_tails, f_exps]
    omega
  have hT : FP.Core.fieldT FP.Core.b64 (XB e m) = m := by
    unfold FP.Core.fieldT XB
    rw [f_tails]
    omega
  have hS : FP.Core.fieldS FP.Core.b64 (XB e m) = false := by
    unfold FP.Core.fieldS XB
    rw [f_tails, f_exps]
    have : ((e + 1) * 4503599627370496 + m) / 4503599627370496 / 2048 % 2 = 0 := by omega
    rw [this]
    rfl
  unfold FP.Core.decode
  rw [hE, hT, hS, f_exps, f_tails, f_qmin, if_neg (by omega), if_neg (by omega)]
  congr 1
  omega
theorem enc_XB {c e : Nat} {q : Int} (hc : 4503599627370496 ≤ c) (hq : q = (e : Int) - 1074) : FP.Core.encode FP.Core.b64 (.fin false c q) = XB e (c - 4503599627370496) := by
  unfold FP.Core.encode FP.Core.assemble XB
  dsimp only
  rw [f_tails, f_qmin, if_neg (by omega), show (q - -1074).toNat = e by omega]
  show (0 * _ + (e + 1)) * _ + _ = _
  rw [Nat.zero_mul, Nat.zero_add]
theorem lead_1 {n : Nat} (h : n ≠ 0) : FP.Core.leading n 1 = (n.log2 : Int) := by
  unfold FP.Core.leading
  have l1 : Nat.log2 1 = 0 := by decide
  rw [l1]
  have e1 : ((n.log2 : Int) - ((0 : Nat) : Int)) = (n.log2 : Int) := by omega
  dsimp only
  rw [e1, show ((n.log2 : Int)).toNat = n.log2 from rfl, show (-(n.log2 : Int)).toNat = 0 by omega, if_pos]
  have := Nat.log2_self_le h
  omega
theorem near_1 (n : Nat) : FP.Core.nearest n 1 = n := by
  unfold FP.Core.nearest
  rw [Nat.mod_one, if_pos (by decide), Nat.div_one]
theorem near_mul (c d : Nat) (hd : 0 < d) : FP.Core.nearest (c * d) d = c := by
  unfold FP.Core.nearest
  rw [Nat.mul_mod_left, if_pos (by omega), Nat.mul_div_cancel _ hd]
theorem rr_v {num den c : Nat} {e q : Int} (hn : num ≠ 0) (hl : FP.Core.leading num den + e - 52 = q) (q1 : -1074 ≤ q) (q2 : q ≤ 971) (hc : c < 9007199254740992) (hne : FP.Core.nearest (num * 2 ^ (e - q).toNat) (den * 2 ^ (q - e).toNat) = c) : FP.Core.roundRatio FP.Core.b64 false num den e = .fin false c q := by
  unfold FP.Core.roundRatio
  rw [if_neg hn]
  have qu : FP.Core.quantum FP.Core.b64 num den e = q := by
    unfold FP.Core.quantum
    rw [f_qmin, f_p]
    omega
  unfold FP.Core.roundAt FP.Core.settle FP.Core.unitsNum FP.Core.unitsDen FP.Core.bound
  rw [qu, hne, f_c, if_pos hc, f_qmax, if_pos q2]
def xu (e m : Nat) : UInt64 := UInt64.ofNat (XB e m)
theorem xu_N {e m : Nat} (he : e ≤ 1200) (hm : m < 4503599627370496) : (xu e m).toNat = XB e m := by
  unfold xu
  rw [UInt64.toNat_ofNat']
  unfold XB
  omega
theorem gnn_xu {β : Type} {e m : Nat} (he : e ≤ 1200) (hm : m < 4503599627370496) (x : Option β) : gnn (xu e m) x = x := by
  unfold gnn
  rw [if_pos]
  rw [UInt64.le_iff_toNat_le, UInt64.toNat_and, xu_N he hm, show (0x7fffffffffffffff : UInt64).toNat = 2 ^ 63 - 1 from rfl, Nat.and_two_pow_sub_one_eq_mod, show (0x7ff0000000000000 : UInt64).toNat = 9218868437227405312 from rfl]
  unfold XB
  omega
theorem gnn_0 {β : Type} (x : Option β) : gnn 0 x = x := by
  unfold gnn
  rw [if_pos (by decide)]
/-- doubling -/
theorem dmul_2 {e m : Nat} (he : e ≤ 1100) (hm : m < 4503599627370496) : FP.dmul (xu e m) 4611686018427387904 = xu (e + 1) m := by
  show UInt64.ofNat (FP.Core.mul FP.Core.b64 (xu e m).toNat (4611686018427387904 : UInt64).toNat) = _
  rw [xu_N (by omega) hm]
  unfold FP.Core.mul
  have d2 : FP.Core.decode FP.Core.b64 (4611686018427387904 : UInt64).toNat = .fin false 4503599627370496 (-51) := by decide
  rw [dec_XB (by omega) hm, d2]
  show UInt64.ofNat (FP.Core.encode FP.Core.b64 (FP.Core.roundRatio FP.Core.b64 false ((4503599627370496 + m) * 4503599627370496) 1 ((e : Int) - 1074 + -51))) = _
  have n0 : (4503599627370496 + m) * 4503599627370496 ≠ 0 := by omega
  have lg : ((4503599627370496 + m) * 4503599627370496).log2 = 104 := log2_of (by omega) (by omega)
  rw [rr_v (c := 4503599627370496 + m) (q := (e : Int) - 1073) n0 (by rw [lead_1 n0, lg]; omega) (by omega) (by omega) (by omega) (by
    rw [show ((e : Int) - 1074 + -51 - ((e : Int) - 1073)).toNat = 0 by omega, show ((e : Int) - 1073 - ((e : Int) - 1074 + -51)).toNat = 52 by omega]
    rw [Nat.pow_zero, Nat.mul_one, Nat.one_mul]
    exact near_mul _ _ (by decide)), enc_XB (e := e + 1) (by omega) (by omega)]
  unfold xu
  rw [Nat.add_sub_cancel_left]
theorem cmp_lt {a b : Int} (h : a < b) : compare a b = .lt := by
  show compareOfLessAndEq a b = _
  unfold compareOfLessAndEq
  rw [if_pos h]
theorem cmp_eq {a b : Int} (h : a = b) : compare a b = .eq := by
  show compareOfLessAndEq a b = _
  unfold compareOfLessAndEq
  rw [if_neg (by omega), if_pos h]
theorem cmp_gt {a b : Int} (h : b < a) : compare a b = .gt := by
  show compareOfLessAndEq a b = _
  unfold compareOfLessAndEq
  rw [if_neg (by omega), if_neg (by omega)]
theorem dcmp_v {x y : UInt64} {c d : Nat} {q r : Int} (hx : FP.Core.decode FP.Core.b64 x.toNat = .fin false c q) (hy : FP.Core.decode FP.Core.b64 y.toNat = .fin false d r) : FP.dcmp x y = some (compare ((FP.Core.inUnits c q (min q r) : Nat) : Int) ((FP.Core.inUnits d r (min q r) : Nat) : Int)) := by
  show FP.Core.order (FP.Core.decode FP.Core.b64 x.toNat) (FP.Core.decode FP.Core.b64 y.toNat) = _
  rw [hx, hy]
  rfl
theorem dec_1 : FP.Core.decode FP.Core.b64 (FP.dconst1).toNat = .fin false 4503599627370496 (-52) := by decide
theorem dec_0 : FP.Core.decode FP.Core.b64 (FP.dconst0).toNat = .fin false 0 (-1074) := by decide
theorem dcmp_lt1 {e m : Nat} (he : e < 1022) (hm : m < 4503599627370496) : FP.dcmp (xu e m) FP.dconst1 = some .lt := by
  rw [dcmp_v (by rw [xu_N (by omega) hm, dec_XB (by omega) hm]) dec_1, cmp_lt]
  unfold FP.Core.inUnits
  rw [show min ((e : Int) - 1074) (-52) = (e : Int) - 1074 by omega, show ((e : Int) - 1074 - ((e : Int) - 1074)).toNat = 0 by omega, Nat.pow_zero, Nat.mul_one]
  obtain ⟨k, hk⟩ : ∃ k, ((-52 : Int) - ((e : Int) - 1074)).toNat = k + 1 := ⟨((-52 : Int) - ((e : Int) - 1074)).toNat - 1, by omega⟩
  rw [hk, Nat.pow_succ]
  have := Nat.two_pow_pos k
  have h2 : 4503599627370496 * 2 ≤ 4503599627370496 * (2 ^ k * 2) := Nat.mul_le_mul_left _ (by omega)
  omega
theorem dcmp_ge1 {m : Nat} (hm : m < 4503599627370496) : FP.dcmp (xu 1022 m) FP.dconst1 = some .eq ∨ FP.dcmp (xu 1022 m) FP.dconst1 = some .gt := by
  rw [dcmp_v (by rw [xu_N (by omega) hm, dec_XB (by omega) hm]) dec_1]
  have e1 : FP.Core.inUnits (4503599627370496 + m) (((1022 : Nat) : Int) - 1074) (min (((1022 : Nat) : Int) - 1074) (-52)) = 4503599627370496 + m := by
    unfold FP.Core.inUnits
    rw [show ((((1022 : Nat) : Int) - 1074) - min (((1022 : Nat) : Int) - 1074) (-52)).toNat = 0 from rfl, Nat.pow_zero, Nat.mul_one]
  have e2 : FP.Core.inUnits 4503599627370496 (-52) (min (((1022 : Nat) : Int) - 1074) (-52)) = 4503599627370496 := by
    unfold FP.Core.inUnits
    rw [show ((-52 : Int) - min (((1022 : Nat) : Int) - 1074) (-52)).toNat = 0 from rfl, Nat.pow_zero, Nat.mul_one]
  rw [e1, e2]
  by_cases h : m = 0
  · left; rw [cmp_eq (by omega)]
  · right; rw [cmp_gt (by omega)]
theorem dcmp_gt0 {e m : Nat} (he : e ≤ 1100) (hm : m < 4503599627370496) : FP.dcmp (xu e m) FP.dconst0 = some .gt := by
  rw [dcmp_v (by rw [xu_N (by omega) hm, dec_XB (by omega) hm]) dec_0, cmp_gt]
  unfold FP.Core.inUnits
  rw [Nat.zero_mul]
  have := Nat.two_pow_pos (((e : Int) - 1074) - min ((e : Int) - 1074) (-1074)).toNat
  have := Nat.mul_pos (show 0 < 4503599627370496 + m by omega) this
  omega
theorem dcmp_self {e m : Nat} (he : e ≤ 1100) (hm : m < 4503599627370496) : FP.dcmp (xu e m) (xu e m) = some .eq := by
  have d : FP.Core.decode FP.Core.b64 (xu e m).toNat = .fin false (4503599627370496 + m) ((e : Int) - 1074) := by rw [xu_N (by omega) hm, dec_XB (by omega) hm]
  rw [dcmp_v d d, cmp_eq rfl]
