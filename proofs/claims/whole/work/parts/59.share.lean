-- the share of good oil
theorem rr_c {num den : Nat} {e q : Int} (hn : num ≠ 0) (hl : FP.Core.leading num den + e - 52 = q) (q1 : -1074 ≤ q) (q2 : q + 1 ≤ 971) (hne : FP.Core.nearest (num * 2 ^ (e - q).toNat) (den * 2 ^ (q - e).toNat) = 9007199254740992) : FP.Core.roundRatio FP.Core.b64 false num den e = .fin false 4503599627370496 (q + 1) := by
  unfold FP.Core.roundRatio
  rw [if_neg hn]
  have qu : FP.Core.quantum FP.Core.b64 num den e = q := by
    unfold FP.Core.quantum
    rw [f_qmin, f_p]
    omega
  unfold FP.Core.roundAt FP.Core.settle FP.Core.unitsNum FP.Core.unitsDen FP.Core.bound
  rw [qu, hne, f_c, if_neg (by decide), f_qmax, if_pos q2, f_tails]
theorem near_b (n d : Nat) : FP.Core.nearest n d = n / d ∨ FP.Core.nearest n d = n / d + 1 := by
  unfold FP.Core.nearest
  by_cases a : 2 * (n % d) < d
  · rw [if_pos a]; exact .inl rfl
  · rw [if_neg a]
    by_cases b : d < 2 * (n % d)
    · rw [if_pos b]; exact .inr rfl
    · rw [if_neg b]
      have : n / d % 2 = 0 ∨ n / d % 2 = 1 := by omega
      rcases this with h | h
      · rw [h]; exact .inl rfl
      · rw [h]; exact .inr rfl
def nrm (n : Nat) : Nat := n * 2 ^ (52 - n.log2)
theorem i2d_v {n : Nat} (h0 : n ≠ 0) (h1 : n ≤ 120000) : FP.i2d (nI n) = xu (n.log2 + 1022) (nrm n - 4503599627370496) := by
  have l : n.log2 < 17 := (Nat.log2_lt h0).mpr (by omega)
  have nn := norm_N h0 (by omega)
  change 4503599627370496 ≤ nrm n ∧ nrm n < 9007199254740992 at nn
  show UInt64.ofNat (FP.Core.fromInt FP.Core.b64 (nI n).toInt) = _
  rw [nI_toInt (by omega)]
  unfold FP.Core.fromInt FP.Core.ofInt
  rw [show decide ((n : Int) < 0) = false from decide_eq_false (by omega), Int.natAbs_natCast]
  show UInt64.ofNat (FP.Core.encode FP.Core.b64 (FP.Core.roundRatio FP.Core.b64 false n 1 0)) = _
  rw [rr_v (c := nrm n) (q := (n.log2 : Int) - 52) h0 (by rw [lead_1 h0]; omega) (by omega) (by omega) nn.2 (by
    rw [show ((0 : Int) - ((n.log2 : Int) - 52)).toNat = 52 - n.log2 by omega, show ((n.log2 : Int) - 52 - 0).toNat = 0 by omega, Nat.pow_zero, Nat.one_mul]
    exact near_1 _), enc_XB (e := n.log2 + 1022) nn.1 (by omega)]
  rfl
theorem lead_n {c d : Nat} (hc1 : 4503599627370496 ≤ c) (hc2 : c < 9007199254740992) (hd1 : 4503599627370496 ≤ d) (hd2 : d < 9007199254740992) : FP.Core.leading c d = if d ≤ c then 0 else -1 := by
  have lc : c.log2 = 52 := log2_of (by omega) (by omega)
  have ld : d.log2 = 52 := log2_of (by omega) (by omega)
  unfold FP.Core.leading
  rw [lc, ld]
  dsimp only
  rw [show (((52 : Nat) : Int) - ((52 : Nat) : Int)) = 0 by omega, show ((0 : Int)).toNat = 0 from rfl, show (-(0 : Int)).toNat = 0 from rfl, Nat.pow_zero, Nat.mul_one, Nat.mul_one]
  split <;> rfl
theorem log2_mono {a b : Nat} (ha : a ≠ 0) (h : a ≤ b) : a.log2 ≤ b.log2 := by
  have := Nat.log2_self_le ha
  exact (Nat.le_log2 (by omega)).mpr (by omega)
theorem ddiv_v {a b : Nat} (ha : a ≠ 0) (hab : a ≤ b) (hb : b ≤ 120000) : isSh (FP.ddiv (FP.i2d (nI a)) (FP.i2d (nI b))) := by
  have la : a.log2 < 17 := (Nat.log2_lt ha).mpr (by omega)
  have b0 : b ≠ 0 := by omega
  have lb : b.log2 < 17 := (Nat.log2_lt b0).mpr (by omega)
  have lm := log2_mono ha hab
  have na := norm_N ha (by omega)
  have nb := norm_N b0 (by omega)
  change 4503599627370496 ≤ nrm a ∧ nrm a < 9007199254740992 at na
  change 4503599627370496 ≤ nrm b ∧ nrm b < 9007199254740992 at nb
  rw [i2d_v ha (by omega), i2d_v b0 hb]
  have dv : FP.ddiv (xu (a.log2 + 1022) (nrm a - 4503599627370496)) (xu (b.log2 + 1022) (nrm b - 4503599627370496)) = UInt64.ofNat (FP.Core.encode FP.Core.b64 (FP.Core.roundRatio FP.Core.b64 false (nrm a) (nrm b) ((a.log2 : Int) - (b.log2 : Int)))) := by
    show UInt64.ofNat (FP.Core.div FP.Core.b64 (xu (a.log2 + 1022) (nrm a - 4503599627370496)).toNat (xu (b.log2 + 1022) (nrm b - 4503599627370496)).toNat) = _
    rw [xu_N (by omega) (by omega), xu_N (by omega) (by omega)]
    unfold FP.Core.div
    rw [dec_XB (by omega) (by omega), dec_XB (by omega) (by omega), show 4503599627370496 + (nrm a - 4503599627370496) = nrm a by omega, show 4503599627370496 + (nrm b - 4503599627370496) = nrm b by omega]
    show UInt64.ofNat (FP.Core.encode FP.Core.b64 (if nrm b = 0 then _ else FP.Core.roundRatio FP.Core.b64 false (nrm a) (nrm b) ((((a.log2 + 1022 : Nat) : Int) - 1074) - (((b.log2 + 1022 : Nat) : Int) - 1074)))) = _
    rw [if_neg (by omega), show (((a.log2 + 1022 : Nat) : Int) - 1074) - (((b.log2 + 1022 : Nat) : Int) - 1074) = (a.log2 : Int) - (b.log2 : Int) by omega]
  rw [dv]
  -- what is rounded, at an exponent
  have fin : ∀ (q : Int) (X : Nat), FP.Core.leading (nrm a) (nrm b) + ((a.log2 : Int) - (b.log2 : Int)) - 52 = q → -74 ≤ q → q ≤ -52 → ((a.log2 : Int) - (b.log2 : Int) - q).toNat = X → (q - ((a.log2 : Int) - (b.log2 : Int))).toNat = 0 → 4503599627370496 ≤ nrm a * 2 ^ X / nrm b → nrm a * 2 ^ X / nrm b < 9007199254740992 → (FP.Core.nearest (nrm a * 2 ^ X) (nrm b) = 9007199254740992 → q < -52) → isSh (UInt64.ofNat (FP.Core.encode FP.Core.b64 (FP.Core.roundRatio FP.Core.b64 false (nrm a) (nrm b) ((a.log2 : Int) - (b.log2 : Int))))) := fun q X hl q1 q2 hX h0 n1 n2 hc => by
    have nr := near_b (nrm a * 2 ^ X) (nrm b)
    by_cases c : FP.Core.nearest (nrm a * 2 ^ X) (nrm b) = 9007199254740992
    · have q3 := hc c
      rw [rr_c (q := q) (by omega) hl (by omega) (by omega) (by rw [hX, h0, Nat.pow_zero, Nat.mul_one]; exact c), enc_XB (e := (q + 1 + 1074).toNat) (by omega) (by omega)]
      exact .inr ⟨(q + 1 + 1074).toNat, _, rfl, by omega, by omega, by omega⟩
    · rw [rr_v (c := FP.Core.nearest (nrm a * 2 ^ X) (nrm b)) (q := q) (by omega) hl (by omega) (by omega) (by omega) (by rw [hX, h0, Nat.pow_zero, Nat.mul_one]), enc_XB (e := (q + 1074).toNat) (by omega) (by omega)]
      exact .inr ⟨(q + 1074).toNat, _, rfl, by omega, by omega, by omega⟩
  have ld := lead_n na.1 na.2 nb.1 nb.2
  by_cases c : nrm b ≤ nrm a
  · rw [if_pos c] at ld
    refine fin ((a.log2 : Int) - (b.log2 : Int) - 52) 52 (by rw [ld]; omega) (by omega) (by omega) (by omega) (by omega) ?_ ?_ (fun hn => ?_)
    · rw [Nat.le_div_iff_mul_le (by omega), Nat.mul_comm]
      exact Nat.mul_le_mul c (by decide)
    · rw [Nat.div_lt_iff_lt_mul (by omega), show (2 : Nat) ^ 52 = 4503599627370496 by decide]
      omega
    · by_cases q : a.log2 = b.log2
      · exfalso
        have ab : a = b := by
          unfold nrm at c
          rw [q] at c
          have := Nat.le_of_mul_le_mul_right c (Nat.two_pow_pos _)
          omega
        subst ab
        rw [Nat.mul_comm, near_mul _ _ (by omega)] at hn
        exact absurd hn (by decide)
      · omega
  · rw [if_neg c] at ld
    refine fin ((a.log2 : Int) - (b.log2 : Int) - 53) 53 (by rw [ld]; omega) (by omega) (by omega) (by omega) (by omega) ?_ ?_ (fun hn => by omega)
    · rw [Nat.le_div_iff_mul_le (by omega), show (2 : Nat) ^ 53 = 9007199254740992 by decide]
      omega
    · rw [Nat.div_lt_iff_lt_mul (by omega), show (2 : Nat) ^ 53 = 9007199254740992 by decide, Nat.mul_comm]
      exact Nat.mul_lt_mul_of_pos_left (by omega) (by decide)
theorem ddiv_0 {b : Nat} (b0 : b ≠ 0) (hb : b ≤ 120000) : FP.ddiv (FP.i2d (nI 0)) (FP.i2d (nI b)) = 0 := by
  have lb : b.log2 < 17 := (Nat.log2_lt b0).mpr (by omega)
  have nb := norm_N b0 (by omega)
  change 4503599627370496 ≤ nrm b ∧ nrm b < 9007199254740992 at nb
  have z : FP.i2d (nI 0) = 0 := by decide
  rw [z, i2d_v b0 hb]
  show UInt64.ofNat (FP.Core.encode FP.Core.b64 (FP.Core.quotient FP.Core.b64 (FP.Core.decode FP.Core.b64 (FP.dconst0).toNat) (FP.Core.decode FP.Core.b64 (xu (b.log2 + 1022) (nrm b - 4503599627370496)).toNat))) = _
  rw [dec_0, xu_N (by omega) (by omega), dec_XB (by omega) (by omega), show 4503599627370496 + (nrm b - 4503599627370496) = nrm b by omega]
  show UInt64.ofNat (FP.Core.encode FP.Core.b64 (if nrm b = 0 then _ else FP.Core.roundRatio FP.Core.b64 false 0 (nrm b) _)) = _
  rw [if_neg (by omega), rr_0, enc_0]
  rfl
theorem sum_ab {f f' : Nat → Int32} : ∀ (m i : Nat), (∀ j, i ≤ j → j < i + m → ∃ x y : Nat, f' j = nI x ∧ f j = nI y ∧ x ≤ y ∧ y ≤ 20000) → ∃ a b : Nat, (∀ x, sumF f' m i (nI x) = nI (x + a)) ∧ (∀ x, sumF f m i (nI x) = nI (x + b)) ∧ a ≤ b ∧ b ≤ 20000 * m
  | 0, i, _ => ⟨0, 0, fun _ => rfl, fun _ => rfl, Nat.le_refl _, Nat.le_refl _⟩
  | m + 1, i, h => by
    obtain ⟨a, b, ea, eb, ab, b1⟩ := sum_ab m (i + 1) (fun j h1 h2 => h j (by omega) (by omega))
    obtain ⟨x, y, ex, ey, xy, y1⟩ := h i (Nat.le_refl _) (by omega)
    refine ⟨x + a, y + b, fun w => ?_, fun w => ?_, by omega, by omega⟩
    · rw [sumF, ex, nI_add, ea, Nat.add_assoc]
    · rw [sumF, ey, nI_add, eb, Nat.add_assoc]
theorem share_v {c z : Nat → Int32} {ng nl nt : Nat} (I : InvC c ng nl nt) (R : RelCZ c z nl) : ∃ x, isSh x ∧ (∀ h, h.1 8 = c → f_X6_goodShare h = some (x, h)) ∧ ∀ h, h.1 18 = z → f_X7_share h = some (x, h) := by
  have hT := I.2.2.2.2.2.2.2.2.2
  have e0 : og c 0 = oil5 c := by
    funext t
    unfold og
    rw [if_pos rfl]
  obtain ⟨a, b, ea, eb, ab, b1⟩ := sum_ab (f := lft (oil5 c)) (f' := lft (og c 1)) 6 0 (fun j _ hj => by
    obtain ⟨o, s, o1, s1, eo, -⟩ := oil5_N (hT ⟨j, by omega⟩)
    rw [lft_at _ j (by omega), lft_at _ j (by omega), eo]
    unfold og
    rw [if_neg (by decide), eo]
    by_cases q : grd (nI o) (cTa c ⟨j, by omega⟩ 1) = 0
    · rw [if_pos q]; exact ⟨o, o, rfl, rfl, Nat.le_refl _, by omega⟩
    · rw [if_neg q]; exact ⟨0, o, rfl, rfl, Nat.zero_le _, by omega⟩)
  have ea' : sumF (lft (og c 1)) 6 0 0 = nI a := by
    have := ea 0
    rw [Nat.zero_add] at this
    exact this
  have eb' : sumF (lft (oil5 c)) 6 0 0 = nI b := by
    have := eb 0
    rw [Nat.zero_add] at this
    exact this
  have gC : ∀ h : Hst, h.1 8 = c → f_X1_oilOfGrade 0 h = some (nI a, h) := fun h e => by
    unfold f_X1_oilOfGrade
    rw [show lp_X1_oilOfGrade_4 FU 0 0 0 h = lp_X1_oilOfGrade_4 FU 0 0 (nI 0) h from rfl, oilOfGrade_4 hT 6 0 FU 0 h e rfl (by decide), ea']
  by_cases b0 : b = 0
  · refine ⟨0, .inl rfl, fun h e => ?_, fun h e => ?_⟩
    · unfold f_X6_goodShare
      rw [allOil_v, gb_some, e, eb', b0, if_pos (show nI 0 = 0 from rfl)]
      rfl
    · unfold f_X7_share jb_X7_share_23
      rw [sumOil_v I R 0 h e, gb_some, e0, eb', b0, if_pos (show nI 0 = 0 from rfl)]
      rfl
  · have sh : isSh (FP.ddiv (FP.i2d (nI a)) (FP.i2d (nI b))) := by
      by_cases a0 : a = 0
      · rw [a0, ddiv_0 b0 (by omega)]; exact .inl rfl
      · exact ddiv_v a0 ab (by omega)
    refine ⟨_, sh, fun h e => ?_, fun h e => ?_⟩
    · unfold f_X6_goodShare
      rw [allOil_v, gb_some, e, eb', if_neg (nI_ne0 (by omega) (by omega)), gC h e, gb_some, gnn_sh sh]
    · unfold f_X7_share jb_X7_share_23
      rw [sumOil_v I R 0 h e, gb_some, e0, eb', if_neg (nI_ne0 (by omega) (by omega)), sumOil_v I R 1 h e, gb_some, ea', gnn_sh sh]
theorem op_goodShare {h : Hst} (S : Sim h) : ∃ x, isSh x ∧ f_X6_goodShare h = some (x, h) ∧ f_X7_goodShare h = some (x, hst h 17 5 0) ∧ Sim (hst h 17 5 0) := by
  obtain ⟨-, ⟨ng, nl, nt, I, R⟩, -⟩ := id S
  obtain ⟨x, sh, c, m⟩ := share_v I R
  refine ⟨x, sh, c h rfl, ?_, S.keep ⟨rfl, rfl, rfl, rfl, rfl, rfl, rfl, rfl⟩ rfl rfl⟩
  unfold f_X7_goodShare
  rw [gl_eq, m (hst h 17 5 0) rfl, gb_some]
