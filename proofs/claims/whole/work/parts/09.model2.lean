def jb_X7_append_30  (a1 : Int32) (s0 : Int32) (h : Hst) : Option (Int32 × Hst) :=
  gl (hst h 17 5 s0) fun h1 =>
  (if (h1.1 17 5) ≤ 0 then
    gck (h1.1 17 3) 60 (gl (hst h1 20 (h1.1 17 3).toNatClampNeg a1) fun h2 =>
    gl (hst h2 17 3 ((h2.1 17 3) + 1)) fun h3 =>
    (some (h3.1 17 3, h3)))
  else
    (some (0, h1)))
def f_X7_append (p0 : Int32) (h : Hst) : Option (Int32 × Hst) :=
  gb (f_X7_within p0 33 126 h) fun x2 h1 =>
  (if x2 = 0 then
    (jb_X7_append_30 p0 1 h1)
  else
    (if (h1.1 17 3) = 60 then
      (jb_X7_append_30 p0 2 h1)
    else
      (jb_X7_append_30 p0 0 h1)))
set_option maxRecDepth 20000 in
theorem gjb_X7_append_30 (γ : Gv)  (a1 : Int32) (s0 : Int32) (h : Hst) : G γ RX7 cX7_append 2 (some .int) [] vI 1 0 30 [(0, .ref (gad γ 17)), (1, .int a1)] [.int s0, .ref (gad γ 17)] h (jb_X7_append_30 a1 s0 h) := by
  unfold jb_X7_append_30
  refine pf_RX7_31_17 (pc := 30) dX7_append_30 ?_
  refine g_nmh (fun h1 => ?_)
  refine g_aload_n (pc := 33) dX7_append_33 rfl 0 rfl ?_
  refine gf_RX7_31_17 (pc := 34) dX7_append_34 ?_
  refine g_if_le (pc := 37) (tgt := 42) dX7_append_37 (by decide) ?_ ?_
  · refine g_aload_n (pc := 42) dX7_append_42 rfl 0 rfl ?_
    refine gf_RX7_16_17 (pc := 43) dX7_append_43 ?_
    refine g_aload_n (pc := 46) dX7_append_46 rfl 0 rfl ?_
    refine gf_RX7_175_17 (pc := 47) dX7_append_47 ?_
    refine g_iload_n (pc := 50) dX7_append_50 rfl 1 rfl ?_
    refine g_iast (pc := 51) 20 (gat_20 _ _) (gset_20 _ _ _) dX7_append_51 ?_
    refine g_nmh (fun h2 => ?_)
    refine g_aload_n (pc := 52) dX7_append_52 rfl 0 rfl ?_
    refine g_dup (pc := 53) dX7_append_53 rfl ?_
    refine gf_RX7_175_17 (pc := 54) dX7_append_54 ?_
    refine g_iconst (pc := 57) (v := 1) dX7_append_57 (by decide) ?_
    refine g_iadd (pc := 58) dX7_append_58 ?_
    refine pf_RX7_175_17 (pc := 59) dX7_append_59 ?_
    refine g_nmh (fun h3 => ?_)
    refine g_aload_n (pc := 62) dX7_append_62 rfl 0 rfl ?_
    refine gf_RX7_175_17 (pc := 63) dX7_append_63 ?_
    exact g_ireturn (pc := 66) (ty := .int) dX7_append_66 rfl rfl rfl
  · refine g_iconst (pc := 40) (v := 0) dX7_append_40 (by decide) ?_
    exact g_ireturn (pc := 41) (ty := .int) dX7_append_41 rfl rfl rfl
set_option maxRecDepth 20000 in
theorem ge_X7_append (γ : Gv) (p0 : Int32) (h : Hst) : G γ RX7 cX7_append 2 (some .int) [] vI 1 0 0 (lv_args 0 [.ref (gad γ 17), .int p0]) [] h (f_X7_append p0 h) := by
  show G γ RX7 cX7_append 2 (some .int) [] vI 1 0 0 [(0, .ref (gad γ 17)), (1, .int p0)] [] h (f_X7_append p0 h)
  unfold f_X7_append
  refine g_aload_n (pc := 0) dX7_append_0 rfl 0 rfl ?_
  refine g_iload_n (pc := 1) dX7_append_1 rfl 1 rfl ?_
  refine g_bipush (pc := 2) (v := 33) dX7_append_2 (by decide) ?_
  refine g_bipush (pc := 4) (v := 126) dX7_append_4 (by decide) ?_
  refine g_cI (pc := 6) (st := [.ref (gad γ 17)]) (fun r hr => gRunS (As := [.int p0, .int 33, .int 126]) (ge_X7_within γ p0 33 126 h) hr wv_RX7_38 rfl (Nat.le_of_ble_eq_true rfl) rfl (Nat.le_of_ble_eq_true rfl) (Nat.le_of_ble_eq_true rfl) dX7_append_6) (fun x2 h1 => ?_)
  refine g_if_ne (pc := 9) (tgt := 16) dX7_append_9 (by decide) ?_ ?_
  · refine g_aload_n (pc := 16) dX7_append_16 rfl 0 rfl ?_
    refine gf_RX7_175_17 (pc := 17) dX7_append_17 ?_
    refine g_bipush (pc := 20) (v := 60) dX7_append_20 (by decide) ?_
    refine g_icmp_ne (pc := 22) (tgt := 29) dX7_append_22 (by decide) ?_ ?_
    · refine g_iconst (pc := 29) (v := 0) dX7_append_29 (by decide) ?_
      exact gjb_X7_append_30 γ p0 0 h1
    · refine g_iconst (pc := 25) (v := 2) dX7_append_25 (by decide) ?_
      refine g_goto (pc := 26) (tgt := 30) dX7_append_26 (by decide) ?_
      exact gjb_X7_append_30 γ p0 2 h1
  · refine g_iconst (pc := 12) (v := 1) dX7_append_12 (by decide) ?_
    refine g_goto (pc := 13) (tgt := 30) dX7_append_13 (by decide) ?_
    exact gjb_X7_append_30 γ p0 1 h1
def f_X7_clearBuffer  (h : Hst) : Option (Int32 × Hst) :=
  gl (hst h 17 5 0) fun h1 =>
  gl (h1.1 17 3) fun x2 =>
  gl (hst h1 17 3 0) fun h3 =>
  (some (x2, h3))
set_option maxRecDepth 20000 in
theorem ge_X7_clearBuffer (γ : Gv)  (h : Hst) : G γ RX7 cX7_clearBuffer 2 (some .int) [] vI 0 0 0 (lv_args 0 [.ref (gad γ 17)]) [] h (f_X7_clearBuffer h) := by
  show G γ RX7 cX7_clearBuffer 2 (some .int) [] vI 0 0 0 [(0, .ref (gad γ 17))] [] h (f_X7_clearBuffer h)
  unfold f_X7_clearBuffer
  refine g_aload_n (pc := 0) dX7_clearBuffer_0 rfl 0 rfl ?_
  refine g_iconst (pc := 1) (v := 0) dX7_clearBuffer_1 (by decide) ?_
  refine pf_RX7_31_17 (pc := 2) dX7_clearBuffer_2 ?_
  refine g_nmh (fun h1 => ?_)
  refine g_aload_n (pc := 5) dX7_clearBuffer_5 rfl 0 rfl ?_
  refine gf_RX7_175_17 (pc := 6) dX7_clearBuffer_6 ?_
  refine g_nmi (fun x2 => ?_)
  refine g_istore_n (pc := 9) (lv' := [(1, .int x2), (0, .ref (gad γ 17))]) dX7_clearBuffer_9 rfl (by decide) rfl ?_
  refine g_aload_n (pc := 10) dX7_clearBuffer_10 rfl 1 rfl ?_
  refine g_iconst (pc := 11) (v := 0) dX7_clearBuffer_11 (by decide) ?_
  refine pf_RX7_175_17 (pc := 12) dX7_clearBuffer_12 ?_
  refine g_nmh (fun h3 => ?_)
  refine g_iload_n (pc := 15) dX7_clearBuffer_15 rfl 0 rfl ?_
  exact g_ireturn (pc := 16) (ty := .int) dX7_clearBuffer_16 rfl rfl rfl
def jb_X7_canBeTruth_46 (R6 : Int32 → Int32 → Int32 → Int32 → Hst → Option (Int32 × Hst)) (a0 : Int32) (a2 : Int32) (a3 : Int32) (s0 : Int32) (h : Hst) : Option (Int32 × Hst) :=
  gl (a2 * 10) fun x1 =>
  (R6 a0 s0 x1 (a3 + 1) h)
def jb_X7_canBeTruth_41 (R6 : Int32 → Int32 → Int32 → Int32 → Hst → Option (Int32 × Hst)) (a0 : Int32) (a2 : Int32) (a3 : Int32) (h : Hst) : Option (Int32 × Hst) :=
  (jb_X7_canBeTruth_46 R6 a0 a2 a3 1 h)
def jb_X7_canBeTruth_45 (R6 : Int32 → Int32 → Int32 → Int32 → Hst → Option (Int32 × Hst)) (a0 : Int32) (a2 : Int32) (a3 : Int32) (h : Hst) : Option (Int32 × Hst) :=
  (jb_X7_canBeTruth_46 R6 a0 a2 a3 0 h)
def lp_X7_canBeTruth_6 : Nat → Int32 → Int32 → Int32 → Int32 → Hst → Option (Int32 × Hst)
  | 0, _, _, _, _, _ => none
  | n + 1, a0, a1, a2, a3, h =>
    (if 4 ≤ a3 then
      (gzr a1 (some (a1, h)))
    else
      (if a1 = 0 then
        (if a0 ≤ 0 then
          (jb_X7_canBeTruth_45 (lp_X7_canBeTruth_6 n) a0 a2 a3 h)
        else
          (if 1500 < (a0 * a2) then
            (jb_X7_canBeTruth_45 (lp_X7_canBeTruth_6 n) a0 a2 a3 h)
          else
            (if (((a0 * a2) + a2) - 1) < 500 then
              (jb_X7_canBeTruth_45 (lp_X7_canBeTruth_6 n) a0 a2 a3 h)
            else
              (jb_X7_canBeTruth_41 (lp_X7_canBeTruth_6 n) a0 a2 a3 h))))
      else
        (jb_X7_canBeTruth_41 (lp_X7_canBeTruth_6 n) a0 a2 a3 h)))
def f_X7_canBeTruth (p0 : Int32) (h : Hst) : Option (Int32 × Hst) :=
  (lp_X7_canBeTruth_6 FU p0 0 1 0 h)
set_option maxRecDepth 20000 in
theorem gjb_X7_canBeTruth_46 (γ : Gv) (R6 : Int32 → Int32 → Int32 → Int32 → Hst → Option (Int32 × Hst)) (hR6 : ∀ (a0 : Int32) (a1 : Int32) (a2 : Int32) (a3 : Int32) (h : Hst), G γ RX7 cX7_canBeTruth 4 (some .boolean) [] vI 0 0 6 [(0, .int a0), (1, .int a1), (2, .int a2), (3, .int a3)] [] h (R6 a0 a1 a2 a3 h)) (a0 : Int32) (a2 : Int32) (a3 : Int32) (s0 : Int32) (h : Hst) : G γ RX7 cX7_canBeTruth 4 (some .boolean) [] vI 0 0 46 [(0, .int a0), (2, .int a2), (3, .int a3)] [.int s0] h (jb_X7_canBeTruth_46 R6 a0 a2 a3 s0 h) := by
  unfold jb_X7_canBeTruth_46
  refine g_istore_n (pc := 46) (lv' := [(1, .int s0), (0, .int a0), (2, .int a2), (3, .int a3)]) dX7_canBeTruth_46 rfl (by decide) rfl ?_
  refine g_iload_n (pc := 47) dX7_canBeTruth_47 rfl 2 rfl ?_
  refine g_bipush (pc := 48) (v := 10) dX7_canBeTruth_48 (by decide) ?_
  refine g_imul (pc := 50) dX7_canBeTruth_50 ?_
  refine g_nmi (fun x1 => ?_)
  refine g_istore_n (pc := 51) (lv' := [(2, .int x1), (1, .int s0), (0, .int a0), (3, .int a3)]) dX7_canBeTruth_51 rfl (by decide) rfl ?_
  refine g_iinc (pc := 52) (q := 3) (v := a3 + 1) (lv' := [(3, .int (a3 + 1)), (2, .int x1), (1, .int s0), (0, .int a0)]) dX7_canBeTruth_52 rfl rfl (by decide) rfl ?_
  refine g_goto (pc := 55) (tgt := 6) dX7_canBeTruth_55 (by decide) ?_
  exact g_sub [3, 2, 1, 0] rfl (hR6 a0 s0 x1 (a3 + 1) h)
set_option maxRecDepth 20000 in
theorem gjb_X7_canBeTruth_41 (γ : Gv) (R6 : Int32 → Int32 → Int32 → Int32 → Hst → Option (Int32 × Hst)) (hR6 : ∀ (a0 : Int32) (a1 : Int32) (a2 : Int32) (a3 : Int32) (h : Hst), G γ RX7 cX7_canBeTruth 4 (some .boolean) [] vI 0 0 6 [(0, .int a0), (1, .int a1), (2, .int a2), (3, .int a3)] [] h (R6 a0 a1 a2 a3 h)) (a0 : Int32) (a2 : Int32) (a3 : Int32) (h : Hst) : G γ RX7 cX7_canBeTruth 4 (some .boolean) [] vI 0 0 41 [(0, .int a0), (2, .int a2), (3, .int a3)] [] h (jb_X7_canBeTruth_41 R6 a0 a2 a3 h) := by
  unfold jb_X7_canBeTruth_41
  refine g_iconst (pc := 41) (v := 1) dX7_canBeTruth_41 (by decide) ?_
  refine g_goto (pc := 42) (tgt := 46) dX7_canBeTruth_42 (by decide) ?_
  exact gjb_X7_canBeTruth_46 γ R6 hR6 a0 a2 a3 1 h
set_option maxRecDepth 20000 in
theorem gjb_X7_canBeTruth_45 (γ : Gv) (R6 : Int32 → Int32 → Int32 → Int32 → Hst → Option (Int32 × Hst)) (hR6 : ∀ (a0 : Int32) (a1 : Int32) (a2 : Int32) (a3 : Int32) (h : Hst), G γ RX7 cX7_canBeTruth 4 (some .boolean) [] vI 0 0 6 [(0, .int a0), (1, .int a1), (2, .int a2), (3, .int a3)] [] h (R6 a0 a1 a2 a3 h)) (a0 : Int32) (a2 : Int32) (a3 : Int32) (h : Hst) : G γ RX7 cX7_canBeTruth 4 (some .boolean) [] vI 0 0 45 [(0, .int a0), (2, .int a2), (3, .int a3)] [] h (jb_X7_canBeTruth_45 R6 a0 a2 a3 h) := by
  unfold jb_X7_canBeTruth_45
  refine g_iconst (pc := 45) (v := 0) dX7_canBeTruth_45 (by decide) ?_
  exact gjb_X7_canBeTruth_46 γ R6 hR6 a0 a2 a3 0 h
set_option maxRecDepth 20000 in
theorem glp_X7_canBeTruth_6 (γ : Gv)  : ∀ (n : Nat) (a0 : Int32) (a1 : Int32) (a2 : Int32) (a3 : Int32) (h : Hst), G γ RX7 cX7_canBeTruth 4 (some .boolean) [] vI 0 0 6 [(0, .int a0), (1, .int a1), (2, .int a2), (3, .int a3)] [] h (lp_X7_canBeTruth_6 n a0 a1 a2 a3 h) := by
  intro n
  induction n with
  | zero => intro a0 a1 a2 a3 h; exact g_none
  | succ n ih =>
    intro a0 a1 a2 a3 h
    rw [lp_X7_canBeTruth_6]
    refine g_iload_n (pc := 6) dX7_canBeTruth_6 rfl 3 rfl ?_
    refine g_iconst (pc := 7) (v := 4) dX7_canBeTruth_7 (by decide) ?_
    refine g_icmp_ge (pc := 8) (tgt := 58) dX7_canBeTruth_8 (by decide) ?_ ?_
    · refine g_iload_n (pc := 58) dX7_canBeTruth_58 rfl 1 rfl ?_
      exact g_zreturn (pc := 59) dX7_canBeTruth_59 rfl rfl
    · refine g_iload_n (pc := 11) dX7_canBeTruth_11 rfl 1 rfl ?_
      refine g_if_ne (pc := 12) (tgt := 41) dX7_canBeTruth_12 (by decide) ?_ ?_
      · exact g_sub [0, 2, 3] rfl (gjb_X7_canBeTruth_41 γ (lp_X7_canBeTruth_6 n) ih a0 a2 a3 h)
      · refine g_iload_n (pc := 15) dX7_canBeTruth_15 rfl 0 rfl ?_
        refine g_if_le (pc := 16) (tgt := 45) dX7_canBeTruth_16 (by decide) ?_ ?_
        · exact g_sub [0, 2, 3] rfl (gjb_X7_canBeTruth_45 γ (lp_X7_canBeTruth_6 n) ih a0 a2 a3 h)
        · refine g_iload_n (pc := 19) dX7_canBeTruth_19 rfl 0 rfl ?_
          refine g_iload_n (pc := 20) dX7_canBeTruth_20 rfl 2 rfl ?_
          refine g_imul (pc := 21) dX7_canBeTruth_21 ?_
          refine g_sipush (pc := 22) (v := 1500) dX7_canBeTruth_22 (by decide) ?_
          refine g_icmp_gt (pc := 25) (tgt := 45) dX7_canBeTruth_25 (by decide) ?_ ?_
          · exact g_sub [0, 2, 3] rfl (gjb_X7_canBeTruth_45 γ (lp_X7_canBeTruth_6 n) ih a0 a2 a3 h)
          · refine g_iload_n (pc := 28) dX7_canBeTruth_28 rfl 0 rfl ?_
            refine g_iload_n (pc := 29) dX7_canBeTruth_29 rfl 2 rfl ?_
            refine g_imul (pc := 30) dX7_canBeTruth_30 ?_
            refine g_iload_n (pc := 31) dX7_canBeTruth_31 rfl 2 rfl ?_
            refine g_iadd (pc := 32) dX7_canBeTruth_32 ?_
            refine g_iconst (pc := 33) (v := 1) dX7_canBeTruth_33 (by decide) ?_
            refine g_isub (pc := 34) dX7_canBeTruth_34 ?_
            refine g_sipush (pc := 35) (v := 500) dX7_canBeTruth_35 (by decide) ?_
            refine g_icmp_lt (pc := 38) (tgt := 45) dX7_canBeTruth_38 (by decide) ?_ ?_
            · exact g_sub [0, 2, 3] rfl (gjb_X7_canBeTruth_45 γ (lp_X7_canBeTruth_6 n) ih a0 a2 a3 h)
            · exact g_sub [0, 2, 3] rfl (gjb_X7_canBeTruth_41 γ (lp_X7_canBeTruth_6 n) ih a0 a2 a3 h)
set_option maxRecDepth 20000 in
theorem ge_X7_canBeTruth (γ : Gv) (p0 : Int32) (h : Hst) : G γ RX7 cX7_canBeTruth 4 (some .boolean) [] vI 0 0 0 (lv_args 0 [.int p0]) [] h (f_X7_canBeTruth p0 h) := by
  show G γ RX7 cX7_canBeTruth 4 (some .boolean) [] vI 0 0 0 [(0, .int p0)] [] h (f_X7_canBeTruth p0 h)
  unfold f_X7_canBeTruth
  refine g_iconst (pc := 0) (v := 0) dX7_canBeTruth_0 (by decide) ?_
  refine g_istore_n (pc := 1) (lv' := [(1, .int 0), (0, .int p0)]) dX7_canBeTruth_1 rfl (by decide) rfl ?_
  refine g_iconst (pc := 2) (v := 1) dX7_canBeTruth_2 (by decide) ?_
  refine g_istore_n (pc := 3) (lv' := [(2, .int 1), (1, .int 0), (0, .int p0)]) dX7_canBeTruth_3 rfl (by decide) rfl ?_
  refine g_iconst (pc := 4) (v := 0) dX7_canBeTruth_4 (by decide) ?_
  refine g_istore_n (pc := 5) (lv' := [(3, .int 0), (2, .int 1), (1, .int 0), (0, .int p0)]) dX7_canBeTruth_5 rfl (by decide) rfl ?_
  exact g_sub [3, 2, 1, 0] rfl (glp_X7_canBeTruth_6 γ FU p0 0 1 0 h)
def jb_X7_takesDigit_114  (a3 : Int32) (s0 : Int32) (h : Hst) : Option (Int32 × Hst) :=
  gl (hst h 17 20 s0) fun h1 =>
  (gzr a3 (some (a3, h1)))
def jb_X7_takesDigit_100  (a2 : Int32) (s0 : Int32) (h : Hst) : Option (Int32 × Hst) :=
  (if s0 = 0 then
    (jb_X7_takesDigit_114 s0 (h.1 17 20) h)
  else
    (jb_X7_takesDigit_114 s0 a2 h))
def jb_X7_takesDigit_99  (a2 : Int32) (h : Hst) : Option (Int32 × Hst) :=
  (jb_X7_takesDigit_100 a2 0 h)
def jb_X7_takesDigit_95  (a2 : Int32) (h : Hst) : Option (Int32 × Hst) :=
  (jb_X7_takesDigit_100 a2 1 h)
def jb_X7_takesDigit_44  (a2 : Int32) (s0 : Int32) (h : Hst) : Option (Int32 × Hst) :=
  (if s0 = 0 then
    (jb_X7_takesDigit_99 a2 h)
  else
    (if (h.1 17 21) = 2 then
      gb (f_X7_within a2 1 2000 h) fun x4 h3 =>
      (if x4 = 0 then
        (jb_X7_takesDigit_99 a2 h3)
      else
        (jb_X7_takesDigit_95 a2 h3))
    else
      (if (h.1 17 21) = 3 then
        (if 50 < a2 then
          (jb_X7_takesDigit_99 a2 h)
        else
          (jb_X7_takesDigit_95 a2 h))
      else
        gb (f_X7_canBeTruth a2 h) fun x2 h1 =>
        (if x2 = 0 then
          (jb_X7_takesDigit_99 a2 h1)
        else
          (jb_X7_takesDigit_95 a2 h1)))))
def jb_X7_takesDigit_43  (a2 : Int32) (h : Hst) : Option (Int32 × Hst) :=
  (jb_X7_takesDigit_44 a2 0 h)
def jb_X7_takesDigit_21  (a1 : Int32) (s0 : Int32) (h : Hst) : Option (Int32 × Hst) :=
  gb (f_X7_within a1 0 9 h) fun x2 h1 =>
  (if x2 = 0 then
    (jb_X7_takesDigit_43 s0 h1)
  else
    (if (h1.1 17 20) = 0 then
      (jb_X7_takesDigit_43 s0 h1)
    else
      (jb_X7_takesDigit_44 s0 1 h1)))
def f_X7_takesDigit (p0 : Int32) (h : Hst) : Option (Int32 × Hst) :=
  (if (h.1 17 20) = (-1) then
    (jb_X7_takesDigit_21 p0 p0 h)
  else
    (jb_X7_takesDigit_21 p0 ((10 * (h.1 17 20)) + p0) h))
set_option maxRecDepth 20000 in
theorem gjb_X7_takesDigit_114 (γ : Gv)  (a3 : Int32) (s0 : Int32) (h : Hst) : G γ RX7 cX7_takesDigit 4 (some .boolean) [] vI 1 0 114 [(3, .int a3)] [.int s0, .ref (gad γ 17)] h (jb_X7_takesDigit_114 a3 s0 h) := by
  unfold jb_X7_takesDigit_114
  refine pf_RX7_178_17 (pc := 114) dX7_takesDigit_114 ?_
  refine g_nmh (fun h1 => ?_)
  refine g_iload_n (pc := 117) dX7_takesDigit_117 rfl 0 rfl ?_
  exact g_zreturn (pc := 118) dX7_takesDigit_118 rfl rfl
set_option maxRecDepth 20000 in
theorem gjb_X7_takesDigit_100 (γ : Gv)  (a2 : Int32) (s0 : Int32) (h : Hst) : G γ RX7 cX7_takesDigit 4 (some .boolean) [] vI 1 0 100 [(0, .ref (gad γ 17)), (2, .int a2)] [.int s0] h (jb_X7_takesDigit_100 a2 s0 h) := by
  unfold jb_X7_takesDigit_100
  refine g_istore_n (pc := 100) (lv' := [(3, .int s0), (0, .ref (gad γ 17)), (2, .int a2)]) dX7_takesDigit_100 rfl (by decide) rfl ?_
  refine g_aload_n (pc := 101) dX7_takesDigit_101 rfl 1 rfl ?_
  refine g_iload_n (pc := 102) dX7_takesDigit_102 rfl 0 rfl ?_
  refine g_if_eq (pc := 103) (tgt := 110) dX7_takesDigit_103 (by decide) ?_ ?_
  · refine g_aload_n (pc := 110) dX7_takesDigit_110 rfl 1 rfl ?_
    refine gf_RX7_178_17 (pc := 111) dX7_takesDigit_111 ?_
    exact g_sub [0] rfl (gjb_X7_takesDigit_114 γ s0 (h.1 17 20) h)
  · refine g_iload_n (pc := 106) dX7_takesDigit_106 rfl 2 rfl ?_
    refine g_goto (pc := 107) (tgt := 114) dX7_takesDigit_107 (by decide) ?_
    exact g_sub [0] rfl (gjb_X7_takesDigit_114 γ s0 a2 h)
set_option maxRecDepth 20000 in
theorem gjb_X7_takesDigit_99 (γ : Gv)  (a2 : Int32) (h : Hst) : G γ RX7 cX7_takesDigit 4 (some .boolean) [] vI 1 0 99 [(0, .ref (gad γ 17)), (2, .int a2)] [] h (jb_X7_takesDigit_99 a2 h) := by
  unfold jb_X7_takesDigit_99
  refine g_iconst (pc := 99) (v := 0) dX7_takesDigit_99 (by decide) ?_
  exact gjb_X7_takesDigit_100 γ a2 0 h
set_option maxRecDepth 20000 in
theorem gjb_X7_takesDigit_95 (γ : Gv)  (a2 : Int32) (h : Hst) : G γ RX7 cX7_takesDigit 4 (some .boolean) [] vI 1 0 95 [(0, .ref (gad γ 17)), (2, .int a2)] [] h (jb_X7_takesDigit_95 a2 h) := by
  unfold jb_X7_takesDigit_95
  refine g_iconst (pc := 95) (v := 1) dX7_takesDigit_95 (by decide) ?_
  refine g_goto (pc := 96) (tgt := 100) dX7_takesDigit_96 (by decide) ?_
  exact gjb_X7_takesDigit_100 γ a2 1 h
set_option maxRecDepth 20000 in
theorem gjb_X7_takesDigit_44 (γ : Gv)  (a2 : Int32) (s0 : Int32) (h : Hst) : G γ RX7 cX7_takesDigit 4 (some .boolean) [] vI 1 0 44 [(0, .ref (gad γ 17)), (2, .int a2)] [.int s0] h (jb_X7_takesDigit_44 a2 s0 h) := by
  unfold jb_X7_takesDigit_44
  refine g_istore_n (pc := 44) (lv' := [(3, .int s0), (0, .ref (gad γ 17)), (2, .int a2)]) dX7_takesDigit_44 rfl (by decide) rfl ?_
  refine g_iload_n (pc := 45) dX7_takesDigit_45 rfl 0 rfl ?_
  refine g_if_eq (pc := 46) (tgt := 99) dX7_takesDigit_46 (by decide) ?_ ?_
  · exact g_sub [1, 2] rfl (gjb_X7_takesDigit_99 γ a2 h)
  · refine g_aload_n (pc := 49) dX7_takesDigit_49 rfl 1 rfl ?_
    refine gf_RX7_181_17 (pc := 50) dX7_takesDigit_50 ?_
    refine g_iconst (pc := 53) (v := 2) dX7_takesDigit_53 (by decide) ?_
    refine g_icmp_ne (pc := 54) (tgt := 71) dX7_takesDigit_54 (by decide) ?_ ?_
    · refine g_aload_n (pc := 71) dX7_takesDigit_71 rfl 1 rfl ?_
      refine gf_RX7_181_17 (pc := 72) dX7_takesDigit_72 ?_
      refine g_iconst (pc := 75) (v := 3) dX7_takesDigit_75 (by decide) ?_
      refine g_icmp_ne (pc := 76) (tgt := 88) dX7_takesDigit_76 (by decide) ?_ ?_
      · refine g_iload_n (pc := 88) dX7_takesDigit_88 rfl 2 rfl ?_
        refine g_cI (pc := 89) (st := []) (fun r hr => gRunS (As := [.int a2]) (ge_X7_canBeTruth γ a2 h) hr wv_RX7_184 rfl (Nat.le_of_ble_eq_true rfl) rfl (Nat.le_of_ble_eq_true rfl) (Nat.le_of_ble_eq_true rfl) dX7_takesDigit_89) (fun x2 h1 => ?_)
        refine g_if_eq (pc := 92) (tgt := 99) dX7_takesDigit_92 (by decide) ?_ ?_
        · exact g_sub [1, 2] rfl (gjb_X7_takesDigit_99 γ a2 h1)
        · exact g_sub [1, 2] rfl (gjb_X7_takesDigit_95 γ a2 h1)
      · refine g_iload_n (pc := 79) dX7_takesDigit_79 rfl 2 rfl ?_
        refine g_bipush (pc := 80) (v := 50) dX7_takesDigit_80 (by decide) ?_
        refine g_icmp_gt (pc := 82) (tgt := 99) dX7_takesDigit_82 (by decide) ?_ ?_
        · exact g_sub [1, 2] rfl (gjb_X7_takesDigit_99 γ a2 h)
        · refine g_goto (pc := 85) (tgt := 95) dX7_takesDigit_85 (by decide) ?_
          exact g_sub [1, 2] rfl (gjb_X7_takesDigit_95 γ a2 h)
    · refine g_iload_n (pc := 57) dX7_takesDigit_57 rfl 2 rfl ?_
      refine g_iconst (pc := 58) (v := 1) dX7_takesDigit_58 (by decide) ?_
      refine g_sipush (pc := 59) (v := 2000) dX7_takesDigit_59 (by decide) ?_
      refine g_cI (pc := 62) (st := []) (fun r hr => gRunS (As := [.int a2, .int 1, .int 2000]) (ge_X7_within γ a2 1 2000 h) hr wv_RX7_38 rfl (Nat.le_of_ble_eq_true rfl) rfl (Nat.le_of_ble_eq_true rfl) (Nat.le_of_ble_eq_true rfl) dX7_takesDigit_62) (fun x4 h3 => ?_)
      refine g_if_eq (pc := 65) (tgt := 99) dX7_takesDigit_65 (by decide) ?_ ?_
      · exact g_sub [1, 2] rfl (gjb_X7_takesDigit_99 γ a2 h3)
      · refine g_goto (pc := 68) (tgt := 95) dX7_takesDigit_68 (by decide) ?_
        exact g_sub [1, 2] rfl (gjb_X7_takesDigit_95 γ a2 h3)
set_option maxRecDepth 20000 in
theorem gjb_X7_takesDigit_43 (γ : Gv)  (a2 : Int32) (h : Hst) : G γ RX7 cX7_takesDigit 4 (some .boolean) [] vI 1 0 43 [(0, .ref (gad γ 17)), (2, .int a2)] [] h (jb_X7_takesDigit_43 a2 h) := by
  unfold jb_X7_takesDigit_43
  refine g_iconst (pc := 43) (v := 0) dX7_takesDigit_43 (by decide) ?_
  exact gjb_X7_takesDigit_44 γ a2 0 h
set_option maxRecDepth 20000 in
theorem gjb_X7_takesDigit_21 (γ : Gv)  (a1 : Int32) (s0 : Int32) (h : Hst) : G γ RX7 cX7_takesDigit 4 (some .boolean) [] vI 1 0 21 [(0, .ref (gad γ 17)), (1, .int a1)] [.int s0] h (jb_X7_takesDigit_21 a1 s0 h) := by
  unfold jb_X7_takesDigit_21
  refine g_istore_n (pc := 21) (lv' := [(2, .int s0), (0, .ref (gad γ 17)), (1, .int a1)]) dX7_takesDigit_21 rfl (by decide) rfl ?_
  refine g_iload_n (pc := 22) dX7_takesDigit_22 rfl 2 rfl ?_
  refine g_iconst (pc := 23) (v := 0) dX7_takesDigit_23 (by decide) ?_
  refine g_bipush (pc := 24) (v := 9) dX7_takesDigit_24 (by decide) ?_
  refine g_cI (pc := 26) (st := []) (fun r hr => gRunS (As := [.int a1, .int 0, .int 9]) (ge_X7_within γ a1 0 9 h) hr wv_RX7_38 rfl (Nat.le_of_ble_eq_true rfl) rfl (Nat.le_of_ble_eq_true rfl) (Nat.le_of_ble_eq_true rfl) dX7_takesDigit_26) (fun x2 h1 => ?_)
  refine g_if_eq (pc := 29) (tgt := 43) dX7_takesDigit_29 (by decide) ?_ ?_
  · exact g_sub [1, 0] rfl (gjb_X7_takesDigit_43 γ s0 h1)
  · refine g_aload_n (pc := 32) dX7_takesDigit_32 rfl 1 rfl ?_
    refine gf_RX7_178_17 (pc := 33) dX7_takesDigit_33 ?_
    refine g_if_eq (pc := 36) (tgt := 43) dX7_takesDigit_36 (by decide) ?_ ?_
    · exact g_sub [1, 0] rfl (gjb_X7_takesDigit_43 γ s0 h1)
    · refine g_iconst (pc := 39) (v := 1) dX7_takesDigit_39 (by decide) ?_
      refine g_goto (pc := 40) (tgt := 44) dX7_takesDigit_40 (by decide) ?_
      exact g_sub [1, 0] rfl (gjb_X7_takesDigit_44 γ s0 1 h1)
set_option maxRecDepth 20000 in
theorem ge_X7_takesDigit (γ : Gv) (p0 : Int32) (h : Hst) : G γ RX7 cX7_takesDigit 4 (some .boolean) [] vI 1 0 0 (lv_args 0 [.ref (gad γ 17), .int p0]) [] h (f_X7_takesDigit p0 h) := by
  show G γ RX7 cX7_takesDigit 4 (some .boolean) [] vI 1 0 0 [(0, .ref (gad γ 17)), (1, .int p0)] [] h (f_X7_takesDigit p0 h)
  unfold f_X7_takesDigit
  refine g_aload_n (pc := 0) dX7_takesDigit_0 rfl 0 rfl ?_
  refine gf_RX7_178_17 (pc := 1) dX7_takesDigit_1 ?_
  refine g_iconst (pc := 4) (v := (-1)) dX7_takesDigit_4 (by decide) ?_
  refine g_icmp_ne (pc := 5) (tgt := 12) dX7_takesDigit_5 (by decide) ?_ ?_
  · refine g_bipush (pc := 12) (v := 10) dX7_takesDigit_12 (by decide) ?_
    refine g_aload_n (pc := 14) dX7_takesDigit_14 rfl 0 rfl ?_
    refine gf_RX7_178_17 (pc := 15) dX7_takesDigit_15 ?_
    refine g_imul (pc := 18) dX7_takesDigit_18 ?_
    refine g_iload_n (pc := 19) dX7_takesDigit_19 rfl 1 rfl ?_
    refine g_iadd (pc := 20) dX7_takesDigit_20 ?_
    exact gjb_X7_takesDigit_21 γ p0 ((10 * (h.1 17 20)) + p0) h
  · refine g_iload_n (pc := 8) dX7_takesDigit_8 rfl 1 rfl ?_
    refine g_goto (pc := 9) (tgt := 21) dX7_takesDigit_9 (by decide) ?_
    exact gjb_X7_takesDigit_21 γ p0 p0 h
def jb_X7_isEnded_39  (s0 : Int32) (h : Hst) : Option (Int32 × Hst) :=
  (gzr s0 (some (s0, h)))
def jb_X7_isEnded_38   (h : Hst) : Option (Int32 × Hst) :=
  (jb_X7_isEnded_39 0 h)
def jb_X7_isEnded_34   (h : Hst) : Option (Int32 × Hst) :=
  (jb_X7_isEnded_39 1 h)
def jb_X7_isEnded_16   (h : Hst) : Option (Int32 × Hst) :=
  (if (h.1 17 21) = 4 then
    (if (h.1 17 20) < 500 then
      (jb_X7_isEnded_38 h)
    else
      (jb_X7_isEnded_34 h))
  else
    (jb_X7_isEnded_38 h))
def f_X7_isEnded  (h : Hst) : Option (Int32 × Hst) :=
  (if (h.1 17 21) = 3 then
    (if (h.1 17 20) = (-1) then
      (jb_X7_isEnded_16 h)
    else
      (jb_X7_isEnded_34 h))
  else
    (jb_X7_isEnded_16 h))
set_option maxRecDepth 20000 in
theorem gjb_X7_isEnded_39 (γ : Gv)  (s0 : Int32) (h : Hst) : G γ RX7 cX7_isEnded 1 (some .boolean) [] vI 0 0 39 [] [.int s0] h (jb_X7_isEnded_39 s0 h) := by
  unfold jb_X7_isEnded_39
  exact g_zreturn (pc := 39) dX7_isEnded_39 rfl rfl
set_option maxRecDepth 20000 in
theorem gjb_X7_isEnded_38 (γ : Gv)   (h : Hst) : G γ RX7 cX7_isEnded 1 (some .boolean) [] vI 0 0 38 [] [] h (jb_X7_isEnded_38 h) := by
  unfold jb_X7_isEnded_38
  refine g_iconst (pc := 38) (v := 0) dX7_isEnded_38 (by decide) ?_
  exact gjb_X7_isEnded_39 γ 0 h
set_option maxRecDepth 20000 in
theorem gjb_X7_isEnded_34 (γ : Gv)   (h : Hst) : G γ RX7 cX7_isEnded 1 (some .boolean) [] vI 0 0 34 [] [] h (jb_X7_isEnded_34 h) := by
  unfold jb_X7_isEnded_34
  refine g_iconst (pc := 34) (v := 1) dX7_isEnded_34 (by decide) ?_
  refine g_goto (pc := 35) (tgt := 39) dX7_isEnded_35 (by decide) ?_
  exact gjb_X7_isEnded_39 γ 1 h
set_option maxRecDepth 20000 in
theorem gjb_X7_isEnded_16 (γ : Gv)   (h : Hst) : G γ RX7 cX7_isEnded 1 (some .boolean) [] vI 0 0 16 [(0, .ref (gad γ 17))] [] h (jb_X7_isEnded_16 h) := by
  unfold jb_X7_isEnded_16
  refine g_aload_n (pc := 16) dX7_isEnded_16 rfl 0 rfl ?_
  refine gf_RX7_181_17 (pc := 17) dX7_isEnded_17 ?_
  refine g_iconst (pc := 20) (v := 4) dX7_isEnded_20 (by decide) ?_
  refine g_icmp_ne (pc := 21) (tgt := 38) dX7_isEnded_21 (by decide) ?_ ?_
  · exact g_sub [] rfl (gjb_X7_isEnded_38 γ h)
  · refine g_aload_n (pc := 24) dX7_isEnded_24 rfl 0 rfl ?_
    refine gf_RX7_178_17 (pc := 25) dX7_isEnded_25 ?_
    refine g_sipush (pc := 28) (v := 500) dX7_isEnded_28 (by decide) ?_
    refine g_icmp_lt (pc := 31) (tgt := 38) dX7_isEnded_31 (by decide) ?_ ?_
    · exact g_sub [] rfl (gjb_X7_isEnded_38 γ h)
    · exact g_sub [] rfl (gjb_X7_isEnded_34 γ h)
set_option maxRecDepth 20000 in
theorem ge_X7_isEnded (γ : Gv)  (h : Hst) : G γ RX7 cX7_isEnded 1 (some .boolean) [] vI 0 0 0 (lv_args 0 [.ref (gad γ 17)]) [] h (f_X7_isEnded h) := by
  show G γ RX7 cX7_isEnded 1 (some .boolean) [] vI 0 0 0 [(0, .ref (gad γ 17))] [] h (f_X7_isEnded h)
  unfold f_X7_isEnded
  refine g_aload_n (pc := 0) dX7_isEnded_0 rfl 0 rfl ?_
  refine gf_RX7_181_17 (pc := 1) dX7_isEnded_1 ?_
  refine g_iconst (pc := 4) (v := 3) dX7_isEnded_4 (by decide) ?_
  refine g_icmp_ne (pc := 5) (tgt := 16) dX7_isEnded_5 (by decide) ?_ ?_
  · exact gjb_X7_isEnded_16 γ h
  · refine g_aload_n (pc := 8) dX7_isEnded_8 rfl 0 rfl ?_
    refine gf_RX7_178_17 (pc := 9) dX7_isEnded_9 ?_
    refine g_iconst (pc := 12) (v := (-1)) dX7_isEnded_12 (by decide) ?_
    refine g_icmp_ne (pc := 13) (tgt := 34) dX7_isEnded_13 (by decide) ?_ ?_
    · exact g_sub [] rfl (gjb_X7_isEnded_34 γ h)
    · exact gjb_X7_isEnded_16 γ h
def f_X7_ends (p0 : Int32) (h : Hst) : Option (Int32 × Hst) :=
  gck ((5 * (h.1 17 19)) + (h.1 17 21)) 60 (gl (hst h 24 ((5 * (h.1 17 19)) + (h.1 17 21)).toNatClampNeg (h.1 17 20)) fun h1 =>
  gl (hst h1 17 20 (-1)) fun h2 =>
  gl (hst h2 17 21 p0) fun h3 =>
  (gzr 1 (some (1, h3))))
set_option maxRecDepth 20000 in
theorem ge_X7_ends (γ : Gv) (p0 : Int32) (h : Hst) : G γ RX7 cX7_ends 2 (some .boolean) [] vI 0 0 0 (lv_args 0 [.ref (gad γ 17), .int p0]) [] h (f_X7_ends p0 h) := by
  show G γ RX7 cX7_ends 2 (some .boolean) [] vI 0 0 0 [(0, .ref (gad γ 17)), (1, .int p0)] [] h (f_X7_ends p0 h)
  unfold f_X7_ends
  refine g_aload_n (pc := 0) dX7_ends_0 rfl 0 rfl ?_
  refine gf_RX7_28_17 (pc := 1) dX7_ends_1 ?_
  refine g_iconst (pc := 4) (v := 5) dX7_ends_4 (by decide) ?_
  refine g_aload_n (pc := 5) dX7_ends_5 rfl 0 rfl ?_
  refine gf_RX7_187_17 (pc := 6) dX7_ends_6 ?_
  refine g_imul (pc := 9) dX7_ends_9 ?_
  refine g_aload_n (pc := 10) dX7_ends_10 rfl 0 rfl ?_
  refine gf_RX7_181_17 (pc := 11) dX7_ends_11 ?_
  refine g_iadd (pc := 14) dX7_ends_14 ?_
  refine g_aload_n (pc := 15) dX7_ends_15 rfl 0 rfl ?_
  refine gf_RX7_178_17 (pc := 16) dX7_ends_16 ?_
  refine g_iast (pc := 19) 24 (gat_24 _ _) (gset_24 _ _ _) dX7_ends_19 ?_
  refine g_nmh (fun h1 => ?_)
  refine g_aload_n (pc := 20) dX7_ends_20 rfl 0 rfl ?_
  refine g_iconst (pc := 21) (v := (-1)) dX7_ends_21 (by decide) ?_
  refine pf_RX7_178_17 (pc := 22) dX7_ends_22 ?_
  refine g_nmh (fun h2 => ?_)
  refine g_aload_n (pc := 25) dX7_ends_25 rfl 0 rfl ?_
  refine g_iload_n (pc := 26) dX7_ends_26 rfl 1 rfl ?_
  refine pf_RX7_181_17 (pc := 27) dX7_ends_27 ?_
  refine g_nmh (fun h3 => ?_)
  refine g_iconst (pc := 30) (v := 1) dX7_ends_30 (by decide) ?_
  exact g_zreturn (pc := 31) dX7_ends_31 rfl rfl
def jb_X7_takes_178  (a1 : Int32) (h : Hst) : Option (Int32 × Hst) :=
  gb (f_X7_takesDigit (a1 - 48) h) fun x2 h1 =>
  (gzr x2 (some (x2, h1)))
def jb_X7_takes_147  (a1 : Int32) (h : Hst) : Option (Int32 × Hst) :=
  (if a1 = 59 then
    gb (f_X7_isEnded h) fun x2 h1 =>
    (if x2 = 0 then
      (jb_X7_takes_178 a1 h1)
    else
      gb (f_X7_ends 0 h1) fun x4 h3 =>
      gl (hst h3 17 19 ((h3.1 17 19) + 1)) fun h5 =>
      (gzr 1 (some (1, h5))))
  else
    (jb_X7_takes_178 a1 h))
def jb_X7_takes_119  (a1 : Int32) (h : Hst) : Option (Int32 × Hst) :=
  (if a1 = 42 then
    (if (h.1 17 21) = 3 then
      (if (h.1 17 20) = (-1) then
        (jb_X7_takes_147 a1 h)
      else
        gb (f_X7_ends 4 h) fun x2 h1 =>
        (gzr x2 (some (x2, h1))))
    else
      (jb_X7_takes_147 a1 h))
  else
    (jb_X7_takes_147 a1 h))
def f_X7_takes (p0 : Int32) (h : Hst) : Option (Int32 × Hst) :=
  (if (h.1 17 21) = 0 then
    gck (5 * (h.1 17 19)) 60 (gl (hst h 24 (5 * (h.1 17 19)).toNatClampNeg (p0 - 48)) fun h7 =>
    gck ((5 * (h7.1 17 19)) + 4) 60 (gl (hst h7 24 ((5 * (h7.1 17 19)) + 4).toNatClampNeg 1000) fun h8 =>
    gl (hst h8 17 21 1) fun h9 =>
    gb (f_X7_within p0 48 55 h9) fun x11 h10 =>
    (gzr x11 (some (x11, h10)))))
  else
    (if (h.1 17 21) = 1 then
      gck ((5 * (h.1 17 19)) + 1) 60 (gl (hst h 24 ((5 * (h.1 17 19)) + 1).toNatClampNeg (p0 - 97)) fun h3 =>
      gl (hst h3 17 21 2) fun h4 =>
      gb (f_X7_within p0 97 101 h4) fun x6 h5 =>
      (gzr x6 (some (x6, h5))))
    else
      (if p0 = 47 then
        (if (h.1 17 21) = 2 then
          (if (h.1 17 20) = (-1) then
            (jb_X7_takes_119 p0 h)
          else
            gb (f_X7_ends 3 h) fun x2 h1 =>
            (gzr x2 (some (x2, h1))))
        else
          (jb_X7_takes_119 p0 h))
      else
        (jb_X7_takes_119 p0 h))))
set_option maxRecDepth 20000 in
theorem gjb_X7_takes_178 (γ : Gv)  (a1 : Int32) (h : Hst) : G γ RX7 cX7_takes 2 (some .boolean) [] vI 2 0 178 [(0, .ref (gad γ 17)), (1, .int a1)] [] h (jb_X7_takes_178 a1 h) := by
  unfold jb_X7_takes_178
  refine g_aload_n (pc := 178) dX7_takes_178 rfl 0 rfl ?_
  refine g_iload_n (pc := 179) dX7_takes_179 rfl 1 rfl ?_
  refine g_bipush (pc := 180) (v := 48) dX7_takes_180 (by decide) ?_
  refine g_isub (pc := 182) dX7_takes_182 ?_
  refine g_cI (pc := 183) (st := []) (fun r hr => gRunV (As := [.int (a1 - 48)]) 17 (ge_X7_takesDigit γ (a1 - 48) h) hr wv_RX7_196 rfl (Nat.le_of_ble_eq_true rfl) (gat_17 _ _) rfl rfl (Nat.le_of_ble_eq_true rfl) (Nat.le_of_ble_eq_true rfl) dX7_takes_183) (fun x2 h1 => ?_)
  exact g_zreturn (pc := 186) dX7_takes_186 rfl rfl
set_option maxRecDepth 20000 in
theorem gjb_X7_takes_147 (γ : Gv)  (a1 : Int32) (h : Hst) : G γ RX7 cX7_takes 2 (some .boolean) [] vI 2 0 147 [(0, .ref (gad γ 17)), (1, .int a1)] [] h (jb_X7_takes_147 a1 h) := by
  unfold jb_X7_takes_147
  refine g_iload_n (pc := 147) dX7_takes_147 rfl 1 rfl ?_
  refine g_bipush (pc := 148) (v := 59) dX7_takes_148 (by decide) ?_
  refine g_icmp_ne (pc := 150) (tgt := 178) dX7_takes_150 (by decide) ?_ ?_
  · exact gjb_X7_takes_178 γ a1 h
  · refine g_aload_n (pc := 153) dX7_takes_153 rfl 0 rfl ?_
    refine g_cI (pc := 154) (st := []) (fun r hr => gRunV (As := []) 17 (ge_X7_isEnded γ h) hr wv_RX7_193 rfl (Nat.le_of_ble_eq_true rfl) (gat_17 _ _) rfl rfl (Nat.le_of_ble_eq_true rfl) (Nat.le_of_ble_eq_true rfl) dX7_takes_154) (fun x2 h1 => ?_)
    refine g_if_eq (pc := 157) (tgt := 178) dX7_takes_157 (by decide) ?_ ?_
    · exact gjb_X7_takes_178 γ a1 h1
    · refine g_aload_n (pc := 160) dX7_takes_160 rfl 0 rfl ?_
      refine g_iconst (pc := 161) (v := 0) dX7_takes_161 (by decide) ?_
      refine g_cI (pc := 162) (st := []) (fun r hr => gRunV (As := [.int 0]) 17 (ge_X7_ends γ 0 h1) hr wv_RX7_190 rfl (Nat.le_of_ble_eq_true rfl) (gat_17 _ _) rfl rfl (Nat.le_of_ble_eq_true rfl) (Nat.le_of_ble_eq_true rfl) dX7_takes_162) (fun x4 h3 => ?_)
      refine g_pop (pc := 165) dX7_takes_165 rfl ?_
      refine g_aload_n (pc := 166) dX7_takes_166 rfl 0 rfl ?_
      refine g_dup (pc := 167) dX7_takes_167 rfl ?_
      refine gf_RX7_187_17 (pc := 168) dX7_takes_168 ?_
      refine g_iconst (pc := 171) (v := 1) dX7_takes_171 (by decide) ?_
      refine g_iadd (pc := 172) dX7_takes_172 ?_
      refine pf_RX7_187_17 (pc := 173) dX7_takes_173 ?_
      refine g_nmh (fun h5 => ?_)
      refine g_iconst (pc := 176) (v := 1) dX7_takes_176 (by decide) ?_
      exact g_zreturn (pc := 177) dX7_takes_177 rfl rfl
set_option maxRecDepth 20000 in
theorem gjb_X7_takes_119 (γ : Gv)  (a1 : Int32) (h : Hst) : G γ RX7 cX7_takes 2 (some .boolean) [] vI 2 0 119 [(0, .ref (gad γ 17)), (1, .int a1)] [] h (jb_X7_takes_119 a1 h) := by
  unfold jb_X7_takes_119
  refine g_iload_n (pc := 119) dX7_takes_119 rfl 1 rfl ?_
  refine g_bipush (pc := 120) (v := 42) dX7_takes_120 (by decide) ?_
  refine g_icmp_ne (pc := 122) (tgt := 147) dX7_takes_122 (by decide) ?_ ?_
  · exact gjb_X7_takes_147 γ a1 h
  · refine g_aload_n (pc := 125) dX7_takes_125 rfl 0 rfl ?_
    refine gf_RX7_181_17 (pc := 126) dX7_takes_126 ?_
    refine g_iconst (pc := 129) (v := 3) dX7_takes_129 (by decide) ?_
    refine g_icmp_ne (pc := 130) (tgt := 147) dX7_takes_130 (by decide) ?_ ?_
    · exact gjb_X7_takes_147 γ a1 h
    · refine g_aload_n (pc := 133) dX7_takes_133 rfl 0 rfl ?_
      refine gf_RX7_178_17 (pc := 134) dX7_takes_134 ?_
      refine g_iconst (pc := 137) (v := (-1)) dX7_takes_137 (by decide) ?_
      refine g_icmp_eq (pc := 138) (tgt := 147) dX7_takes_138 (by decide) ?_ ?_
      · exact gjb_X7_takes_147 γ a1 h
      · refine g_aload_n (pc := 141) dX7_takes_141 rfl 0 rfl ?_
        refine g_iconst (pc := 142) (v := 4) dX7_takes_142 (by decide) ?_
        refine g_cI (pc := 143) (st := []) (fun r hr => gRunV (As := [.int 4]) 17 (ge_X7_ends γ 4 h) hr wv_RX7_190 rfl (Nat.le_of_ble_eq_true rfl) (gat_17 _ _) rfl rfl (Nat.le_of_ble_eq_true rfl) (Nat.le_of_ble_eq_true rfl) dX7_takes_143) (fun x2 h1 => ?_)
        exact g_zreturn (pc := 146) dX7_takes_146 rfl rfl
set_option maxRecDepth 20000 in
theorem ge_X7_takes (γ : Gv) (p0 : Int32) (h : Hst) : G γ RX7 cX7_takes 2 (some .boolean) [] vI 2 0 0 (lv_args 0 [.ref (gad γ 17), .int p0]) [] h (f_X7_takes p0 h) := by
  show G γ RX7 cX7_takes 2 (some .boolean) [] vI 2 0 0 [(0, .ref (gad γ 17)), (1, .int p0)] [] h (f_X7_takes p0 h)
  unfold f_X7_takes
  refine g_aload_n (pc := 0) dX7_takes_0 rfl 0 rfl ?_
  refine gf_RX7_181_17 (pc := 1) dX7_takes_1 ?_
  refine g_if_ne (pc := 4) (tgt := 52) dX7_takes_4 (by decide) ?_ ?_
  · refine g_aload_n (pc := 52) dX7_takes_52 rfl 0 rfl ?_
    refine gf_RX7_181_17 (pc := 53) dX7_takes_53 ?_
    refine g_iconst (pc := 56) (v := 1) dX7_takes_56 (by decide) ?_
    refine g_icmp_ne (pc := 57) (tgt := 91) dX7_takes_57 (by decide) ?_ ?_
    · refine g_iload_n (pc := 91) dX7_takes_91 rfl 1 rfl ?_
      refine g_bipush (pc := 92) (v := 47) dX7_takes_92 (by decide) ?_
      refine g_icmp_ne (pc := 94) (tgt := 119) dX7_takes_94 (by decide) ?_ ?_
      · exact gjb_X7_takes_119 γ p0 h
      · refine g_aload_n (pc := 97) dX7_takes_97 rfl 0 rfl ?_
        refine gf_RX7_181_17 (pc := 98) dX7_takes_98 ?_
        refine g_iconst (pc := 101) (v := 2) dX7_takes_101 (by decide) ?_
        refine g_icmp_ne (pc := 102) (tgt := 119) dX7_takes_102 (by decide) ?_ ?_
        · exact gjb_X7_takes_119 γ p0 h
        · refine g_aload_n (pc := 105) dX7_takes_105 rfl 0 rfl ?_
          refine gf_RX7_178_17 (pc := 106) dX7_takes_106 ?_
          refine g_iconst (pc := 109) (v := (-1)) dX7_takes_109 (by decide) ?_
          refine g_icmp_eq (pc := 110) (tgt := 119) dX7_takes_110 (by decide) ?_ ?_
          · exact gjb_X7_takes_119 γ p0 h
          · refine g_aload_n (pc := 113) dX7_takes_113 rfl 0 rfl ?_
            refine g_iconst (pc := 114) (v := 3) dX7_takes_114 (by decide) ?_
            refine g_cI (pc := 115) (st := []) (fun r hr => gRunV (As := [.int 3]) 17 (ge_X7_ends γ 3 h) hr wv_RX7_190 rfl (Nat.le_of_ble_eq_true rfl) (gat_17 _ _) rfl rfl (Nat.le_of_ble_eq_true rfl) (Nat.le_of_ble_eq_true rfl) dX7_takes_115) (fun x2 h1 => ?_)
            exact g_zreturn (pc := 118) dX7_takes_118 rfl rfl
    · refine g_aload_n (pc := 60) dX7_takes_60 rfl 0 rfl ?_
      refine gf_RX7_28_17 (pc := 61) dX7_takes_61 ?_
      refine g_iconst (pc := 64) (v := 5) dX7_takes_64 (by decide) ?_
      refine g_aload_n (pc := 65) dX7_takes_65 rfl 0 rfl ?_
      refine gf_RX7_187_17 (pc := 66) dX7_takes_66 ?_
      refine g_imul (pc := 69) dX7_takes_69 ?_
      refine g_iconst (pc := 70) (v := 1) dX7_takes_70 (by decide) ?_
      refine g_iadd (pc := 71) dX7_takes_71 ?_
      refine g_iload_n (pc := 72) dX7_takes_72 rfl 1 rfl ?_
      refine g_bipush (pc := 73) (v := 97) dX7_takes_73 (by decide) ?_
      refine g_isub (pc := 75) dX7_takes_75 ?_
      refine g_iast (pc := 76) 24 (gat_24 _ _) (gset_24 _ _ _) dX7_takes_76 ?_
      refine g_nmh (fun h3 => ?_)
      refine g_aload_n (pc := 77) dX7_takes_77 rfl 0 rfl ?_
      refine g_iconst (pc := 78) (v := 2) dX7_takes_78 (by decide) ?_
      refine pf_RX7_181_17 (pc := 79) dX7_takes_79 ?_
      refine g_nmh (fun h4 => ?_)
      refine g_iload_n (pc := 82) dX7_takes_82 rfl 1 rfl ?_
      refine g_bipush (pc := 83) (v := 97) dX7_takes_83 (by decide) ?_
      refine g_bipush (pc := 85) (v := 101) dX7_takes_85 (by decide) ?_
      refine g_cI (pc := 87) (st := []) (fun r hr => gRunS (As := [.int p0, .int 97, .int 101]) (ge_X7_within γ p0 97 101 h4) hr wv_RX7_38 rfl (Nat.le_of_ble_eq_true rfl) rfl (Nat.le_of_ble_eq_true rfl) (Nat.le_of_ble_eq_true rfl) dX7_takes_87) (fun x6 h5 => ?_)
      exact g_zreturn (pc := 90) dX7_takes_90 rfl rfl
  · refine g_aload_n (pc := 7) dX7_takes_7 rfl 0 rfl ?_
    refine gf_RX7_28_17 (pc := 8) dX7_takes_8 ?_
    refine g_iconst (pc := 11) (v := 5) dX7_takes_11 (by decide) ?_
    refine g_aload_n (pc := 12) dX7_takes_12 rfl 0 rfl ?_
    refine gf_RX7_187_17 (pc := 13) dX7_takes_13 ?_
    refine g_imul (pc := 16) dX7_takes_16 ?_
    refine g_iload_n (pc := 17) dX7_takes_17 rfl 1 rfl ?_
    refine g_bipush (pc := 18) (v := 48) dX7_takes_18 (by decide) ?_
    refine g_isub (pc := 20) dX7_takes_20 ?_
    refine g_iast (pc := 21) 24 (gat_24 _ _) (gset_24 _ _ _) dX7_takes_21 ?_
    refine g_nmh (fun h7 => ?_)
    refine g_aload_n (pc := 22) dX7_takes_22 rfl 0 rfl ?_
    refine gf_RX7_28_17 (pc := 23) dX7_takes_23 ?_
    refine g_iconst (pc := 26) (v := 5) dX7_takes_26 (by decide) ?_
    refine g_aload_n (pc := 27) dX7_takes_27 rfl 0 rfl ?_
    refine gf_RX7_187_17 (pc := 28) dX7_takes_28 ?_
    refine g_imul (pc := 31) dX7_takes_31 ?_
    refine g_iconst (pc := 32) (v := 4) dX7_takes_32 (by decide) ?_
    refine g_iadd (pc := 33) dX7_takes_33 ?_
    refine g_sipush (pc := 34) (v := 1000) dX7_takes_34 (by decide) ?_
    refine g_iast (pc := 37) 24 (gat_24 _ _) (gset_24 _ _ _) dX7_takes_37 ?_
    refine g_nmh (fun h8 => ?_)
    refine g_aload_n (pc := 38) dX7_takes_38 rfl 0 rfl ?_
    refine g_iconst (pc := 39) (v := 1) dX7_takes_39 (by decide) ?_
    refine pf_RX7_181_17 (pc := 40) dX7_takes_40 ?_
    refine g_nmh (fun h9 => ?_)
    refine g_iload_n (pc := 43) dX7_takes_43 rfl 1 rfl ?_
    refine g_bipush (pc := 44) (v := 48) dX7_takes_44 (by decide) ?_
    refine g_bipush (pc := 46) (v := 55) dX7_takes_46 (by decide) ?_
    refine g_cI (pc := 48) (st := []) (fun r hr => gRunS (As := [.int p0, .int 48, .int 55]) (ge_X7_within γ p0 48 55 h9) hr wv_RX7_38 rfl (Nat.le_of_ble_eq_true rfl) rfl (Nat.le_of_ble_eq_true rfl) (Nat.le_of_ble_eq_true rfl) dX7_takes_48) (fun x11 h10 => ?_)
    exact g_zreturn (pc := 51) dX7_takes_51 rfl rfl
def jb_X7_rightUpTo_44  (a1 : Int32) (h : Hst) : Option (Int32 × Hst) :=
  (some (a1, h))
def lp_X7_rightUpTo_17 : Nat → Int32 → Hst → Option (Int32 × Hst)
  | 0, _, _ => none
  | n + 1, a1, h =>
    (if (h.1 17 3) ≤ a1 then
      (jb_X7_rightUpTo_44 a1 h)
    else
      gck a1 60 (gb (f_X7_takes (h.1 20 a1.toNatClampNeg) h) fun x2 h1 =>
      (if x2 = 0 then
        (jb_X7_rightUpTo_44 a1 h1)
      else
        ((lp_X7_rightUpTo_17 n) (a1 + 1) h1))))
def f_X7_rightUpTo  (h : Hst) : Option (Int32 × Hst) :=
  gl (hst h 17 19 0) fun h1 =>
  gl (hst h1 17 20 (-1)) fun h2 =>
  gl (hst h2 17 21 0) fun h3 =>
  (lp_X7_rightUpTo_17 FU 0 h3)
set_option maxRecDepth 20000 in
theorem gjb_X7_rightUpTo_44 (γ : Gv)  (a1 : Int32) (h : Hst) : G γ RX7 cX7_rightUpTo 2 (some .int) [] vI 3 0 44 [(1, .int a1)] [] h (jb_X7_rightUpTo_44 a1 h) := by
  unfold jb_X7_rightUpTo_44
  refine g_iload_n (pc := 44) dX7_rightUpTo_44 rfl 0 rfl ?_
  exact g_ireturn (pc := 45) (ty := .int) dX7_rightUpTo_45 rfl rfl rfl
set_option maxRecDepth 20000 in
theorem glp_X7_rightUpTo_17 (γ : Gv)  : ∀ (n : Nat) (a1 : Int32) (h : Hst), G γ RX7 cX7_rightUpTo 2 (some .int) [] vI 3 0 17 [(0, .ref (gad γ 17)), (1, .int a1)] [] h (lp_X7_rightUpTo_17 n a1 h) := by
  intro n
  induction n with
  | zero => intro a1 h; exact g_none
  | succ n ih =>
    intro a1 h
    rw [lp_X7_rightUpTo_17]
    refine g_iload_n (pc := 17) dX7_rightUpTo_17 rfl 1 rfl ?_
    refine g_aload_n (pc := 18) dX7_rightUpTo_18 rfl 0 rfl ?_
    refine gf_RX7_175_17 (pc := 19) dX7_rightUpTo_19 ?_
    refine g_icmp_ge (pc := 22) (tgt := 44) dX7_rightUpTo_22 (by decide) ?_ ?_
    · exact g_sub [1] rfl (gjb_X7_rightUpTo_44 γ a1 h)
    · refine g_aload_n (pc := 25) dX7_rightUpTo_25 rfl 0 rfl ?_
      refine g_aload_n (pc := 26) dX7_rightUpTo_26 rfl 0 rfl ?_
      refine gf_RX7_16_17 (pc := 27) dX7_rightUpTo_27 ?_
      refine g_iload_n (pc := 30) dX7_rightUpTo_30 rfl 1 rfl ?_
      refine g_iald (pc := 31) 20 (gat_20 _ _) dX7_rightUpTo_31 ?_
      refine g_cI (pc := 32) (st := []) (fun r hr => gRunV (As := [.int (h.1 20 a1.toNatClampNeg)]) 17 (ge_X7_takes γ (h.1 20 a1.toNatClampNeg) h) hr wv_RX7_199 rfl (Nat.le_of_ble_eq_true rfl) (gat_17 _ _) rfl rfl (Nat.le_of_ble_eq_true rfl) (Nat.le_of_ble_eq_true rfl) dX7_rightUpTo_32) (fun x2 h1 => ?_)
      refine g_if_eq (pc := 35) (tgt := 44) dX7_rightUpTo_35 (by decide) ?_ ?_
      · exact g_sub [1] rfl (gjb_X7_rightUpTo_44 γ a1 h1)
      · refine g_iinc (pc := 38) (q := 1) (v := a1 + 1) (lv' := [(1, .int (a1 + 1)), (0, .ref (gad γ 17))]) dX7_rightUpTo_38 rfl rfl (by decide) rfl ?_
        refine g_goto (pc := 41) (tgt := 17) dX7_rightUpTo_41 (by decide) ?_
        exact g_sub [1, 0] rfl (ih (a1 + 1) h1)
set_option maxRecDepth 20000 in
theorem ge_X7_rightUpTo (γ : Gv)  (h : Hst) : G γ RX7 cX7_rightUpTo 2 (some .int) [] vI 3 0 0 (lv_args 0 [.ref (gad γ 17)]) [] h (f_X7_rightUpTo h) := by
  show G γ RX7 cX7_rightUpTo 2 (some .int) [] vI 3 0 0 [(0, .ref (gad γ 17))] [] h (f_X7_rightUpTo h)
  unfold f_X7_rightUpTo
  refine g_aload_n (pc := 0) dX7_rightUpTo_0 rfl 0 rfl ?_
  refine g_iconst (pc := 1) (v := 0) dX7_rightUpTo_1 (by decide) ?_
  refine pf_RX7_187_17 (pc := 2) dX7_rightUpTo_2 ?_
  refine g_nmh (fun h1 => ?_)
  refine g_aload_n (pc := 5) dX7_rightUpTo_5 rfl 0 rfl ?_
  refine g_iconst (pc := 6) (v := (-1)) dX7_rightUpTo_6 (by decide) ?_
  refine pf_RX7_178_17 (pc := 7) dX7_rightUpTo_7 ?_
  refine g_nmh (fun h2 => ?_)
  refine g_aload_n (pc := 10) dX7_rightUpTo_10 rfl 0 rfl ?_
  refine g_iconst (pc := 11) (v := 0) dX7_rightUpTo_11 (by decide) ?_
  refine pf_RX7_181_17 (pc := 12) dX7_rightUpTo_12 ?_
  refine g_nmh (fun h3 => ?_)
  refine g_iconst (pc := 15) (v := 0) dX7_rightUpTo_15 (by decide) ?_
  refine g_istore_n (pc := 16) (lv' := [(1, .int 0), (0, .ref (gad γ 17))]) dX7_rightUpTo_16 rfl (by decide) rfl ?_
  exact g_sub [1, 0] rfl (glp_X7_rightUpTo_17 γ FU 0 h3)
def f_X7_firstError  (h : Hst) : Option (Int32 × Hst) :=
  gl (hst h 17 5 0) fun h1 =>
  gb (f_X7_rightUpTo h1) fun x3 h2 =>
  (some (x3, h2))
set_option maxRecDepth 20000 in
theorem ge_X7_firstError (γ : Gv)  (h : Hst) : G γ RX7 cX7_firstError 1 (some .int) [] vI 4 0 0 (lv_args 0 [.ref (gad γ 17)]) [] h (f_X7_firstError h) := by
  show G γ RX7 cX7_firstError 1 (some .int) [] vI 4 0 0 [(0, .ref (gad γ 17))] [] h (f_X7_firstError h)
  unfold f_X7_firstError
  refine g_aload_n (pc := 0) dX7_firstError_0 rfl 0 rfl ?_
  refine g_iconst (pc := 1) (v := 0) dX7_firstError_1 (by decide) ?_
  refine pf_RX7_31_17 (pc := 2) dX7_firstError_2 ?_
  refine g_nmh (fun h1 => ?_)
  refine g_aload_n (pc := 5) dX7_firstError_5 rfl 0 rfl ?_
  refine g_cI (pc := 6) (st := []) (fun r hr => gRunV (As := []) 17 (ge_X7_rightUpTo γ h1) hr wv_RX7_202 rfl (Nat.le_of_ble_eq_true rfl) (gat_17 _ _) rfl rfl (Nat.le_of_ble_eq_true rfl) (Nat.le_of_ble_eq_true rfl) dX7_firstError_6) (fun x3 h2 => ?_)
  exact g_ireturn (pc := 9) (ty := .int) dX7_firstError_9 rfl rfl rfl
def jb_X7_adds_103  (s0 : Int32) (h : Hst) : Option (Int32 × Hst) :=
  (gzr s0 (some (s0, h)))
def jb_X7_adds_94  (a3 : Int32) (h : Hst) : Option (Int32 × Hst) :=
  (if a3 = 0 then
    (jb_X7_adds_103 1 h)
  else
    (jb_X7_adds_103 0 h))
def f_X7_adds (p0 : Int32) (h : Hst) : Option (Int32 × Hst) :=
  gl (5 * p0) fun x1 =>
  gck x1 60 (gck (x1 + 1) 60 (gck (x1 + 2) 60 (gck (x1 + 3) 60 (gck (x1 + 4) 60 (gb (f_X7_refusedLot (h.1 24 x1.toNatClampNeg) (h.1 24 (x1 + 1).toNatClampNeg) (h.1 24 (x1 + 2).toNatClampNeg) (h.1 24 (x1 + 3).toNatClampNeg) (h.1 24 (x1 + 4).toNatClampNeg) h) fun x3 h2 =>
  (if x3 = 0 then
    gck x1 60 (gck (x1 + 1) 60 (gck (x1 + 2) 60 (gck (x1 + 3) 60 (gck (x1 + 4) 60 (gb (f_X7_putLot (h2.1 24 x1.toNatClampNeg) (h2.1 24 (x1 + 1).toNatClampNeg) (h2.1 24 (x1 + 2).toNatClampNeg) (h2.1 24 (x1 + 3).toNatClampNeg) (h2.1 24 (x1 + 4).toNatClampNeg) h2) fun x5 h4 =>
    (jb_X7_adds_94 x3 h4))))))
  else
    (jb_X7_adds_94 x3 h2)))))))
set_option maxRecDepth 20000 in
theorem gjb_X7_adds_103 (γ : Gv)  (s0 : Int32) (h : Hst) : G γ RX7 cX7_adds 4 (some .boolean) [] vI 3 0 103 [] [.int s0] h (jb_X7_adds_103 s0 h) := by
  unfold jb_X7_adds_103
  exact g_zreturn (pc := 103) dX7_adds_103 rfl rfl
set_option maxRecDepth 20000 in
theorem gjb_X7_adds_94 (γ : Gv)  (a3 : Int32) (h : Hst) : G γ RX7 cX7_adds 4 (some .boolean) [] vI 3 0 94 [(3, .int a3)] [] h (jb_X7_adds_94 a3 h) := by
  unfold jb_X7_adds_94
  refine g_iload_n (pc := 94) dX7_adds_94 rfl 0 rfl ?_
  refine g_if_ne (pc := 95) (tgt := 102) dX7_adds_95 (by decide) ?_ ?_
  · refine g_iconst (pc := 102) (v := 0) dX7_adds_102 (by decide) ?_
    exact g_sub [] rfl (gjb_X7_adds_103 γ 0 h)
  · refine g_iconst (pc := 98) (v := 1) dX7_adds_98 (by decide) ?_
    refine g_goto (pc := 99) (tgt := 103) dX7_adds_99 (by decide) ?_
    exact g_sub [] rfl (gjb_X7_adds_103 γ 1 h)
set_option maxRecDepth 20000 in
theorem ge_X7_adds (γ : Gv) (p0 : Int32) (h : Hst) : G γ RX7 cX7_adds 4 (some .boolean) [] vI 3 0 0 (lv_args 0 [.ref (gad γ 17), .int p0]) [] h (f_X7_adds p0 h) := by
  show G γ RX7 cX7_adds 4 (some .boolean) [] vI 3 0 0 [(0, .ref (gad γ 17)), (1, .int p0)] [] h (f_X7_adds p0 h)
  unfold f_X7_adds
  refine g_iconst (pc := 0) (v := 5) dX7_adds_0 (by decide) ?_
  refine g_iload_n (pc := 1) dX7_adds_1 rfl 1 rfl ?_
  refine g_imul (pc := 2) dX7_adds_2 ?_
  refine g_nmi (fun x1 => ?_)
  refine g_istore_n (pc := 3) (lv' := [(2, .int x1), (0, .ref (gad γ 17)), (1, .int p0)]) dX7_adds_3 rfl (by decide) rfl ?_
  refine g_aload_n (pc := 4) dX7_adds_4 rfl 1 rfl ?_
  refine g_aload_n (pc := 5) dX7_adds_5 rfl 1 rfl ?_
  refine gf_RX7_28_17 (pc := 6) dX7_adds_6 ?_
  refine g_iload_n (pc := 9) dX7_adds_9 rfl 0 rfl ?_
  refine g_iald (pc := 10) 24 (gat_24 _ _) dX7_adds_10 ?_
  refine g_aload_n (pc := 11) dX7_adds_11 rfl 1 rfl ?_
  refine gf_RX7_28_17 (pc := 12) dX7_adds_12 ?_
  refine g_iload_n (pc := 15) dX7_adds_15 rfl 0 rfl ?_
  refine g_iconst (pc := 16) (v := 1) dX7_adds_16 (by decide) ?_
  refine g_iadd (pc := 17) dX7_adds_17 ?_
  refine g_iald (pc := 18) 24 (gat_24 _ _) dX7_adds_18 ?_
  refine g_aload_n (pc := 19) dX7_adds_19 rfl 1 rfl ?_
  refine gf_RX7_28_17 (pc := 20) dX7_adds_20 ?_
  refine g_iload_n (pc := 23) dX7_adds_23 rfl 0 rfl ?_
  refine g_iconst (pc := 24) (v := 2) dX7_adds_24 (by decide) ?_
  refine g_iadd (pc := 25) dX7_adds_25 ?_
  refine g_iald (pc := 26) 24 (gat_24 _ _) dX7_adds_26 ?_
  refine g_aload_n (pc := 27) dX7_adds_27 rfl 1 rfl ?_
  refine gf_RX7_28_17 (pc := 28) dX7_adds_28 ?_
  refine g_iload_n (pc := 31) dX7_adds_31 rfl 0 rfl ?_
  refine g_iconst (pc := 32) (v := 3) dX7_adds_32 (by decide) ?_
  refine g_iadd (pc := 33) dX7_adds_33 ?_
  refine g_iald (pc := 34) 24 (gat_24 _ _) dX7_adds_34 ?_
  refine g_aload_n (pc := 35) dX7_adds_35 rfl 1 rfl ?_
  refine gf_RX7_28_17 (pc := 36) dX7_adds_36 ?_
  refine g_iload_n (pc := 39) dX7_adds_39 rfl 0 rfl ?_
  refine g_iconst (pc := 40) (v := 4) dX7_adds_40 (by decide) ?_
  refine g_iadd (pc := 41) dX7_adds_41 ?_
  refine g_iald (pc := 42) 24 (gat_24 _ _) dX7_adds_42 ?_
  refine g_cI (pc := 43) (st := []) (fun r hr => gRunV (As := [.int (h.1 24 x1.toNatClampNeg), .int (h.1 24 (x1 + 1).toNatClampNeg), .int (h.1 24 (x1 + 2).toNatClampNeg), .int (h.1 24 (x1 + 3).toNatClampNeg), .int (h.1 24 (x1 + 4).toNatClampNeg)]) 17 (ge_X7_refusedLot γ (h.1 24 x1.toNatClampNeg) (h.1 24 (x1 + 1).toNatClampNeg) (h.1 24 (x1 + 2).toNatClampNeg) (h.1 24 (x1 + 3).toNatClampNeg) (h.1 24 (x1 + 4).toNatClampNeg) h) hr wv_RX7_70 rfl (Nat.le_of_ble_eq_true rfl) (gat_17 _ _) rfl rfl (Nat.le_of_ble_eq_true rfl) (Nat.le_of_ble_eq_true rfl) dX7_adds_43) (fun x3 h2 => ?_)
  refine g_istore_n (pc := 46) (lv' := [(3, .int x3), (2, .int x1), (0, .ref (gad γ 17)), (1, .int p0)]) dX7_adds_46 rfl (by decide) rfl ?_
  refine g_iload_n (pc := 47) dX7_adds_47 rfl 0 rfl ?_
  refine g_if_ne (pc := 48) (tgt := 94) dX7_adds_48 (by decide) ?_ ?_
  · exact g_sub [0] rfl (gjb_X7_adds_94 γ x3 h2)
  · refine g_aload_n (pc := 51) dX7_adds_51 rfl 2 rfl ?_
    refine g_aload_n (pc := 52) dX7_adds_52 rfl 2 rfl ?_
    refine gf_RX7_28_17 (pc := 53) dX7_adds_53 ?_
    refine g_iload_n (pc := 56) dX7_adds_56 rfl 1 rfl ?_
    refine g_iald (pc := 57) 24 (gat_24 _ _) dX7_adds_57 ?_
    refine g_aload_n (pc := 58) dX7_adds_58 rfl 2 rfl ?_
    refine gf_RX7_28_17 (pc := 59) dX7_adds_59 ?_
    refine g_iload_n (pc := 62) dX7_adds_62 rfl 1 rfl ?_
    refine g_iconst (pc := 63) (v := 1) dX7_adds_63 (by decide) ?_
    refine g_iadd (pc := 64) dX7_adds_64 ?_
    refine g_iald (pc := 65) 24 (gat_24 _ _) dX7_adds_65 ?_
    refine g_aload_n (pc := 66) dX7_adds_66 rfl 2 rfl ?_
    refine gf_RX7_28_17 (pc := 67) dX7_adds_67 ?_
    refine g_iload_n (pc := 70) dX7_adds_70 rfl 1 rfl ?_
    refine g_iconst (pc := 71) (v := 2) dX7_adds_71 (by decide) ?_
    refine g_iadd (pc := 72) dX7_adds_72 ?_
    refine g_iald (pc := 73) 24 (gat_24 _ _) dX7_adds_73 ?_
    refine g_aload_n (pc := 74) dX7_adds_74 rfl 2 rfl ?_
    refine gf_RX7_28_17 (pc := 75) dX7_adds_75 ?_
    refine g_iload_n (pc := 78) dX7_adds_78 rfl 1 rfl ?_
    refine g_iconst (pc := 79) (v := 3) dX7_adds_79 (by decide) ?_
    refine g_iadd (pc := 80) dX7_adds_80 ?_
    refine g_iald (pc := 81) 24 (gat_24 _ _) dX7_adds_81 ?_
    refine g_aload_n (pc := 82) dX7_adds_82 rfl 2 rfl ?_
    refine gf_RX7_28_17 (pc := 83) dX7_adds_83 ?_
    refine g_iload_n (pc := 86) dX7_adds_86 rfl 1 rfl ?_
    refine g_iconst (pc := 87) (v := 4) dX7_adds_87 (by decide) ?_
    refine g_iadd (pc := 88) dX7_adds_88 ?_
    refine g_iald (pc := 89) 24 (gat_24 _ _) dX7_adds_89 ?_
    refine g_cI (pc := 90) (st := []) (fun r hr => gRunV (As := [.int (h2.1 24 x1.toNatClampNeg), .int (h2.1 24 (x1 + 1).toNatClampNeg), .int (h2.1 24 (x1 + 2).toNatClampNeg), .int (h2.1 24 (x1 + 3).toNatClampNeg), .int (h2.1 24 (x1 + 4).toNatClampNeg)]) 17 (ge_X7_putLot γ (h2.1 24 x1.toNatClampNeg) (h2.1 24 (x1 + 1).toNatClampNeg) (h2.1 24 (x1 + 2).toNatClampNeg) (h2.1 24 (x1 + 3).toNatClampNeg) (h2.1 24 (x1 + 4).toNatClampNeg) h2) hr wv_RX7_74 rfl (Nat.le_of_ble_eq_true rfl) (gat_17 _ _) rfl rfl (Nat.le_of_ble_eq_true rfl) (Nat.le_of_ble_eq_true rfl) dX7_adds_90) (fun x5 h4 => ?_)
    refine g_pop (pc := 93) dX7_adds_93 rfl ?_
    exact g_sub [0] rfl (gjb_X7_adds_94 γ x3 h4)
def jb_X7_addSlips_85  (a2 : Int32) (h : Hst) : Option (Int32 × Hst) :=
  (some (a2, h))
def lp_X7_addSlips_63 : Nat → Int32 → Hst → Option (Int32 × Hst)
  | 0, _, _ => none
  | n + 1, a2, h =>
    (if (h.1 17 19) < a2 then
      (jb_X7_addSlips_85 a2 h)
    else
      gb (f_X7_adds a2 h) fun x2 h1 =>
      (if x2 = 0 then
        (jb_X7_addSlips_85 a2 h1)
      else
        ((lp_X7_addSlips_63 n) (a2 + 1) h1)))
def jb_X7_addSlips_34  (s0 : Int32) (h : Hst) : Option (Int32 × Hst) :=
  gl (hst h 17 5 s0) fun h1 =>
  (if (h1.1 17 5) ≤ 0 then
    gbv (f_X7_save h1) fun h2 =>
    gb (f_X7_ends 0 h2) fun x4 h3 =>
    gl (hst h3 17 3 0) fun h5 =>
    (lp_X7_addSlips_63 FU 0 h5)
  else
    (some (0, h1)))
def jb_X7_addSlips_23  (s0 : Int32) (h : Hst) : Option (Int32 × Hst) :=
  (if s0 = 0 then
    (jb_X7_addSlips_34 1 h)
  else
    (jb_X7_addSlips_34 0 h))
def jb_X7_addSlips_22   (h : Hst) : Option (Int32 × Hst) :=
  (jb_X7_addSlips_23 0 h)
def f_X7_addSlips  (h : Hst) : Option (Int32 × Hst) :=
  gb (f_X7_rightUpTo h) fun x2 h1 =>
  (if x2 = (h1.1 17 3) then
    gb (f_X7_isEnded h1) fun x4 h3 =>
    (if x4 = 0 then
      (jb_X7_addSlips_22 h3)
    else
      (jb_X7_addSlips_23 1 h3))
  else
    (jb_X7_addSlips_22 h1))
set_option maxRecDepth 20000 in
theorem gjb_X7_addSlips_85 (γ : Gv)  (a2 : Int32) (h : Hst) : G γ RX7 cX7_addSlips 3 (some .int) [] vI 4 0 85 [(2, .int a2)] [] h (jb_X7_addSlips_85 a2 h) := by
  unfold jb_X7_addSlips_85
  refine g_iload_n (pc := 85) dX7_addSlips_85 rfl 0 rfl ?_
  exact g_ireturn (pc := 86) (ty := .int) dX7_addSlips_86 rfl rfl rfl
set_option maxRecDepth 20000 in
theorem glp_X7_addSlips_63 (γ : Gv)  : ∀ (n : Nat) (a2 : Int32) (h : Hst), G γ RX7 cX7_addSlips 3 (some .int) [] vI 4 0 63 [(0, .ref (gad γ 17)), (2, .int a2)] [] h (lp_X7_addSlips_63 n a2 h) := by
  intro n
  induction n with
  | zero => intro a2 h; exact g_none
  | succ n ih =>
    intro a2 h
    rw [lp_X7_addSlips_63]
    refine g_iload_n (pc := 63) dX7_addSlips_63 rfl 1 rfl ?_
    refine g_aload_n (pc := 64) dX7_addSlips_64 rfl 0 rfl ?_
    refine gf_RX7_187_17 (pc := 65) dX7_addSlips_65 ?_
    refine g_icmp_gt (pc := 68) (tgt := 85) dX7_addSlips_68 (by decide) ?_ ?_
    · exact g_sub [1] rfl (gjb_X7_addSlips_85 γ a2 h)
    · refine g_aload_n (pc := 71) dX7_addSlips_71 rfl 0 rfl ?_
      refine g_iload_n (pc := 72) dX7_addSlips_72 rfl 1 rfl ?_
      refine g_cI (pc := 73) (st := []) (fun r hr => gRunV (As := [.int a2]) 17 (ge_X7_adds γ a2 h) hr wv_RX7_206 rfl (Nat.le_of_ble_eq_true rfl) (gat_17 _ _) rfl rfl (Nat.le_of_ble_eq_true rfl) (Nat.le_of_ble_eq_true rfl) dX7_addSlips_73) (fun x2 h1 => ?_)
      refine g_if_eq (pc := 76) (tgt := 85) dX7_addSlips_76 (by decide) ?_ ?_
      · exact g_sub [1] rfl (gjb_X7_addSlips_85 γ a2 h1)
      · refine g_iinc (pc := 79) (q := 1) (v := a2 + 1) (lv' := [(2, .int (a2 + 1)), (0, .ref (gad γ 17))]) dX7_addSlips_79 rfl rfl (by decide) rfl ?_
        refine g_goto (pc := 82) (tgt := 63) dX7_addSlips_82 (by decide) ?_
        exact g_sub [1, 0] rfl (ih (a2 + 1) h1)
set_option maxRecDepth 20000 in
theorem gjb_X7_addSlips_34 (γ : Gv)  (s0 : Int32) (h : Hst) : G γ RX7 cX7_addSlips 3 (some .int) [] vI 4 0 34 [(0, .ref (gad γ 17))] [.int s0, .ref (gad γ 17)] h (jb_X7_addSlips_34 s0 h) := by
  unfold jb_X7_addSlips_34
  refine pf_RX7_31_17 (pc := 34) dX7_addSlips_34 ?_
  refine g_nmh (fun h1 => ?_)
  refine g_aload_n (pc := 37) dX7_addSlips_37 rfl 0 rfl ?_
  refine gf_RX7_31_17 (pc := 38) dX7_addSlips_38 ?_
  refine g_if_le (pc := 41) (tgt := 46) dX7_addSlips_41 (by decide) ?_ ?_
  · refine g_aload_n (pc := 46) dX7_addSlips_46 rfl 0 rfl ?_
    refine g_cV (pc := 47) (st := []) (fun r hr => gRunV (As := []) 17 (ge_X7_save γ h1) hr wv_RX7_56 rfl (Nat.le_of_ble_eq_true rfl) (gat_17 _ _) rfl rfl (Nat.le_of_ble_eq_true rfl) (Nat.le_of_ble_eq_true rfl) dX7_addSlips_47) (fun h2 => ?_)
    refine g_aload_n (pc := 50) dX7_addSlips_50 rfl 0 rfl ?_
    refine g_iconst (pc := 51) (v := 0) dX7_addSlips_51 (by decide) ?_
    refine g_cI (pc := 52) (st := []) (fun r hr => gRunV (As := [.int 0]) 17 (ge_X7_ends γ 0 h2) hr wv_RX7_190 rfl (Nat.le_of_ble_eq_true rfl) (gat_17 _ _) rfl rfl (Nat.le_of_ble_eq_true rfl) (Nat.le_of_ble_eq_true rfl) dX7_addSlips_52) (fun x4 h3 => ?_)
    refine g_pop (pc := 55) dX7_addSlips_55 rfl ?_
    refine g_aload_n (pc := 56) dX7_addSlips_56 rfl 0 rfl ?_
    refine g_iconst (pc := 57) (v := 0) dX7_addSlips_57 (by decide) ?_
    refine pf_RX7_175_17 (pc := 58) dX7_addSlips_58 ?_
    refine g_nmh (fun h5 => ?_)
    refine g_iconst (pc := 61) (v := 0) dX7_addSlips_61 (by decide) ?_
    refine g_istore_n (pc := 62) (lv' := [(2, .int 0), (0, .ref (gad γ 17))]) dX7_addSlips_62 rfl (by decide) rfl ?_
    exact g_sub [1, 0] rfl (glp_X7_addSlips_63 γ FU 0 h5)
  · refine g_iconst (pc := 44) (v := 0) dX7_addSlips_44 (by decide) ?_
    exact g_ireturn (pc := 45) (ty := .int) dX7_addSlips_45 rfl rfl rfl
set_option maxRecDepth 20000 in
theorem gjb_X7_addSlips_23 (γ : Gv)  (s0 : Int32) (h : Hst) : G γ RX7 cX7_addSlips 3 (some .int) [] vI 4 0 23 [(0, .ref (gad γ 17))] [.int s0] h (jb_X7_addSlips_23 s0 h) := by
  unfold jb_X7_addSlips_23
  refine g_istore_n (pc := 23) (lv' := [(1, .int s0), (0, .ref (gad γ 17))]) dX7_addSlips_23 rfl (by decide) rfl ?_
  refine g_aload_n (pc := 24) dX7_addSlips_24 rfl 1 rfl ?_
  refine g_iload_n (pc := 25) dX7_addSlips_25 rfl 0 rfl ?_
  refine g_if_eq (pc := 26) (tgt := 33) dX7_addSlips_26 (by decide) ?_ ?_
  · refine g_iconst (pc := 33) (v := 1) dX7_addSlips_33 (by decide) ?_
    exact g_sub [1] rfl (gjb_X7_addSlips_34 γ 1 h)
  · refine g_iconst (pc := 29) (v := 0) dX7_addSlips_29 (by decide) ?_
    refine g_goto (pc := 30) (tgt := 34) dX7_addSlips_30 (by decide) ?_
    exact g_sub [1] rfl (gjb_X7_addSlips_34 γ 0 h)
set_option maxRecDepth 20000 in
theorem gjb_X7_addSlips_22 (γ : Gv)   (h : Hst) : G γ RX7 cX7_addSlips 3 (some .int) [] vI 4 0 22 [(0, .ref (gad γ 17))] [] h (jb_X7_addSlips_22 h) := by
  unfold jb_X7_addSlips_22
  refine g_iconst (pc := 22) (v := 0) dX7_addSlips_22 (by decide) ?_
  exact gjb_X7_addSlips_23 γ 0 h
set_option maxRecDepth 20000 in
theorem ge_X7_addSlips (γ : Gv)  (h : Hst) : G γ RX7 cX7_addSlips 3 (some .int) [] vI 4 0 0 (lv_args 0 [.ref (gad γ 17)]) [] h (f_X7_addSlips h) := by
  show G γ RX7 cX7_addSlips 3 (some .int) [] vI 4 0 0 [(0, .ref (gad γ 17))] [] h (f_X7_addSlips h)
  unfold f_X7_addSlips
  refine g_aload_n (pc := 0) dX7_addSlips_0 rfl 0 rfl ?_
  refine g_cI (pc := 1) (st := []) (fun r hr => gRunV (As := []) 17 (ge_X7_rightUpTo γ h) hr wv_RX7_202 rfl (Nat.le_of_ble_eq_true rfl) (gat_17 _ _) rfl rfl (Nat.le_of_ble_eq_true rfl) (Nat.le_of_ble_eq_true rfl) dX7_addSlips_1) (fun x2 h1 => ?_)
  refine g_aload_n (pc := 4) dX7_addSlips_4 rfl 0 rfl ?_
  refine gf_RX7_175_17 (pc := 5) dX7_addSlips_5 ?_
  refine g_icmp_ne (pc := 8) (tgt := 22) dX7_addSlips_8 (by decide) ?_ ?_
  · exact gjb_X7_addSlips_22 γ h1
  · refine g_aload_n (pc := 11) dX7_addSlips_11 rfl 0 rfl ?_
    refine g_cI (pc := 12) (st := []) (fun r hr => gRunV (As := []) 17 (ge_X7_isEnded γ h1) hr wv_RX7_193 rfl (Nat.le_of_ble_eq_true rfl) (gat_17 _ _) rfl rfl (Nat.le_of_ble_eq_true rfl) (Nat.le_of_ble_eq_true rfl) dX7_addSlips_12) (fun x4 h3 => ?_)
    refine g_if_eq (pc := 15) (tgt := 22) dX7_addSlips_15 (by decide) ?_ ?_
    · exact gjb_X7_addSlips_22 γ h3
    · refine g_iconst (pc := 18) (v := 1) dX7_addSlips_18 (by decide) ?_
      refine g_goto (pc := 19) (tgt := 23) dX7_addSlips_19 (by decide) ?_
      exact gjb_X7_addSlips_23 γ 1 h3
def lp_X7_undo_37 : Nat → Int32 → Hst → Option (Int32 × Hst)
  | 0, _, _ => none
  | n + 1, a1, h =>
    (if 514 ≤ a1 then
      (some (h.1 17 1, h))
    else
      gck ((514 * (h.1 17 1)) + a1) 3084 (gck a1 514 (gl (hst h 18 a1.toNatClampNeg (h.1 19 ((514 * (h.1 17 1)) + a1).toNatClampNeg)) fun h1 =>
      ((lp_X7_undo_37 n) (a1 + 1) h1))))
def jb_X7_undo_13  (s0 : Int32) (h : Hst) : Option (Int32 × Hst) :=
  gl (hst h 17 5 s0) fun h1 =>
  (if (h1.1 17 5) ≤ 0 then
    gl (hst h1 17 1 ((h1.1 17 1) - 1)) fun h2 =>
    (lp_X7_undo_37 FU 0 h2)
  else
    (some (0, h1)))
def f_X7_undo  (h : Hst) : Option (Int32 × Hst) :=
  (if (h.1 17 1) ≤ 0 then
    (jb_X7_undo_13 1 h)
  else
    (jb_X7_undo_13 0 h))
set_option maxRecDepth 20000 in
theorem glp_X7_undo_37 (γ : Gv)  : ∀ (n : Nat) (a1 : Int32) (h : Hst), G γ RX7 cX7_undo 2 (some .int) [] vI 0 0 37 [(0, .ref (gad γ 17)), (1, .int a1)] [] h (lp_X7_undo_37 n a1 h) := by
  intro n
  induction n with
  | zero => intro a1 h; exact g_none
  | succ n ih =>
    intro a1 h
    rw [lp_X7_undo_37]
    refine g_iload_n (pc := 37) dX7_undo_37 rfl 1 rfl ?_
    refine g_sipush (pc := 38) (v := 514) dX7_undo_38 (by decide) ?_
    refine g_icmp_ge (pc := 41) (tgt := 71) dX7_undo_41 (by decide) ?_ ?_
    · refine g_aload_n (pc := 71) dX7_undo_71 rfl 0 rfl ?_
      refine gf_RX7_35_17 (pc := 72) dX7_undo_72 ?_
      exact g_ireturn (pc := 75) (ty := .int) dX7_undo_75 rfl rfl rfl
    · refine g_aload_n (pc := 44) dX7_undo_44 rfl 0 rfl ?_
      refine gf_RX7_7_17 (pc := 45) dX7_undo_45 ?_
      refine g_iload_n (pc := 48) dX7_undo_48 rfl 1 rfl ?_
      refine g_aload_n (pc := 49) dX7_undo_49 rfl 0 rfl ?_
      refine gf_RX7_13_17 (pc := 50) dX7_undo_50 ?_
      refine g_sipush (pc := 53) (v := 514) dX7_undo_53 (by decide) ?_
      refine g_aload_n (pc := 56) dX7_undo_56 rfl 0 rfl ?_
      refine gf_RX7_35_17 (pc := 57) dX7_undo_57 ?_
      refine g_imul (pc := 60) dX7_undo_60 ?_
      refine g_iload_n (pc := 61) dX7_undo_61 rfl 1 rfl ?_
      refine g_iadd (pc := 62) dX7_undo_62 ?_
      refine g_iald (pc := 63) 19 (gat_19 _ _) dX7_undo_63 ?_
      refine g_iast (pc := 64) 18 (gat_18 _ _) (gset_18 _ _ _) dX7_undo_64 ?_
      refine g_nmh (fun h1 => ?_)
      refine g_iinc (pc := 65) (q := 1) (v := a1 + 1) (lv' := [(1, .int (a1 + 1)), (0, .ref (gad γ 17))]) dX7_undo_65 rfl rfl (by decide) rfl ?_
      refine g_goto (pc := 68) (tgt := 37) dX7_undo_68 (by decide) ?_
      exact g_sub [1, 0] rfl (ih (a1 + 1) h1)
set_option maxRecDepth 20000 in
theorem gjb_X7_undo_13 (γ : Gv)  (s0 : Int32) (h : Hst) : G γ RX7 cX7_undo 2 (some .int) [] vI 0 0 13 [(0, .ref (gad γ 17))] [.int s0, .ref (gad γ 17)] h (jb_X7_undo_13 s0 h) := by
  unfold jb_X7_undo_13
  refine pf_RX7_31_17 (pc := 13) dX7_undo_13 ?_
  refine g_nmh (fun h1 => ?_)
  refine g_aload_n (pc := 16) dX7_undo_16 rfl 0 rfl ?_
  refine gf_RX7_31_17 (pc := 17) dX7_undo_17 ?_
  refine g_if_le (pc := 20) (tgt := 25) dX7_undo_20 (by decide) ?_ ?_
  · refine g_aload_n (pc := 25) dX7_undo_25 rfl 0 rfl ?_
    refine g_dup (pc := 26) dX7_undo_26 rfl ?_
    refine gf_RX7_35_17 (pc := 27) dX7_undo_27 ?_
    refine g_iconst (pc := 30) (v := 1) dX7_undo_30 (by decide) ?_
    refine g_isub (pc := 31) dX7_undo_31 ?_
    refine pf_RX7_35_17 (pc := 32) dX7_undo_32 ?_
    refine g_nmh (fun h2 => ?_)
    refine g_iconst (pc := 35) (v := 0) dX7_undo_35 (by decide) ?_
    refine g_istore_n (pc := 36) (lv' := [(1, .int 0), (0, .ref (gad γ 17))]) dX7_undo_36 rfl (by decide) rfl ?_
    exact g_sub [1, 0] rfl (glp_X7_undo_37 γ FU 0 h2)
  · refine g_iconst (pc := 23) (v := 0) dX7_undo_23 (by decide) ?_
    exact g_ireturn (pc := 24) (ty := .int) dX7_undo_24 rfl rfl rfl
set_option maxRecDepth 20000 in
theorem ge_X7_undo (γ : Gv)  (h : Hst) : G γ RX7 cX7_undo 2 (some .int) [] vI 0 0 0 (lv_args 0 [.ref (gad γ 17)]) [] h (f_X7_undo h) := by
  show G γ RX7 cX7_undo 2 (some .int) [] vI 0 0 0 [(0, .ref (gad γ 17))] [] h (f_X7_undo h)
  unfold f_X7_undo
  refine g_aload_n (pc := 0) dX7_undo_0 rfl 0 rfl ?_
  refine g_aload_n (pc := 1) dX7_undo_1 rfl 0 rfl ?_
  refine gf_RX7_35_17 (pc := 2) dX7_undo_2 ?_
  refine g_if_le (pc := 5) (tgt := 12) dX7_undo_5 (by decide) ?_ ?_
  · refine g_iconst (pc := 12) (v := 1) dX7_undo_12 (by decide) ?_
    exact gjb_X7_undo_13 γ 1 h
  · refine g_iconst (pc := 8) (v := 0) dX7_undo_8 (by decide) ?_
    refine g_goto (pc := 9) (tgt := 13) dX7_undo_9 (by decide) ?_
    exact gjb_X7_undo_13 γ 0 h
def jb_X7_lotsOf_83 (R6 : Int32 → Int32 → Int32 → Int32 → Int32 → Hst → Option (Int32 × Hst)) (a1 : Int32) (a2 : Int32) (a3 : Int32) (a5 : Int32) (s0 : Int32) (s1 : Int32) (h : Hst) : Option (Int32 × Hst) :=
  gl (s1 + s0) fun x1 =>
  (R6 a1 a2 a3 x1 (a5 + 1) h)
def jb_X7_lotsOf_82 (R6 : Int32 → Int32 → Int32 → Int32 → Int32 → Hst → Option (Int32 × Hst)) (a1 : Int32) (a2 : Int32) (a3 : Int32) (a5 : Int32) (s0 : Int32) (h : Hst) : Option (Int32 × Hst) :=
  (jb_X7_lotsOf_83 R6 a1 a2 a3 a5 0 s0 h)
def jb_X7_lotsOf_78 (R6 : Int32 → Int32 → Int32 → Int32 → Int32 → Hst → Option (Int32 × Hst)) (a1 : Int32) (a2 : Int32) (a3 : Int32) (a5 : Int32) (s0 : Int32) (h : Hst) : Option (Int32 × Hst) :=
  (jb_X7_lotsOf_83 R6 a1 a2 a3 a5 1 s0 h)
def jb_X7_lotsOf_55 (R6 : Int32 → Int32 → Int32 → Int32 → Int32 → Hst → Option (Int32 × Hst)) (a1 : Int32) (a2 : Int32) (a3 : Int32) (a4 : Int32) (a5 : Int32) (s0 : Int32) (h : Hst) : Option (Int32 × Hst) :=
  (if s0 = 0 then
    (jb_X7_lotsOf_82 R6 a1 a2 a3 a5 a4 h)
  else
    (if a3 = 0 then
      (jb_X7_lotsOf_78 R6 a1 a2 a3 a5 a4 h)
    else
      gb (f_X7_ofLot a5 5 h) fun x2 h1 =>
      (if x2 = 0 then
        (jb_X7_lotsOf_78 R6 a1 a2 a3 a5 a4 h1)
      else
        (jb_X7_lotsOf_82 R6 a1 a2 a3 a5 a4 h1))))
def jb_X7_lotsOf_50 (R6 : Int32 → Int32 → Int32 → Int32 → Int32 → Hst → Option (Int32 × Hst)) (a1 : Int32) (a2 : Int32) (a3 : Int32) (a4 : Int32) (a5 : Int32) (h : Hst) : Option (Int32 × Hst) :=
  (jb_X7_lotsOf_55 R6 a1 a2 a3 a4 a5 1 h)
def jb_X7_lotsOf_54 (R6 : Int32 → Int32 → Int32 → Int32 → Int32 → Hst → Option (Int32 × Hst)) (a1 : Int32) (a2 : Int32) (a3 : Int32) (a4 : Int32) (a5 : Int32) (h : Hst) : Option (Int32 × Hst) :=
  (jb_X7_lotsOf_55 R6 a1 a2 a3 a4 a5 0 h)
def jb_X7_lotsOf_34 (R6 : Int32 → Int32 → Int32 → Int32 → Int32 → Hst → Option (Int32 × Hst)) (a1 : Int32) (a2 : Int32) (a3 : Int32) (a4 : Int32) (a5 : Int32) (h : Hst) : Option (Int32 × Hst) :=
  (if a2 = (-1) then
    (jb_X7_lotsOf_50 R6 a1 a2 a3 a4 a5 h)
  else
    gb (f_X7_ofLot a5 1 h) fun x2 h1 =>
    (if x2 = a2 then
      (jb_X7_lotsOf_50 R6 a1 a2 a3 a4 a5 h1)
    else
      (jb_X7_lotsOf_54 R6 a1 a2 a3 a4 a5 h1)))
def lp_X7_lotsOf_6 : Nat → Int32 → Int32 → Int32 → Int32 → Int32 → Hst → Option (Int32 × Hst)
  | 0, _, _, _, _, _, _ => none
  | n + 1, a1, a2, a3, a4, a5, h =>
    gck 8 514 ((if (h.1 18 (8 : Int32).toNatClampNeg) ≤ a5 then
      (some (a4, h))
    else
      (if a1 = (-1) then
        (jb_X7_lotsOf_34 (lp_X7_lotsOf_6 n) a1 a2 a3 a4 a5 h)
      else
        gb (f_X7_ofLot a5 0 h) fun x2 h1 =>
        (if x2 = a1 then
          (jb_X7_lotsOf_34 (lp_X7_lotsOf_6 n) a1 a2 a3 a4 a5 h1)
        else
          (jb_X7_lotsOf_54 (lp_X7_lotsOf_6 n) a1 a2 a3 a4 a5 h1)))))
def f_X7_lotsOf (p0 : Int32) (p1 : Int32) (p2 : Int32) (h : Hst) : Option (Int32 × Hst) :=
  (lp_X7_lotsOf_6 FU p0 p1 p2 0 0 h)
set_option maxRecDepth 20000 in
theorem gjb_X7_lotsOf_83 (γ : Gv) (R6 : Int32 → Int32 → Int32 → Int32 → Int32 → Hst → Option (Int32 × Hst)) (hR6 : ∀ (a1 : Int32) (a2 : Int32) (a3 : Int32) (a4 : Int32) (a5 : Int32) (h : Hst), G γ RX7 cX7_lotsOf 7 (some .int) [] vI 1 0 6 [(0, .ref (gad γ 17)), (1, .int a1), (2, .int a2), (3, .int a3), (4, .int a4), (5, .int a5)] [] h (R6 a1 a2 a3 a4 a5 h)) (a1 : Int32) (a2 : Int32) (a3 : Int32) (a5 : Int32) (s0 : Int32) (s1 : Int32) (h : Hst) : G γ RX7 cX7_lotsOf 7 (some .int) [] vI 1 0 83 [(0, .ref (gad γ 17)), (1, .int a1), (2, .int a2), (3, .int a3), (5, .int a5)] [.int s0, .int s1] h (jb_X7_lotsOf_83 R6 a1 a2 a3 a5 s0 s1 h) := by
  unfold jb_X7_lotsOf_83
  refine g_iadd (pc := 83) dX7_lotsOf_83 ?_
  refine g_nmi (fun x1 => ?_)
  refine g_istore (pc := 84) (lv' := [(4, .int x1), (0, .ref (gad γ 17)), (1, .int a1), (2, .int a2), (3, .int a3), (5, .int a5)]) dX7_lotsOf_84 (by decide) rfl ?_
  refine g_iinc (pc := 86) (q := 5) (v := a5 + 1) (lv' := [(5, .int (a5 + 1)), (4, .int x1), (0, .ref (gad γ 17)), (1, .int a1), (2, .int a2), (3, .int a3)]) dX7_lotsOf_86 rfl rfl (by decide) rfl ?_
  refine g_goto (pc := 89) (tgt := 6) dX7_lotsOf_89 (by decide) ?_
  exact g_sub [2, 3, 4, 5, 1, 0] rfl (hR6 a1 a2 a3 x1 (a5 + 1) h)
set_option maxRecDepth 20000 in
theorem gjb_X7_lotsOf_82 (γ : Gv) (R6 : Int32 → Int32 → Int32 → Int32 → Int32 → Hst → Option (Int32 × Hst)) (hR6 : ∀ (a1 : Int32) (a2 : Int32) (a3 : Int32) (a4 : Int32) (a5 : Int32) (h : Hst), G γ RX7 cX7_lotsOf 7 (some .int) [] vI 1 0 6 [(0, .ref (gad γ 17)), (1, .int a1), (2, .int a2), (3, .int a3), (4, .int a4), (5, .int a5)] [] h (R6 a1 a2 a3 a4 a5 h)) (a1 : Int32) (a2 : Int32) (a3 : Int32) (a5 : Int32) (s0 : Int32) (h : Hst) : G γ RX7 cX7_lotsOf 7 (some .int) [] vI 1 0 82 [(0, .ref (gad γ 17)), (1, .int a1), (2, .int a2), (3, .int a3), (5, .int a5)] [.int s0] h (jb_X7_lotsOf_82 R6 a1 a2 a3 a5 s0 h) := by
  unfold jb_X7_lotsOf_82
  refine g_iconst (pc := 82) (v := 0) dX7_lotsOf_82 (by decide) ?_
  exact gjb_X7_lotsOf_83 γ R6 hR6 a1 a2 a3 a5 0 s0 h
set_option maxRecDepth 20000 in
theorem gjb_X7_lotsOf_78 (γ : Gv) (R6 : Int32 → Int32 → Int32 → Int32 → Int32 → Hst → Option (Int32 × Hst)) (hR6 : ∀ (a1 : Int32) (a2 : Int32) (a3 : Int32) (a4 : Int32) (a5 : Int32) (h : Hst), G γ RX7 cX7_lotsOf 7 (some .int) [] vI 1 0 6 [(0, .ref (gad γ 17)), (1, .int a1), (2, .int a2), (3, .int a3), (4, .int a4), (5, .int a5)] [] h (R6 a1 a2 a3 a4 a5 h)) (a1 : Int32) (a2 : Int32) (a3 : Int32) (a5 : Int32) (s0 : Int32) (h : Hst) : G γ RX7 cX7_lotsOf 7 (some .int) [] vI 1 0 78 [(0, .ref (gad γ 17)), (1, .int a1), (2, .int a2), (3, .int a3), (5, .int a5)] [.int s0] h (jb_X7_lotsOf_78 R6 a1 a2 a3 a5 s0 h) := by
  unfold jb_X7_lotsOf_78
  refine g_iconst (pc := 78) (v := 1) dX7_lotsOf_78 (by decide) ?_
  refine g_goto (pc := 79) (tgt := 83) dX7_lotsOf_79 (by decide) ?_
  exact gjb_X7_lotsOf_83 γ R6 hR6 a1 a2 a3 a5 1 s0 h
set_option maxRecDepth 20000 in
theorem gjb_X7_lotsOf_55 (γ : Gv) (R6 : Int32 → Int32 → Int32 → Int32 → Int32 → Hst → Option (Int32 × Hst)) (hR6 : ∀ (a1 : Int32) (a2 : Int32) (a3 : Int32) (a4 : Int32) (a5 : Int32) (h : Hst), G γ RX7 cX7_lotsOf 7 (some .int) [] vI 1 0 6 [(0, .ref (gad γ 17)), (1, .int a1), (2, .int a2), (3, .int a3), (4, .int a4), (5, .int a5)] [] h (R6 a1 a2 a3 a4 a5 h)) (a1 : Int32) (a2 : Int32) (a3 : Int32) (a4 : Int32) (a5 : Int32) (s0 : Int32) (h : Hst) : G γ RX7 cX7_lotsOf 7 (some .int) [] vI 1 0 55 [(0, .ref (gad γ 17)), (1, .int a1), (2, .int a2), (3, .int a3), (4, .int a4), (5, .int a5)] [.int s0] h (jb_X7_lotsOf_55 R6 a1 a2 a3 a4 a5 s0 h) := by
  unfold jb_X7_lotsOf_55
  refine g_istore (pc := 55) (lv' := [(6, .int s0), (0, .ref (gad γ 17)), (1, .int a1), (2, .int a2), (3, .int a3), (4, .int a4), (5, .int a5)]) dX7_lotsOf_55 (by decide) rfl ?_
  refine g_iload (pc := 57) dX7_lotsOf_57 5 rfl ?_
  refine g_iload (pc := 59) dX7_lotsOf_59 0 rfl ?_
  refine g_if_eq (pc := 61) (tgt := 82) dX7_lotsOf_61 (by decide) ?_ ?_
  · exact g_sub [1, 2, 3, 4, 6] rfl (gjb_X7_lotsOf_82 γ R6 hR6 a1 a2 a3 a5 a4 h)
  · refine g_iload_n (pc := 64) dX7_lotsOf_64 rfl 4 rfl ?_
    refine g_if_eq (pc := 65) (tgt := 78) dX7_lotsOf_65 (by decide) ?_ ?_
    · exact g_sub [1, 2, 3, 4, 6] rfl (gjb_X7_lotsOf_78 γ R6 hR6 a1 a2 a3 a5 a4 h)
    · refine g_aload_n (pc := 68) dX7_lotsOf_68 rfl 1 rfl ?_
      refine g_iload (pc := 69) dX7_lotsOf_69 6 rfl ?_
      refine g_iconst (pc := 71) (v := 5) dX7_lotsOf_71 (by decide) ?_
      refine g_cI (pc := 72) (st := [.int a4]) (fun r hr => gRunV (As := [.int a5, .int 5]) 17 (ge_X7_ofLot γ a5 5 h) hr wv_RX7_50 rfl (Nat.le_of_ble_eq_true rfl) (gat_17 _ _) rfl rfl (Nat.le_of_ble_eq_true rfl) (Nat.le_of_ble_eq_true rfl) dX7_lotsOf_72) (fun x2 h1 => ?_)
      refine g_if_ne (pc := 75) (tgt := 82) dX7_lotsOf_75 (by decide) ?_ ?_
      · exact g_sub [1, 2, 3, 4, 6] rfl (gjb_X7_lotsOf_82 γ R6 hR6 a1 a2 a3 a5 a4 h1)
      · exact g_sub [1, 2, 3, 4, 6] rfl (gjb_X7_lotsOf_78 γ R6 hR6 a1 a2 a3 a5 a4 h1)
set_option maxRecDepth 20000 in
theorem gjb_X7_lotsOf_50 (γ : Gv) (R6 : Int32 → Int32 → Int32 → Int32 → Int32 → Hst → Option (Int32 × Hst)) (hR6 : ∀ (a1 : Int32) (a2 : Int32) (a3 : Int32) (a4 : Int32) (a5 : Int32) (h : Hst), G γ RX7 cX7_lotsOf 7 (some .int) [] vI 1 0 6 [(0, .ref (gad γ 17)), (1, .int a1), (2, .int a2), (3, .int a3), (4, .int a4), (5, .int a5)] [] h (R6 a1 a2 a3 a4 a5 h)) (a1 : Int32) (a2 : Int32) (a3 : Int32) (a4 : Int32) (a5 : Int32) (h : Hst) : G γ RX7 cX7_lotsOf 7 (some .int) [] vI 1 0 50 [(0, .ref (gad γ 17)), (1, .int a1), (2, .int a2), (3, .int a3), (4, .int a4), (5, .int a5)] [] h (jb_X7_lotsOf_50 R6 a1 a2 a3 a4 a5 h) := by
  unfold jb_X7_lotsOf_50
  refine g_iconst (pc := 50) (v := 1) dX7_lotsOf_50 (by decide) ?_
  refine g_goto (pc := 51) (tgt := 55) dX7_lotsOf_51 (by decide) ?_
  exact gjb_X7_lotsOf_55 γ R6 hR6 a1 a2 a3 a4 a5 1 h
set_option maxRecDepth 20000 in
theorem gjb_X7_lotsOf_54 (γ : Gv) (R6 : Int32 → Int32 → Int32 → Int32 → Int32 → Hst → Option (Int32 × Hst)) (hR6 : ∀ (a1 : Int32) (a2 : Int32) (a3 : Int32) (a4 : Int32) (a5 : Int32) (h : Hst), G γ RX7 cX7_lotsOf 7 (some .int) [] vI 1 0 6 [(0, .ref (gad γ 17)), (1, .int a1), (2, .int a2), (3, .int a3), (4, .int a4), (5, .int a5)] [] h (R6 a1 a2 a3 a4 a5 h)) (a1 : Int32) (a2 : Int32) (a3 : Int32) (a4 : Int32) (a5 : Int32) (h : Hst) : G γ RX7 cX7_lotsOf 7 (some .int) [] vI 1 0 54 [(0, .ref (gad γ 17)), (1, .int a1), (2, .int a2), (3, .int a3), (4, .int a4), (5, .int a5)] [] h (jb_X7_lotsOf_54 R6 a1 a2 a3 a4 a5 h) := by
  unfold jb_X7_lotsOf_54
  refine g_iconst (pc := 54) (v := 0) dX7_lotsOf_54 (by decide) ?_
  exact gjb_X7_lotsOf_55 γ R6 hR6 a1 a2 a3 a4 a5 0 h
set_option maxRecDepth 20000 in
theorem gjb_X7_lotsOf_34 (γ : Gv) (R6 : Int32 → Int32 → Int32 → Int32 → Int32 → Hst → Option (Int32 × Hst)) (hR6 : ∀ (a1 : Int32) (a2 : Int32) (a3 : Int32) (a4 : Int32) (a5 : Int32) (h : Hst), G γ RX7 cX7_lotsOf 7 (some .int) [] vI 1 0 6 [(0, .ref (gad γ 17)), (1, .int a1), (2, .int a2), (3, .int a3), (4, .int a4), (5, .int a5)] [] h (R6 a1 a2 a3 a4 a5 h)) (a1 : Int32) (a2 : Int32) (a3 : Int32) (a4 : Int32) (a5 : Int32) (h : Hst) : G γ RX7 cX7_lotsOf 7 (some .int) [] vI 1 0 34 [(0, .ref (gad γ 17)), (1, .int a1), (2, .int a2), (3, .int a3), (4, .int a4), (5, .int a5)] [] h (jb_X7_lotsOf_34 R6 a1 a2 a3 a4 a5 h) := by
  unfold jb_X7_lotsOf_34
  refine g_iload_n (pc := 34) dX7_lotsOf_34 rfl 2 rfl ?_
  refine g_iconst (pc := 35) (v := (-1)) dX7_lotsOf_35 (by decide) ?_
  refine g_icmp_eq (pc := 36) (tgt := 50) dX7_lotsOf_36 (by decide) ?_ ?_
  · exact gjb_X7_lotsOf_50 γ R6 hR6 a1 a2 a3 a4 a5 h
  · refine g_aload_n (pc := 39) dX7_lotsOf_39 rfl 0 rfl ?_
    refine g_iload (pc := 40) dX7_lotsOf_40 5 rfl ?_
    refine g_iconst (pc := 42) (v := 1) dX7_lotsOf_42 (by decide) ?_
    refine g_cI (pc := 43) (st := []) (fun r hr => gRunV (As := [.int a5, .int 1]) 17 (ge_X7_ofLot γ a5 1 h) hr wv_RX7_50 rfl (Nat.le_of_ble_eq_true rfl) (gat_17 _ _) rfl rfl (Nat.le_of_ble_eq_true rfl) (Nat.le_of_ble_eq_true rfl) dX7_lotsOf_43) (fun x2 h1 => ?_)
    refine g_iload_n (pc := 46) dX7_lotsOf_46 rfl 2 rfl ?_
    refine g_icmp_ne (pc := 47) (tgt := 54) dX7_lotsOf_47 (by decide) ?_ ?_
    · exact gjb_X7_lotsOf_54 γ R6 hR6 a1 a2 a3 a4 a5 h1
    · exact gjb_X7_lotsOf_50 γ R6 hR6 a1 a2 a3 a4 a5 h1
set_option maxRecDepth 20000 in
theorem glp_X7_lotsOf_6 (γ : Gv)  : ∀ (n : Nat) (a1 : Int32) (a2 : Int32) (a3 : Int32) (a4 : Int32) (a5 : Int32) (h : Hst), G γ RX7 cX7_lotsOf 7 (some .int) [] vI 1 0 6 [(0, .ref (gad γ 17)), (1, .int a1), (2, .int a2), (3, .int a3), (4, .int a4), (5, .int a5)] [] h (lp_X7_lotsOf_6 n a1 a2 a3 a4 a5 h) := by
  intro n
  induction n with
  | zero => intro a1 a2 a3 a4 a5 h; exact g_none
  | succ n ih =>
    intro a1 a2 a3 a4 a5 h
    rw [lp_X7_lotsOf_6]
    refine g_iload (pc := 6) dX7_lotsOf_6 5 rfl ?_
    refine g_aload_n (pc := 8) dX7_lotsOf_8 rfl 0 rfl ?_
    refine gf_RX7_7_17 (pc := 9) dX7_lotsOf_9 ?_
    refine g_bipush (pc := 12) (v := 8) dX7_lotsOf_12 (by decide) ?_
    refine g_iald (pc := 14) 18 (gat_18 _ _) dX7_lotsOf_14 ?_
    refine g_icmp_ge (pc := 15) (tgt := 92) dX7_lotsOf_15 (by decide) ?_ ?_
    · refine g_iload (pc := 92) dX7_lotsOf_92 4 rfl ?_
      exact g_ireturn (pc := 94) (ty := .int) dX7_lotsOf_94 rfl rfl rfl
    · refine g_iload_n (pc := 18) dX7_lotsOf_18 rfl 1 rfl ?_
      refine g_iconst (pc := 19) (v := (-1)) dX7_lotsOf_19 (by decide) ?_
      refine g_icmp_eq (pc := 20) (tgt := 34) dX7_lotsOf_20 (by decide) ?_ ?_
      · exact gjb_X7_lotsOf_34 γ (lp_X7_lotsOf_6 n) ih a1 a2 a3 a4 a5 h
      · refine g_aload_n (pc := 23) dX7_lotsOf_23 rfl 0 rfl ?_
        refine g_iload (pc := 24) dX7_lotsOf_24 5 rfl ?_
        refine g_iconst (pc := 26) (v := 0) dX7_lotsOf_26 (by decide) ?_
        refine g_cI (pc := 27) (st := []) (fun r hr => gRunV (As := [.int a5, .int 0]) 17 (ge_X7_ofLot γ a5 0 h) hr wv_RX7_50 rfl (Nat.le_of_ble_eq_true rfl) (gat_17 _ _) rfl rfl (Nat.le_of_ble_eq_true rfl) (Nat.le_of_ble_eq_true rfl) dX7_lotsOf_27) (fun x2 h1 => ?_)
        refine g_iload_n (pc := 30) dX7_lotsOf_30 rfl 1 rfl ?_
        refine g_icmp_ne (pc := 31) (tgt := 54) dX7_lotsOf_31 (by decide) ?_ ?_
        · exact gjb_X7_lotsOf_54 γ (lp_X7_lotsOf_6 n) ih a1 a2 a3 a4 a5 h1
        · exact gjb_X7_lotsOf_34 γ (lp_X7_lotsOf_6 n) ih a1 a2 a3 a4 a5 h1
set_option maxRecDepth 20000 in
theorem ge_X7_lotsOf (γ : Gv) (p0 : Int32) (p1 : Int32) (p2 : Int32) (h : Hst) : G γ RX7 cX7_lotsOf 7 (some .int) [] vI 1 0 0 (lv_args 0 [.ref (gad γ 17), .int p0, .int p1, .int p2]) [] h (f_X7_lotsOf p0 p1 p2 h) := by
  show G γ RX7 cX7_lotsOf 7 (some .int) [] vI 1 0 0 [(0, .ref (gad γ 17)), (1, .int p0), (2, .int p1), (3, .int p2)] [] h (f_X7_lotsOf p0 p1 p2 h)
  unfold f_X7_lotsOf
  refine g_iconst (pc := 0) (v := 0) dX7_lotsOf_0 (by decide) ?_
  refine g_istore (pc := 1) (lv' := [(4, .int 0), (0, .ref (gad γ 17)), (1, .int p0), (2, .int p1), (3, .int p2)]) dX7_lotsOf_1 (by decide) rfl ?_
  refine g_iconst (pc := 3) (v := 0) dX7_lotsOf_3 (by decide) ?_
  refine g_istore (pc := 4) (lv' := [(5, .int 0), (4, .int 0), (0, .ref (gad γ 17)), (1, .int p0), (2, .int p1), (3, .int p2)]) dX7_lotsOf_4 (by decide) rfl ?_
  exact g_sub [2, 3, 4, 5, 1, 0] rfl (glp_X7_lotsOf_6 γ FU p0 p1 p2 0 0 h)
def jb_X7_growerNow_59  (s0 : Int32) (s1 : Int32) (s2 : Int32) (h : Hst) : Option (Int32 × Hst) :=
  gb (f_X7_lotsOf s2 s1 s0 h) fun x2 h1 =>
  (some (x2, h1))
def f_X7_growerNow (p0 : Int32) (p1 : Int32) (h : Hst) : Option (Int32 × Hst) :=
  (if p1 = 0 then
    gck (40 + p0) 514 ((some (h.1 18 (40 + p0).toNatClampNeg, h)))
  else
  (if p1 = 1 then
    (if p1 = 2 then
      (jb_X7_growerNow_59 1 (-1) p0 h)
    else
      (jb_X7_growerNow_59 0 (-1) p0 h))
  else
  (if p1 = 2 then
    (if p1 = 2 then
      (jb_X7_growerNow_59 1 (-1) p0 h)
    else
      (jb_X7_growerNow_59 0 (-1) p0 h))
  else
  (if p1 = 3 then
    gck (48 + p0) 514 ((some (h.1 18 (48 + p0).toNatClampNeg, h)))
  else
  (if p1 = 4 then
    gck (56 + p0) 514 ((some (h.1 18 (56 + p0).toNatClampNeg, h)))
  else
  gck (64 + p0) 514 ((some (h.1 18 (64 + p0).toNatClampNeg, h))))))))
set_option maxRecDepth 20000 in
theorem gjb_X7_growerNow_59 (γ : Gv)  (s0 : Int32) (s1 : Int32) (s2 : Int32) (h : Hst) : G γ RX7 cX7_growerNow 3 (some .int) [] vI 2 0 59 [] [.int s0, .int s1, .int s2, .ref (gad γ 17)] h (jb_X7_growerNow_59 s0 s1 s2 h) := by
  unfold jb_X7_growerNow_59
  refine g_cI (pc := 59) (st := []) (fun r hr => gRunV (As := [.int s2, .int s1, .int s0]) 17 (ge_X7_lotsOf γ s2 s1 s0 h) hr wv_RX7_209 rfl (Nat.le_of_ble_eq_true rfl) (gat_17 _ _) rfl rfl (Nat.le_of_ble_eq_true rfl) (Nat.le_of_ble_eq_true rfl) dX7_growerNow_59) (fun x2 h1 => ?_)
  exact g_ireturn (pc := 62) (ty := .int) dX7_growerNow_62 rfl rfl rfl
set_option maxRecDepth 20000 in
theorem ge_X7_growerNow (γ : Gv) (p0 : Int32) (p1 : Int32) (h : Hst) : G γ RX7 cX7_growerNow 3 (some .int) [] vI 2 0 0 (lv_args 0 [.ref (gad γ 17), .int p0, .int p1]) [] h (f_X7_growerNow p0 p1 h) := by
  show G γ RX7 cX7_growerNow 3 (some .int) [] vI 2 0 0 [(0, .ref (gad γ 17)), (1, .int p0), (2, .int p1)] [] h (f_X7_growerNow p0 p1 h)
  unfold f_X7_growerNow
  refine g_iload_n (pc := 0) dX7_growerNow_0 rfl 2 rfl ?_
  refine g_case (c := p1 = 0) (fun c0 => ?_) (fun c0 => ?_)
  · refine g_tswI (pc := 1) (tgt := 36) (off := 35) dX7_growerNow_1 (by rw [c0]; decide) (by rw [c0]; decide) (by rw [c0]; decide) (by decide) ?_
    refine g_aload_n (pc := 36) dX7_growerNow_36 rfl 0 rfl ?_
    refine gf_RX7_7_17 (pc := 37) dX7_growerNow_37 ?_
    refine g_bipush (pc := 40) (v := 40) dX7_growerNow_40 (by decide) ?_
    refine g_iload_n (pc := 42) dX7_growerNow_42 rfl 1 rfl ?_
    refine g_iadd (pc := 43) dX7_growerNow_43 ?_
    refine g_iald (pc := 44) 18 (gat_18 _ _) dX7_growerNow_44 ?_
    exact g_ireturn (pc := 45) (ty := .int) dX7_growerNow_45 rfl rfl rfl
  refine g_case (c := p1 = 1) (fun c1 => ?_) (fun c1 => ?_)
  · refine g_tswI (pc := 1) (tgt := 46) (off := 45) dX7_growerNow_1 (by rw [c1]; decide) (by rw [c1]; decide) (by rw [c1]; decide) (by decide) ?_
    refine g_aload_n (pc := 46) dX7_growerNow_46 rfl 0 rfl ?_
    refine g_iload_n (pc := 47) dX7_growerNow_47 rfl 1 rfl ?_
    refine g_iconst (pc := 48) (v := (-1)) dX7_growerNow_48 (by decide) ?_
    refine g_iload_n (pc := 49) dX7_growerNow_49 rfl 2 rfl ?_
    refine g_iconst (pc := 50) (v := 2) dX7_growerNow_50 (by decide) ?_
    refine g_icmp_ne (pc := 51) (tgt := 58) dX7_growerNow_51 (by decide) ?_ ?_
    · refine g_iconst (pc := 58) (v := 0) dX7_growerNow_58 (by decide) ?_
      exact g_sub [] rfl (gjb_X7_growerNow_59 γ 0 (-1) p0 h)
    · refine g_iconst (pc := 54) (v := 1) dX7_growerNow_54 (by decide) ?_
      refine g_goto (pc := 55) (tgt := 59) dX7_growerNow_55 (by decide) ?_
      exact g_sub [] rfl (gjb_X7_growerNow_59 γ 1 (-1) p0 h)
  refine g_case (c := p1 = 2) (fun c2 => ?_) (fun c2 => ?_)
  · refine g_tswI (pc := 1) (tgt := 46) (off := 45) dX7_growerNow_1 (by rw [c2]; decide) (by rw [c2]; decide) (by rw [c2]; decide) (by decide) ?_
    refine g_aload_n (pc := 46) dX7_growerNow_46 rfl 0 rfl ?_
    refine g_iload_n (pc := 47) dX7_growerNow_47 rfl 1 rfl ?_
    refine g_iconst (pc := 48) (v := (-1)) dX7_growerNow_48 (by decide) ?_
    refine g_iload_n (pc := 49) dX7_growerNow_49 rfl 2 rfl ?_
    refine g_iconst (pc := 50) (v := 2) dX7_growerNow_50 (by decide) ?_
    refine g_icmp_ne (pc := 51) (tgt := 58) dX7_growerNow_51 (by decide) ?_ ?_
    · refine g_iconst (pc := 58) (v := 0) dX7_growerNow_58 (by decide) ?_
      exact g_sub [] rfl (gjb_X7_growerNow_59 γ 0 (-1) p0 h)
    · refine g_iconst (pc := 54) (v := 1) dX7_growerNow_54 (by decide) ?_
      refine g_goto (pc := 55) (tgt := 59) dX7_growerNow_55 (by decide) ?_
      exact g_sub [] rfl (gjb_X7_growerNow_59 γ 1 (-1) p0 h)
  refine g_case (c := p1 = 3) (fun c3 => ?_) (fun c3 => ?_)
  · refine g_tswI (pc := 1) (tgt := 63) (off := 62) dX7_growerNow_1 (by rw [c3]; decide) (by rw [c3]; decide) (by rw [c3]; decide) (by decide) ?_
    refine g_aload_n (pc := 63) dX7_growerNow_63 rfl 0 rfl ?_
    refine gf_RX7_7_17 (pc := 64) dX7_growerNow_64 ?_
    refine g_bipush (pc := 67) (v := 48) dX7_growerNow_67 (by decide) ?_
    refine g_iload_n (pc := 69) dX7_growerNow_69 rfl 1 rfl ?_
    refine g_iadd (pc := 70) dX7_growerNow_70 ?_
    refine g_iald (pc := 71) 18 (gat_18 _ _) dX7_growerNow_71 ?_
    exact g_ireturn (pc := 72) (ty := .int) dX7_growerNow_72 rfl rfl rfl
  refine g_case (c := p1 = 4) (fun c4 => ?_) (fun c4 => ?_)
  · refine g_tswI (pc := 1) (tgt := 73) (off := 72) dX7_growerNow_1 (by rw [c4]; decide) (by rw [c4]; decide) (by rw [c4]; decide) (by decide) ?_
    refine g_aload_n (pc := 73) dX7_growerNow_73 rfl 0 rfl ?_
    refine gf_RX7_7_17 (pc := 74) dX7_growerNow_74 ?_
    refine g_bipush (pc := 77) (v := 56) dX7_growerNow_77 (by decide) ?_
    refine g_iload_n (pc := 79) dX7_growerNow_79 rfl 1 rfl ?_
    refine g_iadd (pc := 80) dX7_growerNow_80 ?_
    refine g_iald (pc := 81) 18 (gat_18 _ _) dX7_growerNow_81 ?_
    exact g_ireturn (pc := 82) (ty := .int) dX7_growerNow_82 rfl rfl rfl
  refine g_tswO (pc := 1) (tgt := 83) dX7_growerNow_1 (by have k := fun (v : Int32) (n : Int) (e : v.toInt = n) (c : ¬ p1 = v) => gne e c; have k0 := k 0 0 (by decide) c0; have k1 := k 1 1 (by decide) c1; have k2 := k 2 2 (by decide) c2; have k3 := k 3 3 (by decide) c3; have k4 := k 4 4 (by decide) c4; omega) (by decide) ?_
  refine g_aload_n (pc := 83) dX7_growerNow_83 rfl 0 rfl ?_
  refine gf_RX7_7_17 (pc := 84) dX7_growerNow_84 ?_
  refine g_bipush (pc := 87) (v := 64) dX7_growerNow_87 (by decide) ?_
  refine g_iload_n (pc := 89) dX7_growerNow_89 rfl 1 rfl ?_
  refine g_iadd (pc := 90) dX7_growerNow_90 ?_
  refine g_iald (pc := 91) 18 (gat_18 _ _) dX7_growerNow_91 ?_
  exact g_ireturn (pc := 92) (ty := .int) dX7_growerNow_92 rfl rfl rfl
def jb_X7_grower_47  (s0 : Int32) (h : Hst) : Option (Int32 × Hst) :=
  (some (s0, h))
def jb_X7_grower_27  (a1 : Int32) (a2 : Int32) (s0 : Int32) (h : Hst) : Option (Int32 × Hst) :=
  gl (hst h 17 5 s0) fun h1 =>
  (if (h1.1 17 5) ≤ 0 then
    gb (f_X7_growerNow a1 a2 h1) fun x3 h2 =>
    (jb_X7_grower_47 x3 h2)
  else
    (jb_X7_grower_47 0 h1))
def f_X7_grower (p0 : Int32) (p1 : Int32) (h : Hst) : Option (Int32 × Hst) :=
  gb (f_X7_isGrower p0 h) fun x2 h1 =>
  (if x2 = 0 then
    (jb_X7_grower_27 p0 p1 1 h1)
  else
    gb (f_X7_within p1 0 5 h1) fun x4 h3 =>
    (if x4 = 0 then
      (jb_X7_grower_27 p0 p1 2 h3)
    else
      (jb_X7_grower_27 p0 p1 0 h3)))
set_option maxRecDepth 20000 in
theorem gjb_X7_grower_47 (γ : Gv)  (s0 : Int32) (h : Hst) : G γ RX7 cX7_grower 3 (some .int) [] vI 3 0 47 [] [.int s0] h (jb_X7_grower_47 s0 h) := by
  unfold jb_X7_grower_47
  exact g_ireturn (pc := 47) (ty := .int) dX7_grower_47 rfl rfl rfl
set_option maxRecDepth 20000 in
theorem gjb_X7_grower_27 (γ : Gv)  (a1 : Int32) (a2 : Int32) (s0 : Int32) (h : Hst) : G γ RX7 cX7_grower 3 (some .int) [] vI 3 0 27 [(0, .ref (gad γ 17)), (1, .int a1), (2, .int a2)] [.int s0, .ref (gad γ 17)] h (jb_X7_grower_27 a1 a2 s0 h) := by
  unfold jb_X7_grower_27
  refine pf_RX7_31_17 (pc := 27) dX7_grower_27 ?_
  refine g_nmh (fun h1 => ?_)
  refine g_aload_n (pc := 30) dX7_grower_30 rfl 0 rfl ?_
  refine gf_RX7_31_17 (pc := 31) dX7_grower_31 ?_
  refine g_if_le (pc := 34) (tgt := 41) dX7_grower_34 (by decide) ?_ ?_
  · refine g_aload_n (pc := 41) dX7_grower_41 rfl 0 rfl ?_
    refine g_iload_n (pc := 42) dX7_grower_42 rfl 1 rfl ?_
    refine g_iload_n (pc := 43) dX7_grower_43 rfl 2 rfl ?_
    refine g_cI (pc := 44) (st := []) (fun r hr => gRunV (As := [.int a1, .int a2]) 17 (ge_X7_growerNow γ a1 a2 h1) hr wv_RX7_213 rfl (Nat.le_of_ble_eq_true rfl) (gat_17 _ _) rfl rfl (Nat.le_of_ble_eq_true rfl) (Nat.le_of_ble_eq_true rfl) dX7_grower_44) (fun x3 h2 => ?_)
    exact g_sub [] rfl (gjb_X7_grower_47 γ x3 h2)
  · refine g_iconst (pc := 37) (v := 0) dX7_grower_37 (by decide) ?_
    refine g_goto (pc := 38) (tgt := 47) dX7_grower_38 (by decide) ?_
    exact g_sub [] rfl (gjb_X7_grower_47 γ 0 h1)
set_option maxRecDepth 20000 in
theorem ge_X7_grower (γ : Gv) (p0 : Int32) (p1 : Int32) (h : Hst) : G γ RX7 cX7_grower 3 (some .int) [] vI 3 0 0 (lv_args 0 [.ref (gad γ 17), .int p0, .int p1]) [] h (f_X7_grower p0 p1 h) := by
  show G γ RX7 cX7_grower 3 (some .int) [] vI 3 0 0 [(0, .ref (gad γ 17)), (1, .int p0), (2, .int p1)] [] h (f_X7_grower p0 p1 h)
  unfold f_X7_grower
  refine g_aload_n (pc := 0) dX7_grower_0 rfl 0 rfl ?_
  refine g_aload_n (pc := 1) dX7_grower_1 rfl 0 rfl ?_
  refine g_iload_n (pc := 2) dX7_grower_2 rfl 1 rfl ?_
  refine g_cI (pc := 3) (st := [.ref (gad γ 17)]) (fun r hr => gRunV (As := [.int p0]) 17 (ge_X7_isGrower γ p0 h) hr wv_RX7_63 rfl (Nat.le_of_ble_eq_true rfl) (gat_17 _ _) rfl rfl (Nat.le_of_ble_eq_true rfl) (Nat.le_of_ble_eq_true rfl) dX7_grower_3) (fun x2 h1 => ?_)
  refine g_if_ne (pc := 6) (tgt := 13) dX7_grower_6 (by decide) ?_ ?_
  · refine g_iload_n (pc := 13) dX7_grower_13 rfl 2 rfl ?_
    refine g_iconst (pc := 14) (v := 0) dX7_grower_14 (by decide) ?_
    refine g_iconst (pc := 15) (v := 5) dX7_grower_15 (by decide) ?_
    refine g_cI (pc := 16) (st := [.ref (gad γ 17)]) (fun r hr => gRunS (As := [.int p1, .int 0, .int 5]) (ge_X7_within γ p1 0 5 h1) hr wv_RX7_38 rfl (Nat.le_of_ble_eq_true rfl) rfl (Nat.le_of_ble_eq_true rfl) (Nat.le_of_ble_eq_true rfl) dX7_grower_16) (fun x4 h3 => ?_)
    refine g_if_eq (pc := 19) (tgt := 26) dX7_grower_19 (by decide) ?_ ?_
    · refine g_iconst (pc := 26) (v := 2) dX7_grower_26 (by decide) ?_
      exact gjb_X7_grower_27 γ p0 p1 2 h3
    · refine g_iconst (pc := 22) (v := 0) dX7_grower_22 (by decide) ?_
      refine g_goto (pc := 23) (tgt := 27) dX7_grower_23 (by decide) ?_
      exact gjb_X7_grower_27 γ p0 p1 0 h3
  · refine g_iconst (pc := 9) (v := 1) dX7_grower_9 (by decide) ?_
    refine g_goto (pc := 10) (tgt := 27) dX7_grower_10 (by decide) ?_
    exact gjb_X7_grower_27 γ p0 p1 1 h1
def jb_X7_lotNow_45  (s0 : Int32) (h : Hst) : Option (Int32 × Hst) :=
  (some (s0, h))
def f_X7_lotNow (p0 : Int32) (p1 : Int32) (h : Hst) : Option (Int32 × Hst) :=
  (if 4 ≤ p1 then
    (if p1 = 4 then
      gb (f_X7_gradeOfLot p0 h) fun x6 h5 =>
      (jb_X7_lotNow_45 x6 h5)
    else
      (if 10 ≤ p1 then
        gb (f_X7_whyNoAppeal p0 h) fun x2 h1 =>
        (jb_X7_lotNow_45 x2 h1)
      else
        gb (f_X7_ofLot p0 p1 h) fun x4 h3 =>
        (jb_X7_lotNow_45 x4 h3)))
  else
    gb (f_X7_ofLot p0 p1 h) fun x8 h7 =>
    (some (x8, h7)))
set_option maxRecDepth 20000 in
theorem gjb_X7_lotNow_45 (γ : Gv)  (s0 : Int32) (h : Hst) : G γ RX7 cX7_lotNow 3 (some .int) [] vI 4 0 45 [] [.int s0] h (jb_X7_lotNow_45 s0 h) := by
  unfold jb_X7_lotNow_45
  exact g_ireturn (pc := 45) (ty := .int) dX7_lotNow_45 rfl rfl rfl
set_option maxRecDepth 20000 in
theorem ge_X7_lotNow (γ : Gv) (p0 : Int32) (p1 : Int32) (h : Hst) : G γ RX7 cX7_lotNow 3 (some .int) [] vI 4 0 0 (lv_args 0 [.ref (gad γ 17), .int p0, .int p1]) [] h (f_X7_lotNow p0 p1 h) := by
  show G γ RX7 cX7_lotNow 3 (some .int) [] vI 4 0 0 [(0, .ref (gad γ 17)), (1, .int p0), (2, .int p1)] [] h (f_X7_lotNow p0 p1 h)
  unfold f_X7_lotNow
  refine g_iload_n (pc := 0) dX7_lotNow_0 rfl 2 rfl ?_
  refine g_iconst (pc := 1) (v := 4) dX7_lotNow_1 (by decide) ?_
  refine g_icmp_ge (pc := 2) (tgt := 12) dX7_lotNow_2 (by decide) ?_ ?_
  · refine g_iload_n (pc := 12) dX7_lotNow_12 rfl 2 rfl ?_
    refine g_iconst (pc := 13) (v := 4) dX7_lotNow_13 (by decide) ?_
    refine g_icmp_ne (pc := 14) (tgt := 25) dX7_lotNow_14 (by decide) ?_ ?_
    · refine g_iload_n (pc := 25) dX7_lotNow_25 rfl 2 rfl ?_
      refine g_bipush (pc := 26) (v := 10) dX7_lotNow_26 (by decide) ?_
      refine g_icmp_ge (pc := 28) (tgt := 40) dX7_lotNow_28 (by decide) ?_ ?_
      · refine g_aload_n (pc := 40) dX7_lotNow_40 rfl 0 rfl ?_
        refine g_iload_n (pc := 41) dX7_lotNow_41 rfl 1 rfl ?_
        refine g_cI (pc := 42) (st := []) (fun r hr => gRunV (As := [.int p0]) 17 (ge_X7_whyNoAppeal γ p0 h) hr wv_RX7_158 rfl (Nat.le_of_ble_eq_true rfl) (gat_17 _ _) rfl rfl (Nat.le_of_ble_eq_true rfl) (Nat.le_of_ble_eq_true rfl) dX7_lotNow_42) (fun x2 h1 => ?_)
        exact g_sub [] rfl (gjb_X7_lotNow_45 γ x2 h1)
      · refine g_aload_n (pc := 31) dX7_lotNow_31 rfl 0 rfl ?_
        refine g_iload_n (pc := 32) dX7_lotNow_32 rfl 1 rfl ?_
        refine g_iload_n (pc := 33) dX7_lotNow_33 rfl 2 rfl ?_
        refine g_cI (pc := 34) (st := []) (fun r hr => gRunV (As := [.int p0, .int p1]) 17 (ge_X7_ofLot γ p0 p1 h) hr wv_RX7_50 rfl (Nat.le_of_ble_eq_true rfl) (gat_17 _ _) rfl rfl (Nat.le_of_ble_eq_true rfl) (Nat.le_of_ble_eq_true rfl) dX7_lotNow_34) (fun x4 h3 => ?_)
        refine g_goto (pc := 37) (tgt := 45) dX7_lotNow_37 (by decide) ?_
        exact g_sub [] rfl (gjb_X7_lotNow_45 γ x4 h3)
    · refine g_aload_n (pc := 17) dX7_lotNow_17 rfl 0 rfl ?_
      refine g_iload_n (pc := 18) dX7_lotNow_18 rfl 1 rfl ?_
      refine g_cI (pc := 19) (st := []) (fun r hr => gRunV (As := [.int p0]) 17 (ge_X7_gradeOfLot γ p0 h) hr wv_RX7_130 rfl (Nat.le_of_ble_eq_true rfl) (gat_17 _ _) rfl rfl (Nat.le_of_ble_eq_true rfl) (Nat.le_of_ble_eq_true rfl) dX7_lotNow_19) (fun x6 h5 => ?_)
      refine g_goto (pc := 22) (tgt := 45) dX7_lotNow_22 (by decide) ?_
      exact g_sub [] rfl (gjb_X7_lotNow_45 γ x6 h5)
  · refine g_aload_n (pc := 5) dX7_lotNow_5 rfl 0 rfl ?_
    refine g_iload_n (pc := 6) dX7_lotNow_6 rfl 1 rfl ?_
    refine g_iload_n (pc := 7) dX7_lotNow_7 rfl 2 rfl ?_
    refine g_cI (pc := 8) (st := []) (fun r hr => gRunV (As := [.int p0, .int p1]) 17 (ge_X7_ofLot γ p0 p1 h) hr wv_RX7_50 rfl (Nat.le_of_ble_eq_true rfl) (gat_17 _ _) rfl rfl (Nat.le_of_ble_eq_true rfl) (Nat.le_of_ble_eq_true rfl) dX7_lotNow_8) (fun x8 h7 => ?_)
    exact g_ireturn (pc := 11) (ty := .int) dX7_lotNow_11 rfl rfl rfl
def jb_X7_lot_48  (s0 : Int32) (h : Hst) : Option (Int32 × Hst) :=
  (some (s0, h))
def jb_X7_lot_28  (a1 : Int32) (a2 : Int32) (s0 : Int32) (h : Hst) : Option (Int32 × Hst) :=
  gl (hst h 17 5 s0) fun h1 =>
  (if (h1.1 17 5) ≤ 0 then
    gb (f_X7_lotNow a1 a2 h1) fun x3 h2 =>
    (jb_X7_lot_48 x3 h2)
  else
    (jb_X7_lot_48 0 h1))
def f_X7_lot (p0 : Int32) (p1 : Int32) (h : Hst) : Option (Int32 × Hst) :=
  gb (f_X7_isLot p0 h) fun x2 h1 =>
  (if x2 = 0 then
    (jb_X7_lot_28 p0 p1 1 h1)
  else
    gb (f_X7_within p1 0 10 h1) fun x4 h3 =>
    (if x4 = 0 then
      (jb_X7_lot_28 p0 p1 2 h3)
    else
      (jb_X7_lot_28 p0 p1 0 h3)))
set_option maxRecDepth 20000 in
theorem gjb_X7_lot_48 (γ : Gv)  (s0 : Int32) (h : Hst) : G γ RX7 cX7_lot 3 (some .int) [] vI 5 0 48 [] [.int s0] h (jb_X7_lot_48 s0 h) := by
  unfold jb_X7_lot_48
  exact g_ireturn (pc := 48) (ty := .int) dX7_lot_48 rfl rfl rfl
set_option maxRecDepth 20000 in
theorem gjb_X7_lot_28 (γ : Gv)  (a1 : Int32) (a2 : Int32) (s0 : Int32) (h : Hst) : G γ RX7 cX7_lot 3 (some .int) [] vI 5 0 28 [(0, .ref (gad γ 17)), (1, .int a1), (2, .int a2)] [.int s0, .ref (gad γ 17)] h (jb_X7_lot_28 a1 a2 s0 h) := by
  unfold jb_X7_lot_28
  refine pf_RX7_31_17 (pc := 28) dX7_lot_28 ?_
  refine g_nmh (fun h1 => ?_)
  refine g_aload_n (pc := 31) dX7_lot_31 rfl 0 rfl ?_
  refine gf_RX7_31_17 (pc := 32) dX7_lot_32 ?_
  refine g_if_le (pc := 35) (tgt := 42) dX7_lot_35 (by decide) ?_ ?_
  · refine g_aload_n (pc := 42) dX7_lot_42 rfl 0 rfl ?_
    refine g_iload_n (pc := 43) dX7_lot_43 rfl 1 rfl ?_
    refine g_iload_n (pc := 44) dX7_lot_44 rfl 2 rfl ?_
    refine g_cI (pc := 45) (st := []) (fun r hr => gRunV (As := [.int a1, .int a2]) 17 (ge_X7_lotNow γ a1 a2 h1) hr wv_RX7_216 rfl (Nat.le_of_ble_eq_true rfl) (gat_17 _ _) rfl rfl (Nat.le_of_ble_eq_true rfl) (Nat.le_of_ble_eq_true rfl) dX7_lot_45) (fun x3 h2 => ?_)
    exact g_sub [] rfl (gjb_X7_lot_48 γ x3 h2)
  · refine g_iconst (pc := 38) (v := 0) dX7_lot_38 (by decide) ?_
    refine g_goto (pc := 39) (tgt := 48) dX7_lot_39 (by decide) ?_
    exact g_sub [] rfl (gjb_X7_lot_48 γ 0 h1)
set_option maxRecDepth 20000 in
theorem ge_X7_lot (γ : Gv) (p0 : Int32) (p1 : Int32) (h : Hst) : G γ RX7 cX7_lot 3 (some .int) [] vI 5 0 0 (lv_args 0 [.ref (gad γ 17), .int p0, .int p1]) [] h (f_X7_lot p0 p1 h) := by
  show G γ RX7 cX7_lot 3 (some .int) [] vI 5 0 0 [(0, .ref (gad γ 17)), (1, .int p0), (2, .int p1)] [] h (f_X7_lot p0 p1 h)
  unfold f_X7_lot
  refine g_aload_n (pc := 0) dX7_lot_0 rfl 0 rfl ?_
  refine g_aload_n (pc := 1) dX7_lot_1 rfl 0 rfl ?_
  refine g_iload_n (pc := 2) dX7_lot_2 rfl 1 rfl ?_
  refine g_cI (pc := 3) (st := [.ref (gad γ 17)]) (fun r hr => gRunV (As := [.int p0]) 17 (ge_X7_isLot γ p0 h) hr wv_RX7_155 rfl (Nat.le_of_ble_eq_true rfl) (gat_17 _ _) rfl rfl (Nat.le_of_ble_eq_true rfl) (Nat.le_of_ble_eq_true rfl) dX7_lot_3) (fun x2 h1 => ?_)
  refine g_if_ne (pc := 6) (tgt := 13) dX7_lot_6 (by decide) ?_ ?_
  · refine g_iload_n (pc := 13) dX7_lot_13 rfl 2 rfl ?_
    refine g_iconst (pc := 14) (v := 0) dX7_lot_14 (by decide) ?_
    refine g_bipush (pc := 15) (v := 10) dX7_lot_15 (by decide) ?_
    refine g_cI (pc := 17) (st := [.ref (gad γ 17)]) (fun r hr => gRunS (As := [.int p1, .int 0, .int 10]) (ge_X7_within γ p1 0 10 h1) hr wv_RX7_38 rfl (Nat.le_of_ble_eq_true rfl) rfl (Nat.le_of_ble_eq_true rfl) (Nat.le_of_ble_eq_true rfl) dX7_lot_17) (fun x4 h3 => ?_)
    refine g_if_eq (pc := 20) (tgt := 27) dX7_lot_20 (by decide) ?_ ?_
    · refine g_iconst (pc := 27) (v := 2) dX7_lot_27 (by decide) ?_
      exact gjb_X7_lot_28 γ p0 p1 2 h3
    · refine g_iconst (pc := 23) (v := 0) dX7_lot_23 (by decide) ?_
      refine g_goto (pc := 24) (tgt := 28) dX7_lot_24 (by decide) ?_
      exact gjb_X7_lot_28 γ p0 p1 0 h3
  · refine g_iconst (pc := 9) (v := 1) dX7_lot_9 (by decide) ?_
    refine g_goto (pc := 10) (tgt := 28) dX7_lot_10 (by decide) ?_
    exact gjb_X7_lot_28 γ p0 p1 1 h1
def jb_X7_tankNow_50  (s0 : Int32) (h : Hst) : Option (Int32 × Hst) :=
  (some (s0, h))
def f_X7_tankNow (p0 : Int32) (p1 : Int32) (h : Hst) : Option (Int32 × Hst) :=
  (if p1 = 0 then
    gb (f_X7_ofTank p0 0 h) fun x8 h7 =>
    (jb_X7_tankNow_50 x8 h7)
  else
    (if p1 = 1 then
      gb (f_X7_oilOf p0 h) fun x6 h5 =>
      (jb_X7_tankNow_50 x6 h5)
    else
      (if p1 = 2 then
        gb (f_X7_gradeOf p0 h) fun x4 h3 =>
        (jb_X7_tankNow_50 x4 h3)
      else
        gb (f_X7_ofTank p0 ((2 + p1) - 10) h) fun x2 h1 =>
        (jb_X7_tankNow_50 x2 h1))))
set_option maxRecDepth 20000 in
theorem gjb_X7_tankNow_50 (γ : Gv)  (s0 : Int32) (h : Hst) : G γ RX7 cX7_tankNow 3 (some .int) [] vI 3 0 50 [] [.int s0] h (jb_X7_tankNow_50 s0 h) := by
  unfold jb_X7_tankNow_50
  exact g_ireturn (pc := 50) (ty := .int) dX7_tankNow_50 rfl rfl rfl
set_option maxRecDepth 20000 in
theorem ge_X7_tankNow (γ : Gv) (p0 : Int32) (p1 : Int32) (h : Hst) : G γ RX7 cX7_tankNow 3 (some .int) [] vI 3 0 0 (lv_args 0 [.ref (gad γ 17), .int p0, .int p1]) [] h (f_X7_tankNow p0 p1 h) := by
  show G γ RX7 cX7_tankNow 3 (some .int) [] vI 3 0 0 [(0, .ref (gad γ 17)), (1, .int p0), (2, .int p1)] [] h (f_X7_tankNow p0 p1 h)
  unfold f_X7_tankNow
  refine g_iload_n (pc := 0) dX7_tankNow_0 rfl 2 rfl ?_
  refine g_if_ne (pc := 1) (tgt := 13) dX7_tankNow_1 (by decide) ?_ ?_
  · refine g_iload_n (pc := 13) dX7_tankNow_13 rfl 2 rfl ?_
    refine g_iconst (pc := 14) (v := 1) dX7_tankNow_14 (by decide) ?_
    refine g_icmp_ne (pc := 15) (tgt := 26) dX7_tankNow_15 (by decide) ?_ ?_
    · refine g_iload_n (pc := 26) dX7_tankNow_26 rfl 2 rfl ?_
      refine g_iconst (pc := 27) (v := 2) dX7_tankNow_27 (by decide) ?_
      refine g_icmp_ne (pc := 28) (tgt := 39) dX7_tankNow_28 (by decide) ?_ ?_
      · refine g_aload_n (pc := 39) dX7_tankNow_39 rfl 0 rfl ?_
        refine g_iload_n (pc := 40) dX7_tankNow_40 rfl 1 rfl ?_
        refine g_iconst (pc := 41) (v := 2) dX7_tankNow_41 (by decide) ?_
        refine g_iload_n (pc := 42) dX7_tankNow_42 rfl 2 rfl ?_
        refine g_iadd (pc := 43) dX7_tankNow_43 ?_
        refine g_bipush (pc := 44) (v := 10) dX7_tankNow_44 (by decide) ?_
        refine g_isub (pc := 46) dX7_tankNow_46 ?_
        refine g_cI (pc := 47) (st := []) (fun r hr => gRunV (As := [.int p0, .int ((2 + p1) - 10)]) 17 (ge_X7_ofTank γ p0 ((2 + p1) - 10) h) hr wv_RX7_42 rfl (Nat.le_of_ble_eq_true rfl) (gat_17 _ _) rfl rfl (Nat.le_of_ble_eq_true rfl) (Nat.le_of_ble_eq_true rfl) dX7_tankNow_47) (fun x2 h1 => ?_)
        exact g_sub [] rfl (gjb_X7_tankNow_50 γ x2 h1)
      · refine g_aload_n (pc := 31) dX7_tankNow_31 rfl 0 rfl ?_
        refine g_iload_n (pc := 32) dX7_tankNow_32 rfl 1 rfl ?_
        refine g_cI (pc := 33) (st := []) (fun r hr => gRunV (As := [.int p0]) 17 (ge_X7_gradeOf γ p0 h) hr wv_RX7_53 rfl (Nat.le_of_ble_eq_true rfl) (gat_17 _ _) rfl rfl (Nat.le_of_ble_eq_true rfl) (Nat.le_of_ble_eq_true rfl) dX7_tankNow_33) (fun x4 h3 => ?_)
        refine g_goto (pc := 36) (tgt := 50) dX7_tankNow_36 (by decide) ?_
        exact g_sub [] rfl (gjb_X7_tankNow_50 γ x4 h3)
    · refine g_aload_n (pc := 18) dX7_tankNow_18 rfl 0 rfl ?_
      refine g_iload_n (pc := 19) dX7_tankNow_19 rfl 1 rfl ?_
      refine g_cI (pc := 20) (st := []) (fun r hr => gRunV (As := [.int p0]) 17 (ge_X7_oilOf γ p0 h) hr wv_RX7_46 rfl (Nat.le_of_ble_eq_true rfl) (gat_17 _ _) rfl rfl (Nat.le_of_ble_eq_true rfl) (Nat.le_of_ble_eq_true rfl) dX7_tankNow_20) (fun x6 h5 => ?_)
      refine g_goto (pc := 23) (tgt := 50) dX7_tankNow_23 (by decide) ?_
      exact g_sub [] rfl (gjb_X7_tankNow_50 γ x6 h5)
  · refine g_aload_n (pc := 4) dX7_tankNow_4 rfl 0 rfl ?_
    refine g_iload_n (pc := 5) dX7_tankNow_5 rfl 1 rfl ?_
    refine g_iconst (pc := 6) (v := 0) dX7_tankNow_6 (by decide) ?_
    refine g_cI (pc := 7) (st := []) (fun r hr => gRunV (As := [.int p0, .int 0]) 17 (ge_X7_ofTank γ p0 0 h) hr wv_RX7_42 rfl (Nat.le_of_ble_eq_true rfl) (gat_17 _ _) rfl rfl (Nat.le_of_ble_eq_true rfl) (Nat.le_of_ble_eq_true rfl) dX7_tankNow_7) (fun x8 h7 => ?_)
    refine g_goto (pc := 10) (tgt := 50) dX7_tankNow_10 (by decide) ?_
    exact g_sub [] rfl (gjb_X7_tankNow_50 γ x8 h7)
def jb_X7_tank_58  (s0 : Int32) (h : Hst) : Option (Int32 × Hst) :=
  (some (s0, h))
def jb_X7_tank_38  (a1 : Int32) (a2 : Int32) (s0 : Int32) (h : Hst) : Option (Int32 × Hst) :=
  gl (hst h 17 5 s0) fun h1 =>
  (if (h1.1 17 5) ≤ 0 then
    gb (f_X7_tankNow a1 a2 h1) fun x3 h2 =>
    (jb_X7_tank_58 x3 h2)
  else
    (jb_X7_tank_58 0 h1))
def jb_X7_tank_33  (a1 : Int32) (a2 : Int32) (h : Hst) : Option (Int32 × Hst) :=
  (jb_X7_tank_38 a1 a2 0 h)
def f_X7_tank (p0 : Int32) (p1 : Int32) (h : Hst) : Option (Int32 × Hst) :=
  gb (f_X7_isTank p0 h) fun x2 h1 =>
  (if x2 = 0 then
    (jb_X7_tank_38 p0 p1 1 h1)
  else
    gb (f_X7_within p1 0 2 h1) fun x4 h3 =>
    (if x4 = 0 then
      gb (f_X7_within p1 10 14 h3) fun x6 h5 =>
      (if x6 = 0 then
        (jb_X7_tank_38 p0 p1 2 h5)
      else
        (jb_X7_tank_33 p0 p1 h5))
    else
      (jb_X7_tank_33 p0 p1 h3)))
set_option maxRecDepth 20000 in
theorem gjb_X7_tank_58 (γ : Gv)  (s0 : Int32) (h : Hst) : G γ RX7 cX7_tank 3 (some .int) [] vI 4 0 58 [] [.int s0] h (jb_X7_tank_58 s0 h) := by
  unfold jb_X7_tank_58
  exact g_ireturn (pc := 58) (ty := .int) dX7_tank_58 rfl rfl rfl
set_option maxRecDepth 20000 in
theorem gjb_X7_tank_38 (γ : Gv)  (a1 : Int32) (a2 : Int32) (s0 : Int32) (h : Hst) : G γ RX7 cX7_tank 3 (some .int) [] vI 4 0 38 [(0, .ref (gad γ 17)), (1, .int a1), (2, .int a2)] [.int s0, .ref (gad γ 17)] h (jb_X7_tank_38 a1 a2 s0 h) := by
  unfold jb_X7_tank_38
  refine pf_RX7_31_17 (pc := 38) dX7_tank_38 ?_
  refine g_nmh (fun h1 => ?_)
  refine g_aload_n (pc := 41) dX7_tank_41 rfl 0 rfl ?_
  refine gf_RX7_31_17 (pc := 42) dX7_tank_42 ?_
  refine g_if_le (pc := 45) (tgt := 52) dX7_tank_45 (by decide) ?_ ?_
  · refine g_aload_n (pc := 52) dX7_tank_52 rfl 0 rfl ?_
    refine g_iload_n (pc := 53) dX7_tank_53 rfl 1 rfl ?_
    refine g_iload_n (pc := 54) dX7_tank_54 rfl 2 rfl ?_
    refine g_cI (pc := 55) (st := []) (fun r hr => gRunV (As := [.int a1, .int a2]) 17 (ge_X7_tankNow γ a1 a2 h1) hr wv_RX7_219 rfl (Nat.le_of_ble_eq_true rfl) (gat_17 _ _) rfl rfl (Nat.le_of_ble_eq_true rfl) (Nat.le_of_ble_eq_true rfl) dX7_tank_55) (fun x3 h2 => ?_)
    exact g_sub [] rfl (gjb_X7_tank_58 γ x3 h2)
  · refine g_iconst (pc := 48) (v := 0) dX7_tank_48 (by decide) ?_
    refine g_goto (pc := 49) (tgt := 58) dX7_tank_49 (by decide) ?_
    exact g_sub [] rfl (gjb_X7_tank_58 γ 0 h1)
set_option maxRecDepth 20000 in
theorem gjb_X7_tank_33 (γ : Gv)  (a1 : Int32) (a2 : Int32) (h : Hst) : G γ RX7 cX7_tank 3 (some .int) [] vI 4 0 33 [(0, .ref (gad γ 17)), (1, .int a1), (2, .int a2)] [.ref (gad γ 17)] h (jb_X7_tank_33 a1 a2 h) := by
  unfold jb_X7_tank_33
  refine g_iconst (pc := 33) (v := 0) dX7_tank_33 (by decide) ?_
  refine g_goto (pc := 34) (tgt := 38) dX7_tank_34 (by decide) ?_
  exact gjb_X7_tank_38 γ a1 a2 0 h
set_option maxRecDepth 20000 in
theorem ge_X7_tank (γ : Gv) (p0 : Int32) (p1 : Int32) (h : Hst) : G γ RX7 cX7_tank 3 (some .int) [] vI 4 0 0 (lv_args 0 [.ref (gad γ 17), .int p0, .int p1]) [] h (f_X7_tank p0 p1 h) := by
  show G γ RX7 cX7_tank 3 (some .int) [] vI 4 0 0 [(0, .ref (gad γ 17)), (1, .int p0), (2, .int p1)] [] h (f_X7_tank p0 p1 h)
  unfold f_X7_tank
  refine g_aload_n (pc := 0) dX7_tank_0 rfl 0 rfl ?_
  refine g_aload_n (pc := 1) dX7_tank_1 rfl 0 rfl ?_
  refine g_iload_n (pc := 2) dX7_tank_2 rfl 1 rfl ?_
  refine g_cI (pc := 3) (st := [.ref (gad γ 17)]) (fun r hr => gRunV (As := [.int p0]) 17 (ge_X7_isTank γ p0 h) hr wv_RX7_137 rfl (Nat.le_of_ble_eq_true rfl) (gat_17 _ _) rfl rfl (Nat.le_of_ble_eq_true rfl) (Nat.le_of_ble_eq_true rfl) dX7_tank_3) (fun x2 h1 => ?_)
  refine g_if_ne (pc := 6) (tgt := 13) dX7_tank_6 (by decide) ?_ ?_
  · refine g_iload_n (pc := 13) dX7_tank_13 rfl 2 rfl ?_
    refine g_iconst (pc := 14) (v := 0) dX7_tank_14 (by decide) ?_
    refine g_iconst (pc := 15) (v := 2) dX7_tank_15 (by decide) ?_
    refine g_cI (pc := 16) (st := [.ref (gad γ 17)]) (fun r hr => gRunS (As := [.int p1, .int 0, .int 2]) (ge_X7_within γ p1 0 2 h1) hr wv_RX7_38 rfl (Nat.le_of_ble_eq_true rfl) rfl (Nat.le_of_ble_eq_true rfl) (Nat.le_of_ble_eq_true rfl) dX7_tank_16) (fun x4 h3 => ?_)
    refine g_if_ne (pc := 19) (tgt := 33) dX7_tank_19 (by decide) ?_ ?_
    · exact gjb_X7_tank_33 γ p0 p1 h3
    · refine g_iload_n (pc := 22) dX7_tank_22 rfl 2 rfl ?_
      refine g_bipush (pc := 23) (v := 10) dX7_tank_23 (by decide) ?_
      refine g_bipush (pc := 25) (v := 14) dX7_tank_25 (by decide) ?_
      refine g_cI (pc := 27) (st := [.ref (gad γ 17)]) (fun r hr => gRunS (As := [.int p1, .int 10, .int 14]) (ge_X7_within γ p1 10 14 h3) hr wv_RX7_38 rfl (Nat.le_of_ble_eq_true rfl) rfl (Nat.le_of_ble_eq_true rfl) (Nat.le_of_ble_eq_true rfl) dX7_tank_27) (fun x6 h5 => ?_)
      refine g_if_eq (pc := 30) (tgt := 37) dX7_tank_30 (by decide) ?_ ?_
      · refine g_iconst (pc := 37) (v := 2) dX7_tank_37 (by decide) ?_
        exact gjb_X7_tank_38 γ p0 p1 2 h5
      · exact gjb_X7_tank_33 γ p0 p1 h5
  · refine g_iconst (pc := 9) (v := 1) dX7_tank_9 (by decide) ?_
    refine g_goto (pc := 10) (tgt := 38) dX7_tank_10 (by decide) ?_
    exact gjb_X7_tank_38 γ p0 p1 1 h1
def lp_X7_inTanks_4 : Nat → Int32 → Int32 → Int32 → Hst → Option (Int32 × Hst)
  | 0, _, _, _, _ => none
  | n + 1, a1, a2, a3, h =>
    gck 9 514 ((if (h.1 18 (9 : Int32).toNatClampNeg) ≤ a3 then
      (some (a2, h))
    else
      gb (f_X7_ofTank a3 (2 + a1) h) fun x2 h1 =>
      gl (a2 + x2) fun x3 =>
      ((lp_X7_inTanks_4 n) a1 x3 (a3 + 1) h1)))
def f_X7_inTanks (p0 : Int32) (h : Hst) : Option (Int32 × Hst) :=
  (lp_X7_inTanks_4 FU p0 0 0 h)
set_option maxRecDepth 20000 in
theorem glp_X7_inTanks_4 (γ : Gv)  : ∀ (n : Nat) (a1 : Int32) (a2 : Int32) (a3 : Int32) (h : Hst), G γ RX7 cX7_inTanks 4 (some .int) [] vI 1 0 4 [(0, .ref (gad γ 17)), (1, .int a1), (2, .int a2), (3, .int a3)] [] h (lp_X7_inTanks_4 n a1 a2 a3 h) := by
  intro n
  induction n with
  | zero => intro a1 a2 a3 h; exact g_none
  | succ n ih =>
    intro a1 a2 a3 h
    rw [lp_X7_inTanks_4]
    refine g_iload_n (pc := 4) dX7_inTanks_4 rfl 3 rfl ?_
    refine g_aload_n (pc := 5) dX7_inTanks_5 rfl 0 rfl ?_
    refine gf_RX7_7_17 (pc := 6) dX7_inTanks_6 ?_
    refine g_bipush (pc := 9) (v := 9) dX7_inTanks_9 (by decide) ?_
    refine g_iald (pc := 11) 18 (gat_18 _ _) dX7_inTanks_11 ?_
    refine g_icmp_ge (pc := 12) (tgt := 32) dX7_inTanks_12 (by decide) ?_ ?_
    · refine g_iload_n (pc := 32) dX7_inTanks_32 rfl 2 rfl ?_
      exact g_ireturn (pc := 33) (ty := .int) dX7_inTanks_33 rfl rfl rfl
    · refine g_iload_n (pc := 15) dX7_inTanks_15 rfl 2 rfl ?_
      refine g_aload_n (pc := 16) dX7_inTanks_16 rfl 0 rfl ?_
      refine g_iload_n (pc := 17) dX7_inTanks_17 rfl 3 rfl ?_
      refine g_iconst (pc := 18) (v := 2) dX7_inTanks_18 (by decide) ?_
      refine g_iload_n (pc := 19) dX7_inTanks_19 rfl 1 rfl ?_
      refine g_iadd (pc := 20) dX7_inTanks_20 ?_
      refine g_cI (pc := 21) (st := [.int a2]) (fun r hr => gRunV (As := [.int a3, .int (2 + a1)]) 17 (ge_X7_ofTank γ a3 (2 + a1) h) hr wv_RX7_42 rfl (Nat.le_of_ble_eq_true rfl) (gat_17 _ _) rfl rfl (Nat.le_of_ble_eq_true rfl) (Nat.le_of_ble_eq_true rfl) dX7_inTanks_21) (fun x2 h1 => ?_)
      refine g_iadd (pc := 24) dX7_inTanks_24 ?_
      refine g_nmi (fun x3 => ?_)
      refine g_istore_n (pc := 25) (lv' := [(2, .int x3), (0, .ref (gad γ 17)), (1, .int a1), (3, .int a3)]) dX7_inTanks_25 rfl (by decide) rfl ?_
      refine g_iinc (pc := 26) (q := 3) (v := a3 + 1) (lv' := [(3, .int (a3 + 1)), (2, .int x3), (0, .ref (gad γ 17)), (1, .int a1)]) dX7_inTanks_26 rfl rfl (by decide) rfl ?_
      refine g_goto (pc := 29) (tgt := 4) dX7_inTanks_29 (by decide) ?_
      exact g_sub [2, 3, 1, 0] rfl (ih a1 x3 (a3 + 1) h1)
set_option maxRecDepth 20000 in
theorem ge_X7_inTanks (γ : Gv) (p0 : Int32) (h : Hst) : G γ RX7 cX7_inTanks 4 (some .int) [] vI 1 0 0 (lv_args 0 [.ref (gad γ 17), .int p0]) [] h (f_X7_inTanks p0 h) := by
  show G γ RX7 cX7_inTanks 4 (some .int) [] vI 1 0 0 [(0, .ref (gad γ 17)), (1, .int p0)] [] h (f_X7_inTanks p0 h)
  unfold f_X7_inTanks
  refine g_iconst (pc := 0) (v := 0) dX7_inTanks_0 (by decide) ?_
  refine g_istore_n (pc := 1) (lv' := [(2, .int 0), (0, .ref (gad γ 17)), (1, .int p0)]) dX7_inTanks_1 rfl (by decide) rfl ?_
  refine g_iconst (pc := 2) (v := 0) dX7_inTanks_2 (by decide) ?_
  refine g_istore_n (pc := 3) (lv' := [(3, .int 0), (2, .int 0), (0, .ref (gad γ 17)), (1, .int p0)]) dX7_inTanks_3 rfl (by decide) rfl ?_
  exact g_sub [2, 3, 1, 0] rfl (glp_X7_inTanks_4 γ FU p0 0 0 h)
def jb_X7_varietyNow_92  (s0 : Int32) (h : Hst) : Option (Int32 × Hst) :=
  (some (s0, h))
def f_X7_varietyNow (p0 : Int32) (p1 : Int32) (h : Hst) : Option (Int32 × Hst) :=
  (if p1 = 0 then
    gck (15 + p0) 514 ((some (h.1 18 (15 + p0).toNatClampNeg, h)))
  else
  (if p1 = 1 then
    gck (20 + p0) 514 ((some (h.1 18 (20 + p0).toNatClampNeg, h)))
  else
  (if p1 = 2 then
    gb (f_X7_inTanks p0 h) fun x2 h1 =>
    (some (x2, h1))
  else
  (if p1 = 3 then
    gck 10 514 ((if (h.1 18 (10 : Int32).toNatClampNeg) = p0 then
      gck 11 514 ((jb_X7_varietyNow_92 (h.1 18 (11 : Int32).toNatClampNeg) h))
    else
      (jb_X7_varietyNow_92 0 h)))
  else
  (if p1 = 4 then
    gck (25 + p0) 514 ((some (h.1 18 (25 + p0).toNatClampNeg, h)))
  else
  (if p1 = 5 then
    gck (30 + p0) 514 ((some (h.1 18 (30 + p0).toNatClampNeg, h)))
  else
  (if p1 = 6 then
    gck (35 + p0) 514 ((some (h.1 18 (35 + p0).toNatClampNeg, h)))
  else
  gb (f_X7_lotsOf (-1) p0 1 h) fun x4 h3 =>
  (some (x4, h3)))))))))
set_option maxRecDepth 20000 in
theorem gjb_X7_varietyNow_92 (γ : Gv)  (s0 : Int32) (h : Hst) : G γ RX7 cX7_varietyNow 3 (some .int) [] vI 2 0 92 [] [.int s0] h (jb_X7_varietyNow_92 s0 h) := by
  unfold jb_X7_varietyNow_92
  exact g_ireturn (pc := 92) (ty := .int) dX7_varietyNow_92 rfl rfl rfl
set_option maxRecDepth 20000 in
theorem ge_X7_varietyNow (γ : Gv) (p0 : Int32) (p1 : Int32) (h : Hst) : G γ RX7 cX7_varietyNow 3 (some .int) [] vI 2 0 0 (lv_args 0 [.ref (gad γ 17), .int p0, .int p1]) [] h (f_X7_varietyNow p0 p1 h) := by
  show G γ RX7 cX7_varietyNow 3 (some .int) [] vI 2 0 0 [(0, .ref (gad γ 17)), (1, .int p0), (2, .int p1)] [] h (f_X7_varietyNow p0 p1 h)
  unfold f_X7_varietyNow
  refine g_iload_n (pc := 0) dX7_varietyNow_0 rfl 2 rfl ?_
  refine g_case (c := p1 = 0) (fun c0 => ?_) (fun c0 => ?_)
  · refine g_tswI (pc := 1) (tgt := 44) (off := 43) dX7_varietyNow_1 (by rw [c0]; decide) (by rw [c0]; decide) (by rw [c0]; decide) (by decide) ?_
    refine g_aload_n (pc := 44) dX7_varietyNow_44 rfl 0 rfl ?_
    refine gf_RX7_7_17 (pc := 45) dX7_varietyNow_45 ?_
    refine g_bipush (pc := 48) (v := 15) dX7_varietyNow_48 (by decide) ?_
    refine g_iload_n (pc := 50) dX7_varietyNow_50 rfl 1 rfl ?_
    refine g_iadd (pc := 51) dX7_varietyNow_51 ?_
    refine g_iald (pc := 52) 18 (gat_18 _ _) dX7_varietyNow_52 ?_
    exact g_ireturn (pc := 53) (ty := .int) dX7_varietyNow_53 rfl rfl rfl
  refine g_case (c := p1 = 1) (fun c1 => ?_) (fun c1 => ?_)
  · refine g_tswI (pc := 1) (tgt := 54) (off := 53) dX7_varietyNow_1 (by rw [c1]; decide) (by rw [c1]; decide) (by rw [c1]; decide) (by decide) ?_
    refine g_aload_n (pc := 54) dX7_varietyNow_54 rfl 0 rfl ?_
    refine gf_RX7_7_17 (pc := 55) dX7_varietyNow_55 ?_
    refine g_bipush (pc := 58) (v := 20) dX7_varietyNow_58 (by decide) ?_
    refine g_iload_n (pc := 60) dX7_varietyNow_60 rfl 1 rfl ?_
    refine g_iadd (pc := 61) dX7_varietyNow_61 ?_
    refine g_iald (pc := 62) 18 (gat_18 _ _) dX7_varietyNow_62 ?_
    exact g_ireturn (pc := 63) (ty := .int) dX7_varietyNow_63 rfl rfl rfl
  refine g_case (c := p1 = 2) (fun c2 => ?_) (fun c2 => ?_)
  · refine g_tswI (pc := 1) (tgt := 64) (off := 63) dX7_varietyNow_1 (by rw [c2]; decide) (by rw [c2]; decide) (by rw [c2]; decide) (by decide) ?_
    refine g_aload_n (pc := 64) dX7_varietyNow_64 rfl 0 rfl ?_
    refine g_iload_n (pc := 65) dX7_varietyNow_65 rfl 1 rfl ?_
    refine g_cI (pc := 66) (st := []) (fun r hr => gRunV (As := [.int p0]) 17 (ge_X7_inTanks γ p0 h) hr wv_RX7_222 rfl (Nat.le_of_ble_eq_true rfl) (gat_17 _ _) rfl rfl (Nat.le_of_ble_eq_true rfl) (Nat.le_of_ble_eq_true rfl) dX7_varietyNow_66) (fun x2 h1 => ?_)
    exact g_ireturn (pc := 69) (ty := .int) dX7_varietyNow_69 rfl rfl rfl
  refine g_case (c := p1 = 3) (fun c3 => ?_) (fun c3 => ?_)
  · refine g_tswI (pc := 1) (tgt := 70) (off := 69) dX7_varietyNow_1 (by rw [c3]; decide) (by rw [c3]; decide) (by rw [c3]; decide) (by decide) ?_
    refine g_aload_n (pc := 70) dX7_varietyNow_70 rfl 0 rfl ?_
    refine gf_RX7_7_17 (pc := 71) dX7_varietyNow_71 ?_
    refine g_bipush (pc := 74) (v := 10) dX7_varietyNow_74 (by decide) ?_
    refine g_iald (pc := 76) 18 (gat_18 _ _) dX7_varietyNow_76 ?_
    refine g_iload_n (pc := 77) dX7_varietyNow_77 rfl 1 rfl ?_
    refine g_icmp_ne (pc := 78) (tgt := 91) dX7_varietyNow_78 (by decide) ?_ ?_
    · refine g_iconst (pc := 91) (v := 0) dX7_varietyNow_91 (by decide) ?_
      exact g_sub [] rfl (gjb_X7_varietyNow_92 γ 0 h)
    · refine g_aload_n (pc := 81) dX7_varietyNow_81 rfl 0 rfl ?_
      refine gf_RX7_7_17 (pc := 82) dX7_varietyNow_82 ?_
      refine g_bipush (pc := 85) (v := 11) dX7_varietyNow_85 (by decide) ?_
      refine g_iald (pc := 87) 18 (gat_18 _ _) dX7_varietyNow_87 ?_
      refine g_goto (pc := 88) (tgt := 92) dX7_varietyNow_88 (by decide) ?_
      exact g_sub [] rfl (gjb_X7_varietyNow_92 γ (h.1 18 (11 : Int32).toNatClampNeg) h)
  refine g_case (c := p1 = 4) (fun c4 => ?_) (fun c4 => ?_)
  · refine g_tswI (pc := 1) (tgt := 93) (off := 92) dX7_varietyNow_1 (by rw [c4]; decide) (by rw [c4]; decide) (by rw [c4]; decide) (by decide) ?_
    refine g_aload_n (pc := 93) dX7_varietyNow_93 rfl 0 rfl ?_
    refine gf_RX7_7_17 (pc := 94) dX7_varietyNow_94 ?_
    refine g_bipush (pc := 97) (v := 25) dX7_varietyNow_97 (by decide) ?_
    refine g_iload_n (pc := 99) dX7_varietyNow_99 rfl 1 rfl ?_
    refine g_iadd (pc := 100) dX7_varietyNow_100 ?_
    refine g_iald (pc := 101) 18 (gat_18 _ _) dX7_varietyNow_101 ?_
    exact g_ireturn (pc := 102) (ty := .int) dX7_varietyNow_102 rfl rfl rfl
  refine g_case (c := p1 = 5) (fun c5 => ?_) (fun c5 => ?_)
  · refine g_tswI (pc := 1) (tgt := 103) (off := 102) dX7_varietyNow_1 (by rw [c5]; decide) (by rw [c5]; decide) (by rw [c5]; decide) (by decide) ?_
    refine g_aload_n (pc := 103) dX7_varietyNow_103 rfl 0 rfl ?_
    refine gf_RX7_7_17 (pc := 104) dX7_varietyNow_104 ?_
    refine g_bipush (pc := 107) (v := 30) dX7_varietyNow_107 (by decide) ?_
    refine g_iload_n (pc := 109) dX7_varietyNow_109 rfl 1 rfl ?_
    refine g_iadd (pc := 110) dX7_varietyNow_110 ?_
    refine g_iald (pc := 111) 18 (gat_18 _ _) dX7_varietyNow_111 ?_
    exact g_ireturn (pc := 112) (ty := .int) dX7_varietyNow_112 rfl rfl rfl
  refine g_case (c := p1 = 6) (fun c6 => ?_) (fun c6 => ?_)
  · refine g_tswI (pc := 1) (tgt := 113) (off := 112) dX7_varietyNow_1 (by rw [c6]; decide) (by rw [c6]; decide) (by rw [c6]; decide) (by decide) ?_
    refine g_aload_n (pc := 113) dX7_varietyNow_113 rfl 0 rfl ?_
    refine gf_RX7_7_17 (pc := 114) dX7_varietyNow_114 ?_
    refine g_bipush (pc := 117) (v := 35) dX7_varietyNow_117 (by decide) ?_
    refine g_iload_n (pc := 119) dX7_varietyNow_119 rfl 1 rfl ?_
    refine g_iadd (pc := 120) dX7_varietyNow_120 ?_
    refine g_iald (pc := 121) 18 (gat_18 _ _) dX7_varietyNow_121 ?_
    exact g_ireturn (pc := 122) (ty := .int) dX7_varietyNow_122 rfl rfl rfl
  refine g_tswO (pc := 1) (tgt := 123) dX7_varietyNow_1 (by have k := fun (v : Int32) (n : Int) (e : v.toInt = n) (c : ¬ p1 = v) => gne e c; have k0 := k 0 0 (by decide) c0; have k1 := k 1 1 (by decide) c1; have k2 := k 2 2 (by decide) c2; have k3 := k 3 3 (by decide) c3; have k4 := k 4 4 (by decide) c4; have k5 := k 5 5 (by decide) c5; have k6 := k 6 6 (by decide) c6; omega) (by decide) ?_
  refine g_aload_n (pc := 123) dX7_varietyNow_123 rfl 0 rfl ?_
  refine g_iconst (pc := 124) (v := (-1)) dX7_varietyNow_124 (by decide) ?_
  refine g_iload_n (pc := 125) dX7_varietyNow_125 rfl 1 rfl ?_
  refine g_iconst (pc := 126) (v := 1) dX7_varietyNow_126 (by decide) ?_
  refine g_cI (pc := 127) (st := []) (fun r hr => gRunV (As := [.int (-1), .int p0, .int 1]) 17 (ge_X7_lotsOf γ (-1) p0 1 h) hr wv_RX7_209 rfl (Nat.le_of_ble_eq_true rfl) (gat_17 _ _) rfl rfl (Nat.le_of_ble_eq_true rfl) (Nat.le_of_ble_eq_true rfl) dX7_varietyNow_127) (fun x4 h3 => ?_)
  exact g_ireturn (pc := 130) (ty := .int) dX7_varietyNow_130 rfl rfl rfl
def jb_X7_variety_47  (s0 : Int32) (h : Hst) : Option (Int32 × Hst) :=
  (some (s0, h))
def jb_X7_variety_27  (a1 : Int32) (a2 : Int32) (s0 : Int32) (h : Hst) : Option (Int32 × Hst) :=
  gl (hst h 17 5 s0) fun h1 =>
  (if (h1.1 17 5) ≤ 0 then
    gb (f_X7_varietyNow a1 a2 h1) fun x3 h2 =>
    (jb_X7_variety_47 x3 h2)
  else
    (jb_X7_variety_47 0 h1))
def f_X7_variety (p0 : Int32) (p1 : Int32) (h : Hst) : Option (Int32 × Hst) :=
  gb (f_X7_isVariety p0 h) fun x2 h1 =>
  (if x2 = 0 then
    (jb_X7_variety_27 p0 p1 1 h1)
  else
    gb (f_X7_within p1 0 7 h1) fun x4 h3 =>
    (if x4 = 0 then
      (jb_X7_variety_27 p0 p1 2 h3)
    else
      (jb_X7_variety_27 p0 p1 0 h3)))
set_option maxRecDepth 20000 in
theorem gjb_X7_variety_47 (γ : Gv)  (s0 : Int32) (h : Hst) : G γ RX7 cX7_variety 3 (some .int) [] vI 3 0 47 [] [.int s0] h (jb_X7_variety_47 s0 h) := by
  unfold jb_X7_variety_47
  exact g_ireturn (pc := 47) (ty := .int) dX7_variety_47 rfl rfl rfl
set_option maxRecDepth 20000 in
theorem gjb_X7_variety_27 (γ : Gv)  (a1 : Int32) (a2 : Int32) (s0 : Int32) (h : Hst) : G γ RX7 cX7_variety 3 (some .int) [] vI 3 0 27 [(0, .ref (gad γ 17)), (1, .int a1), (2, .int a2)] [.int s0, .ref (gad γ 17)] h (jb_X7_variety_27 a1 a2 s0 h) := by
  unfold jb_X7_variety_27
  refine pf_RX7_31_17 (pc := 27) dX7_variety_27 ?_
  refine g_nmh (fun h1 => ?_)
  refine g_aload_n (pc := 30) dX7_variety_30 rfl 0 rfl ?_
  refine gf_RX7_31_17 (pc := 31) dX7_variety_31 ?_
  refine g_if_le (pc := 34) (tgt := 41) dX7_variety_34 (by decide) ?_ ?_
  · refine g_aload_n (pc := 41) dX7_variety_41 rfl 0 rfl ?_
    refine g_iload_n (pc := 42) dX7_variety_42 rfl 1 rfl ?_
    refine g_iload_n (pc := 43) dX7_variety_43 rfl 2 rfl ?_
    refine g_cI (pc := 44) (st := []) (fun r hr => gRunV (As := [.int a1, .int a2]) 17 (ge_X7_varietyNow γ a1 a2 h1) hr wv_RX7_225 rfl (Nat.le_of_ble_eq_true rfl) (gat_17 _ _) rfl rfl (Nat.le_of_ble_eq_true rfl) (Nat.le_of_ble_eq_true rfl) dX7_variety_44) (fun x3 h2 => ?_)
    exact g_sub [] rfl (gjb_X7_variety_47 γ x3 h2)
  · refine g_iconst (pc := 37) (v := 0) dX7_variety_37 (by decide) ?_
    refine g_goto (pc := 38) (tgt := 47) dX7_variety_38 (by decide) ?_
    exact g_sub [] rfl (gjb_X7_variety_47 γ 0 h1)
set_option maxRecDepth 20000 in
theorem ge_X7_variety (γ : Gv) (p0 : Int32) (p1 : Int32) (h : Hst) : G γ RX7 cX7_variety 3 (some .int) [] vI 3 0 0 (lv_args 0 [.ref (gad γ 17), .int p0, .int p1]) [] h (f_X7_variety p0 p1 h) := by
  show G γ RX7 cX7_variety 3 (some .int) [] vI 3 0 0 [(0, .ref (gad γ 17)), (1, .int p0), (2, .int p1)] [] h (f_X7_variety p0 p1 h)
  unfold f_X7_variety
  refine g_aload_n (pc := 0) dX7_variety_0 rfl 0 rfl ?_
  refine g_iload_n (pc := 1) dX7_variety_1 rfl 1 rfl ?_
  refine g_cI (pc := 2) (st := [.ref (gad γ 17)]) (fun r hr => gRunS (As := [.int p0]) (ge_X7_isVariety γ p0 h) hr wv_RX7_59 rfl (Nat.le_of_ble_eq_true rfl) rfl (Nat.le_of_ble_eq_true rfl) (Nat.le_of_ble_eq_true rfl) dX7_variety_2) (fun x2 h1 => ?_)
  refine g_if_ne (pc := 5) (tgt := 12) dX7_variety_5 (by decide) ?_ ?_
  · refine g_iload_n (pc := 12) dX7_variety_12 rfl 2 rfl ?_
    refine g_iconst (pc := 13) (v := 0) dX7_variety_13 (by decide) ?_
    refine g_bipush (pc := 14) (v := 7) dX7_variety_14 (by decide) ?_
    refine g_cI (pc := 16) (st := [.ref (gad γ 17)]) (fun r hr => gRunS (As := [.int p1, .int 0, .int 7]) (ge_X7_within γ p1 0 7 h1) hr wv_RX7_38 rfl (Nat.le_of_ble_eq_true rfl) rfl (Nat.le_of_ble_eq_true rfl) (Nat.le_of_ble_eq_true rfl) dX7_variety_16) (fun x4 h3 => ?_)
    refine g_if_eq (pc := 19) (tgt := 26) dX7_variety_19 (by decide) ?_ ?_
    · refine g_iconst (pc := 26) (v := 2) dX7_variety_26 (by decide) ?_
      exact gjb_X7_variety_27 γ p0 p1 2 h3
    · refine g_iconst (pc := 22) (v := 0) dX7_variety_22 (by decide) ?_
      refine g_goto (pc := 23) (tgt := 27) dX7_variety_23 (by decide) ?_
      exact gjb_X7_variety_27 γ p0 p1 0 h3
  · refine g_iconst (pc := 8) (v := 1) dX7_variety_8 (by decide) ?_
    refine g_goto (pc := 9) (tgt := 27) dX7_variety_9 (by decide) ?_
    exact gjb_X7_variety_27 γ p0 p1 1 h1
def jb_X7_sumOil_37 (R4 : Int32 → Int32 → Int32 → Hst → Option (Int32 × Hst)) (a1 : Int32) (a3 : Int32) (s0 : Int32) (s1 : Int32) (h : Hst) : Option (Int32 × Hst) :=
  gl (s1 + s0) fun x1 =>
  (R4 a1 x1 (a3 + 1) h)
def jb_X7_sumOil_28 (R4 : Int32 → Int32 → Int32 → Hst → Option (Int32 × Hst)) (a1 : Int32) (a3 : Int32) (s0 : Int32) (h : Hst) : Option (Int32 × Hst) :=
  gb (f_X7_oilOf a3 h) fun x2 h1 =>
  (jb_X7_sumOil_37 R4 a1 a3 x2 s0 h1)
def lp_X7_sumOil_4 : Nat → Int32 → Int32 → Int32 → Hst → Option (Int32 × Hst)
  | 0, _, _, _, _ => none
  | n + 1, a1, a2, a3, h =>
    gck 9 514 ((if (h.1 18 (9 : Int32).toNatClampNeg) ≤ a3 then
      (some (a2, h))
    else
      (if a1 = 0 then
        (jb_X7_sumOil_28 (lp_X7_sumOil_4 n) a1 a3 a2 h)
      else
        gb (f_X7_gradeOf a3 h) fun x2 h1 =>
        (if x2 = 0 then
          (jb_X7_sumOil_28 (lp_X7_sumOil_4 n) a1 a3 a2 h1)
        else
          (jb_X7_sumOil_37 (lp_X7_sumOil_4 n) a1 a3 0 a2 h1)))))
def f_X7_sumOil (p0 : Int32) (h : Hst) : Option (Int32 × Hst) :=
  (lp_X7_sumOil_4 FU p0 0 0 h)
set_option maxRecDepth 20000 in
theorem gjb_X7_sumOil_37 (γ : Gv) (R4 : Int32 → Int32 → Int32 → Hst → Option (Int32 × Hst)) (hR4 : ∀ (a1 : Int32) (a2 : Int32) (a3 : Int32) (h : Hst), G γ RX7 cX7_sumOil 4 (some .int) [] vI 3 0 4 [(0, .ref (gad γ 17)), (1, .int a1), (2, .int a2), (3, .int a3)] [] h (R4 a1 a2 a3 h)) (a1 : Int32) (a3 : Int32) (s0 : Int32) (s1 : Int32) (h : Hst) : G γ RX7 cX7_sumOil 4 (some .int) [] vI 3 0 37 [(0, .ref (gad γ 17)), (1, .int a1), (3, .int a3)] [.int s0, .int s1] h (jb_X7_sumOil_37 R4 a1 a3 s0 s1 h) := by
  unfold jb_X7_sumOil_37
  refine g_iadd (pc := 37) dX7_sumOil_37 ?_
  refine g_nmi (fun x1 => ?_)
  refine g_istore_n (pc := 38) (lv' := [(2, .int x1), (0, .ref (gad γ 17)), (1, .int a1), (3, .int a3)]) dX7_sumOil_38 rfl (by decide) rfl ?_
  refine g_iinc (pc := 39) (q := 3) (v := a3 + 1) (lv' := [(3, .int (a3 + 1)), (2, .int x1), (0, .ref (gad γ 17)), (1, .int a1)]) dX7_sumOil_39 rfl rfl (by decide) rfl ?_
  refine g_goto (pc := 42) (tgt := 4) dX7_sumOil_42 (by decide) ?_
  exact g_sub [2, 3, 1, 0] rfl (hR4 a1 x1 (a3 + 1) h)
set_option maxRecDepth 20000 in
theorem gjb_X7_sumOil_28 (γ : Gv) (R4 : Int32 → Int32 → Int32 → Hst → Option (Int32 × Hst)) (hR4 : ∀ (a1 : Int32) (a2 : Int32) (a3 : Int32) (h : Hst), G γ RX7 cX7_sumOil 4 (some .int) [] vI 3 0 4 [(0, .ref (gad γ 17)), (1, .int a1), (2, .int a2), (3, .int a3)] [] h (R4 a1 a2 a3 h)) (a1 : Int32) (a3 : Int32) (s0 : Int32) (h : Hst) : G γ RX7 cX7_sumOil 4 (some .int) [] vI 3 0 28 [(0, .ref (gad γ 17)), (1, .int a1), (3, .int a3)] [.int s0] h (jb_X7_sumOil_28 R4 a1 a3 s0 h) := by
  unfold jb_X7_sumOil_28
  refine g_aload_n (pc := 28) dX7_sumOil_28 rfl 0 rfl ?_
  refine g_iload_n (pc := 29) dX7_sumOil_29 rfl 2 rfl ?_
  refine g_cI (pc := 30) (st := [.int s0]) (fun r hr => gRunV (As := [.int a3]) 17 (ge_X7_oilOf γ a3 h) hr wv_RX7_46 rfl (Nat.le_of_ble_eq_true rfl) (gat_17 _ _) rfl rfl (Nat.le_of_ble_eq_true rfl) (Nat.le_of_ble_eq_true rfl) dX7_sumOil_30) (fun x2 h1 => ?_)
  refine g_goto (pc := 33) (tgt := 37) dX7_sumOil_33 (by decide) ?_
  exact gjb_X7_sumOil_37 γ R4 hR4 a1 a3 x2 s0 h1
set_option maxRecDepth 20000 in
theorem glp_X7_sumOil_4 (γ : Gv)  : ∀ (n : Nat) (a1 : Int32) (a2 : Int32) (a3 : Int32) (h : Hst), G γ RX7 cX7_sumOil 4 (some .int) [] vI 3 0 4 [(0, .ref (gad γ 17)), (1, .int a1), (2, .int a2), (3, .int a3)] [] h (lp_X7_sumOil_4 n a1 a2 a3 h) := by
  intro n
  induction n with
  | zero => intro a1 a2 a3 h; exact g_none
  | succ n ih =>
    intro a1 a2 a3 h
    rw [lp_X7_sumOil_4]
    refine g_iload_n (pc := 4) dX7_sumOil_4 rfl 3 rfl ?_
    refine g_aload_n (pc := 5) dX7_sumOil_5 rfl 0 rfl ?_
    refine gf_RX7_7_17 (pc := 6) dX7_sumOil_6 ?_
    refine g_bipush (pc := 9) (v := 9) dX7_sumOil_9 (by decide) ?_
    refine g_iald (pc := 11) 18 (gat_18 _ _) dX7_sumOil_11 ?_
    refine g_icmp_ge (pc := 12) (tgt := 45) dX7_sumOil_12 (by decide) ?_ ?_
    · refine g_iload_n (pc := 45) dX7_sumOil_45 rfl 2 rfl ?_
      exact g_ireturn (pc := 46) (ty := .int) dX7_sumOil_46 rfl rfl rfl
    · refine g_iload_n (pc := 15) dX7_sumOil_15 rfl 2 rfl ?_
      refine g_iload_n (pc := 16) dX7_sumOil_16 rfl 1 rfl ?_
      refine g_if_eq (pc := 17) (tgt := 28) dX7_sumOil_17 (by decide) ?_ ?_
      · exact g_sub [0, 1, 3] rfl (gjb_X7_sumOil_28 γ (lp_X7_sumOil_4 n) ih a1 a3 a2 h)
      · refine g_aload_n (pc := 20) dX7_sumOil_20 rfl 0 rfl ?_
        refine g_iload_n (pc := 21) dX7_sumOil_21 rfl 3 rfl ?_
        refine g_cI (pc := 22) (st := [.int a2]) (fun r hr => gRunV (As := [.int a3]) 17 (ge_X7_gradeOf γ a3 h) hr wv_RX7_53 rfl (Nat.le_of_ble_eq_true rfl) (gat_17 _ _) rfl rfl (Nat.le_of_ble_eq_true rfl) (Nat.le_of_ble_eq_true rfl) dX7_sumOil_22) (fun x2 h1 => ?_)
        refine g_if_ne (pc := 25) (tgt := 36) dX7_sumOil_25 (by decide) ?_ ?_
        · refine g_iconst (pc := 36) (v := 0) dX7_sumOil_36 (by decide) ?_
          exact g_sub [0, 1, 3] rfl (gjb_X7_sumOil_37 γ (lp_X7_sumOil_4 n) ih a1 a3 0 a2 h1)
        · exact g_sub [0, 1, 3] rfl (gjb_X7_sumOil_28 γ (lp_X7_sumOil_4 n) ih a1 a3 a2 h1)
set_option maxRecDepth 20000 in
theorem ge_X7_sumOil (γ : Gv) (p0 : Int32) (h : Hst) : G γ RX7 cX7_sumOil 4 (some .int) [] vI 3 0 0 (lv_args 0 [.ref (gad γ 17), .int p0]) [] h (f_X7_sumOil p0 h) := by
  show G γ RX7 cX7_sumOil 4 (some .int) [] vI 3 0 0 [(0, .ref (gad γ 17)), (1, .int p0)] [] h (f_X7_sumOil p0 h)
  unfold f_X7_sumOil
  refine g_iconst (pc := 0) (v := 0) dX7_sumOil_0 (by decide) ?_
  refine g_istore_n (pc := 1) (lv' := [(2, .int 0), (0, .ref (gad γ 17)), (1, .int p0)]) dX7_sumOil_1 rfl (by decide) rfl ?_
  refine g_iconst (pc := 2) (v := 0) dX7_sumOil_2 (by decide) ?_
  refine g_istore_n (pc := 3) (lv' := [(3, .int 0), (2, .int 0), (0, .ref (gad γ 17)), (1, .int p0)]) dX7_sumOil_3 rfl (by decide) rfl ?_
  exact g_sub [2, 3, 1, 0] rfl (glp_X7_sumOil_4 γ FU p0 0 0 h)
def lp_X7_accounts_4 : Nat → Int32 → Int32 → Hst → Option (Int32 × Hst)
  | 0, _, _, _ => none
  | n + 1, a1, a2, h =>
    gck 7 514 ((if (h.1 18 (7 : Int32).toNatClampNeg) ≤ a2 then
      (some (a1, h))
    else
      gck (40 + a2) 514 (gl (a1 + (h.1 18 (40 + a2).toNatClampNeg)) fun x1 =>
      ((lp_X7_accounts_4 n) x1 (a2 + 1) h))))
def f_X7_accounts  (h : Hst) : Option (Int32 × Hst) :=
  (lp_X7_accounts_4 FU 0 0 h)
set_option maxRecDepth 20000 in
theorem glp_X7_accounts_4 (γ : Gv)  : ∀ (n : Nat) (a1 : Int32) (a2 : Int32) (h : Hst), G γ RX7 cX7_accounts 3 (some .int) [] vI 0 0 4 [(0, .ref (gad γ 17)), (1, .int a1), (2, .int a2)] [] h (lp_X7_accounts_4 n a1 a2 h) := by
  intro n
  induction n with
  | zero => intro a1 a2 h; exact g_none
  | succ n ih =>
    intro a1 a2 h
    rw [lp_X7_accounts_4]
    refine g_iload_n (pc := 4) dX7_accounts_4 rfl 2 rfl ?_
    refine g_aload_n (pc := 5) dX7_accounts_5 rfl 0 rfl ?_
    refine gf_RX7_7_17 (pc := 6) dX7_accounts_6 ?_
    refine g_bipush (pc := 9) (v := 7) dX7_accounts_9 (by decide) ?_
    refine g_iald (pc := 11) 18 (gat_18 _ _) dX7_accounts_11 ?_
    refine g_icmp_ge (pc := 12) (tgt := 33) dX7_accounts_12 (by decide) ?_ ?_
    · refine g_iload_n (pc := 33) dX7_accounts_33 rfl 1 rfl ?_
      exact g_ireturn (pc := 34) (ty := .int) dX7_accounts_34 rfl rfl rfl
    · refine g_iload_n (pc := 15) dX7_accounts_15 rfl 1 rfl ?_
      refine g_aload_n (pc := 16) dX7_accounts_16 rfl 0 rfl ?_
      refine gf_RX7_7_17 (pc := 17) dX7_accounts_17 ?_
      refine g_bipush (pc := 20) (v := 40) dX7_accounts_20 (by decide) ?_
      refine g_iload_n (pc := 22) dX7_accounts_22 rfl 2 rfl ?_
      refine g_iadd (pc := 23) dX7_accounts_23 ?_
      refine g_iald (pc := 24) 18 (gat_18 _ _) dX7_accounts_24 ?_
      refine g_iadd (pc := 25) dX7_accounts_25 ?_
      refine g_nmi (fun x1 => ?_)
      refine g_istore_n (pc := 26) (lv' := [(1, .int x1), (0, .ref (gad γ 17)), (2, .int a2)]) dX7_accounts_26 rfl (by decide) rfl ?_
      refine g_iinc (pc := 27) (q := 2) (v := a2 + 1) (lv' := [(2, .int (a2 + 1)), (1, .int x1), (0, .ref (gad γ 17))]) dX7_accounts_27 rfl rfl (by decide) rfl ?_
      refine g_goto (pc := 30) (tgt := 4) dX7_accounts_30 (by decide) ?_
      exact g_sub [2, 1, 0] rfl (ih x1 (a2 + 1) h)
set_option maxRecDepth 20000 in
theorem ge_X7_accounts (γ : Gv)  (h : Hst) : G γ RX7 cX7_accounts 3 (some .int) [] vI 0 0 0 (lv_args 0 [.ref (gad γ 17)]) [] h (f_X7_accounts h) := by
  show G γ RX7 cX7_accounts 3 (some .int) [] vI 0 0 0 [(0, .ref (gad γ 17))] [] h (f_X7_accounts h)
  unfold f_X7_accounts
  refine g_iconst (pc := 0) (v := 0) dX7_accounts_0 (by decide) ?_
  refine g_istore_n (pc := 1) (lv' := [(1, .int 0), (0, .ref (gad γ 17))]) dX7_accounts_1 rfl (by decide) rfl ?_
  refine g_iconst (pc := 2) (v := 0) dX7_accounts_2 (by decide) ?_
  refine g_istore_n (pc := 3) (lv' := [(2, .int 0), (1, .int 0), (0, .ref (gad γ 17))]) dX7_accounts_3 rfl (by decide) rfl ?_
  exact g_sub [2, 1, 0] rfl (glp_X7_accounts_4 γ FU 0 0 h)
def jb_X7_counted_85  (s0 : Int32) (s1 : Int32) (s2 : Int32) (h : Hst) : Option (Int32 × Hst) :=
  gb (f_X7_lotsOf s2 s1 s0 h) fun x2 h1 =>
  (some (x2, h1))
def f_X7_counted (p0 : Int32) (h : Hst) : Option (Int32 × Hst) :=
  (if p0 = 0 then
    gck 7 514 ((some (h.1 18 (7 : Int32).toNatClampNeg, h)))
  else
  (if p0 = 1 then
    (if p0 = 2 then
      (jb_X7_counted_85 1 (-1) (-1) h)
    else
      (jb_X7_counted_85 0 (-1) (-1) h))
  else
  (if p0 = 2 then
    (if p0 = 2 then
      (jb_X7_counted_85 1 (-1) (-1) h)
    else
      (jb_X7_counted_85 0 (-1) (-1) h))
  else
  (if p0 = 3 then
    gck 9 514 ((some (h.1 18 (9 : Int32).toNatClampNeg, h)))
  else
  (if p0 = 4 then
    gck ((10 + p0) - 4) 514 ((some (h.1 18 ((10 + p0) - 4).toNatClampNeg, h)))
  else
  (if p0 = 5 then
    gck ((10 + p0) - 4) 514 ((some (h.1 18 ((10 + p0) - 4).toNatClampNeg, h)))
  else
  (if p0 = 6 then
    gck ((10 + p0) - 4) 514 ((some (h.1 18 ((10 + p0) - 4).toNatClampNeg, h)))
  else
  (if p0 = 7 then
    gck ((10 + p0) - 4) 514 ((some (h.1 18 ((10 + p0) - 4).toNatClampNeg, h)))
  else
  (if p0 = 8 then
    gb (f_X7_sumOil 0 h) fun x2 h1 =>
    (some (x2, h1))
  else
  (if p0 = 9 then
    gb (f_X7_accounts h) fun x4 h3 =>
    (some (x4, h3))
  else
  (if p0 = 10 then
    gb (f_X7_sumOil 1 h) fun x6 h5 =>
    (some (x6, h5))
  else
  (if p0 = 11 then
    gck 14 514 ((some (h.1 18 (14 : Int32).toNatClampNeg, h)))
  else
  (some (h.1 17 1, h))))))))))))))
set_option maxRecDepth 20000 in
theorem gjb_X7_counted_85 (γ : Gv)  (s0 : Int32) (s1 : Int32) (s2 : Int32) (h : Hst) : G γ RX7 cX7_counted 2 (some .int) [] vI 4 0 85 [] [.int s0, .int s1, .int s2, .ref (gad γ 17)] h (jb_X7_counted_85 s0 s1 s2 h) := by
  unfold jb_X7_counted_85
  refine g_cI (pc := 85) (st := []) (fun r hr => gRunV (As := [.int s2, .int s1, .int s0]) 17 (ge_X7_lotsOf γ s2 s1 s0 h) hr wv_RX7_209 rfl (Nat.le_of_ble_eq_true rfl) (gat_17 _ _) rfl rfl (Nat.le_of_ble_eq_true rfl) (Nat.le_of_ble_eq_true rfl) dX7_counted_85) (fun x2 h1 => ?_)
  exact g_ireturn (pc := 88) (ty := .int) dX7_counted_88 rfl rfl rfl
set_option maxRecDepth 20000 in
theorem ge_X7_counted (γ : Gv) (p0 : Int32) (h : Hst) : G γ RX7 cX7_counted 2 (some .int) [] vI 4 0 0 (lv_args 0 [.ref (gad γ 17), .int p0]) [] h (f_X7_counted p0 h) := by
  show G γ RX7 cX7_counted 2 (some .int) [] vI 4 0 0 [(0, .ref (gad γ 17)), (1, .int p0)] [] h (f_X7_counted p0 h)
  unfold f_X7_counted
  refine g_iload_n (pc := 0) dX7_counted_0 rfl 1 rfl ?_
  refine g_case (c := p0 = 0) (fun c0 => ?_) (fun c0 => ?_)
  · refine g_tswI (pc := 1) (tgt := 64) (off := 63) dX7_counted_1 (by rw [c0]; decide) (by rw [c0]; decide) (by rw [c0]; decide) (by decide) ?_
    refine g_aload_n (pc := 64) dX7_counted_64 rfl 0 rfl ?_
    refine gf_RX7_7_17 (pc := 65) dX7_counted_65 ?_
    refine g_bipush (pc := 68) (v := 7) dX7_counted_68 (by decide) ?_
    refine g_iald (pc := 70) 18 (gat_18 _ _) dX7_counted_70 ?_
    exact g_ireturn (pc := 71) (ty := .int) dX7_counted_71 rfl rfl rfl
  refine g_case (c := p0 = 1) (fun c1 => ?_) (fun c1 => ?_)
  · refine g_tswI (pc := 1) (tgt := 72) (off := 71) dX7_counted_1 (by rw [c1]; decide) (by rw [c1]; decide) (by rw [c1]; decide) (by decide) ?_
    refine g_aload_n (pc := 72) dX7_counted_72 rfl 0 rfl ?_
    refine g_iconst (pc := 73) (v := (-1)) dX7_counted_73 (by decide) ?_
    refine g_iconst (pc := 74) (v := (-1)) dX7_counted_74 (by decide) ?_
    refine g_iload_n (pc := 75) dX7_counted_75 rfl 1 rfl ?_
    refine g_iconst (pc := 76) (v := 2) dX7_counted_76 (by decide) ?_
    refine g_icmp_ne (pc := 77) (tgt := 84) dX7_counted_77 (by decide) ?_ ?_
    · refine g_iconst (pc := 84) (v := 0) dX7_counted_84 (by decide) ?_
      exact g_sub [] rfl (gjb_X7_counted_85 γ 0 (-1) (-1) h)
    · refine g_iconst (pc := 80) (v := 1) dX7_counted_80 (by decide) ?_
      refine g_goto (pc := 81) (tgt := 85) dX7_counted_81 (by decide) ?_
      exact g_sub [] rfl (gjb_X7_counted_85 γ 1 (-1) (-1) h)
  refine g_case (c := p0 = 2) (fun c2 => ?_) (fun c2 => ?_)
  · refine g_tswI (pc := 1) (tgt := 72) (off := 71) dX7_counted_1 (by rw [c2]; decide) (by rw [c2]; decide) (by rw [c2]; decide) (by decide) ?_
    refine g_aload_n (pc := 72) dX7_counted_72 rfl 0 rfl ?_
    refine g_iconst (pc := 73) (v := (-1)) dX7_counted_73 (by decide) ?_
    refine g_iconst (pc := 74) (v := (-1)) dX7_counted_74 (by decide) ?_
    refine g_iload_n (pc := 75) dX7_counted_75 rfl 1 rfl ?_
    refine g_iconst (pc := 76) (v := 2) dX7_counted_76 (by decide) ?_
    refine g_icmp_ne (pc := 77) (tgt := 84) dX7_counted_77 (by decide) ?_ ?_
    · refine g_iconst (pc := 84) (v := 0) dX7_counted_84 (by decide) ?_
      exact g_sub [] rfl (gjb_X7_counted_85 γ 0 (-1) (-1) h)
    · refine g_iconst (pc := 80) (v := 1) dX7_counted_80 (by decide) ?_
      refine g_goto (pc := 81) (tgt := 85) dX7_counted_81 (by decide) ?_
      exact g_sub [] rfl (gjb_X7_counted_85 γ 1 (-1) (-1) h)
  refine g_case (c := p0 = 3) (fun c3 => ?_) (fun c3 => ?_)
  · refine g_tswI (pc := 1) (tgt := 89) (off := 88) dX7_counted_1 (by rw [c3]; decide) (by rw [c3]; decide) (by rw [c3]; decide) (by decide) ?_
    refine g_aload_n (pc := 89) dX7_counted_89 rfl 0 rfl ?_
    refine gf_RX7_7_17 (pc := 90) dX7_counted_90 ?_
    refine g_bipush (pc := 93) (v := 9) dX7_counted_93 (by decide) ?_
    refine g_iald (pc := 95) 18 (gat_18 _ _) dX7_counted_95 ?_
    exact g_ireturn (pc := 96) (ty := .int) dX7_counted_96 rfl rfl rfl
  refine g_case (c := p0 = 4) (fun c4 => ?_) (fun c4 => ?_)
  · refine g_tswI (pc := 1) (tgt := 97) (off := 96) dX7_counted_1 (by rw [c4]; decide) (by rw [c4]; decide) (by rw [c4]; decide) (by decide) ?_
    refine g_aload_n (pc := 97) dX7_counted_97 rfl 0 rfl ?_
    refine gf_RX7_7_17 (pc := 98) dX7_counted_98 ?_
    refine g_bipush (pc := 101) (v := 10) dX7_counted_101 (by decide) ?_
    refine g_iload_n (pc := 103) dX7_counted_103 rfl 1 rfl ?_
    refine g_iadd (pc := 104) dX7_counted_104 ?_
    refine g_iconst (pc := 105) (v := 4) dX7_counted_105 (by decide) ?_
    refine g_isub (pc := 106) dX7_counted_106 ?_
    refine g_iald (pc := 107) 18 (gat_18 _ _) dX7_counted_107 ?_
    exact g_ireturn (pc := 108) (ty := .int) dX7_counted_108 rfl rfl rfl
  refine g_case (c := p0 = 5) (fun c5 => ?_) (fun c5 => ?_)
  · refine g_tswI (pc := 1) (tgt := 97) (off := 96) dX7_counted_1 (by rw [c5]; decide) (by rw [c5]; decide) (by rw [c5]; decide) (by decide) ?_
    refine g_aload_n (pc := 97) dX7_counted_97 rfl 0 rfl ?_
    refine gf_RX7_7_17 (pc := 98) dX7_counted_98 ?_
    refine g_bipush (pc := 101) (v := 10) dX7_counted_101 (by decide) ?_
    refine g_iload_n (pc := 103) dX7_counted_103 rfl 1 rfl ?_
    refine g_iadd (pc := 104) dX7_counted_104 ?_
    refine g_iconst (pc := 105) (v := 4) dX7_counted_105 (by decide) ?_
    refine g_isub (pc := 106) dX7_counted_106 ?_
    refine g_iald (pc := 107) 18 (gat_18 _ _) dX7_counted_107 ?_
    exact g_ireturn (pc := 108) (ty := .int) dX7_counted_108 rfl rfl rfl
  refine g_case (c := p0 = 6) (fun c6 => ?_) (fun c6 => ?_)
  · refine g_tswI (pc := 1) (tgt := 97) (off := 96) dX7_counted_1 (by rw [c6]; decide) (by rw [c6]; decide) (by rw [c6]; decide) (by decide) ?_
    refine g_aload_n (pc := 97) dX7_counted_97 rfl 0 rfl ?_
    refine gf_RX7_7_17 (pc := 98) dX7_counted_98 ?_
    refine g_bipush (pc := 101) (v := 10) dX7_counted_101 (by decide) ?_
    refine g_iload_n (pc := 103) dX7_counted_103 rfl 1 rfl ?_
    refine g_iadd (pc := 104) dX7_counted_104 ?_
    refine g_iconst (pc := 105) (v := 4) dX7_counted_105 (by decide) ?_
    refine g_isub (pc := 106) dX7_counted_106 ?_
    refine g_iald (pc := 107) 18 (gat_18 _ _) dX7_counted_107 ?_
    exact g_ireturn (pc := 108) (ty := .int) dX7_counted_108 rfl rfl rfl
  refine g_case (c := p0 = 7) (fun c7 => ?_) (fun c7 => ?_)
  · refine g_tswI (pc := 1) (tgt := 97) (off := 96) dX7_counted_1 (by rw [c7]; decide) (by rw [c7]; decide) (by rw [c7]; decide) (by decide) ?_
    refine g_aload_n (pc := 97) dX7_counted_97 rfl 0 rfl ?_
    refine gf_RX7_7_17 (pc := 98) dX7_counted_98 ?_
    refine g_bipush (pc := 101) (v := 10) dX7_counted_101 (by decide) ?_
    refine g_iload_n (pc := 103) dX7_counted_103 rfl 1 rfl ?_
    refine g_iadd (pc := 104) dX7_counted_104 ?_
    refine g_iconst (pc := 105) (v := 4) dX7_counted_105 (by decide) ?_
    refine g_isub (pc := 106) dX7_counted_106 ?_
    refine g_iald (pc := 107) 18 (gat_18 _ _) dX7_counted_107 ?_
    exact g_ireturn (pc := 108) (ty := .int) dX7_counted_108 rfl rfl rfl
  refine g_case (c := p0 = 8) (fun c8 => ?_) (fun c8 => ?_)
  · refine g_tswI (pc := 1) (tgt := 109) (off := 108) dX7_counted_1 (by rw [c8]; decide) (by rw [c8]; decide) (by rw [c8]; decide) (by decide) ?_
    refine g_aload_n (pc := 109) dX7_counted_109 rfl 0 rfl ?_
    refine g_iconst (pc := 110) (v := 0) dX7_counted_110 (by decide) ?_
    refine g_cI (pc := 111) (st := []) (fun r hr => gRunV (As := [.int 0]) 17 (ge_X7_sumOil γ 0 h) hr wv_RX7_228 rfl (Nat.le_of_ble_eq_true rfl) (gat_17 _ _) rfl rfl (Nat.le_of_ble_eq_true rfl) (Nat.le_of_ble_eq_true rfl) dX7_counted_111) (fun x2 h1 => ?_)
    exact g_ireturn (pc := 114) (ty := .int) dX7_counted_114 rfl rfl rfl
  refine g_case (c := p0 = 9) (fun c9 => ?_) (fun c9 => ?_)
  · refine g_tswI (pc := 1) (tgt := 115) (off := 114) dX7_counted_1 (by rw [c9]; decide) (by rw [c9]; decide) (by rw [c9]; decide) (by decide) ?_
    refine g_aload_n (pc := 115) dX7_counted_115 rfl 0 rfl ?_
    refine g_cI (pc := 116) (st := []) (fun r hr => gRunV (As := []) 17 (ge_X7_accounts γ h) hr wv_RX7_232 rfl (Nat.le_of_ble_eq_true rfl) (gat_17 _ _) rfl rfl (Nat.le_of_ble_eq_true rfl) (Nat.le_of_ble_eq_true rfl) dX7_counted_116) (fun x4 h3 => ?_)
    exact g_ireturn (pc := 119) (ty := .int) dX7_counted_119 rfl rfl rfl
  refine g_case (c := p0 = 10) (fun c10 => ?_) (fun c10 => ?_)
  · refine g_tswI (pc := 1) (tgt := 120) (off := 119) dX7_counted_1 (by rw [c10]; decide) (by rw [c10]; decide) (by rw [c10]; decide) (by decide) ?_
    refine g_aload_n (pc := 120) dX7_counted_120 rfl 0 rfl ?_
    refine g_iconst (pc := 121) (v := 1) dX7_counted_121 (by decide) ?_
    refine g_cI (pc := 122) (st := []) (fun r hr => gRunV (As := [.int 1]) 17 (ge_X7_sumOil γ 1 h) hr wv_RX7_228 rfl (Nat.le_of_ble_eq_true rfl) (gat_17 _ _) rfl rfl (Nat.le_of_ble_eq_true rfl) (Nat.le_of_ble_eq_true rfl) dX7_counted_122) (fun x6 h5 => ?_)
    exact g_ireturn (pc := 125) (ty := .int) dX7_counted_125 rfl rfl rfl
  refine g_case (c := p0 = 11) (fun c11 => ?_) (fun c11 => ?_)
  · refine g_tswI (pc := 1) (tgt := 126) (off := 125) dX7_counted_1 (by rw [c11]; decide) (by rw [c11]; decide) (by rw [c11]; decide) (by decide) ?_
    refine g_aload_n (pc := 126) dX7_counted_126 rfl 0 rfl ?_
    refine gf_RX7_7_17 (pc := 127) dX7_counted_127 ?_
    refine g_bipush (pc := 130) (v := 14) dX7_counted_130 (by decide) ?_
    refine g_iald (pc := 132) 18 (gat_18 _ _) dX7_counted_132 ?_
    exact g_ireturn (pc := 133) (ty := .int) dX7_counted_133 rfl rfl rfl
  refine g_tswO (pc := 1) (tgt := 134) dX7_counted_1 (by have k := fun (v : Int32) (n : Int) (e : v.toInt = n) (c : ¬ p0 = v) => gne e c; have k0 := k 0 0 (by decide) c0; have k1 := k 1 1 (by decide) c1; have k2 := k 2 2 (by decide) c2; have k3 := k 3 3 (by decide) c3; have k4 := k 4 4 (by decide) c4; have k5 := k 5 5 (by decide) c5; have k6 := k 6 6 (by decide) c6; have k7 := k 7 7 (by decide) c7; have k8 := k 8 8 (by decide) c8; have k9 := k 9 9 (by decide) c9; have k10 := k 10 10 (by decide) c10; have k11 := k 11 11 (by decide) c11; omega) (by decide) ?_
  refine g_aload_n (pc := 134) dX7_counted_134 rfl 0 rfl ?_
  refine gf_RX7_35_17 (pc := 135) dX7_counted_135 ?_
  exact g_ireturn (pc := 138) (ty := .int) dX7_counted_138 rfl rfl rfl
def jb_X7_count_35  (s0 : Int32) (h : Hst) : Option (Int32 × Hst) :=
  (some (s0, h))
def jb_X7_count_16  (a1 : Int32) (s0 : Int32) (h : Hst) : Option (Int32 × Hst) :=
  gl (hst h 17 5 s0) fun h1 =>
  (if (h1.1 17 5) ≤ 0 then
    gb (f_X7_counted a1 h1) fun x3 h2 =>
    (jb_X7_count_35 x3 h2)
  else
    (jb_X7_count_35 0 h1))
def f_X7_count (p0 : Int32) (h : Hst) : Option (Int32 × Hst) :=
  gb (f_X7_within p0 0 12 h) fun x2 h1 =>
  (if x2 = 0 then
    (jb_X7_count_16 p0 1 h1)
  else
    (jb_X7_count_16 p0 0 h1))
set_option maxRecDepth 20000 in
theorem gjb_X7_count_35 (γ : Gv)  (s0 : Int32) (h : Hst) : G γ RX7 cX7_count 2 (some .int) [] vI 5 0 35 [] [.int s0] h (jb_X7_count_35 s0 h) := by
  unfold jb_X7_count_35
  exact g_ireturn (pc := 35) (ty := .int) dX7_count_35 rfl rfl rfl
set_option maxRecDepth 20000 in
theorem gjb_X7_count_16 (γ : Gv)  (a1 : Int32) (s0 : Int32) (h : Hst) : G γ RX7 cX7_count 2 (some .int) [] vI 5 0 16 [(0, .ref (gad γ 17)), (1, .int a1)] [.int s0, .ref (gad γ 17)] h (jb_X7_count_16 a1 s0 h) := by
  unfold jb_X7_count_16
  refine pf_RX7_31_17 (pc := 16) dX7_count_16 ?_
  refine g_nmh (fun h1 => ?_)
  refine g_aload_n (pc := 19) dX7_count_19 rfl 0 rfl ?_
  refine gf_RX7_31_17 (pc := 20) dX7_count_20 ?_
  refine g_if_le (pc := 23) (tgt := 30) dX7_count_23 (by decide) ?_ ?_
  · refine g_aload_n (pc := 30) dX7_count_30 rfl 0 rfl ?_
    refine g_iload_n (pc := 31) dX7_count_31 rfl 1 rfl ?_
    refine g_cI (pc := 32) (st := []) (fun r hr => gRunV (As := [.int a1]) 17 (ge_X7_counted γ a1 h1) hr wv_RX7_235 rfl (Nat.le_of_ble_eq_true rfl) (gat_17 _ _) rfl rfl (Nat.le_of_ble_eq_true rfl) (Nat.le_of_ble_eq_true rfl) dX7_count_32) (fun x3 h2 => ?_)
    exact g_sub [] rfl (gjb_X7_count_35 γ x3 h2)
  · refine g_iconst (pc := 26) (v := 0) dX7_count_26 (by decide) ?_
    refine g_goto (pc := 27) (tgt := 35) dX7_count_27 (by decide) ?_
    exact g_sub [] rfl (gjb_X7_count_35 γ 0 h1)
set_option maxRecDepth 20000 in
theorem ge_X7_count (γ : Gv) (p0 : Int32) (h : Hst) : G γ RX7 cX7_count 2 (some .int) [] vI 5 0 0 (lv_args 0 [.ref (gad γ 17), .int p0]) [] h (f_X7_count p0 h) := by
  show G γ RX7 cX7_count 2 (some .int) [] vI 5 0 0 [(0, .ref (gad γ 17)), (1, .int p0)] [] h (f_X7_count p0 h)
  unfold f_X7_count
  refine g_aload_n (pc := 0) dX7_count_0 rfl 0 rfl ?_
  refine g_iload_n (pc := 1) dX7_count_1 rfl 1 rfl ?_
  refine g_iconst (pc := 2) (v := 0) dX7_count_2 (by decide) ?_
  refine g_bipush (pc := 3) (v := 12) dX7_count_3 (by decide) ?_
  refine g_cI (pc := 5) (st := [.ref (gad γ 17)]) (fun r hr => gRunS (As := [.int p0, .int 0, .int 12]) (ge_X7_within γ p0 0 12 h) hr wv_RX7_38 rfl (Nat.le_of_ble_eq_true rfl) rfl (Nat.le_of_ble_eq_true rfl) (Nat.le_of_ble_eq_true rfl) dX7_count_5) (fun x2 h1 => ?_)
  refine g_if_eq (pc := 8) (tgt := 15) dX7_count_8 (by decide) ?_ ?_
  · refine g_iconst (pc := 15) (v := 1) dX7_count_15 (by decide) ?_
    exact gjb_X7_count_16 γ p0 1 h1
  · refine g_iconst (pc := 11) (v := 0) dX7_count_11 (by decide) ?_
    refine g_goto (pc := 12) (tgt := 16) dX7_count_12 (by decide) ?_
    exact gjb_X7_count_16 γ p0 0 h1
def jb_X7_setting_35  (s0 : Int32) (h : Hst) : Option (Int32 × Hst) :=
  (some (s0, h))
def jb_X7_setting_13  (a1 : Int32) (s0 : Int32) (h : Hst) : Option (Int32 × Hst) :=
  gl (hst h 17 5 s0) fun h1 =>
  (if (h1.1 17 5) ≤ 0 then
    gck (0 + a1) 514 ((jb_X7_setting_35 (h1.1 18 (0 + a1).toNatClampNeg) h1))
  else
    (jb_X7_setting_35 0 h1))
def f_X7_setting (p0 : Int32) (h : Hst) : Option (Int32 × Hst) :=
  gb (f_X7_isSetting p0 h) fun x2 h1 =>
  (if x2 = 0 then
    (jb_X7_setting_13 p0 1 h1)
  else
    (jb_X7_setting_13 p0 0 h1))
set_option maxRecDepth 20000 in
theorem gjb_X7_setting_35 (γ : Gv)  (s0 : Int32) (h : Hst) : G γ RX7 cX7_setting 2 (some .int) [] vI 2 0 35 [] [.int s0] h (jb_X7_setting_35 s0 h) := by
  unfold jb_X7_setting_35
  exact g_ireturn (pc := 35) (ty := .int) dX7_setting_35 rfl rfl rfl
set_option maxRecDepth 20000 in
theorem gjb_X7_setting_13 (γ : Gv)  (a1 : Int32) (s0 : Int32) (h : Hst) : G γ RX7 cX7_setting 2 (some .int) [] vI 2 0 13 [(0, .ref (gad γ 17)), (1, .int a1)] [.int s0, .ref (gad γ 17)] h (jb_X7_setting_13 a1 s0 h) := by
  unfold jb_X7_setting_13
  refine pf_RX7_31_17 (pc := 13) dX7_setting_13 ?_
  refine g_nmh (fun h1 => ?_)
  refine g_aload_n (pc := 16) dX7_setting_16 rfl 0 rfl ?_
  refine gf_RX7_31_17 (pc := 17) dX7_setting_17 ?_
  refine g_if_le (pc := 20) (tgt := 27) dX7_setting_20 (by decide) ?_ ?_
  · refine g_aload_n (pc := 27) dX7_setting_27 rfl 0 rfl ?_
    refine gf_RX7_7_17 (pc := 28) dX7_setting_28 ?_
    refine g_iconst (pc := 31) (v := 0) dX7_setting_31 (by decide) ?_
    refine g_iload_n (pc := 32) dX7_setting_32 rfl 1 rfl ?_
    refine g_iadd (pc := 33) dX7_setting_33 ?_
    refine g_iald (pc := 34) 18 (gat_18 _ _) dX7_setting_34 ?_
    exact g_sub [] rfl (gjb_X7_setting_35 γ (h1.1 18 (0 + a1).toNatClampNeg) h1)
  · refine g_iconst (pc := 23) (v := 0) dX7_setting_23 (by decide) ?_
    refine g_goto (pc := 24) (tgt := 35) dX7_setting_24 (by decide) ?_
    exact g_sub [] rfl (gjb_X7_setting_35 γ 0 h1)
set_option maxRecDepth 20000 in
theorem ge_X7_setting (γ : Gv) (p0 : Int32) (h : Hst) : G γ RX7 cX7_setting 2 (some .int) [] vI 2 0 0 (lv_args 0 [.ref (gad γ 17), .int p0]) [] h (f_X7_setting p0 h) := by
  show G γ RX7 cX7_setting 2 (some .int) [] vI 2 0 0 [(0, .ref (gad γ 17)), (1, .int p0)] [] h (f_X7_setting p0 h)
  unfold f_X7_setting
  refine g_aload_n (pc := 0) dX7_setting_0 rfl 0 rfl ?_
  refine g_iload_n (pc := 1) dX7_setting_1 rfl 1 rfl ?_
  refine g_cI (pc := 2) (st := [.ref (gad γ 17)]) (fun r hr => gRunS (As := [.int p0]) (ge_X7_isSetting γ p0 h) hr wv_RX7_77 rfl (Nat.le_of_ble_eq_true rfl) rfl (Nat.le_of_ble_eq_true rfl) (Nat.le_of_ble_eq_true rfl) dX7_setting_2) (fun x2 h1 => ?_)
  refine g_if_eq (pc := 5) (tgt := 12) dX7_setting_5 (by decide) ?_ ?_
  · refine g_iconst (pc := 12) (v := 1) dX7_setting_12 (by decide) ?_
    exact gjb_X7_setting_13 γ p0 1 h1
  · refine g_iconst (pc := 8) (v := 0) dX7_setting_8 (by decide) ?_
    refine g_goto (pc := 9) (tgt := 13) dX7_setting_9 (by decide) ?_
    exact gjb_X7_setting_13 γ p0 0 h1
def jb_X7_whyNot_34  (s0 : Int32) (h : Hst) : Option (Int32 × Hst) :=
  (some (s0, h))
def jb_X7_whyNot_14  (a1 : Int32) (a2 : Int32) (s0 : Int32) (h : Hst) : Option (Int32 × Hst) :=
  gl (hst h 17 5 s0) fun h1 =>
  (if (h1.1 17 5) ≤ 0 then
    gb (f_X7_reason a1 a2 h1) fun x3 h2 =>
    (jb_X7_whyNot_34 x3 h2)
  else
    (jb_X7_whyNot_34 0 h1))
def f_X7_whyNot (p0 : Int32) (p1 : Int32) (h : Hst) : Option (Int32 × Hst) :=
  gb (f_X7_isTank p0 h) fun x2 h1 =>
  (if x2 = 0 then
    (jb_X7_whyNot_14 p0 p1 1 h1)
  else
    (jb_X7_whyNot_14 p0 p1 0 h1))
set_option maxRecDepth 20000 in
theorem gjb_X7_whyNot_34 (γ : Gv)  (s0 : Int32) (h : Hst) : G γ RX7 cX7_whyNot 3 (some .int) [] vI 5 0 34 [] [.int s0] h (jb_X7_whyNot_34 s0 h) := by
  unfold jb_X7_whyNot_34
  exact g_ireturn (pc := 34) (ty := .int) dX7_whyNot_34 rfl rfl rfl
set_option maxRecDepth 20000 in
theorem gjb_X7_whyNot_14 (γ : Gv)  (a1 : Int32) (a2 : Int32) (s0 : Int32) (h : Hst) : G γ RX7 cX7_whyNot 3 (some .int) [] vI 5 0 14 [(0, .ref (gad γ 17)), (1, .int a1), (2, .int a2)] [.int s0, .ref (gad γ 17)] h (jb_X7_whyNot_14 a1 a2 s0 h) := by
  unfold jb_X7_whyNot_14
  refine pf_RX7_31_17 (pc := 14) dX7_whyNot_14 ?_
  refine g_nmh (fun h1 => ?_)
  refine g_aload_n (pc := 17) dX7_whyNot_17 rfl 0 rfl ?_
  refine gf_RX7_31_17 (pc := 18) dX7_whyNot_18 ?_
  refine g_if_le (pc := 21) (tgt := 28) dX7_whyNot_21 (by decide) ?_ ?_
  · refine g_aload_n (pc := 28) dX7_whyNot_28 rfl 0 rfl ?_
    refine g_iload_n (pc := 29) dX7_whyNot_29 rfl 1 rfl ?_
    refine g_iload_n (pc := 30) dX7_whyNot_30 rfl 2 rfl ?_
    refine g_cI (pc := 31) (st := []) (fun r hr => gRunV (As := [.int a1, .int a2]) 17 (ge_X7_reason γ a1 a2 h1) hr wv_RX7_140 rfl (Nat.le_of_ble_eq_true rfl) (gat_17 _ _) rfl rfl (Nat.le_of_ble_eq_true rfl) (Nat.le_of_ble_eq_true rfl) dX7_whyNot_31) (fun x3 h2 => ?_)
    exact g_sub [] rfl (gjb_X7_whyNot_34 γ x3 h2)
  · refine g_iconst (pc := 24) (v := 0) dX7_whyNot_24 (by decide) ?_
    refine g_goto (pc := 25) (tgt := 34) dX7_whyNot_25 (by decide) ?_
    exact g_sub [] rfl (gjb_X7_whyNot_34 γ 0 h1)
set_option maxRecDepth 20000 in
theorem ge_X7_whyNot (γ : Gv) (p0 : Int32) (p1 : Int32) (h : Hst) : G γ RX7 cX7_whyNot 3 (some .int) [] vI 5 0 0 (lv_args 0 [.ref (gad γ 17), .int p0, .int p1]) [] h (f_X7_whyNot p0 p1 h) := by
  show G γ RX7 cX7_whyNot 3 (some .int) [] vI 5 0 0 [(0, .ref (gad γ 17)), (1, .int p0), (2, .int p1)] [] h (f_X7_whyNot p0 p1 h)
  unfold f_X7_whyNot
  refine g_aload_n (pc := 0) dX7_whyNot_0 rfl 0 rfl ?_
  refine g_aload_n (pc := 1) dX7_whyNot_1 rfl 0 rfl ?_
  refine g_iload_n (pc := 2) dX7_whyNot_2 rfl 1 rfl ?_
  refine g_cI (pc := 3) (st := [.ref (gad γ 17)]) (fun r hr => gRunV (As := [.int p0]) 17 (ge_X7_isTank γ p0 h) hr wv_RX7_137 rfl (Nat.le_of_ble_eq_true rfl) (gat_17 _ _) rfl rfl (Nat.le_of_ble_eq_true rfl) (Nat.le_of_ble_eq_true rfl) dX7_whyNot_3) (fun x2 h1 => ?_)
  refine g_if_eq (pc := 6) (tgt := 13) dX7_whyNot_6 (by decide) ?_ ?_
  · refine g_iconst (pc := 13) (v := 1) dX7_whyNot_13 (by decide) ?_
    exact gjb_X7_whyNot_14 γ p0 p1 1 h1
  · refine g_iconst (pc := 9) (v := 0) dX7_whyNot_9 (by decide) ?_
    refine g_goto (pc := 10) (tgt := 14) dX7_whyNot_10 (by decide) ?_
    exact gjb_X7_whyNot_14 γ p0 p1 0 h1
def jb_X7_nextNow_65  (s0 : Int32) (h : Hst) : Option (Int32 × Hst) :=
  (some (s0, h))
def f_X7_nextNow (p0 : Int32) (h : Hst) : Option (Int32 × Hst) :=
  gb (f_X7_layNextNow h) fun x2 h1 =>
  (if x2 = 0 then
    (some ((-1), h1))
  else
    (if p0 = 0 then
      (jb_X7_nextNow_65 (h1.1 17 9) h1)
    else
      (if p0 = 1 then
        (jb_X7_nextNow_65 (h1.1 17 11) h1)
      else
        (if p0 = 2 then
          (jb_X7_nextNow_65 ((h1.1 17 13) + (h1.1 17 14)) h1)
        else
          (if p0 = 3 then
            (jb_X7_nextNow_65 (h1.1 17 12) h1)
          else
            (jb_X7_nextNow_65 (h1.1 17 15) h1))))))
set_option maxRecDepth 20000 in
theorem gjb_X7_nextNow_65 (γ : Gv)  (s0 : Int32) (h : Hst) : G γ RX7 cX7_nextNow 2 (some .int) [] vI 4 0 65 [] [.int s0] h (jb_X7_nextNow_65 s0 h) := by
  unfold jb_X7_nextNow_65
  exact g_ireturn (pc := 65) (ty := .int) dX7_nextNow_65 rfl rfl rfl
set_option maxRecDepth 20000 in
theorem ge_X7_nextNow (γ : Gv) (p0 : Int32) (h : Hst) : G γ RX7 cX7_nextNow 2 (some .int) [] vI 4 0 0 (lv_args 0 [.ref (gad γ 17), .int p0]) [] h (f_X7_nextNow p0 h) := by
  show G γ RX7 cX7_nextNow 2 (some .int) [] vI 4 0 0 [(0, .ref (gad γ 17)), (1, .int p0)] [] h (f_X7_nextNow p0 h)
  unfold f_X7_nextNow
  refine g_aload_n (pc := 0) dX7_nextNow_0 rfl 0 rfl ?_
  refine g_cI (pc := 1) (st := []) (fun r hr => gRunV (As := []) 17 (ge_X7_layNextNow γ h) hr wv_RX7_123 rfl (Nat.le_of_ble_eq_true rfl) (gat_17 _ _) rfl rfl (Nat.le_of_ble_eq_true rfl) (Nat.le_of_ble_eq_true rfl) dX7_nextNow_1) (fun x2 h1 => ?_)
  refine g_if_ne (pc := 4) (tgt := 9) dX7_nextNow_4 (by decide) ?_ ?_
  · refine g_iload_n (pc := 9) dX7_nextNow_9 rfl 1 rfl ?_
    refine g_if_ne (pc := 10) (tgt := 20) dX7_nextNow_10 (by decide) ?_ ?_
    · refine g_iload_n (pc := 20) dX7_nextNow_20 rfl 1 rfl ?_
      refine g_iconst (pc := 21) (v := 1) dX7_nextNow_21 (by decide) ?_
      refine g_icmp_ne (pc := 22) (tgt := 32) dX7_nextNow_22 (by decide) ?_ ?_
      · refine g_iload_n (pc := 32) dX7_nextNow_32 rfl 1 rfl ?_
        refine g_iconst (pc := 33) (v := 2) dX7_nextNow_33 (by decide) ?_
        refine g_icmp_ne (pc := 34) (tgt := 49) dX7_nextNow_34 (by decide) ?_ ?_
        · refine g_iload_n (pc := 49) dX7_nextNow_49 rfl 1 rfl ?_
          refine g_iconst (pc := 50) (v := 3) dX7_nextNow_50 (by decide) ?_
          refine g_icmp_ne (pc := 51) (tgt := 61) dX7_nextNow_51 (by decide) ?_ ?_
          · refine g_aload_n (pc := 61) dX7_nextNow_61 rfl 0 rfl ?_
            refine gf_RX7_111_17 (pc := 62) dX7_nextNow_62 ?_
            exact g_sub [] rfl (gjb_X7_nextNow_65 γ (h1.1 17 15) h1)
          · refine g_aload_n (pc := 54) dX7_nextNow_54 rfl 0 rfl ?_
            refine gf_RX7_105_17 (pc := 55) dX7_nextNow_55 ?_
            refine g_goto (pc := 58) (tgt := 65) dX7_nextNow_58 (by decide) ?_
            exact g_sub [] rfl (gjb_X7_nextNow_65 γ (h1.1 17 12) h1)
        · refine g_aload_n (pc := 37) dX7_nextNow_37 rfl 0 rfl ?_
          refine gf_RX7_108_17 (pc := 38) dX7_nextNow_38 ?_
          refine g_aload_n (pc := 41) dX7_nextNow_41 rfl 0 rfl ?_
          refine gf_RX7_114_17 (pc := 42) dX7_nextNow_42 ?_
          refine g_iadd (pc := 45) dX7_nextNow_45 ?_
          refine g_goto (pc := 46) (tgt := 65) dX7_nextNow_46 (by decide) ?_
          exact g_sub [] rfl (gjb_X7_nextNow_65 γ ((h1.1 17 13) + (h1.1 17 14)) h1)
      · refine g_aload_n (pc := 25) dX7_nextNow_25 rfl 0 rfl ?_
        refine gf_RX7_102_17 (pc := 26) dX7_nextNow_26 ?_
        refine g_goto (pc := 29) (tgt := 65) dX7_nextNow_29 (by decide) ?_
        exact g_sub [] rfl (gjb_X7_nextNow_65 γ (h1.1 17 11) h1)
    · refine g_aload_n (pc := 13) dX7_nextNow_13 rfl 0 rfl ?_
      refine gf_RX7_93_17 (pc := 14) dX7_nextNow_14 ?_
      refine g_goto (pc := 17) (tgt := 65) dX7_nextNow_17 (by decide) ?_
      exact g_sub [] rfl (gjb_X7_nextNow_65 γ (h1.1 17 9) h1)
  · refine g_iconst (pc := 7) (v := (-1)) dX7_nextNow_7 (by decide) ?_
    exact g_ireturn (pc := 8) (ty := .int) dX7_nextNow_8 rfl rfl rfl
def jb_X7_next_34  (s0 : Int32) (h : Hst) : Option (Int32 × Hst) :=
  (some (s0, h))
def jb_X7_next_15  (a1 : Int32) (s0 : Int32) (h : Hst) : Option (Int32 × Hst) :=
  gl (hst h 17 5 s0) fun h1 =>
  (if (h1.1 17 5) ≤ 0 then
    gb (f_X7_nextNow a1 h1) fun x3 h2 =>
    (jb_X7_next_34 x3 h2)
  else
    (jb_X7_next_34 0 h1))
def f_X7_next (p0 : Int32) (h : Hst) : Option (Int32 × Hst) :=
  gb (f_X7_within p0 0 4 h) fun x2 h1 =>
  (if x2 = 0 then
    (jb_X7_next_15 p0 1 h1)
  else
    (jb_X7_next_15 p0 0 h1))
set_option maxRecDepth 20000 in
theorem gjb_X7_next_34 (γ : Gv)  (s0 : Int32) (h : Hst) : G γ RX7 cX7_next 2 (some .int) [] vI 5 0 34 [] [.int s0] h (jb_X7_next_34 s0 h) := by
  unfold jb_X7_next_34
  exact g_ireturn (pc := 34) (ty := .int) dX7_next_34 rfl rfl rfl
set_option maxRecDepth 20000 in
theorem gjb_X7_next_15 (γ : Gv)  (a1 : Int32) (s0 : Int32) (h : Hst) : G γ RX7 cX7_next 2 (some .int) [] vI 5 0 15 [(0, .ref (gad γ 17)), (1, .int a1)] [.int s0, .ref (gad γ 17)] h (jb_X7_next_15 a1 s0 h) := by
  unfold jb_X7_next_15
  refine pf_RX7_31_17 (pc := 15) dX7_next_15 ?_
  refine g_nmh (fun h1 => ?_)
  refine g_aload_n (pc := 18) dX7_next_18 rfl 0 rfl ?_
  refine gf_RX7_31_17 (pc := 19) dX7_next_19 ?_
  refine g_if_le (pc := 22) (tgt := 29) dX7_next_22 (by decide) ?_ ?_
  · refine g_aload_n (pc := 29) dX7_next_29 rfl 0 rfl ?_
    refine g_iload_n (pc := 30) dX7_next_30 rfl 1 rfl ?_
    refine g_cI (pc := 31) (st := []) (fun r hr => gRunV (As := [.int a1]) 17 (ge_X7_nextNow γ a1 h1) hr wv_RX7_238 rfl (Nat.le_of_ble_eq_true rfl) (gat_17 _ _) rfl rfl (Nat.le_of_ble_eq_true rfl) (Nat.le_of_ble_eq_true rfl) dX7_next_31) (fun x3 h2 => ?_)
    exact g_sub [] rfl (gjb_X7_next_34 γ x3 h2)
  · refine g_iconst (pc := 25) (v := 0) dX7_next_25 (by decide) ?_
    refine g_goto (pc := 26) (tgt := 34) dX7_next_26 (by decide) ?_
    exact g_sub [] rfl (gjb_X7_next_34 γ 0 h1)
set_option maxRecDepth 20000 in
theorem ge_X7_next (γ : Gv) (p0 : Int32) (h : Hst) : G γ RX7 cX7_next 2 (some .int) [] vI 5 0 0 (lv_args 0 [.ref (gad γ 17), .int p0]) [] h (f_X7_next p0 h) := by
  show G γ RX7 cX7_next 2 (some .int) [] vI 5 0 0 [(0, .ref (gad γ 17)), (1, .int p0)] [] h (f_X7_next p0 h)
  unfold f_X7_next
  refine g_aload_n (pc := 0) dX7_next_0 rfl 0 rfl ?_
  refine g_iload_n (pc := 1) dX7_next_1 rfl 1 rfl ?_
  refine g_iconst (pc := 2) (v := 0) dX7_next_2 (by decide) ?_
  refine g_iconst (pc := 3) (v := 4) dX7_next_3 (by decide) ?_
  refine g_cI (pc := 4) (st := [.ref (gad γ 17)]) (fun r hr => gRunS (As := [.int p0, .int 0, .int 4]) (ge_X7_within γ p0 0 4 h) hr wv_RX7_38 rfl (Nat.le_of_ble_eq_true rfl) rfl (Nat.le_of_ble_eq_true rfl) (Nat.le_of_ble_eq_true rfl) dX7_next_4) (fun x2 h1 => ?_)
  refine g_if_eq (pc := 7) (tgt := 14) dX7_next_7 (by decide) ?_ ?_
  · refine g_iconst (pc := 14) (v := 1) dX7_next_14 (by decide) ?_
    exact gjb_X7_next_15 γ p0 1 h1
  · refine g_iconst (pc := 10) (v := 0) dX7_next_10 (by decide) ?_
    refine g_goto (pc := 11) (tgt := 15) dX7_next_11 (by decide) ?_
    exact gjb_X7_next_15 γ p0 0 h1
def f_X7_takenNow (p0 : Int32) (p1 : Int32) (p2 : Int32) (h : Hst) : Option (Int32 × Hst) :=
  gb (f_X7_oilOf p0 h) fun x2 h1 =>
  (if p1 ≤ x2 then
    gbv (f_X7_layShares p0 p1 h1) fun h3 =>
    gck p2 5 ((some (h3.1 22 p2.toNatClampNeg, h3)))
  else
    (some ((-1), h1)))
set_option maxRecDepth 20000 in
theorem ge_X7_takenNow (γ : Gv) (p0 : Int32) (p1 : Int32) (p2 : Int32) (h : Hst) : G γ RX7 cX7_takenNow 4 (some .int) [] vI 3 0 0 (lv_args 0 [.ref (gad γ 17), .int p0, .int p1, .int p2]) [] h (f_X7_takenNow p0 p1 p2 h) := by
  show G γ RX7 cX7_takenNow 4 (some .int) [] vI 3 0 0 [(0, .ref (gad γ 17)), (1, .int p0), (2, .int p1), (3, .int p2)] [] h (f_X7_takenNow p0 p1 p2 h)
  unfold f_X7_takenNow
  refine g_aload_n (pc := 0) dX7_takenNow_0 rfl 0 rfl ?_
  refine g_iload_n (pc := 1) dX7_takenNow_1 rfl 1 rfl ?_
  refine g_cI (pc := 2) (st := []) (fun r hr => gRunV (As := [.int p0]) 17 (ge_X7_oilOf γ p0 h) hr wv_RX7_46 rfl (Nat.le_of_ble_eq_true rfl) (gat_17 _ _) rfl rfl (Nat.le_of_ble_eq_true rfl) (Nat.le_of_ble_eq_true rfl) dX7_takenNow_2) (fun x2 h1 => ?_)
  refine g_iload_n (pc := 5) dX7_takenNow_5 rfl 2 rfl ?_
  refine g_icmp_ge (pc := 6) (tgt := 11) dX7_takenNow_6 (by decide) ?_ ?_
  · refine g_aload_n (pc := 11) dX7_takenNow_11 rfl 0 rfl ?_
    refine g_iload_n (pc := 12) dX7_takenNow_12 rfl 1 rfl ?_
    refine g_iload_n (pc := 13) dX7_takenNow_13 rfl 2 rfl ?_
    refine g_cV (pc := 14) (st := []) (fun r hr => gRunV (As := [.int p0, .int p1]) 17 (ge_X7_layShares γ p0 p1 h1) hr wv_RX7_164 rfl (Nat.le_of_ble_eq_true rfl) (gat_17 _ _) rfl rfl (Nat.le_of_ble_eq_true rfl) (Nat.le_of_ble_eq_true rfl) dX7_takenNow_14) (fun h3 => ?_)
    refine g_aload_n (pc := 17) dX7_takenNow_17 rfl 0 rfl ?_
    refine gf_RX7_22_17 (pc := 18) dX7_takenNow_18 ?_
    refine g_iload_n (pc := 21) dX7_takenNow_21 rfl 3 rfl ?_
    refine g_iald (pc := 22) 22 (gat_22 _ _) dX7_takenNow_22 ?_
    exact g_ireturn (pc := 23) (ty := .int) dX7_takenNow_23 rfl rfl rfl
  · refine g_iconst (pc := 9) (v := (-1)) dX7_takenNow_9 (by decide) ?_
    exact g_ireturn (pc := 10) (ty := .int) dX7_takenNow_10 rfl rfl rfl
def jb_X7_taken_53  (s0 : Int32) (h : Hst) : Option (Int32 × Hst) :=
  (some (s0, h))
def jb_X7_taken_32  (a1 : Int32) (a2 : Int32) (a3 : Int32) (s0 : Int32) (h : Hst) : Option (Int32 × Hst) :=
  gl (hst h 17 5 s0) fun h1 =>
  (if (h1.1 17 5) ≤ 0 then
    gb (f_X7_takenNow a1 a2 a3 h1) fun x3 h2 =>
    (jb_X7_taken_53 x3 h2)
  else
    (jb_X7_taken_53 0 h1))
def jb_X7_taken_31  (a1 : Int32) (a2 : Int32) (a3 : Int32) (h : Hst) : Option (Int32 × Hst) :=
  (jb_X7_taken_32 a1 a2 a3 2 h)
def f_X7_taken (p0 : Int32) (p1 : Int32) (p2 : Int32) (h : Hst) : Option (Int32 × Hst) :=
  gb (f_X7_isTank p0 h) fun x2 h1 =>
  (if x2 = 0 then
    (jb_X7_taken_32 p0 p1 p2 1 h1)
  else
    gb (f_X7_isOil p1 h1) fun x4 h3 =>
    (if x4 = 0 then
      (jb_X7_taken_31 p0 p1 p2 h3)
    else
      gb (f_X7_isVariety p2 h3) fun x6 h5 =>
      (if x6 = 0 then
        (jb_X7_taken_31 p0 p1 p2 h5)
      else
        (jb_X7_taken_32 p0 p1 p2 0 h5))))
set_option maxRecDepth 20000 in
theorem gjb_X7_taken_53 (γ : Gv)  (s0 : Int32) (h : Hst) : G γ RX7 cX7_taken 4 (some .int) [] vI 4 0 53 [] [.int s0] h (jb_X7_taken_53 s0 h) := by
  unfold jb_X7_taken_53
  exact g_ireturn (pc := 53) (ty := .int) dX7_taken_53 rfl rfl rfl
set_option maxRecDepth 20000 in
theorem gjb_X7_taken_32 (γ : Gv)  (a1 : Int32) (a2 : Int32) (a3 : Int32) (s0 : Int32) (h : Hst) : G γ RX7 cX7_taken 4 (some .int) [] vI 4 0 32 [(0, .ref (gad γ 17)), (1, .int a1), (2, .int a2), (3, .int a3)] [.int s0, .ref (gad γ 17)] h (jb_X7_taken_32 a1 a2 a3 s0 h) := by
  unfold jb_X7_taken_32
  refine pf_RX7_31_17 (pc := 32) dX7_taken_32 ?_
  refine g_nmh (fun h1 => ?_)
  refine g_aload_n (pc := 35) dX7_taken_35 rfl 0 rfl ?_
  refine gf_RX7_31_17 (pc := 36) dX7_taken_36 ?_
  refine g_if_le (pc := 39) (tgt := 46) dX7_taken_39 (by decide) ?_ ?_
  · refine g_aload_n (pc := 46) dX7_taken_46 rfl 0 rfl ?_
    refine g_iload_n (pc := 47) dX7_taken_47 rfl 1 rfl ?_
    refine g_iload_n (pc := 48) dX7_taken_48 rfl 2 rfl ?_
    refine g_iload_n (pc := 49) dX7_taken_49 rfl 3 rfl ?_
    refine g_cI (pc := 50) (st := []) (fun r hr => gRunV (As := [.int a1, .int a2, .int a3]) 17 (ge_X7_takenNow γ a1 a2 a3 h1) hr wv_RX7_241 rfl (Nat.le_of_ble_eq_true rfl) (gat_17 _ _) rfl rfl (Nat.le_of_ble_eq_true rfl) (Nat.le_of_ble_eq_true rfl) dX7_taken_50) (fun x3 h2 => ?_)
    exact g_sub [] rfl (gjb_X7_taken_53 γ x3 h2)
  · refine g_iconst (pc := 42) (v := 0) dX7_taken_42 (by decide) ?_
    refine g_goto (pc := 43) (tgt := 53) dX7_taken_43 (by decide) ?_
    exact g_sub [] rfl (gjb_X7_taken_53 γ 0 h1)
set_option maxRecDepth 20000 in
theorem gjb_X7_taken_31 (γ : Gv)  (a1 : Int32) (a2 : Int32) (a3 : Int32) (h : Hst) : G γ RX7 cX7_taken 4 (some .int) [] vI 4 0 31 [(0, .ref (gad γ 17)), (1, .int a1), (2, .int a2), (3, .int a3)] [.ref (gad γ 17)] h (jb_X7_taken_31 a1 a2 a3 h) := by
  unfold jb_X7_taken_31
  refine g_iconst (pc := 31) (v := 2) dX7_taken_31 (by decide) ?_
  exact gjb_X7_taken_32 γ a1 a2 a3 2 h
set_option maxRecDepth 20000 in
theorem ge_X7_taken (γ : Gv) (p0 : Int32) (p1 : Int32) (p2 : Int32) (h : Hst) : G γ RX7 cX7_taken 4 (some .int) [] vI 4 0 0 (lv_args 0 [.ref (gad γ 17), .int p0, .int p1, .int p2]) [] h (f_X7_taken p0 p1 p2 h) := by
  show G γ RX7 cX7_taken 4 (some .int) [] vI 4 0 0 [(0, .ref (gad γ 17)), (1, .int p0), (2, .int p1), (3, .int p2)] [] h (f_X7_taken p0 p1 p2 h)
  unfold f_X7_taken
  refine g_aload_n (pc := 0) dX7_taken_0 rfl 0 rfl ?_
  refine g_aload_n (pc := 1) dX7_taken_1 rfl 0 rfl ?_
  refine g_iload_n (pc := 2) dX7_taken_2 rfl 1 rfl ?_
  refine g_cI (pc := 3) (st := [.ref (gad γ 17)]) (fun r hr => gRunV (As := [.int p0]) 17 (ge_X7_isTank γ p0 h) hr wv_RX7_137 rfl (Nat.le_of_ble_eq_true rfl) (gat_17 _ _) rfl rfl (Nat.le_of_ble_eq_true rfl) (Nat.le_of_ble_eq_true rfl) dX7_taken_3) (fun x2 h1 => ?_)
  refine g_if_ne (pc := 6) (tgt := 13) dX7_taken_6 (by decide) ?_ ?_
  · refine g_iload_n (pc := 13) dX7_taken_13 rfl 2 rfl ?_
    refine g_cI (pc := 14) (st := [.ref (gad γ 17)]) (fun r hr => gRunS (As := [.int p1]) (ge_X7_isOil γ p1 h1) hr wv_RX7_161 rfl (Nat.le_of_ble_eq_true rfl) rfl (Nat.le_of_ble_eq_true rfl) (Nat.le_of_ble_eq_true rfl) dX7_taken_14) (fun x4 h3 => ?_)
    refine g_if_eq (pc := 17) (tgt := 31) dX7_taken_17 (by decide) ?_ ?_
    · exact gjb_X7_taken_31 γ p0 p1 p2 h3
    · refine g_iload_n (pc := 20) dX7_taken_20 rfl 3 rfl ?_
      refine g_cI (pc := 21) (st := [.ref (gad γ 17)]) (fun r hr => gRunS (As := [.int p2]) (ge_X7_isVariety γ p2 h3) hr wv_RX7_59 rfl (Nat.le_of_ble_eq_true rfl) rfl (Nat.le_of_ble_eq_true rfl) (Nat.le_of_ble_eq_true rfl) dX7_taken_21) (fun x6 h5 => ?_)
      refine g_if_eq (pc := 24) (tgt := 31) dX7_taken_24 (by decide) ?_ ?_
      · exact gjb_X7_taken_31 γ p0 p1 p2 h5
      · refine g_iconst (pc := 27) (v := 0) dX7_taken_27 (by decide) ?_
        refine g_goto (pc := 28) (tgt := 32) dX7_taken_28 (by decide) ?_
        exact gjb_X7_taken_32 γ p0 p1 p2 0 h5
  · refine g_iconst (pc := 9) (v := 1) dX7_taken_9 (by decide) ?_
    refine g_goto (pc := 10) (tgt := 32) dX7_taken_10 (by decide) ?_
    exact gjb_X7_taken_32 γ p0 p1 p2 1 h1
def lp_X7_oilBehind_25 (R5 : Int32 → Int32 → Int32 → Int32 → Hst → Option (Int32 × Hst)) : Nat → Int32 → Int32 → Int32 → Int32 → Int32 → Int32 → Hst → Option (Int32 × Hst)
  | 0, _, _, _, _, _, _, _ => none
  | n + 1, a1, a2, a3, a4, a5, a6, h =>
    (if a2 ≤ a6 then
      gl (a3 + a5) fun x1 =>
      (R5 a1 a2 x1 (a4 + 1) h)
    else
      gck 3 514 (gdz 1000 (gl (a5 - ((a5 * (h.1 18 (3 : Int32).toNatClampNeg)) / 1000)) fun x2 =>
      ((lp_X7_oilBehind_25 R5 n) a1 a2 a3 a4 x2 (a6 + 1) h))))
def lp_X7_oilBehind_5 : Nat → Int32 → Int32 → Int32 → Int32 → Hst → Option (Int32 × Hst)
  | 0, _, _, _, _, _ => none
  | n + 1, a1, a2, a3, a4, h =>
    (if 5 ≤ a4 then
      (some (a3, h))
    else
      gb (f_X7_ofTank a1 (2 + a4) h) fun x2 h1 =>
      (lp_X7_oilBehind_25 (lp_X7_oilBehind_5 n) FU a1 a2 a3 a4 x2 0 h1))
def f_X7_oilBehind (p0 : Int32) (p1 : Int32) (h : Hst) : Option (Int32 × Hst) :=
  (lp_X7_oilBehind_5 FU p0 p1 0 0 h)
set_option maxRecDepth 20000 in
theorem glp_X7_oilBehind_25 (γ : Gv) (R5 : Int32 → Int32 → Int32 → Int32 → Hst → Option (Int32 × Hst)) (hR5 : ∀ (a1 : Int32) (a2 : Int32) (a3 : Int32) (a4 : Int32) (h : Hst), G γ RX7 cX7_oilBehind 7 (some .int) [] vI 1 0 5 [(0, .ref (gad γ 17)), (1, .int a1), (2, .int a2), (3, .int a3), (4, .int a4)] [] h (R5 a1 a2 a3 a4 h)) : ∀ (n : Nat) (a1 : Int32) (a2 : Int32) (a3 : Int32) (a4 : Int32) (a5 : Int32) (a6 : Int32) (h : Hst), G γ RX7 cX7_oilBehind 7 (some .int) [] vI 1 0 25 [(0, .ref (gad γ 17)), (1, .int a1), (2, .int a2), (3, .int a3), (4, .int a4), (5, .int a5), (6, .int a6)] [] h (lp_X7_oilBehind_25 R5 n a1 a2 a3 a4 a5 a6 h) := by
  intro n
  induction n with
  | zero => intro a1 a2 a3 a4 a5 a6 h; exact g_none
  | succ n ih =>
    intro a1 a2 a3 a4 a5 a6 h
    rw [lp_X7_oilBehind_25]
    refine g_iload (pc := 25) dX7_oilBehind_25 6 rfl ?_
    refine g_iload_n (pc := 27) dX7_oilBehind_27 rfl 2 rfl ?_
    refine g_icmp_ge (pc := 28) (tgt := 55) dX7_oilBehind_28 (by decide) ?_ ?_
    · refine g_iload_n (pc := 55) dX7_oilBehind_55 rfl 3 rfl ?_
      refine g_iload (pc := 56) dX7_oilBehind_56 5 rfl ?_
      refine g_iadd (pc := 58) dX7_oilBehind_58 ?_
      refine g_nmi (fun x1 => ?_)
      refine g_istore_n (pc := 59) (lv' := [(3, .int x1), (0, .ref (gad γ 17)), (1, .int a1), (2, .int a2), (4, .int a4), (5, .int a5), (6, .int a6)]) dX7_oilBehind_59 rfl (by decide) rfl ?_
      refine g_iinc (pc := 60) (q := 4) (v := a4 + 1) (lv' := [(4, .int (a4 + 1)), (3, .int x1), (0, .ref (gad γ 17)), (1, .int a1), (2, .int a2), (5, .int a5), (6, .int a6)]) dX7_oilBehind_60 rfl rfl (by decide) rfl ?_
      refine g_goto (pc := 63) (tgt := 5) dX7_oilBehind_63 (by decide) ?_
      exact g_sub [2, 3, 4, 1, 0] rfl (hR5 a1 a2 x1 (a4 + 1) h)
    · refine g_iload (pc := 31) dX7_oilBehind_31 5 rfl ?_
      refine g_iload (pc := 33) dX7_oilBehind_33 5 rfl ?_
      refine g_aload_n (pc := 35) dX7_oilBehind_35 rfl 0 rfl ?_
      refine gf_RX7_7_17 (pc := 36) dX7_oilBehind_36 ?_
      refine g_iconst (pc := 39) (v := 3) dX7_oilBehind_39 (by decide) ?_
      refine g_iald (pc := 40) 18 (gat_18 _ _) dX7_oilBehind_40 ?_
      refine g_imul (pc := 41) dX7_oilBehind_41 ?_
      refine g_sipush (pc := 42) (v := 1000) dX7_oilBehind_42 (by decide) ?_
      refine g_idiv (pc := 45) dX7_oilBehind_45 ?_
      refine g_isub (pc := 46) dX7_oilBehind_46 ?_
      refine g_nmi (fun x2 => ?_)
      refine g_istore (pc := 47) (lv' := [(5, .int x2), (0, .ref (gad γ 17)), (1, .int a1), (2, .int a2), (3, .int a3), (4, .int a4), (6, .int a6)]) dX7_oilBehind_47 (by decide) rfl ?_
      refine g_iinc (pc := 49) (q := 6) (v := a6 + 1) (lv' := [(6, .int (a6 + 1)), (5, .int x2), (0, .ref (gad γ 17)), (1, .int a1), (2, .int a2), (3, .int a3), (4, .int a4)]) dX7_oilBehind_49 rfl rfl (by decide) rfl ?_
      refine g_goto (pc := 52) (tgt := 25) dX7_oilBehind_52 (by decide) ?_
      exact g_sub [2, 3, 4, 5, 6, 1, 0] rfl (ih a1 a2 a3 a4 x2 (a6 + 1) h)
set_option maxRecDepth 20000 in
theorem glp_X7_oilBehind_5 (γ : Gv)  : ∀ (n : Nat) (a1 : Int32) (a2 : Int32) (a3 : Int32) (a4 : Int32) (h : Hst), G γ RX7 cX7_oilBehind 7 (some .int) [] vI 1 0 5 [(0, .ref (gad γ 17)), (1, .int a1), (2, .int a2), (3, .int a3), (4, .int a4)] [] h (lp_X7_oilBehind_5 n a1 a2 a3 a4 h) := by
  intro n
  induction n with
  | zero => intro a1 a2 a3 a4 h; exact g_none
  | succ n ih =>
    intro a1 a2 a3 a4 h
    rw [lp_X7_oilBehind_5]
    refine g_iload (pc := 5) dX7_oilBehind_5 4 rfl ?_
    refine g_iconst (pc := 7) (v := 5) dX7_oilBehind_7 (by decide) ?_
    refine g_icmp_ge (pc := 8) (tgt := 66) dX7_oilBehind_8 (by decide) ?_ ?_
    · refine g_iload_n (pc := 66) dX7_oilBehind_66 rfl 3 rfl ?_
      exact g_ireturn (pc := 67) (ty := .int) dX7_oilBehind_67 rfl rfl rfl
    · refine g_aload_n (pc := 11) dX7_oilBehind_11 rfl 0 rfl ?_
      refine g_iload_n (pc := 12) dX7_oilBehind_12 rfl 1 rfl ?_
      refine g_iconst (pc := 13) (v := 2) dX7_oilBehind_13 (by decide) ?_
      refine g_iload (pc := 14) dX7_oilBehind_14 4 rfl ?_
      refine g_iadd (pc := 16) dX7_oilBehind_16 ?_
      refine g_cI (pc := 17) (st := []) (fun r hr => gRunV (As := [.int a1, .int (2 + a4)]) 17 (ge_X7_ofTank γ a1 (2 + a4) h) hr wv_RX7_42 rfl (Nat.le_of_ble_eq_true rfl) (gat_17 _ _) rfl rfl (Nat.le_of_ble_eq_true rfl) (Nat.le_of_ble_eq_true rfl) dX7_oilBehind_17) (fun x2 h1 => ?_)
      refine g_istore (pc := 20) (lv' := [(5, .int x2), (0, .ref (gad γ 17)), (1, .int a1), (2, .int a2), (3, .int a3), (4, .int a4)]) dX7_oilBehind_20 (by decide) rfl ?_
      refine g_iconst (pc := 22) (v := 0) dX7_oilBehind_22 (by decide) ?_
      refine g_istore (pc := 23) (lv' := [(6, .int 0), (5, .int x2), (0, .ref (gad γ 17)), (1, .int a1), (2, .int a2), (3, .int a3), (4, .int a4)]) dX7_oilBehind_23 (by decide) rfl ?_
      exact g_sub [2, 3, 4, 5, 6, 1, 0] rfl (glp_X7_oilBehind_25 γ (lp_X7_oilBehind_5 n) ih FU a1 a2 a3 a4 x2 0 h1)
set_option maxRecDepth 20000 in
theorem ge_X7_oilBehind (γ : Gv) (p0 : Int32) (p1 : Int32) (h : Hst) : G γ RX7 cX7_oilBehind 7 (some .int) [] vI 1 0 0 (lv_args 0 [.ref (gad γ 17), .int p0, .int p1]) [] h (f_X7_oilBehind p0 p1 h) := by
  show G γ RX7 cX7_oilBehind 7 (some .int) [] vI 1 0 0 [(0, .ref (gad γ 17)), (1, .int p0), (2, .int p1)] [] h (f_X7_oilBehind p0 p1 h)
  unfold f_X7_oilBehind
  refine g_iconst (pc := 0) (v := 0) dX7_oilBehind_0 (by decide) ?_
  refine g_istore_n (pc := 1) (lv' := [(3, .int 0), (0, .ref (gad γ 17)), (1, .int p0), (2, .int p1)]) dX7_oilBehind_1 rfl (by decide) rfl ?_
  refine g_iconst (pc := 2) (v := 0) dX7_oilBehind_2 (by decide) ?_
  refine g_istore (pc := 3) (lv' := [(4, .int 0), (3, .int 0), (0, .ref (gad γ 17)), (1, .int p0), (2, .int p1)]) dX7_oilBehind_3 (by decide) rfl ?_
  exact g_sub [2, 3, 4, 1, 0] rfl (glp_X7_oilBehind_5 γ FU p0 p1 0 0 h)
def jb_X7_oilIn_49  (s0 : Int32) (h : Hst) : Option (Int32 × Hst) :=
  (some (s0, h))
def jb_X7_oilIn_29  (a1 : Int32) (a2 : Int32) (s0 : Int32) (h : Hst) : Option (Int32 × Hst) :=
  gl (hst h 17 5 s0) fun h1 =>
  (if (h1.1 17 5) ≤ 0 then
    gb (f_X7_oilBehind a1 a2 h1) fun x3 h2 =>
    (jb_X7_oilIn_49 x3 h2)
  else
    (jb_X7_oilIn_49 0 h1))
def f_X7_oilIn (p0 : Int32) (p1 : Int32) (h : Hst) : Option (Int32 × Hst) :=
  gb (f_X7_isTank p0 h) fun x2 h1 =>
  (if x2 = 0 then
    (jb_X7_oilIn_29 p0 p1 1 h1)
  else
    gb (f_X7_within p1 0 200 h1) fun x4 h3 =>
    (if x4 = 0 then
      (jb_X7_oilIn_29 p0 p1 2 h3)
    else
      (jb_X7_oilIn_29 p0 p1 0 h3)))
set_option maxRecDepth 20000 in
theorem gjb_X7_oilIn_49 (γ : Gv)  (s0 : Int32) (h : Hst) : G γ RX7 cX7_oilIn 3 (some .int) [] vI 2 0 49 [] [.int s0] h (jb_X7_oilIn_49 s0 h) := by
  unfold jb_X7_oilIn_49
  exact g_ireturn (pc := 49) (ty := .int) dX7_oilIn_49 rfl rfl rfl
set_option maxRecDepth 20000 in
theorem gjb_X7_oilIn_29 (γ : Gv)  (a1 : Int32) (a2 : Int32) (s0 : Int32) (h : Hst) : G γ RX7 cX7_oilIn 3 (some .int) [] vI 2 0 29 [(0, .ref (gad γ 17)), (1, .int a1), (2, .int a2)] [.int s0, .ref (gad γ 17)] h (jb_X7_oilIn_29 a1 a2 s0 h) := by
  unfold jb_X7_oilIn_29
  refine pf_RX7_31_17 (pc := 29) dX7_oilIn_29 ?_
  refine g_nmh (fun h1 => ?_)
  refine g_aload_n (pc := 32) dX7_oilIn_32 rfl 0 rfl ?_
  refine gf_RX7_31_17 (pc := 33) dX7_oilIn_33 ?_
  refine g_if_le (pc := 36) (tgt := 43) dX7_oilIn_36 (by decide) ?_ ?_
  · refine g_aload_n (pc := 43) dX7_oilIn_43 rfl 0 rfl ?_
    refine g_iload_n (pc := 44) dX7_oilIn_44 rfl 1 rfl ?_
    refine g_iload_n (pc := 45) dX7_oilIn_45 rfl 2 rfl ?_
    refine g_cI (pc := 46) (st := []) (fun r hr => gRunV (As := [.int a1, .int a2]) 17 (ge_X7_oilBehind γ a1 a2 h1) hr wv_RX7_245 rfl (Nat.le_of_ble_eq_true rfl) (gat_17 _ _) rfl rfl (Nat.le_of_ble_eq_true rfl) (Nat.le_of_ble_eq_true rfl) dX7_oilIn_46) (fun x3 h2 => ?_)
    exact g_sub [] rfl (gjb_X7_oilIn_49 γ x3 h2)
  · refine g_iconst (pc := 39) (v := 0) dX7_oilIn_39 (by decide) ?_
    refine g_goto (pc := 40) (tgt := 49) dX7_oilIn_40 (by decide) ?_
    exact g_sub [] rfl (gjb_X7_oilIn_49 γ 0 h1)
set_option maxRecDepth 20000 in
theorem ge_X7_oilIn (γ : Gv) (p0 : Int32) (p1 : Int32) (h : Hst) : G γ RX7 cX7_oilIn 3 (some .int) [] vI 2 0 0 (lv_args 0 [.ref (gad γ 17), .int p0, .int p1]) [] h (f_X7_oilIn p0 p1 h) := by
  show G γ RX7 cX7_oilIn 3 (some .int) [] vI 2 0 0 [(0, .ref (gad γ 17)), (1, .int p0), (2, .int p1)] [] h (f_X7_oilIn p0 p1 h)
  unfold f_X7_oilIn
  refine g_aload_n (pc := 0) dX7_oilIn_0 rfl 0 rfl ?_
  refine g_aload_n (pc := 1) dX7_oilIn_1 rfl 0 rfl ?_
  refine g_iload_n (pc := 2) dX7_oilIn_2 rfl 1 rfl ?_
  refine g_cI (pc := 3) (st := [.ref (gad γ 17)]) (fun r hr => gRunV (As := [.int p0]) 17 (ge_X7_isTank γ p0 h) hr wv_RX7_137 rfl (Nat.le_of_ble_eq_true rfl) (gat_17 _ _) rfl rfl (Nat.le_of_ble_eq_true rfl) (Nat.le_of_ble_eq_true rfl) dX7_oilIn_3) (fun x2 h1 => ?_)
  refine g_if_ne (pc := 6) (tgt := 13) dX7_oilIn_6 (by decide) ?_ ?_
  · refine g_iload_n (pc := 13) dX7_oilIn_13 rfl 2 rfl ?_
    refine g_iconst (pc := 14) (v := 0) dX7_oilIn_14 (by decide) ?_
    refine g_sipush (pc := 15) (v := 200) dX7_oilIn_15 (by decide) ?_
    refine g_cI (pc := 18) (st := [.ref (gad γ 17)]) (fun r hr => gRunS (As := [.int p1, .int 0, .int 200]) (ge_X7_within γ p1 0 200 h1) hr wv_RX7_38 rfl (Nat.le_of_ble_eq_true rfl) rfl (Nat.le_of_ble_eq_true rfl) (Nat.le_of_ble_eq_true rfl) dX7_oilIn_18) (fun x4 h3 => ?_)
    refine g_if_eq (pc := 21) (tgt := 28) dX7_oilIn_21 (by decide) ?_ ?_
    · refine g_iconst (pc := 28) (v := 2) dX7_oilIn_28 (by decide) ?_
      exact gjb_X7_oilIn_29 γ p0 p1 2 h3
    · refine g_iconst (pc := 24) (v := 0) dX7_oilIn_24 (by decide) ?_
      refine g_goto (pc := 25) (tgt := 29) dX7_oilIn_25 (by decide) ?_
      exact gjb_X7_oilIn_29 γ p0 p1 0 h3
  · refine g_iconst (pc := 9) (v := 1) dX7_oilIn_9 (by decide) ?_
    refine g_goto (pc := 10) (tgt := 29) dX7_oilIn_10 (by decide) ?_
    exact gjb_X7_oilIn_29 γ p0 p1 1 h1
def jb_X7_lossNow_52 (R6 : Int32 → Int32 → Hst → Option (Int32 × Hst)) (a1 : Int32) (a2 : Int32) (s0 : Int32) (h : Hst) : Option (Int32 × Hst) :=
  gl (hst h 17 7 s0) fun h1 =>
  gl (hst h1 17 8 (h1.1 17 15)) fun h2 =>
  (R6 a1 a2 h2)
def lp_X7_lossNow_6 : Nat → Int32 → Int32 → Hst → Option (Int32 × Hst)
  | 0, _, _, _ => none
  | n + 1, a1, a2, h =>
    gb (f_X7_layNext a1 h) fun x2 h1 =>
    (if x2 = 0 then
      (some (a2, h1))
    else
      gl (a2 + (h1.1 17 12)) fun x3 =>
      gck (h1.1 17 9) 40 (gl (hst h1 21 (h1.1 17 9).toNatClampNeg 0) fun h4 =>
      (if (h4.1 17 15) = 0 then
        (jb_X7_lossNow_52 (lp_X7_lossNow_6 n) a1 x3 (-1) h4)
      else
        gb (f_X7_ofLot (h4.1 17 9) 1 h4) fun x6 h5 =>
        (jb_X7_lossNow_52 (lp_X7_lossNow_6 n) a1 x3 x6 h5))))
def f_X7_lossNow (p0 : Int32) (h : Hst) : Option (Int32 × Hst) :=
  gbv (f_X7_layMill h) fun h1 =>
  (lp_X7_lossNow_6 FU p0 0 h1)
set_option maxRecDepth 20000 in
theorem gjb_X7_lossNow_52 (γ : Gv) (R6 : Int32 → Int32 → Hst → Option (Int32 × Hst)) (hR6 : ∀ (a1 : Int32) (a2 : Int32) (h : Hst), G γ RX7 cX7_lossNow 3 (some .int) [] vI 3 0 6 [(0, .ref (gad γ 17)), (1, .int a1), (2, .int a2)] [] h (R6 a1 a2 h)) (a1 : Int32) (a2 : Int32) (s0 : Int32) (h : Hst) : G γ RX7 cX7_lossNow 3 (some .int) [] vI 3 0 52 [(0, .ref (gad γ 17)), (1, .int a1), (2, .int a2)] [.int s0, .ref (gad γ 17)] h (jb_X7_lossNow_52 R6 a1 a2 s0 h) := by
  unfold jb_X7_lossNow_52
  refine pf_RX7_84_17 (pc := 52) dX7_lossNow_52 ?_
  refine g_nmh (fun h1 => ?_)
  refine g_aload_n (pc := 55) dX7_lossNow_55 rfl 0 rfl ?_
  refine g_aload_n (pc := 56) dX7_lossNow_56 rfl 0 rfl ?_
  refine gf_RX7_111_17 (pc := 57) dX7_lossNow_57 ?_
  refine pf_RX7_87_17 (pc := 60) dX7_lossNow_60 ?_
  refine g_nmh (fun h2 => ?_)
  refine g_goto (pc := 63) (tgt := 6) dX7_lossNow_63 (by decide) ?_
  exact hR6 a1 a2 h2
set_option maxRecDepth 20000 in
theorem glp_X7_lossNow_6 (γ : Gv)  : ∀ (n : Nat) (a1 : Int32) (a2 : Int32) (h : Hst), G γ RX7 cX7_lossNow 3 (some .int) [] vI 3 0 6 [(0, .ref (gad γ 17)), (1, .int a1), (2, .int a2)] [] h (lp_X7_lossNow_6 n a1 a2 h) := by
  intro n
  induction n with
  | zero => intro a1 a2 h; exact g_none
  | succ n ih =>
    intro a1 a2 h
    rw [lp_X7_lossNow_6]
    refine g_aload_n (pc := 6) dX7_lossNow_6 rfl 0 rfl ?_
    refine g_iload_n (pc := 7) dX7_lossNow_7 rfl 1 rfl ?_
    refine g_cI (pc := 8) (st := []) (fun r hr => gRunV (As := [.int a1]) 17 (ge_X7_layNext γ a1 h) hr wv_RX7_120 rfl (Nat.le_of_ble_eq_true rfl) (gat_17 _ _) rfl rfl (Nat.le_of_ble_eq_true rfl) (Nat.le_of_ble_eq_true rfl) dX7_lossNow_8) (fun x2 h1 => ?_)
    refine g_if_eq (pc := 11) (tgt := 66) dX7_lossNow_11 (by decide) ?_ ?_
    · refine g_iload_n (pc := 66) dX7_lossNow_66 rfl 2 rfl ?_
      exact g_ireturn (pc := 67) (ty := .int) dX7_lossNow_67 rfl rfl rfl
    · refine g_iload_n (pc := 14) dX7_lossNow_14 rfl 2 rfl ?_
      refine g_aload_n (pc := 15) dX7_lossNow_15 rfl 0 rfl ?_
      refine gf_RX7_105_17 (pc := 16) dX7_lossNow_16 ?_
      refine g_iadd (pc := 19) dX7_lossNow_19 ?_
      refine g_nmi (fun x3 => ?_)
      refine g_istore_n (pc := 20) (lv' := [(2, .int x3), (0, .ref (gad γ 17)), (1, .int a1)]) dX7_lossNow_20 rfl (by decide) rfl ?_
      refine g_aload_n (pc := 21) dX7_lossNow_21 rfl 1 rfl ?_
      refine gf_RX7_19_17 (pc := 22) dX7_lossNow_22 ?_
      refine g_aload_n (pc := 25) dX7_lossNow_25 rfl 1 rfl ?_
      refine gf_RX7_93_17 (pc := 26) dX7_lossNow_26 ?_
      refine g_iconst (pc := 29) (v := 0) dX7_lossNow_29 (by decide) ?_
      refine g_iast (pc := 30) 21 (gat_21 _ _) (gset_21 _ _ _) dX7_lossNow_30 ?_
      refine g_nmh (fun h4 => ?_)
      refine g_aload_n (pc := 31) dX7_lossNow_31 rfl 1 rfl ?_
      refine g_aload_n (pc := 32) dX7_lossNow_32 rfl 1 rfl ?_
      refine gf_RX7_111_17 (pc := 33) dX7_lossNow_33 ?_
      refine g_if_ne (pc := 36) (tgt := 43) dX7_lossNow_36 (by decide) ?_ ?_
      · refine g_aload_n (pc := 43) dX7_lossNow_43 rfl 1 rfl ?_
        refine g_aload_n (pc := 44) dX7_lossNow_44 rfl 1 rfl ?_
        refine gf_RX7_93_17 (pc := 45) dX7_lossNow_45 ?_
        refine g_iconst (pc := 48) (v := 1) dX7_lossNow_48 (by decide) ?_
        refine g_cI (pc := 49) (st := [.ref (gad γ 17)]) (fun r hr => gRunV (As := [.int (h4.1 17 9), .int 1]) 17 (ge_X7_ofLot γ (h4.1 17 9) 1 h4) hr wv_RX7_50 rfl (Nat.le_of_ble_eq_true rfl) (gat_17 _ _) rfl rfl (Nat.le_of_ble_eq_true rfl) (Nat.le_of_ble_eq_true rfl) dX7_lossNow_49) (fun x6 h5 => ?_)
        exact g_sub [1, 2, 0] rfl (gjb_X7_lossNow_52 γ (lp_X7_lossNow_6 n) ih a1 x3 x6 h5)
      · refine g_iconst (pc := 39) (v := (-1)) dX7_lossNow_39 (by decide) ?_
        refine g_goto (pc := 40) (tgt := 52) dX7_lossNow_40 (by decide) ?_
        exact g_sub [1, 2, 0] rfl (gjb_X7_lossNow_52 γ (lp_X7_lossNow_6 n) ih a1 x3 (-1) h4)
set_option maxRecDepth 20000 in
theorem ge_X7_lossNow (γ : Gv) (p0 : Int32) (h : Hst) : G γ RX7 cX7_lossNow 3 (some .int) [] vI 3 0 0 (lv_args 0 [.ref (gad γ 17), .int p0]) [] h (f_X7_lossNow p0 h) := by
  show G γ RX7 cX7_lossNow 3 (some .int) [] vI 3 0 0 [(0, .ref (gad γ 17)), (1, .int p0)] [] h (f_X7_lossNow p0 h)
  unfold f_X7_lossNow
  refine g_aload_n (pc := 0) dX7_lossNow_0 rfl 0 rfl ?_
  refine g_cV (pc := 1) (st := []) (fun r hr => gRunV (As := []) 17 (ge_X7_layMill γ h) hr wv_RX7_117 rfl (Nat.le_of_ble_eq_true rfl) (gat_17 _ _) rfl rfl (Nat.le_of_ble_eq_true rfl) (Nat.le_of_ble_eq_true rfl) dX7_lossNow_1) (fun h1 => ?_)
  refine g_iconst (pc := 4) (v := 0) dX7_lossNow_4 (by decide) ?_
  refine g_istore_n (pc := 5) (lv' := [(2, .int 0), (0, .ref (gad γ 17)), (1, .int p0)]) dX7_lossNow_5 rfl (by decide) rfl ?_
  exact g_sub [1, 2, 0] rfl (glp_X7_lossNow_6 γ FU p0 0 h1)
def jb_X7_lossBy_34  (s0 : Int32) (h : Hst) : Option (Int32 × Hst) :=
  (some (s0, h))
def jb_X7_lossBy_15  (a1 : Int32) (s0 : Int32) (h : Hst) : Option (Int32 × Hst) :=
  gl (hst h 17 5 s0) fun h1 =>
  (if (h1.1 17 5) ≤ 0 then
    gb (f_X7_lossNow a1 h1) fun x3 h2 =>
    (jb_X7_lossBy_34 x3 h2)
  else
    (jb_X7_lossBy_34 0 h1))
def f_X7_lossBy (p0 : Int32) (h : Hst) : Option (Int32 × Hst) :=
  gb (f_X7_within p0 0 2 h) fun x2 h1 =>
  (if x2 = 0 then
    (jb_X7_lossBy_15 p0 1 h1)
  else
    (jb_X7_lossBy_15 p0 0 h1))
set_option maxRecDepth 20000 in
theorem gjb_X7_lossBy_34 (γ : Gv)  (s0 : Int32) (h : Hst) : G γ RX7 cX7_lossBy 2 (some .int) [] vI 4 0 34 [] [.int s0] h (jb_X7_lossBy_34 s0 h) := by
  unfold jb_X7_lossBy_34
  exact g_ireturn (pc := 34) (ty := .int) dX7_lossBy_34 rfl rfl rfl
set_option maxRecDepth 20000 in
theorem gjb_X7_lossBy_15 (γ : Gv)  (a1 : Int32) (s0 : Int32) (h : Hst) : G γ RX7 cX7_lossBy 2 (some .int) [] vI 4 0 15 [(0, .ref (gad γ 17)), (1, .int a1)] [.int s0, .ref (gad γ 17)] h (jb_X7_lossBy_15 a1 s0 h) := by
  unfold jb_X7_lossBy_15
  refine pf_RX7_31_17 (pc := 15) dX7_lossBy_15 ?_
  refine g_nmh (fun h1 => ?_)
  refine g_aload_n (pc := 18) dX7_lossBy_18 rfl 0 rfl ?_
  refine gf_RX7_31_17 (pc := 19) dX7_lossBy_19 ?_
  refine g_if_le (pc := 22) (tgt := 29) dX7_lossBy_22 (by decide) ?_ ?_
  · refine g_aload_n (pc := 29) dX7_lossBy_29 rfl 0 rfl ?_
    refine g_iload_n (pc := 30) dX7_lossBy_30 rfl 1 rfl ?_
    refine g_cI (pc := 31) (st := []) (fun r hr => gRunV (As := [.int a1]) 17 (ge_X7_lossNow γ a1 h1) hr wv_RX7_248 rfl (Nat.le_of_ble_eq_true rfl) (gat_17 _ _) rfl rfl (Nat.le_of_ble_eq_true rfl) (Nat.le_of_ble_eq_true rfl) dX7_lossBy_31) (fun x3 h2 => ?_)
    exact g_sub [] rfl (gjb_X7_lossBy_34 γ x3 h2)
  · refine g_iconst (pc := 25) (v := 0) dX7_lossBy_25 (by decide) ?_
    refine g_goto (pc := 26) (tgt := 34) dX7_lossBy_26 (by decide) ?_
    exact g_sub [] rfl (gjb_X7_lossBy_34 γ 0 h1)
set_option maxRecDepth 20000 in
theorem ge_X7_lossBy (γ : Gv) (p0 : Int32) (h : Hst) : G γ RX7 cX7_lossBy 2 (some .int) [] vI 4 0 0 (lv_args 0 [.ref (gad γ 17), .int p0]) [] h (f_X7_lossBy p0 h) := by
  show G γ RX7 cX7_lossBy 2 (some .int) [] vI 4 0 0 [(0, .ref (gad γ 17)), (1, .int p0)] [] h (f_X7_lossBy p0 h)
  unfold f_X7_lossBy
  refine g_aload_n (pc := 0) dX7_lossBy_0 rfl 0 rfl ?_
  refine g_iload_n (pc := 1) dX7_lossBy_1 rfl 1 rfl ?_
  refine g_iconst (pc := 2) (v := 0) dX7_lossBy_2 (by decide) ?_
  refine g_iconst (pc := 3) (v := 2) dX7_lossBy_3 (by decide) ?_
  refine g_cI (pc := 4) (st := [.ref (gad γ 17)]) (fun r hr => gRunS (As := [.int p0, .int 0, .int 2]) (ge_X7_within γ p0 0 2 h) hr wv_RX7_38 rfl (Nat.le_of_ble_eq_true rfl) rfl (Nat.le_of_ble_eq_true rfl) (Nat.le_of_ble_eq_true rfl) dX7_lossBy_4) (fun x2 h1 => ?_)
  refine g_if_eq (pc := 7) (tgt := 14) dX7_lossBy_7 (by decide) ?_ ?_
  · refine g_iconst (pc := 14) (v := 1) dX7_lossBy_14 (by decide) ?_
    exact gjb_X7_lossBy_15 γ p0 1 h1
  · refine g_iconst (pc := 10) (v := 0) dX7_lossBy_10 (by decide) ?_
    refine g_goto (pc := 11) (tgt := 15) dX7_lossBy_11 (by decide) ?_
    exact gjb_X7_lossBy_15 γ p0 0 h1
def jb_X7_tankForNext_104 (R6 : Int32 → Int32 → Int32 → Hst → Option (Int32 × Hst)) (a1 : Int32) (a3 : Int32) (s0 : Int32) (h : Hst) : Option (Int32 × Hst) :=
  (R6 a1 s0 (a3 + 1) h)
def jb_X7_tankForNext_92 (R6 : Int32 → Int32 → Int32 → Hst → Option (Int32 × Hst)) (a2 : Int32) (a3 : Int32) (a5 : Int32) (a6 : Int32) (s0 : Int32) (h : Hst) : Option (Int32 × Hst) :=
  (if a6 = 0 then
    (jb_X7_tankForNext_104 R6 s0 a3 a2 h)
  else
    (jb_X7_tankForNext_104 R6 s0 a3 a5 h))
def jb_X7_tankForNext_80 (R6 : Int32 → Int32 → Int32 → Hst → Option (Int32 × Hst)) (a1 : Int32) (a2 : Int32) (a3 : Int32) (a5 : Int32) (s0 : Int32) (h : Hst) : Option (Int32 × Hst) :=
  (if s0 = 0 then
    (jb_X7_tankForNext_92 R6 a2 a3 a5 s0 a1 h)
  else
    (jb_X7_tankForNext_92 R6 a2 a3 a5 s0 a3 h))
def jb_X7_tankForNext_79 (R6 : Int32 → Int32 → Int32 → Hst → Option (Int32 × Hst)) (a1 : Int32) (a2 : Int32) (a3 : Int32) (a5 : Int32) (h : Hst) : Option (Int32 × Hst) :=
  (jb_X7_tankForNext_80 R6 a1 a2 a3 a5 0 h)
def jb_X7_tankForNext_75 (R6 : Int32 → Int32 → Int32 → Hst → Option (Int32 × Hst)) (a1 : Int32) (a2 : Int32) (a3 : Int32) (a5 : Int32) (h : Hst) : Option (Int32 × Hst) :=
  (jb_X7_tankForNext_80 R6 a1 a2 a3 a5 1 h)
def jb_X7_tankForNext_57 (R6 : Int32 → Int32 → Int32 → Hst → Option (Int32 × Hst)) (a1 : Int32) (a2 : Int32) (a3 : Int32) (a4 : Int32) (s0 : Int32) (h : Hst) : Option (Int32 × Hst) :=
  (if a4 = 0 then
    (jb_X7_tankForNext_79 R6 a1 a2 a3 s0 h)
  else
    (if a1 = (-1) then
      (jb_X7_tankForNext_75 R6 a1 a2 a3 s0 h)
    else
      (if a2 ≤ s0 then
        (jb_X7_tankForNext_79 R6 a1 a2 a3 s0 h)
      else
        (jb_X7_tankForNext_75 R6 a1 a2 a3 s0 h))))
def jb_X7_tankForNext_31 (R6 : Int32 → Int32 → Int32 → Hst → Option (Int32 × Hst)) (a1 : Int32) (a2 : Int32) (a3 : Int32) (s0 : Int32) (h : Hst) : Option (Int32 × Hst) :=
  (if s0 = 0 then
    (jb_X7_tankForNext_57 R6 a1 a2 a3 s0 0 h)
  else
    gb (f_X7_roomIn a3 h) fun x2 h1 =>
    (jb_X7_tankForNext_57 R6 a1 a2 a3 s0 ((x2 - (h1.1 17 13)) - (h1.1 17 14)) h1))
def lp_X7_tankForNext_6 : Nat → Int32 → Int32 → Int32 → Hst → Option (Int32 × Hst)
  | 0, _, _, _, _ => none
  | n + 1, a1, a2, a3, h =>
    gck 9 514 ((if (h.1 18 (9 : Int32).toNatClampNeg) ≤ a3 then
      (some (a1, h))
    else
      gb (f_X7_reason a3 0 h) fun x2 h1 =>
      (if x2 = 0 then
        (jb_X7_tankForNext_31 (lp_X7_tankForNext_6 n) a1 a2 a3 1 h1)
      else
        (jb_X7_tankForNext_31 (lp_X7_tankForNext_6 n) a1 a2 a3 0 h1))))
def f_X7_tankForNext  (h : Hst) : Option (Int32 × Hst) :=
  (lp_X7_tankForNext_6 FU (-1) 0 0 h)
set_option maxRecDepth 20000 in
theorem gjb_X7_tankForNext_104 (γ : Gv) (R6 : Int32 → Int32 → Int32 → Hst → Option (Int32 × Hst)) (hR6 : ∀ (a1 : Int32) (a2 : Int32) (a3 : Int32) (h : Hst), G γ RX7 cX7_tankForNext 7 (some .int) [] vI 5 0 6 [(0, .ref (gad γ 17)), (1, .int a1), (2, .int a2), (3, .int a3)] [] h (R6 a1 a2 a3 h)) (a1 : Int32) (a3 : Int32) (s0 : Int32) (h : Hst) : G γ RX7 cX7_tankForNext 7 (some .int) [] vI 5 0 104 [(0, .ref (gad γ 17)), (1, .int a1), (3, .int a3)] [.int s0] h (jb_X7_tankForNext_104 R6 a1 a3 s0 h) := by
  unfold jb_X7_tankForNext_104
  refine g_istore_n (pc := 104) (lv' := [(2, .int s0), (0, .ref (gad γ 17)), (1, .int a1), (3, .int a3)]) dX7_tankForNext_104 rfl (by decide) rfl ?_
  refine g_iinc (pc := 105) (q := 3) (v := a3 + 1) (lv' := [(3, .int (a3 + 1)), (2, .int s0), (0, .ref (gad γ 17)), (1, .int a1)]) dX7_tankForNext_105 rfl rfl (by decide) rfl ?_
  refine g_goto (pc := 108) (tgt := 6) dX7_tankForNext_108 (by decide) ?_
  exact g_sub [2, 3, 1, 0] rfl (hR6 a1 s0 (a3 + 1) h)
set_option maxRecDepth 20000 in
theorem gjb_X7_tankForNext_92 (γ : Gv) (R6 : Int32 → Int32 → Int32 → Hst → Option (Int32 × Hst)) (hR6 : ∀ (a1 : Int32) (a2 : Int32) (a3 : Int32) (h : Hst), G γ RX7 cX7_tankForNext 7 (some .int) [] vI 5 0 6 [(0, .ref (gad γ 17)), (1, .int a1), (2, .int a2), (3, .int a3)] [] h (R6 a1 a2 a3 h)) (a2 : Int32) (a3 : Int32) (a5 : Int32) (a6 : Int32) (s0 : Int32) (h : Hst) : G γ RX7 cX7_tankForNext 7 (some .int) [] vI 5 0 92 [(0, .ref (gad γ 17)), (2, .int a2), (3, .int a3), (5, .int a5), (6, .int a6)] [.int s0] h (jb_X7_tankForNext_92 R6 a2 a3 a5 a6 s0 h) := by
  unfold jb_X7_tankForNext_92
  refine g_istore_n (pc := 92) (lv' := [(1, .int s0), (0, .ref (gad γ 17)), (2, .int a2), (3, .int a3), (5, .int a5), (6, .int a6)]) dX7_tankForNext_92 rfl (by decide) rfl ?_
  refine g_iload (pc := 93) dX7_tankForNext_93 5 rfl ?_
  refine g_if_eq (pc := 95) (tgt := 103) dX7_tankForNext_95 (by decide) ?_ ?_
  · refine g_iload_n (pc := 103) dX7_tankForNext_103 rfl 2 rfl ?_
    exact g_sub [1, 0, 3] rfl (gjb_X7_tankForNext_104 γ R6 hR6 s0 a3 a2 h)
  · refine g_iload (pc := 98) dX7_tankForNext_98 4 rfl ?_
    refine g_goto (pc := 100) (tgt := 104) dX7_tankForNext_100 (by decide) ?_
    exact g_sub [1, 0, 3] rfl (gjb_X7_tankForNext_104 γ R6 hR6 s0 a3 a5 h)
set_option maxRecDepth 20000 in
theorem gjb_X7_tankForNext_80 (γ : Gv) (R6 : Int32 → Int32 → Int32 → Hst → Option (Int32 × Hst)) (hR6 : ∀ (a1 : Int32) (a2 : Int32) (a3 : Int32) (h : Hst), G γ RX7 cX7_tankForNext 7 (some .int) [] vI 5 0 6 [(0, .ref (gad γ 17)), (1, .int a1), (2, .int a2), (3, .int a3)] [] h (R6 a1 a2 a3 h)) (a1 : Int32) (a2 : Int32) (a3 : Int32) (a5 : Int32) (s0 : Int32) (h : Hst) : G γ RX7 cX7_tankForNext 7 (some .int) [] vI 5 0 80 [(0, .ref (gad γ 17)), (1, .int a1), (2, .int a2), (3, .int a3), (5, .int a5)] [.int s0] h (jb_X7_tankForNext_80 R6 a1 a2 a3 a5 s0 h) := by
  unfold jb_X7_tankForNext_80
  refine g_istore (pc := 80) (lv' := [(6, .int s0), (0, .ref (gad γ 17)), (1, .int a1), (2, .int a2), (3, .int a3), (5, .int a5)]) dX7_tankForNext_80 (by decide) rfl ?_
  refine g_iload (pc := 82) dX7_tankForNext_82 0 rfl ?_
  refine g_if_eq (pc := 84) (tgt := 91) dX7_tankForNext_84 (by decide) ?_ ?_
  · refine g_iload_n (pc := 91) dX7_tankForNext_91 rfl 2 rfl ?_
    exact g_sub [1, 3, 4, 5, 0] rfl (gjb_X7_tankForNext_92 γ R6 hR6 a2 a3 a5 s0 a1 h)
  · refine g_iload_n (pc := 87) dX7_tankForNext_87 rfl 4 rfl ?_
    refine g_goto (pc := 88) (tgt := 92) dX7_tankForNext_88 (by decide) ?_
    exact g_sub [1, 3, 4, 5, 0] rfl (gjb_X7_tankForNext_92 γ R6 hR6 a2 a3 a5 s0 a3 h)
set_option maxRecDepth 20000 in
theorem gjb_X7_tankForNext_79 (γ : Gv) (R6 : Int32 → Int32 → Int32 → Hst → Option (Int32 × Hst)) (hR6 : ∀ (a1 : Int32) (a2 : Int32) (a3 : Int32) (h : Hst), G γ RX7 cX7_tankForNext 7 (some .int) [] vI 5 0 6 [(0, .ref (gad γ 17)), (1, .int a1), (2, .int a2), (3, .int a3)] [] h (R6 a1 a2 a3 h)) (a1 : Int32) (a2 : Int32) (a3 : Int32) (a5 : Int32) (h : Hst) : G γ RX7 cX7_tankForNext 7 (some .int) [] vI 5 0 79 [(0, .ref (gad γ 17)), (1, .int a1), (2, .int a2), (3, .int a3), (5, .int a5)] [] h (jb_X7_tankForNext_79 R6 a1 a2 a3 a5 h) := by
  unfold jb_X7_tankForNext_79
  refine g_iconst (pc := 79) (v := 0) dX7_tankForNext_79 (by decide) ?_
  exact gjb_X7_tankForNext_80 γ R6 hR6 a1 a2 a3 a5 0 h
set_option maxRecDepth 20000 in
theorem gjb_X7_tankForNext_75 (γ : Gv) (R6 : Int32 → Int32 → Int32 → Hst → Option (Int32 × Hst)) (hR6 : ∀ (a1 : Int32) (a2 : Int32) (a3 : Int32) (h : Hst), G γ RX7 cX7_tankForNext 7 (some .int) [] vI 5 0 6 [(0, .ref (gad γ 17)), (1, .int a1), (2, .int a2), (3, .int a3)] [] h (R6 a1 a2 a3 h)) (a1 : Int32) (a2 : Int32) (a3 : Int32) (a5 : Int32) (h : Hst) : G γ RX7 cX7_tankForNext 7 (some .int) [] vI 5 0 75 [(0, .ref (gad γ 17)), (1, .int a1), (2, .int a2), (3, .int a3), (5, .int a5)] [] h (jb_X7_tankForNext_75 R6 a1 a2 a3 a5 h) := by
  unfold jb_X7_tankForNext_75
  refine g_iconst (pc := 75) (v := 1) dX7_tankForNext_75 (by decide) ?_
  refine g_goto (pc := 76) (tgt := 80) dX7_tankForNext_76 (by decide) ?_
  exact gjb_X7_tankForNext_80 γ R6 hR6 a1 a2 a3 a5 1 h
set_option maxRecDepth 20000 in
theorem gjb_X7_tankForNext_57 (γ : Gv) (R6 : Int32 → Int32 → Int32 → Hst → Option (Int32 × Hst)) (hR6 : ∀ (a1 : Int32) (a2 : Int32) (a3 : Int32) (h : Hst), G γ RX7 cX7_tankForNext 7 (some .int) [] vI 5 0 6 [(0, .ref (gad γ 17)), (1, .int a1), (2, .int a2), (3, .int a3)] [] h (R6 a1 a2 a3 h)) (a1 : Int32) (a2 : Int32) (a3 : Int32) (a4 : Int32) (s0 : Int32) (h : Hst) : G γ RX7 cX7_tankForNext 7 (some .int) [] vI 5 0 57 [(0, .ref (gad γ 17)), (1, .int a1), (2, .int a2), (3, .int a3), (4, .int a4)] [.int s0] h (jb_X7_tankForNext_57 R6 a1 a2 a3 a4 s0 h) := by
  unfold jb_X7_tankForNext_57
  refine g_istore (pc := 57) (lv' := [(5, .int s0), (0, .ref (gad γ 17)), (1, .int a1), (2, .int a2), (3, .int a3), (4, .int a4)]) dX7_tankForNext_57 (by decide) rfl ?_
  refine g_iload (pc := 59) dX7_tankForNext_59 5 rfl ?_
  refine g_if_eq (pc := 61) (tgt := 79) dX7_tankForNext_61 (by decide) ?_ ?_
  · exact g_sub [1, 2, 3, 4, 0] rfl (gjb_X7_tankForNext_79 γ R6 hR6 a1 a2 a3 s0 h)
  · refine g_iload_n (pc := 64) dX7_tankForNext_64 rfl 2 rfl ?_
    refine g_iconst (pc := 65) (v := (-1)) dX7_tankForNext_65 (by decide) ?_
    refine g_icmp_eq (pc := 66) (tgt := 75) dX7_tankForNext_66 (by decide) ?_ ?_
    · exact g_sub [1, 2, 3, 4, 0] rfl (gjb_X7_tankForNext_75 γ R6 hR6 a1 a2 a3 s0 h)
    · refine g_iload (pc := 69) dX7_tankForNext_69 0 rfl ?_
      refine g_iload_n (pc := 71) dX7_tankForNext_71 rfl 3 rfl ?_
      refine g_icmp_ge (pc := 72) (tgt := 79) dX7_tankForNext_72 (by decide) ?_ ?_
      · exact g_sub [1, 2, 3, 4, 0] rfl (gjb_X7_tankForNext_79 γ R6 hR6 a1 a2 a3 s0 h)
      · exact g_sub [1, 2, 3, 4, 0] rfl (gjb_X7_tankForNext_75 γ R6 hR6 a1 a2 a3 s0 h)
set_option maxRecDepth 20000 in
theorem gjb_X7_tankForNext_31 (γ : Gv) (R6 : Int32 → Int32 → Int32 → Hst → Option (Int32 × Hst)) (hR6 : ∀ (a1 : Int32) (a2 : Int32) (a3 : Int32) (h : Hst), G γ RX7 cX7_tankForNext 7 (some .int) [] vI 5 0 6 [(0, .ref (gad γ 17)), (1, .int a1), (2, .int a2), (3, .int a3)] [] h (R6 a1 a2 a3 h)) (a1 : Int32) (a2 : Int32) (a3 : Int32) (s0 : Int32) (h : Hst) : G γ RX7 cX7_tankForNext 7 (some .int) [] vI 5 0 31 [(0, .ref (gad γ 17)), (1, .int a1), (2, .int a2), (3, .int a3)] [.int s0] h (jb_X7_tankForNext_31 R6 a1 a2 a3 s0 h) := by
  unfold jb_X7_tankForNext_31
  refine g_istore (pc := 31) (lv' := [(4, .int s0), (0, .ref (gad γ 17)), (1, .int a1), (2, .int a2), (3, .int a3)]) dX7_tankForNext_31 (by decide) rfl ?_
  refine g_iload (pc := 33) dX7_tankForNext_33 0 rfl ?_
  refine g_if_eq (pc := 35) (tgt := 56) dX7_tankForNext_35 (by decide) ?_ ?_
  · refine g_iconst (pc := 56) (v := 0) dX7_tankForNext_56 (by decide) ?_
    exact g_sub [1, 2, 3, 4, 0] rfl (gjb_X7_tankForNext_57 γ R6 hR6 a1 a2 a3 s0 0 h)
  · refine g_aload_n (pc := 38) dX7_tankForNext_38 rfl 1 rfl ?_
    refine g_iload_n (pc := 39) dX7_tankForNext_39 rfl 4 rfl ?_
    refine g_cI (pc := 40) (st := []) (fun r hr => gRunV (As := [.int a3]) 17 (ge_X7_roomIn γ a3 h) hr wv_RX7_127 rfl (Nat.le_of_ble_eq_true rfl) (gat_17 _ _) rfl rfl (Nat.le_of_ble_eq_true rfl) (Nat.le_of_ble_eq_true rfl) dX7_tankForNext_40) (fun x2 h1 => ?_)
    refine g_aload_n (pc := 43) dX7_tankForNext_43 rfl 1 rfl ?_
    refine gf_RX7_108_17 (pc := 44) dX7_tankForNext_44 ?_
    refine g_isub (pc := 47) dX7_tankForNext_47 ?_
    refine g_aload_n (pc := 48) dX7_tankForNext_48 rfl 1 rfl ?_
    refine gf_RX7_114_17 (pc := 49) dX7_tankForNext_49 ?_
    refine g_isub (pc := 52) dX7_tankForNext_52 ?_
    refine g_goto (pc := 53) (tgt := 57) dX7_tankForNext_53 (by decide) ?_
    exact g_sub [1, 2, 3, 4, 0] rfl (gjb_X7_tankForNext_57 γ R6 hR6 a1 a2 a3 s0 ((x2 - (h1.1 17 13)) - (h1.1 17 14)) h1)
set_option maxRecDepth 20000 in
theorem glp_X7_tankForNext_6 (γ : Gv)  : ∀ (n : Nat) (a1 : Int32) (a2 : Int32) (a3 : Int32) (h : Hst), G γ RX7 cX7_tankForNext 7 (some .int) [] vI 5 0 6 [(0, .ref (gad γ 17)), (1, .int a1), (2, .int a2), (3, .int a3)] [] h (lp_X7_tankForNext_6 n a1 a2 a3 h) := by
  intro n
  induction n with
  | zero => intro a1 a2 a3 h; exact g_none
  | succ n ih =>
    intro a1 a2 a3 h
    rw [lp_X7_tankForNext_6]
    refine g_iload_n (pc := 6) dX7_tankForNext_6 rfl 3 rfl ?_
    refine g_aload_n (pc := 7) dX7_tankForNext_7 rfl 0 rfl ?_
    refine gf_RX7_7_17 (pc := 8) dX7_tankForNext_8 ?_
    refine g_bipush (pc := 11) (v := 9) dX7_tankForNext_11 (by decide) ?_
    refine g_iald (pc := 13) 18 (gat_18 _ _) dX7_tankForNext_13 ?_
    refine g_icmp_ge (pc := 14) (tgt := 111) dX7_tankForNext_14 (by decide) ?_ ?_
    · refine g_iload_n (pc := 111) dX7_tankForNext_111 rfl 1 rfl ?_
      exact g_ireturn (pc := 112) (ty := .int) dX7_tankForNext_112 rfl rfl rfl
    · refine g_aload_n (pc := 17) dX7_tankForNext_17 rfl 0 rfl ?_
      refine g_iload_n (pc := 18) dX7_tankForNext_18 rfl 3 rfl ?_
      refine g_iconst (pc := 19) (v := 0) dX7_tankForNext_19 (by decide) ?_
      refine g_cI (pc := 20) (st := []) (fun r hr => gRunV (As := [.int a3, .int 0]) 17 (ge_X7_reason γ a3 0 h) hr wv_RX7_140 rfl (Nat.le_of_ble_eq_true rfl) (gat_17 _ _) rfl rfl (Nat.le_of_ble_eq_true rfl) (Nat.le_of_ble_eq_true rfl) dX7_tankForNext_20) (fun x2 h1 => ?_)
      refine g_if_ne (pc := 23) (tgt := 30) dX7_tankForNext_23 (by decide) ?_ ?_
      · refine g_iconst (pc := 30) (v := 0) dX7_tankForNext_30 (by decide) ?_
        exact gjb_X7_tankForNext_31 γ (lp_X7_tankForNext_6 n) ih a1 a2 a3 0 h1
      · refine g_iconst (pc := 26) (v := 1) dX7_tankForNext_26 (by decide) ?_
        refine g_goto (pc := 27) (tgt := 31) dX7_tankForNext_27 (by decide) ?_
        exact gjb_X7_tankForNext_31 γ (lp_X7_tankForNext_6 n) ih a1 a2 a3 1 h1
set_option maxRecDepth 20000 in
theorem ge_X7_tankForNext (γ : Gv)  (h : Hst) : G γ RX7 cX7_tankForNext 7 (some .int) [] vI 5 0 0 (lv_args 0 [.ref (gad γ 17)]) [] h (f_X7_tankForNext h) := by
  show G γ RX7 cX7_tankForNext 7 (some .int) [] vI 5 0 0 [(0, .ref (gad γ 17))] [] h (f_X7_tankForNext h)
  unfold f_X7_tankForNext
  refine g_iconst (pc := 0) (v := (-1)) dX7_tankForNext_0 (by decide) ?_
  refine g_istore_n (pc := 1) (lv' := [(1, .int (-1)), (0, .ref (gad γ 17))]) dX7_tankForNext_1 rfl (by decide) rfl ?_
  refine g_iconst (pc := 2) (v := 0) dX7_tankForNext_2 (by decide) ?_
  refine g_istore_n (pc := 3) (lv' := [(2, .int 0), (1, .int (-1)), (0, .ref (gad γ 17))]) dX7_tankForNext_3 rfl (by decide) rfl ?_
  refine g_iconst (pc := 4) (v := 0) dX7_tankForNext_4 (by decide) ?_
  refine g_istore_n (pc := 5) (lv' := [(3, .int 0), (2, .int 0), (1, .int (-1)), (0, .ref (gad γ 17))]) dX7_tankForNext_5 rfl (by decide) rfl ?_
  exact g_sub [3, 2, 1, 0] rfl (glp_X7_tankForNext_6 γ FU (-1) 0 0 h)
def f_X7_bestTank  (h : Hst) : Option (Int32 × Hst) :=
  gl (hst h 17 5 0) fun h1 =>
  gb (f_X7_tankForNext h1) fun x3 h2 =>
  (some (x3, h2))
set_option maxRecDepth 20000 in
theorem ge_X7_bestTank (γ : Gv)  (h : Hst) : G γ RX7 cX7_bestTank 1 (some .int) [] vI 6 0 0 (lv_args 0 [.ref (gad γ 17)]) [] h (f_X7_bestTank h) := by
  show G γ RX7 cX7_bestTank 1 (some .int) [] vI 6 0 0 [(0, .ref (gad γ 17))] [] h (f_X7_bestTank h)
  unfold f_X7_bestTank
  refine g_aload_n (pc := 0) dX7_bestTank_0 rfl 0 rfl ?_
  refine g_iconst (pc := 1) (v := 0) dX7_bestTank_1 (by decide) ?_
  refine pf_RX7_31_17 (pc := 2) dX7_bestTank_2 ?_
  refine g_nmh (fun h1 => ?_)
  refine g_aload_n (pc := 5) dX7_bestTank_5 rfl 0 rfl ?_
  refine g_cI (pc := 6) (st := []) (fun r hr => gRunV (As := []) 17 (ge_X7_tankForNext γ h1) hr wv_RX7_251 rfl (Nat.le_of_ble_eq_true rfl) (gat_17 _ _) rfl rfl (Nat.le_of_ble_eq_true rfl) (Nat.le_of_ble_eq_true rfl) dX7_bestTank_6) (fun x3 h2 => ?_)
  exact g_ireturn (pc := 9) (ty := .int) dX7_bestTank_9 rfl rfl rfl
def jb_X7_share_23  (s0 : UInt64) (h : Hst) : Option (UInt64 × Hst) :=
  (some (s0, h))
def f_X7_share  (h : Hst) : Option (UInt64 × Hst) :=
  gb (f_X7_sumOil 0 h) fun x2 h1 =>
  (if x2 = 0 then
    (jb_X7_share_23 (FP.dconst0) h1)
  else
    gb (f_X7_sumOil 1 h1) fun x4 h3 =>
    gnn (FP.ddiv (FP.i2d x4) (FP.i2d x2)) ((jb_X7_share_23 (FP.ddiv (FP.i2d x4) (FP.i2d x2)) h3)))
set_option maxRecDepth 20000 in
theorem gjb_X7_share_23 (γ : Gv)  (s0 : UInt64) (h : Hst) : G γ RX7 cX7_share 2 (some .double) [] vD 4 0 23 [] [.double s0] h (jb_X7_share_23 s0 h) := by
  unfold jb_X7_share_23
  exact g_dreturn (pc := 23) dX7_share_23 rfl rfl
set_option maxRecDepth 20000 in
theorem ge_X7_share (γ : Gv)  (h : Hst) : G γ RX7 cX7_share 2 (some .double) [] vD 4 0 0 (lv_args 0 [.ref (gad γ 17)]) [] h (f_X7_share h) := by
  show G γ RX7 cX7_share 2 (some .double) [] vD 4 0 0 [(0, .ref (gad γ 17))] [] h (f_X7_share h)
  unfold f_X7_share
  refine g_aload_n (pc := 0) dX7_share_0 rfl 0 rfl ?_
  refine g_iconst (pc := 1) (v := 0) dX7_share_1 (by decide) ?_
  refine g_cI (pc := 2) (st := []) (fun r hr => gRunV (As := [.int 0]) 17 (ge_X7_sumOil γ 0 h) hr wv_RX7_228 rfl (Nat.le_of_ble_eq_true rfl) (gat_17 _ _) rfl rfl (Nat.le_of_ble_eq_true rfl) (Nat.le_of_ble_eq_true rfl) dX7_share_2) (fun x2 h1 => ?_)
  refine g_istore_n (pc := 5) (lv' := [(1, .int x2), (0, .ref (gad γ 17))]) dX7_share_5 rfl (by decide) rfl ?_
  refine g_iload_n (pc := 6) dX7_share_6 rfl 0 rfl ?_
  refine g_if_ne (pc := 7) (tgt := 14) dX7_share_7 (by decide) ?_ ?_
  · refine g_aload_n (pc := 14) dX7_share_14 rfl 1 rfl ?_
    refine g_iconst (pc := 15) (v := 1) dX7_share_15 (by decide) ?_
    refine g_cI (pc := 16) (st := []) (fun r hr => gRunV (As := [.int 1]) 17 (ge_X7_sumOil γ 1 h1) hr wv_RX7_228 rfl (Nat.le_of_ble_eq_true rfl) (gat_17 _ _) rfl rfl (Nat.le_of_ble_eq_true rfl) (Nat.le_of_ble_eq_true rfl) dX7_share_16) (fun x4 h3 => ?_)
    refine g_i2d (pc := 19) dX7_share_19 ?_
    refine g_iload_n (pc := 20) dX7_share_20 rfl 0 rfl ?_
    refine g_i2d (pc := 21) dX7_share_21 ?_
    refine g_ddiv (pc := 22) dX7_share_22 ?_
    exact g_sub [] rfl (gjb_X7_share_23 γ (FP.ddiv (FP.i2d x4) (FP.i2d x2)) h3)
  · refine g_dconst0 (pc := 10) dX7_share_10 ?_
    refine g_goto (pc := 11) (tgt := 23) dX7_share_11 (by decide) ?_
    exact g_sub [] rfl (gjb_X7_share_23 γ (FP.dconst0) h1)
def f_X7_goodShare  (h : Hst) : Option (UInt64 × Hst) :=
  gl (hst h 17 5 0) fun h1 =>
  gb (f_X7_share h1) fun x3 h2 =>
  (some (x3, h2))
set_option maxRecDepth 20000 in
theorem ge_X7_goodShare (γ : Gv)  (h : Hst) : G γ RX7 cX7_goodShare 1 (some .double) [] vD 5 0 0 (lv_args 0 [.ref (gad γ 17)]) [] h (f_X7_goodShare h) := by
  show G γ RX7 cX7_goodShare 1 (some .double) [] vD 5 0 0 [(0, .ref (gad γ 17))] [] h (f_X7_goodShare h)
  unfold f_X7_goodShare
  refine g_aload_n (pc := 0) dX7_goodShare_0 rfl 0 rfl ?_
  refine g_iconst (pc := 1) (v := 0) dX7_goodShare_1 (by decide) ?_
  refine pf_RX7_31_17 (pc := 2) dX7_goodShare_2 ?_
  refine g_nmh (fun h1 => ?_)
  refine g_aload_n (pc := 5) dX7_goodShare_5 rfl 0 rfl ?_
  refine g_cD (pc := 6) (st := []) (fun r hr => gRunV (As := []) 17 (ge_X7_share γ h1) hr wv_RX7_254 rfl (Nat.le_of_ble_eq_true rfl) (gat_17 _ _) rfl rfl (Nat.le_of_ble_eq_true rfl) (Nat.le_of_ble_eq_true rfl) dX7_goodShare_6) (fun x3 h2 => ?_)
  exact g_dreturn (pc := 9) dX7_goodShare_9 rfl rfl
def f_X7_mix (p0 : Int64) (h : Hst) : Option (Hst) :=
  gl (hsj h 17 22 ((31 * (h.2 17 22)) + p0)) fun h1 =>
  (some h1)
set_option maxRecDepth 20000 in
theorem ge_X7_mix (γ : Gv) (p0 : Int64) (h : Hst) : G γ RX7 cX7_mix 3 none [] vV 0 0 0 (lv_args 0 [.ref (gad γ 17), .long p0]) [] h (f_X7_mix p0 h) := by
  show G γ RX7 cX7_mix 3 none [] vV 0 0 0 [(0, .ref (gad γ 17)), (1, .long p0)] [] h (f_X7_mix p0 h)
  unfold f_X7_mix
  refine g_aload_n (pc := 0) dX7_mix_0 rfl 0 rfl ?_
  refine g_ldc2 (pc := 1) wk_RX7_258 dX7_mix_1 ?_
  refine g_aload_n (pc := 4) dX7_mix_4 rfl 0 rfl ?_
  refine gf_RX7_260_17 (pc := 5) dX7_mix_5 ?_
  refine g_lmul (pc := 8) dX7_mix_8 ?_
  refine g_lload_n (pc := 9) dX7_mix_9 rfl 1 rfl ?_
  refine g_ladd (pc := 10) dX7_mix_10 ?_
  refine pf_RX7_260_17 (pc := 11) dX7_mix_11 ?_
  refine g_nmh (fun h1 => ?_)
  exact g_return (pc := 14) dX7_mix_14 rfl rfl
def jb_Jxe99ae_isNaN_b9ae7_11  (s0 : Int32) (h : Hst) : Option (Int32 × Hst) :=
  (gzr s0 (some (s0, h)))
def f_Jxe99ae_isNaN_b9ae7 (p0 : UInt64) (h : Hst) : Option (Int32 × Hst) :=
  (if (Op.cmpValue (FP.dcmp p0 p0) .l) = 0 then
    (jb_Jxe99ae_isNaN_b9ae7_11 0 h)
  else
    (jb_Jxe99ae_isNaN_b9ae7_11 1 h))
set_option maxRecDepth 20000 in
theorem gjb_Jxe99ae_isNaN_b9ae7_11 (γ : Gv)  (s0 : Int32) (h : Hst) : G γ RJxe99ae cJxe99ae_isNaN_b9ae7 2 (some .boolean) [] vI 0 0 11 [] [.int s0] h (jb_Jxe99ae_isNaN_b9ae7_11 s0 h) := by
  unfold jb_Jxe99ae_isNaN_b9ae7_11
  exact g_zreturn (pc := 11) dJxe99ae_isNaN_b9ae7_11 rfl rfl
set_option maxRecDepth 20000 in
theorem ge_Jxe99ae_isNaN_b9ae7 (γ : Gv) (p0 : UInt64) (h : Hst) : G γ RJxe99ae cJxe99ae_isNaN_b9ae7 2 (some .boolean) [] vI 0 0 0 (lv_args 0 [.double p0]) [] h (f_Jxe99ae_isNaN_b9ae7 p0 h) := by
  show G γ RJxe99ae cJxe99ae_isNaN_b9ae7 2 (some .boolean) [] vI 0 0 0 [(0, .double p0)] [] h (f_Jxe99ae_isNaN_b9ae7 p0 h)
  unfold f_Jxe99ae_isNaN_b9ae7
  refine g_dload_n (pc := 0) dJxe99ae_isNaN_b9ae7_0 rfl 0 rfl ?_
  refine g_dload_n (pc := 1) dJxe99ae_isNaN_b9ae7_1 rfl 0 rfl ?_
  refine g_dcmp (pc := 2) dJxe99ae_isNaN_b9ae7_2 ?_
  refine g_if_eq (pc := 3) (tgt := 10) dJxe99ae_isNaN_b9ae7_3 (by decide) ?_ ?_
  · refine g_iconst (pc := 10) (v := 0) dJxe99ae_isNaN_b9ae7_10 (by decide) ?_
    exact g_sub [] rfl (gjb_Jxe99ae_isNaN_b9ae7_11 γ 0 h)
  · refine g_iconst (pc := 6) (v := 1) dJxe99ae_isNaN_b9ae7_6 (by decide) ?_
    refine g_goto (pc := 7) (tgt := 11) dJxe99ae_isNaN_b9ae7_7 (by decide) ?_
    exact g_sub [] rfl (gjb_Jxe99ae_isNaN_b9ae7_11 γ 1 h)
def f_Jxe99ae_doubleToLongBits_ccdee (p0 : UInt64) (h : Hst) : Option (Int64 × Hst) :=
  gb (f_Jxe99ae_isNaN_b9ae7 p0 h) fun x2 h1 =>
  (if x2 = 0 then
    (some (UInt64.toInt64 p0, h1))
  else
    (some (9221120237041090560, h1)))
set_option maxRecDepth 20000 in
theorem ge_Jxe99ae_doubleToLongBits_ccdee (γ : Gv) (p0 : UInt64) (h : Hst) : G γ RJxe99ae cJxe99ae_doubleToLongBits_ccdee 2 (some .long) [] vL 1 0 0 (lv_args 0 [.double p0]) [] h (f_Jxe99ae_doubleToLongBits_ccdee p0 h) := by
  show G γ RJxe99ae cJxe99ae_doubleToLongBits_ccdee 2 (some .long) [] vL 1 0 0 [(0, .double p0)] [] h (f_Jxe99ae_doubleToLongBits_ccdee p0 h)
  unfold f_Jxe99ae_doubleToLongBits_ccdee
  refine g_dload_n (pc := 0) dJxe99ae_doubleToLongBits_ccdee_0 rfl 0 rfl ?_
  refine g_cI (pc := 1) (st := []) (fun r hr => gRunS (As := [.double p0]) (ge_Jxe99ae_isNaN_b9ae7 γ p0 h) hr wv_RJxe99ae_122 rfl (Nat.le_of_ble_eq_true rfl) rfl (Nat.le_of_ble_eq_true rfl) (Nat.le_of_ble_eq_true rfl) dJxe99ae_doubleToLongBits_ccdee_1) (fun x2 h1 => ?_)
  refine g_if_ne (pc := 4) (tgt := 12) dJxe99ae_doubleToLongBits_ccdee_4 (by decide) ?_ ?_
  · refine g_ldc2 (pc := 12) wk_RJxe99ae_137 dJxe99ae_doubleToLongBits_ccdee_12 ?_
    exact g_lreturn (pc := 15) dJxe99ae_doubleToLongBits_ccdee_15 rfl rfl
  · refine g_dload_n (pc := 7) dJxe99ae_doubleToLongBits_ccdee_7 rfl 0 rfl ?_
    refine g_rawbits (pc := 8) wk_RJxe99ae_134 wb_1 wb_2 wb_3 (Nat.le_of_ble_eq_true rfl) (Nat.le_of_ble_eq_true rfl) dJxe99ae_doubleToLongBits_ccdee_8 ?_
    exact g_lreturn (pc := 11) dJxe99ae_doubleToLongBits_ccdee_11 rfl rfl
def lp_X7_mixTank_72 : Nat → Int32 → Int32 → Hst → Option (Hst)
  | 0, _, _, _ => none
  | n + 1, a1, a2, h =>
    (if 5 ≤ a2 then
      (some h)
    else
      gb (f_X7_takenNow a1 1 a2 h) fun x2 h1 =>
      gbv (f_X7_mix (x2.toInt64) h1) fun h3 =>
      ((lp_X7_mixTank_72 n) a1 (a2 + 1) h3))
def jb_X7_mixTank_30 (R2 : Int32 → Int32 → Hst → Option (Hst)) (a1 : Int32) (a2 : Int32) (h : Hst) : Option (Hst) :=
  (R2 a1 (a2 + 1) h)
def jb_X7_mixTank_19 (R2 : Int32 → Int32 → Hst → Option (Hst)) (a1 : Int32) (a2 : Int32) (h : Hst) : Option (Hst) :=
  gb (f_X7_tankNow a1 a2 h) fun x2 h1 =>
  gbv (f_X7_mix (x2.toInt64) h1) fun h3 =>
  (jb_X7_mixTank_30 R2 a1 a2 h3)
def lp_X7_mixTank_2 : Nat → Int32 → Int32 → Hst → Option (Hst)
  | 0, _, _, _ => none
  | n + 1, a1, a2, h =>
    (if 15 ≤ a2 then
      gb (f_X7_reason a1 0 h) fun x2 h1 =>
      gbv (f_X7_mix (x2.toInt64) h1) fun h3 =>
      gb (f_X7_reason a1 1 h3) fun x5 h4 =>
      gbv (f_X7_mix (x5.toInt64) h4) fun h6 =>
      gb (f_X7_oilBehind a1 30 h6) fun x8 h7 =>
      gbv (f_X7_mix (x8.toInt64) h7) fun h9 =>
      (lp_X7_mixTank_72 FU a1 0 h9)
    else
      (if a2 < 3 then
        (jb_X7_mixTank_19 (lp_X7_mixTank_2 n) a1 a2 h)
      else
        (if a2 ≤ 9 then
          (jb_X7_mixTank_30 (lp_X7_mixTank_2 n) a1 a2 h)
        else
          (jb_X7_mixTank_19 (lp_X7_mixTank_2 n) a1 a2 h))))
def f_X7_mixTank (p0 : Int32) (h : Hst) : Option (Hst) :=
  (lp_X7_mixTank_2 FU p0 0 h)
set_option maxRecDepth 20000 in
theorem glp_X7_mixTank_72 (γ : Gv)  : ∀ (n : Nat) (a1 : Int32) (a2 : Int32) (h : Hst), G γ RX7 cX7_mixTank 3 none [] vV 5 0 72 [(0, .ref (gad γ 17)), (1, .int a1), (2, .int a2)] [] h (lp_X7_mixTank_72 n a1 a2 h) := by
  intro n
  induction n with
  | zero => intro a1 a2 h; exact g_none
  | succ n ih =>
    intro a1 a2 h
    rw [lp_X7_mixTank_72]
    refine g_iload_n (pc := 72) dX7_mixTank_72 rfl 2 rfl ?_
    refine g_iconst (pc := 73) (v := 5) dX7_mixTank_73 (by decide) ?_
    refine g_icmp_ge (pc := 74) (tgt := 95) dX7_mixTank_74 (by decide) ?_ ?_
    · exact g_return (pc := 95) dX7_mixTank_95 rfl rfl
    · refine g_aload_n (pc := 77) dX7_mixTank_77 rfl 0 rfl ?_
      refine g_aload_n (pc := 78) dX7_mixTank_78 rfl 0 rfl ?_
      refine g_iload_n (pc := 79) dX7_mixTank_79 rfl 1 rfl ?_
      refine g_iconst (pc := 80) (v := 1) dX7_mixTank_80 (by decide) ?_
      refine g_iload_n (pc := 81) dX7_mixTank_81 rfl 2 rfl ?_
      refine g_cI (pc := 82) (st := [.ref (gad γ 17)]) (fun r hr => gRunV (As := [.int a1, .int 1, .int a2]) 17 (ge_X7_takenNow γ a1 1 a2 h) hr wv_RX7_241 rfl (Nat.le_of_ble_eq_true rfl) (gat_17 _ _) rfl rfl (Nat.le_of_ble_eq_true rfl) (Nat.le_of_ble_eq_true rfl) dX7_mixTank_82) (fun x2 h1 => ?_)
      refine g_i2l (pc := 85) dX7_mixTank_85 ?_
      refine g_cV (pc := 86) (st := []) (fun r hr => gRunV (As := [.long (x2.toInt64)]) 17 (ge_X7_mix γ (x2.toInt64) h1) hr wv_RX7_264 rfl (Nat.le_of_ble_eq_true rfl) (gat_17 _ _) rfl rfl (Nat.le_of_ble_eq_true rfl) (Nat.le_of_ble_eq_true rfl) dX7_mixTank_86) (fun h3 => ?_)
      refine g_iinc (pc := 89) (q := 2) (v := a2 + 1) (lv' := [(2, .int (a2 + 1)), (0, .ref (gad γ 17)), (1, .int a1)]) dX7_mixTank_89 rfl rfl (by decide) rfl ?_
      refine g_goto (pc := 92) (tgt := 72) dX7_mixTank_92 (by decide) ?_
      exact g_sub [1, 2, 0] rfl (ih a1 (a2 + 1) h3)
set_option maxRecDepth 20000 in
theorem gjb_X7_mixTank_30 (γ : Gv) (R2 : Int32 → Int32 → Hst → Option (Hst)) (hR2 : ∀ (a1 : Int32) (a2 : Int32) (h : Hst), G γ RX7 cX7_mixTank 3 none [] vV 5 0 2 [(0, .ref (gad γ 17)), (1, .int a1), (2, .int a2)] [] h (R2 a1 a2 h)) (a1 : Int32) (a2 : Int32) (h : Hst) : G γ RX7 cX7_mixTank 3 none [] vV 5 0 30 [(0, .ref (gad γ 17)), (1, .int a1), (2, .int a2)] [] h (jb_X7_mixTank_30 R2 a1 a2 h) := by
  unfold jb_X7_mixTank_30
  refine g_iinc (pc := 30) (q := 2) (v := a2 + 1) (lv' := [(2, .int (a2 + 1)), (0, .ref (gad γ 17)), (1, .int a1)]) dX7_mixTank_30 rfl rfl (by decide) rfl ?_
  refine g_goto (pc := 33) (tgt := 2) dX7_mixTank_33 (by decide) ?_
  exact g_sub [1, 2, 0] rfl (hR2 a1 (a2 + 1) h)
set_option maxRecDepth 20000 in
theorem gjb_X7_mixTank_19 (γ : Gv) (R2 : Int32 → Int32 → Hst → Option (Hst)) (hR2 : ∀ (a1 : Int32) (a2 : Int32) (h : Hst), G γ RX7 cX7_mixTank 3 none [] vV 5 0 2 [(0, .ref (gad γ 17)), (1, .int a1), (2, .int a2)] [] h (R2 a1 a2 h)) (a1 : Int32) (a2 : Int32) (h : Hst) : G γ RX7 cX7_mixTank 3 none [] vV 5 0 19 [(0, .ref (gad γ 17)), (1, .int a1), (2, .int a2)] [] h (jb_X7_mixTank_19 R2 a1 a2 h) := by
  unfold jb_X7_mixTank_19
  refine g_aload_n (pc := 19) dX7_mixTank_19 rfl 0 rfl ?_
  refine g_aload_n (pc := 20) dX7_mixTank_20 rfl 0 rfl ?_
  refine g_iload_n (pc := 21) dX7_mixTank_21 rfl 1 rfl ?_
  refine g_iload_n (pc := 22) dX7_mixTank_22 rfl 2 rfl ?_
  refine g_cI (pc := 23) (st := [.ref (gad γ 17)]) (fun r hr => gRunV (As := [.int a1, .int a2]) 17 (ge_X7_tankNow γ a1 a2 h) hr wv_RX7_219 rfl (Nat.le_of_ble_eq_true rfl) (gat_17 _ _) rfl rfl (Nat.le_of_ble_eq_true rfl) (Nat.le_of_ble_eq_true rfl) dX7_mixTank_23) (fun x2 h1 => ?_)
  refine g_i2l (pc := 26) dX7_mixTank_26 ?_
  refine g_cV (pc := 27) (st := []) (fun r hr => gRunV (As := [.long (x2.toInt64)]) 17 (ge_X7_mix γ (x2.toInt64) h1) hr wv_RX7_264 rfl (Nat.le_of_ble_eq_true rfl) (gat_17 _ _) rfl rfl (Nat.le_of_ble_eq_true rfl) (Nat.le_of_ble_eq_true rfl) dX7_mixTank_27) (fun h3 => ?_)
  exact gjb_X7_mixTank_30 γ R2 hR2 a1 a2 h3
set_option maxRecDepth 20000 in
theorem glp_X7_mixTank_2 (γ : Gv)  : ∀ (n : Nat) (a1 : Int32) (a2 : Int32) (h : Hst), G γ RX7 cX7_mixTank 3 none [] vV 5 0 2 [(0, .ref (gad γ 17)), (1, .int a1), (2, .int a2)] [] h (lp_X7_mixTank_2 n a1 a2 h) := by
  intro n
  induction n with
  | zero => intro a1 a2 h; exact g_none
  | succ n ih =>
    intro a1 a2 h
    rw [lp_X7_mixTank_2]
    refine g_iload_n (pc := 2) dX7_mixTank_2 rfl 2 rfl ?_
    refine g_bipush (pc := 3) (v := 15) dX7_mixTank_3 (by decide) ?_
    refine g_icmp_ge (pc := 5) (tgt := 36) dX7_mixTank_5 (by decide) ?_ ?_
    · refine g_aload_n (pc := 36) dX7_mixTank_36 rfl 0 rfl ?_
      refine g_aload_n (pc := 37) dX7_mixTank_37 rfl 0 rfl ?_
      refine g_iload_n (pc := 38) dX7_mixTank_38 rfl 1 rfl ?_
      refine g_iconst (pc := 39) (v := 0) dX7_mixTank_39 (by decide) ?_
      refine g_cI (pc := 40) (st := [.ref (gad γ 17)]) (fun r hr => gRunV (As := [.int a1, .int 0]) 17 (ge_X7_reason γ a1 0 h) hr wv_RX7_140 rfl (Nat.le_of_ble_eq_true rfl) (gat_17 _ _) rfl rfl (Nat.le_of_ble_eq_true rfl) (Nat.le_of_ble_eq_true rfl) dX7_mixTank_40) (fun x2 h1 => ?_)
      refine g_i2l (pc := 43) dX7_mixTank_43 ?_
      refine g_cV (pc := 44) (st := []) (fun r hr => gRunV (As := [.long (x2.toInt64)]) 17 (ge_X7_mix γ (x2.toInt64) h1) hr wv_RX7_264 rfl (Nat.le_of_ble_eq_true rfl) (gat_17 _ _) rfl rfl (Nat.le_of_ble_eq_true rfl) (Nat.le_of_ble_eq_true rfl) dX7_mixTank_44) (fun h3 => ?_)
      refine g_aload_n (pc := 47) dX7_mixTank_47 rfl 0 rfl ?_
      refine g_aload_n (pc := 48) dX7_mixTank_48 rfl 0 rfl ?_
      refine g_iload_n (pc := 49) dX7_mixTank_49 rfl 1 rfl ?_
      refine g_iconst (pc := 50) (v := 1) dX7_mixTank_50 (by decide) ?_
      refine g_cI (pc := 51) (st := [.ref (gad γ 17)]) (fun r hr => gRunV (As := [.int a1, .int 1]) 17 (ge_X7_reason γ a1 1 h3) hr wv_RX7_140 rfl (Nat.le_of_ble_eq_true rfl) (gat_17 _ _) rfl rfl (Nat.le_of_ble_eq_true rfl) (Nat.le_of_ble_eq_true rfl) dX7_mixTank_51) (fun x5 h4 => ?_)
      refine g_i2l (pc := 54) dX7_mixTank_54 ?_
      refine g_cV (pc := 55) (st := []) (fun r hr => gRunV (As := [.long (x5.toInt64)]) 17 (ge_X7_mix γ (x5.toInt64) h4) hr wv_RX7_264 rfl (Nat.le_of_ble_eq_true rfl) (gat_17 _ _) rfl rfl (Nat.le_of_ble_eq_true rfl) (Nat.le_of_ble_eq_true rfl) dX7_mixTank_55) (fun h6 => ?_)
      refine g_aload_n (pc := 58) dX7_mixTank_58 rfl 0 rfl ?_
      refine g_aload_n (pc := 59) dX7_mixTank_59 rfl 0 rfl ?_
      refine g_iload_n (pc := 60) dX7_mixTank_60 rfl 1 rfl ?_
      refine g_bipush (pc := 61) (v := 30) dX7_mixTank_61 (by decide) ?_
      refine g_cI (pc := 63) (st := [.ref (gad γ 17)]) (fun r hr => gRunV (As := [.int a1, .int 30]) 17 (ge_X7_oilBehind γ a1 30 h6) hr wv_RX7_245 rfl (Nat.le_of_ble_eq_true rfl) (gat_17 _ _) rfl rfl (Nat.le_of_ble_eq_true rfl) (Nat.le_of_ble_eq_true rfl) dX7_mixTank_63) (fun x8 h7 => ?_)
      refine g_i2l (pc := 66) dX7_mixTank_66 ?_
      refine g_cV (pc := 67) (st := []) (fun r hr => gRunV (As := [.long (x8.toInt64)]) 17 (ge_X7_mix γ (x8.toInt64) h7) hr wv_RX7_264 rfl (Nat.le_of_ble_eq_true rfl) (gat_17 _ _) rfl rfl (Nat.le_of_ble_eq_true rfl) (Nat.le_of_ble_eq_true rfl) dX7_mixTank_67) (fun h9 => ?_)
      refine g_iconst (pc := 70) (v := 0) dX7_mixTank_70 (by decide) ?_
      refine g_istore_n (pc := 71) (lv' := [(2, .int 0), (0, .ref (gad γ 17)), (1, .int a1)]) dX7_mixTank_71 rfl (by decide) rfl ?_
      exact g_sub [1, 2, 0] rfl (glp_X7_mixTank_72 γ FU a1 0 h9)
    · refine g_iload_n (pc := 8) dX7_mixTank_8 rfl 2 rfl ?_
      refine g_iconst (pc := 9) (v := 3) dX7_mixTank_9 (by decide) ?_
      refine g_icmp_lt (pc := 10) (tgt := 19) dX7_mixTank_10 (by decide) ?_ ?_
      · exact gjb_X7_mixTank_19 γ (lp_X7_mixTank_2 n) ih a1 a2 h
      · refine g_iload_n (pc := 13) dX7_mixTank_13 rfl 2 rfl ?_
        refine g_bipush (pc := 14) (v := 9) dX7_mixTank_14 (by decide) ?_
        refine g_icmp_le (pc := 16) (tgt := 30) dX7_mixTank_16 (by decide) ?_ ?_
        · exact gjb_X7_mixTank_30 γ (lp_X7_mixTank_2 n) ih a1 a2 h
        · exact gjb_X7_mixTank_19 γ (lp_X7_mixTank_2 n) ih a1 a2 h
set_option maxRecDepth 20000 in
theorem ge_X7_mixTank (γ : Gv) (p0 : Int32) (h : Hst) : G γ RX7 cX7_mixTank 3 none [] vV 5 0 0 (lv_args 0 [.ref (gad γ 17), .int p0]) [] h (f_X7_mixTank p0 h) := by
  show G γ RX7 cX7_mixTank 3 none [] vV 5 0 0 [(0, .ref (gad γ 17)), (1, .int p0)] [] h (f_X7_mixTank p0 h)
  unfold f_X7_mixTank
  refine g_iconst (pc := 0) (v := 0) dX7_mixTank_0 (by decide) ?_
  refine g_istore_n (pc := 1) (lv' := [(2, .int 0), (0, .ref (gad γ 17)), (1, .int p0)]) dX7_mixTank_1 rfl (by decide) rfl ?_
  exact g_sub [1, 2, 0] rfl (glp_X7_mixTank_2 γ FU p0 0 h)
def lp_X7_digest_273 : Nat → Int32 → Hst → Option (Int64 × Hst)
  | 0, _, _ => none
  | n + 1, a1, h =>
    (if (h.1 17 3) ≤ a1 then
      (some (h.2 17 22, h))
    else
      gck a1 60 (gbv (f_X7_mix ((h.1 20 a1.toNatClampNeg).toInt64) h) fun h1 =>
      ((lp_X7_digest_273 n) (a1 + 1) h1)))
def lp_X7_digest_221 : Nat → Int32 → Hst → Option (Int64 × Hst)
  | 0, _, _ => none
  | n + 1, a1, h =>
    (if 3 ≤ a1 then
      gb (f_X7_tankForNext h) fun x2 h1 =>
      gbv (f_X7_mix (x2.toInt64) h1) fun h3 =>
      gb (f_X7_share h3) fun x5 h4 =>
      gb (f_Jxe99ae_doubleToLongBits_ccdee x5 h4) fun x7 h6 =>
      gbv (f_X7_mix x7 h6) fun h8 =>
      gbv (f_X7_mix ((h8.1 17 3).toInt64) h8) fun h9 =>
      (lp_X7_digest_273 FU 0 h9)
    else
      gb (f_X7_lossNow a1 h) fun x11 h10 =>
      gbv (f_X7_mix (x11.toInt64) h10) fun h12 =>
      ((lp_X7_digest_221 n) (a1 + 1) h12))
def lp_X7_digest_198 : Nat → Int32 → Hst → Option (Int64 × Hst)
  | 0, _, _ => none
  | n + 1, a1, h =>
    (if 5 ≤ a1 then
      (lp_X7_digest_221 FU 0 h)
    else
      gb (f_X7_nextNow a1 h) fun x2 h1 =>
      gbv (f_X7_mix (x2.toInt64) h1) fun h3 =>
      ((lp_X7_digest_198 n) (a1 + 1) h3))
def lp_X7_digest_167 : Nat → Int32 → Hst → Option (Int64 × Hst)
  | 0, _, _ => none
  | n + 1, a1, h =>
    (if 40 ≤ a1 then
      (lp_X7_digest_198 FU 0 h)
    else
      gdz 8 (gdz 8 (gb (f_X7_varietyNow (a1 / 8) (a1 - a1 / 8 * 8) h) fun x2 h1 =>
      gbv (f_X7_mix (x2.toInt64) h1) fun h3 =>
      ((lp_X7_digest_167 n) (a1 + 1) h3))))
def lp_X7_digest_143 : Nat → Int32 → Hst → Option (Int64 × Hst)
  | 0, _, _ => none
  | n + 1, a1, h =>
    gck 9 514 ((if (h.1 18 (9 : Int32).toNatClampNeg) ≤ a1 then
      (lp_X7_digest_167 FU 0 h)
    else
      gbv (f_X7_mixTank a1 h) fun h1 =>
      ((lp_X7_digest_143 n) (a1 + 1) h1)))
def lp_X7_digest_104 : Nat → Int32 → Hst → Option (Int64 × Hst)
  | 0, _, _ => none
  | n + 1, a1, h =>
    gck 8 514 ((if (11 * (h.1 18 (8 : Int32).toNatClampNeg)) ≤ a1 then
      (lp_X7_digest_143 FU 0 h)
    else
      gdz 11 (gdz 11 (gb (f_X7_lotNow (a1 / 11) (a1 - a1 / 11 * 11) h) fun x2 h1 =>
      gbv (f_X7_mix (x2.toInt64) h1) fun h3 =>
      ((lp_X7_digest_104 n) (a1 + 1) h3)))))
def lp_X7_digest_65 : Nat → Int32 → Hst → Option (Int64 × Hst)
  | 0, _, _ => none
  | n + 1, a1, h =>
    gck 7 514 ((if (6 * (h.1 18 (7 : Int32).toNatClampNeg)) ≤ a1 then
      (lp_X7_digest_104 FU 0 h)
    else
      gdz 6 (gdz 6 (gb (f_X7_growerNow (a1 / 6) (a1 - a1 / 6 * 6) h) fun x2 h1 =>
      gbv (f_X7_mix (x2.toInt64) h1) fun h3 =>
      ((lp_X7_digest_65 n) (a1 + 1) h3)))))
def lp_X7_digest_38 : Nat → Int32 → Hst → Option (Int64 × Hst)
  | 0, _, _ => none
  | n + 1, a1, h =>
    (if 7 ≤ a1 then
      (lp_X7_digest_65 FU 0 h)
    else
      gck (0 + a1) 514 (gbv (f_X7_mix ((h.1 18 (0 + a1).toNatClampNeg).toInt64) h) fun h1 =>
      ((lp_X7_digest_38 n) (a1 + 1) h1)))
def lp_X7_digest_14 : Nat → Int32 → Hst → Option (Int64 × Hst)
  | 0, _, _ => none
  | n + 1, a1, h =>
    (if 13 ≤ a1 then
      (lp_X7_digest_38 FU 0 h)
    else
      gb (f_X7_counted a1 h) fun x2 h1 =>
      gbv (f_X7_mix (x2.toInt64) h1) fun h3 =>
      ((lp_X7_digest_14 n) (a1 + 1) h3))
def f_X7_digest  (h : Hst) : Option (Int64 × Hst) :=
  gl (hst h 17 5 0) fun h1 =>
  gl (hsj h1 17 22 2393) fun h2 =>
  (lp_X7_digest_14 FU 0 h2)
set_option maxRecDepth 20000 in
theorem glp_X7_digest_273 (γ : Gv)  : ∀ (n : Nat) (a1 : Int32) (h : Hst), G γ RX7 cX7_digest 2 (some .long) [] vL 6 0 273 [(0, .ref (gad γ 17)), (1, .int a1)] [] h (lp_X7_digest_273 n a1 h) := by
  intro n
  induction n with
  | zero => intro a1 h; exact g_none
  | succ n ih =>
    intro a1 h
    rw [lp_X7_digest_273]
    refine g_iload_n (pc := 273) dX7_digest_273 rfl 1 rfl ?_
    refine g_aload_n (pc := 274) dX7_digest_274 rfl 0 rfl ?_
    refine gf_RX7_175_17 (pc := 275) dX7_digest_275 ?_
    refine g_icmp_ge (pc := 278) (tgt := 298) dX7_digest_278 (by decide) ?_ ?_
    · refine g_aload_n (pc := 298) dX7_digest_298 rfl 0 rfl ?_
      refine gf_RX7_260_17 (pc := 299) dX7_digest_299 ?_
      exact g_lreturn (pc := 302) dX7_digest_302 rfl rfl
    · refine g_aload_n (pc := 281) dX7_digest_281 rfl 0 rfl ?_
      refine g_aload_n (pc := 282) dX7_digest_282 rfl 0 rfl ?_
      refine gf_RX7_16_17 (pc := 283) dX7_digest_283 ?_
      refine g_iload_n (pc := 286) dX7_digest_286 rfl 1 rfl ?_
      refine g_iald (pc := 287) 20 (gat_20 _ _) dX7_digest_287 ?_
      refine g_i2l (pc := 288) dX7_digest_288 ?_
      refine g_cV (pc := 289) (st := []) (fun r hr => gRunV (As := [.long ((h.1 20 a1.toNatClampNeg).toInt64)]) 17 (ge_X7_mix γ ((h.1 20 a1.toNatClampNeg).toInt64) h) hr wv_RX7_264 rfl (Nat.le_of_ble_eq_true rfl) (gat_17 _ _) rfl rfl (Nat.le_of_ble_eq_true rfl) (Nat.le_of_ble_eq_true rfl) dX7_digest_289) (fun h1 => ?_)
      refine g_iinc (pc := 292) (q := 1) (v := a1 + 1) (lv' := [(1, .int (a1 + 1)), (0, .ref (gad γ 17))]) dX7_digest_292 rfl rfl (by decide) rfl ?_
      refine g_goto (pc := 295) (tgt := 273) dX7_digest_295 (by decide) ?_
      exact g_sub [1, 0] rfl (ih (a1 + 1) h1)
set_option maxRecDepth 20000 in
theorem glp_X7_digest_221 (γ : Gv)  : ∀ (n : Nat) (a1 : Int32) (h : Hst), G γ RX7 cX7_digest 2 (some .long) [] vL 6 0 221 [(0, .ref (gad γ 17)), (1, .int a1)] [] h (lp_X7_digest_221 n a1 h) := by
  intro n
  induction n with
  | zero => intro a1 h; exact g_none
  | succ n ih =>
    intro a1 h
    rw [lp_X7_digest_221]
    refine g_iload_n (pc := 221) dX7_digest_221 rfl 1 rfl ?_
    refine g_iconst (pc := 222) (v := 3) dX7_digest_222 (by decide) ?_
    refine g_icmp_ge (pc := 223) (tgt := 242) dX7_digest_223 (by decide) ?_ ?_
    · refine g_aload_n (pc := 242) dX7_digest_242 rfl 0 rfl ?_
      refine g_aload_n (pc := 243) dX7_digest_243 rfl 0 rfl ?_
      refine g_cI (pc := 244) (st := [.ref (gad γ 17)]) (fun r hr => gRunV (As := []) 17 (ge_X7_tankForNext γ h) hr wv_RX7_251 rfl (Nat.le_of_ble_eq_true rfl) (gat_17 _ _) rfl rfl (Nat.le_of_ble_eq_true rfl) (Nat.le_of_ble_eq_true rfl) dX7_digest_244) (fun x2 h1 => ?_)
      refine g_i2l (pc := 247) dX7_digest_247 ?_
      refine g_cV (pc := 248) (st := []) (fun r hr => gRunV (As := [.long (x2.toInt64)]) 17 (ge_X7_mix γ (x2.toInt64) h1) hr wv_RX7_264 rfl (Nat.le_of_ble_eq_true rfl) (gat_17 _ _) rfl rfl (Nat.le_of_ble_eq_true rfl) (Nat.le_of_ble_eq_true rfl) dX7_digest_248) (fun h3 => ?_)
      refine g_aload_n (pc := 251) dX7_digest_251 rfl 0 rfl ?_
      refine g_aload_n (pc := 252) dX7_digest_252 rfl 0 rfl ?_
      refine g_cD (pc := 253) (st := [.ref (gad γ 17)]) (fun r hr => gRunV (As := []) 17 (ge_X7_share γ h3) hr wv_RX7_254 rfl (Nat.le_of_ble_eq_true rfl) (gat_17 _ _) rfl rfl (Nat.le_of_ble_eq_true rfl) (Nat.le_of_ble_eq_true rfl) dX7_digest_253) (fun x5 h4 => ?_)
      refine g_cL (pc := 256) (st := [.ref (gad γ 17)]) (fun r hr => gRunS (As := [.double x5]) (ge_Jxe99ae_doubleToLongBits_ccdee γ x5 h4) hr wv_RX7_273 rfl (Nat.le_of_ble_eq_true rfl) rfl (Nat.le_of_ble_eq_true rfl) (Nat.le_of_ble_eq_true rfl) dX7_digest_256) (fun x7 h6 => ?_)
      refine g_cV (pc := 259) (st := []) (fun r hr => gRunV (As := [.long x7]) 17 (ge_X7_mix γ x7 h6) hr wv_RX7_264 rfl (Nat.le_of_ble_eq_true rfl) (gat_17 _ _) rfl rfl (Nat.le_of_ble_eq_true rfl) (Nat.le_of_ble_eq_true rfl) dX7_digest_259) (fun h8 => ?_)
      refine g_aload_n (pc := 262) dX7_digest_262 rfl 0 rfl ?_
      refine g_aload_n (pc := 263) dX7_digest_263 rfl 0 rfl ?_
      refine gf_RX7_175_17 (pc := 264) dX7_digest_264 ?_
      refine g_i2l (pc := 267) dX7_digest_267 ?_
      refine g_cV (pc := 268) (st := []) (fun r hr => gRunV (As := [.long ((h8.1 17 3).toInt64)]) 17 (ge_X7_mix γ ((h8.1 17 3).toInt64) h8) hr wv_RX7_264 rfl (Nat.le_of_ble_eq_true rfl) (gat_17 _ _) rfl rfl (Nat.le_of_ble_eq_true rfl) (Nat.le_of_ble_eq_true rfl) dX7_digest_268) (fun h9 => ?_)
      refine g_iconst (pc := 271) (v := 0) dX7_digest_271 (by decide) ?_
      refine g_istore_n (pc := 272) (lv' := [(1, .int 0), (0, .ref (gad γ 17))]) dX7_digest_272 rfl (by decide) rfl ?_
      exact g_sub [1, 0] rfl (glp_X7_digest_273 γ FU 0 h9)
    · refine g_aload_n (pc := 226) dX7_digest_226 rfl 0 rfl ?_
      refine g_aload_n (pc := 227) dX7_digest_227 rfl 0 rfl ?_
      refine g_iload_n (pc := 228) dX7_digest_228 rfl 1 rfl ?_
      refine g_cI (pc := 229) (st := [.ref (gad γ 17)]) (fun r hr => gRunV (As := [.int a1]) 17 (ge_X7_lossNow γ a1 h) hr wv_RX7_248 rfl (Nat.le_of_ble_eq_true rfl) (gat_17 _ _) rfl rfl (Nat.le_of_ble_eq_true rfl) (Nat.le_of_ble_eq_true rfl) dX7_digest_229) (fun x11 h10 => ?_)
      refine g_i2l (pc := 232) dX7_digest_232 ?_
      refine g_cV (pc := 233) (st := []) (fun r hr => gRunV (As := [.long (x11.toInt64)]) 17 (ge_X7_mix γ (x11.toInt64) h10) hr wv_RX7_264 rfl (Nat.le_of_ble_eq_true rfl) (gat_17 _ _) rfl rfl (Nat.le_of_ble_eq_true rfl) (Nat.le_of_ble_eq_true rfl) dX7_digest_233) (fun h12 => ?_)
      refine g_iinc (pc := 236) (q := 1) (v := a1 + 1) (lv' := [(1, .int (a1 + 1)), (0, .ref (gad γ 17))]) dX7_digest_236 rfl rfl (by decide) rfl ?_
      refine g_goto (pc := 239) (tgt := 221) dX7_digest_239 (by decide) ?_
      exact g_sub [1, 0] rfl (ih (a1 + 1) h12)
set_option maxRecDepth 20000 in
theorem glp_X7_digest_198 (γ : Gv)  : ∀ (n : Nat) (a1 : Int32) (h : Hst), G γ RX7 cX7_digest 2 (some .long) [] vL 6 0 198 [(0, .ref (gad γ 17)), (1, .int a1)] [] h (lp_X7_digest_198 n a1 h) := by
  intro n
  induction n with
  | zero => intro a1 h; exact g_none
  | succ n ih =>
    intro a1 h
    rw [lp_X7_digest_198]
    refine g_iload_n (pc := 198) dX7_digest_198 rfl 1 rfl ?_
    refine g_iconst (pc := 199) (v := 5) dX7_digest_199 (by decide) ?_
    refine g_icmp_ge (pc := 200) (tgt := 219) dX7_digest_200 (by decide) ?_ ?_
    · refine g_iconst (pc := 219) (v := 0) dX7_digest_219 (by decide) ?_
      refine g_istore_n (pc := 220) (lv' := [(1, .int 0), (0, .ref (gad γ 17))]) dX7_digest_220 rfl (by decide) rfl ?_
      exact g_sub [1, 0] rfl (glp_X7_digest_221 γ FU 0 h)
    · refine g_aload_n (pc := 203) dX7_digest_203 rfl 0 rfl ?_
      refine g_aload_n (pc := 204) dX7_digest_204 rfl 0 rfl ?_
      refine g_iload_n (pc := 205) dX7_digest_205 rfl 1 rfl ?_
      refine g_cI (pc := 206) (st := [.ref (gad γ 17)]) (fun r hr => gRunV (As := [.int a1]) 17 (ge_X7_nextNow γ a1 h) hr wv_RX7_238 rfl (Nat.le_of_ble_eq_true rfl) (gat_17 _ _) rfl rfl (Nat.le_of_ble_eq_true rfl) (Nat.le_of_ble_eq_true rfl) dX7_digest_206) (fun x2 h1 => ?_)
      refine g_i2l (pc := 209) dX7_digest_209 ?_
      refine g_cV (pc := 210) (st := []) (fun r hr => gRunV (As := [.long (x2.toInt64)]) 17 (ge_X7_mix γ (x2.toInt64) h1) hr wv_RX7_264 rfl (Nat.le_of_ble_eq_true rfl) (gat_17 _ _) rfl rfl (Nat.le_of_ble_eq_true rfl) (Nat.le_of_ble_eq_true rfl) dX7_digest_210) (fun h3 => ?_)
      refine g_iinc (pc := 213) (q := 1) (v := a1 + 1) (lv' := [(1, .int (a1 + 1)), (0, .ref (gad γ 17))]) dX7_digest_213 rfl rfl (by decide) rfl ?_
      refine g_goto (pc := 216) (tgt := 198) dX7_digest_216 (by decide) ?_
      exact g_sub [1, 0] rfl (ih (a1 + 1) h3)
set_option maxRecDepth 20000 in
theorem glp_X7_digest_167 (γ : Gv)  : ∀ (n : Nat) (a1 : Int32) (h : Hst), G γ RX7 cX7_digest 2 (some .long) [] vL 6 0 167 [(0, .ref (gad γ 17)), (1, .int a1)] [] h (lp_X7_digest_167 n a1 h) := by
  intro n
  induction n with
  | zero => intro a1 h; exact g_none
  | succ n ih =>
    intro a1 h
    rw [lp_X7_digest_167]
    refine g_iload_n (pc := 167) dX7_digest_167 rfl 1 rfl ?_
    refine g_bipush (pc := 168) (v := 40) dX7_digest_168 (by decide) ?_
    refine g_icmp_ge (pc := 170) (tgt := 196) dX7_digest_170 (by decide) ?_ ?_
    · refine g_iconst (pc := 196) (v := 0) dX7_digest_196 (by decide) ?_
      refine g_istore_n (pc := 197) (lv' := [(1, .int 0), (0, .ref (gad γ 17))]) dX7_digest_197 rfl (by decide) rfl ?_
      exact g_sub [1, 0] rfl (glp_X7_digest_198 γ FU 0 h)
    · refine g_aload_n (pc := 173) dX7_digest_173 rfl 0 rfl ?_
      refine g_aload_n (pc := 174) dX7_digest_174 rfl 0 rfl ?_
      refine g_iload_n (pc := 175) dX7_digest_175 rfl 1 rfl ?_
      refine g_bipush (pc := 176) (v := 8) dX7_digest_176 (by decide) ?_
      refine g_idiv (pc := 178) dX7_digest_178 ?_
      refine g_iload_n (pc := 179) dX7_digest_179 rfl 1 rfl ?_
      refine g_bipush (pc := 180) (v := 8) dX7_digest_180 (by decide) ?_
      refine g_irem (pc := 182) dX7_digest_182 ?_
      refine g_cI (pc := 183) (st := [.ref (gad γ 17)]) (fun r hr => gRunV (As := [.int (a1 / 8), .int (a1 - a1 / 8 * 8)]) 17 (ge_X7_varietyNow γ (a1 / 8) (a1 - a1 / 8 * 8) h) hr wv_RX7_225 rfl (Nat.le_of_ble_eq_true rfl) (gat_17 _ _) rfl rfl (Nat.le_of_ble_eq_true rfl) (Nat.le_of_ble_eq_true rfl) dX7_digest_183) (fun x2 h1 => ?_)
      refine g_i2l (pc := 186) dX7_digest_186 ?_
      refine g_cV (pc := 187) (st := []) (fun r hr => gRunV (As := [.long (x2.toInt64)]) 17 (ge_X7_mix γ (x2.toInt64) h1) hr wv_RX7_264 rfl (Nat.le_of_ble_eq_true rfl) (gat_17 _ _) rfl rfl (Nat.le_of_ble_eq_true rfl) (Nat.le_of_ble_eq_true rfl) dX7_digest_187) (fun h3 => ?_)
      refine g_iinc (pc := 190) (q := 1) (v := a1 + 1) (lv' := [(1, .int (a1 + 1)), (0, .ref (gad γ 17))]) dX7_digest_190 rfl rfl (by decide) rfl ?_
      refine g_goto (pc := 193) (tgt := 167) dX7_digest_193 (by decide) ?_
      exact g_sub [1, 0] rfl (ih (a1 + 1) h3)
set_option maxRecDepth 20000 in
theorem glp_X7_digest_143 (γ : Gv)  : ∀ (n : Nat) (a1 : Int32) (h : Hst), G γ RX7 cX7_digest 2 (some .long) [] vL 6 0 143 [(0, .ref (gad γ 17)), (1, .int a1)] [] h (lp_X7_digest_143 n a1 h) := by
  intro n
  induction n with
  | zero => intro a1 h; exact g_none
  | succ n ih =>
    intro a1 h
    rw [lp_X7_digest_143]
    refine g_iload_n (pc := 143) dX7_digest_143 rfl 1 rfl ?_
    refine g_aload_n (pc := 144) dX7_digest_144 rfl 0 rfl ?_
    refine gf_RX7_7_17 (pc := 145) dX7_digest_145 ?_
    refine g_bipush (pc := 148) (v := 9) dX7_digest_148 (by decide) ?_
    refine g_iald (pc := 150) 18 (gat_18 _ _) dX7_digest_150 ?_
    refine g_icmp_ge (pc := 151) (tgt := 165) dX7_digest_151 (by decide) ?_ ?_
    · refine g_iconst (pc := 165) (v := 0) dX7_digest_165 (by decide) ?_
      refine g_istore_n (pc := 166) (lv' := [(1, .int 0), (0, .ref (gad γ 17))]) dX7_digest_166 rfl (by decide) rfl ?_
      exact g_sub [1, 0] rfl (glp_X7_digest_167 γ FU 0 h)
    · refine g_aload_n (pc := 154) dX7_digest_154 rfl 0 rfl ?_
      refine g_iload_n (pc := 155) dX7_digest_155 rfl 1 rfl ?_
      refine g_cV (pc := 156) (st := []) (fun r hr => gRunV (As := [.int a1]) 17 (ge_X7_mixTank γ a1 h) hr wv_RX7_270 rfl (Nat.le_of_ble_eq_true rfl) (gat_17 _ _) rfl rfl (Nat.le_of_ble_eq_true rfl) (Nat.le_of_ble_eq_true rfl) dX7_digest_156) (fun h1 => ?_)
      refine g_iinc (pc := 159) (q := 1) (v := a1 + 1) (lv' := [(1, .int (a1 + 1)), (0, .ref (gad γ 17))]) dX7_digest_159 rfl rfl (by decide) rfl ?_
      refine g_goto (pc := 162) (tgt := 143) dX7_digest_162 (by decide) ?_
      exact g_sub [1, 0] rfl (ih (a1 + 1) h1)
set_option maxRecDepth 20000 in
theorem glp_X7_digest_104 (γ : Gv)  : ∀ (n : Nat) (a1 : Int32) (h : Hst), G γ RX7 cX7_digest 2 (some .long) [] vL 6 0 104 [(0, .ref (gad γ 17)), (1, .int a1)] [] h (lp_X7_digest_104 n a1 h) := by
  intro n
  induction n with
  | zero => intro a1 h; exact g_none
  | succ n ih =>
    intro a1 h
    rw [lp_X7_digest_104]
    refine g_iload_n (pc := 104) dX7_digest_104 rfl 1 rfl ?_
    refine g_bipush (pc := 105) (v := 11) dX7_digest_105 (by decide) ?_
    refine g_aload_n (pc := 107) dX7_digest_107 rfl 0 rfl ?_
    refine gf_RX7_7_17 (pc := 108) dX7_digest_108 ?_
    refine g_bipush (pc := 111) (v := 8) dX7_digest_111 (by decide) ?_
    refine g_iald (pc := 113) 18 (gat_18 _ _) dX7_digest_113 ?_
    refine g_imul (pc := 114) dX7_digest_114 ?_
    refine g_icmp_ge (pc := 115) (tgt := 141) dX7_digest_115 (by decide) ?_ ?_
    · refine g_iconst (pc := 141) (v := 0) dX7_digest_141 (by decide) ?_
      refine g_istore_n (pc := 142) (lv' := [(1, .int 0), (0, .ref (gad γ 17))]) dX7_digest_142 rfl (by decide) rfl ?_
      exact g_sub [1, 0] rfl (glp_X7_digest_143 γ FU 0 h)
    · refine g_aload_n (pc := 118) dX7_digest_118 rfl 0 rfl ?_
      refine g_aload_n (pc := 119) dX7_digest_119 rfl 0 rfl ?_
      refine g_iload_n (pc := 120) dX7_digest_120 rfl 1 rfl ?_
      refine g_bipush (pc := 121) (v := 11) dX7_digest_121 (by decide) ?_
      refine g_idiv (pc := 123) dX7_digest_123 ?_
      refine g_iload_n (pc := 124) dX7_digest_124 rfl 1 rfl ?_
      refine g_bipush (pc := 125) (v := 11) dX7_digest_125 (by decide) ?_
      refine g_irem (pc := 127) dX7_digest_127 ?_
      refine g_cI (pc := 128) (st := [.ref (gad γ 17)]) (fun r hr => gRunV (As := [.int (a1 / 11), .int (a1 - a1 / 11 * 11)]) 17 (ge_X7_lotNow γ (a1 / 11) (a1 - a1 / 11 * 11) h) hr wv_RX7_216 rfl (Nat.le_of_ble_eq_true rfl) (gat_17 _ _) rfl rfl (Nat.le_of_ble_eq_true rfl) (Nat.le_of_ble_eq_true rfl) dX7_digest_128) (fun x2 h1 => ?_)
      refine g_i2l (pc := 131) dX7_digest_131 ?_
      refine g_cV (pc := 132) (st := []) (fun r hr => gRunV (As := [.long (x2.toInt64)]) 17 (ge_X7_mix γ (x2.toInt64) h1) hr wv_RX7_264 rfl (Nat.le_of_ble_eq_true rfl) (gat_17 _ _) rfl rfl (Nat.le_of_ble_eq_true rfl) (Nat.le_of_ble_eq_true rfl) dX7_digest_132) (fun h3 => ?_)
      refine g_iinc (pc := 135) (q := 1) (v := a1 + 1) (lv' := [(1, .int (a1 + 1)), (0, .ref (gad γ 17))]) dX7_digest_135 rfl rfl (by decide) rfl ?_
      refine g_goto (pc := 138) (tgt := 104) dX7_digest_138 (by decide) ?_
      exact g_sub [1, 0] rfl (ih (a1 + 1) h3)
set_option maxRecDepth 20000 in
theorem glp_X7_digest_65 (γ : Gv)  : ∀ (n : Nat) (a1 : Int32) (h : Hst), G γ RX7 cX7_digest 2 (some .long) [] vL 6 0 65 [(0, .ref (gad γ 17)), (1, .int a1)] [] h (lp_X7_digest_65 n a1 h) := by
  intro n
  induction n with
  | zero => intro a1 h; exact g_none
  | succ n ih =>
    intro a1 h
    rw [lp_X7_digest_65]
    refine g_iload_n (pc := 65) dX7_digest_65 rfl 1 rfl ?_
    refine g_bipush (pc := 66) (v := 6) dX7_digest_66 (by decide) ?_
    refine g_aload_n (pc := 68) dX7_digest_68 rfl 0 rfl ?_
    refine gf_RX7_7_17 (pc := 69) dX7_digest_69 ?_
    refine g_bipush (pc := 72) (v := 7) dX7_digest_72 (by decide) ?_
    refine g_iald (pc := 74) 18 (gat_18 _ _) dX7_digest_74 ?_
    refine g_imul (pc := 75) dX7_digest_75 ?_
    refine g_icmp_ge (pc := 76) (tgt := 102) dX7_digest_76 (by decide) ?_ ?_
    · refine g_iconst (pc := 102) (v := 0) dX7_digest_102 (by decide) ?_
      refine g_istore_n (pc := 103) (lv' := [(1, .int 0), (0, .ref (gad γ 17))]) dX7_digest_103 rfl (by decide) rfl ?_
      exact g_sub [1, 0] rfl (glp_X7_digest_104 γ FU 0 h)
    · refine g_aload_n (pc := 79) dX7_digest_79 rfl 0 rfl ?_
      refine g_aload_n (pc := 80) dX7_digest_80 rfl 0 rfl ?_
      refine g_iload_n (pc := 81) dX7_digest_81 rfl 1 rfl ?_
      refine g_bipush (pc := 82) (v := 6) dX7_digest_82 (by decide) ?_
      refine g_idiv (pc := 84) dX7_digest_84 ?_
      refine g_iload_n (pc := 85) dX7_digest_85 rfl 1 rfl ?_
      refine g_bipush (pc := 86) (v := 6) dX7_digest_86 (by decide) ?_
      refine g_irem (pc := 88) dX7_digest_88 ?_
      refine g_cI (pc := 89) (st := [.ref (gad γ 17)]) (fun r hr => gRunV (As := [.int (a1 / 6), .int (a1 - a1 / 6 * 6)]) 17 (ge_X7_growerNow γ (a1 / 6) (a1 - a1 / 6 * 6) h) hr wv_RX7_213 rfl (Nat.le_of_ble_eq_true rfl) (gat_17 _ _) rfl rfl (Nat.le_of_ble_eq_true rfl) (Nat.le_of_ble_eq_true rfl) dX7_digest_89) (fun x2 h1 => ?_)
      refine g_i2l (pc := 92) dX7_digest_92 ?_
      refine g_cV (pc := 93) (st := []) (fun r hr => gRunV (As := [.long (x2.toInt64)]) 17 (ge_X7_mix γ (x2.toInt64) h1) hr wv_RX7_264 rfl (Nat.le_of_ble_eq_true rfl) (gat_17 _ _) rfl rfl (Nat.le_of_ble_eq_true rfl) (Nat.le_of_ble_eq_true rfl) dX7_digest_93) (fun h3 => ?_)
      refine g_iinc (pc := 96) (q := 1) (v := a1 + 1) (lv' := [(1, .int (a1 + 1)), (0, .ref (gad γ 17))]) dX7_digest_96 rfl rfl (by decide) rfl ?_
      refine g_goto (pc := 99) (tgt := 65) dX7_digest_99 (by decide) ?_
      exact g_sub [1, 0] rfl (ih (a1 + 1) h3)
set_option maxRecDepth 20000 in
theorem glp_X7_digest_38 (γ : Gv)  : ∀ (n : Nat) (a1 : Int32) (h : Hst), G γ RX7 cX7_digest 2 (some .long) [] vL 6 0 38 [(0, .ref (gad γ 17)), (1, .int a1)] [] h (lp_X7_digest_38 n a1 h) := by
  intro n
  induction n with
  | zero => intro a1 h; exact g_none
  | succ n ih =>
    intro a1 h
    rw [lp_X7_digest_38]
    refine g_iload_n (pc := 38) dX7_digest_38 rfl 1 rfl ?_
    refine g_bipush (pc := 39) (v := 7) dX7_digest_39 (by decide) ?_
    refine g_icmp_ge (pc := 41) (tgt := 63) dX7_digest_41 (by decide) ?_ ?_
    · refine g_iconst (pc := 63) (v := 0) dX7_digest_63 (by decide) ?_
      refine g_istore_n (pc := 64) (lv' := [(1, .int 0), (0, .ref (gad γ 17))]) dX7_digest_64 rfl (by decide) rfl ?_
      exact g_sub [1, 0] rfl (glp_X7_digest_65 γ FU 0 h)
    · refine g_aload_n (pc := 44) dX7_digest_44 rfl 0 rfl ?_
      refine g_aload_n (pc := 45) dX7_digest_45 rfl 0 rfl ?_
      refine gf_RX7_7_17 (pc := 46) dX7_digest_46 ?_
      refine g_iconst (pc := 49) (v := 0) dX7_digest_49 (by decide) ?_
      refine g_iload_n (pc := 50) dX7_digest_50 rfl 1 rfl ?_
      refine g_iadd (pc := 51) dX7_digest_51 ?_
      refine g_iald (pc := 52) 18 (gat_18 _ _) dX7_digest_52 ?_
      refine g_i2l (pc := 53) dX7_digest_53 ?_
      refine g_cV (pc := 54) (st := []) (fun r hr => gRunV (As := [.long ((h.1 18 (0 + a1).toNatClampNeg).toInt64)]) 17 (ge_X7_mix γ ((h.1 18 (0 + a1).toNatClampNeg).toInt64) h) hr wv_RX7_264 rfl (Nat.le_of_ble_eq_true rfl) (gat_17 _ _) rfl rfl (Nat.le_of_ble_eq_true rfl) (Nat.le_of_ble_eq_true rfl) dX7_digest_54) (fun h1 => ?_)
      refine g_iinc (pc := 57) (q := 1) (v := a1 + 1) (lv' := [(1, .int (a1 + 1)), (0, .ref (gad γ 17))]) dX7_digest_57 rfl rfl (by decide) rfl ?_
      refine g_goto (pc := 60) (tgt := 38) dX7_digest_60 (by decide) ?_
      exact g_sub [1, 0] rfl (ih (a1 + 1) h1)
set_option maxRecDepth 20000 in
theorem glp_X7_digest_14 (γ : Gv)  : ∀ (n : Nat) (a1 : Int32) (h : Hst), G γ RX7 cX7_digest 2 (some .long) [] vL 6 0 14 [(0, .ref (gad γ 17)), (1, .int a1)] [] h (lp_X7_digest_14 n a1 h) := by
  intro n
  induction n with
  | zero => intro a1 h; exact g_none
  | succ n ih =>
    intro a1 h
    rw [lp_X7_digest_14]
    refine g_iload_n (pc := 14) dX7_digest_14 rfl 1 rfl ?_
    refine g_bipush (pc := 15) (v := 13) dX7_digest_15 (by decide) ?_
    refine g_icmp_ge (pc := 17) (tgt := 36) dX7_digest_17 (by decide) ?_ ?_
    · refine g_iconst (pc := 36) (v := 0) dX7_digest_36 (by decide) ?_
      refine g_istore_n (pc := 37) (lv' := [(1, .int 0), (0, .ref (gad γ 17))]) dX7_digest_37 rfl (by decide) rfl ?_
      exact g_sub [1, 0] rfl (glp_X7_digest_38 γ FU 0 h)
    · refine g_aload_n (pc := 20) dX7_digest_20 rfl 0 rfl ?_
      refine g_aload_n (pc := 21) dX7_digest_21 rfl 0 rfl ?_
      refine g_iload_n (pc := 22) dX7_digest_22 rfl 1 rfl ?_
      refine g_cI (pc := 23) (st := [.ref (gad γ 17)]) (fun r hr => gRunV (As := [.int a1]) 17 (ge_X7_counted γ a1 h) hr wv_RX7_235 rfl (Nat.le_of_ble_eq_true rfl) (gat_17 _ _) rfl rfl (Nat.le_of_ble_eq_true rfl) (Nat.le_of_ble_eq_true rfl) dX7_digest_23) (fun x2 h1 => ?_)
      refine g_i2l (pc := 26) dX7_digest_26 ?_
      refine g_cV (pc := 27) (st := []) (fun r hr => gRunV (As := [.long (x2.toInt64)]) 17 (ge_X7_mix γ (x2.toInt64) h1) hr wv_RX7_264 rfl (Nat.le_of_ble_eq_true rfl) (gat_17 _ _) rfl rfl (Nat.le_of_ble_eq_true rfl) (Nat.le_of_ble_eq_true rfl) dX7_digest_27) (fun h3 => ?_)
      refine g_iinc (pc := 30) (q := 1) (v := a1 + 1) (lv' := [(1, .int (a1 + 1)), (0, .ref (gad γ 17))]) dX7_digest_30 rfl rfl (by decide) rfl ?_
      refine g_goto (pc := 33) (tgt := 14) dX7_digest_33 (by decide) ?_
      exact g_sub [1, 0] rfl (ih (a1 + 1) h3)
set_option maxRecDepth 20000 in
theorem ge_X7_digest (γ : Gv)  (h : Hst) : G γ RX7 cX7_digest 2 (some .long) [] vL 6 0 0 (lv_args 0 [.ref (gad γ 17)]) [] h (f_X7_digest h) := by
  show G γ RX7 cX7_digest 2 (some .long) [] vL 6 0 0 [(0, .ref (gad γ 17))] [] h (f_X7_digest h)
  unfold f_X7_digest
  refine g_aload_n (pc := 0) dX7_digest_0 rfl 0 rfl ?_
  refine g_iconst (pc := 1) (v := 0) dX7_digest_1 (by decide) ?_
  refine pf_RX7_31_17 (pc := 2) dX7_digest_2 ?_
  refine g_nmh (fun h1 => ?_)
  refine g_aload_n (pc := 5) dX7_digest_5 rfl 0 rfl ?_
  refine g_ldc2 (pc := 6) wk_RX7_268 dX7_digest_6 ?_
  refine pf_RX7_260_17 (pc := 9) dX7_digest_9 ?_
  refine g_nmh (fun h2 => ?_)
  refine g_iconst (pc := 12) (v := 0) dX7_digest_12 (by decide) ?_
  refine g_istore_n (pc := 13) (lv' := [(1, .int 0), (0, .ref (gad γ 17))]) dX7_digest_13 rfl (by decide) rfl ?_
  exact g_sub [1, 0] rfl (glp_X7_digest_14 γ FU 0 h2)
