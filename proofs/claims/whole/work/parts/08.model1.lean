def lp_X7_save_54 : Nat → Int32 → Hst → Option (Hst)
  | 0, _, _ => none
  | n + 1, a1, h =>
    (if 514 ≤ a1 then
      gl (hst h 17 1 ((h.1 17 1) + 1)) fun h1 =>
      (some h1)
    else
      gck a1 514 (gck ((514 * (h.1 17 1)) + a1) 3084 (gl (hst h 19 ((514 * (h.1 17 1)) + a1).toNatClampNeg (h.1 18 a1.toNatClampNeg)) fun h2 =>
      ((lp_X7_save_54 n) (a1 + 1) h2))))
def jb_X7_save_52   (h : Hst) : Option (Hst) :=
  (lp_X7_save_54 FU 0 h)
def lp_X7_save_13 : Nat → Int32 → Hst → Option (Hst)
  | 0, _, _ => none
  | n + 1, a1, h =>
    (if 3084 ≤ a1 then
      gl (hst h 17 1 ((h.1 17 1) - 1)) fun h1 =>
      (jb_X7_save_52 h1)
    else
      gck a1 3084 (gck (a1 - 514) 3084 (gl (hst h 19 (a1 - 514).toNatClampNeg (h.1 19 a1.toNatClampNeg)) fun h2 =>
      ((lp_X7_save_13 n) (a1 + 1) h2))))
def f_X7_save  (h : Hst) : Option (Hst) :=
  (if (h.1 17 1) = 6 then
    (lp_X7_save_13 FU 514 h)
  else
    (jb_X7_save_52 h))
set_option maxRecDepth 20000 in
theorem glp_X7_save_54 (γ : Gv)  : ∀ (n : Nat) (a1 : Int32) (h : Hst), G γ RX7 cX7_save 2 none [] vV 0 0 54 [(0, .ref (gad γ 17)), (1, .int a1)] [] h (lp_X7_save_54 n a1 h) := by
  intro n
  induction n with
  | zero => intro a1 h; exact g_none
  | succ n ih =>
    intro a1 h
    rw [lp_X7_save_54]
    refine g_iload_n (pc := 54) dX7_save_54 rfl 1 rfl ?_
    refine g_sipush (pc := 55) (v := 514) dX7_save_55 (by decide) ?_
    refine g_icmp_ge (pc := 58) (tgt := 88) dX7_save_58 (by decide) ?_ ?_
    · refine g_aload_n (pc := 88) dX7_save_88 rfl 0 rfl ?_
      refine g_dup (pc := 89) dX7_save_89 rfl ?_
      refine gf_RX7_35_17 (pc := 90) dX7_save_90 ?_
      refine g_iconst (pc := 93) (v := 1) dX7_save_93 (by decide) ?_
      refine g_iadd (pc := 94) dX7_save_94 ?_
      refine pf_RX7_35_17 (pc := 95) dX7_save_95 ?_
      refine g_nmh (fun h1 => ?_)
      exact g_return (pc := 98) dX7_save_98 rfl rfl
    · refine g_aload_n (pc := 61) dX7_save_61 rfl 0 rfl ?_
      refine gf_RX7_13_17 (pc := 62) dX7_save_62 ?_
      refine g_sipush (pc := 65) (v := 514) dX7_save_65 (by decide) ?_
      refine g_aload_n (pc := 68) dX7_save_68 rfl 0 rfl ?_
      refine gf_RX7_35_17 (pc := 69) dX7_save_69 ?_
      refine g_imul (pc := 72) dX7_save_72 ?_
      refine g_iload_n (pc := 73) dX7_save_73 rfl 1 rfl ?_
      refine g_iadd (pc := 74) dX7_save_74 ?_
      refine g_aload_n (pc := 75) dX7_save_75 rfl 0 rfl ?_
      refine gf_RX7_7_17 (pc := 76) dX7_save_76 ?_
      refine g_iload_n (pc := 79) dX7_save_79 rfl 1 rfl ?_
      refine g_iald (pc := 80) 18 (gat_18 _ _) dX7_save_80 ?_
      refine g_iast (pc := 81) 19 (gat_19 _ _) (gset_19 _ _ _) dX7_save_81 ?_
      refine g_nmh (fun h2 => ?_)
      refine g_iinc (pc := 82) (q := 1) (v := a1 + 1) (lv' := [(1, .int (a1 + 1)), (0, .ref (gad γ 17))]) dX7_save_82 rfl rfl (by decide) rfl ?_
      refine g_goto (pc := 85) (tgt := 54) dX7_save_85 (by decide) ?_
      exact g_sub [1, 0] rfl (ih (a1 + 1) h2)
set_option maxRecDepth 20000 in
theorem gjb_X7_save_52 (γ : Gv)   (h : Hst) : G γ RX7 cX7_save 2 none [] vV 0 0 52 [(0, .ref (gad γ 17))] [] h (jb_X7_save_52 h) := by
  unfold jb_X7_save_52
  refine g_iconst (pc := 52) (v := 0) dX7_save_52 (by decide) ?_
  refine g_istore_n (pc := 53) (lv' := [(1, .int 0), (0, .ref (gad γ 17))]) dX7_save_53 rfl (by decide) rfl ?_
  exact g_sub [1, 0] rfl (glp_X7_save_54 γ FU 0 h)
set_option maxRecDepth 20000 in
theorem glp_X7_save_13 (γ : Gv)  : ∀ (n : Nat) (a1 : Int32) (h : Hst), G γ RX7 cX7_save 2 none [] vV 0 0 13 [(0, .ref (gad γ 17)), (1, .int a1)] [] h (lp_X7_save_13 n a1 h) := by
  intro n
  induction n with
  | zero => intro a1 h; exact g_none
  | succ n ih =>
    intro a1 h
    rw [lp_X7_save_13]
    refine g_iload_n (pc := 13) dX7_save_13 rfl 1 rfl ?_
    refine g_sipush (pc := 14) (v := 3084) dX7_save_14 (by decide) ?_
    refine g_icmp_ge (pc := 17) (tgt := 42) dX7_save_17 (by decide) ?_ ?_
    · refine g_aload_n (pc := 42) dX7_save_42 rfl 0 rfl ?_
      refine g_dup (pc := 43) dX7_save_43 rfl ?_
      refine gf_RX7_35_17 (pc := 44) dX7_save_44 ?_
      refine g_iconst (pc := 47) (v := 1) dX7_save_47 (by decide) ?_
      refine g_isub (pc := 48) dX7_save_48 ?_
      refine pf_RX7_35_17 (pc := 49) dX7_save_49 ?_
      refine g_nmh (fun h1 => ?_)
      exact g_sub [0] rfl (gjb_X7_save_52 γ h1)
    · refine g_aload_n (pc := 20) dX7_save_20 rfl 0 rfl ?_
      refine gf_RX7_13_17 (pc := 21) dX7_save_21 ?_
      refine g_iload_n (pc := 24) dX7_save_24 rfl 1 rfl ?_
      refine g_sipush (pc := 25) (v := 514) dX7_save_25 (by decide) ?_
      refine g_isub (pc := 28) dX7_save_28 ?_
      refine g_aload_n (pc := 29) dX7_save_29 rfl 0 rfl ?_
      refine gf_RX7_13_17 (pc := 30) dX7_save_30 ?_
      refine g_iload_n (pc := 33) dX7_save_33 rfl 1 rfl ?_
      refine g_iald (pc := 34) 19 (gat_19 _ _) dX7_save_34 ?_
      refine g_iast (pc := 35) 19 (gat_19 _ _) (gset_19 _ _ _) dX7_save_35 ?_
      refine g_nmh (fun h2 => ?_)
      refine g_iinc (pc := 36) (q := 1) (v := a1 + 1) (lv' := [(1, .int (a1 + 1)), (0, .ref (gad γ 17))]) dX7_save_36 rfl rfl (by decide) rfl ?_
      refine g_goto (pc := 39) (tgt := 13) dX7_save_39 (by decide) ?_
      exact g_sub [1, 0] rfl (ih (a1 + 1) h2)
set_option maxRecDepth 20000 in
theorem ge_X7_save (γ : Gv)  (h : Hst) : G γ RX7 cX7_save 2 none [] vV 0 0 0 (lv_args 0 [.ref (gad γ 17)]) [] h (f_X7_save h) := by
  show G γ RX7 cX7_save 2 none [] vV 0 0 0 [(0, .ref (gad γ 17))] [] h (f_X7_save h)
  unfold f_X7_save
  refine g_aload_n (pc := 0) dX7_save_0 rfl 0 rfl ?_
  refine gf_RX7_35_17 (pc := 1) dX7_save_1 ?_
  refine g_bipush (pc := 4) (v := 6) dX7_save_4 (by decide) ?_
  refine g_icmp_ne (pc := 6) (tgt := 52) dX7_save_6 (by decide) ?_ ?_
  · exact gjb_X7_save_52 γ h
  · refine g_sipush (pc := 9) (v := 514) dX7_save_9 (by decide) ?_
    refine g_istore_n (pc := 12) (lv' := [(1, .int 514), (0, .ref (gad γ 17))]) dX7_save_12 rfl (by decide) rfl ?_
    exact g_sub [1, 0] rfl (glp_X7_save_13 γ FU 514 h)
def jb_X7_addGrower_18  (s0 : Int32) (h : Hst) : Option (Int32 × Hst) :=
  gl (hst h 17 5 s0) fun h1 =>
  (if (h1.1 17 5) ≤ 0 then
    gbv (f_X7_save h1) fun h2 =>
    gck 7 514 (gck 7 514 (gl (hst h2 18 (7 : Int32).toNatClampNeg ((h2.1 18 (7 : Int32).toNatClampNeg) + 1)) fun h3 =>
    gck 7 514 ((some ((h3.1 18 (7 : Int32).toNatClampNeg) - 1, h3)))))
  else
    (some (0, h1)))
def f_X7_addGrower  (h : Hst) : Option (Int32 × Hst) :=
  gck 7 514 ((if (h.1 18 (7 : Int32).toNatClampNeg) = 8 then
    (jb_X7_addGrower_18 1 h)
  else
    (jb_X7_addGrower_18 0 h)))
set_option maxRecDepth 20000 in
theorem gjb_X7_addGrower_18 (γ : Gv)  (s0 : Int32) (h : Hst) : G γ RX7 cX7_addGrower 1 (some .int) [] vI 1 0 18 [(0, .ref (gad γ 17))] [.int s0, .ref (gad γ 17)] h (jb_X7_addGrower_18 s0 h) := by
  unfold jb_X7_addGrower_18
  refine pf_RX7_31_17 (pc := 18) dX7_addGrower_18 ?_
  refine g_nmh (fun h1 => ?_)
  refine g_aload_n (pc := 21) dX7_addGrower_21 rfl 0 rfl ?_
  refine gf_RX7_31_17 (pc := 22) dX7_addGrower_22 ?_
  refine g_if_le (pc := 25) (tgt := 30) dX7_addGrower_25 (by decide) ?_ ?_
  · refine g_aload_n (pc := 30) dX7_addGrower_30 rfl 0 rfl ?_
    refine g_cV (pc := 31) (st := []) (fun r hr => gRunV (As := []) 17 (ge_X7_save γ h1) hr wv_RX7_56 rfl (Nat.le_of_ble_eq_true rfl) (gat_17 _ _) rfl rfl (Nat.le_of_ble_eq_true rfl) (Nat.le_of_ble_eq_true rfl) dX7_addGrower_31) (fun h2 => ?_)
    refine g_aload_n (pc := 34) dX7_addGrower_34 rfl 0 rfl ?_
    refine gf_RX7_7_17 (pc := 35) dX7_addGrower_35 ?_
    refine g_bipush (pc := 38) (v := 7) dX7_addGrower_38 (by decide) ?_
    refine g_dup2 (pc := 40) dX7_addGrower_40 rfl rfl ?_
    refine g_iald (pc := 41) 18 (gat_18 _ _) dX7_addGrower_41 ?_
    refine g_iconst (pc := 42) (v := 1) dX7_addGrower_42 (by decide) ?_
    refine g_iadd (pc := 43) dX7_addGrower_43 ?_
    refine g_iast (pc := 44) 18 (gat_18 _ _) (gset_18 _ _ _) dX7_addGrower_44 ?_
    refine g_nmh (fun h3 => ?_)
    refine g_aload_n (pc := 45) dX7_addGrower_45 rfl 0 rfl ?_
    refine gf_RX7_7_17 (pc := 46) dX7_addGrower_46 ?_
    refine g_bipush (pc := 49) (v := 7) dX7_addGrower_49 (by decide) ?_
    refine g_iald (pc := 51) 18 (gat_18 _ _) dX7_addGrower_51 ?_
    refine g_iconst (pc := 52) (v := 1) dX7_addGrower_52 (by decide) ?_
    refine g_isub (pc := 53) dX7_addGrower_53 ?_
    exact g_ireturn (pc := 54) (ty := .int) dX7_addGrower_54 rfl rfl rfl
  · refine g_iconst (pc := 28) (v := 0) dX7_addGrower_28 (by decide) ?_
    exact g_ireturn (pc := 29) (ty := .int) dX7_addGrower_29 rfl rfl rfl
set_option maxRecDepth 20000 in
theorem ge_X7_addGrower (γ : Gv)  (h : Hst) : G γ RX7 cX7_addGrower 1 (some .int) [] vI 1 0 0 (lv_args 0 [.ref (gad γ 17)]) [] h (f_X7_addGrower h) := by
  show G γ RX7 cX7_addGrower 1 (some .int) [] vI 1 0 0 [(0, .ref (gad γ 17))] [] h (f_X7_addGrower h)
  unfold f_X7_addGrower
  refine g_aload_n (pc := 0) dX7_addGrower_0 rfl 0 rfl ?_
  refine g_aload_n (pc := 1) dX7_addGrower_1 rfl 0 rfl ?_
  refine gf_RX7_7_17 (pc := 2) dX7_addGrower_2 ?_
  refine g_bipush (pc := 5) (v := 7) dX7_addGrower_5 (by decide) ?_
  refine g_iald (pc := 7) 18 (gat_18 _ _) dX7_addGrower_7 ?_
  refine g_bipush (pc := 8) (v := 8) dX7_addGrower_8 (by decide) ?_
  refine g_icmp_ne (pc := 10) (tgt := 17) dX7_addGrower_10 (by decide) ?_ ?_
  · refine g_iconst (pc := 17) (v := 0) dX7_addGrower_17 (by decide) ?_
    exact gjb_X7_addGrower_18 γ 0 h
  · refine g_iconst (pc := 13) (v := 1) dX7_addGrower_13 (by decide) ?_
    refine g_goto (pc := 14) (tgt := 18) dX7_addGrower_14 (by decide) ?_
    exact gjb_X7_addGrower_18 γ 1 h
def f_X7_thrown  (h : Hst) : Option (Int32 × Hst) :=
  (some (h.1 17 5, h))
set_option maxRecDepth 20000 in
theorem ge_X7_thrown (γ : Gv)  (h : Hst) : G γ RX7 cX7_thrown 1 (some .int) [] vI 0 0 0 (lv_args 0 [.ref (gad γ 17)]) [] h (f_X7_thrown h) := by
  show G γ RX7 cX7_thrown 1 (some .int) [] vI 0 0 0 [(0, .ref (gad γ 17))] [] h (f_X7_thrown h)
  unfold f_X7_thrown
  refine g_aload_n (pc := 0) dX7_thrown_0 rfl 0 rfl ?_
  refine gf_RX7_31_17 (pc := 1) dX7_thrown_1 ?_
  exact g_ireturn (pc := 4) (ty := .int) dX7_thrown_4 rfl rfl rfl
def jb_X7_within_15  (s0 : Int32) (h : Hst) : Option (Int32 × Hst) :=
  (gzr s0 (some (s0, h)))
def jb_X7_within_14   (h : Hst) : Option (Int32 × Hst) :=
  (jb_X7_within_15 0 h)
def f_X7_within (p0 : Int32) (p1 : Int32) (p2 : Int32) (h : Hst) : Option (Int32 × Hst) :=
  (if p0 < p1 then
    (jb_X7_within_14 h)
  else
    (if p2 < p0 then
      (jb_X7_within_14 h)
    else
      (jb_X7_within_15 1 h)))
set_option maxRecDepth 20000 in
theorem gjb_X7_within_15 (γ : Gv)  (s0 : Int32) (h : Hst) : G γ RX7 cX7_within 3 (some .boolean) [] vI 0 0 15 [] [.int s0] h (jb_X7_within_15 s0 h) := by
  unfold jb_X7_within_15
  exact g_zreturn (pc := 15) dX7_within_15 rfl rfl
set_option maxRecDepth 20000 in
theorem gjb_X7_within_14 (γ : Gv)   (h : Hst) : G γ RX7 cX7_within 3 (some .boolean) [] vI 0 0 14 [] [] h (jb_X7_within_14 h) := by
  unfold jb_X7_within_14
  refine g_iconst (pc := 14) (v := 0) dX7_within_14 (by decide) ?_
  exact gjb_X7_within_15 γ 0 h
set_option maxRecDepth 20000 in
theorem ge_X7_within (γ : Gv) (p0 : Int32) (p1 : Int32) (p2 : Int32) (h : Hst) : G γ RX7 cX7_within 3 (some .boolean) [] vI 0 0 0 (lv_args 0 [.int p0, .int p1, .int p2]) [] h (f_X7_within p0 p1 p2 h) := by
  show G γ RX7 cX7_within 3 (some .boolean) [] vI 0 0 0 [(0, .int p0), (1, .int p1), (2, .int p2)] [] h (f_X7_within p0 p1 p2 h)
  unfold f_X7_within
  refine g_iload_n (pc := 0) dX7_within_0 rfl 0 rfl ?_
  refine g_iload_n (pc := 1) dX7_within_1 rfl 1 rfl ?_
  refine g_icmp_lt (pc := 2) (tgt := 14) dX7_within_2 (by decide) ?_ ?_
  · exact g_sub [] rfl (gjb_X7_within_14 γ h)
  · refine g_iload_n (pc := 5) dX7_within_5 rfl 0 rfl ?_
    refine g_iload_n (pc := 6) dX7_within_6 rfl 2 rfl ?_
    refine g_icmp_gt (pc := 7) (tgt := 14) dX7_within_7 (by decide) ?_ ?_
    · exact g_sub [] rfl (gjb_X7_within_14 γ h)
    · refine g_iconst (pc := 10) (v := 1) dX7_within_10 (by decide) ?_
      refine g_goto (pc := 11) (tgt := 15) dX7_within_11 (by decide) ?_
      exact g_sub [] rfl (gjb_X7_within_15 γ 1 h)
def f_X7_isVariety (p0 : Int32) (h : Hst) : Option (Int32 × Hst) :=
  gb (f_X7_within p0 0 4 h) fun x2 h1 =>
  (gzr x2 (some (x2, h1)))
set_option maxRecDepth 20000 in
theorem ge_X7_isVariety (γ : Gv) (p0 : Int32) (h : Hst) : G γ RX7 cX7_isVariety 1 (some .boolean) [] vI 1 0 0 (lv_args 0 [.int p0]) [] h (f_X7_isVariety p0 h) := by
  show G γ RX7 cX7_isVariety 1 (some .boolean) [] vI 1 0 0 [(0, .int p0)] [] h (f_X7_isVariety p0 h)
  unfold f_X7_isVariety
  refine g_iload_n (pc := 0) dX7_isVariety_0 rfl 0 rfl ?_
  refine g_iconst (pc := 1) (v := 0) dX7_isVariety_1 (by decide) ?_
  refine g_iconst (pc := 2) (v := 4) dX7_isVariety_2 (by decide) ?_
  refine g_cI (pc := 3) (st := []) (fun r hr => gRunS (As := [.int p0, .int 0, .int 4]) (ge_X7_within γ p0 0 4 h) hr wv_RX7_38 rfl (Nat.le_of_ble_eq_true rfl) rfl (Nat.le_of_ble_eq_true rfl) (Nat.le_of_ble_eq_true rfl) dX7_isVariety_3) (fun x2 h1 => ?_)
  exact g_zreturn (pc := 6) dX7_isVariety_6 rfl rfl
def f_X7_isGrower (p0 : Int32) (h : Hst) : Option (Int32 × Hst) :=
  gck 7 514 (gb (f_X7_within p0 0 ((h.1 18 (7 : Int32).toNatClampNeg) - 1) h) fun x2 h1 =>
  (gzr x2 (some (x2, h1))))
set_option maxRecDepth 20000 in
theorem ge_X7_isGrower (γ : Gv) (p0 : Int32) (h : Hst) : G γ RX7 cX7_isGrower 2 (some .boolean) [] vI 1 0 0 (lv_args 0 [.ref (gad γ 17), .int p0]) [] h (f_X7_isGrower p0 h) := by
  show G γ RX7 cX7_isGrower 2 (some .boolean) [] vI 1 0 0 [(0, .ref (gad γ 17)), (1, .int p0)] [] h (f_X7_isGrower p0 h)
  unfold f_X7_isGrower
  refine g_iload_n (pc := 0) dX7_isGrower_0 rfl 1 rfl ?_
  refine g_iconst (pc := 1) (v := 0) dX7_isGrower_1 (by decide) ?_
  refine g_aload_n (pc := 2) dX7_isGrower_2 rfl 0 rfl ?_
  refine gf_RX7_7_17 (pc := 3) dX7_isGrower_3 ?_
  refine g_bipush (pc := 6) (v := 7) dX7_isGrower_6 (by decide) ?_
  refine g_iald (pc := 8) 18 (gat_18 _ _) dX7_isGrower_8 ?_
  refine g_iconst (pc := 9) (v := 1) dX7_isGrower_9 (by decide) ?_
  refine g_isub (pc := 10) dX7_isGrower_10 ?_
  refine g_cI (pc := 11) (st := []) (fun r hr => gRunS (As := [.int p0, .int 0, .int ((h.1 18 (7 : Int32).toNatClampNeg) - 1)]) (ge_X7_within γ p0 0 ((h.1 18 (7 : Int32).toNatClampNeg) - 1) h) hr wv_RX7_38 rfl (Nat.le_of_ble_eq_true rfl) rfl (Nat.le_of_ble_eq_true rfl) (Nat.le_of_ble_eq_true rfl) dX7_isGrower_11) (fun x2 h1 => ?_)
  exact g_zreturn (pc := 14) dX7_isGrower_14 rfl rfl
def jb_X7_refusedLot_88  (s0 : Int32) (h : Hst) : Option (Int32 × Hst) :=
  (some (s0, h))
def jb_X7_refusedLot_48  (a1 : Int32) (s0 : Int32) (h : Hst) : Option (Int32 × Hst) :=
  gb (f_X7_isGrower a1 h) fun x2 h1 =>
  (if x2 = 0 then
    (jb_X7_refusedLot_88 1 h1)
  else
    (if s0 = 0 then
      (jb_X7_refusedLot_88 2 h1)
    else
      gck 8 514 ((if (h1.1 18 (8 : Int32).toNatClampNeg) = 40 then
        (jb_X7_refusedLot_88 3 h1)
      else
        (jb_X7_refusedLot_88 0 h1)))))
def jb_X7_refusedLot_47  (a1 : Int32) (h : Hst) : Option (Int32 × Hst) :=
  (jb_X7_refusedLot_48 a1 0 h)
def f_X7_refusedLot (p0 : Int32) (p1 : Int32) (p2 : Int32) (p3 : Int32) (p4 : Int32) (h : Hst) : Option (Int32 × Hst) :=
  gb (f_X7_isVariety p1 h) fun x2 h1 =>
  (if x2 = 0 then
    (jb_X7_refusedLot_47 p0 h1)
  else
    gb (f_X7_within p2 1 2000 h1) fun x4 h3 =>
    (if x4 = 0 then
      (jb_X7_refusedLot_47 p0 h3)
    else
      gb (f_X7_within p3 0 50 h3) fun x6 h5 =>
      (if x6 = 0 then
        (jb_X7_refusedLot_47 p0 h5)
      else
        gb (f_X7_within p4 500 1500 h5) fun x8 h7 =>
        (if x8 = 0 then
          (jb_X7_refusedLot_47 p0 h7)
        else
          (jb_X7_refusedLot_48 p0 1 h7)))))
set_option maxRecDepth 20000 in
theorem gjb_X7_refusedLot_88 (γ : Gv)  (s0 : Int32) (h : Hst) : G γ RX7 cX7_refusedLot 7 (some .int) [] vI 2 0 88 [] [.int s0] h (jb_X7_refusedLot_88 s0 h) := by
  unfold jb_X7_refusedLot_88
  exact g_ireturn (pc := 88) (ty := .int) dX7_refusedLot_88 rfl rfl rfl
set_option maxRecDepth 20000 in
theorem gjb_X7_refusedLot_48 (γ : Gv)  (a1 : Int32) (s0 : Int32) (h : Hst) : G γ RX7 cX7_refusedLot 7 (some .int) [] vI 2 0 48 [(0, .ref (gad γ 17)), (1, .int a1)] [.int s0] h (jb_X7_refusedLot_48 a1 s0 h) := by
  unfold jb_X7_refusedLot_48
  refine g_istore (pc := 48) (lv' := [(6, .int s0), (0, .ref (gad γ 17)), (1, .int a1)]) dX7_refusedLot_48 (by decide) rfl ?_
  refine g_aload_n (pc := 50) dX7_refusedLot_50 rfl 1 rfl ?_
  refine g_iload_n (pc := 51) dX7_refusedLot_51 rfl 2 rfl ?_
  refine g_cI (pc := 52) (st := []) (fun r hr => gRunV (As := [.int a1]) 17 (ge_X7_isGrower γ a1 h) hr wv_RX7_63 rfl (Nat.le_of_ble_eq_true rfl) (gat_17 _ _) rfl rfl (Nat.le_of_ble_eq_true rfl) (Nat.le_of_ble_eq_true rfl) dX7_refusedLot_52) (fun x2 h1 => ?_)
  refine g_if_ne (pc := 55) (tgt := 62) dX7_refusedLot_55 (by decide) ?_ ?_
  · refine g_iload (pc := 62) dX7_refusedLot_62 0 rfl ?_
    refine g_if_ne (pc := 64) (tgt := 71) dX7_refusedLot_64 (by decide) ?_ ?_
    · refine g_aload_n (pc := 71) dX7_refusedLot_71 rfl 1 rfl ?_
      refine gf_RX7_7_17 (pc := 72) dX7_refusedLot_72 ?_
      refine g_bipush (pc := 75) (v := 8) dX7_refusedLot_75 (by decide) ?_
      refine g_iald (pc := 77) 18 (gat_18 _ _) dX7_refusedLot_77 ?_
      refine g_bipush (pc := 78) (v := 40) dX7_refusedLot_78 (by decide) ?_
      refine g_icmp_ne (pc := 80) (tgt := 87) dX7_refusedLot_80 (by decide) ?_ ?_
      · refine g_iconst (pc := 87) (v := 0) dX7_refusedLot_87 (by decide) ?_
        exact g_sub [] rfl (gjb_X7_refusedLot_88 γ 0 h1)
      · refine g_iconst (pc := 83) (v := 3) dX7_refusedLot_83 (by decide) ?_
        refine g_goto (pc := 84) (tgt := 88) dX7_refusedLot_84 (by decide) ?_
        exact g_sub [] rfl (gjb_X7_refusedLot_88 γ 3 h1)
    · refine g_iconst (pc := 67) (v := 2) dX7_refusedLot_67 (by decide) ?_
      refine g_goto (pc := 68) (tgt := 88) dX7_refusedLot_68 (by decide) ?_
      exact g_sub [] rfl (gjb_X7_refusedLot_88 γ 2 h1)
  · refine g_iconst (pc := 58) (v := 1) dX7_refusedLot_58 (by decide) ?_
    refine g_goto (pc := 59) (tgt := 88) dX7_refusedLot_59 (by decide) ?_
    exact g_sub [] rfl (gjb_X7_refusedLot_88 γ 1 h1)
set_option maxRecDepth 20000 in
theorem gjb_X7_refusedLot_47 (γ : Gv)  (a1 : Int32) (h : Hst) : G γ RX7 cX7_refusedLot 7 (some .int) [] vI 2 0 47 [(0, .ref (gad γ 17)), (1, .int a1)] [] h (jb_X7_refusedLot_47 a1 h) := by
  unfold jb_X7_refusedLot_47
  refine g_iconst (pc := 47) (v := 0) dX7_refusedLot_47 (by decide) ?_
  exact gjb_X7_refusedLot_48 γ a1 0 h
set_option maxRecDepth 20000 in
theorem ge_X7_refusedLot (γ : Gv) (p0 : Int32) (p1 : Int32) (p2 : Int32) (p3 : Int32) (p4 : Int32) (h : Hst) : G γ RX7 cX7_refusedLot 7 (some .int) [] vI 2 0 0 (lv_args 0 [.ref (gad γ 17), .int p0, .int p1, .int p2, .int p3, .int p4]) [] h (f_X7_refusedLot p0 p1 p2 p3 p4 h) := by
  show G γ RX7 cX7_refusedLot 7 (some .int) [] vI 2 0 0 [(0, .ref (gad γ 17)), (1, .int p0), (2, .int p1), (3, .int p2), (4, .int p3), (5, .int p4)] [] h (f_X7_refusedLot p0 p1 p2 p3 p4 h)
  unfold f_X7_refusedLot
  refine g_iload_n (pc := 0) dX7_refusedLot_0 rfl 2 rfl ?_
  refine g_cI (pc := 1) (st := []) (fun r hr => gRunS (As := [.int p1]) (ge_X7_isVariety γ p1 h) hr wv_RX7_59 rfl (Nat.le_of_ble_eq_true rfl) rfl (Nat.le_of_ble_eq_true rfl) (Nat.le_of_ble_eq_true rfl) dX7_refusedLot_1) (fun x2 h1 => ?_)
  refine g_if_eq (pc := 4) (tgt := 47) dX7_refusedLot_4 (by decide) ?_ ?_
  · exact g_sub [0, 1] rfl (gjb_X7_refusedLot_47 γ p0 h1)
  · refine g_iload_n (pc := 7) dX7_refusedLot_7 rfl 3 rfl ?_
    refine g_iconst (pc := 8) (v := 1) dX7_refusedLot_8 (by decide) ?_
    refine g_sipush (pc := 9) (v := 2000) dX7_refusedLot_9 (by decide) ?_
    refine g_cI (pc := 12) (st := []) (fun r hr => gRunS (As := [.int p2, .int 1, .int 2000]) (ge_X7_within γ p2 1 2000 h1) hr wv_RX7_38 rfl (Nat.le_of_ble_eq_true rfl) rfl (Nat.le_of_ble_eq_true rfl) (Nat.le_of_ble_eq_true rfl) dX7_refusedLot_12) (fun x4 h3 => ?_)
    refine g_if_eq (pc := 15) (tgt := 47) dX7_refusedLot_15 (by decide) ?_ ?_
    · exact g_sub [0, 1] rfl (gjb_X7_refusedLot_47 γ p0 h3)
    · refine g_iload (pc := 18) dX7_refusedLot_18 4 rfl ?_
      refine g_iconst (pc := 20) (v := 0) dX7_refusedLot_20 (by decide) ?_
      refine g_bipush (pc := 21) (v := 50) dX7_refusedLot_21 (by decide) ?_
      refine g_cI (pc := 23) (st := []) (fun r hr => gRunS (As := [.int p3, .int 0, .int 50]) (ge_X7_within γ p3 0 50 h3) hr wv_RX7_38 rfl (Nat.le_of_ble_eq_true rfl) rfl (Nat.le_of_ble_eq_true rfl) (Nat.le_of_ble_eq_true rfl) dX7_refusedLot_23) (fun x6 h5 => ?_)
      refine g_if_eq (pc := 26) (tgt := 47) dX7_refusedLot_26 (by decide) ?_ ?_
      · exact g_sub [0, 1] rfl (gjb_X7_refusedLot_47 γ p0 h5)
      · refine g_iload (pc := 29) dX7_refusedLot_29 5 rfl ?_
        refine g_sipush (pc := 31) (v := 500) dX7_refusedLot_31 (by decide) ?_
        refine g_sipush (pc := 34) (v := 1500) dX7_refusedLot_34 (by decide) ?_
        refine g_cI (pc := 37) (st := []) (fun r hr => gRunS (As := [.int p4, .int 500, .int 1500]) (ge_X7_within γ p4 500 1500 h5) hr wv_RX7_38 rfl (Nat.le_of_ble_eq_true rfl) rfl (Nat.le_of_ble_eq_true rfl) (Nat.le_of_ble_eq_true rfl) dX7_refusedLot_37) (fun x8 h7 => ?_)
        refine g_if_eq (pc := 40) (tgt := 47) dX7_refusedLot_40 (by decide) ?_ ?_
        · exact g_sub [0, 1] rfl (gjb_X7_refusedLot_47 γ p0 h7)
        · refine g_iconst (pc := 43) (v := 1) dX7_refusedLot_43 (by decide) ?_
          refine g_goto (pc := 44) (tgt := 48) dX7_refusedLot_44 (by decide) ?_
          exact g_sub [0, 1] rfl (gjb_X7_refusedLot_48 γ p0 1 h7)
def f_X7_setLot (p0 : Int32) (p1 : Int32) (p2 : Int32) (h : Hst) : Option (Hst) :=
  gck ((72 + (10 * p0)) + p1) 514 (gl (hst h 18 ((72 + (10 * p0)) + p1).toNatClampNeg p2) fun h1 =>
  (some h1))
set_option maxRecDepth 20000 in
theorem ge_X7_setLot (γ : Gv) (p0 : Int32) (p1 : Int32) (p2 : Int32) (h : Hst) : G γ RX7 cX7_setLot 4 none [] vV 0 0 0 (lv_args 0 [.ref (gad γ 17), .int p0, .int p1, .int p2]) [] h (f_X7_setLot p0 p1 p2 h) := by
  show G γ RX7 cX7_setLot 4 none [] vV 0 0 0 [(0, .ref (gad γ 17)), (1, .int p0), (2, .int p1), (3, .int p2)] [] h (f_X7_setLot p0 p1 p2 h)
  unfold f_X7_setLot
  refine g_aload_n (pc := 0) dX7_setLot_0 rfl 0 rfl ?_
  refine gf_RX7_7_17 (pc := 1) dX7_setLot_1 ?_
  refine g_bipush (pc := 4) (v := 72) dX7_setLot_4 (by decide) ?_
  refine g_bipush (pc := 6) (v := 10) dX7_setLot_6 (by decide) ?_
  refine g_iload_n (pc := 8) dX7_setLot_8 rfl 1 rfl ?_
  refine g_imul (pc := 9) dX7_setLot_9 ?_
  refine g_iadd (pc := 10) dX7_setLot_10 ?_
  refine g_iload_n (pc := 11) dX7_setLot_11 rfl 2 rfl ?_
  refine g_iadd (pc := 12) dX7_setLot_12 ?_
  refine g_iload_n (pc := 13) dX7_setLot_13 rfl 3 rfl ?_
  refine g_iast (pc := 14) 18 (gat_18 _ _) (gset_18 _ _ _) dX7_setLot_14 ?_
  refine g_nmh (fun h1 => ?_)
  exact g_return (pc := 15) dX7_setLot_15 rfl rfl
def lp_X7_putLot_74 : Nat → Int32 → Int32 → Hst → Option (Int32 × Hst)
  | 0, _, _, _ => none
  | n + 1, a6, a7, h =>
    (if 9 < a7 then
      (some (a6, h))
    else
      gbv (f_X7_setLot a6 a7 (-1) h) fun h1 =>
      ((lp_X7_putLot_74 n) a6 (a7 + 1) h1))
def f_X7_putLot (p0 : Int32) (p1 : Int32) (p2 : Int32) (p3 : Int32) (p4 : Int32) (h : Hst) : Option (Int32 × Hst) :=
  gck 8 514 (gl (h.1 18 (8 : Int32).toNatClampNeg) fun x1 =>
  gck 8 514 (gck 8 514 (gl (hst h 18 (8 : Int32).toNatClampNeg ((h.1 18 (8 : Int32).toNatClampNeg) + 1)) fun h2 =>
  gbv (f_X7_setLot x1 0 p0 h2) fun h3 =>
  gbv (f_X7_setLot x1 1 p1 h3) fun h4 =>
  gbv (f_X7_setLot x1 2 p2 h4) fun h5 =>
  gbv (f_X7_setLot x1 3 p3 h5) fun h6 =>
  gbv (f_X7_setLot x1 4 p4 h6) fun h7 =>
  gbv (f_X7_setLot x1 5 0 h7) fun h8 =>
  (lp_X7_putLot_74 FU x1 6 h8))))
set_option maxRecDepth 20000 in
theorem glp_X7_putLot_74 (γ : Gv)  : ∀ (n : Nat) (a6 : Int32) (a7 : Int32) (h : Hst), G γ RX7 cX7_putLot 8 (some .int) [] vI 1 0 74 [(0, .ref (gad γ 17)), (6, .int a6), (7, .int a7)] [] h (lp_X7_putLot_74 n a6 a7 h) := by
  intro n
  induction n with
  | zero => intro a6 a7 h; exact g_none
  | succ n ih =>
    intro a6 a7 h
    rw [lp_X7_putLot_74]
    refine g_iload (pc := 74) dX7_putLot_74 2 rfl ?_
    refine g_bipush (pc := 76) (v := 9) dX7_putLot_76 (by decide) ?_
    refine g_icmp_gt (pc := 78) (tgt := 96) dX7_putLot_78 (by decide) ?_ ?_
    · refine g_iload (pc := 96) dX7_putLot_96 1 rfl ?_
      exact g_ireturn (pc := 98) (ty := .int) dX7_putLot_98 rfl rfl rfl
    · refine g_aload_n (pc := 81) dX7_putLot_81 rfl 0 rfl ?_
      refine g_iload (pc := 82) dX7_putLot_82 1 rfl ?_
      refine g_iload (pc := 84) dX7_putLot_84 2 rfl ?_
      refine g_iconst (pc := 86) (v := (-1)) dX7_putLot_86 (by decide) ?_
      refine g_cV (pc := 87) (st := []) (fun r hr => gRunV (As := [.int a6, .int a7, .int (-1)]) 17 (ge_X7_setLot γ a6 a7 (-1) h) hr wv_RX7_66 rfl (Nat.le_of_ble_eq_true rfl) (gat_17 _ _) rfl rfl (Nat.le_of_ble_eq_true rfl) (Nat.le_of_ble_eq_true rfl) dX7_putLot_87) (fun h1 => ?_)
      refine g_iinc (pc := 90) (q := 2) (v := a7 + 1) (lv' := [(7, .int (a7 + 1)), (0, .ref (gad γ 17)), (6, .int a6)]) dX7_putLot_90 rfl rfl (by decide) rfl ?_
      refine g_goto (pc := 93) (tgt := 74) dX7_putLot_93 (by decide) ?_
      exact g_sub [1, 2, 0] rfl (ih a6 (a7 + 1) h1)
set_option maxRecDepth 20000 in
theorem ge_X7_putLot (γ : Gv) (p0 : Int32) (p1 : Int32) (p2 : Int32) (p3 : Int32) (p4 : Int32) (h : Hst) : G γ RX7 cX7_putLot 8 (some .int) [] vI 1 0 0 (lv_args 0 [.ref (gad γ 17), .int p0, .int p1, .int p2, .int p3, .int p4]) [] h (f_X7_putLot p0 p1 p2 p3 p4 h) := by
  show G γ RX7 cX7_putLot 8 (some .int) [] vI 1 0 0 [(0, .ref (gad γ 17)), (1, .int p0), (2, .int p1), (3, .int p2), (4, .int p3), (5, .int p4)] [] h (f_X7_putLot p0 p1 p2 p3 p4 h)
  unfold f_X7_putLot
  refine g_aload_n (pc := 0) dX7_putLot_0 rfl 0 rfl ?_
  refine gf_RX7_7_17 (pc := 1) dX7_putLot_1 ?_
  refine g_bipush (pc := 4) (v := 8) dX7_putLot_4 (by decide) ?_
  refine g_iald (pc := 6) 18 (gat_18 _ _) dX7_putLot_6 ?_
  refine g_nmi (fun x1 => ?_)
  refine g_istore (pc := 7) (lv' := [(6, .int x1), (0, .ref (gad γ 17)), (1, .int p0), (2, .int p1), (3, .int p2), (4, .int p3), (5, .int p4)]) dX7_putLot_7 (by decide) rfl ?_
  refine g_aload_n (pc := 9) dX7_putLot_9 rfl 1 rfl ?_
  refine gf_RX7_7_17 (pc := 10) dX7_putLot_10 ?_
  refine g_bipush (pc := 13) (v := 8) dX7_putLot_13 (by decide) ?_
  refine g_dup2 (pc := 15) dX7_putLot_15 rfl rfl ?_
  refine g_iald (pc := 16) 18 (gat_18 _ _) dX7_putLot_16 ?_
  refine g_iconst (pc := 17) (v := 1) dX7_putLot_17 (by decide) ?_
  refine g_iadd (pc := 18) dX7_putLot_18 ?_
  refine g_iast (pc := 19) 18 (gat_18 _ _) (gset_18 _ _ _) dX7_putLot_19 ?_
  refine g_nmh (fun h2 => ?_)
  refine g_aload_n (pc := 20) dX7_putLot_20 rfl 1 rfl ?_
  refine g_iload (pc := 21) dX7_putLot_21 0 rfl ?_
  refine g_iconst (pc := 23) (v := 0) dX7_putLot_23 (by decide) ?_
  refine g_iload_n (pc := 24) dX7_putLot_24 rfl 2 rfl ?_
  refine g_cV (pc := 25) (st := []) (fun r hr => gRunV (As := [.int x1, .int 0, .int p0]) 17 (ge_X7_setLot γ x1 0 p0 h2) hr wv_RX7_66 rfl (Nat.le_of_ble_eq_true rfl) (gat_17 _ _) rfl rfl (Nat.le_of_ble_eq_true rfl) (Nat.le_of_ble_eq_true rfl) dX7_putLot_25) (fun h3 => ?_)
  refine g_aload_n (pc := 28) dX7_putLot_28 rfl 1 rfl ?_
  refine g_iload (pc := 29) dX7_putLot_29 0 rfl ?_
  refine g_iconst (pc := 31) (v := 1) dX7_putLot_31 (by decide) ?_
  refine g_iload_n (pc := 32) dX7_putLot_32 rfl 3 rfl ?_
  refine g_cV (pc := 33) (st := []) (fun r hr => gRunV (As := [.int x1, .int 1, .int p1]) 17 (ge_X7_setLot γ x1 1 p1 h3) hr wv_RX7_66 rfl (Nat.le_of_ble_eq_true rfl) (gat_17 _ _) rfl rfl (Nat.le_of_ble_eq_true rfl) (Nat.le_of_ble_eq_true rfl) dX7_putLot_33) (fun h4 => ?_)
  refine g_aload_n (pc := 36) dX7_putLot_36 rfl 1 rfl ?_
  refine g_iload (pc := 37) dX7_putLot_37 0 rfl ?_
  refine g_iconst (pc := 39) (v := 2) dX7_putLot_39 (by decide) ?_
  refine g_iload_n (pc := 40) dX7_putLot_40 rfl 4 rfl ?_
  refine g_cV (pc := 41) (st := []) (fun r hr => gRunV (As := [.int x1, .int 2, .int p2]) 17 (ge_X7_setLot γ x1 2 p2 h4) hr wv_RX7_66 rfl (Nat.le_of_ble_eq_true rfl) (gat_17 _ _) rfl rfl (Nat.le_of_ble_eq_true rfl) (Nat.le_of_ble_eq_true rfl) dX7_putLot_41) (fun h5 => ?_)
  refine g_aload_n (pc := 44) dX7_putLot_44 rfl 1 rfl ?_
  refine g_iload (pc := 45) dX7_putLot_45 0 rfl ?_
  refine g_iconst (pc := 47) (v := 3) dX7_putLot_47 (by decide) ?_
  refine g_iload (pc := 48) dX7_putLot_48 5 rfl ?_
  refine g_cV (pc := 50) (st := []) (fun r hr => gRunV (As := [.int x1, .int 3, .int p3]) 17 (ge_X7_setLot γ x1 3 p3 h5) hr wv_RX7_66 rfl (Nat.le_of_ble_eq_true rfl) (gat_17 _ _) rfl rfl (Nat.le_of_ble_eq_true rfl) (Nat.le_of_ble_eq_true rfl) dX7_putLot_50) (fun h6 => ?_)
  refine g_aload_n (pc := 53) dX7_putLot_53 rfl 1 rfl ?_
  refine g_iload (pc := 54) dX7_putLot_54 0 rfl ?_
  refine g_iconst (pc := 56) (v := 4) dX7_putLot_56 (by decide) ?_
  refine g_iload (pc := 57) dX7_putLot_57 6 rfl ?_
  refine g_cV (pc := 59) (st := []) (fun r hr => gRunV (As := [.int x1, .int 4, .int p4]) 17 (ge_X7_setLot γ x1 4 p4 h6) hr wv_RX7_66 rfl (Nat.le_of_ble_eq_true rfl) (gat_17 _ _) rfl rfl (Nat.le_of_ble_eq_true rfl) (Nat.le_of_ble_eq_true rfl) dX7_putLot_59) (fun h7 => ?_)
  refine g_aload_n (pc := 62) dX7_putLot_62 rfl 1 rfl ?_
  refine g_iload (pc := 63) dX7_putLot_63 0 rfl ?_
  refine g_iconst (pc := 65) (v := 5) dX7_putLot_65 (by decide) ?_
  refine g_iconst (pc := 66) (v := 0) dX7_putLot_66 (by decide) ?_
  refine g_cV (pc := 67) (st := []) (fun r hr => gRunV (As := [.int x1, .int 5, .int 0]) 17 (ge_X7_setLot γ x1 5 0 h7) hr wv_RX7_66 rfl (Nat.le_of_ble_eq_true rfl) (gat_17 _ _) rfl rfl (Nat.le_of_ble_eq_true rfl) (Nat.le_of_ble_eq_true rfl) dX7_putLot_67) (fun h8 => ?_)
  refine g_bipush (pc := 70) (v := 6) dX7_putLot_70 (by decide) ?_
  refine g_istore (pc := 72) (lv' := [(7, .int 6), (6, .int x1), (0, .ref (gad γ 17)), (1, .int p0), (2, .int p1), (3, .int p2), (4, .int p3), (5, .int p4)]) dX7_putLot_72 (by decide) rfl ?_
  exact g_sub [2, 1, 0] rfl (glp_X7_putLot_74 γ FU x1 6 h8)
def f_X7_addLot (p0 : Int32) (p1 : Int32) (p2 : Int32) (p3 : Int32) (p4 : Int32) (h : Hst) : Option (Int32 × Hst) :=
  gb (f_X7_refusedLot p0 p1 p2 p3 p4 h) fun x2 h1 =>
  gl (hst h1 17 5 x2) fun h3 =>
  (if (h3.1 17 5) ≤ 0 then
    gbv (f_X7_save h3) fun h4 =>
    gb (f_X7_putLot p0 p1 p2 p3 p4 h4) fun x6 h5 =>
    (some (x6, h5))
  else
    (some (0, h3)))
set_option maxRecDepth 20000 in
theorem ge_X7_addLot (γ : Gv) (p0 : Int32) (p1 : Int32) (p2 : Int32) (p3 : Int32) (p4 : Int32) (h : Hst) : G γ RX7 cX7_addLot 6 (some .int) [] vI 3 0 0 (lv_args 0 [.ref (gad γ 17), .int p0, .int p1, .int p2, .int p3, .int p4]) [] h (f_X7_addLot p0 p1 p2 p3 p4 h) := by
  show G γ RX7 cX7_addLot 6 (some .int) [] vI 3 0 0 [(0, .ref (gad γ 17)), (1, .int p0), (2, .int p1), (3, .int p2), (4, .int p3), (5, .int p4)] [] h (f_X7_addLot p0 p1 p2 p3 p4 h)
  unfold f_X7_addLot
  refine g_aload_n (pc := 0) dX7_addLot_0 rfl 0 rfl ?_
  refine g_aload_n (pc := 1) dX7_addLot_1 rfl 0 rfl ?_
  refine g_iload_n (pc := 2) dX7_addLot_2 rfl 1 rfl ?_
  refine g_iload_n (pc := 3) dX7_addLot_3 rfl 2 rfl ?_
  refine g_iload_n (pc := 4) dX7_addLot_4 rfl 3 rfl ?_
  refine g_iload (pc := 5) dX7_addLot_5 4 rfl ?_
  refine g_iload (pc := 7) dX7_addLot_7 5 rfl ?_
  refine g_cI (pc := 9) (st := [.ref (gad γ 17)]) (fun r hr => gRunV (As := [.int p0, .int p1, .int p2, .int p3, .int p4]) 17 (ge_X7_refusedLot γ p0 p1 p2 p3 p4 h) hr wv_RX7_70 rfl (Nat.le_of_ble_eq_true rfl) (gat_17 _ _) rfl rfl (Nat.le_of_ble_eq_true rfl) (Nat.le_of_ble_eq_true rfl) dX7_addLot_9) (fun x2 h1 => ?_)
  refine pf_RX7_31_17 (pc := 12) dX7_addLot_12 ?_
  refine g_nmh (fun h3 => ?_)
  refine g_aload_n (pc := 15) dX7_addLot_15 rfl 0 rfl ?_
  refine gf_RX7_31_17 (pc := 16) dX7_addLot_16 ?_
  refine g_if_le (pc := 19) (tgt := 24) dX7_addLot_19 (by decide) ?_ ?_
  · refine g_aload_n (pc := 24) dX7_addLot_24 rfl 0 rfl ?_
    refine g_cV (pc := 25) (st := []) (fun r hr => gRunV (As := []) 17 (ge_X7_save γ h3) hr wv_RX7_56 rfl (Nat.le_of_ble_eq_true rfl) (gat_17 _ _) rfl rfl (Nat.le_of_ble_eq_true rfl) (Nat.le_of_ble_eq_true rfl) dX7_addLot_25) (fun h4 => ?_)
    refine g_aload_n (pc := 28) dX7_addLot_28 rfl 0 rfl ?_
    refine g_iload_n (pc := 29) dX7_addLot_29 rfl 1 rfl ?_
    refine g_iload_n (pc := 30) dX7_addLot_30 rfl 2 rfl ?_
    refine g_iload_n (pc := 31) dX7_addLot_31 rfl 3 rfl ?_
    refine g_iload (pc := 32) dX7_addLot_32 4 rfl ?_
    refine g_iload (pc := 34) dX7_addLot_34 5 rfl ?_
    refine g_cI (pc := 36) (st := []) (fun r hr => gRunV (As := [.int p0, .int p1, .int p2, .int p3, .int p4]) 17 (ge_X7_putLot γ p0 p1 p2 p3 p4 h4) hr wv_RX7_74 rfl (Nat.le_of_ble_eq_true rfl) (gat_17 _ _) rfl rfl (Nat.le_of_ble_eq_true rfl) (Nat.le_of_ble_eq_true rfl) dX7_addLot_36) (fun x6 h5 => ?_)
    exact g_ireturn (pc := 39) (ty := .int) dX7_addLot_39 rfl rfl rfl
  · refine g_iconst (pc := 22) (v := 0) dX7_addLot_22 (by decide) ?_
    exact g_ireturn (pc := 23) (ty := .int) dX7_addLot_23 rfl rfl rfl
def jb_X7_addTank_34  (a1 : Int32) (s0 : Int32) (h : Hst) : Option (Int32 × Hst) :=
  gl (hst h 17 5 s0) fun h1 =>
  (if (h1.1 17 5) ≤ 0 then
    gbv (f_X7_save h1) fun h2 =>
    gck 9 514 (gck (472 + (7 * (h2.1 18 (9 : Int32).toNatClampNeg))) 514 (gl (hst h2 18 (472 + (7 * (h2.1 18 (9 : Int32).toNatClampNeg))).toNatClampNeg a1) fun h3 =>
    gck 9 514 (gck 9 514 (gl (hst h3 18 (9 : Int32).toNatClampNeg ((h3.1 18 (9 : Int32).toNatClampNeg) + 1)) fun h4 =>
    gck 9 514 ((some ((h4.1 18 (9 : Int32).toNatClampNeg) - 1, h4)))))))
  else
    (some (0, h1)))
def f_X7_addTank (p0 : Int32) (h : Hst) : Option (Int32 × Hst) :=
  gb (f_X7_within p0 100 20000 h) fun x2 h1 =>
  (if x2 = 0 then
    (jb_X7_addTank_34 p0 1 h1)
  else
    gck 9 514 ((if (h1.1 18 (9 : Int32).toNatClampNeg) = 6 then
      (jb_X7_addTank_34 p0 2 h1)
    else
      (jb_X7_addTank_34 p0 0 h1))))
set_option maxRecDepth 20000 in
theorem gjb_X7_addTank_34 (γ : Gv)  (a1 : Int32) (s0 : Int32) (h : Hst) : G γ RX7 cX7_addTank 2 (some .int) [] vI 1 0 34 [(0, .ref (gad γ 17)), (1, .int a1)] [.int s0, .ref (gad γ 17)] h (jb_X7_addTank_34 a1 s0 h) := by
  unfold jb_X7_addTank_34
  refine pf_RX7_31_17 (pc := 34) dX7_addTank_34 ?_
  refine g_nmh (fun h1 => ?_)
  refine g_aload_n (pc := 37) dX7_addTank_37 rfl 0 rfl ?_
  refine gf_RX7_31_17 (pc := 38) dX7_addTank_38 ?_
  refine g_if_le (pc := 41) (tgt := 46) dX7_addTank_41 (by decide) ?_ ?_
  · refine g_aload_n (pc := 46) dX7_addTank_46 rfl 0 rfl ?_
    refine g_cV (pc := 47) (st := []) (fun r hr => gRunV (As := []) 17 (ge_X7_save γ h1) hr wv_RX7_56 rfl (Nat.le_of_ble_eq_true rfl) (gat_17 _ _) rfl rfl (Nat.le_of_ble_eq_true rfl) (Nat.le_of_ble_eq_true rfl) dX7_addTank_47) (fun h2 => ?_)
    refine g_aload_n (pc := 50) dX7_addTank_50 rfl 0 rfl ?_
    refine gf_RX7_7_17 (pc := 51) dX7_addTank_51 ?_
    refine g_sipush (pc := 54) (v := 472) dX7_addTank_54 (by decide) ?_
    refine g_bipush (pc := 57) (v := 7) dX7_addTank_57 (by decide) ?_
    refine g_aload_n (pc := 59) dX7_addTank_59 rfl 0 rfl ?_
    refine gf_RX7_7_17 (pc := 60) dX7_addTank_60 ?_
    refine g_bipush (pc := 63) (v := 9) dX7_addTank_63 (by decide) ?_
    refine g_iald (pc := 65) 18 (gat_18 _ _) dX7_addTank_65 ?_
    refine g_imul (pc := 66) dX7_addTank_66 ?_
    refine g_iadd (pc := 67) dX7_addTank_67 ?_
    refine g_iload_n (pc := 68) dX7_addTank_68 rfl 1 rfl ?_
    refine g_iast (pc := 69) 18 (gat_18 _ _) (gset_18 _ _ _) dX7_addTank_69 ?_
    refine g_nmh (fun h3 => ?_)
    refine g_aload_n (pc := 70) dX7_addTank_70 rfl 0 rfl ?_
    refine gf_RX7_7_17 (pc := 71) dX7_addTank_71 ?_
    refine g_bipush (pc := 74) (v := 9) dX7_addTank_74 (by decide) ?_
    refine g_dup2 (pc := 76) dX7_addTank_76 rfl rfl ?_
    refine g_iald (pc := 77) 18 (gat_18 _ _) dX7_addTank_77 ?_
    refine g_iconst (pc := 78) (v := 1) dX7_addTank_78 (by decide) ?_
    refine g_iadd (pc := 79) dX7_addTank_79 ?_
    refine g_iast (pc := 80) 18 (gat_18 _ _) (gset_18 _ _ _) dX7_addTank_80 ?_
    refine g_nmh (fun h4 => ?_)
    refine g_aload_n (pc := 81) dX7_addTank_81 rfl 0 rfl ?_
    refine gf_RX7_7_17 (pc := 82) dX7_addTank_82 ?_
    refine g_bipush (pc := 85) (v := 9) dX7_addTank_85 (by decide) ?_
    refine g_iald (pc := 87) 18 (gat_18 _ _) dX7_addTank_87 ?_
    refine g_iconst (pc := 88) (v := 1) dX7_addTank_88 (by decide) ?_
    refine g_isub (pc := 89) dX7_addTank_89 ?_
    exact g_ireturn (pc := 90) (ty := .int) dX7_addTank_90 rfl rfl rfl
  · refine g_iconst (pc := 44) (v := 0) dX7_addTank_44 (by decide) ?_
    exact g_ireturn (pc := 45) (ty := .int) dX7_addTank_45 rfl rfl rfl
set_option maxRecDepth 20000 in
theorem ge_X7_addTank (γ : Gv) (p0 : Int32) (h : Hst) : G γ RX7 cX7_addTank 2 (some .int) [] vI 1 0 0 (lv_args 0 [.ref (gad γ 17), .int p0]) [] h (f_X7_addTank p0 h) := by
  show G γ RX7 cX7_addTank 2 (some .int) [] vI 1 0 0 [(0, .ref (gad γ 17)), (1, .int p0)] [] h (f_X7_addTank p0 h)
  unfold f_X7_addTank
  refine g_aload_n (pc := 0) dX7_addTank_0 rfl 0 rfl ?_
  refine g_iload_n (pc := 1) dX7_addTank_1 rfl 1 rfl ?_
  refine g_bipush (pc := 2) (v := 100) dX7_addTank_2 (by decide) ?_
  refine g_sipush (pc := 4) (v := 20000) dX7_addTank_4 (by decide) ?_
  refine g_cI (pc := 7) (st := [.ref (gad γ 17)]) (fun r hr => gRunS (As := [.int p0, .int 100, .int 20000]) (ge_X7_within γ p0 100 20000 h) hr wv_RX7_38 rfl (Nat.le_of_ble_eq_true rfl) rfl (Nat.le_of_ble_eq_true rfl) (Nat.le_of_ble_eq_true rfl) dX7_addTank_7) (fun x2 h1 => ?_)
  refine g_if_ne (pc := 10) (tgt := 17) dX7_addTank_10 (by decide) ?_ ?_
  · refine g_aload_n (pc := 17) dX7_addTank_17 rfl 0 rfl ?_
    refine gf_RX7_7_17 (pc := 18) dX7_addTank_18 ?_
    refine g_bipush (pc := 21) (v := 9) dX7_addTank_21 (by decide) ?_
    refine g_iald (pc := 23) 18 (gat_18 _ _) dX7_addTank_23 ?_
    refine g_bipush (pc := 24) (v := 6) dX7_addTank_24 (by decide) ?_
    refine g_icmp_ne (pc := 26) (tgt := 33) dX7_addTank_26 (by decide) ?_ ?_
    · refine g_iconst (pc := 33) (v := 0) dX7_addTank_33 (by decide) ?_
      exact gjb_X7_addTank_34 γ p0 0 h1
    · refine g_iconst (pc := 29) (v := 2) dX7_addTank_29 (by decide) ?_
      refine g_goto (pc := 30) (tgt := 34) dX7_addTank_30 (by decide) ?_
      exact gjb_X7_addTank_34 γ p0 2 h1
  · refine g_iconst (pc := 13) (v := 1) dX7_addTank_13 (by decide) ?_
    refine g_goto (pc := 14) (tgt := 34) dX7_addTank_14 (by decide) ?_
    exact gjb_X7_addTank_34 γ p0 1 h1
def jb_X7_setYield_29  (a1 : Int32) (a2 : Int32) (s0 : Int32) (h : Hst) : Option (Int32 × Hst) :=
  gl (hst h 17 5 s0) fun h1 =>
  (if (h1.1 17 5) ≤ 0 then
    gbv (f_X7_save h1) fun h2 =>
    gck (15 + a1) 514 (gl (h2.1 18 (15 + a1).toNatClampNeg) fun x3 =>
    gck (15 + a1) 514 (gl (hst h2 18 (15 + a1).toNatClampNeg a2) fun h4 =>
    (some (x3, h4))))
  else
    (some (0, h1)))
def f_X7_setYield (p0 : Int32) (p1 : Int32) (h : Hst) : Option (Int32 × Hst) :=
  gb (f_X7_isVariety p0 h) fun x2 h1 =>
  (if x2 = 0 then
    (jb_X7_setYield_29 p0 p1 1 h1)
  else
    gb (f_X7_within p1 50 400 h1) fun x4 h3 =>
    (if x4 = 0 then
      (jb_X7_setYield_29 p0 p1 2 h3)
    else
      (jb_X7_setYield_29 p0 p1 0 h3)))
set_option maxRecDepth 20000 in
theorem gjb_X7_setYield_29 (γ : Gv)  (a1 : Int32) (a2 : Int32) (s0 : Int32) (h : Hst) : G γ RX7 cX7_setYield 4 (some .int) [] vI 2 0 29 [(0, .ref (gad γ 17)), (1, .int a1), (2, .int a2)] [.int s0, .ref (gad γ 17)] h (jb_X7_setYield_29 a1 a2 s0 h) := by
  unfold jb_X7_setYield_29
  refine pf_RX7_31_17 (pc := 29) dX7_setYield_29 ?_
  refine g_nmh (fun h1 => ?_)
  refine g_aload_n (pc := 32) dX7_setYield_32 rfl 0 rfl ?_
  refine gf_RX7_31_17 (pc := 33) dX7_setYield_33 ?_
  refine g_if_le (pc := 36) (tgt := 41) dX7_setYield_36 (by decide) ?_ ?_
  · refine g_aload_n (pc := 41) dX7_setYield_41 rfl 0 rfl ?_
    refine g_cV (pc := 42) (st := []) (fun r hr => gRunV (As := []) 17 (ge_X7_save γ h1) hr wv_RX7_56 rfl (Nat.le_of_ble_eq_true rfl) (gat_17 _ _) rfl rfl (Nat.le_of_ble_eq_true rfl) (Nat.le_of_ble_eq_true rfl) dX7_setYield_42) (fun h2 => ?_)
    refine g_aload_n (pc := 45) dX7_setYield_45 rfl 0 rfl ?_
    refine gf_RX7_7_17 (pc := 46) dX7_setYield_46 ?_
    refine g_bipush (pc := 49) (v := 15) dX7_setYield_49 (by decide) ?_
    refine g_iload_n (pc := 51) dX7_setYield_51 rfl 1 rfl ?_
    refine g_iadd (pc := 52) dX7_setYield_52 ?_
    refine g_iald (pc := 53) 18 (gat_18 _ _) dX7_setYield_53 ?_
    refine g_nmi (fun x3 => ?_)
    refine g_istore_n (pc := 54) (lv' := [(3, .int x3), (0, .ref (gad γ 17)), (1, .int a1), (2, .int a2)]) dX7_setYield_54 rfl (by decide) rfl ?_
    refine g_aload_n (pc := 55) dX7_setYield_55 rfl 1 rfl ?_
    refine gf_RX7_7_17 (pc := 56) dX7_setYield_56 ?_
    refine g_bipush (pc := 59) (v := 15) dX7_setYield_59 (by decide) ?_
    refine g_iload_n (pc := 61) dX7_setYield_61 rfl 2 rfl ?_
    refine g_iadd (pc := 62) dX7_setYield_62 ?_
    refine g_iload_n (pc := 63) dX7_setYield_63 rfl 3 rfl ?_
    refine g_iast (pc := 64) 18 (gat_18 _ _) (gset_18 _ _ _) dX7_setYield_64 ?_
    refine g_nmh (fun h4 => ?_)
    refine g_iload_n (pc := 65) dX7_setYield_65 rfl 0 rfl ?_
    exact g_ireturn (pc := 66) (ty := .int) dX7_setYield_66 rfl rfl rfl
  · refine g_iconst (pc := 39) (v := 0) dX7_setYield_39 (by decide) ?_
    exact g_ireturn (pc := 40) (ty := .int) dX7_setYield_40 rfl rfl rfl
set_option maxRecDepth 20000 in
theorem ge_X7_setYield (γ : Gv) (p0 : Int32) (p1 : Int32) (h : Hst) : G γ RX7 cX7_setYield 4 (some .int) [] vI 2 0 0 (lv_args 0 [.ref (gad γ 17), .int p0, .int p1]) [] h (f_X7_setYield p0 p1 h) := by
  show G γ RX7 cX7_setYield 4 (some .int) [] vI 2 0 0 [(0, .ref (gad γ 17)), (1, .int p0), (2, .int p1)] [] h (f_X7_setYield p0 p1 h)
  unfold f_X7_setYield
  refine g_aload_n (pc := 0) dX7_setYield_0 rfl 0 rfl ?_
  refine g_iload_n (pc := 1) dX7_setYield_1 rfl 1 rfl ?_
  refine g_cI (pc := 2) (st := [.ref (gad γ 17)]) (fun r hr => gRunS (As := [.int p0]) (ge_X7_isVariety γ p0 h) hr wv_RX7_59 rfl (Nat.le_of_ble_eq_true rfl) rfl (Nat.le_of_ble_eq_true rfl) (Nat.le_of_ble_eq_true rfl) dX7_setYield_2) (fun x2 h1 => ?_)
  refine g_if_ne (pc := 5) (tgt := 12) dX7_setYield_5 (by decide) ?_ ?_
  · refine g_iload_n (pc := 12) dX7_setYield_12 rfl 2 rfl ?_
    refine g_bipush (pc := 13) (v := 50) dX7_setYield_13 (by decide) ?_
    refine g_sipush (pc := 15) (v := 400) dX7_setYield_15 (by decide) ?_
    refine g_cI (pc := 18) (st := [.ref (gad γ 17)]) (fun r hr => gRunS (As := [.int p1, .int 50, .int 400]) (ge_X7_within γ p1 50 400 h1) hr wv_RX7_38 rfl (Nat.le_of_ble_eq_true rfl) rfl (Nat.le_of_ble_eq_true rfl) (Nat.le_of_ble_eq_true rfl) dX7_setYield_18) (fun x4 h3 => ?_)
    refine g_if_eq (pc := 21) (tgt := 28) dX7_setYield_21 (by decide) ?_ ?_
    · refine g_iconst (pc := 28) (v := 2) dX7_setYield_28 (by decide) ?_
      exact gjb_X7_setYield_29 γ p0 p1 2 h3
    · refine g_iconst (pc := 24) (v := 0) dX7_setYield_24 (by decide) ?_
      refine g_goto (pc := 25) (tgt := 29) dX7_setYield_25 (by decide) ?_
      exact gjb_X7_setYield_29 γ p0 p1 0 h3
  · refine g_iconst (pc := 8) (v := 1) dX7_setYield_8 (by decide) ?_
    refine g_goto (pc := 9) (tgt := 29) dX7_setYield_9 (by decide) ?_
    exact gjb_X7_setYield_29 γ p0 p1 1 h1
def f_X7_isSetting (p0 : Int32) (h : Hst) : Option (Int32 × Hst) :=
  gb (f_X7_within p0 0 6 h) fun x2 h1 =>
  (gzr x2 (some (x2, h1)))
set_option maxRecDepth 20000 in
theorem ge_X7_isSetting (γ : Gv) (p0 : Int32) (h : Hst) : G γ RX7 cX7_isSetting 1 (some .boolean) [] vI 1 0 0 (lv_args 0 [.int p0]) [] h (f_X7_isSetting p0 h) := by
  show G γ RX7 cX7_isSetting 1 (some .boolean) [] vI 1 0 0 [(0, .int p0)] [] h (f_X7_isSetting p0 h)
  unfold f_X7_isSetting
  refine g_iload_n (pc := 0) dX7_isSetting_0 rfl 0 rfl ?_
  refine g_iconst (pc := 1) (v := 0) dX7_isSetting_1 (by decide) ?_
  refine g_bipush (pc := 2) (v := 6) dX7_isSetting_2 (by decide) ?_
  refine g_cI (pc := 4) (st := []) (fun r hr => gRunS (As := [.int p0, .int 0, .int 6]) (ge_X7_within γ p0 0 6 h) hr wv_RX7_38 rfl (Nat.le_of_ble_eq_true rfl) rfl (Nat.le_of_ble_eq_true rfl) (Nat.le_of_ble_eq_true rfl) dX7_isSetting_4) (fun x2 h1 => ?_)
  exact g_zreturn (pc := 7) dX7_isSetting_7 rfl rfl
def f_X7_isValue (p0 : Int32) (p1 : Int32) (h : Hst) : Option (Int32 × Hst) :=
  (if p0 = 0 then
    gb (f_X7_within p1 0 50 h) fun x2 h1 =>
    (gzr x2 (some (x2, h1)))
  else
  (if p0 = 1 then
    gb (f_X7_within p1 500 1000 h) fun x4 h3 =>
    (gzr x4 (some (x4, h3)))
  else
  (if p0 = 2 then
    gb (f_X7_within p1 0 1000 h) fun x6 h5 =>
    (gzr x6 (some (x6, h5)))
  else
  (if p0 = 3 then
    gb (f_X7_within p1 0 50 h) fun x8 h7 =>
    (gzr x8 (some (x8, h7)))
  else
  (if p0 = 4 then
    gb (f_X7_within p1 0 500 h) fun x10 h9 =>
    (gzr x10 (some (x10, h9)))
  else
  (if p0 = 5 then
    gb (f_X7_within p1 0 2 h) fun x12 h11 =>
    (gzr x12 (some (x12, h11)))
  else
  gb (f_X7_within p1 0 500 h) fun x14 h13 =>
  (gzr x14 (some (x14, h13)))))))))
set_option maxRecDepth 20000 in
theorem ge_X7_isValue (γ : Gv) (p0 : Int32) (p1 : Int32) (h : Hst) : G γ RX7 cX7_isValue 2 (some .boolean) [] vI 1 0 0 (lv_args 0 [.int p0, .int p1]) [] h (f_X7_isValue p0 p1 h) := by
  show G γ RX7 cX7_isValue 2 (some .boolean) [] vI 1 0 0 [(0, .int p0), (1, .int p1)] [] h (f_X7_isValue p0 p1 h)
  unfold f_X7_isValue
  refine g_iload_n (pc := 0) dX7_isValue_0 rfl 0 rfl ?_
  refine g_case (c := p0 = 0) (fun c0 => ?_) (fun c0 => ?_)
  · refine g_tswI (pc := 1) (tgt := 40) (off := 39) dX7_isValue_1 (by rw [c0]; decide) (by rw [c0]; decide) (by rw [c0]; decide) (by decide) ?_
    refine g_iload_n (pc := 40) dX7_isValue_40 rfl 1 rfl ?_
    refine g_iconst (pc := 41) (v := 0) dX7_isValue_41 (by decide) ?_
    refine g_bipush (pc := 42) (v := 50) dX7_isValue_42 (by decide) ?_
    refine g_cI (pc := 44) (st := []) (fun r hr => gRunS (As := [.int p1, .int 0, .int 50]) (ge_X7_within γ p1 0 50 h) hr wv_RX7_38 rfl (Nat.le_of_ble_eq_true rfl) rfl (Nat.le_of_ble_eq_true rfl) (Nat.le_of_ble_eq_true rfl) dX7_isValue_44) (fun x2 h1 => ?_)
    exact g_zreturn (pc := 47) dX7_isValue_47 rfl rfl
  refine g_case (c := p0 = 1) (fun c1 => ?_) (fun c1 => ?_)
  · refine g_tswI (pc := 1) (tgt := 48) (off := 47) dX7_isValue_1 (by rw [c1]; decide) (by rw [c1]; decide) (by rw [c1]; decide) (by decide) ?_
    refine g_iload_n (pc := 48) dX7_isValue_48 rfl 1 rfl ?_
    refine g_sipush (pc := 49) (v := 500) dX7_isValue_49 (by decide) ?_
    refine g_sipush (pc := 52) (v := 1000) dX7_isValue_52 (by decide) ?_
    refine g_cI (pc := 55) (st := []) (fun r hr => gRunS (As := [.int p1, .int 500, .int 1000]) (ge_X7_within γ p1 500 1000 h) hr wv_RX7_38 rfl (Nat.le_of_ble_eq_true rfl) rfl (Nat.le_of_ble_eq_true rfl) (Nat.le_of_ble_eq_true rfl) dX7_isValue_55) (fun x4 h3 => ?_)
    exact g_zreturn (pc := 58) dX7_isValue_58 rfl rfl
  refine g_case (c := p0 = 2) (fun c2 => ?_) (fun c2 => ?_)
  · refine g_tswI (pc := 1) (tgt := 59) (off := 58) dX7_isValue_1 (by rw [c2]; decide) (by rw [c2]; decide) (by rw [c2]; decide) (by decide) ?_
    refine g_iload_n (pc := 59) dX7_isValue_59 rfl 1 rfl ?_
    refine g_iconst (pc := 60) (v := 0) dX7_isValue_60 (by decide) ?_
    refine g_sipush (pc := 61) (v := 1000) dX7_isValue_61 (by decide) ?_
    refine g_cI (pc := 64) (st := []) (fun r hr => gRunS (As := [.int p1, .int 0, .int 1000]) (ge_X7_within γ p1 0 1000 h) hr wv_RX7_38 rfl (Nat.le_of_ble_eq_true rfl) rfl (Nat.le_of_ble_eq_true rfl) (Nat.le_of_ble_eq_true rfl) dX7_isValue_64) (fun x6 h5 => ?_)
    exact g_zreturn (pc := 67) dX7_isValue_67 rfl rfl
  refine g_case (c := p0 = 3) (fun c3 => ?_) (fun c3 => ?_)
  · refine g_tswI (pc := 1) (tgt := 40) (off := 39) dX7_isValue_1 (by rw [c3]; decide) (by rw [c3]; decide) (by rw [c3]; decide) (by decide) ?_
    refine g_iload_n (pc := 40) dX7_isValue_40 rfl 1 rfl ?_
    refine g_iconst (pc := 41) (v := 0) dX7_isValue_41 (by decide) ?_
    refine g_bipush (pc := 42) (v := 50) dX7_isValue_42 (by decide) ?_
    refine g_cI (pc := 44) (st := []) (fun r hr => gRunS (As := [.int p1, .int 0, .int 50]) (ge_X7_within γ p1 0 50 h) hr wv_RX7_38 rfl (Nat.le_of_ble_eq_true rfl) rfl (Nat.le_of_ble_eq_true rfl) (Nat.le_of_ble_eq_true rfl) dX7_isValue_44) (fun x8 h7 => ?_)
    exact g_zreturn (pc := 47) dX7_isValue_47 rfl rfl
  refine g_case (c := p0 = 4) (fun c4 => ?_) (fun c4 => ?_)
  · refine g_tswI (pc := 1) (tgt := 75) (off := 74) dX7_isValue_1 (by rw [c4]; decide) (by rw [c4]; decide) (by rw [c4]; decide) (by decide) ?_
    refine g_iload_n (pc := 75) dX7_isValue_75 rfl 1 rfl ?_
    refine g_iconst (pc := 76) (v := 0) dX7_isValue_76 (by decide) ?_
    refine g_sipush (pc := 77) (v := 500) dX7_isValue_77 (by decide) ?_
    refine g_cI (pc := 80) (st := []) (fun r hr => gRunS (As := [.int p1, .int 0, .int 500]) (ge_X7_within γ p1 0 500 h) hr wv_RX7_38 rfl (Nat.le_of_ble_eq_true rfl) rfl (Nat.le_of_ble_eq_true rfl) (Nat.le_of_ble_eq_true rfl) dX7_isValue_80) (fun x10 h9 => ?_)
    exact g_zreturn (pc := 83) dX7_isValue_83 rfl rfl
  refine g_case (c := p0 = 5) (fun c5 => ?_) (fun c5 => ?_)
  · refine g_tswI (pc := 1) (tgt := 68) (off := 67) dX7_isValue_1 (by rw [c5]; decide) (by rw [c5]; decide) (by rw [c5]; decide) (by decide) ?_
    refine g_iload_n (pc := 68) dX7_isValue_68 rfl 1 rfl ?_
    refine g_iconst (pc := 69) (v := 0) dX7_isValue_69 (by decide) ?_
    refine g_iconst (pc := 70) (v := 2) dX7_isValue_70 (by decide) ?_
    refine g_cI (pc := 71) (st := []) (fun r hr => gRunS (As := [.int p1, .int 0, .int 2]) (ge_X7_within γ p1 0 2 h) hr wv_RX7_38 rfl (Nat.le_of_ble_eq_true rfl) rfl (Nat.le_of_ble_eq_true rfl) (Nat.le_of_ble_eq_true rfl) dX7_isValue_71) (fun x12 h11 => ?_)
    exact g_zreturn (pc := 74) dX7_isValue_74 rfl rfl
  refine g_tswO (pc := 1) (tgt := 75) dX7_isValue_1 (by have k := fun (v : Int32) (n : Int) (e : v.toInt = n) (c : ¬ p0 = v) => gne e c; have k0 := k 0 0 (by decide) c0; have k1 := k 1 1 (by decide) c1; have k2 := k 2 2 (by decide) c2; have k3 := k 3 3 (by decide) c3; have k4 := k 4 4 (by decide) c4; have k5 := k 5 5 (by decide) c5; omega) (by decide) ?_
  refine g_iload_n (pc := 75) dX7_isValue_75 rfl 1 rfl ?_
  refine g_iconst (pc := 76) (v := 0) dX7_isValue_76 (by decide) ?_
  refine g_sipush (pc := 77) (v := 500) dX7_isValue_77 (by decide) ?_
  refine g_cI (pc := 80) (st := []) (fun r hr => gRunS (As := [.int p1, .int 0, .int 500]) (ge_X7_within γ p1 0 500 h) hr wv_RX7_38 rfl (Nat.le_of_ble_eq_true rfl) rfl (Nat.le_of_ble_eq_true rfl) (Nat.le_of_ble_eq_true rfl) dX7_isValue_80) (fun x14 h13 => ?_)
  exact g_zreturn (pc := 83) dX7_isValue_83 rfl rfl
def jb_X7_set_25  (a1 : Int32) (a2 : Int32) (s0 : Int32) (h : Hst) : Option (Int32 × Hst) :=
  gl (hst h 17 5 s0) fun h1 =>
  (if (h1.1 17 5) ≤ 0 then
    gbv (f_X7_save h1) fun h2 =>
    gck (0 + a1) 514 (gl (h2.1 18 (0 + a1).toNatClampNeg) fun x3 =>
    gck (0 + a1) 514 (gl (hst h2 18 (0 + a1).toNatClampNeg a2) fun h4 =>
    (some (x3, h4))))
  else
    (some (0, h1)))
def f_X7_set (p0 : Int32) (p1 : Int32) (h : Hst) : Option (Int32 × Hst) :=
  gb (f_X7_isSetting p0 h) fun x2 h1 =>
  (if x2 = 0 then
    (jb_X7_set_25 p0 p1 1 h1)
  else
    gb (f_X7_isValue p0 p1 h1) fun x4 h3 =>
    (if x4 = 0 then
      (jb_X7_set_25 p0 p1 2 h3)
    else
      (jb_X7_set_25 p0 p1 0 h3)))
set_option maxRecDepth 20000 in
theorem gjb_X7_set_25 (γ : Gv)  (a1 : Int32) (a2 : Int32) (s0 : Int32) (h : Hst) : G γ RX7 cX7_set 4 (some .int) [] vI 2 0 25 [(0, .ref (gad γ 17)), (1, .int a1), (2, .int a2)] [.int s0, .ref (gad γ 17)] h (jb_X7_set_25 a1 a2 s0 h) := by
  unfold jb_X7_set_25
  refine pf_RX7_31_17 (pc := 25) dX7_set_25 ?_
  refine g_nmh (fun h1 => ?_)
  refine g_aload_n (pc := 28) dX7_set_28 rfl 0 rfl ?_
  refine gf_RX7_31_17 (pc := 29) dX7_set_29 ?_
  refine g_if_le (pc := 32) (tgt := 37) dX7_set_32 (by decide) ?_ ?_
  · refine g_aload_n (pc := 37) dX7_set_37 rfl 0 rfl ?_
    refine g_cV (pc := 38) (st := []) (fun r hr => gRunV (As := []) 17 (ge_X7_save γ h1) hr wv_RX7_56 rfl (Nat.le_of_ble_eq_true rfl) (gat_17 _ _) rfl rfl (Nat.le_of_ble_eq_true rfl) (Nat.le_of_ble_eq_true rfl) dX7_set_38) (fun h2 => ?_)
    refine g_aload_n (pc := 41) dX7_set_41 rfl 0 rfl ?_
    refine gf_RX7_7_17 (pc := 42) dX7_set_42 ?_
    refine g_iconst (pc := 45) (v := 0) dX7_set_45 (by decide) ?_
    refine g_iload_n (pc := 46) dX7_set_46 rfl 1 rfl ?_
    refine g_iadd (pc := 47) dX7_set_47 ?_
    refine g_iald (pc := 48) 18 (gat_18 _ _) dX7_set_48 ?_
    refine g_nmi (fun x3 => ?_)
    refine g_istore_n (pc := 49) (lv' := [(3, .int x3), (0, .ref (gad γ 17)), (1, .int a1), (2, .int a2)]) dX7_set_49 rfl (by decide) rfl ?_
    refine g_aload_n (pc := 50) dX7_set_50 rfl 1 rfl ?_
    refine gf_RX7_7_17 (pc := 51) dX7_set_51 ?_
    refine g_iconst (pc := 54) (v := 0) dX7_set_54 (by decide) ?_
    refine g_iload_n (pc := 55) dX7_set_55 rfl 2 rfl ?_
    refine g_iadd (pc := 56) dX7_set_56 ?_
    refine g_iload_n (pc := 57) dX7_set_57 rfl 3 rfl ?_
    refine g_iast (pc := 58) 18 (gat_18 _ _) (gset_18 _ _ _) dX7_set_58 ?_
    refine g_nmh (fun h4 => ?_)
    refine g_iload_n (pc := 59) dX7_set_59 rfl 0 rfl ?_
    exact g_ireturn (pc := 60) (ty := .int) dX7_set_60 rfl rfl rfl
  · refine g_iconst (pc := 35) (v := 0) dX7_set_35 (by decide) ?_
    exact g_ireturn (pc := 36) (ty := .int) dX7_set_36 rfl rfl rfl
set_option maxRecDepth 20000 in
theorem ge_X7_set (γ : Gv) (p0 : Int32) (p1 : Int32) (h : Hst) : G γ RX7 cX7_set 4 (some .int) [] vI 2 0 0 (lv_args 0 [.ref (gad γ 17), .int p0, .int p1]) [] h (f_X7_set p0 p1 h) := by
  show G γ RX7 cX7_set 4 (some .int) [] vI 2 0 0 [(0, .ref (gad γ 17)), (1, .int p0), (2, .int p1)] [] h (f_X7_set p0 p1 h)
  unfold f_X7_set
  refine g_aload_n (pc := 0) dX7_set_0 rfl 0 rfl ?_
  refine g_iload_n (pc := 1) dX7_set_1 rfl 1 rfl ?_
  refine g_cI (pc := 2) (st := [.ref (gad γ 17)]) (fun r hr => gRunS (As := [.int p0]) (ge_X7_isSetting γ p0 h) hr wv_RX7_77 rfl (Nat.le_of_ble_eq_true rfl) rfl (Nat.le_of_ble_eq_true rfl) (Nat.le_of_ble_eq_true rfl) dX7_set_2) (fun x2 h1 => ?_)
  refine g_if_ne (pc := 5) (tgt := 12) dX7_set_5 (by decide) ?_ ?_
  · refine g_iload_n (pc := 12) dX7_set_12 rfl 1 rfl ?_
    refine g_iload_n (pc := 13) dX7_set_13 rfl 2 rfl ?_
    refine g_cI (pc := 14) (st := [.ref (gad γ 17)]) (fun r hr => gRunS (As := [.int p0, .int p1]) (ge_X7_isValue γ p0 p1 h1) hr wv_RX7_80 rfl (Nat.le_of_ble_eq_true rfl) rfl (Nat.le_of_ble_eq_true rfl) (Nat.le_of_ble_eq_true rfl) dX7_set_14) (fun x4 h3 => ?_)
    refine g_if_eq (pc := 17) (tgt := 24) dX7_set_17 (by decide) ?_ ?_
    · refine g_iconst (pc := 24) (v := 2) dX7_set_24 (by decide) ?_
      exact gjb_X7_set_25 γ p0 p1 2 h3
    · refine g_iconst (pc := 20) (v := 0) dX7_set_20 (by decide) ?_
      refine g_goto (pc := 21) (tgt := 25) dX7_set_21 (by decide) ?_
      exact gjb_X7_set_25 γ p0 p1 0 h3
  · refine g_iconst (pc := 8) (v := 1) dX7_set_8 (by decide) ?_
    refine g_goto (pc := 9) (tgt := 25) dX7_set_9 (by decide) ?_
    exact gjb_X7_set_25 γ p0 p1 1 h1
def f_X7_isTank (p0 : Int32) (h : Hst) : Option (Int32 × Hst) :=
  gck 9 514 (gb (f_X7_within p0 0 ((h.1 18 (9 : Int32).toNatClampNeg) - 1) h) fun x2 h1 =>
  (gzr x2 (some (x2, h1))))
set_option maxRecDepth 20000 in
theorem ge_X7_isTank (γ : Gv) (p0 : Int32) (h : Hst) : G γ RX7 cX7_isTank 2 (some .boolean) [] vI 1 0 0 (lv_args 0 [.ref (gad γ 17), .int p0]) [] h (f_X7_isTank p0 h) := by
  show G γ RX7 cX7_isTank 2 (some .boolean) [] vI 1 0 0 [(0, .ref (gad γ 17)), (1, .int p0)] [] h (f_X7_isTank p0 h)
  unfold f_X7_isTank
  refine g_iload_n (pc := 0) dX7_isTank_0 rfl 1 rfl ?_
  refine g_iconst (pc := 1) (v := 0) dX7_isTank_1 (by decide) ?_
  refine g_aload_n (pc := 2) dX7_isTank_2 rfl 0 rfl ?_
  refine gf_RX7_7_17 (pc := 3) dX7_isTank_3 ?_
  refine g_bipush (pc := 6) (v := 9) dX7_isTank_6 (by decide) ?_
  refine g_iald (pc := 8) 18 (gat_18 _ _) dX7_isTank_8 ?_
  refine g_iconst (pc := 9) (v := 1) dX7_isTank_9 (by decide) ?_
  refine g_isub (pc := 10) dX7_isTank_10 ?_
  refine g_cI (pc := 11) (st := []) (fun r hr => gRunS (As := [.int p0, .int 0, .int ((h.1 18 (9 : Int32).toNatClampNeg) - 1)]) (ge_X7_within γ p0 0 ((h.1 18 (9 : Int32).toNatClampNeg) - 1) h) hr wv_RX7_38 rfl (Nat.le_of_ble_eq_true rfl) rfl (Nat.le_of_ble_eq_true rfl) (Nat.le_of_ble_eq_true rfl) dX7_isTank_11) (fun x2 h1 => ?_)
  exact g_zreturn (pc := 14) dX7_isTank_14 rfl rfl
def f_X7_ofLot (p0 : Int32) (p1 : Int32) (h : Hst) : Option (Int32 × Hst) :=
  gck ((72 + (10 * p0)) + p1) 514 ((some (h.1 18 ((72 + (10 * p0)) + p1).toNatClampNeg, h)))
set_option maxRecDepth 20000 in
theorem ge_X7_ofLot (γ : Gv) (p0 : Int32) (p1 : Int32) (h : Hst) : G γ RX7 cX7_ofLot 3 (some .int) [] vI 0 0 0 (lv_args 0 [.ref (gad γ 17), .int p0, .int p1]) [] h (f_X7_ofLot p0 p1 h) := by
  show G γ RX7 cX7_ofLot 3 (some .int) [] vI 0 0 0 [(0, .ref (gad γ 17)), (1, .int p0), (2, .int p1)] [] h (f_X7_ofLot p0 p1 h)
  unfold f_X7_ofLot
  refine g_aload_n (pc := 0) dX7_ofLot_0 rfl 0 rfl ?_
  refine gf_RX7_7_17 (pc := 1) dX7_ofLot_1 ?_
  refine g_bipush (pc := 4) (v := 72) dX7_ofLot_4 (by decide) ?_
  refine g_bipush (pc := 6) (v := 10) dX7_ofLot_6 (by decide) ?_
  refine g_iload_n (pc := 8) dX7_ofLot_8 rfl 1 rfl ?_
  refine g_imul (pc := 9) dX7_ofLot_9 ?_
  refine g_iadd (pc := 10) dX7_ofLot_10 ?_
  refine g_iload_n (pc := 11) dX7_ofLot_11 rfl 2 rfl ?_
  refine g_iadd (pc := 12) dX7_ofLot_12 ?_
  refine g_iald (pc := 13) 18 (gat_18 _ _) dX7_ofLot_13 ?_
  exact g_ireturn (pc := 14) (ty := .int) dX7_ofLot_14 rfl rfl rfl
def jb_X7_layMill_32 (R2 : Int32 → Hst → Option (Hst)) (a1 : Int32) (s0 : Int32) (s1 : Int32) (h : Hst) : Option (Hst) :=
  gck s1 40 (gl (hst h 21 s1.toNatClampNeg s0) fun h1 =>
  (R2 (a1 + 1) h1))
def lp_X7_layMill_2 : Nat → Int32 → Hst → Option (Hst)
  | 0, _, _ => none
  | n + 1, a1, h =>
    gck 8 514 ((if (h.1 18 (8 : Int32).toNatClampNeg) ≤ a1 then
      gck 10 514 (gl (hst h 17 7 (h.1 18 (10 : Int32).toNatClampNeg)) fun h1 =>
      gck 11 514 (gl (hst h1 17 8 (h1.1 18 (11 : Int32).toNatClampNeg)) fun h2 =>
      (some h2)))
    else
      gb (f_X7_ofLot a1 5 h) fun x4 h3 =>
      (if x4 = 0 then
        (jb_X7_layMill_32 (lp_X7_layMill_2 n) a1 1 a1 h3)
      else
        (jb_X7_layMill_32 (lp_X7_layMill_2 n) a1 0 a1 h3))))
def f_X7_layMill  (h : Hst) : Option (Hst) :=
  (lp_X7_layMill_2 FU 0 h)
set_option maxRecDepth 20000 in
theorem gjb_X7_layMill_32 (γ : Gv) (R2 : Int32 → Hst → Option (Hst)) (hR2 : ∀ (a1 : Int32) (h : Hst), G γ RX7 cX7_layMill 2 none [] vV 1 0 2 [(0, .ref (gad γ 17)), (1, .int a1)] [] h (R2 a1 h)) (a1 : Int32) (s0 : Int32) (s1 : Int32) (h : Hst) : G γ RX7 cX7_layMill 2 none [] vV 1 0 32 [(0, .ref (gad γ 17)), (1, .int a1)] [.int s0, .int s1, .ref (gad γ 21)] h (jb_X7_layMill_32 R2 a1 s0 s1 h) := by
  unfold jb_X7_layMill_32
  refine g_iast (pc := 32) 21 (gat_21 _ _) (gset_21 _ _ _) dX7_layMill_32 ?_
  refine g_nmh (fun h1 => ?_)
  refine g_iinc (pc := 33) (q := 1) (v := a1 + 1) (lv' := [(1, .int (a1 + 1)), (0, .ref (gad γ 17))]) dX7_layMill_33 rfl rfl (by decide) rfl ?_
  refine g_goto (pc := 36) (tgt := 2) dX7_layMill_36 (by decide) ?_
  exact g_sub [1, 0] rfl (hR2 (a1 + 1) h1)
set_option maxRecDepth 20000 in
theorem glp_X7_layMill_2 (γ : Gv)  : ∀ (n : Nat) (a1 : Int32) (h : Hst), G γ RX7 cX7_layMill 2 none [] vV 1 0 2 [(0, .ref (gad γ 17)), (1, .int a1)] [] h (lp_X7_layMill_2 n a1 h) := by
  intro n
  induction n with
  | zero => intro a1 h; exact g_none
  | succ n ih =>
    intro a1 h
    rw [lp_X7_layMill_2]
    refine g_iload_n (pc := 2) dX7_layMill_2 rfl 1 rfl ?_
    refine g_aload_n (pc := 3) dX7_layMill_3 rfl 0 rfl ?_
    refine gf_RX7_7_17 (pc := 4) dX7_layMill_4 ?_
    refine g_bipush (pc := 7) (v := 8) dX7_layMill_7 (by decide) ?_
    refine g_iald (pc := 9) 18 (gat_18 _ _) dX7_layMill_9 ?_
    refine g_icmp_ge (pc := 10) (tgt := 39) dX7_layMill_10 (by decide) ?_ ?_
    · refine g_aload_n (pc := 39) dX7_layMill_39 rfl 0 rfl ?_
      refine g_aload_n (pc := 40) dX7_layMill_40 rfl 0 rfl ?_
      refine gf_RX7_7_17 (pc := 41) dX7_layMill_41 ?_
      refine g_bipush (pc := 44) (v := 10) dX7_layMill_44 (by decide) ?_
      refine g_iald (pc := 46) 18 (gat_18 _ _) dX7_layMill_46 ?_
      refine pf_RX7_84_17 (pc := 47) dX7_layMill_47 ?_
      refine g_nmh (fun h1 => ?_)
      refine g_aload_n (pc := 50) dX7_layMill_50 rfl 0 rfl ?_
      refine g_aload_n (pc := 51) dX7_layMill_51 rfl 0 rfl ?_
      refine gf_RX7_7_17 (pc := 52) dX7_layMill_52 ?_
      refine g_bipush (pc := 55) (v := 11) dX7_layMill_55 (by decide) ?_
      refine g_iald (pc := 57) 18 (gat_18 _ _) dX7_layMill_57 ?_
      refine pf_RX7_87_17 (pc := 58) dX7_layMill_58 ?_
      refine g_nmh (fun h2 => ?_)
      exact g_return (pc := 61) dX7_layMill_61 rfl rfl
    · refine g_aload_n (pc := 13) dX7_layMill_13 rfl 0 rfl ?_
      refine gf_RX7_19_17 (pc := 14) dX7_layMill_14 ?_
      refine g_iload_n (pc := 17) dX7_layMill_17 rfl 1 rfl ?_
      refine g_aload_n (pc := 18) dX7_layMill_18 rfl 0 rfl ?_
      refine g_iload_n (pc := 19) dX7_layMill_19 rfl 1 rfl ?_
      refine g_iconst (pc := 20) (v := 5) dX7_layMill_20 (by decide) ?_
      refine g_cI (pc := 21) (st := [.int a1, .ref (gad γ 21)]) (fun r hr => gRunV (As := [.int a1, .int 5]) 17 (ge_X7_ofLot γ a1 5 h) hr wv_RX7_50 rfl (Nat.le_of_ble_eq_true rfl) (gat_17 _ _) rfl rfl (Nat.le_of_ble_eq_true rfl) (Nat.le_of_ble_eq_true rfl) dX7_layMill_21) (fun x4 h3 => ?_)
      refine g_if_ne (pc := 24) (tgt := 31) dX7_layMill_24 (by decide) ?_ ?_
      · refine g_iconst (pc := 31) (v := 0) dX7_layMill_31 (by decide) ?_
        exact gjb_X7_layMill_32 γ (lp_X7_layMill_2 n) ih a1 0 a1 h3
      · refine g_iconst (pc := 27) (v := 1) dX7_layMill_27 (by decide) ?_
        refine g_goto (pc := 28) (tgt := 32) dX7_layMill_28 (by decide) ?_
        exact gjb_X7_layMill_32 γ (lp_X7_layMill_2 n) ih a1 1 a1 h3
set_option maxRecDepth 20000 in
theorem ge_X7_layMill (γ : Gv)  (h : Hst) : G γ RX7 cX7_layMill 2 none [] vV 1 0 0 (lv_args 0 [.ref (gad γ 17)]) [] h (f_X7_layMill h) := by
  show G γ RX7 cX7_layMill 2 none [] vV 1 0 0 [(0, .ref (gad γ 17))] [] h (f_X7_layMill h)
  unfold f_X7_layMill
  refine g_iconst (pc := 0) (v := 0) dX7_layMill_0 (by decide) ?_
  refine g_istore_n (pc := 1) (lv' := [(1, .int 0), (0, .ref (gad γ 17))]) dX7_layMill_1 rfl (by decide) rfl ?_
  exact g_sub [1, 0] rfl (glp_X7_layMill_2 γ FU 0 h)
def f_X7_contentBy (p0 : Int32) (p1 : Int32) (h : Hst) : Option (Int32 × Hst) :=
  gb (f_X7_ofLot p1 4 h) fun x2 h1 =>
  gdz 1000 ((some ((p0 * x2) / 1000, h1)))
set_option maxRecDepth 20000 in
theorem ge_X7_contentBy (γ : Gv) (p0 : Int32) (p1 : Int32) (h : Hst) : G γ RX7 cX7_contentBy 3 (some .int) [] vI 1 0 0 (lv_args 0 [.ref (gad γ 17), .int p0, .int p1]) [] h (f_X7_contentBy p0 p1 h) := by
  show G γ RX7 cX7_contentBy 3 (some .int) [] vI 1 0 0 [(0, .ref (gad γ 17)), (1, .int p0), (2, .int p1)] [] h (f_X7_contentBy p0 p1 h)
  unfold f_X7_contentBy
  refine g_iload_n (pc := 0) dX7_contentBy_0 rfl 1 rfl ?_
  refine g_aload_n (pc := 1) dX7_contentBy_1 rfl 0 rfl ?_
  refine g_iload_n (pc := 2) dX7_contentBy_2 rfl 2 rfl ?_
  refine g_iconst (pc := 3) (v := 4) dX7_contentBy_3 (by decide) ?_
  refine g_cI (pc := 4) (st := [.int p0]) (fun r hr => gRunV (As := [.int p1, .int 4]) 17 (ge_X7_ofLot γ p1 4 h) hr wv_RX7_50 rfl (Nat.le_of_ble_eq_true rfl) (gat_17 _ _) rfl rfl (Nat.le_of_ble_eq_true rfl) (Nat.le_of_ble_eq_true rfl) dX7_contentBy_4) (fun x2 h1 => ?_)
  refine g_imul (pc := 7) dX7_contentBy_7 ?_
  refine g_sipush (pc := 8) (v := 1000) dX7_contentBy_8 (by decide) ?_
  refine g_idiv (pc := 11) dX7_contentBy_11 ?_
  exact g_ireturn (pc := 12) (ty := .int) dX7_contentBy_12 rfl rfl rfl
def jb_X7_firstWaiting_40 (R2 : Int32 → Int32 → Hst → Option (Int32 × Hst)) (a1 : Int32) (a2 : Int32) (h : Hst) : Option (Int32 × Hst) :=
  (R2 a1 (a2 + 1) h)
def jb_X7_firstWaiting_38  (a2 : Int32) (h : Hst) : Option (Int32 × Hst) :=
  (some (a2, h))
def lp_X7_firstWaiting_2 : Nat → Int32 → Int32 → Hst → Option (Int32 × Hst)
  | 0, _, _, _ => none
  | n + 1, a1, a2, h =>
    gck 8 514 ((if (h.1 18 (8 : Int32).toNatClampNeg) ≤ a2 then
      (some ((-1), h))
    else
      gck a2 40 ((if (h.1 21 a2.toNatClampNeg) = 1 then
        (if a1 = (-1) then
          (jb_X7_firstWaiting_38 a2 h)
        else
          gb (f_X7_ofLot a2 1 h) fun x2 h1 =>
          (if x2 = a1 then
            (jb_X7_firstWaiting_38 a2 h1)
          else
            (jb_X7_firstWaiting_40 (lp_X7_firstWaiting_2 n) a1 a2 h1)))
      else
        (jb_X7_firstWaiting_40 (lp_X7_firstWaiting_2 n) a1 a2 h)))))
def f_X7_firstWaiting (p0 : Int32) (h : Hst) : Option (Int32 × Hst) :=
  (lp_X7_firstWaiting_2 FU p0 0 h)
set_option maxRecDepth 20000 in
theorem gjb_X7_firstWaiting_40 (γ : Gv) (R2 : Int32 → Int32 → Hst → Option (Int32 × Hst)) (hR2 : ∀ (a1 : Int32) (a2 : Int32) (h : Hst), G γ RX7 cX7_firstWaiting 3 (some .int) [] vI 1 0 2 [(0, .ref (gad γ 17)), (1, .int a1), (2, .int a2)] [] h (R2 a1 a2 h)) (a1 : Int32) (a2 : Int32) (h : Hst) : G γ RX7 cX7_firstWaiting 3 (some .int) [] vI 1 0 40 [(0, .ref (gad γ 17)), (1, .int a1), (2, .int a2)] [] h (jb_X7_firstWaiting_40 R2 a1 a2 h) := by
  unfold jb_X7_firstWaiting_40
  refine g_iinc (pc := 40) (q := 2) (v := a2 + 1) (lv' := [(2, .int (a2 + 1)), (0, .ref (gad γ 17)), (1, .int a1)]) dX7_firstWaiting_40 rfl rfl (by decide) rfl ?_
  refine g_goto (pc := 43) (tgt := 2) dX7_firstWaiting_43 (by decide) ?_
  exact g_sub [1, 2, 0] rfl (hR2 a1 (a2 + 1) h)
set_option maxRecDepth 20000 in
theorem gjb_X7_firstWaiting_38 (γ : Gv)  (a2 : Int32) (h : Hst) : G γ RX7 cX7_firstWaiting 3 (some .int) [] vI 1 0 38 [(2, .int a2)] [] h (jb_X7_firstWaiting_38 a2 h) := by
  unfold jb_X7_firstWaiting_38
  refine g_iload_n (pc := 38) dX7_firstWaiting_38 rfl 0 rfl ?_
  exact g_ireturn (pc := 39) (ty := .int) dX7_firstWaiting_39 rfl rfl rfl
set_option maxRecDepth 20000 in
theorem glp_X7_firstWaiting_2 (γ : Gv)  : ∀ (n : Nat) (a1 : Int32) (a2 : Int32) (h : Hst), G γ RX7 cX7_firstWaiting 3 (some .int) [] vI 1 0 2 [(0, .ref (gad γ 17)), (1, .int a1), (2, .int a2)] [] h (lp_X7_firstWaiting_2 n a1 a2 h) := by
  intro n
  induction n with
  | zero => intro a1 a2 h; exact g_none
  | succ n ih =>
    intro a1 a2 h
    rw [lp_X7_firstWaiting_2]
    refine g_iload_n (pc := 2) dX7_firstWaiting_2 rfl 2 rfl ?_
    refine g_aload_n (pc := 3) dX7_firstWaiting_3 rfl 0 rfl ?_
    refine gf_RX7_7_17 (pc := 4) dX7_firstWaiting_4 ?_
    refine g_bipush (pc := 7) (v := 8) dX7_firstWaiting_7 (by decide) ?_
    refine g_iald (pc := 9) 18 (gat_18 _ _) dX7_firstWaiting_9 ?_
    refine g_icmp_ge (pc := 10) (tgt := 46) dX7_firstWaiting_10 (by decide) ?_ ?_
    · refine g_iconst (pc := 46) (v := (-1)) dX7_firstWaiting_46 (by decide) ?_
      exact g_ireturn (pc := 47) (ty := .int) dX7_firstWaiting_47 rfl rfl rfl
    · refine g_aload_n (pc := 13) dX7_firstWaiting_13 rfl 0 rfl ?_
      refine gf_RX7_19_17 (pc := 14) dX7_firstWaiting_14 ?_
      refine g_iload_n (pc := 17) dX7_firstWaiting_17 rfl 2 rfl ?_
      refine g_iald (pc := 18) 21 (gat_21 _ _) dX7_firstWaiting_18 ?_
      refine g_iconst (pc := 19) (v := 1) dX7_firstWaiting_19 (by decide) ?_
      refine g_icmp_ne (pc := 20) (tgt := 40) dX7_firstWaiting_20 (by decide) ?_ ?_
      · exact gjb_X7_firstWaiting_40 γ (lp_X7_firstWaiting_2 n) ih a1 a2 h
      · refine g_iload_n (pc := 23) dX7_firstWaiting_23 rfl 1 rfl ?_
        refine g_iconst (pc := 24) (v := (-1)) dX7_firstWaiting_24 (by decide) ?_
        refine g_icmp_eq (pc := 25) (tgt := 38) dX7_firstWaiting_25 (by decide) ?_ ?_
        · exact g_sub [2] rfl (gjb_X7_firstWaiting_38 γ a2 h)
        · refine g_aload_n (pc := 28) dX7_firstWaiting_28 rfl 0 rfl ?_
          refine g_iload_n (pc := 29) dX7_firstWaiting_29 rfl 2 rfl ?_
          refine g_iconst (pc := 30) (v := 1) dX7_firstWaiting_30 (by decide) ?_
          refine g_cI (pc := 31) (st := []) (fun r hr => gRunV (As := [.int a2, .int 1]) 17 (ge_X7_ofLot γ a2 1 h) hr wv_RX7_50 rfl (Nat.le_of_ble_eq_true rfl) (gat_17 _ _) rfl rfl (Nat.le_of_ble_eq_true rfl) (Nat.le_of_ble_eq_true rfl) dX7_firstWaiting_31) (fun x2 h1 => ?_)
          refine g_iload_n (pc := 34) dX7_firstWaiting_34 rfl 1 rfl ?_
          refine g_icmp_ne (pc := 35) (tgt := 40) dX7_firstWaiting_35 (by decide) ?_ ?_
          · exact gjb_X7_firstWaiting_40 γ (lp_X7_firstWaiting_2 n) ih a1 a2 h1
          · exact g_sub [2] rfl (gjb_X7_firstWaiting_38 γ a2 h1)
set_option maxRecDepth 20000 in
theorem ge_X7_firstWaiting (γ : Gv) (p0 : Int32) (h : Hst) : G γ RX7 cX7_firstWaiting 3 (some .int) [] vI 1 0 0 (lv_args 0 [.ref (gad γ 17), .int p0]) [] h (f_X7_firstWaiting p0 h) := by
  show G γ RX7 cX7_firstWaiting 3 (some .int) [] vI 1 0 0 [(0, .ref (gad γ 17)), (1, .int p0)] [] h (f_X7_firstWaiting p0 h)
  unfold f_X7_firstWaiting
  refine g_iconst (pc := 0) (v := 0) dX7_firstWaiting_0 (by decide) ?_
  refine g_istore_n (pc := 1) (lv' := [(2, .int 0), (0, .ref (gad γ 17)), (1, .int p0)]) dX7_firstWaiting_1 rfl (by decide) rfl ?_
  exact g_sub [1, 2, 0] rfl (glp_X7_firstWaiting_2 γ FU p0 0 h)
def jb_X7_layNext_236  (a4 : Int32) (s0 : Int32) (h : Hst) : Option (Int32 × Hst) :=
  gl (hst h 17 15 s0) fun h1 =>
  gl (hst h1 17 14 (a4 - (h1.1 17 15))) fun h2 =>
  (gzr 1 (some (1, h2)))
def jb_X7_layNext_210  (s0 : Int32) (s1 : Int32) (h : Hst) : Option (Int32 × Hst) :=
  gl (s1 + s0) fun x1 =>
  gck 0 514 ((if (h.1 18 (0 : Int32).toNatClampNeg) ≤ x1 then
    gck 0 514 ((jb_X7_layNext_236 x1 (h.1 18 (0 : Int32).toNatClampNeg) h))
  else
    (jb_X7_layNext_236 x1 x1 h)))
def jb_X7_layNext_187  (a2 : Int32) (s0 : Int32) (h : Hst) : Option (Int32 × Hst) :=
  gl (hst h 17 13 s0) fun h1 =>
  (if (h1.1 17 7) = a2 then
    (jb_X7_layNext_210 (h1.1 17 8) (h1.1 17 11) h1)
  else
    (jb_X7_layNext_210 0 (h1.1 17 11) h1))
def jb_X7_layNext_186  (a2 : Int32) (h : Hst) : Option (Int32 × Hst) :=
  (jb_X7_layNext_187 a2 0 h)
def jb_X7_layNext_166  (a1 : Int32) (a2 : Int32) (a3 : Int32) (s0 : Int32) (h : Hst) : Option (Int32 × Hst) :=
  gl (hst h 17 12 s0) fun h1 =>
  (if a3 = 0 then
    (jb_X7_layNext_186 a2 h1)
  else
    (if a1 = 2 then
      (jb_X7_layNext_187 a2 (h1.1 17 8) h1)
    else
      (jb_X7_layNext_186 a2 h1)))
def jb_X7_layNext_165  (a1 : Int32) (a2 : Int32) (a3 : Int32) (h : Hst) : Option (Int32 × Hst) :=
  (jb_X7_layNext_166 a1 a2 a3 0 h)
def jb_X7_layNext_147  (a1 : Int32) (a2 : Int32) (s0 : Int32) (h : Hst) : Option (Int32 × Hst) :=
  (if s0 = 0 then
    (jb_X7_layNext_165 a1 a2 s0 h)
  else
    (if 2 ≤ a1 then
      (jb_X7_layNext_165 a1 a2 s0 h)
    else
      (jb_X7_layNext_166 a1 a2 s0 (h.1 17 8) h)))
def jb_X7_layNext_146  (a1 : Int32) (a2 : Int32) (h : Hst) : Option (Int32 × Hst) :=
  (jb_X7_layNext_147 a1 a2 0 h)
def jb_X7_layNext_50  (a1 : Int32) (s0 : Int32) (h : Hst) : Option (Int32 × Hst) :=
  gl (hst h 17 9 s0) fun h1 =>
  (if (h1.1 17 9) = (-1) then
    (gzr 0 (some (0, h1)))
  else
    gb (f_X7_ofLot (h1.1 17 9) 1 h1) fun x3 h2 =>
    gb (f_X7_ofLot (h2.1 17 9) 2 h2) fun x5 h4 =>
    gck (15 + x3) 514 (gdz 100 (gl (hst h4 17 10 ((x5 * (h4.1 18 (15 + x3).toNatClampNeg)) / 100)) fun h6 =>
    gb (f_X7_contentBy (h6.1 17 10) (h6.1 17 9) h6) fun x8 h7 =>
    gck 1 514 (gdz 1000 (gl (hst h7 17 11 ((x8 * (h7.1 18 (1 : Int32).toNatClampNeg)) / 1000)) fun h9 =>
    (if (h9.1 17 7) = (-1) then
      (jb_X7_layNext_146 a1 x3 h9)
    else
      (if (h9.1 17 7) = x3 then
        (jb_X7_layNext_146 a1 x3 h9)
      else
        (jb_X7_layNext_147 a1 x3 1 h9))))))))
def jb_X7_layNext_26  (a1 : Int32) (s0 : Int32) (h : Hst) : Option (Int32 × Hst) :=
  gl (hst h 17 9 s0) fun h1 =>
  (if (h1.1 17 9) = (-1) then
    gb (f_X7_firstWaiting (-1) h1) fun x3 h2 =>
    (jb_X7_layNext_50 a1 x3 h2)
  else
    (jb_X7_layNext_50 a1 (h1.1 17 9) h1))
def jb_X7_layNext_25  (a1 : Int32) (h : Hst) : Option (Int32 × Hst) :=
  (jb_X7_layNext_26 a1 (-1) h)
def f_X7_layNext (p0 : Int32) (h : Hst) : Option (Int32 × Hst) :=
  (if p0 = 1 then
    (if (h.1 17 7) = (-1) then
      (jb_X7_layNext_25 p0 h)
    else
      gb (f_X7_firstWaiting (h.1 17 7) h) fun x2 h1 =>
      (jb_X7_layNext_26 p0 x2 h1))
  else
    (jb_X7_layNext_25 p0 h))
set_option maxRecDepth 20000 in
theorem gjb_X7_layNext_236 (γ : Gv)  (a4 : Int32) (s0 : Int32) (h : Hst) : G γ RX7 cX7_layNext 5 (some .boolean) [] vI 2 0 236 [(0, .ref (gad γ 17)), (4, .int a4)] [.int s0, .ref (gad γ 17)] h (jb_X7_layNext_236 a4 s0 h) := by
  unfold jb_X7_layNext_236
  refine pf_RX7_111_17 (pc := 236) dX7_layNext_236 ?_
  refine g_nmh (fun h1 => ?_)
  refine g_aload_n (pc := 239) dX7_layNext_239 rfl 0 rfl ?_
  refine g_iload (pc := 240) dX7_layNext_240 1 rfl ?_
  refine g_aload_n (pc := 242) dX7_layNext_242 rfl 0 rfl ?_
  refine gf_RX7_111_17 (pc := 243) dX7_layNext_243 ?_
  refine g_isub (pc := 246) dX7_layNext_246 ?_
  refine pf_RX7_114_17 (pc := 247) dX7_layNext_247 ?_
  refine g_nmh (fun h2 => ?_)
  refine g_iconst (pc := 250) (v := 1) dX7_layNext_250 (by decide) ?_
  exact g_zreturn (pc := 251) dX7_layNext_251 rfl rfl
set_option maxRecDepth 20000 in
theorem gjb_X7_layNext_210 (γ : Gv)  (s0 : Int32) (s1 : Int32) (h : Hst) : G γ RX7 cX7_layNext 5 (some .boolean) [] vI 2 0 210 [(0, .ref (gad γ 17))] [.int s0, .int s1] h (jb_X7_layNext_210 s0 s1 h) := by
  unfold jb_X7_layNext_210
  refine g_iadd (pc := 210) dX7_layNext_210 ?_
  refine g_nmi (fun x1 => ?_)
  refine g_istore (pc := 211) (lv' := [(4, .int x1), (0, .ref (gad γ 17))]) dX7_layNext_211 (by decide) rfl ?_
  refine g_aload_n (pc := 213) dX7_layNext_213 rfl 1 rfl ?_
  refine g_iload (pc := 214) dX7_layNext_214 0 rfl ?_
  refine g_aload_n (pc := 216) dX7_layNext_216 rfl 1 rfl ?_
  refine gf_RX7_7_17 (pc := 217) dX7_layNext_217 ?_
  refine g_iconst (pc := 220) (v := 0) dX7_layNext_220 (by decide) ?_
  refine g_iald (pc := 221) 18 (gat_18 _ _) dX7_layNext_221 ?_
  refine g_icmp_ge (pc := 222) (tgt := 230) dX7_layNext_222 (by decide) ?_ ?_
  · refine g_aload_n (pc := 230) dX7_layNext_230 rfl 1 rfl ?_
    refine gf_RX7_7_17 (pc := 231) dX7_layNext_231 ?_
    refine g_iconst (pc := 234) (v := 0) dX7_layNext_234 (by decide) ?_
    refine g_iald (pc := 235) 18 (gat_18 _ _) dX7_layNext_235 ?_
    exact g_sub [1, 0] rfl (gjb_X7_layNext_236 γ x1 (h.1 18 (0 : Int32).toNatClampNeg) h)
  · refine g_iload (pc := 225) dX7_layNext_225 0 rfl ?_
    refine g_goto (pc := 227) (tgt := 236) dX7_layNext_227 (by decide) ?_
    exact g_sub [1, 0] rfl (gjb_X7_layNext_236 γ x1 x1 h)
set_option maxRecDepth 20000 in
theorem gjb_X7_layNext_187 (γ : Gv)  (a2 : Int32) (s0 : Int32) (h : Hst) : G γ RX7 cX7_layNext 5 (some .boolean) [] vI 2 0 187 [(0, .ref (gad γ 17)), (2, .int a2)] [.int s0, .ref (gad γ 17)] h (jb_X7_layNext_187 a2 s0 h) := by
  unfold jb_X7_layNext_187
  refine pf_RX7_108_17 (pc := 187) dX7_layNext_187 ?_
  refine g_nmh (fun h1 => ?_)
  refine g_aload_n (pc := 190) dX7_layNext_190 rfl 0 rfl ?_
  refine gf_RX7_102_17 (pc := 191) dX7_layNext_191 ?_
  refine g_aload_n (pc := 194) dX7_layNext_194 rfl 0 rfl ?_
  refine gf_RX7_84_17 (pc := 195) dX7_layNext_195 ?_
  refine g_iload_n (pc := 198) dX7_layNext_198 rfl 1 rfl ?_
  refine g_icmp_ne (pc := 199) (tgt := 209) dX7_layNext_199 (by decide) ?_ ?_
  · refine g_iconst (pc := 209) (v := 0) dX7_layNext_209 (by decide) ?_
    exact g_sub [0] rfl (gjb_X7_layNext_210 γ 0 (h1.1 17 11) h1)
  · refine g_aload_n (pc := 202) dX7_layNext_202 rfl 0 rfl ?_
    refine gf_RX7_87_17 (pc := 203) dX7_layNext_203 ?_
    refine g_goto (pc := 206) (tgt := 210) dX7_layNext_206 (by decide) ?_
    exact g_sub [0] rfl (gjb_X7_layNext_210 γ (h1.1 17 8) (h1.1 17 11) h1)
set_option maxRecDepth 20000 in
theorem gjb_X7_layNext_186 (γ : Gv)  (a2 : Int32) (h : Hst) : G γ RX7 cX7_layNext 5 (some .boolean) [] vI 2 0 186 [(0, .ref (gad γ 17)), (2, .int a2)] [.ref (gad γ 17)] h (jb_X7_layNext_186 a2 h) := by
  unfold jb_X7_layNext_186
  refine g_iconst (pc := 186) (v := 0) dX7_layNext_186 (by decide) ?_
  exact gjb_X7_layNext_187 γ a2 0 h
set_option maxRecDepth 20000 in
theorem gjb_X7_layNext_166 (γ : Gv)  (a1 : Int32) (a2 : Int32) (a3 : Int32) (s0 : Int32) (h : Hst) : G γ RX7 cX7_layNext 5 (some .boolean) [] vI 2 0 166 [(0, .ref (gad γ 17)), (1, .int a1), (2, .int a2), (3, .int a3)] [.int s0, .ref (gad γ 17)] h (jb_X7_layNext_166 a1 a2 a3 s0 h) := by
  unfold jb_X7_layNext_166
  refine pf_RX7_105_17 (pc := 166) dX7_layNext_166 ?_
  refine g_nmh (fun h1 => ?_)
  refine g_aload_n (pc := 169) dX7_layNext_169 rfl 0 rfl ?_
  refine g_iload_n (pc := 170) dX7_layNext_170 rfl 3 rfl ?_
  refine g_if_eq (pc := 171) (tgt := 186) dX7_layNext_171 (by decide) ?_ ?_
  · exact g_sub [0, 2] rfl (gjb_X7_layNext_186 γ a2 h1)
  · refine g_iload_n (pc := 174) dX7_layNext_174 rfl 1 rfl ?_
    refine g_iconst (pc := 175) (v := 2) dX7_layNext_175 (by decide) ?_
    refine g_icmp_ne (pc := 176) (tgt := 186) dX7_layNext_176 (by decide) ?_ ?_
    · exact g_sub [0, 2] rfl (gjb_X7_layNext_186 γ a2 h1)
    · refine g_aload_n (pc := 179) dX7_layNext_179 rfl 0 rfl ?_
      refine gf_RX7_87_17 (pc := 180) dX7_layNext_180 ?_
      refine g_goto (pc := 183) (tgt := 187) dX7_layNext_183 (by decide) ?_
      exact g_sub [0, 2] rfl (gjb_X7_layNext_187 γ a2 (h1.1 17 8) h1)
set_option maxRecDepth 20000 in
theorem gjb_X7_layNext_165 (γ : Gv)  (a1 : Int32) (a2 : Int32) (a3 : Int32) (h : Hst) : G γ RX7 cX7_layNext 5 (some .boolean) [] vI 2 0 165 [(0, .ref (gad γ 17)), (1, .int a1), (2, .int a2), (3, .int a3)] [.ref (gad γ 17)] h (jb_X7_layNext_165 a1 a2 a3 h) := by
  unfold jb_X7_layNext_165
  refine g_iconst (pc := 165) (v := 0) dX7_layNext_165 (by decide) ?_
  exact gjb_X7_layNext_166 γ a1 a2 a3 0 h
set_option maxRecDepth 20000 in
theorem gjb_X7_layNext_147 (γ : Gv)  (a1 : Int32) (a2 : Int32) (s0 : Int32) (h : Hst) : G γ RX7 cX7_layNext 5 (some .boolean) [] vI 2 0 147 [(0, .ref (gad γ 17)), (1, .int a1), (2, .int a2)] [.int s0] h (jb_X7_layNext_147 a1 a2 s0 h) := by
  unfold jb_X7_layNext_147
  refine g_istore_n (pc := 147) (lv' := [(3, .int s0), (0, .ref (gad γ 17)), (1, .int a1), (2, .int a2)]) dX7_layNext_147 rfl (by decide) rfl ?_
  refine g_aload_n (pc := 148) dX7_layNext_148 rfl 1 rfl ?_
  refine g_iload_n (pc := 149) dX7_layNext_149 rfl 0 rfl ?_
  refine g_if_eq (pc := 150) (tgt := 165) dX7_layNext_150 (by decide) ?_ ?_
  · exact g_sub [1, 2, 3, 0] rfl (gjb_X7_layNext_165 γ a1 a2 s0 h)
  · refine g_iload_n (pc := 153) dX7_layNext_153 rfl 2 rfl ?_
    refine g_iconst (pc := 154) (v := 2) dX7_layNext_154 (by decide) ?_
    refine g_icmp_ge (pc := 155) (tgt := 165) dX7_layNext_155 (by decide) ?_ ?_
    · exact g_sub [1, 2, 3, 0] rfl (gjb_X7_layNext_165 γ a1 a2 s0 h)
    · refine g_aload_n (pc := 158) dX7_layNext_158 rfl 1 rfl ?_
      refine gf_RX7_87_17 (pc := 159) dX7_layNext_159 ?_
      refine g_goto (pc := 162) (tgt := 166) dX7_layNext_162 (by decide) ?_
      exact g_sub [1, 2, 3, 0] rfl (gjb_X7_layNext_166 γ a1 a2 s0 (h.1 17 8) h)
set_option maxRecDepth 20000 in
theorem gjb_X7_layNext_146 (γ : Gv)  (a1 : Int32) (a2 : Int32) (h : Hst) : G γ RX7 cX7_layNext 5 (some .boolean) [] vI 2 0 146 [(0, .ref (gad γ 17)), (1, .int a1), (2, .int a2)] [] h (jb_X7_layNext_146 a1 a2 h) := by
  unfold jb_X7_layNext_146
  refine g_iconst (pc := 146) (v := 0) dX7_layNext_146 (by decide) ?_
  exact gjb_X7_layNext_147 γ a1 a2 0 h
set_option maxRecDepth 20000 in
theorem gjb_X7_layNext_50 (γ : Gv)  (a1 : Int32) (s0 : Int32) (h : Hst) : G γ RX7 cX7_layNext 5 (some .boolean) [] vI 2 0 50 [(0, .ref (gad γ 17)), (1, .int a1)] [.int s0, .ref (gad γ 17)] h (jb_X7_layNext_50 a1 s0 h) := by
  unfold jb_X7_layNext_50
  refine pf_RX7_93_17 (pc := 50) dX7_layNext_50 ?_
  refine g_nmh (fun h1 => ?_)
  refine g_aload_n (pc := 53) dX7_layNext_53 rfl 0 rfl ?_
  refine gf_RX7_93_17 (pc := 54) dX7_layNext_54 ?_
  refine g_iconst (pc := 57) (v := (-1)) dX7_layNext_57 (by decide) ?_
  refine g_icmp_ne (pc := 58) (tgt := 63) dX7_layNext_58 (by decide) ?_ ?_
  · refine g_aload_n (pc := 63) dX7_layNext_63 rfl 0 rfl ?_
    refine g_aload_n (pc := 64) dX7_layNext_64 rfl 0 rfl ?_
    refine gf_RX7_93_17 (pc := 65) dX7_layNext_65 ?_
    refine g_iconst (pc := 68) (v := 1) dX7_layNext_68 (by decide) ?_
    refine g_cI (pc := 69) (st := []) (fun r hr => gRunV (As := [.int (h1.1 17 9), .int 1]) 17 (ge_X7_ofLot γ (h1.1 17 9) 1 h1) hr wv_RX7_50 rfl (Nat.le_of_ble_eq_true rfl) (gat_17 _ _) rfl rfl (Nat.le_of_ble_eq_true rfl) (Nat.le_of_ble_eq_true rfl) dX7_layNext_69) (fun x3 h2 => ?_)
    refine g_istore_n (pc := 72) (lv' := [(2, .int x3), (0, .ref (gad γ 17)), (1, .int a1)]) dX7_layNext_72 rfl (by decide) rfl ?_
    refine g_aload_n (pc := 73) dX7_layNext_73 rfl 1 rfl ?_
    refine g_aload_n (pc := 74) dX7_layNext_74 rfl 1 rfl ?_
    refine g_aload_n (pc := 75) dX7_layNext_75 rfl 1 rfl ?_
    refine gf_RX7_93_17 (pc := 76) dX7_layNext_76 ?_
    refine g_iconst (pc := 79) (v := 2) dX7_layNext_79 (by decide) ?_
    refine g_cI (pc := 80) (st := [.ref (gad γ 17)]) (fun r hr => gRunV (As := [.int (h2.1 17 9), .int 2]) 17 (ge_X7_ofLot γ (h2.1 17 9) 2 h2) hr wv_RX7_50 rfl (Nat.le_of_ble_eq_true rfl) (gat_17 _ _) rfl rfl (Nat.le_of_ble_eq_true rfl) (Nat.le_of_ble_eq_true rfl) dX7_layNext_80) (fun x5 h4 => ?_)
    refine g_aload_n (pc := 83) dX7_layNext_83 rfl 1 rfl ?_
    refine gf_RX7_7_17 (pc := 84) dX7_layNext_84 ?_
    refine g_bipush (pc := 87) (v := 15) dX7_layNext_87 (by decide) ?_
    refine g_iload_n (pc := 89) dX7_layNext_89 rfl 0 rfl ?_
    refine g_iadd (pc := 90) dX7_layNext_90 ?_
    refine g_iald (pc := 91) 18 (gat_18 _ _) dX7_layNext_91 ?_
    refine g_imul (pc := 92) dX7_layNext_92 ?_
    refine g_bipush (pc := 93) (v := 100) dX7_layNext_93 (by decide) ?_
    refine g_idiv (pc := 95) dX7_layNext_95 ?_
    refine pf_RX7_96_17 (pc := 96) dX7_layNext_96 ?_
    refine g_nmh (fun h6 => ?_)
    refine g_aload_n (pc := 99) dX7_layNext_99 rfl 1 rfl ?_
    refine g_aload_n (pc := 100) dX7_layNext_100 rfl 1 rfl ?_
    refine g_aload_n (pc := 101) dX7_layNext_101 rfl 1 rfl ?_
    refine gf_RX7_96_17 (pc := 102) dX7_layNext_102 ?_
    refine g_aload_n (pc := 105) dX7_layNext_105 rfl 1 rfl ?_
    refine gf_RX7_93_17 (pc := 106) dX7_layNext_106 ?_
    refine g_cI (pc := 109) (st := [.ref (gad γ 17)]) (fun r hr => gRunV (As := [.int (h6.1 17 10), .int (h6.1 17 9)]) 17 (ge_X7_contentBy γ (h6.1 17 10) (h6.1 17 9) h6) hr wv_RX7_99 rfl (Nat.le_of_ble_eq_true rfl) (gat_17 _ _) rfl rfl (Nat.le_of_ble_eq_true rfl) (Nat.le_of_ble_eq_true rfl) dX7_layNext_109) (fun x8 h7 => ?_)
    refine g_aload_n (pc := 112) dX7_layNext_112 rfl 1 rfl ?_
    refine gf_RX7_7_17 (pc := 113) dX7_layNext_113 ?_
    refine g_iconst (pc := 116) (v := 1) dX7_layNext_116 (by decide) ?_
    refine g_iald (pc := 117) 18 (gat_18 _ _) dX7_layNext_117 ?_
    refine g_imul (pc := 118) dX7_layNext_118 ?_
    refine g_sipush (pc := 119) (v := 1000) dX7_layNext_119 (by decide) ?_
    refine g_idiv (pc := 122) dX7_layNext_122 ?_
    refine pf_RX7_102_17 (pc := 123) dX7_layNext_123 ?_
    refine g_nmh (fun h9 => ?_)
    refine g_aload_n (pc := 126) dX7_layNext_126 rfl 1 rfl ?_
    refine gf_RX7_84_17 (pc := 127) dX7_layNext_127 ?_
    refine g_iconst (pc := 130) (v := (-1)) dX7_layNext_130 (by decide) ?_
    refine g_icmp_eq (pc := 131) (tgt := 146) dX7_layNext_131 (by decide) ?_ ?_
    · exact g_sub [1, 2, 0] rfl (gjb_X7_layNext_146 γ a1 x3 h9)
    · refine g_aload_n (pc := 134) dX7_layNext_134 rfl 1 rfl ?_
      refine gf_RX7_84_17 (pc := 135) dX7_layNext_135 ?_
      refine g_iload_n (pc := 138) dX7_layNext_138 rfl 0 rfl ?_
      refine g_icmp_eq (pc := 139) (tgt := 146) dX7_layNext_139 (by decide) ?_ ?_
      · exact g_sub [1, 2, 0] rfl (gjb_X7_layNext_146 γ a1 x3 h9)
      · refine g_iconst (pc := 142) (v := 1) dX7_layNext_142 (by decide) ?_
        refine g_goto (pc := 143) (tgt := 147) dX7_layNext_143 (by decide) ?_
        exact g_sub [1, 2, 0] rfl (gjb_X7_layNext_147 γ a1 x3 1 h9)
  · refine g_iconst (pc := 61) (v := 0) dX7_layNext_61 (by decide) ?_
    exact g_zreturn (pc := 62) dX7_layNext_62 rfl rfl
set_option maxRecDepth 20000 in
theorem gjb_X7_layNext_26 (γ : Gv)  (a1 : Int32) (s0 : Int32) (h : Hst) : G γ RX7 cX7_layNext 5 (some .boolean) [] vI 2 0 26 [(0, .ref (gad γ 17)), (1, .int a1)] [.int s0, .ref (gad γ 17)] h (jb_X7_layNext_26 a1 s0 h) := by
  unfold jb_X7_layNext_26
  refine pf_RX7_93_17 (pc := 26) dX7_layNext_26 ?_
  refine g_nmh (fun h1 => ?_)
  refine g_aload_n (pc := 29) dX7_layNext_29 rfl 0 rfl ?_
  refine g_aload_n (pc := 30) dX7_layNext_30 rfl 0 rfl ?_
  refine gf_RX7_93_17 (pc := 31) dX7_layNext_31 ?_
  refine g_iconst (pc := 34) (v := (-1)) dX7_layNext_34 (by decide) ?_
  refine g_icmp_ne (pc := 35) (tgt := 46) dX7_layNext_35 (by decide) ?_ ?_
  · refine g_aload_n (pc := 46) dX7_layNext_46 rfl 0 rfl ?_
    refine gf_RX7_93_17 (pc := 47) dX7_layNext_47 ?_
    exact gjb_X7_layNext_50 γ a1 (h1.1 17 9) h1
  · refine g_aload_n (pc := 38) dX7_layNext_38 rfl 0 rfl ?_
    refine g_iconst (pc := 39) (v := (-1)) dX7_layNext_39 (by decide) ?_
    refine g_cI (pc := 40) (st := [.ref (gad γ 17)]) (fun r hr => gRunV (As := [.int (-1)]) 17 (ge_X7_firstWaiting γ (-1) h1) hr wv_RX7_90 rfl (Nat.le_of_ble_eq_true rfl) (gat_17 _ _) rfl rfl (Nat.le_of_ble_eq_true rfl) (Nat.le_of_ble_eq_true rfl) dX7_layNext_40) (fun x3 h2 => ?_)
    refine g_goto (pc := 43) (tgt := 50) dX7_layNext_43 (by decide) ?_
    exact gjb_X7_layNext_50 γ a1 x3 h2
set_option maxRecDepth 20000 in
theorem gjb_X7_layNext_25 (γ : Gv)  (a1 : Int32) (h : Hst) : G γ RX7 cX7_layNext 5 (some .boolean) [] vI 2 0 25 [(0, .ref (gad γ 17)), (1, .int a1)] [.ref (gad γ 17)] h (jb_X7_layNext_25 a1 h) := by
  unfold jb_X7_layNext_25
  refine g_iconst (pc := 25) (v := (-1)) dX7_layNext_25 (by decide) ?_
  exact gjb_X7_layNext_26 γ a1 (-1) h
set_option maxRecDepth 20000 in
theorem ge_X7_layNext (γ : Gv) (p0 : Int32) (h : Hst) : G γ RX7 cX7_layNext 5 (some .boolean) [] vI 2 0 0 (lv_args 0 [.ref (gad γ 17), .int p0]) [] h (f_X7_layNext p0 h) := by
  show G γ RX7 cX7_layNext 5 (some .boolean) [] vI 2 0 0 [(0, .ref (gad γ 17)), (1, .int p0)] [] h (f_X7_layNext p0 h)
  unfold f_X7_layNext
  refine g_aload_n (pc := 0) dX7_layNext_0 rfl 0 rfl ?_
  refine g_iload_n (pc := 1) dX7_layNext_1 rfl 1 rfl ?_
  refine g_iconst (pc := 2) (v := 1) dX7_layNext_2 (by decide) ?_
  refine g_icmp_ne (pc := 3) (tgt := 25) dX7_layNext_3 (by decide) ?_ ?_
  · exact gjb_X7_layNext_25 γ p0 h
  · refine g_aload_n (pc := 6) dX7_layNext_6 rfl 0 rfl ?_
    refine gf_RX7_84_17 (pc := 7) dX7_layNext_7 ?_
    refine g_iconst (pc := 10) (v := (-1)) dX7_layNext_10 (by decide) ?_
    refine g_icmp_eq (pc := 11) (tgt := 25) dX7_layNext_11 (by decide) ?_ ?_
    · exact gjb_X7_layNext_25 γ p0 h
    · refine g_aload_n (pc := 14) dX7_layNext_14 rfl 0 rfl ?_
      refine g_aload_n (pc := 15) dX7_layNext_15 rfl 0 rfl ?_
      refine gf_RX7_84_17 (pc := 16) dX7_layNext_16 ?_
      refine g_cI (pc := 19) (st := [.ref (gad γ 17)]) (fun r hr => gRunV (As := [.int (h.1 17 7)]) 17 (ge_X7_firstWaiting γ (h.1 17 7) h) hr wv_RX7_90 rfl (Nat.le_of_ble_eq_true rfl) (gat_17 _ _) rfl rfl (Nat.le_of_ble_eq_true rfl) (Nat.le_of_ble_eq_true rfl) dX7_layNext_19) (fun x2 h1 => ?_)
      refine g_goto (pc := 22) (tgt := 26) dX7_layNext_22 (by decide) ?_
      exact gjb_X7_layNext_26 γ p0 x2 h1
def f_X7_layNextNow  (h : Hst) : Option (Int32 × Hst) :=
  gbv (f_X7_layMill h) fun h1 =>
  gck 5 514 (gb (f_X7_layNext (h1.1 18 (5 : Int32).toNatClampNeg) h1) fun x3 h2 =>
  (gzr x3 (some (x3, h2))))
set_option maxRecDepth 20000 in
theorem ge_X7_layNextNow (γ : Gv)  (h : Hst) : G γ RX7 cX7_layNextNow 1 (some .boolean) [] vI 3 0 0 (lv_args 0 [.ref (gad γ 17)]) [] h (f_X7_layNextNow h) := by
  show G γ RX7 cX7_layNextNow 1 (some .boolean) [] vI 3 0 0 [(0, .ref (gad γ 17))] [] h (f_X7_layNextNow h)
  unfold f_X7_layNextNow
  refine g_aload_n (pc := 0) dX7_layNextNow_0 rfl 0 rfl ?_
  refine g_cV (pc := 1) (st := []) (fun r hr => gRunV (As := []) 17 (ge_X7_layMill γ h) hr wv_RX7_117 rfl (Nat.le_of_ble_eq_true rfl) (gat_17 _ _) rfl rfl (Nat.le_of_ble_eq_true rfl) (Nat.le_of_ble_eq_true rfl) dX7_layNextNow_1) (fun h1 => ?_)
  refine g_aload_n (pc := 4) dX7_layNextNow_4 rfl 0 rfl ?_
  refine g_aload_n (pc := 5) dX7_layNextNow_5 rfl 0 rfl ?_
  refine gf_RX7_7_17 (pc := 6) dX7_layNextNow_6 ?_
  refine g_iconst (pc := 9) (v := 5) dX7_layNextNow_9 (by decide) ?_
  refine g_iald (pc := 10) 18 (gat_18 _ _) dX7_layNextNow_10 ?_
  refine g_cI (pc := 11) (st := []) (fun r hr => gRunV (As := [.int (h1.1 18 (5 : Int32).toNatClampNeg)]) 17 (ge_X7_layNext γ (h1.1 18 (5 : Int32).toNatClampNeg) h1) hr wv_RX7_120 rfl (Nat.le_of_ble_eq_true rfl) (gat_17 _ _) rfl rfl (Nat.le_of_ble_eq_true rfl) (Nat.le_of_ble_eq_true rfl) dX7_layNextNow_11) (fun x3 h2 => ?_)
  exact g_zreturn (pc := 14) dX7_layNextNow_14 rfl rfl
def f_X7_ofTank (p0 : Int32) (p1 : Int32) (h : Hst) : Option (Int32 × Hst) :=
  gck ((472 + (7 * p0)) + p1) 514 ((some (h.1 18 ((472 + (7 * p0)) + p1).toNatClampNeg, h)))
set_option maxRecDepth 20000 in
theorem ge_X7_ofTank (γ : Gv) (p0 : Int32) (p1 : Int32) (h : Hst) : G γ RX7 cX7_ofTank 3 (some .int) [] vI 0 0 0 (lv_args 0 [.ref (gad γ 17), .int p0, .int p1]) [] h (f_X7_ofTank p0 p1 h) := by
  show G γ RX7 cX7_ofTank 3 (some .int) [] vI 0 0 0 [(0, .ref (gad γ 17)), (1, .int p0), (2, .int p1)] [] h (f_X7_ofTank p0 p1 h)
  unfold f_X7_ofTank
  refine g_aload_n (pc := 0) dX7_ofTank_0 rfl 0 rfl ?_
  refine gf_RX7_7_17 (pc := 1) dX7_ofTank_1 ?_
  refine g_sipush (pc := 4) (v := 472) dX7_ofTank_4 (by decide) ?_
  refine g_bipush (pc := 7) (v := 7) dX7_ofTank_7 (by decide) ?_
  refine g_iload_n (pc := 9) dX7_ofTank_9 rfl 1 rfl ?_
  refine g_imul (pc := 10) dX7_ofTank_10 ?_
  refine g_iadd (pc := 11) dX7_ofTank_11 ?_
  refine g_iload_n (pc := 12) dX7_ofTank_12 rfl 2 rfl ?_
  refine g_iadd (pc := 13) dX7_ofTank_13 ?_
  refine g_iald (pc := 14) 18 (gat_18 _ _) dX7_ofTank_14 ?_
  exact g_ireturn (pc := 15) (ty := .int) dX7_ofTank_15 rfl rfl rfl
def lp_X7_oilOf_4 : Nat → Int32 → Int32 → Int32 → Hst → Option (Int32 × Hst)
  | 0, _, _, _, _ => none
  | n + 1, a1, a2, a3, h =>
    (if 5 ≤ a3 then
      (some (a2, h))
    else
      gb (f_X7_ofTank a1 (2 + a3) h) fun x2 h1 =>
      gl (a2 + x2) fun x3 =>
      ((lp_X7_oilOf_4 n) a1 x3 (a3 + 1) h1))
def f_X7_oilOf (p0 : Int32) (h : Hst) : Option (Int32 × Hst) :=
  (lp_X7_oilOf_4 FU p0 0 0 h)
set_option maxRecDepth 20000 in
theorem glp_X7_oilOf_4 (γ : Gv)  : ∀ (n : Nat) (a1 : Int32) (a2 : Int32) (a3 : Int32) (h : Hst), G γ RX7 cX7_oilOf 4 (some .int) [] vI 1 0 4 [(0, .ref (gad γ 17)), (1, .int a1), (2, .int a2), (3, .int a3)] [] h (lp_X7_oilOf_4 n a1 a2 a3 h) := by
  intro n
  induction n with
  | zero => intro a1 a2 a3 h; exact g_none
  | succ n ih =>
    intro a1 a2 a3 h
    rw [lp_X7_oilOf_4]
    refine g_iload_n (pc := 4) dX7_oilOf_4 rfl 3 rfl ?_
    refine g_iconst (pc := 5) (v := 5) dX7_oilOf_5 (by decide) ?_
    refine g_icmp_ge (pc := 6) (tgt := 26) dX7_oilOf_6 (by decide) ?_ ?_
    · refine g_iload_n (pc := 26) dX7_oilOf_26 rfl 2 rfl ?_
      exact g_ireturn (pc := 27) (ty := .int) dX7_oilOf_27 rfl rfl rfl
    · refine g_iload_n (pc := 9) dX7_oilOf_9 rfl 2 rfl ?_
      refine g_aload_n (pc := 10) dX7_oilOf_10 rfl 0 rfl ?_
      refine g_iload_n (pc := 11) dX7_oilOf_11 rfl 1 rfl ?_
      refine g_iconst (pc := 12) (v := 2) dX7_oilOf_12 (by decide) ?_
      refine g_iload_n (pc := 13) dX7_oilOf_13 rfl 3 rfl ?_
      refine g_iadd (pc := 14) dX7_oilOf_14 ?_
      refine g_cI (pc := 15) (st := [.int a2]) (fun r hr => gRunV (As := [.int a1, .int (2 + a3)]) 17 (ge_X7_ofTank γ a1 (2 + a3) h) hr wv_RX7_42 rfl (Nat.le_of_ble_eq_true rfl) (gat_17 _ _) rfl rfl (Nat.le_of_ble_eq_true rfl) (Nat.le_of_ble_eq_true rfl) dX7_oilOf_15) (fun x2 h1 => ?_)
      refine g_iadd (pc := 18) dX7_oilOf_18 ?_
      refine g_nmi (fun x3 => ?_)
      refine g_istore_n (pc := 19) (lv' := [(2, .int x3), (0, .ref (gad γ 17)), (1, .int a1), (3, .int a3)]) dX7_oilOf_19 rfl (by decide) rfl ?_
      refine g_iinc (pc := 20) (q := 3) (v := a3 + 1) (lv' := [(3, .int (a3 + 1)), (2, .int x3), (0, .ref (gad γ 17)), (1, .int a1)]) dX7_oilOf_20 rfl rfl (by decide) rfl ?_
      refine g_goto (pc := 23) (tgt := 4) dX7_oilOf_23 (by decide) ?_
      exact g_sub [2, 3, 1, 0] rfl (ih a1 x3 (a3 + 1) h1)
set_option maxRecDepth 20000 in
theorem ge_X7_oilOf (γ : Gv) (p0 : Int32) (h : Hst) : G γ RX7 cX7_oilOf 4 (some .int) [] vI 1 0 0 (lv_args 0 [.ref (gad γ 17), .int p0]) [] h (f_X7_oilOf p0 h) := by
  show G γ RX7 cX7_oilOf 4 (some .int) [] vI 1 0 0 [(0, .ref (gad γ 17)), (1, .int p0)] [] h (f_X7_oilOf p0 h)
  unfold f_X7_oilOf
  refine g_iconst (pc := 0) (v := 0) dX7_oilOf_0 (by decide) ?_
  refine g_istore_n (pc := 1) (lv' := [(2, .int 0), (0, .ref (gad γ 17)), (1, .int p0)]) dX7_oilOf_1 rfl (by decide) rfl ?_
  refine g_iconst (pc := 2) (v := 0) dX7_oilOf_2 (by decide) ?_
  refine g_istore_n (pc := 3) (lv' := [(3, .int 0), (2, .int 0), (0, .ref (gad γ 17)), (1, .int p0)]) dX7_oilOf_3 rfl (by decide) rfl ?_
  exact g_sub [2, 3, 1, 0] rfl (glp_X7_oilOf_4 γ FU p0 0 0 h)
def f_X7_roomIn (p0 : Int32) (h : Hst) : Option (Int32 × Hst) :=
  gb (f_X7_ofTank p0 0 h) fun x2 h1 =>
  gb (f_X7_oilOf p0 h1) fun x4 h3 =>
  (some (x2 - x4, h3))
set_option maxRecDepth 20000 in
theorem ge_X7_roomIn (γ : Gv) (p0 : Int32) (h : Hst) : G γ RX7 cX7_roomIn 2 (some .int) [] vI 2 0 0 (lv_args 0 [.ref (gad γ 17), .int p0]) [] h (f_X7_roomIn p0 h) := by
  show G γ RX7 cX7_roomIn 2 (some .int) [] vI 2 0 0 [(0, .ref (gad γ 17)), (1, .int p0)] [] h (f_X7_roomIn p0 h)
  unfold f_X7_roomIn
  refine g_aload_n (pc := 0) dX7_roomIn_0 rfl 0 rfl ?_
  refine g_iload_n (pc := 1) dX7_roomIn_1 rfl 1 rfl ?_
  refine g_iconst (pc := 2) (v := 0) dX7_roomIn_2 (by decide) ?_
  refine g_cI (pc := 3) (st := []) (fun r hr => gRunV (As := [.int p0, .int 0]) 17 (ge_X7_ofTank γ p0 0 h) hr wv_RX7_42 rfl (Nat.le_of_ble_eq_true rfl) (gat_17 _ _) rfl rfl (Nat.le_of_ble_eq_true rfl) (Nat.le_of_ble_eq_true rfl) dX7_roomIn_3) (fun x2 h1 => ?_)
  refine g_aload_n (pc := 6) dX7_roomIn_6 rfl 0 rfl ?_
  refine g_iload_n (pc := 7) dX7_roomIn_7 rfl 1 rfl ?_
  refine g_cI (pc := 8) (st := [.int x2]) (fun r hr => gRunV (As := [.int p0]) 17 (ge_X7_oilOf γ p0 h1) hr wv_RX7_46 rfl (Nat.le_of_ble_eq_true rfl) (gat_17 _ _) rfl rfl (Nat.le_of_ble_eq_true rfl) (Nat.le_of_ble_eq_true rfl) dX7_roomIn_8) (fun x4 h3 => ?_)
  refine g_isub (pc := 11) dX7_roomIn_11 ?_
  exact g_ireturn (pc := 12) (ty := .int) dX7_roomIn_12 rfl rfl rfl
def jb_X7_gradeOfLot_28  (s0 : Int32) (h : Hst) : Option (Int32 × Hst) :=
  (some (s0, h))
def f_X7_gradeOfLot (p0 : Int32) (h : Hst) : Option (Int32 × Hst) :=
  gb (f_X7_ofLot p0 3 h) fun x2 h1 =>
  (if 9 ≤ x2 then
    (if 21 ≤ x2 then
      (jb_X7_gradeOfLot_28 2 h1)
    else
      (jb_X7_gradeOfLot_28 1 h1))
  else
    (jb_X7_gradeOfLot_28 0 h1))
set_option maxRecDepth 20000 in
theorem gjb_X7_gradeOfLot_28 (γ : Gv)  (s0 : Int32) (h : Hst) : G γ RX7 cX7_gradeOfLot 3 (some .int) [] vI 1 0 28 [] [.int s0] h (jb_X7_gradeOfLot_28 s0 h) := by
  unfold jb_X7_gradeOfLot_28
  exact g_ireturn (pc := 28) (ty := .int) dX7_gradeOfLot_28 rfl rfl rfl
set_option maxRecDepth 20000 in
theorem ge_X7_gradeOfLot (γ : Gv) (p0 : Int32) (h : Hst) : G γ RX7 cX7_gradeOfLot 3 (some .int) [] vI 1 0 0 (lv_args 0 [.ref (gad γ 17), .int p0]) [] h (f_X7_gradeOfLot p0 h) := by
  show G γ RX7 cX7_gradeOfLot 3 (some .int) [] vI 1 0 0 [(0, .ref (gad γ 17)), (1, .int p0)] [] h (f_X7_gradeOfLot p0 h)
  unfold f_X7_gradeOfLot
  refine g_aload_n (pc := 0) dX7_gradeOfLot_0 rfl 0 rfl ?_
  refine g_iload_n (pc := 1) dX7_gradeOfLot_1 rfl 1 rfl ?_
  refine g_iconst (pc := 2) (v := 3) dX7_gradeOfLot_2 (by decide) ?_
  refine g_cI (pc := 3) (st := []) (fun r hr => gRunV (As := [.int p0, .int 3]) 17 (ge_X7_ofLot γ p0 3 h) hr wv_RX7_50 rfl (Nat.le_of_ble_eq_true rfl) (gat_17 _ _) rfl rfl (Nat.le_of_ble_eq_true rfl) (Nat.le_of_ble_eq_true rfl) dX7_gradeOfLot_3) (fun x2 h1 => ?_)
  refine g_istore_n (pc := 6) (lv' := [(2, .int x2), (0, .ref (gad γ 17)), (1, .int p0)]) dX7_gradeOfLot_6 rfl (by decide) rfl ?_
  refine g_iload_n (pc := 7) dX7_gradeOfLot_7 rfl 0 rfl ?_
  refine g_bipush (pc := 8) (v := 9) dX7_gradeOfLot_8 (by decide) ?_
  refine g_icmp_ge (pc := 10) (tgt := 17) dX7_gradeOfLot_10 (by decide) ?_ ?_
  · refine g_iload_n (pc := 17) dX7_gradeOfLot_17 rfl 0 rfl ?_
    refine g_bipush (pc := 18) (v := 21) dX7_gradeOfLot_18 (by decide) ?_
    refine g_icmp_ge (pc := 20) (tgt := 27) dX7_gradeOfLot_20 (by decide) ?_ ?_
    · refine g_iconst (pc := 27) (v := 2) dX7_gradeOfLot_27 (by decide) ?_
      exact g_sub [] rfl (gjb_X7_gradeOfLot_28 γ 2 h1)
    · refine g_iconst (pc := 23) (v := 1) dX7_gradeOfLot_23 (by decide) ?_
      refine g_goto (pc := 24) (tgt := 28) dX7_gradeOfLot_24 (by decide) ?_
      exact g_sub [] rfl (gjb_X7_gradeOfLot_28 γ 1 h1)
  · refine g_iconst (pc := 13) (v := 0) dX7_gradeOfLot_13 (by decide) ?_
    refine g_goto (pc := 14) (tgt := 28) dX7_gradeOfLot_14 (by decide) ?_
    exact g_sub [] rfl (gjb_X7_gradeOfLot_28 γ 0 h1)
def jb_X7_gradeOf_18  (s0 : Int32) (h : Hst) : Option (Int32 × Hst) :=
  (some (s0, h))
def f_X7_gradeOf (p0 : Int32) (h : Hst) : Option (Int32 × Hst) :=
  gb (f_X7_oilOf p0 h) fun x2 h1 =>
  (if x2 = 0 then
    (jb_X7_gradeOf_18 (-1) h1)
  else
    gb (f_X7_ofTank p0 1 h1) fun x4 h3 =>
    (jb_X7_gradeOf_18 x4 h3))
set_option maxRecDepth 20000 in
theorem gjb_X7_gradeOf_18 (γ : Gv)  (s0 : Int32) (h : Hst) : G γ RX7 cX7_gradeOf 2 (some .int) [] vI 2 0 18 [] [.int s0] h (jb_X7_gradeOf_18 s0 h) := by
  unfold jb_X7_gradeOf_18
  exact g_ireturn (pc := 18) (ty := .int) dX7_gradeOf_18 rfl rfl rfl
set_option maxRecDepth 20000 in
theorem ge_X7_gradeOf (γ : Gv) (p0 : Int32) (h : Hst) : G γ RX7 cX7_gradeOf 2 (some .int) [] vI 2 0 0 (lv_args 0 [.ref (gad γ 17), .int p0]) [] h (f_X7_gradeOf p0 h) := by
  show G γ RX7 cX7_gradeOf 2 (some .int) [] vI 2 0 0 [(0, .ref (gad γ 17)), (1, .int p0)] [] h (f_X7_gradeOf p0 h)
  unfold f_X7_gradeOf
  refine g_aload_n (pc := 0) dX7_gradeOf_0 rfl 0 rfl ?_
  refine g_iload_n (pc := 1) dX7_gradeOf_1 rfl 1 rfl ?_
  refine g_cI (pc := 2) (st := []) (fun r hr => gRunV (As := [.int p0]) 17 (ge_X7_oilOf γ p0 h) hr wv_RX7_46 rfl (Nat.le_of_ble_eq_true rfl) (gat_17 _ _) rfl rfl (Nat.le_of_ble_eq_true rfl) (Nat.le_of_ble_eq_true rfl) dX7_gradeOf_2) (fun x2 h1 => ?_)
  refine g_if_ne (pc := 5) (tgt := 12) dX7_gradeOf_5 (by decide) ?_ ?_
  · refine g_aload_n (pc := 12) dX7_gradeOf_12 rfl 0 rfl ?_
    refine g_iload_n (pc := 13) dX7_gradeOf_13 rfl 1 rfl ?_
    refine g_iconst (pc := 14) (v := 1) dX7_gradeOf_14 (by decide) ?_
    refine g_cI (pc := 15) (st := []) (fun r hr => gRunV (As := [.int p0, .int 1]) 17 (ge_X7_ofTank γ p0 1 h1) hr wv_RX7_42 rfl (Nat.le_of_ble_eq_true rfl) (gat_17 _ _) rfl rfl (Nat.le_of_ble_eq_true rfl) (Nat.le_of_ble_eq_true rfl) dX7_gradeOf_15) (fun x4 h3 => ?_)
    exact g_sub [] rfl (gjb_X7_gradeOf_18 γ x4 h3)
  · refine g_iconst (pc := 8) (v := (-1)) dX7_gradeOf_8 (by decide) ?_
    refine g_goto (pc := 9) (tgt := 18) dX7_gradeOf_9 (by decide) ?_
    exact g_sub [] rfl (gjb_X7_gradeOf_18 γ (-1) h1)
def jb_X7_suits_27  (s0 : Int32) (h : Hst) : Option (Int32 × Hst) :=
  (gzr s0 (some (s0, h)))
def jb_X7_suits_22   (h : Hst) : Option (Int32 × Hst) :=
  (jb_X7_suits_27 1 h)
def f_X7_suits (p0 : Int32) (p1 : Int32) (p2 : Int32) (h : Hst) : Option (Int32 × Hst) :=
  (if p2 = 0 then
    gb (f_X7_gradeOf p0 h) fun x2 h1 =>
    (if x2 = (-1) then
      (jb_X7_suits_22 h1)
    else
      gb (f_X7_gradeOf p0 h1) fun x4 h3 =>
      (if x4 = p1 then
        (jb_X7_suits_22 h3)
      else
        (jb_X7_suits_27 0 h3)))
  else
    (jb_X7_suits_22 h))
set_option maxRecDepth 20000 in
theorem gjb_X7_suits_27 (γ : Gv)  (s0 : Int32) (h : Hst) : G γ RX7 cX7_suits 4 (some .boolean) [] vI 3 0 27 [] [.int s0] h (jb_X7_suits_27 s0 h) := by
  unfold jb_X7_suits_27
  exact g_zreturn (pc := 27) dX7_suits_27 rfl rfl
set_option maxRecDepth 20000 in
theorem gjb_X7_suits_22 (γ : Gv)   (h : Hst) : G γ RX7 cX7_suits 4 (some .boolean) [] vI 3 0 22 [] [] h (jb_X7_suits_22 h) := by
  unfold jb_X7_suits_22
  refine g_iconst (pc := 22) (v := 1) dX7_suits_22 (by decide) ?_
  refine g_goto (pc := 23) (tgt := 27) dX7_suits_23 (by decide) ?_
  exact gjb_X7_suits_27 γ 1 h
set_option maxRecDepth 20000 in
theorem ge_X7_suits (γ : Gv) (p0 : Int32) (p1 : Int32) (p2 : Int32) (h : Hst) : G γ RX7 cX7_suits 4 (some .boolean) [] vI 3 0 0 (lv_args 0 [.ref (gad γ 17), .int p0, .int p1, .int p2]) [] h (f_X7_suits p0 p1 p2 h) := by
  show G γ RX7 cX7_suits 4 (some .boolean) [] vI 3 0 0 [(0, .ref (gad γ 17)), (1, .int p0), (2, .int p1), (3, .int p2)] [] h (f_X7_suits p0 p1 p2 h)
  unfold f_X7_suits
  refine g_iload_n (pc := 0) dX7_suits_0 rfl 3 rfl ?_
  refine g_if_ne (pc := 1) (tgt := 22) dX7_suits_1 (by decide) ?_ ?_
  · exact g_sub [] rfl (gjb_X7_suits_22 γ h)
  · refine g_aload_n (pc := 4) dX7_suits_4 rfl 0 rfl ?_
    refine g_iload_n (pc := 5) dX7_suits_5 rfl 1 rfl ?_
    refine g_cI (pc := 6) (st := []) (fun r hr => gRunV (As := [.int p0]) 17 (ge_X7_gradeOf γ p0 h) hr wv_RX7_53 rfl (Nat.le_of_ble_eq_true rfl) (gat_17 _ _) rfl rfl (Nat.le_of_ble_eq_true rfl) (Nat.le_of_ble_eq_true rfl) dX7_suits_6) (fun x2 h1 => ?_)
    refine g_iconst (pc := 9) (v := (-1)) dX7_suits_9 (by decide) ?_
    refine g_icmp_eq (pc := 10) (tgt := 22) dX7_suits_10 (by decide) ?_ ?_
    · exact g_sub [] rfl (gjb_X7_suits_22 γ h1)
    · refine g_aload_n (pc := 13) dX7_suits_13 rfl 0 rfl ?_
      refine g_iload_n (pc := 14) dX7_suits_14 rfl 1 rfl ?_
      refine g_cI (pc := 15) (st := []) (fun r hr => gRunV (As := [.int p0]) 17 (ge_X7_gradeOf γ p0 h1) hr wv_RX7_53 rfl (Nat.le_of_ble_eq_true rfl) (gat_17 _ _) rfl rfl (Nat.le_of_ble_eq_true rfl) (Nat.le_of_ble_eq_true rfl) dX7_suits_15) (fun x4 h3 => ?_)
      refine g_iload_n (pc := 18) dX7_suits_18 rfl 2 rfl ?_
      refine g_icmp_ne (pc := 19) (tgt := 26) dX7_suits_19 (by decide) ?_ ?_
      · refine g_iconst (pc := 26) (v := 0) dX7_suits_26 (by decide) ?_
        exact g_sub [] rfl (gjb_X7_suits_27 γ 0 h3)
      · exact g_sub [] rfl (gjb_X7_suits_22 γ h3)
def jb_X7_reason_58  (s0 : Int32) (h : Hst) : Option (Int32 × Hst) :=
  (some (s0, h))
def jb_X7_reason_57   (h : Hst) : Option (Int32 × Hst) :=
  (jb_X7_reason_58 0 h)
def f_X7_reason (p0 : Int32) (p1 : Int32) (h : Hst) : Option (Int32 × Hst) :=
  gb (f_X7_layNextNow h) fun x2 h1 =>
  (if x2 = 0 then
    (some (1, h1))
  else
    gl ((h1.1 17 13) + (h1.1 17 14)) fun x3 =>
    gb (f_X7_roomIn p0 h1) fun x5 h4 =>
    (if x3 ≤ x5 then
      (if x3 ≤ 0 then
        (jb_X7_reason_57 h4)
      else
        gb (f_X7_gradeOfLot (h4.1 17 9) h4) fun x7 h6 =>
        gb (f_X7_suits p0 x7 p1 h6) fun x9 h8 =>
        (if x9 = 0 then
          (jb_X7_reason_58 3 h8)
        else
          (jb_X7_reason_57 h8)))
    else
      (jb_X7_reason_58 2 h4)))
set_option maxRecDepth 20000 in
theorem gjb_X7_reason_58 (γ : Gv)  (s0 : Int32) (h : Hst) : G γ RX7 cX7_reason 4 (some .int) [] vI 4 0 58 [] [.int s0] h (jb_X7_reason_58 s0 h) := by
  unfold jb_X7_reason_58
  exact g_ireturn (pc := 58) (ty := .int) dX7_reason_58 rfl rfl rfl
set_option maxRecDepth 20000 in
theorem gjb_X7_reason_57 (γ : Gv)   (h : Hst) : G γ RX7 cX7_reason 4 (some .int) [] vI 4 0 57 [] [] h (jb_X7_reason_57 h) := by
  unfold jb_X7_reason_57
  refine g_iconst (pc := 57) (v := 0) dX7_reason_57 (by decide) ?_
  exact gjb_X7_reason_58 γ 0 h
set_option maxRecDepth 20000 in
theorem ge_X7_reason (γ : Gv) (p0 : Int32) (p1 : Int32) (h : Hst) : G γ RX7 cX7_reason 4 (some .int) [] vI 4 0 0 (lv_args 0 [.ref (gad γ 17), .int p0, .int p1]) [] h (f_X7_reason p0 p1 h) := by
  show G γ RX7 cX7_reason 4 (some .int) [] vI 4 0 0 [(0, .ref (gad γ 17)), (1, .int p0), (2, .int p1)] [] h (f_X7_reason p0 p1 h)
  unfold f_X7_reason
  refine g_aload_n (pc := 0) dX7_reason_0 rfl 0 rfl ?_
  refine g_cI (pc := 1) (st := []) (fun r hr => gRunV (As := []) 17 (ge_X7_layNextNow γ h) hr wv_RX7_123 rfl (Nat.le_of_ble_eq_true rfl) (gat_17 _ _) rfl rfl (Nat.le_of_ble_eq_true rfl) (Nat.le_of_ble_eq_true rfl) dX7_reason_1) (fun x2 h1 => ?_)
  refine g_if_ne (pc := 4) (tgt := 9) dX7_reason_4 (by decide) ?_ ?_
  · refine g_aload_n (pc := 9) dX7_reason_9 rfl 0 rfl ?_
    refine gf_RX7_108_17 (pc := 10) dX7_reason_10 ?_
    refine g_aload_n (pc := 13) dX7_reason_13 rfl 0 rfl ?_
    refine gf_RX7_114_17 (pc := 14) dX7_reason_14 ?_
    refine g_iadd (pc := 17) dX7_reason_17 ?_
    refine g_nmi (fun x3 => ?_)
    refine g_istore_n (pc := 18) (lv' := [(3, .int x3), (0, .ref (gad γ 17)), (1, .int p0), (2, .int p1)]) dX7_reason_18 rfl (by decide) rfl ?_
    refine g_iload_n (pc := 19) dX7_reason_19 rfl 0 rfl ?_
    refine g_aload_n (pc := 20) dX7_reason_20 rfl 1 rfl ?_
    refine g_iload_n (pc := 21) dX7_reason_21 rfl 2 rfl ?_
    refine g_cI (pc := 22) (st := [.int x3]) (fun r hr => gRunV (As := [.int p0]) 17 (ge_X7_roomIn γ p0 h1) hr wv_RX7_127 rfl (Nat.le_of_ble_eq_true rfl) (gat_17 _ _) rfl rfl (Nat.le_of_ble_eq_true rfl) (Nat.le_of_ble_eq_true rfl) dX7_reason_22) (fun x5 h4 => ?_)
    refine g_icmp_le (pc := 25) (tgt := 32) dX7_reason_25 (by decide) ?_ ?_
    · refine g_iload_n (pc := 32) dX7_reason_32 rfl 0 rfl ?_
      refine g_if_le (pc := 33) (tgt := 57) dX7_reason_33 (by decide) ?_ ?_
      · exact g_sub [] rfl (gjb_X7_reason_57 γ h4)
      · refine g_aload_n (pc := 36) dX7_reason_36 rfl 1 rfl ?_
        refine g_iload_n (pc := 37) dX7_reason_37 rfl 2 rfl ?_
        refine g_aload_n (pc := 38) dX7_reason_38 rfl 1 rfl ?_
        refine g_aload_n (pc := 39) dX7_reason_39 rfl 1 rfl ?_
        refine gf_RX7_93_17 (pc := 40) dX7_reason_40 ?_
        refine g_cI (pc := 43) (st := [.int p0, .ref (gad γ 17)]) (fun r hr => gRunV (As := [.int (h4.1 17 9)]) 17 (ge_X7_gradeOfLot γ (h4.1 17 9) h4) hr wv_RX7_130 rfl (Nat.le_of_ble_eq_true rfl) (gat_17 _ _) rfl rfl (Nat.le_of_ble_eq_true rfl) (Nat.le_of_ble_eq_true rfl) dX7_reason_43) (fun x7 h6 => ?_)
        refine g_iload_n (pc := 46) dX7_reason_46 rfl 3 rfl ?_
        refine g_cI (pc := 47) (st := []) (fun r hr => gRunV (As := [.int p0, .int x7, .int p1]) 17 (ge_X7_suits γ p0 x7 p1 h6) hr wv_RX7_133 rfl (Nat.le_of_ble_eq_true rfl) (gat_17 _ _) rfl rfl (Nat.le_of_ble_eq_true rfl) (Nat.le_of_ble_eq_true rfl) dX7_reason_47) (fun x9 h8 => ?_)
        refine g_if_ne (pc := 50) (tgt := 57) dX7_reason_50 (by decide) ?_ ?_
        · exact g_sub [] rfl (gjb_X7_reason_57 γ h8)
        · refine g_iconst (pc := 53) (v := 3) dX7_reason_53 (by decide) ?_
          refine g_goto (pc := 54) (tgt := 58) dX7_reason_54 (by decide) ?_
          exact g_sub [] rfl (gjb_X7_reason_58 γ 3 h8)
    · refine g_iconst (pc := 28) (v := 2) dX7_reason_28 (by decide) ?_
      refine g_goto (pc := 29) (tgt := 58) dX7_reason_29 (by decide) ?_
      exact g_sub [] rfl (gjb_X7_reason_58 γ 2 h4)
  · refine g_iconst (pc := 7) (v := 1) dX7_reason_7 (by decide) ?_
    exact g_ireturn (pc := 8) (ty := .int) dX7_reason_8 rfl rfl rfl
def jb_X7_cleanNow_34   (h : Hst) : Option (Hst) :=
  (some h)
def f_X7_cleanNow (p0 : Int32) (h : Hst) : Option (Hst) :=
  (if p0 ≤ 0 then
    (jb_X7_cleanNow_34 h)
  else
    gck 10 514 (gl (35 + (h.1 18 (10 : Int32).toNatClampNeg)) fun x1 =>
    gck x1 514 (gck x1 514 (gl (hst h 18 x1.toNatClampNeg ((h.1 18 x1.toNatClampNeg) + p0)) fun h2 =>
    gck 12 514 (gck 12 514 (gl (hst h2 18 (12 : Int32).toNatClampNeg ((h2.1 18 (12 : Int32).toNatClampNeg) + 1)) fun h3 =>
    (jb_X7_cleanNow_34 h3)))))))
set_option maxRecDepth 20000 in
theorem gjb_X7_cleanNow_34 (γ : Gv)   (h : Hst) : G γ RX7 cX7_cleanNow 2 none [] vV 0 0 34 [] [] h (jb_X7_cleanNow_34 h) := by
  unfold jb_X7_cleanNow_34
  exact g_return (pc := 34) dX7_cleanNow_34 rfl rfl
set_option maxRecDepth 20000 in
theorem ge_X7_cleanNow (γ : Gv) (p0 : Int32) (h : Hst) : G γ RX7 cX7_cleanNow 2 none [] vV 0 0 0 (lv_args 0 [.ref (gad γ 17), .int p0]) [] h (f_X7_cleanNow p0 h) := by
  show G γ RX7 cX7_cleanNow 2 none [] vV 0 0 0 [(0, .ref (gad γ 17)), (1, .int p0)] [] h (f_X7_cleanNow p0 h)
  unfold f_X7_cleanNow
  refine g_iload_n (pc := 0) dX7_cleanNow_0 rfl 1 rfl ?_
  refine g_if_le (pc := 1) (tgt := 34) dX7_cleanNow_1 (by decide) ?_ ?_
  · exact g_sub [] rfl (gjb_X7_cleanNow_34 γ h)
  · refine g_aload_n (pc := 4) dX7_cleanNow_4 rfl 0 rfl ?_
    refine gf_RX7_7_17 (pc := 5) dX7_cleanNow_5 ?_
    refine g_bipush (pc := 8) (v := 35) dX7_cleanNow_8 (by decide) ?_
    refine g_aload_n (pc := 10) dX7_cleanNow_10 rfl 0 rfl ?_
    refine gf_RX7_7_17 (pc := 11) dX7_cleanNow_11 ?_
    refine g_bipush (pc := 14) (v := 10) dX7_cleanNow_14 (by decide) ?_
    refine g_iald (pc := 16) 18 (gat_18 _ _) dX7_cleanNow_16 ?_
    refine g_iadd (pc := 17) dX7_cleanNow_17 ?_
    refine g_nmi (fun x1 => ?_)
    refine g_dup2 (pc := 18) dX7_cleanNow_18 rfl rfl ?_
    refine g_iald (pc := 19) 18 (gat_18 _ _) dX7_cleanNow_19 ?_
    refine g_iload_n (pc := 20) dX7_cleanNow_20 rfl 1 rfl ?_
    refine g_iadd (pc := 21) dX7_cleanNow_21 ?_
    refine g_iast (pc := 22) 18 (gat_18 _ _) (gset_18 _ _ _) dX7_cleanNow_22 ?_
    refine g_nmh (fun h2 => ?_)
    refine g_aload_n (pc := 23) dX7_cleanNow_23 rfl 0 rfl ?_
    refine gf_RX7_7_17 (pc := 24) dX7_cleanNow_24 ?_
    refine g_bipush (pc := 27) (v := 12) dX7_cleanNow_27 (by decide) ?_
    refine g_dup2 (pc := 29) dX7_cleanNow_29 rfl rfl ?_
    refine g_iald (pc := 30) 18 (gat_18 _ _) dX7_cleanNow_30 ?_
    refine g_iconst (pc := 31) (v := 1) dX7_cleanNow_31 (by decide) ?_
    refine g_iadd (pc := 32) dX7_cleanNow_32 ?_
    refine g_iast (pc := 33) 18 (gat_18 _ _) (gset_18 _ _ _) dX7_cleanNow_33 ?_
    refine g_nmh (fun h3 => ?_)
    exact g_sub [] rfl (gjb_X7_cleanNow_34 γ h3)
def jb_X7_pour_61   (h : Hst) : Option (Hst) :=
  (some h)
def jb_X7_pour_39  (a1 : Int32) (a2 : Int32) (a3 : Int32) (s0 : Int32) (s1 : Int32) (h : Hst) : Option (Hst) :=
  gck s1 514 (gl (hst h 18 s1.toNatClampNeg s0) fun h1 =>
  gl (((472 + (7 * a1)) + 2) + a2) fun x2 =>
  gck x2 514 (gck x2 514 (gl (hst h1 18 x2.toNatClampNeg ((h1.1 18 x2.toNatClampNeg) + a3)) fun h3 =>
  (jb_X7_pour_61 h3))))
def f_X7_pour (p0 : Int32) (p1 : Int32) (p2 : Int32) (p3 : Int32) (h : Hst) : Option (Hst) :=
  (if p2 ≤ 0 then
    (jb_X7_pour_61 h)
  else
    gb (f_X7_gradeOf p0 h) fun x2 h1 =>
    (if x2 ≤ p3 then
      (jb_X7_pour_39 p0 p1 p2 p3 ((472 + (7 * p0)) + 1) h1)
    else
      (jb_X7_pour_39 p0 p1 p2 x2 ((472 + (7 * p0)) + 1) h1)))
set_option maxRecDepth 20000 in
theorem gjb_X7_pour_61 (γ : Gv)   (h : Hst) : G γ RX7 cX7_pour 6 none [] vV 3 0 61 [] [] h (jb_X7_pour_61 h) := by
  unfold jb_X7_pour_61
  exact g_return (pc := 61) dX7_pour_61 rfl rfl
set_option maxRecDepth 20000 in
theorem gjb_X7_pour_39 (γ : Gv)  (a1 : Int32) (a2 : Int32) (a3 : Int32) (s0 : Int32) (s1 : Int32) (h : Hst) : G γ RX7 cX7_pour 6 none [] vV 3 0 39 [(0, .ref (gad γ 17)), (1, .int a1), (2, .int a2), (3, .int a3)] [.int s0, .int s1, .ref (gad γ 18)] h (jb_X7_pour_39 a1 a2 a3 s0 s1 h) := by
  unfold jb_X7_pour_39
  refine g_iast (pc := 39) 18 (gat_18 _ _) (gset_18 _ _ _) dX7_pour_39 ?_
  refine g_nmh (fun h1 => ?_)
  refine g_aload_n (pc := 40) dX7_pour_40 rfl 0 rfl ?_
  refine gf_RX7_7_17 (pc := 41) dX7_pour_41 ?_
  refine g_sipush (pc := 44) (v := 472) dX7_pour_44 (by decide) ?_
  refine g_bipush (pc := 47) (v := 7) dX7_pour_47 (by decide) ?_
  refine g_iload_n (pc := 49) dX7_pour_49 rfl 1 rfl ?_
  refine g_imul (pc := 50) dX7_pour_50 ?_
  refine g_iadd (pc := 51) dX7_pour_51 ?_
  refine g_iconst (pc := 52) (v := 2) dX7_pour_52 (by decide) ?_
  refine g_iadd (pc := 53) dX7_pour_53 ?_
  refine g_iload_n (pc := 54) dX7_pour_54 rfl 2 rfl ?_
  refine g_iadd (pc := 55) dX7_pour_55 ?_
  refine g_nmi (fun x2 => ?_)
  refine g_dup2 (pc := 56) dX7_pour_56 rfl rfl ?_
  refine g_iald (pc := 57) 18 (gat_18 _ _) dX7_pour_57 ?_
  refine g_iload_n (pc := 58) dX7_pour_58 rfl 3 rfl ?_
  refine g_iadd (pc := 59) dX7_pour_59 ?_
  refine g_iast (pc := 60) 18 (gat_18 _ _) (gset_18 _ _ _) dX7_pour_60 ?_
  refine g_nmh (fun h3 => ?_)
  exact g_sub [] rfl (gjb_X7_pour_61 γ h3)
set_option maxRecDepth 20000 in
theorem ge_X7_pour (γ : Gv) (p0 : Int32) (p1 : Int32) (p2 : Int32) (p3 : Int32) (h : Hst) : G γ RX7 cX7_pour 6 none [] vV 3 0 0 (lv_args 0 [.ref (gad γ 17), .int p0, .int p1, .int p2, .int p3]) [] h (f_X7_pour p0 p1 p2 p3 h) := by
  show G γ RX7 cX7_pour 6 none [] vV 3 0 0 [(0, .ref (gad γ 17)), (1, .int p0), (2, .int p1), (3, .int p2), (4, .int p3)] [] h (f_X7_pour p0 p1 p2 p3 h)
  unfold f_X7_pour
  refine g_iload_n (pc := 0) dX7_pour_0 rfl 3 rfl ?_
  refine g_if_le (pc := 1) (tgt := 61) dX7_pour_1 (by decide) ?_ ?_
  · exact g_sub [] rfl (gjb_X7_pour_61 γ h)
  · refine g_aload_n (pc := 4) dX7_pour_4 rfl 0 rfl ?_
    refine g_iload_n (pc := 5) dX7_pour_5 rfl 1 rfl ?_
    refine g_cI (pc := 6) (st := []) (fun r hr => gRunV (As := [.int p0]) 17 (ge_X7_gradeOf γ p0 h) hr wv_RX7_53 rfl (Nat.le_of_ble_eq_true rfl) (gat_17 _ _) rfl rfl (Nat.le_of_ble_eq_true rfl) (Nat.le_of_ble_eq_true rfl) dX7_pour_6) (fun x2 h1 => ?_)
    refine g_istore (pc := 9) (lv' := [(5, .int x2), (0, .ref (gad γ 17)), (1, .int p0), (2, .int p1), (3, .int p2), (4, .int p3)]) dX7_pour_9 (by decide) rfl ?_
    refine g_aload_n (pc := 11) dX7_pour_11 rfl 1 rfl ?_
    refine gf_RX7_7_17 (pc := 12) dX7_pour_12 ?_
    refine g_sipush (pc := 15) (v := 472) dX7_pour_15 (by decide) ?_
    refine g_bipush (pc := 18) (v := 7) dX7_pour_18 (by decide) ?_
    refine g_iload_n (pc := 20) dX7_pour_20 rfl 2 rfl ?_
    refine g_imul (pc := 21) dX7_pour_21 ?_
    refine g_iadd (pc := 22) dX7_pour_22 ?_
    refine g_iconst (pc := 23) (v := 1) dX7_pour_23 (by decide) ?_
    refine g_iadd (pc := 24) dX7_pour_24 ?_
    refine g_iload (pc := 25) dX7_pour_25 0 rfl ?_
    refine g_iload (pc := 27) dX7_pour_27 5 rfl ?_
    refine g_icmp_le (pc := 29) (tgt := 37) dX7_pour_29 (by decide) ?_ ?_
    · refine g_iload (pc := 37) dX7_pour_37 5 rfl ?_
      exact g_sub [1, 2, 3, 4] rfl (gjb_X7_pour_39 γ p0 p1 p2 p3 ((472 + (7 * p0)) + 1) h1)
    · refine g_iload (pc := 32) dX7_pour_32 0 rfl ?_
      refine g_goto (pc := 34) (tgt := 39) dX7_pour_34 (by decide) ?_
      exact g_sub [1, 2, 3, 4] rfl (gjb_X7_pour_39 γ p0 p1 p2 x2 ((472 + (7 * p0)) + 1) h1)
def jb_X7_press_134  (a1 : Int32) (a3 : Int32) (s0 : Int32) (s1 : Int32) (h : Hst) : Option (Int32 × Hst) :=
  gck s1 514 (gl (hst h 18 s1.toNatClampNeg s0) fun h1 =>
  gck 11 514 (gl (hst h1 18 (11 : Int32).toNatClampNeg (h1.1 17 15)) fun h2 =>
  gb (f_X7_ofLot (h2.1 17 9) 0 h2) fun x4 h3 =>
  gl (40 + x4) fun x5 =>
  gck x5 514 (gck x5 514 (gl (hst h3 18 x5.toNatClampNeg ((h3.1 18 x5.toNatClampNeg) + (h3.1 17 11))) fun h6 =>
  gl (20 + a3) fun x7 =>
  gck x7 514 (gck x7 514 (gl (hst h6 18 x7.toNatClampNeg ((h6.1 18 x7.toNatClampNeg) + (h6.1 17 11))) fun h8 =>
  gbv (f_X7_setLot (h8.1 17 9) 5 1 h8) fun h9 =>
  gbv (f_X7_setLot (h9.1 17 9) 6 (h9.1 17 10) h9) fun h10 =>
  gbv (f_X7_setLot (h10.1 17 9) 7 (h10.1 17 11) h10) fun h11 =>
  gbv (f_X7_setLot (h11.1 17 9) 9 a1 h11) fun h12 =>
  (some (h12.1 17 9, h12))))))))
def jb_X7_press_95  (a1 : Int32) (a3 : Int32) (a4 : Int32) (s0 : Int32) (s1 : Int32) (h : Hst) : Option (Int32 × Hst) :=
  gbv (f_X7_pour s1 s0 (h.1 17 13) a4 h) fun h1 =>
  gbv (f_X7_pour a1 a3 (h1.1 17 14) a4 h1) fun h2 =>
  (if (h2.1 17 15) = 0 then
    (jb_X7_press_134 a1 a3 (-1) 10 h2)
  else
    (jb_X7_press_134 a1 a3 a3 10 h2))
def jb_X7_press_27  (a1 : Int32) (s0 : Int32) (h : Hst) : Option (Int32 × Hst) :=
  gl (hst h 17 5 s0) fun h1 =>
  (if (h1.1 17 5) ≤ 0 then
    gbv (f_X7_save h1) fun h2 =>
    gb (f_X7_ofLot (h2.1 17 9) 1 h2) fun x4 h3 =>
    gb (f_X7_gradeOfLot (h3.1 17 9) h3) fun x6 h5 =>
    gbv (f_X7_cleanNow (h5.1 17 12) h5) fun h7 =>
    gck 10 514 ((if (h7.1 18 (10 : Int32).toNatClampNeg) = (-1) then
      (jb_X7_press_95 a1 x4 x6 0 a1 h7)
    else
      gck 10 514 ((jb_X7_press_95 a1 x4 x6 (h7.1 18 (10 : Int32).toNatClampNeg) a1 h7))))
  else
    (some (0, h1)))
def f_X7_press (p0 : Int32) (p1 : Int32) (h : Hst) : Option (Int32 × Hst) :=
  gb (f_X7_isTank p0 h) fun x2 h1 =>
  (if x2 = 0 then
    (jb_X7_press_27 p0 1 h1)
  else
    gb (f_X7_reason p0 p1 h1) fun x4 h3 =>
    (if x4 = 0 then
      (jb_X7_press_27 p0 0 h3)
    else
      (jb_X7_press_27 p0 2 h3)))
set_option maxRecDepth 20000 in
theorem gjb_X7_press_134 (γ : Gv)  (a1 : Int32) (a3 : Int32) (s0 : Int32) (s1 : Int32) (h : Hst) : G γ RX7 cX7_press 5 (some .int) [] vI 5 0 134 [(0, .ref (gad γ 17)), (1, .int a1), (3, .int a3)] [.int s0, .int s1, .ref (gad γ 18)] h (jb_X7_press_134 a1 a3 s0 s1 h) := by
  unfold jb_X7_press_134
  refine g_iast (pc := 134) 18 (gat_18 _ _) (gset_18 _ _ _) dX7_press_134 ?_
  refine g_nmh (fun h1 => ?_)
  refine g_aload_n (pc := 135) dX7_press_135 rfl 0 rfl ?_
  refine gf_RX7_7_17 (pc := 136) dX7_press_136 ?_
  refine g_bipush (pc := 139) (v := 11) dX7_press_139 (by decide) ?_
  refine g_aload_n (pc := 141) dX7_press_141 rfl 0 rfl ?_
  refine gf_RX7_111_17 (pc := 142) dX7_press_142 ?_
  refine g_iast (pc := 145) 18 (gat_18 _ _) (gset_18 _ _ _) dX7_press_145 ?_
  refine g_nmh (fun h2 => ?_)
  refine g_aload_n (pc := 146) dX7_press_146 rfl 0 rfl ?_
  refine gf_RX7_7_17 (pc := 147) dX7_press_147 ?_
  refine g_bipush (pc := 150) (v := 40) dX7_press_150 (by decide) ?_
  refine g_aload_n (pc := 152) dX7_press_152 rfl 0 rfl ?_
  refine g_aload_n (pc := 153) dX7_press_153 rfl 0 rfl ?_
  refine gf_RX7_93_17 (pc := 154) dX7_press_154 ?_
  refine g_iconst (pc := 157) (v := 0) dX7_press_157 (by decide) ?_
  refine g_cI (pc := 158) (st := [.int 40, .ref (gad γ 18)]) (fun r hr => gRunV (As := [.int (h2.1 17 9), .int 0]) 17 (ge_X7_ofLot γ (h2.1 17 9) 0 h2) hr wv_RX7_50 rfl (Nat.le_of_ble_eq_true rfl) (gat_17 _ _) rfl rfl (Nat.le_of_ble_eq_true rfl) (Nat.le_of_ble_eq_true rfl) dX7_press_158) (fun x4 h3 => ?_)
  refine g_iadd (pc := 161) dX7_press_161 ?_
  refine g_nmi (fun x5 => ?_)
  refine g_dup2 (pc := 162) dX7_press_162 rfl rfl ?_
  refine g_iald (pc := 163) 18 (gat_18 _ _) dX7_press_163 ?_
  refine g_aload_n (pc := 164) dX7_press_164 rfl 0 rfl ?_
  refine gf_RX7_102_17 (pc := 165) dX7_press_165 ?_
  refine g_iadd (pc := 168) dX7_press_168 ?_
  refine g_iast (pc := 169) 18 (gat_18 _ _) (gset_18 _ _ _) dX7_press_169 ?_
  refine g_nmh (fun h6 => ?_)
  refine g_aload_n (pc := 170) dX7_press_170 rfl 0 rfl ?_
  refine gf_RX7_7_17 (pc := 171) dX7_press_171 ?_
  refine g_bipush (pc := 174) (v := 20) dX7_press_174 (by decide) ?_
  refine g_iload_n (pc := 176) dX7_press_176 rfl 2 rfl ?_
  refine g_iadd (pc := 177) dX7_press_177 ?_
  refine g_nmi (fun x7 => ?_)
  refine g_dup2 (pc := 178) dX7_press_178 rfl rfl ?_
  refine g_iald (pc := 179) 18 (gat_18 _ _) dX7_press_179 ?_
  refine g_aload_n (pc := 180) dX7_press_180 rfl 0 rfl ?_
  refine gf_RX7_102_17 (pc := 181) dX7_press_181 ?_
  refine g_iadd (pc := 184) dX7_press_184 ?_
  refine g_iast (pc := 185) 18 (gat_18 _ _) (gset_18 _ _ _) dX7_press_185 ?_
  refine g_nmh (fun h8 => ?_)
  refine g_aload_n (pc := 186) dX7_press_186 rfl 0 rfl ?_
  refine g_aload_n (pc := 187) dX7_press_187 rfl 0 rfl ?_
  refine gf_RX7_93_17 (pc := 188) dX7_press_188 ?_
  refine g_iconst (pc := 191) (v := 5) dX7_press_191 (by decide) ?_
  refine g_iconst (pc := 192) (v := 1) dX7_press_192 (by decide) ?_
  refine g_cV (pc := 193) (st := []) (fun r hr => gRunV (As := [.int (h8.1 17 9), .int 5, .int 1]) 17 (ge_X7_setLot γ (h8.1 17 9) 5 1 h8) hr wv_RX7_66 rfl (Nat.le_of_ble_eq_true rfl) (gat_17 _ _) rfl rfl (Nat.le_of_ble_eq_true rfl) (Nat.le_of_ble_eq_true rfl) dX7_press_193) (fun h9 => ?_)
  refine g_aload_n (pc := 196) dX7_press_196 rfl 0 rfl ?_
  refine g_aload_n (pc := 197) dX7_press_197 rfl 0 rfl ?_
  refine gf_RX7_93_17 (pc := 198) dX7_press_198 ?_
  refine g_bipush (pc := 201) (v := 6) dX7_press_201 (by decide) ?_
  refine g_aload_n (pc := 203) dX7_press_203 rfl 0 rfl ?_
  refine gf_RX7_96_17 (pc := 204) dX7_press_204 ?_
  refine g_cV (pc := 207) (st := []) (fun r hr => gRunV (As := [.int (h9.1 17 9), .int 6, .int (h9.1 17 10)]) 17 (ge_X7_setLot γ (h9.1 17 9) 6 (h9.1 17 10) h9) hr wv_RX7_66 rfl (Nat.le_of_ble_eq_true rfl) (gat_17 _ _) rfl rfl (Nat.le_of_ble_eq_true rfl) (Nat.le_of_ble_eq_true rfl) dX7_press_207) (fun h10 => ?_)
  refine g_aload_n (pc := 210) dX7_press_210 rfl 0 rfl ?_
  refine g_aload_n (pc := 211) dX7_press_211 rfl 0 rfl ?_
  refine gf_RX7_93_17 (pc := 212) dX7_press_212 ?_
  refine g_bipush (pc := 215) (v := 7) dX7_press_215 (by decide) ?_
  refine g_aload_n (pc := 217) dX7_press_217 rfl 0 rfl ?_
  refine gf_RX7_102_17 (pc := 218) dX7_press_218 ?_
  refine g_cV (pc := 221) (st := []) (fun r hr => gRunV (As := [.int (h10.1 17 9), .int 7, .int (h10.1 17 11)]) 17 (ge_X7_setLot γ (h10.1 17 9) 7 (h10.1 17 11) h10) hr wv_RX7_66 rfl (Nat.le_of_ble_eq_true rfl) (gat_17 _ _) rfl rfl (Nat.le_of_ble_eq_true rfl) (Nat.le_of_ble_eq_true rfl) dX7_press_221) (fun h11 => ?_)
  refine g_aload_n (pc := 224) dX7_press_224 rfl 0 rfl ?_
  refine g_aload_n (pc := 225) dX7_press_225 rfl 0 rfl ?_
  refine gf_RX7_93_17 (pc := 226) dX7_press_226 ?_
  refine g_bipush (pc := 229) (v := 9) dX7_press_229 (by decide) ?_
  refine g_iload_n (pc := 231) dX7_press_231 rfl 1 rfl ?_
  refine g_cV (pc := 232) (st := []) (fun r hr => gRunV (As := [.int (h11.1 17 9), .int 9, .int a1]) 17 (ge_X7_setLot γ (h11.1 17 9) 9 a1 h11) hr wv_RX7_66 rfl (Nat.le_of_ble_eq_true rfl) (gat_17 _ _) rfl rfl (Nat.le_of_ble_eq_true rfl) (Nat.le_of_ble_eq_true rfl) dX7_press_232) (fun h12 => ?_)
  refine g_aload_n (pc := 235) dX7_press_235 rfl 0 rfl ?_
  refine gf_RX7_93_17 (pc := 236) dX7_press_236 ?_
  exact g_ireturn (pc := 239) (ty := .int) dX7_press_239 rfl rfl rfl
set_option maxRecDepth 20000 in
theorem gjb_X7_press_95 (γ : Gv)  (a1 : Int32) (a3 : Int32) (a4 : Int32) (s0 : Int32) (s1 : Int32) (h : Hst) : G γ RX7 cX7_press 5 (some .int) [] vI 5 0 95 [(0, .ref (gad γ 17)), (1, .int a1), (3, .int a3), (4, .int a4)] [.int s0, .int s1, .ref (gad γ 17)] h (jb_X7_press_95 a1 a3 a4 s0 s1 h) := by
  unfold jb_X7_press_95
  refine g_aload_n (pc := 95) dX7_press_95 rfl 0 rfl ?_
  refine gf_RX7_108_17 (pc := 96) dX7_press_96 ?_
  refine g_iload (pc := 99) dX7_press_99 3 rfl ?_
  refine g_cV (pc := 101) (st := []) (fun r hr => gRunV (As := [.int s1, .int s0, .int (h.1 17 13), .int a4]) 17 (ge_X7_pour γ s1 s0 (h.1 17 13) a4 h) hr wv_RX7_148 rfl (Nat.le_of_ble_eq_true rfl) (gat_17 _ _) rfl rfl (Nat.le_of_ble_eq_true rfl) (Nat.le_of_ble_eq_true rfl) dX7_press_101) (fun h1 => ?_)
  refine g_aload_n (pc := 104) dX7_press_104 rfl 0 rfl ?_
  refine g_iload_n (pc := 105) dX7_press_105 rfl 1 rfl ?_
  refine g_iload_n (pc := 106) dX7_press_106 rfl 2 rfl ?_
  refine g_aload_n (pc := 107) dX7_press_107 rfl 0 rfl ?_
  refine gf_RX7_114_17 (pc := 108) dX7_press_108 ?_
  refine g_iload (pc := 111) dX7_press_111 3 rfl ?_
  refine g_cV (pc := 113) (st := []) (fun r hr => gRunV (As := [.int a1, .int a3, .int (h1.1 17 14), .int a4]) 17 (ge_X7_pour γ a1 a3 (h1.1 17 14) a4 h1) hr wv_RX7_148 rfl (Nat.le_of_ble_eq_true rfl) (gat_17 _ _) rfl rfl (Nat.le_of_ble_eq_true rfl) (Nat.le_of_ble_eq_true rfl) dX7_press_113) (fun h2 => ?_)
  refine g_aload_n (pc := 116) dX7_press_116 rfl 0 rfl ?_
  refine gf_RX7_7_17 (pc := 117) dX7_press_117 ?_
  refine g_bipush (pc := 120) (v := 10) dX7_press_120 (by decide) ?_
  refine g_aload_n (pc := 122) dX7_press_122 rfl 0 rfl ?_
  refine gf_RX7_111_17 (pc := 123) dX7_press_123 ?_
  refine g_if_ne (pc := 126) (tgt := 133) dX7_press_126 (by decide) ?_ ?_
  · refine g_iload_n (pc := 133) dX7_press_133 rfl 2 rfl ?_
    exact g_sub [0, 1, 2] rfl (gjb_X7_press_134 γ a1 a3 a3 10 h2)
  · refine g_iconst (pc := 129) (v := (-1)) dX7_press_129 (by decide) ?_
    refine g_goto (pc := 130) (tgt := 134) dX7_press_130 (by decide) ?_
    exact g_sub [0, 1, 2] rfl (gjb_X7_press_134 γ a1 a3 (-1) 10 h2)
set_option maxRecDepth 20000 in
theorem gjb_X7_press_27 (γ : Gv)  (a1 : Int32) (s0 : Int32) (h : Hst) : G γ RX7 cX7_press 5 (some .int) [] vI 5 0 27 [(0, .ref (gad γ 17)), (1, .int a1)] [.int s0, .ref (gad γ 17)] h (jb_X7_press_27 a1 s0 h) := by
  unfold jb_X7_press_27
  refine pf_RX7_31_17 (pc := 27) dX7_press_27 ?_
  refine g_nmh (fun h1 => ?_)
  refine g_aload_n (pc := 30) dX7_press_30 rfl 0 rfl ?_
  refine gf_RX7_31_17 (pc := 31) dX7_press_31 ?_
  refine g_if_le (pc := 34) (tgt := 39) dX7_press_34 (by decide) ?_ ?_
  · refine g_aload_n (pc := 39) dX7_press_39 rfl 0 rfl ?_
    refine g_cV (pc := 40) (st := []) (fun r hr => gRunV (As := []) 17 (ge_X7_save γ h1) hr wv_RX7_56 rfl (Nat.le_of_ble_eq_true rfl) (gat_17 _ _) rfl rfl (Nat.le_of_ble_eq_true rfl) (Nat.le_of_ble_eq_true rfl) dX7_press_40) (fun h2 => ?_)
    refine g_aload_n (pc := 43) dX7_press_43 rfl 0 rfl ?_
    refine g_aload_n (pc := 44) dX7_press_44 rfl 0 rfl ?_
    refine gf_RX7_93_17 (pc := 45) dX7_press_45 ?_
    refine g_iconst (pc := 48) (v := 1) dX7_press_48 (by decide) ?_
    refine g_cI (pc := 49) (st := []) (fun r hr => gRunV (As := [.int (h2.1 17 9), .int 1]) 17 (ge_X7_ofLot γ (h2.1 17 9) 1 h2) hr wv_RX7_50 rfl (Nat.le_of_ble_eq_true rfl) (gat_17 _ _) rfl rfl (Nat.le_of_ble_eq_true rfl) (Nat.le_of_ble_eq_true rfl) dX7_press_49) (fun x4 h3 => ?_)
    refine g_istore_n (pc := 52) (lv' := [(3, .int x4), (0, .ref (gad γ 17)), (1, .int a1)]) dX7_press_52 rfl (by decide) rfl ?_
    refine g_aload_n (pc := 53) dX7_press_53 rfl 1 rfl ?_
    refine g_aload_n (pc := 54) dX7_press_54 rfl 1 rfl ?_
    refine gf_RX7_93_17 (pc := 55) dX7_press_55 ?_
    refine g_cI (pc := 58) (st := []) (fun r hr => gRunV (As := [.int (h3.1 17 9)]) 17 (ge_X7_gradeOfLot γ (h3.1 17 9) h3) hr wv_RX7_130 rfl (Nat.le_of_ble_eq_true rfl) (gat_17 _ _) rfl rfl (Nat.le_of_ble_eq_true rfl) (Nat.le_of_ble_eq_true rfl) dX7_press_58) (fun x6 h5 => ?_)
    refine g_istore (pc := 61) (lv' := [(4, .int x6), (3, .int x4), (0, .ref (gad γ 17)), (1, .int a1)]) dX7_press_61 (by decide) rfl ?_
    refine g_aload_n (pc := 63) dX7_press_63 rfl 2 rfl ?_
    refine g_aload_n (pc := 64) dX7_press_64 rfl 2 rfl ?_
    refine gf_RX7_105_17 (pc := 65) dX7_press_65 ?_
    refine g_cV (pc := 68) (st := []) (fun r hr => gRunV (As := [.int (h5.1 17 12)]) 17 (ge_X7_cleanNow γ (h5.1 17 12) h5) hr wv_RX7_144 rfl (Nat.le_of_ble_eq_true rfl) (gat_17 _ _) rfl rfl (Nat.le_of_ble_eq_true rfl) (Nat.le_of_ble_eq_true rfl) dX7_press_68) (fun h7 => ?_)
    refine g_aload_n (pc := 71) dX7_press_71 rfl 2 rfl ?_
    refine g_iload_n (pc := 72) dX7_press_72 rfl 3 rfl ?_
    refine g_aload_n (pc := 73) dX7_press_73 rfl 2 rfl ?_
    refine gf_RX7_7_17 (pc := 74) dX7_press_74 ?_
    refine g_bipush (pc := 77) (v := 10) dX7_press_77 (by decide) ?_
    refine g_iald (pc := 79) 18 (gat_18 _ _) dX7_press_79 ?_
    refine g_iconst (pc := 80) (v := (-1)) dX7_press_80 (by decide) ?_
    refine g_icmp_ne (pc := 81) (tgt := 88) dX7_press_81 (by decide) ?_ ?_
    · refine g_aload_n (pc := 88) dX7_press_88 rfl 2 rfl ?_
      refine gf_RX7_7_17 (pc := 89) dX7_press_89 ?_
      refine g_bipush (pc := 92) (v := 10) dX7_press_92 (by decide) ?_
      refine g_iald (pc := 94) 18 (gat_18 _ _) dX7_press_94 ?_
      exact g_sub [2, 3, 1, 0] rfl (gjb_X7_press_95 γ a1 x4 x6 (h7.1 18 (10 : Int32).toNatClampNeg) a1 h7)
    · refine g_iconst (pc := 84) (v := 0) dX7_press_84 (by decide) ?_
      refine g_goto (pc := 85) (tgt := 95) dX7_press_85 (by decide) ?_
      exact g_sub [2, 3, 1, 0] rfl (gjb_X7_press_95 γ a1 x4 x6 0 a1 h7)
  · refine g_iconst (pc := 37) (v := 0) dX7_press_37 (by decide) ?_
    exact g_ireturn (pc := 38) (ty := .int) dX7_press_38 rfl rfl rfl
set_option maxRecDepth 20000 in
theorem ge_X7_press (γ : Gv) (p0 : Int32) (p1 : Int32) (h : Hst) : G γ RX7 cX7_press 5 (some .int) [] vI 5 0 0 (lv_args 0 [.ref (gad γ 17), .int p0, .int p1]) [] h (f_X7_press p0 p1 h) := by
  show G γ RX7 cX7_press 5 (some .int) [] vI 5 0 0 [(0, .ref (gad γ 17)), (1, .int p0), (2, .int p1)] [] h (f_X7_press p0 p1 h)
  unfold f_X7_press
  refine g_aload_n (pc := 0) dX7_press_0 rfl 0 rfl ?_
  refine g_aload_n (pc := 1) dX7_press_1 rfl 0 rfl ?_
  refine g_iload_n (pc := 2) dX7_press_2 rfl 1 rfl ?_
  refine g_cI (pc := 3) (st := [.ref (gad γ 17)]) (fun r hr => gRunV (As := [.int p0]) 17 (ge_X7_isTank γ p0 h) hr wv_RX7_137 rfl (Nat.le_of_ble_eq_true rfl) (gat_17 _ _) rfl rfl (Nat.le_of_ble_eq_true rfl) (Nat.le_of_ble_eq_true rfl) dX7_press_3) (fun x2 h1 => ?_)
  refine g_if_ne (pc := 6) (tgt := 13) dX7_press_6 (by decide) ?_ ?_
  · refine g_aload_n (pc := 13) dX7_press_13 rfl 0 rfl ?_
    refine g_iload_n (pc := 14) dX7_press_14 rfl 1 rfl ?_
    refine g_iload_n (pc := 15) dX7_press_15 rfl 2 rfl ?_
    refine g_cI (pc := 16) (st := [.ref (gad γ 17)]) (fun r hr => gRunV (As := [.int p0, .int p1]) 17 (ge_X7_reason γ p0 p1 h1) hr wv_RX7_140 rfl (Nat.le_of_ble_eq_true rfl) (gat_17 _ _) rfl rfl (Nat.le_of_ble_eq_true rfl) (Nat.le_of_ble_eq_true rfl) dX7_press_16) (fun x4 h3 => ?_)
    refine g_if_ne (pc := 19) (tgt := 26) dX7_press_19 (by decide) ?_ ?_
    · refine g_iconst (pc := 26) (v := 2) dX7_press_26 (by decide) ?_
      exact g_sub [0, 1] rfl (gjb_X7_press_27 γ p0 2 h3)
    · refine g_iconst (pc := 22) (v := 0) dX7_press_22 (by decide) ?_
      refine g_goto (pc := 23) (tgt := 27) dX7_press_23 (by decide) ?_
      exact g_sub [0, 1] rfl (gjb_X7_press_27 γ p0 0 h3)
  · refine g_iconst (pc := 9) (v := 1) dX7_press_9 (by decide) ?_
    refine g_goto (pc := 10) (tgt := 27) dX7_press_10 (by decide) ?_
    exact g_sub [0, 1] rfl (gjb_X7_press_27 γ p0 1 h1)
def f_X7_clean  (h : Hst) : Option (Int32 × Hst) :=
  gl (hst h 17 5 0) fun h1 =>
  gbv (f_X7_save h1) fun h2 =>
  gck 11 514 (gl (h2.1 18 (11 : Int32).toNatClampNeg) fun x3 =>
  gbv (f_X7_cleanNow x3 h2) fun h4 =>
  gck 10 514 (gl (hst h4 18 (10 : Int32).toNatClampNeg (-1)) fun h5 =>
  gck 11 514 (gl (hst h5 18 (11 : Int32).toNatClampNeg 0) fun h6 =>
  (some (x3, h6)))))
set_option maxRecDepth 20000 in
theorem ge_X7_clean (γ : Gv)  (h : Hst) : G γ RX7 cX7_clean 2 (some .int) [] vI 1 0 0 (lv_args 0 [.ref (gad γ 17)]) [] h (f_X7_clean h) := by
  show G γ RX7 cX7_clean 2 (some .int) [] vI 1 0 0 [(0, .ref (gad γ 17))] [] h (f_X7_clean h)
  unfold f_X7_clean
  refine g_aload_n (pc := 0) dX7_clean_0 rfl 0 rfl ?_
  refine g_iconst (pc := 1) (v := 0) dX7_clean_1 (by decide) ?_
  refine pf_RX7_31_17 (pc := 2) dX7_clean_2 ?_
  refine g_nmh (fun h1 => ?_)
  refine g_aload_n (pc := 5) dX7_clean_5 rfl 0 rfl ?_
  refine g_cV (pc := 6) (st := []) (fun r hr => gRunV (As := []) 17 (ge_X7_save γ h1) hr wv_RX7_56 rfl (Nat.le_of_ble_eq_true rfl) (gat_17 _ _) rfl rfl (Nat.le_of_ble_eq_true rfl) (Nat.le_of_ble_eq_true rfl) dX7_clean_6) (fun h2 => ?_)
  refine g_aload_n (pc := 9) dX7_clean_9 rfl 0 rfl ?_
  refine gf_RX7_7_17 (pc := 10) dX7_clean_10 ?_
  refine g_bipush (pc := 13) (v := 11) dX7_clean_13 (by decide) ?_
  refine g_iald (pc := 15) 18 (gat_18 _ _) dX7_clean_15 ?_
  refine g_nmi (fun x3 => ?_)
  refine g_istore_n (pc := 16) (lv' := [(1, .int x3), (0, .ref (gad γ 17))]) dX7_clean_16 rfl (by decide) rfl ?_
  refine g_aload_n (pc := 17) dX7_clean_17 rfl 1 rfl ?_
  refine g_iload_n (pc := 18) dX7_clean_18 rfl 0 rfl ?_
  refine g_cV (pc := 19) (st := []) (fun r hr => gRunV (As := [.int x3]) 17 (ge_X7_cleanNow γ x3 h2) hr wv_RX7_144 rfl (Nat.le_of_ble_eq_true rfl) (gat_17 _ _) rfl rfl (Nat.le_of_ble_eq_true rfl) (Nat.le_of_ble_eq_true rfl) dX7_clean_19) (fun h4 => ?_)
  refine g_aload_n (pc := 22) dX7_clean_22 rfl 1 rfl ?_
  refine gf_RX7_7_17 (pc := 23) dX7_clean_23 ?_
  refine g_bipush (pc := 26) (v := 10) dX7_clean_26 (by decide) ?_
  refine g_iconst (pc := 28) (v := (-1)) dX7_clean_28 (by decide) ?_
  refine g_iast (pc := 29) 18 (gat_18 _ _) (gset_18 _ _ _) dX7_clean_29 ?_
  refine g_nmh (fun h5 => ?_)
  refine g_aload_n (pc := 30) dX7_clean_30 rfl 1 rfl ?_
  refine gf_RX7_7_17 (pc := 31) dX7_clean_31 ?_
  refine g_bipush (pc := 34) (v := 11) dX7_clean_34 (by decide) ?_
  refine g_iconst (pc := 36) (v := 0) dX7_clean_36 (by decide) ?_
  refine g_iast (pc := 37) 18 (gat_18 _ _) (gset_18 _ _ _) dX7_clean_37 ?_
  refine g_nmh (fun h6 => ?_)
  refine g_iload_n (pc := 38) dX7_clean_38 rfl 0 rfl ?_
  exact g_ireturn (pc := 39) (ty := .int) dX7_clean_39 rfl rfl rfl
def f_X7_isLot (p0 : Int32) (h : Hst) : Option (Int32 × Hst) :=
  gck 8 514 (gb (f_X7_within p0 0 ((h.1 18 (8 : Int32).toNatClampNeg) - 1) h) fun x2 h1 =>
  (gzr x2 (some (x2, h1))))
set_option maxRecDepth 20000 in
theorem ge_X7_isLot (γ : Gv) (p0 : Int32) (h : Hst) : G γ RX7 cX7_isLot 2 (some .boolean) [] vI 1 0 0 (lv_args 0 [.ref (gad γ 17), .int p0]) [] h (f_X7_isLot p0 h) := by
  show G γ RX7 cX7_isLot 2 (some .boolean) [] vI 1 0 0 [(0, .ref (gad γ 17)), (1, .int p0)] [] h (f_X7_isLot p0 h)
  unfold f_X7_isLot
  refine g_iload_n (pc := 0) dX7_isLot_0 rfl 1 rfl ?_
  refine g_iconst (pc := 1) (v := 0) dX7_isLot_1 (by decide) ?_
  refine g_aload_n (pc := 2) dX7_isLot_2 rfl 0 rfl ?_
  refine gf_RX7_7_17 (pc := 3) dX7_isLot_3 ?_
  refine g_bipush (pc := 6) (v := 8) dX7_isLot_6 (by decide) ?_
  refine g_iald (pc := 8) 18 (gat_18 _ _) dX7_isLot_8 ?_
  refine g_iconst (pc := 9) (v := 1) dX7_isLot_9 (by decide) ?_
  refine g_isub (pc := 10) dX7_isLot_10 ?_
  refine g_cI (pc := 11) (st := []) (fun r hr => gRunS (As := [.int p0, .int 0, .int ((h.1 18 (8 : Int32).toNatClampNeg) - 1)]) (ge_X7_within γ p0 0 ((h.1 18 (8 : Int32).toNatClampNeg) - 1) h) hr wv_RX7_38 rfl (Nat.le_of_ble_eq_true rfl) rfl (Nat.le_of_ble_eq_true rfl) (Nat.le_of_ble_eq_true rfl) dX7_isLot_11) (fun x2 h1 => ?_)
  exact g_zreturn (pc := 14) dX7_isLot_14 rfl rfl
def f_X7_secondOf (p0 : Int32) (h : Hst) : Option (Int32 × Hst) :=
  gb (f_X7_ofLot p0 6 h) fun x2 h1 =>
  gb (f_X7_contentBy x2 p0 h1) fun x4 h3 =>
  gb (f_X7_ofLot p0 7 h3) fun x6 h5 =>
  gck 2 514 (gdz 1000 ((some (((x4 - x6) * (h5.1 18 (2 : Int32).toNatClampNeg)) / 1000, h5))))
set_option maxRecDepth 20000 in
theorem ge_X7_secondOf (γ : Gv) (p0 : Int32) (h : Hst) : G γ RX7 cX7_secondOf 2 (some .int) [] vI 2 0 0 (lv_args 0 [.ref (gad γ 17), .int p0]) [] h (f_X7_secondOf p0 h) := by
  show G γ RX7 cX7_secondOf 2 (some .int) [] vI 2 0 0 [(0, .ref (gad γ 17)), (1, .int p0)] [] h (f_X7_secondOf p0 h)
  unfold f_X7_secondOf
  refine g_aload_n (pc := 0) dX7_secondOf_0 rfl 0 rfl ?_
  refine g_aload_n (pc := 1) dX7_secondOf_1 rfl 0 rfl ?_
  refine g_iload_n (pc := 2) dX7_secondOf_2 rfl 1 rfl ?_
  refine g_bipush (pc := 3) (v := 6) dX7_secondOf_3 (by decide) ?_
  refine g_cI (pc := 5) (st := [.ref (gad γ 17)]) (fun r hr => gRunV (As := [.int p0, .int 6]) 17 (ge_X7_ofLot γ p0 6 h) hr wv_RX7_50 rfl (Nat.le_of_ble_eq_true rfl) (gat_17 _ _) rfl rfl (Nat.le_of_ble_eq_true rfl) (Nat.le_of_ble_eq_true rfl) dX7_secondOf_5) (fun x2 h1 => ?_)
  refine g_iload_n (pc := 8) dX7_secondOf_8 rfl 1 rfl ?_
  refine g_cI (pc := 9) (st := []) (fun r hr => gRunV (As := [.int x2, .int p0]) 17 (ge_X7_contentBy γ x2 p0 h1) hr wv_RX7_99 rfl (Nat.le_of_ble_eq_true rfl) (gat_17 _ _) rfl rfl (Nat.le_of_ble_eq_true rfl) (Nat.le_of_ble_eq_true rfl) dX7_secondOf_9) (fun x4 h3 => ?_)
  refine g_aload_n (pc := 12) dX7_secondOf_12 rfl 0 rfl ?_
  refine g_iload_n (pc := 13) dX7_secondOf_13 rfl 1 rfl ?_
  refine g_bipush (pc := 14) (v := 7) dX7_secondOf_14 (by decide) ?_
  refine g_cI (pc := 16) (st := [.int x4]) (fun r hr => gRunV (As := [.int p0, .int 7]) 17 (ge_X7_ofLot γ p0 7 h3) hr wv_RX7_50 rfl (Nat.le_of_ble_eq_true rfl) (gat_17 _ _) rfl rfl (Nat.le_of_ble_eq_true rfl) (Nat.le_of_ble_eq_true rfl) dX7_secondOf_16) (fun x6 h5 => ?_)
  refine g_isub (pc := 19) dX7_secondOf_19 ?_
  refine g_aload_n (pc := 20) dX7_secondOf_20 rfl 0 rfl ?_
  refine gf_RX7_7_17 (pc := 21) dX7_secondOf_21 ?_
  refine g_iconst (pc := 24) (v := 2) dX7_secondOf_24 (by decide) ?_
  refine g_iald (pc := 25) 18 (gat_18 _ _) dX7_secondOf_25 ?_
  refine g_imul (pc := 26) dX7_secondOf_26 ?_
  refine g_sipush (pc := 27) (v := 1000) dX7_secondOf_27 (by decide) ?_
  refine g_idiv (pc := 30) dX7_secondOf_30 ?_
  exact g_ireturn (pc := 31) (ty := .int) dX7_secondOf_31 rfl rfl rfl
def jb_X7_whyNoAppeal_86  (s0 : Int32) (h : Hst) : Option (Int32 × Hst) :=
  (some (s0, h))
def f_X7_whyNoAppeal (p0 : Int32) (h : Hst) : Option (Int32 × Hst) :=
  gb (f_X7_ofLot p0 5 h) fun x2 h1 =>
  (if x2 = 1 then
    gb (f_X7_ofLot p0 6 h1) fun x4 h3 =>
    gck 1 514 (gdz 1000 (gck 6 514 (gdz 1000 (gl ((((x4 * (h3.1 18 (1 : Int32).toNatClampNeg)) / 1000) * (1000 - (h3.1 18 (6 : Int32).toNatClampNeg))) / 1000) fun x5 =>
    gb (f_X7_ofLot p0 7 h3) fun x7 h6 =>
    (if x7 < x5 then
      gb (f_X7_secondOf p0 h6) fun x9 h8 =>
      gb (f_X7_ofLot p0 9 h8) fun x11 h10 =>
      gb (f_X7_roomIn x11 h10) fun x13 h12 =>
      (if x9 ≤ x13 then
        (jb_X7_whyNoAppeal_86 0 h12)
      else
        (jb_X7_whyNoAppeal_86 3 h12))
    else
      (jb_X7_whyNoAppeal_86 2 h6))))))
  else
    (some (1, h1)))
set_option maxRecDepth 20000 in
theorem gjb_X7_whyNoAppeal_86 (γ : Gv)  (s0 : Int32) (h : Hst) : G γ RX7 cX7_whyNoAppeal 3 (some .int) [] vI 3 0 86 [] [.int s0] h (jb_X7_whyNoAppeal_86 s0 h) := by
  unfold jb_X7_whyNoAppeal_86
  exact g_ireturn (pc := 86) (ty := .int) dX7_whyNoAppeal_86 rfl rfl rfl
set_option maxRecDepth 20000 in
theorem ge_X7_whyNoAppeal (γ : Gv) (p0 : Int32) (h : Hst) : G γ RX7 cX7_whyNoAppeal 3 (some .int) [] vI 3 0 0 (lv_args 0 [.ref (gad γ 17), .int p0]) [] h (f_X7_whyNoAppeal p0 h) := by
  show G γ RX7 cX7_whyNoAppeal 3 (some .int) [] vI 3 0 0 [(0, .ref (gad γ 17)), (1, .int p0)] [] h (f_X7_whyNoAppeal p0 h)
  unfold f_X7_whyNoAppeal
  refine g_aload_n (pc := 0) dX7_whyNoAppeal_0 rfl 0 rfl ?_
  refine g_iload_n (pc := 1) dX7_whyNoAppeal_1 rfl 1 rfl ?_
  refine g_iconst (pc := 2) (v := 5) dX7_whyNoAppeal_2 (by decide) ?_
  refine g_cI (pc := 3) (st := []) (fun r hr => gRunV (As := [.int p0, .int 5]) 17 (ge_X7_ofLot γ p0 5 h) hr wv_RX7_50 rfl (Nat.le_of_ble_eq_true rfl) (gat_17 _ _) rfl rfl (Nat.le_of_ble_eq_true rfl) (Nat.le_of_ble_eq_true rfl) dX7_whyNoAppeal_3) (fun x2 h1 => ?_)
  refine g_iconst (pc := 6) (v := 1) dX7_whyNoAppeal_6 (by decide) ?_
  refine g_icmp_eq (pc := 7) (tgt := 12) dX7_whyNoAppeal_7 (by decide) ?_ ?_
  · refine g_aload_n (pc := 12) dX7_whyNoAppeal_12 rfl 0 rfl ?_
    refine g_iload_n (pc := 13) dX7_whyNoAppeal_13 rfl 1 rfl ?_
    refine g_bipush (pc := 14) (v := 6) dX7_whyNoAppeal_14 (by decide) ?_
    refine g_cI (pc := 16) (st := []) (fun r hr => gRunV (As := [.int p0, .int 6]) 17 (ge_X7_ofLot γ p0 6 h1) hr wv_RX7_50 rfl (Nat.le_of_ble_eq_true rfl) (gat_17 _ _) rfl rfl (Nat.le_of_ble_eq_true rfl) (Nat.le_of_ble_eq_true rfl) dX7_whyNoAppeal_16) (fun x4 h3 => ?_)
    refine g_aload_n (pc := 19) dX7_whyNoAppeal_19 rfl 0 rfl ?_
    refine gf_RX7_7_17 (pc := 20) dX7_whyNoAppeal_20 ?_
    refine g_iconst (pc := 23) (v := 1) dX7_whyNoAppeal_23 (by decide) ?_
    refine g_iald (pc := 24) 18 (gat_18 _ _) dX7_whyNoAppeal_24 ?_
    refine g_imul (pc := 25) dX7_whyNoAppeal_25 ?_
    refine g_sipush (pc := 26) (v := 1000) dX7_whyNoAppeal_26 (by decide) ?_
    refine g_idiv (pc := 29) dX7_whyNoAppeal_29 ?_
    refine g_sipush (pc := 30) (v := 1000) dX7_whyNoAppeal_30 (by decide) ?_
    refine g_aload_n (pc := 33) dX7_whyNoAppeal_33 rfl 0 rfl ?_
    refine gf_RX7_7_17 (pc := 34) dX7_whyNoAppeal_34 ?_
    refine g_bipush (pc := 37) (v := 6) dX7_whyNoAppeal_37 (by decide) ?_
    refine g_iald (pc := 39) 18 (gat_18 _ _) dX7_whyNoAppeal_39 ?_
    refine g_isub (pc := 40) dX7_whyNoAppeal_40 ?_
    refine g_imul (pc := 41) dX7_whyNoAppeal_41 ?_
    refine g_sipush (pc := 42) (v := 1000) dX7_whyNoAppeal_42 (by decide) ?_
    refine g_idiv (pc := 45) dX7_whyNoAppeal_45 ?_
    refine g_nmi (fun x5 => ?_)
    refine g_istore_n (pc := 46) (lv' := [(2, .int x5), (0, .ref (gad γ 17)), (1, .int p0)]) dX7_whyNoAppeal_46 rfl (by decide) rfl ?_
    refine g_aload_n (pc := 47) dX7_whyNoAppeal_47 rfl 1 rfl ?_
    refine g_iload_n (pc := 48) dX7_whyNoAppeal_48 rfl 2 rfl ?_
    refine g_bipush (pc := 49) (v := 7) dX7_whyNoAppeal_49 (by decide) ?_
    refine g_cI (pc := 51) (st := []) (fun r hr => gRunV (As := [.int p0, .int 7]) 17 (ge_X7_ofLot γ p0 7 h3) hr wv_RX7_50 rfl (Nat.le_of_ble_eq_true rfl) (gat_17 _ _) rfl rfl (Nat.le_of_ble_eq_true rfl) (Nat.le_of_ble_eq_true rfl) dX7_whyNoAppeal_51) (fun x7 h6 => ?_)
    refine g_iload_n (pc := 54) dX7_whyNoAppeal_54 rfl 0 rfl ?_
    refine g_icmp_lt (pc := 55) (tgt := 62) dX7_whyNoAppeal_55 (by decide) ?_ ?_
    · refine g_aload_n (pc := 62) dX7_whyNoAppeal_62 rfl 1 rfl ?_
      refine g_iload_n (pc := 63) dX7_whyNoAppeal_63 rfl 2 rfl ?_
      refine g_cI (pc := 64) (st := []) (fun r hr => gRunV (As := [.int p0]) 17 (ge_X7_secondOf γ p0 h6) hr wv_RX7_152 rfl (Nat.le_of_ble_eq_true rfl) (gat_17 _ _) rfl rfl (Nat.le_of_ble_eq_true rfl) (Nat.le_of_ble_eq_true rfl) dX7_whyNoAppeal_64) (fun x9 h8 => ?_)
      refine g_aload_n (pc := 67) dX7_whyNoAppeal_67 rfl 1 rfl ?_
      refine g_aload_n (pc := 68) dX7_whyNoAppeal_68 rfl 1 rfl ?_
      refine g_iload_n (pc := 69) dX7_whyNoAppeal_69 rfl 2 rfl ?_
      refine g_bipush (pc := 70) (v := 9) dX7_whyNoAppeal_70 (by decide) ?_
      refine g_cI (pc := 72) (st := [.ref (gad γ 17), .int x9]) (fun r hr => gRunV (As := [.int p0, .int 9]) 17 (ge_X7_ofLot γ p0 9 h8) hr wv_RX7_50 rfl (Nat.le_of_ble_eq_true rfl) (gat_17 _ _) rfl rfl (Nat.le_of_ble_eq_true rfl) (Nat.le_of_ble_eq_true rfl) dX7_whyNoAppeal_72) (fun x11 h10 => ?_)
      refine g_cI (pc := 75) (st := [.int x9]) (fun r hr => gRunV (As := [.int x11]) 17 (ge_X7_roomIn γ x11 h10) hr wv_RX7_127 rfl (Nat.le_of_ble_eq_true rfl) (gat_17 _ _) rfl rfl (Nat.le_of_ble_eq_true rfl) (Nat.le_of_ble_eq_true rfl) dX7_whyNoAppeal_75) (fun x13 h12 => ?_)
      refine g_icmp_le (pc := 78) (tgt := 85) dX7_whyNoAppeal_78 (by decide) ?_ ?_
      · refine g_iconst (pc := 85) (v := 0) dX7_whyNoAppeal_85 (by decide) ?_
        exact g_sub [] rfl (gjb_X7_whyNoAppeal_86 γ 0 h12)
      · refine g_iconst (pc := 81) (v := 3) dX7_whyNoAppeal_81 (by decide) ?_
        refine g_goto (pc := 82) (tgt := 86) dX7_whyNoAppeal_82 (by decide) ?_
        exact g_sub [] rfl (gjb_X7_whyNoAppeal_86 γ 3 h12)
    · refine g_iconst (pc := 58) (v := 2) dX7_whyNoAppeal_58 (by decide) ?_
      refine g_goto (pc := 59) (tgt := 86) dX7_whyNoAppeal_59 (by decide) ?_
      exact g_sub [] rfl (gjb_X7_whyNoAppeal_86 γ 2 h6)
  · refine g_iconst (pc := 10) (v := 1) dX7_whyNoAppeal_10 (by decide) ?_
    exact g_ireturn (pc := 11) (ty := .int) dX7_whyNoAppeal_11 rfl rfl rfl
def jb_X7_appeal_194  (a1 : Int32) (a2 : Int32) (h : Hst) : Option (Int32 × Hst) :=
  gbv (f_X7_setLot a1 5 2 h) fun h1 =>
  gbv (f_X7_setLot a1 8 a2 h1) fun h2 =>
  (some (a2, h2))
def jb_X7_appeal_180  (a1 : Int32) (a2 : Int32) (a3 : Int32) (s0 : Int32) (s1 : Int32) (h : Hst) : Option (Int32 × Hst) :=
  gck s1 514 (gl (hst h 18 s1.toNatClampNeg s0) fun h1 =>
  gl (64 + a3) fun x2 =>
  gck x2 514 (gck x2 514 (gl (hst h1 18 x2.toNatClampNeg ((h1.1 18 x2.toNatClampNeg) + 1)) fun h3 =>
  (jb_X7_appeal_194 a1 a2 h3))))
def jb_X7_appeal_26  (a1 : Int32) (s0 : Int32) (h : Hst) : Option (Int32 × Hst) :=
  gl (hst h 17 5 s0) fun h1 =>
  (if (h1.1 17 5) ≤ 0 then
    gbv (f_X7_save h1) fun h2 =>
    gb (f_X7_secondOf a1 h2) fun x4 h3 =>
    gb (f_X7_ofLot a1 0 h3) fun x6 h5 =>
    gb (f_X7_ofLot a1 9 h5) fun x8 h7 =>
    gb (f_X7_ofLot a1 1 h7) fun x10 h9 =>
    gb (f_X7_gradeOfLot a1 h9) fun x12 h11 =>
    gbv (f_X7_pour x8 x10 x4 x12 h11) fun h13 =>
    gl (40 + x6) fun x14 =>
    gck x14 514 (gck x14 514 (gl (hst h13 18 x14.toNatClampNeg ((h13.1 18 x14.toNatClampNeg) + x4)) fun h15 =>
    gb (f_X7_ofLot a1 1 h15) fun x17 h16 =>
    gl (20 + x17) fun x18 =>
    gck x18 514 (gck x18 514 (gl (hst h16 18 x18.toNatClampNeg ((h16.1 18 x18.toNatClampNeg) + x4)) fun h19 =>
    gck 14 514 (gck 14 514 (gl (hst h19 18 (14 : Int32).toNatClampNeg ((h19.1 18 (14 : Int32).toNatClampNeg) + 1)) fun h20 =>
    gl (56 + x6) fun x21 =>
    gck x21 514 (gck x21 514 (gl (hst h20 18 x21.toNatClampNeg ((h20.1 18 x21.toNatClampNeg) + 1)) fun h22 =>
    gck 4 514 ((if (h22.1 18 (4 : Int32).toNatClampNeg) ≤ x4 then
      (jb_X7_appeal_194 a1 x4 h22)
    else
      gck (40 + x6) 514 (gck 4 514 (gl ((h22.1 18 (40 + x6).toNatClampNeg) - (h22.1 18 (4 : Int32).toNatClampNeg)) fun x23 =>
      (if 0 ≤ x23 then
        (jb_X7_appeal_180 a1 x4 x6 x23 (40 + x6) h22)
      else
        (jb_X7_appeal_180 a1 x4 x6 0 (40 + x6) h22))))))))))))))
  else
    (some (0, h1)))
def f_X7_appeal (p0 : Int32) (h : Hst) : Option (Int32 × Hst) :=
  gb (f_X7_isLot p0 h) fun x2 h1 =>
  (if x2 = 0 then
    (jb_X7_appeal_26 p0 1 h1)
  else
    gb (f_X7_whyNoAppeal p0 h1) fun x4 h3 =>
    (if x4 = 0 then
      (jb_X7_appeal_26 p0 0 h3)
    else
      (jb_X7_appeal_26 p0 2 h3)))
set_option maxRecDepth 20000 in
theorem gjb_X7_appeal_194 (γ : Gv)  (a1 : Int32) (a2 : Int32) (h : Hst) : G γ RX7 cX7_appeal 5 (some .int) [] vI 4 0 194 [(0, .ref (gad γ 17)), (1, .int a1), (2, .int a2)] [] h (jb_X7_appeal_194 a1 a2 h) := by
  unfold jb_X7_appeal_194
  refine g_aload_n (pc := 194) dX7_appeal_194 rfl 0 rfl ?_
  refine g_iload_n (pc := 195) dX7_appeal_195 rfl 1 rfl ?_
  refine g_iconst (pc := 196) (v := 5) dX7_appeal_196 (by decide) ?_
  refine g_iconst (pc := 197) (v := 2) dX7_appeal_197 (by decide) ?_
  refine g_cV (pc := 198) (st := []) (fun r hr => gRunV (As := [.int a1, .int 5, .int 2]) 17 (ge_X7_setLot γ a1 5 2 h) hr wv_RX7_66 rfl (Nat.le_of_ble_eq_true rfl) (gat_17 _ _) rfl rfl (Nat.le_of_ble_eq_true rfl) (Nat.le_of_ble_eq_true rfl) dX7_appeal_198) (fun h1 => ?_)
  refine g_aload_n (pc := 201) dX7_appeal_201 rfl 0 rfl ?_
  refine g_iload_n (pc := 202) dX7_appeal_202 rfl 1 rfl ?_
  refine g_bipush (pc := 203) (v := 8) dX7_appeal_203 (by decide) ?_
  refine g_iload_n (pc := 205) dX7_appeal_205 rfl 2 rfl ?_
  refine g_cV (pc := 206) (st := []) (fun r hr => gRunV (As := [.int a1, .int 8, .int a2]) 17 (ge_X7_setLot γ a1 8 a2 h1) hr wv_RX7_66 rfl (Nat.le_of_ble_eq_true rfl) (gat_17 _ _) rfl rfl (Nat.le_of_ble_eq_true rfl) (Nat.le_of_ble_eq_true rfl) dX7_appeal_206) (fun h2 => ?_)
  refine g_iload_n (pc := 209) dX7_appeal_209 rfl 2 rfl ?_
  exact g_ireturn (pc := 210) (ty := .int) dX7_appeal_210 rfl rfl rfl
set_option maxRecDepth 20000 in
theorem gjb_X7_appeal_180 (γ : Gv)  (a1 : Int32) (a2 : Int32) (a3 : Int32) (s0 : Int32) (s1 : Int32) (h : Hst) : G γ RX7 cX7_appeal 5 (some .int) [] vI 4 0 180 [(0, .ref (gad γ 17)), (1, .int a1), (2, .int a2), (3, .int a3)] [.int s0, .int s1, .ref (gad γ 18)] h (jb_X7_appeal_180 a1 a2 a3 s0 s1 h) := by
  unfold jb_X7_appeal_180
  refine g_iast (pc := 180) 18 (gat_18 _ _) (gset_18 _ _ _) dX7_appeal_180 ?_
  refine g_nmh (fun h1 => ?_)
  refine g_aload_n (pc := 181) dX7_appeal_181 rfl 0 rfl ?_
  refine gf_RX7_7_17 (pc := 182) dX7_appeal_182 ?_
  refine g_bipush (pc := 185) (v := 64) dX7_appeal_185 (by decide) ?_
  refine g_iload_n (pc := 187) dX7_appeal_187 rfl 3 rfl ?_
  refine g_iadd (pc := 188) dX7_appeal_188 ?_
  refine g_nmi (fun x2 => ?_)
  refine g_dup2 (pc := 189) dX7_appeal_189 rfl rfl ?_
  refine g_iald (pc := 190) 18 (gat_18 _ _) dX7_appeal_190 ?_
  refine g_iconst (pc := 191) (v := 1) dX7_appeal_191 (by decide) ?_
  refine g_iadd (pc := 192) dX7_appeal_192 ?_
  refine g_iast (pc := 193) 18 (gat_18 _ _) (gset_18 _ _ _) dX7_appeal_193 ?_
  refine g_nmh (fun h3 => ?_)
  exact g_sub [0, 1, 2] rfl (gjb_X7_appeal_194 γ a1 a2 h3)
set_option maxRecDepth 20000 in
theorem gjb_X7_appeal_26 (γ : Gv)  (a1 : Int32) (s0 : Int32) (h : Hst) : G γ RX7 cX7_appeal 5 (some .int) [] vI 4 0 26 [(0, .ref (gad γ 17)), (1, .int a1)] [.int s0, .ref (gad γ 17)] h (jb_X7_appeal_26 a1 s0 h) := by
  unfold jb_X7_appeal_26
  refine pf_RX7_31_17 (pc := 26) dX7_appeal_26 ?_
  refine g_nmh (fun h1 => ?_)
  refine g_aload_n (pc := 29) dX7_appeal_29 rfl 0 rfl ?_
  refine gf_RX7_31_17 (pc := 30) dX7_appeal_30 ?_
  refine g_if_le (pc := 33) (tgt := 38) dX7_appeal_33 (by decide) ?_ ?_
  · refine g_aload_n (pc := 38) dX7_appeal_38 rfl 0 rfl ?_
    refine g_cV (pc := 39) (st := []) (fun r hr => gRunV (As := []) 17 (ge_X7_save γ h1) hr wv_RX7_56 rfl (Nat.le_of_ble_eq_true rfl) (gat_17 _ _) rfl rfl (Nat.le_of_ble_eq_true rfl) (Nat.le_of_ble_eq_true rfl) dX7_appeal_39) (fun h2 => ?_)
    refine g_aload_n (pc := 42) dX7_appeal_42 rfl 0 rfl ?_
    refine g_iload_n (pc := 43) dX7_appeal_43 rfl 1 rfl ?_
    refine g_cI (pc := 44) (st := []) (fun r hr => gRunV (As := [.int a1]) 17 (ge_X7_secondOf γ a1 h2) hr wv_RX7_152 rfl (Nat.le_of_ble_eq_true rfl) (gat_17 _ _) rfl rfl (Nat.le_of_ble_eq_true rfl) (Nat.le_of_ble_eq_true rfl) dX7_appeal_44) (fun x4 h3 => ?_)
    refine g_istore_n (pc := 47) (lv' := [(2, .int x4), (0, .ref (gad γ 17)), (1, .int a1)]) dX7_appeal_47 rfl (by decide) rfl ?_
    refine g_aload_n (pc := 48) dX7_appeal_48 rfl 1 rfl ?_
    refine g_iload_n (pc := 49) dX7_appeal_49 rfl 2 rfl ?_
    refine g_iconst (pc := 50) (v := 0) dX7_appeal_50 (by decide) ?_
    refine g_cI (pc := 51) (st := []) (fun r hr => gRunV (As := [.int a1, .int 0]) 17 (ge_X7_ofLot γ a1 0 h3) hr wv_RX7_50 rfl (Nat.le_of_ble_eq_true rfl) (gat_17 _ _) rfl rfl (Nat.le_of_ble_eq_true rfl) (Nat.le_of_ble_eq_true rfl) dX7_appeal_51) (fun x6 h5 => ?_)
    refine g_istore_n (pc := 54) (lv' := [(3, .int x6), (2, .int x4), (0, .ref (gad γ 17)), (1, .int a1)]) dX7_appeal_54 rfl (by decide) rfl ?_
    refine g_aload_n (pc := 55) dX7_appeal_55 rfl 2 rfl ?_
    refine g_aload_n (pc := 56) dX7_appeal_56 rfl 2 rfl ?_
    refine g_iload_n (pc := 57) dX7_appeal_57 rfl 3 rfl ?_
    refine g_bipush (pc := 58) (v := 9) dX7_appeal_58 (by decide) ?_
    refine g_cI (pc := 60) (st := [.ref (gad γ 17)]) (fun r hr => gRunV (As := [.int a1, .int 9]) 17 (ge_X7_ofLot γ a1 9 h5) hr wv_RX7_50 rfl (Nat.le_of_ble_eq_true rfl) (gat_17 _ _) rfl rfl (Nat.le_of_ble_eq_true rfl) (Nat.le_of_ble_eq_true rfl) dX7_appeal_60) (fun x8 h7 => ?_)
    refine g_aload_n (pc := 63) dX7_appeal_63 rfl 2 rfl ?_
    refine g_iload_n (pc := 64) dX7_appeal_64 rfl 3 rfl ?_
    refine g_iconst (pc := 65) (v := 1) dX7_appeal_65 (by decide) ?_
    refine g_cI (pc := 66) (st := [.int x8, .ref (gad γ 17)]) (fun r hr => gRunV (As := [.int a1, .int 1]) 17 (ge_X7_ofLot γ a1 1 h7) hr wv_RX7_50 rfl (Nat.le_of_ble_eq_true rfl) (gat_17 _ _) rfl rfl (Nat.le_of_ble_eq_true rfl) (Nat.le_of_ble_eq_true rfl) dX7_appeal_66) (fun x10 h9 => ?_)
    refine g_iload_n (pc := 69) dX7_appeal_69 rfl 1 rfl ?_
    refine g_aload_n (pc := 70) dX7_appeal_70 rfl 2 rfl ?_
    refine g_iload_n (pc := 71) dX7_appeal_71 rfl 3 rfl ?_
    refine g_cI (pc := 72) (st := [.int x4, .int x10, .int x8, .ref (gad γ 17)]) (fun r hr => gRunV (As := [.int a1]) 17 (ge_X7_gradeOfLot γ a1 h9) hr wv_RX7_130 rfl (Nat.le_of_ble_eq_true rfl) (gat_17 _ _) rfl rfl (Nat.le_of_ble_eq_true rfl) (Nat.le_of_ble_eq_true rfl) dX7_appeal_72) (fun x12 h11 => ?_)
    refine g_cV (pc := 75) (st := []) (fun r hr => gRunV (As := [.int x8, .int x10, .int x4, .int x12]) 17 (ge_X7_pour γ x8 x10 x4 x12 h11) hr wv_RX7_148 rfl (Nat.le_of_ble_eq_true rfl) (gat_17 _ _) rfl rfl (Nat.le_of_ble_eq_true rfl) (Nat.le_of_ble_eq_true rfl) dX7_appeal_75) (fun h13 => ?_)
    refine g_aload_n (pc := 78) dX7_appeal_78 rfl 2 rfl ?_
    refine gf_RX7_7_17 (pc := 79) dX7_appeal_79 ?_
    refine g_bipush (pc := 82) (v := 40) dX7_appeal_82 (by decide) ?_
    refine g_iload_n (pc := 84) dX7_appeal_84 rfl 0 rfl ?_
    refine g_iadd (pc := 85) dX7_appeal_85 ?_
    refine g_nmi (fun x14 => ?_)
    refine g_dup2 (pc := 86) dX7_appeal_86 rfl rfl ?_
    refine g_iald (pc := 87) 18 (gat_18 _ _) dX7_appeal_87 ?_
    refine g_iload_n (pc := 88) dX7_appeal_88 rfl 1 rfl ?_
    refine g_iadd (pc := 89) dX7_appeal_89 ?_
    refine g_iast (pc := 90) 18 (gat_18 _ _) (gset_18 _ _ _) dX7_appeal_90 ?_
    refine g_nmh (fun h15 => ?_)
    refine g_aload_n (pc := 91) dX7_appeal_91 rfl 2 rfl ?_
    refine gf_RX7_7_17 (pc := 92) dX7_appeal_92 ?_
    refine g_bipush (pc := 95) (v := 20) dX7_appeal_95 (by decide) ?_
    refine g_aload_n (pc := 97) dX7_appeal_97 rfl 2 rfl ?_
    refine g_iload_n (pc := 98) dX7_appeal_98 rfl 3 rfl ?_
    refine g_iconst (pc := 99) (v := 1) dX7_appeal_99 (by decide) ?_
    refine g_cI (pc := 100) (st := [.int 20, .ref (gad γ 18)]) (fun r hr => gRunV (As := [.int a1, .int 1]) 17 (ge_X7_ofLot γ a1 1 h15) hr wv_RX7_50 rfl (Nat.le_of_ble_eq_true rfl) (gat_17 _ _) rfl rfl (Nat.le_of_ble_eq_true rfl) (Nat.le_of_ble_eq_true rfl) dX7_appeal_100) (fun x17 h16 => ?_)
    refine g_iadd (pc := 103) dX7_appeal_103 ?_
    refine g_nmi (fun x18 => ?_)
    refine g_dup2 (pc := 104) dX7_appeal_104 rfl rfl ?_
    refine g_iald (pc := 105) 18 (gat_18 _ _) dX7_appeal_105 ?_
    refine g_iload_n (pc := 106) dX7_appeal_106 rfl 1 rfl ?_
    refine g_iadd (pc := 107) dX7_appeal_107 ?_
    refine g_iast (pc := 108) 18 (gat_18 _ _) (gset_18 _ _ _) dX7_appeal_108 ?_
    refine g_nmh (fun h19 => ?_)
    refine g_aload_n (pc := 109) dX7_appeal_109 rfl 2 rfl ?_
    refine gf_RX7_7_17 (pc := 110) dX7_appeal_110 ?_
    refine g_bipush (pc := 113) (v := 14) dX7_appeal_113 (by decide) ?_
    refine g_dup2 (pc := 115) dX7_appeal_115 rfl rfl ?_
    refine g_iald (pc := 116) 18 (gat_18 _ _) dX7_appeal_116 ?_
    refine g_iconst (pc := 117) (v := 1) dX7_appeal_117 (by decide) ?_
    refine g_iadd (pc := 118) dX7_appeal_118 ?_
    refine g_iast (pc := 119) 18 (gat_18 _ _) (gset_18 _ _ _) dX7_appeal_119 ?_
    refine g_nmh (fun h20 => ?_)
    refine g_aload_n (pc := 120) dX7_appeal_120 rfl 2 rfl ?_
    refine gf_RX7_7_17 (pc := 121) dX7_appeal_121 ?_
    refine g_bipush (pc := 124) (v := 56) dX7_appeal_124 (by decide) ?_
    refine g_iload_n (pc := 126) dX7_appeal_126 rfl 0 rfl ?_
    refine g_iadd (pc := 127) dX7_appeal_127 ?_
    refine g_nmi (fun x21 => ?_)
    refine g_dup2 (pc := 128) dX7_appeal_128 rfl rfl ?_
    refine g_iald (pc := 129) 18 (gat_18 _ _) dX7_appeal_129 ?_
    refine g_iconst (pc := 130) (v := 1) dX7_appeal_130 (by decide) ?_
    refine g_iadd (pc := 131) dX7_appeal_131 ?_
    refine g_iast (pc := 132) 18 (gat_18 _ _) (gset_18 _ _ _) dX7_appeal_132 ?_
    refine g_nmh (fun h22 => ?_)
    refine g_iload_n (pc := 133) dX7_appeal_133 rfl 1 rfl ?_
    refine g_aload_n (pc := 134) dX7_appeal_134 rfl 2 rfl ?_
    refine gf_RX7_7_17 (pc := 135) dX7_appeal_135 ?_
    refine g_iconst (pc := 138) (v := 4) dX7_appeal_138 (by decide) ?_
    refine g_iald (pc := 139) 18 (gat_18 _ _) dX7_appeal_139 ?_
    refine g_icmp_ge (pc := 140) (tgt := 194) dX7_appeal_140 (by decide) ?_ ?_
    · exact g_sub [2, 3, 1] rfl (gjb_X7_appeal_194 γ a1 x4 h22)
    · refine g_aload_n (pc := 143) dX7_appeal_143 rfl 2 rfl ?_
      refine gf_RX7_7_17 (pc := 144) dX7_appeal_144 ?_
      refine g_bipush (pc := 147) (v := 40) dX7_appeal_147 (by decide) ?_
      refine g_iload_n (pc := 149) dX7_appeal_149 rfl 0 rfl ?_
      refine g_iadd (pc := 150) dX7_appeal_150 ?_
      refine g_iald (pc := 151) 18 (gat_18 _ _) dX7_appeal_151 ?_
      refine g_aload_n (pc := 152) dX7_appeal_152 rfl 2 rfl ?_
      refine gf_RX7_7_17 (pc := 153) dX7_appeal_153 ?_
      refine g_iconst (pc := 156) (v := 4) dX7_appeal_156 (by decide) ?_
      refine g_iald (pc := 157) 18 (gat_18 _ _) dX7_appeal_157 ?_
      refine g_isub (pc := 158) dX7_appeal_158 ?_
      refine g_nmi (fun x23 => ?_)
      refine g_istore (pc := 159) (lv' := [(4, .int x23), (3, .int x6), (2, .int x4), (0, .ref (gad γ 17)), (1, .int a1)]) dX7_appeal_159 (by decide) rfl ?_
      refine g_aload_n (pc := 161) dX7_appeal_161 rfl 3 rfl ?_
      refine gf_RX7_7_17 (pc := 162) dX7_appeal_162 ?_
      refine g_bipush (pc := 165) (v := 40) dX7_appeal_165 (by decide) ?_
      refine g_iload_n (pc := 167) dX7_appeal_167 rfl 1 rfl ?_
      refine g_iadd (pc := 168) dX7_appeal_168 ?_
      refine g_iload (pc := 169) dX7_appeal_169 0 rfl ?_
      refine g_if_ge (pc := 171) (tgt := 178) dX7_appeal_171 (by decide) ?_ ?_
      · refine g_iload (pc := 178) dX7_appeal_178 0 rfl ?_
        exact g_sub [3, 4, 2, 1] rfl (gjb_X7_appeal_180 γ a1 x4 x6 x23 (40 + x6) h22)
      · refine g_iconst (pc := 174) (v := 0) dX7_appeal_174 (by decide) ?_
        refine g_goto (pc := 175) (tgt := 180) dX7_appeal_175 (by decide) ?_
        exact g_sub [3, 4, 2, 1] rfl (gjb_X7_appeal_180 γ a1 x4 x6 0 (40 + x6) h22)
  · refine g_iconst (pc := 36) (v := 0) dX7_appeal_36 (by decide) ?_
    exact g_ireturn (pc := 37) (ty := .int) dX7_appeal_37 rfl rfl rfl
set_option maxRecDepth 20000 in
theorem ge_X7_appeal (γ : Gv) (p0 : Int32) (h : Hst) : G γ RX7 cX7_appeal 5 (some .int) [] vI 4 0 0 (lv_args 0 [.ref (gad γ 17), .int p0]) [] h (f_X7_appeal p0 h) := by
  show G γ RX7 cX7_appeal 5 (some .int) [] vI 4 0 0 [(0, .ref (gad γ 17)), (1, .int p0)] [] h (f_X7_appeal p0 h)
  unfold f_X7_appeal
  refine g_aload_n (pc := 0) dX7_appeal_0 rfl 0 rfl ?_
  refine g_aload_n (pc := 1) dX7_appeal_1 rfl 0 rfl ?_
  refine g_iload_n (pc := 2) dX7_appeal_2 rfl 1 rfl ?_
  refine g_cI (pc := 3) (st := [.ref (gad γ 17)]) (fun r hr => gRunV (As := [.int p0]) 17 (ge_X7_isLot γ p0 h) hr wv_RX7_155 rfl (Nat.le_of_ble_eq_true rfl) (gat_17 _ _) rfl rfl (Nat.le_of_ble_eq_true rfl) (Nat.le_of_ble_eq_true rfl) dX7_appeal_3) (fun x2 h1 => ?_)
  refine g_if_ne (pc := 6) (tgt := 13) dX7_appeal_6 (by decide) ?_ ?_
  · refine g_aload_n (pc := 13) dX7_appeal_13 rfl 0 rfl ?_
    refine g_iload_n (pc := 14) dX7_appeal_14 rfl 1 rfl ?_
    refine g_cI (pc := 15) (st := [.ref (gad γ 17)]) (fun r hr => gRunV (As := [.int p0]) 17 (ge_X7_whyNoAppeal γ p0 h1) hr wv_RX7_158 rfl (Nat.le_of_ble_eq_true rfl) (gat_17 _ _) rfl rfl (Nat.le_of_ble_eq_true rfl) (Nat.le_of_ble_eq_true rfl) dX7_appeal_15) (fun x4 h3 => ?_)
    refine g_if_ne (pc := 18) (tgt := 25) dX7_appeal_18 (by decide) ?_ ?_
    · refine g_iconst (pc := 25) (v := 2) dX7_appeal_25 (by decide) ?_
      exact gjb_X7_appeal_26 γ p0 2 h3
    · refine g_iconst (pc := 21) (v := 0) dX7_appeal_21 (by decide) ?_
      refine g_goto (pc := 22) (tgt := 26) dX7_appeal_22 (by decide) ?_
      exact gjb_X7_appeal_26 γ p0 0 h3
  · refine g_iconst (pc := 9) (v := 1) dX7_appeal_9 (by decide) ?_
    refine g_goto (pc := 10) (tgt := 26) dX7_appeal_10 (by decide) ?_
    exact gjb_X7_appeal_26 γ p0 1 h1
def jb_X7_layShares_112 (R71 : Int32 → Hst → Option (Hst)) (R82 : Int32 → Int32 → Int32 → Hst → Option (Hst)) (a4 : Int32) (a6 : Int32) (s0 : Int32) (h : Hst) : Option (Hst) :=
  (R82 a4 s0 (a6 + 1) h)
def lp_X7_layShares_82 (R71 : Int32 → Hst → Option (Hst)) : Nat → Int32 → Int32 → Int32 → Hst → Option (Hst)
  | 0, _, _, _, _ => none
  | n + 1, a4, a5, a6, h =>
    (if 5 ≤ a6 then
      gck a5 5 (gck a5 5 (gl (hst h 22 a5.toNatClampNeg ((h.1 22 a5.toNatClampNeg) + 1)) fun h1 =>
      gck a5 5 (gl (hst h1 23 a5.toNatClampNeg (-1)) fun h2 =>
      (R71 (a4 + (-1)) h2))))
    else
      gck a6 5 (gck a5 5 ((if (h.1 23 a6.toNatClampNeg) ≤ (h.1 23 a5.toNatClampNeg) then
        (jb_X7_layShares_112 R71 (lp_X7_layShares_82 R71 n) a4 a6 a5 h)
      else
        (jb_X7_layShares_112 R71 (lp_X7_layShares_82 R71 n) a4 a6 a6 h)))))
def lp_X7_layShares_71 : Nat → Int32 → Hst → Option (Hst)
  | 0, _, _ => none
  | n + 1, a4, h =>
    (if a4 ≤ 0 then
      (some h)
    else
      (lp_X7_layShares_82 (lp_X7_layShares_71 n) FU a4 0 1 h))
def lp_X7_layShares_12 : Nat → Int32 → Int32 → Int32 → Int32 → Int32 → Hst → Option (Hst)
  | 0, _, _, _, _, _, _ => none
  | n + 1, a1, a2, a3, a4, a5, h =>
    (if 5 ≤ a5 then
      (lp_X7_layShares_71 FU a4 h)
    else
      gb (f_X7_ofTank a1 (2 + a5) h) fun x2 h1 =>
      gl (x2 * a2) fun x3 =>
      gdz a3 (gck a5 5 (gl (hst h1 22 a5.toNatClampNeg (x3 / a3)) fun h4 =>
      gdz a3 (gck a5 5 (gl (hst h4 23 a5.toNatClampNeg (x3 - x3 / a3 * a3)) fun h5 =>
      gck a5 5 (gl (a4 - (h5.1 22 a5.toNatClampNeg)) fun x6 =>
      ((lp_X7_layShares_12 n) a1 a2 a3 x6 (a5 + 1) h5)))))))
def f_X7_layShares (p0 : Int32) (p1 : Int32) (h : Hst) : Option (Hst) :=
  gb (f_X7_oilOf p0 h) fun x2 h1 =>
  (lp_X7_layShares_12 FU p0 p1 x2 p1 0 h1)
set_option maxRecDepth 20000 in
theorem gjb_X7_layShares_112 (γ : Gv) (R71 : Int32 → Hst → Option (Hst)) (R82 : Int32 → Int32 → Int32 → Hst → Option (Hst)) (hR71 : ∀ (a4 : Int32) (h : Hst), G γ RX7 cX7_layShares 7 none [] vV 2 0 71 [(0, .ref (gad γ 17)), (4, .int a4)] [] h (R71 a4 h)) (hR82 : ∀ (a4 : Int32) (a5 : Int32) (a6 : Int32) (h : Hst), G γ RX7 cX7_layShares 7 none [] vV 2 0 82 [(0, .ref (gad γ 17)), (4, .int a4), (5, .int a5), (6, .int a6)] [] h (R82 a4 a5 a6 h)) (a4 : Int32) (a6 : Int32) (s0 : Int32) (h : Hst) : G γ RX7 cX7_layShares 7 none [] vV 2 0 112 [(0, .ref (gad γ 17)), (4, .int a4), (6, .int a6)] [.int s0] h (jb_X7_layShares_112 R71 R82 a4 a6 s0 h) := by
  unfold jb_X7_layShares_112
  refine g_istore (pc := 112) (lv' := [(5, .int s0), (0, .ref (gad γ 17)), (4, .int a4), (6, .int a6)]) dX7_layShares_112 (by decide) rfl ?_
  refine g_iinc (pc := 114) (q := 3) (v := a6 + 1) (lv' := [(6, .int (a6 + 1)), (5, .int s0), (0, .ref (gad γ 17)), (4, .int a4)]) dX7_layShares_114 rfl rfl (by decide) rfl ?_
  refine g_goto (pc := 117) (tgt := 82) dX7_layShares_117 (by decide) ?_
  exact g_sub [2, 3, 1, 0] rfl (hR82 a4 s0 (a6 + 1) h)
set_option maxRecDepth 20000 in
theorem glp_X7_layShares_82 (γ : Gv) (R71 : Int32 → Hst → Option (Hst)) (hR71 : ∀ (a4 : Int32) (h : Hst), G γ RX7 cX7_layShares 7 none [] vV 2 0 71 [(0, .ref (gad γ 17)), (4, .int a4)] [] h (R71 a4 h)) : ∀ (n : Nat) (a4 : Int32) (a5 : Int32) (a6 : Int32) (h : Hst), G γ RX7 cX7_layShares 7 none [] vV 2 0 82 [(0, .ref (gad γ 17)), (4, .int a4), (5, .int a5), (6, .int a6)] [] h (lp_X7_layShares_82 R71 n a4 a5 a6 h) := by
  intro n
  induction n with
  | zero => intro a4 a5 a6 h; exact g_none
  | succ n ih =>
    intro a4 a5 a6 h
    rw [lp_X7_layShares_82]
    refine g_iload (pc := 82) dX7_layShares_82 3 rfl ?_
    refine g_iconst (pc := 84) (v := 5) dX7_layShares_84 (by decide) ?_
    refine g_icmp_ge (pc := 85) (tgt := 120) dX7_layShares_85 (by decide) ?_ ?_
    · refine g_aload_n (pc := 120) dX7_layShares_120 rfl 0 rfl ?_
      refine gf_RX7_22_17 (pc := 121) dX7_layShares_121 ?_
      refine g_iload (pc := 124) dX7_layShares_124 2 rfl ?_
      refine g_dup2 (pc := 126) dX7_layShares_126 rfl rfl ?_
      refine g_iald (pc := 127) 22 (gat_22 _ _) dX7_layShares_127 ?_
      refine g_iconst (pc := 128) (v := 1) dX7_layShares_128 (by decide) ?_
      refine g_iadd (pc := 129) dX7_layShares_129 ?_
      refine g_iast (pc := 130) 22 (gat_22 _ _) (gset_22 _ _ _) dX7_layShares_130 ?_
      refine g_nmh (fun h1 => ?_)
      refine g_aload_n (pc := 131) dX7_layShares_131 rfl 0 rfl ?_
      refine gf_RX7_25_17 (pc := 132) dX7_layShares_132 ?_
      refine g_iload (pc := 135) dX7_layShares_135 2 rfl ?_
      refine g_iconst (pc := 137) (v := (-1)) dX7_layShares_137 (by decide) ?_
      refine g_iast (pc := 138) 23 (gat_23 _ _) (gset_23 _ _ _) dX7_layShares_138 ?_
      refine g_nmh (fun h2 => ?_)
      refine g_iinc (pc := 139) (q := 1) (v := a4 + (-1)) (lv' := [(4, .int (a4 + (-1))), (0, .ref (gad γ 17)), (5, .int a5), (6, .int a6)]) dX7_layShares_139 rfl rfl (by decide) rfl ?_
      refine g_goto (pc := 142) (tgt := 71) dX7_layShares_142 (by decide) ?_
      exact g_sub [1, 0] rfl (hR71 (a4 + (-1)) h2)
    · refine g_aload_n (pc := 88) dX7_layShares_88 rfl 0 rfl ?_
      refine gf_RX7_25_17 (pc := 89) dX7_layShares_89 ?_
      refine g_iload (pc := 92) dX7_layShares_92 3 rfl ?_
      refine g_iald (pc := 94) 23 (gat_23 _ _) dX7_layShares_94 ?_
      refine g_aload_n (pc := 95) dX7_layShares_95 rfl 0 rfl ?_
      refine gf_RX7_25_17 (pc := 96) dX7_layShares_96 ?_
      refine g_iload (pc := 99) dX7_layShares_99 2 rfl ?_
      refine g_iald (pc := 101) 23 (gat_23 _ _) dX7_layShares_101 ?_
      refine g_icmp_le (pc := 102) (tgt := 110) dX7_layShares_102 (by decide) ?_ ?_
      · refine g_iload (pc := 110) dX7_layShares_110 2 rfl ?_
        exact g_sub [0, 1, 3] rfl (gjb_X7_layShares_112 γ R71 (lp_X7_layShares_82 R71 n) hR71 ih a4 a6 a5 h)
      · refine g_iload (pc := 105) dX7_layShares_105 3 rfl ?_
        refine g_goto (pc := 107) (tgt := 112) dX7_layShares_107 (by decide) ?_
        exact g_sub [0, 1, 3] rfl (gjb_X7_layShares_112 γ R71 (lp_X7_layShares_82 R71 n) hR71 ih a4 a6 a6 h)
set_option maxRecDepth 20000 in
theorem glp_X7_layShares_71 (γ : Gv)  : ∀ (n : Nat) (a4 : Int32) (h : Hst), G γ RX7 cX7_layShares 7 none [] vV 2 0 71 [(0, .ref (gad γ 17)), (4, .int a4)] [] h (lp_X7_layShares_71 n a4 h) := by
  intro n
  induction n with
  | zero => intro a4 h; exact g_none
  | succ n ih =>
    intro a4 h
    rw [lp_X7_layShares_71]
    refine g_iload (pc := 71) dX7_layShares_71 1 rfl ?_
    refine g_if_le (pc := 73) (tgt := 145) dX7_layShares_73 (by decide) ?_ ?_
    · exact g_return (pc := 145) dX7_layShares_145 rfl rfl
    · refine g_iconst (pc := 76) (v := 0) dX7_layShares_76 (by decide) ?_
      refine g_istore (pc := 77) (lv' := [(5, .int 0), (0, .ref (gad γ 17)), (4, .int a4)]) dX7_layShares_77 (by decide) rfl ?_
      refine g_iconst (pc := 79) (v := 1) dX7_layShares_79 (by decide) ?_
      refine g_istore (pc := 80) (lv' := [(6, .int 1), (5, .int 0), (0, .ref (gad γ 17)), (4, .int a4)]) dX7_layShares_80 (by decide) rfl ?_
      exact g_sub [2, 3, 1, 0] rfl (glp_X7_layShares_82 γ (lp_X7_layShares_71 n) ih FU a4 0 1 h)
set_option maxRecDepth 20000 in
theorem glp_X7_layShares_12 (γ : Gv)  : ∀ (n : Nat) (a1 : Int32) (a2 : Int32) (a3 : Int32) (a4 : Int32) (a5 : Int32) (h : Hst), G γ RX7 cX7_layShares 7 none [] vV 2 0 12 [(0, .ref (gad γ 17)), (1, .int a1), (2, .int a2), (3, .int a3), (4, .int a4), (5, .int a5)] [] h (lp_X7_layShares_12 n a1 a2 a3 a4 a5 h) := by
  intro n
  induction n with
  | zero => intro a1 a2 a3 a4 a5 h; exact g_none
  | succ n ih =>
    intro a1 a2 a3 a4 a5 h
    rw [lp_X7_layShares_12]
    refine g_iload (pc := 12) dX7_layShares_12 5 rfl ?_
    refine g_iconst (pc := 14) (v := 5) dX7_layShares_14 (by decide) ?_
    refine g_icmp_ge (pc := 15) (tgt := 71) dX7_layShares_15 (by decide) ?_ ?_
    · exact g_sub [0, 4] rfl (glp_X7_layShares_71 γ FU a4 h)
    · refine g_aload_n (pc := 18) dX7_layShares_18 rfl 0 rfl ?_
      refine g_iload_n (pc := 19) dX7_layShares_19 rfl 1 rfl ?_
      refine g_iconst (pc := 20) (v := 2) dX7_layShares_20 (by decide) ?_
      refine g_iload (pc := 21) dX7_layShares_21 5 rfl ?_
      refine g_iadd (pc := 23) dX7_layShares_23 ?_
      refine g_cI (pc := 24) (st := []) (fun r hr => gRunV (As := [.int a1, .int (2 + a5)]) 17 (ge_X7_ofTank γ a1 (2 + a5) h) hr wv_RX7_42 rfl (Nat.le_of_ble_eq_true rfl) (gat_17 _ _) rfl rfl (Nat.le_of_ble_eq_true rfl) (Nat.le_of_ble_eq_true rfl) dX7_layShares_24) (fun x2 h1 => ?_)
      refine g_iload_n (pc := 27) dX7_layShares_27 rfl 2 rfl ?_
      refine g_imul (pc := 28) dX7_layShares_28 ?_
      refine g_nmi (fun x3 => ?_)
      refine g_istore (pc := 29) (lv' := [(6, .int x3), (0, .ref (gad γ 17)), (1, .int a1), (2, .int a2), (3, .int a3), (4, .int a4), (5, .int a5)]) dX7_layShares_29 (by decide) rfl ?_
      refine g_aload_n (pc := 31) dX7_layShares_31 rfl 1 rfl ?_
      refine gf_RX7_22_17 (pc := 32) dX7_layShares_32 ?_
      refine g_iload (pc := 35) dX7_layShares_35 6 rfl ?_
      refine g_iload (pc := 37) dX7_layShares_37 0 rfl ?_
      refine g_iload_n (pc := 39) dX7_layShares_39 rfl 4 rfl ?_
      refine g_idiv (pc := 40) dX7_layShares_40 ?_
      refine g_iast (pc := 41) 22 (gat_22 _ _) (gset_22 _ _ _) dX7_layShares_41 ?_
      refine g_nmh (fun h4 => ?_)
      refine g_aload_n (pc := 42) dX7_layShares_42 rfl 1 rfl ?_
      refine gf_RX7_25_17 (pc := 43) dX7_layShares_43 ?_
      refine g_iload (pc := 46) dX7_layShares_46 6 rfl ?_
      refine g_iload (pc := 48) dX7_layShares_48 0 rfl ?_
      refine g_iload_n (pc := 50) dX7_layShares_50 rfl 4 rfl ?_
      refine g_irem (pc := 51) dX7_layShares_51 ?_
      refine g_iast (pc := 52) 23 (gat_23 _ _) (gset_23 _ _ _) dX7_layShares_52 ?_
      refine g_nmh (fun h5 => ?_)
      refine g_iload (pc := 53) dX7_layShares_53 5 rfl ?_
      refine g_aload_n (pc := 55) dX7_layShares_55 rfl 1 rfl ?_
      refine gf_RX7_22_17 (pc := 56) dX7_layShares_56 ?_
      refine g_iload (pc := 59) dX7_layShares_59 6 rfl ?_
      refine g_iald (pc := 61) 22 (gat_22 _ _) dX7_layShares_61 ?_
      refine g_isub (pc := 62) dX7_layShares_62 ?_
      refine g_nmi (fun x6 => ?_)
      refine g_istore (pc := 63) (lv' := [(4, .int x6), (6, .int x3), (0, .ref (gad γ 17)), (1, .int a1), (2, .int a2), (3, .int a3), (5, .int a5)]) dX7_layShares_63 (by decide) rfl ?_
      refine g_iinc (pc := 65) (q := 6) (v := a5 + 1) (lv' := [(5, .int (a5 + 1)), (4, .int x6), (6, .int x3), (0, .ref (gad γ 17)), (1, .int a1), (2, .int a2), (3, .int a3)]) dX7_layShares_65 rfl rfl (by decide) rfl ?_
      refine g_goto (pc := 68) (tgt := 12) dX7_layShares_68 (by decide) ?_
      exact g_sub [3, 4, 5, 6, 1, 0] rfl (ih a1 a2 a3 x6 (a5 + 1) h5)
set_option maxRecDepth 20000 in
theorem ge_X7_layShares (γ : Gv) (p0 : Int32) (p1 : Int32) (h : Hst) : G γ RX7 cX7_layShares 7 none [] vV 2 0 0 (lv_args 0 [.ref (gad γ 17), .int p0, .int p1]) [] h (f_X7_layShares p0 p1 h) := by
  show G γ RX7 cX7_layShares 7 none [] vV 2 0 0 [(0, .ref (gad γ 17)), (1, .int p0), (2, .int p1)] [] h (f_X7_layShares p0 p1 h)
  unfold f_X7_layShares
  refine g_aload_n (pc := 0) dX7_layShares_0 rfl 0 rfl ?_
  refine g_iload_n (pc := 1) dX7_layShares_1 rfl 1 rfl ?_
  refine g_cI (pc := 2) (st := []) (fun r hr => gRunV (As := [.int p0]) 17 (ge_X7_oilOf γ p0 h) hr wv_RX7_46 rfl (Nat.le_of_ble_eq_true rfl) (gat_17 _ _) rfl rfl (Nat.le_of_ble_eq_true rfl) (Nat.le_of_ble_eq_true rfl) dX7_layShares_2) (fun x2 h1 => ?_)
  refine g_istore_n (pc := 5) (lv' := [(3, .int x2), (0, .ref (gad γ 17)), (1, .int p0), (2, .int p1)]) dX7_layShares_5 rfl (by decide) rfl ?_
  refine g_iload_n (pc := 6) dX7_layShares_6 rfl 3 rfl ?_
  refine g_istore (pc := 7) (lv' := [(4, .int p1), (3, .int x2), (0, .ref (gad γ 17)), (1, .int p0), (2, .int p1)]) dX7_layShares_7 (by decide) rfl ?_
  refine g_iconst (pc := 9) (v := 0) dX7_layShares_9 (by decide) ?_
  refine g_istore (pc := 10) (lv' := [(5, .int 0), (4, .int p1), (3, .int x2), (0, .ref (gad γ 17)), (1, .int p0), (2, .int p1)]) dX7_layShares_10 (by decide) rfl ?_
  exact g_sub [3, 4, 5, 2, 1, 0] rfl (glp_X7_layShares_12 γ FU p0 p1 x2 p1 0 h1)
def lp_X7_takeShares_2 : Nat → Int32 → Int32 → Hst → Option (Hst)
  | 0, _, _, _ => none
  | n + 1, a1, a2, h =>
    (if 5 ≤ a2 then
      (some h)
    else
      gl (((472 + (7 * a1)) + 2) + a2) fun x1 =>
      gck x1 514 (gck a2 5 (gck x1 514 (gl (hst h 18 x1.toNatClampNeg ((h.1 18 x1.toNatClampNeg) - (h.1 22 a2.toNatClampNeg))) fun h2 =>
      ((lp_X7_takeShares_2 n) a1 (a2 + 1) h2)))))
def f_X7_takeShares (p0 : Int32) (h : Hst) : Option (Hst) :=
  (lp_X7_takeShares_2 FU p0 0 h)
set_option maxRecDepth 20000 in
theorem glp_X7_takeShares_2 (γ : Gv)  : ∀ (n : Nat) (a1 : Int32) (a2 : Int32) (h : Hst), G γ RX7 cX7_takeShares 3 none [] vV 0 0 2 [(0, .ref (gad γ 17)), (1, .int a1), (2, .int a2)] [] h (lp_X7_takeShares_2 n a1 a2 h) := by
  intro n
  induction n with
  | zero => intro a1 a2 h; exact g_none
  | succ n ih =>
    intro a1 a2 h
    rw [lp_X7_takeShares_2]
    refine g_iload_n (pc := 2) dX7_takeShares_2 rfl 2 rfl ?_
    refine g_iconst (pc := 3) (v := 5) dX7_takeShares_3 (by decide) ?_
    refine g_icmp_ge (pc := 4) (tgt := 39) dX7_takeShares_4 (by decide) ?_ ?_
    · exact g_return (pc := 39) dX7_takeShares_39 rfl rfl
    · refine g_aload_n (pc := 7) dX7_takeShares_7 rfl 0 rfl ?_
      refine gf_RX7_7_17 (pc := 8) dX7_takeShares_8 ?_
      refine g_sipush (pc := 11) (v := 472) dX7_takeShares_11 (by decide) ?_
      refine g_bipush (pc := 14) (v := 7) dX7_takeShares_14 (by decide) ?_
      refine g_iload_n (pc := 16) dX7_takeShares_16 rfl 1 rfl ?_
      refine g_imul (pc := 17) dX7_takeShares_17 ?_
      refine g_iadd (pc := 18) dX7_takeShares_18 ?_
      refine g_iconst (pc := 19) (v := 2) dX7_takeShares_19 (by decide) ?_
      refine g_iadd (pc := 20) dX7_takeShares_20 ?_
      refine g_iload_n (pc := 21) dX7_takeShares_21 rfl 2 rfl ?_
      refine g_iadd (pc := 22) dX7_takeShares_22 ?_
      refine g_nmi (fun x1 => ?_)
      refine g_dup2 (pc := 23) dX7_takeShares_23 rfl rfl ?_
      refine g_iald (pc := 24) 18 (gat_18 _ _) dX7_takeShares_24 ?_
      refine g_aload_n (pc := 25) dX7_takeShares_25 rfl 0 rfl ?_
      refine gf_RX7_22_17 (pc := 26) dX7_takeShares_26 ?_
      refine g_iload_n (pc := 29) dX7_takeShares_29 rfl 2 rfl ?_
      refine g_iald (pc := 30) 22 (gat_22 _ _) dX7_takeShares_30 ?_
      refine g_isub (pc := 31) dX7_takeShares_31 ?_
      refine g_iast (pc := 32) 18 (gat_18 _ _) (gset_18 _ _ _) dX7_takeShares_32 ?_
      refine g_nmh (fun h2 => ?_)
      refine g_iinc (pc := 33) (q := 2) (v := a2 + 1) (lv' := [(2, .int (a2 + 1)), (0, .ref (gad γ 17)), (1, .int a1)]) dX7_takeShares_33 rfl rfl (by decide) rfl ?_
      refine g_goto (pc := 36) (tgt := 2) dX7_takeShares_36 (by decide) ?_
      exact g_sub [1, 2, 0] rfl (ih a1 (a2 + 1) h2)
set_option maxRecDepth 20000 in
theorem ge_X7_takeShares (γ : Gv) (p0 : Int32) (h : Hst) : G γ RX7 cX7_takeShares 3 none [] vV 0 0 0 (lv_args 0 [.ref (gad γ 17), .int p0]) [] h (f_X7_takeShares p0 h) := by
  show G γ RX7 cX7_takeShares 3 none [] vV 0 0 0 [(0, .ref (gad γ 17)), (1, .int p0)] [] h (f_X7_takeShares p0 h)
  unfold f_X7_takeShares
  refine g_iconst (pc := 0) (v := 0) dX7_takeShares_0 (by decide) ?_
  refine g_istore_n (pc := 1) (lv' := [(2, .int 0), (0, .ref (gad γ 17)), (1, .int p0)]) dX7_takeShares_1 rfl (by decide) rfl ?_
  exact g_sub [1, 2, 0] rfl (glp_X7_takeShares_2 γ FU p0 0 h)
def f_X7_isOil (p0 : Int32) (h : Hst) : Option (Int32 × Hst) :=
  gb (f_X7_within p0 1 20000 h) fun x2 h1 =>
  (gzr x2 (some (x2, h1)))
set_option maxRecDepth 20000 in
theorem ge_X7_isOil (γ : Gv) (p0 : Int32) (h : Hst) : G γ RX7 cX7_isOil 1 (some .boolean) [] vI 1 0 0 (lv_args 0 [.int p0]) [] h (f_X7_isOil p0 h) := by
  show G γ RX7 cX7_isOil 1 (some .boolean) [] vI 1 0 0 [(0, .int p0)] [] h (f_X7_isOil p0 h)
  unfold f_X7_isOil
  refine g_iload_n (pc := 0) dX7_isOil_0 rfl 0 rfl ?_
  refine g_iconst (pc := 1) (v := 1) dX7_isOil_1 (by decide) ?_
  refine g_sipush (pc := 2) (v := 20000) dX7_isOil_2 (by decide) ?_
  refine g_cI (pc := 5) (st := []) (fun r hr => gRunS (As := [.int p0, .int 1, .int 20000]) (ge_X7_within γ p0 1 20000 h) hr wv_RX7_38 rfl (Nat.le_of_ble_eq_true rfl) rfl (Nat.le_of_ble_eq_true rfl) (Nat.le_of_ble_eq_true rfl) dX7_isOil_5) (fun x2 h1 => ?_)
  exact g_zreturn (pc := 8) dX7_isOil_8 rfl rfl
def lp_X7_draw_89 : Nat → Int32 → Int32 → Int32 → Hst → Option (Int32 × Hst)
  | 0, _, _, _, _ => none
  | n + 1, a1, a3, a4, h =>
    (if 5 ≤ a4 then
      gl (40 + a1) fun x1 =>
      gck x1 514 (gck x1 514 (gl (hst h 18 x1.toNatClampNeg ((h.1 18 x1.toNatClampNeg) - a3)) fun h2 =>
      gl (48 + a1) fun x3 =>
      gck x3 514 (gck x3 514 (gl (hst h2 18 x3.toNatClampNeg ((h2.1 18 x3.toNatClampNeg) + a3)) fun h4 =>
      gck (40 + a1) 514 ((some (h4.1 18 (40 + a1).toNatClampNeg, h4)))))))
    else
      gl (25 + a4) fun x5 =>
      gck x5 514 (gck a4 5 (gck x5 514 (gl (hst h 18 x5.toNatClampNeg ((h.1 18 x5.toNatClampNeg) + (h.1 22 a4.toNatClampNeg))) fun h6 =>
      ((lp_X7_draw_89 n) a1 a3 (a4 + 1) h6)))))
def jb_X7_draw_59  (a1 : Int32) (a2 : Int32) (a3 : Int32) (s0 : Int32) (h : Hst) : Option (Int32 × Hst) :=
  gl (hst h 17 5 s0) fun h1 =>
  (if (h1.1 17 5) ≤ 0 then
    gbv (f_X7_save h1) fun h2 =>
    gbv (f_X7_layShares a2 a3 h2) fun h3 =>
    gbv (f_X7_takeShares a2 h3) fun h4 =>
    (lp_X7_draw_89 FU a1 a3 0 h4)
  else
    (some (0, h1)))
def jb_X7_draw_17  (a1 : Int32) (a2 : Int32) (a3 : Int32) (h : Hst) : Option (Int32 × Hst) :=
  (jb_X7_draw_59 a1 a2 a3 1 h)
def jb_X7_draw_54  (a1 : Int32) (a2 : Int32) (a3 : Int32) (h : Hst) : Option (Int32 × Hst) :=
  (jb_X7_draw_59 a1 a2 a3 3 h)
def f_X7_draw (p0 : Int32) (p1 : Int32) (p2 : Int32) (h : Hst) : Option (Int32 × Hst) :=
  gb (f_X7_isGrower p0 h) fun x2 h1 =>
  (if x2 = 0 then
    (jb_X7_draw_17 p0 p1 p2 h1)
  else
    gb (f_X7_isTank p1 h1) fun x4 h3 =>
    (if x4 = 0 then
      (jb_X7_draw_17 p0 p1 p2 h3)
    else
      gb (f_X7_isOil p2 h3) fun x6 h5 =>
      (if x6 = 0 then
        (jb_X7_draw_59 p0 p1 p2 2 h5)
      else
        gck (40 + p0) 514 ((if (h5.1 18 (40 + p0).toNatClampNeg) < p2 then
          (jb_X7_draw_54 p0 p1 p2 h5)
        else
          gb (f_X7_oilOf p1 h5) fun x8 h7 =>
          (if p2 ≤ x8 then
            (jb_X7_draw_59 p0 p1 p2 0 h7)
          else
            (jb_X7_draw_54 p0 p1 p2 h7)))))))
set_option maxRecDepth 20000 in
theorem glp_X7_draw_89 (γ : Gv)  : ∀ (n : Nat) (a1 : Int32) (a3 : Int32) (a4 : Int32) (h : Hst), G γ RX7 cX7_draw 5 (some .int) [] vI 3 0 89 [(0, .ref (gad γ 17)), (1, .int a1), (3, .int a3), (4, .int a4)] [] h (lp_X7_draw_89 n a1 a3 a4 h) := by
  intro n
  induction n with
  | zero => intro a1 a3 a4 h; exact g_none
  | succ n ih =>
    intro a1 a3 a4 h
    rw [lp_X7_draw_89]
    refine g_iload (pc := 89) dX7_draw_89 3 rfl ?_
    refine g_iconst (pc := 91) (v := 5) dX7_draw_91 (by decide) ?_
    refine g_icmp_ge (pc := 92) (tgt := 121) dX7_draw_92 (by decide) ?_ ?_
    · refine g_aload_n (pc := 121) dX7_draw_121 rfl 0 rfl ?_
      refine gf_RX7_7_17 (pc := 122) dX7_draw_122 ?_
      refine g_bipush (pc := 125) (v := 40) dX7_draw_125 (by decide) ?_
      refine g_iload_n (pc := 127) dX7_draw_127 rfl 1 rfl ?_
      refine g_iadd (pc := 128) dX7_draw_128 ?_
      refine g_nmi (fun x1 => ?_)
      refine g_dup2 (pc := 129) dX7_draw_129 rfl rfl ?_
      refine g_iald (pc := 130) 18 (gat_18 _ _) dX7_draw_130 ?_
      refine g_iload_n (pc := 131) dX7_draw_131 rfl 2 rfl ?_
      refine g_isub (pc := 132) dX7_draw_132 ?_
      refine g_iast (pc := 133) 18 (gat_18 _ _) (gset_18 _ _ _) dX7_draw_133 ?_
      refine g_nmh (fun h2 => ?_)
      refine g_aload_n (pc := 134) dX7_draw_134 rfl 0 rfl ?_
      refine gf_RX7_7_17 (pc := 135) dX7_draw_135 ?_
      refine g_bipush (pc := 138) (v := 48) dX7_draw_138 (by decide) ?_
      refine g_iload_n (pc := 140) dX7_draw_140 rfl 1 rfl ?_
      refine g_iadd (pc := 141) dX7_draw_141 ?_
      refine g_nmi (fun x3 => ?_)
      refine g_dup2 (pc := 142) dX7_draw_142 rfl rfl ?_
      refine g_iald (pc := 143) 18 (gat_18 _ _) dX7_draw_143 ?_
      refine g_iload_n (pc := 144) dX7_draw_144 rfl 2 rfl ?_
      refine g_iadd (pc := 145) dX7_draw_145 ?_
      refine g_iast (pc := 146) 18 (gat_18 _ _) (gset_18 _ _ _) dX7_draw_146 ?_
      refine g_nmh (fun h4 => ?_)
      refine g_aload_n (pc := 147) dX7_draw_147 rfl 0 rfl ?_
      refine gf_RX7_7_17 (pc := 148) dX7_draw_148 ?_
      refine g_bipush (pc := 151) (v := 40) dX7_draw_151 (by decide) ?_
      refine g_iload_n (pc := 153) dX7_draw_153 rfl 1 rfl ?_
      refine g_iadd (pc := 154) dX7_draw_154 ?_
      refine g_iald (pc := 155) 18 (gat_18 _ _) dX7_draw_155 ?_
      exact g_ireturn (pc := 156) (ty := .int) dX7_draw_156 rfl rfl rfl
    · refine g_aload_n (pc := 95) dX7_draw_95 rfl 0 rfl ?_
      refine gf_RX7_7_17 (pc := 96) dX7_draw_96 ?_
      refine g_bipush (pc := 99) (v := 25) dX7_draw_99 (by decide) ?_
      refine g_iload (pc := 101) dX7_draw_101 3 rfl ?_
      refine g_iadd (pc := 103) dX7_draw_103 ?_
      refine g_nmi (fun x5 => ?_)
      refine g_dup2 (pc := 104) dX7_draw_104 rfl rfl ?_
      refine g_iald (pc := 105) 18 (gat_18 _ _) dX7_draw_105 ?_
      refine g_aload_n (pc := 106) dX7_draw_106 rfl 0 rfl ?_
      refine gf_RX7_22_17 (pc := 107) dX7_draw_107 ?_
      refine g_iload (pc := 110) dX7_draw_110 3 rfl ?_
      refine g_iald (pc := 112) 22 (gat_22 _ _) dX7_draw_112 ?_
      refine g_iadd (pc := 113) dX7_draw_113 ?_
      refine g_iast (pc := 114) 18 (gat_18 _ _) (gset_18 _ _ _) dX7_draw_114 ?_
      refine g_nmh (fun h6 => ?_)
      refine g_iinc (pc := 115) (q := 3) (v := a4 + 1) (lv' := [(4, .int (a4 + 1)), (0, .ref (gad γ 17)), (1, .int a1), (3, .int a3)]) dX7_draw_115 rfl rfl (by decide) rfl ?_
      refine g_goto (pc := 118) (tgt := 89) dX7_draw_118 (by decide) ?_
      exact g_sub [1, 2, 3, 0] rfl (ih a1 a3 (a4 + 1) h6)
set_option maxRecDepth 20000 in
theorem gjb_X7_draw_59 (γ : Gv)  (a1 : Int32) (a2 : Int32) (a3 : Int32) (s0 : Int32) (h : Hst) : G γ RX7 cX7_draw 5 (some .int) [] vI 3 0 59 [(0, .ref (gad γ 17)), (1, .int a1), (2, .int a2), (3, .int a3)] [.int s0, .ref (gad γ 17)] h (jb_X7_draw_59 a1 a2 a3 s0 h) := by
  unfold jb_X7_draw_59
  refine pf_RX7_31_17 (pc := 59) dX7_draw_59 ?_
  refine g_nmh (fun h1 => ?_)
  refine g_aload_n (pc := 62) dX7_draw_62 rfl 0 rfl ?_
  refine gf_RX7_31_17 (pc := 63) dX7_draw_63 ?_
  refine g_if_le (pc := 66) (tgt := 71) dX7_draw_66 (by decide) ?_ ?_
  · refine g_aload_n (pc := 71) dX7_draw_71 rfl 0 rfl ?_
    refine g_cV (pc := 72) (st := []) (fun r hr => gRunV (As := []) 17 (ge_X7_save γ h1) hr wv_RX7_56 rfl (Nat.le_of_ble_eq_true rfl) (gat_17 _ _) rfl rfl (Nat.le_of_ble_eq_true rfl) (Nat.le_of_ble_eq_true rfl) dX7_draw_72) (fun h2 => ?_)
    refine g_aload_n (pc := 75) dX7_draw_75 rfl 0 rfl ?_
    refine g_iload_n (pc := 76) dX7_draw_76 rfl 2 rfl ?_
    refine g_iload_n (pc := 77) dX7_draw_77 rfl 3 rfl ?_
    refine g_cV (pc := 78) (st := []) (fun r hr => gRunV (As := [.int a2, .int a3]) 17 (ge_X7_layShares γ a2 a3 h2) hr wv_RX7_164 rfl (Nat.le_of_ble_eq_true rfl) (gat_17 _ _) rfl rfl (Nat.le_of_ble_eq_true rfl) (Nat.le_of_ble_eq_true rfl) dX7_draw_78) (fun h3 => ?_)
    refine g_aload_n (pc := 81) dX7_draw_81 rfl 0 rfl ?_
    refine g_iload_n (pc := 82) dX7_draw_82 rfl 2 rfl ?_
    refine g_cV (pc := 83) (st := []) (fun r hr => gRunV (As := [.int a2]) 17 (ge_X7_takeShares γ a2 h3) hr wv_RX7_168 rfl (Nat.le_of_ble_eq_true rfl) (gat_17 _ _) rfl rfl (Nat.le_of_ble_eq_true rfl) (Nat.le_of_ble_eq_true rfl) dX7_draw_83) (fun h4 => ?_)
    refine g_iconst (pc := 86) (v := 0) dX7_draw_86 (by decide) ?_
    refine g_istore (pc := 87) (lv' := [(4, .int 0), (0, .ref (gad γ 17)), (1, .int a1), (2, .int a2), (3, .int a3)]) dX7_draw_87 (by decide) rfl ?_
    exact g_sub [1, 2, 4, 0] rfl (glp_X7_draw_89 γ FU a1 a3 0 h4)
  · refine g_iconst (pc := 69) (v := 0) dX7_draw_69 (by decide) ?_
    exact g_ireturn (pc := 70) (ty := .int) dX7_draw_70 rfl rfl rfl
set_option maxRecDepth 20000 in
theorem gjb_X7_draw_17 (γ : Gv)  (a1 : Int32) (a2 : Int32) (a3 : Int32) (h : Hst) : G γ RX7 cX7_draw 5 (some .int) [] vI 3 0 17 [(0, .ref (gad γ 17)), (1, .int a1), (2, .int a2), (3, .int a3)] [.ref (gad γ 17)] h (jb_X7_draw_17 a1 a2 a3 h) := by
  unfold jb_X7_draw_17
  refine g_iconst (pc := 17) (v := 1) dX7_draw_17 (by decide) ?_
  refine g_goto (pc := 18) (tgt := 59) dX7_draw_18 (by decide) ?_
  exact gjb_X7_draw_59 γ a1 a2 a3 1 h
set_option maxRecDepth 20000 in
theorem gjb_X7_draw_54 (γ : Gv)  (a1 : Int32) (a2 : Int32) (a3 : Int32) (h : Hst) : G γ RX7 cX7_draw 5 (some .int) [] vI 3 0 54 [(0, .ref (gad γ 17)), (1, .int a1), (2, .int a2), (3, .int a3)] [.ref (gad γ 17)] h (jb_X7_draw_54 a1 a2 a3 h) := by
  unfold jb_X7_draw_54
  refine g_iconst (pc := 54) (v := 3) dX7_draw_54 (by decide) ?_
  refine g_goto (pc := 55) (tgt := 59) dX7_draw_55 (by decide) ?_
  exact gjb_X7_draw_59 γ a1 a2 a3 3 h
set_option maxRecDepth 20000 in
theorem ge_X7_draw (γ : Gv) (p0 : Int32) (p1 : Int32) (p2 : Int32) (h : Hst) : G γ RX7 cX7_draw 5 (some .int) [] vI 3 0 0 (lv_args 0 [.ref (gad γ 17), .int p0, .int p1, .int p2]) [] h (f_X7_draw p0 p1 p2 h) := by
  show G γ RX7 cX7_draw 5 (some .int) [] vI 3 0 0 [(0, .ref (gad γ 17)), (1, .int p0), (2, .int p1), (3, .int p2)] [] h (f_X7_draw p0 p1 p2 h)
  unfold f_X7_draw
  refine g_aload_n (pc := 0) dX7_draw_0 rfl 0 rfl ?_
  refine g_aload_n (pc := 1) dX7_draw_1 rfl 0 rfl ?_
  refine g_iload_n (pc := 2) dX7_draw_2 rfl 1 rfl ?_
  refine g_cI (pc := 3) (st := [.ref (gad γ 17)]) (fun r hr => gRunV (As := [.int p0]) 17 (ge_X7_isGrower γ p0 h) hr wv_RX7_63 rfl (Nat.le_of_ble_eq_true rfl) (gat_17 _ _) rfl rfl (Nat.le_of_ble_eq_true rfl) (Nat.le_of_ble_eq_true rfl) dX7_draw_3) (fun x2 h1 => ?_)
  refine g_if_eq (pc := 6) (tgt := 17) dX7_draw_6 (by decide) ?_ ?_
  · exact gjb_X7_draw_17 γ p0 p1 p2 h1
  · refine g_aload_n (pc := 9) dX7_draw_9 rfl 0 rfl ?_
    refine g_iload_n (pc := 10) dX7_draw_10 rfl 2 rfl ?_
    refine g_cI (pc := 11) (st := [.ref (gad γ 17)]) (fun r hr => gRunV (As := [.int p1]) 17 (ge_X7_isTank γ p1 h1) hr wv_RX7_137 rfl (Nat.le_of_ble_eq_true rfl) (gat_17 _ _) rfl rfl (Nat.le_of_ble_eq_true rfl) (Nat.le_of_ble_eq_true rfl) dX7_draw_11) (fun x4 h3 => ?_)
    refine g_if_ne (pc := 14) (tgt := 21) dX7_draw_14 (by decide) ?_ ?_
    · refine g_iload_n (pc := 21) dX7_draw_21 rfl 3 rfl ?_
      refine g_cI (pc := 22) (st := [.ref (gad γ 17)]) (fun r hr => gRunS (As := [.int p2]) (ge_X7_isOil γ p2 h3) hr wv_RX7_161 rfl (Nat.le_of_ble_eq_true rfl) rfl (Nat.le_of_ble_eq_true rfl) (Nat.le_of_ble_eq_true rfl) dX7_draw_22) (fun x6 h5 => ?_)
      refine g_if_ne (pc := 25) (tgt := 32) dX7_draw_25 (by decide) ?_ ?_
      · refine g_aload_n (pc := 32) dX7_draw_32 rfl 0 rfl ?_
        refine gf_RX7_7_17 (pc := 33) dX7_draw_33 ?_
        refine g_bipush (pc := 36) (v := 40) dX7_draw_36 (by decide) ?_
        refine g_iload_n (pc := 38) dX7_draw_38 rfl 1 rfl ?_
        refine g_iadd (pc := 39) dX7_draw_39 ?_
        refine g_iald (pc := 40) 18 (gat_18 _ _) dX7_draw_40 ?_
        refine g_iload_n (pc := 41) dX7_draw_41 rfl 3 rfl ?_
        refine g_icmp_lt (pc := 42) (tgt := 54) dX7_draw_42 (by decide) ?_ ?_
        · exact gjb_X7_draw_54 γ p0 p1 p2 h5
        · refine g_aload_n (pc := 45) dX7_draw_45 rfl 0 rfl ?_
          refine g_iload_n (pc := 46) dX7_draw_46 rfl 2 rfl ?_
          refine g_cI (pc := 47) (st := [.ref (gad γ 17)]) (fun r hr => gRunV (As := [.int p1]) 17 (ge_X7_oilOf γ p1 h5) hr wv_RX7_46 rfl (Nat.le_of_ble_eq_true rfl) (gat_17 _ _) rfl rfl (Nat.le_of_ble_eq_true rfl) (Nat.le_of_ble_eq_true rfl) dX7_draw_47) (fun x8 h7 => ?_)
          refine g_iload_n (pc := 50) dX7_draw_50 rfl 3 rfl ?_
          refine g_icmp_ge (pc := 51) (tgt := 58) dX7_draw_51 (by decide) ?_ ?_
          · refine g_iconst (pc := 58) (v := 0) dX7_draw_58 (by decide) ?_
            exact gjb_X7_draw_59 γ p0 p1 p2 0 h7
          · exact gjb_X7_draw_54 γ p0 p1 p2 h7
      · refine g_iconst (pc := 28) (v := 2) dX7_draw_28 (by decide) ?_
        refine g_goto (pc := 29) (tgt := 59) dX7_draw_29 (by decide) ?_
        exact gjb_X7_draw_59 γ p0 p1 p2 2 h5
    · exact gjb_X7_draw_17 γ p0 p1 p2 h3
def jb_X7_canMove_38  (s0 : Int32) (h : Hst) : Option (Int32 × Hst) :=
  (gzr s0 (some (s0, h)))
def jb_X7_canMove_37   (h : Hst) : Option (Int32 × Hst) :=
  (jb_X7_canMove_38 0 h)
def f_X7_canMove (p0 : Int32) (p1 : Int32) (p2 : Int32) (p3 : Int32) (h : Hst) : Option (Int32 × Hst) :=
  gb (f_X7_oilOf p0 h) fun x2 h1 =>
  (if x2 < p2 then
    (jb_X7_canMove_37 h1)
  else
    gb (f_X7_roomIn p1 h1) fun x4 h3 =>
    (if x4 < p2 then
      (jb_X7_canMove_37 h3)
    else
      gb (f_X7_gradeOf p0 h3) fun x6 h5 =>
      gb (f_X7_suits p1 x6 p3 h5) fun x8 h7 =>
      (if x8 = 0 then
        (jb_X7_canMove_37 h7)
      else
        (jb_X7_canMove_38 1 h7))))
set_option maxRecDepth 20000 in
theorem gjb_X7_canMove_38 (γ : Gv)  (s0 : Int32) (h : Hst) : G γ RX7 cX7_canMove 5 (some .boolean) [] vI 4 0 38 [] [.int s0] h (jb_X7_canMove_38 s0 h) := by
  unfold jb_X7_canMove_38
  exact g_zreturn (pc := 38) dX7_canMove_38 rfl rfl
set_option maxRecDepth 20000 in
theorem gjb_X7_canMove_37 (γ : Gv)   (h : Hst) : G γ RX7 cX7_canMove 5 (some .boolean) [] vI 4 0 37 [] [] h (jb_X7_canMove_37 h) := by
  unfold jb_X7_canMove_37
  refine g_iconst (pc := 37) (v := 0) dX7_canMove_37 (by decide) ?_
  exact gjb_X7_canMove_38 γ 0 h
set_option maxRecDepth 20000 in
theorem ge_X7_canMove (γ : Gv) (p0 : Int32) (p1 : Int32) (p2 : Int32) (p3 : Int32) (h : Hst) : G γ RX7 cX7_canMove 5 (some .boolean) [] vI 4 0 0 (lv_args 0 [.ref (gad γ 17), .int p0, .int p1, .int p2, .int p3]) [] h (f_X7_canMove p0 p1 p2 p3 h) := by
  show G γ RX7 cX7_canMove 5 (some .boolean) [] vI 4 0 0 [(0, .ref (gad γ 17)), (1, .int p0), (2, .int p1), (3, .int p2), (4, .int p3)] [] h (f_X7_canMove p0 p1 p2 p3 h)
  unfold f_X7_canMove
  refine g_aload_n (pc := 0) dX7_canMove_0 rfl 0 rfl ?_
  refine g_iload_n (pc := 1) dX7_canMove_1 rfl 1 rfl ?_
  refine g_cI (pc := 2) (st := []) (fun r hr => gRunV (As := [.int p0]) 17 (ge_X7_oilOf γ p0 h) hr wv_RX7_46 rfl (Nat.le_of_ble_eq_true rfl) (gat_17 _ _) rfl rfl (Nat.le_of_ble_eq_true rfl) (Nat.le_of_ble_eq_true rfl) dX7_canMove_2) (fun x2 h1 => ?_)
  refine g_iload_n (pc := 5) dX7_canMove_5 rfl 3 rfl ?_
  refine g_icmp_lt (pc := 6) (tgt := 37) dX7_canMove_6 (by decide) ?_ ?_
  · exact g_sub [] rfl (gjb_X7_canMove_37 γ h1)
  · refine g_aload_n (pc := 9) dX7_canMove_9 rfl 0 rfl ?_
    refine g_iload_n (pc := 10) dX7_canMove_10 rfl 2 rfl ?_
    refine g_cI (pc := 11) (st := []) (fun r hr => gRunV (As := [.int p1]) 17 (ge_X7_roomIn γ p1 h1) hr wv_RX7_127 rfl (Nat.le_of_ble_eq_true rfl) (gat_17 _ _) rfl rfl (Nat.le_of_ble_eq_true rfl) (Nat.le_of_ble_eq_true rfl) dX7_canMove_11) (fun x4 h3 => ?_)
    refine g_iload_n (pc := 14) dX7_canMove_14 rfl 3 rfl ?_
    refine g_icmp_lt (pc := 15) (tgt := 37) dX7_canMove_15 (by decide) ?_ ?_
    · exact g_sub [] rfl (gjb_X7_canMove_37 γ h3)
    · refine g_aload_n (pc := 18) dX7_canMove_18 rfl 0 rfl ?_
      refine g_iload_n (pc := 19) dX7_canMove_19 rfl 2 rfl ?_
      refine g_aload_n (pc := 20) dX7_canMove_20 rfl 0 rfl ?_
      refine g_iload_n (pc := 21) dX7_canMove_21 rfl 1 rfl ?_
      refine g_cI (pc := 22) (st := [.int p1, .ref (gad γ 17)]) (fun r hr => gRunV (As := [.int p0]) 17 (ge_X7_gradeOf γ p0 h3) hr wv_RX7_53 rfl (Nat.le_of_ble_eq_true rfl) (gat_17 _ _) rfl rfl (Nat.le_of_ble_eq_true rfl) (Nat.le_of_ble_eq_true rfl) dX7_canMove_22) (fun x6 h5 => ?_)
      refine g_iload (pc := 25) dX7_canMove_25 4 rfl ?_
      refine g_cI (pc := 27) (st := []) (fun r hr => gRunV (As := [.int p1, .int x6, .int p3]) 17 (ge_X7_suits γ p1 x6 p3 h5) hr wv_RX7_133 rfl (Nat.le_of_ble_eq_true rfl) (gat_17 _ _) rfl rfl (Nat.le_of_ble_eq_true rfl) (Nat.le_of_ble_eq_true rfl) dX7_canMove_27) (fun x8 h7 => ?_)
      refine g_if_eq (pc := 30) (tgt := 37) dX7_canMove_30 (by decide) ?_ ?_
      · exact g_sub [] rfl (gjb_X7_canMove_37 γ h7)
      · refine g_iconst (pc := 33) (v := 1) dX7_canMove_33 (by decide) ?_
        refine g_goto (pc := 34) (tgt := 38) dX7_canMove_34 (by decide) ?_
        exact g_sub [] rfl (gjb_X7_canMove_38 γ 1 h7)
def lp_X7_move_91 : Nat → Int32 → Int32 → Int32 → Hst → Option (Int32 × Hst)
  | 0, _, _, _, _ => none
  | n + 1, a2, a5, a6, h =>
    (if 5 ≤ a6 then
      gb (f_X7_oilOf a2 h) fun x2 h1 =>
      (some (x2, h1))
    else
      gck a6 5 (gbv (f_X7_pour a2 a6 (h.1 22 a6.toNatClampNeg) a5 h) fun h3 =>
      ((lp_X7_move_91 n) a2 a5 (a6 + 1) h3)))
def jb_X7_move_54  (a1 : Int32) (a2 : Int32) (a3 : Int32) (s0 : Int32) (h : Hst) : Option (Int32 × Hst) :=
  gl (hst h 17 5 s0) fun h1 =>
  (if (h1.1 17 5) ≤ 0 then
    gbv (f_X7_save h1) fun h2 =>
    gb (f_X7_gradeOf a1 h2) fun x4 h3 =>
    gbv (f_X7_layShares a1 a3 h3) fun h5 =>
    gbv (f_X7_takeShares a1 h5) fun h6 =>
    (lp_X7_move_91 FU a2 x4 0 h6)
  else
    (some (0, h1)))
def jb_X7_move_17  (a1 : Int32) (a2 : Int32) (a3 : Int32) (h : Hst) : Option (Int32 × Hst) :=
  (jb_X7_move_54 a1 a2 a3 1 h)
def jb_X7_move_33  (a1 : Int32) (a2 : Int32) (a3 : Int32) (h : Hst) : Option (Int32 × Hst) :=
  (jb_X7_move_54 a1 a2 a3 2 h)
def f_X7_move (p0 : Int32) (p1 : Int32) (p2 : Int32) (p3 : Int32) (h : Hst) : Option (Int32 × Hst) :=
  gb (f_X7_isTank p0 h) fun x2 h1 =>
  (if x2 = 0 then
    (jb_X7_move_17 p0 p1 p2 h1)
  else
    gb (f_X7_isTank p1 h1) fun x4 h3 =>
    (if x4 = 0 then
      (jb_X7_move_17 p0 p1 p2 h3)
    else
      (if p0 = p1 then
        (jb_X7_move_33 p0 p1 p2 h3)
      else
        gb (f_X7_isOil p2 h3) fun x6 h5 =>
        (if x6 = 0 then
          (jb_X7_move_33 p0 p1 p2 h5)
        else
          gb (f_X7_canMove p0 p1 p2 p3 h5) fun x8 h7 =>
          (if x8 = 0 then
            (jb_X7_move_54 p0 p1 p2 3 h7)
          else
            (jb_X7_move_54 p0 p1 p2 0 h7))))))
set_option maxRecDepth 20000 in
theorem glp_X7_move_91 (γ : Gv)  : ∀ (n : Nat) (a2 : Int32) (a5 : Int32) (a6 : Int32) (h : Hst), G γ RX7 cX7_move 7 (some .int) [] vI 5 0 91 [(0, .ref (gad γ 17)), (2, .int a2), (5, .int a5), (6, .int a6)] [] h (lp_X7_move_91 n a2 a5 a6 h) := by
  intro n
  induction n with
  | zero => intro a2 a5 a6 h; exact g_none
  | succ n ih =>
    intro a2 a5 a6 h
    rw [lp_X7_move_91]
    refine g_iload (pc := 91) dX7_move_91 3 rfl ?_
    refine g_iconst (pc := 93) (v := 5) dX7_move_93 (by decide) ?_
    refine g_icmp_ge (pc := 94) (tgt := 119) dX7_move_94 (by decide) ?_ ?_
    · refine g_aload_n (pc := 119) dX7_move_119 rfl 0 rfl ?_
      refine g_iload_n (pc := 120) dX7_move_120 rfl 1 rfl ?_
      refine g_cI (pc := 121) (st := []) (fun r hr => gRunV (As := [.int a2]) 17 (ge_X7_oilOf γ a2 h) hr wv_RX7_46 rfl (Nat.le_of_ble_eq_true rfl) (gat_17 _ _) rfl rfl (Nat.le_of_ble_eq_true rfl) (Nat.le_of_ble_eq_true rfl) dX7_move_121) (fun x2 h1 => ?_)
      exact g_ireturn (pc := 124) (ty := .int) dX7_move_124 rfl rfl rfl
    · refine g_aload_n (pc := 97) dX7_move_97 rfl 0 rfl ?_
      refine g_iload_n (pc := 98) dX7_move_98 rfl 1 rfl ?_
      refine g_iload (pc := 99) dX7_move_99 3 rfl ?_
      refine g_aload_n (pc := 101) dX7_move_101 rfl 0 rfl ?_
      refine gf_RX7_22_17 (pc := 102) dX7_move_102 ?_
      refine g_iload (pc := 105) dX7_move_105 3 rfl ?_
      refine g_iald (pc := 107) 22 (gat_22 _ _) dX7_move_107 ?_
      refine g_iload (pc := 108) dX7_move_108 2 rfl ?_
      refine g_cV (pc := 110) (st := []) (fun r hr => gRunV (As := [.int a2, .int a6, .int (h.1 22 a6.toNatClampNeg), .int a5]) 17 (ge_X7_pour γ a2 a6 (h.1 22 a6.toNatClampNeg) a5 h) hr wv_RX7_148 rfl (Nat.le_of_ble_eq_true rfl) (gat_17 _ _) rfl rfl (Nat.le_of_ble_eq_true rfl) (Nat.le_of_ble_eq_true rfl) dX7_move_110) (fun h3 => ?_)
      refine g_iinc (pc := 113) (q := 3) (v := a6 + 1) (lv' := [(6, .int (a6 + 1)), (0, .ref (gad γ 17)), (2, .int a2), (5, .int a5)]) dX7_move_113 rfl rfl (by decide) rfl ?_
      refine g_goto (pc := 116) (tgt := 91) dX7_move_116 (by decide) ?_
      exact g_sub [1, 2, 3, 0] rfl (ih a2 a5 (a6 + 1) h3)
set_option maxRecDepth 20000 in
theorem gjb_X7_move_54 (γ : Gv)  (a1 : Int32) (a2 : Int32) (a3 : Int32) (s0 : Int32) (h : Hst) : G γ RX7 cX7_move 7 (some .int) [] vI 5 0 54 [(0, .ref (gad γ 17)), (1, .int a1), (2, .int a2), (3, .int a3)] [.int s0, .ref (gad γ 17)] h (jb_X7_move_54 a1 a2 a3 s0 h) := by
  unfold jb_X7_move_54
  refine pf_RX7_31_17 (pc := 54) dX7_move_54 ?_
  refine g_nmh (fun h1 => ?_)
  refine g_aload_n (pc := 57) dX7_move_57 rfl 0 rfl ?_
  refine gf_RX7_31_17 (pc := 58) dX7_move_58 ?_
  refine g_if_le (pc := 61) (tgt := 66) dX7_move_61 (by decide) ?_ ?_
  · refine g_aload_n (pc := 66) dX7_move_66 rfl 0 rfl ?_
    refine g_cV (pc := 67) (st := []) (fun r hr => gRunV (As := []) 17 (ge_X7_save γ h1) hr wv_RX7_56 rfl (Nat.le_of_ble_eq_true rfl) (gat_17 _ _) rfl rfl (Nat.le_of_ble_eq_true rfl) (Nat.le_of_ble_eq_true rfl) dX7_move_67) (fun h2 => ?_)
    refine g_aload_n (pc := 70) dX7_move_70 rfl 0 rfl ?_
    refine g_iload_n (pc := 71) dX7_move_71 rfl 1 rfl ?_
    refine g_cI (pc := 72) (st := []) (fun r hr => gRunV (As := [.int a1]) 17 (ge_X7_gradeOf γ a1 h2) hr wv_RX7_53 rfl (Nat.le_of_ble_eq_true rfl) (gat_17 _ _) rfl rfl (Nat.le_of_ble_eq_true rfl) (Nat.le_of_ble_eq_true rfl) dX7_move_72) (fun x4 h3 => ?_)
    refine g_istore (pc := 75) (lv' := [(5, .int x4), (0, .ref (gad γ 17)), (1, .int a1), (2, .int a2), (3, .int a3)]) dX7_move_75 (by decide) rfl ?_
    refine g_aload_n (pc := 77) dX7_move_77 rfl 1 rfl ?_
    refine g_iload_n (pc := 78) dX7_move_78 rfl 2 rfl ?_
    refine g_iload_n (pc := 79) dX7_move_79 rfl 4 rfl ?_
    refine g_cV (pc := 80) (st := []) (fun r hr => gRunV (As := [.int a1, .int a3]) 17 (ge_X7_layShares γ a1 a3 h3) hr wv_RX7_164 rfl (Nat.le_of_ble_eq_true rfl) (gat_17 _ _) rfl rfl (Nat.le_of_ble_eq_true rfl) (Nat.le_of_ble_eq_true rfl) dX7_move_80) (fun h5 => ?_)
    refine g_aload_n (pc := 83) dX7_move_83 rfl 1 rfl ?_
    refine g_iload_n (pc := 84) dX7_move_84 rfl 2 rfl ?_
    refine g_cV (pc := 85) (st := []) (fun r hr => gRunV (As := [.int a1]) 17 (ge_X7_takeShares γ a1 h5) hr wv_RX7_168 rfl (Nat.le_of_ble_eq_true rfl) (gat_17 _ _) rfl rfl (Nat.le_of_ble_eq_true rfl) (Nat.le_of_ble_eq_true rfl) dX7_move_85) (fun h6 => ?_)
    refine g_iconst (pc := 88) (v := 0) dX7_move_88 (by decide) ?_
    refine g_istore (pc := 89) (lv' := [(6, .int 0), (5, .int x4), (0, .ref (gad γ 17)), (1, .int a1), (2, .int a2), (3, .int a3)]) dX7_move_89 (by decide) rfl ?_
    exact g_sub [2, 4, 1, 0] rfl (glp_X7_move_91 γ FU a2 x4 0 h6)
  · refine g_iconst (pc := 64) (v := 0) dX7_move_64 (by decide) ?_
    exact g_ireturn (pc := 65) (ty := .int) dX7_move_65 rfl rfl rfl
set_option maxRecDepth 20000 in
theorem gjb_X7_move_17 (γ : Gv)  (a1 : Int32) (a2 : Int32) (a3 : Int32) (h : Hst) : G γ RX7 cX7_move 7 (some .int) [] vI 5 0 17 [(0, .ref (gad γ 17)), (1, .int a1), (2, .int a2), (3, .int a3)] [.ref (gad γ 17)] h (jb_X7_move_17 a1 a2 a3 h) := by
  unfold jb_X7_move_17
  refine g_iconst (pc := 17) (v := 1) dX7_move_17 (by decide) ?_
  refine g_goto (pc := 18) (tgt := 54) dX7_move_18 (by decide) ?_
  exact gjb_X7_move_54 γ a1 a2 a3 1 h
set_option maxRecDepth 20000 in
theorem gjb_X7_move_33 (γ : Gv)  (a1 : Int32) (a2 : Int32) (a3 : Int32) (h : Hst) : G γ RX7 cX7_move 7 (some .int) [] vI 5 0 33 [(0, .ref (gad γ 17)), (1, .int a1), (2, .int a2), (3, .int a3)] [.ref (gad γ 17)] h (jb_X7_move_33 a1 a2 a3 h) := by
  unfold jb_X7_move_33
  refine g_iconst (pc := 33) (v := 2) dX7_move_33 (by decide) ?_
  refine g_goto (pc := 34) (tgt := 54) dX7_move_34 (by decide) ?_
  exact gjb_X7_move_54 γ a1 a2 a3 2 h
set_option maxRecDepth 20000 in
theorem ge_X7_move (γ : Gv) (p0 : Int32) (p1 : Int32) (p2 : Int32) (p3 : Int32) (h : Hst) : G γ RX7 cX7_move 7 (some .int) [] vI 5 0 0 (lv_args 0 [.ref (gad γ 17), .int p0, .int p1, .int p2, .int p3]) [] h (f_X7_move p0 p1 p2 p3 h) := by
  show G γ RX7 cX7_move 7 (some .int) [] vI 5 0 0 [(0, .ref (gad γ 17)), (1, .int p0), (2, .int p1), (3, .int p2), (4, .int p3)] [] h (f_X7_move p0 p1 p2 p3 h)
  unfold f_X7_move
  refine g_aload_n (pc := 0) dX7_move_0 rfl 0 rfl ?_
  refine g_aload_n (pc := 1) dX7_move_1 rfl 0 rfl ?_
  refine g_iload_n (pc := 2) dX7_move_2 rfl 1 rfl ?_
  refine g_cI (pc := 3) (st := [.ref (gad γ 17)]) (fun r hr => gRunV (As := [.int p0]) 17 (ge_X7_isTank γ p0 h) hr wv_RX7_137 rfl (Nat.le_of_ble_eq_true rfl) (gat_17 _ _) rfl rfl (Nat.le_of_ble_eq_true rfl) (Nat.le_of_ble_eq_true rfl) dX7_move_3) (fun x2 h1 => ?_)
  refine g_if_eq (pc := 6) (tgt := 17) dX7_move_6 (by decide) ?_ ?_
  · exact g_sub [0, 1, 2, 3] rfl (gjb_X7_move_17 γ p0 p1 p2 h1)
  · refine g_aload_n (pc := 9) dX7_move_9 rfl 0 rfl ?_
    refine g_iload_n (pc := 10) dX7_move_10 rfl 2 rfl ?_
    refine g_cI (pc := 11) (st := [.ref (gad γ 17)]) (fun r hr => gRunV (As := [.int p1]) 17 (ge_X7_isTank γ p1 h1) hr wv_RX7_137 rfl (Nat.le_of_ble_eq_true rfl) (gat_17 _ _) rfl rfl (Nat.le_of_ble_eq_true rfl) (Nat.le_of_ble_eq_true rfl) dX7_move_11) (fun x4 h3 => ?_)
    refine g_if_ne (pc := 14) (tgt := 21) dX7_move_14 (by decide) ?_ ?_
    · refine g_iload_n (pc := 21) dX7_move_21 rfl 1 rfl ?_
      refine g_iload_n (pc := 22) dX7_move_22 rfl 2 rfl ?_
      refine g_icmp_eq (pc := 23) (tgt := 33) dX7_move_23 (by decide) ?_ ?_
      · exact g_sub [0, 1, 2, 3] rfl (gjb_X7_move_33 γ p0 p1 p2 h3)
      · refine g_iload_n (pc := 26) dX7_move_26 rfl 3 rfl ?_
        refine g_cI (pc := 27) (st := [.ref (gad γ 17)]) (fun r hr => gRunS (As := [.int p2]) (ge_X7_isOil γ p2 h3) hr wv_RX7_161 rfl (Nat.le_of_ble_eq_true rfl) rfl (Nat.le_of_ble_eq_true rfl) (Nat.le_of_ble_eq_true rfl) dX7_move_27) (fun x6 h5 => ?_)
        refine g_if_ne (pc := 30) (tgt := 37) dX7_move_30 (by decide) ?_ ?_
        · refine g_aload_n (pc := 37) dX7_move_37 rfl 0 rfl ?_
          refine g_iload_n (pc := 38) dX7_move_38 rfl 1 rfl ?_
          refine g_iload_n (pc := 39) dX7_move_39 rfl 2 rfl ?_
          refine g_iload_n (pc := 40) dX7_move_40 rfl 3 rfl ?_
          refine g_iload (pc := 41) dX7_move_41 4 rfl ?_
          refine g_cI (pc := 43) (st := [.ref (gad γ 17)]) (fun r hr => gRunV (As := [.int p0, .int p1, .int p2, .int p3]) 17 (ge_X7_canMove γ p0 p1 p2 p3 h5) hr wv_RX7_171 rfl (Nat.le_of_ble_eq_true rfl) (gat_17 _ _) rfl rfl (Nat.le_of_ble_eq_true rfl) (Nat.le_of_ble_eq_true rfl) dX7_move_43) (fun x8 h7 => ?_)
          refine g_if_eq (pc := 46) (tgt := 53) dX7_move_46 (by decide) ?_ ?_
          · refine g_iconst (pc := 53) (v := 3) dX7_move_53 (by decide) ?_
            exact g_sub [0, 1, 2, 3] rfl (gjb_X7_move_54 γ p0 p1 p2 3 h7)
          · refine g_iconst (pc := 49) (v := 0) dX7_move_49 (by decide) ?_
            refine g_goto (pc := 50) (tgt := 54) dX7_move_50 (by decide) ?_
            exact g_sub [0, 1, 2, 3] rfl (gjb_X7_move_54 γ p0 p1 p2 0 h7)
        · exact g_sub [0, 1, 2, 3] rfl (gjb_X7_move_33 γ p0 p1 p2 h5)
    · exact g_sub [0, 1, 2, 3] rfl (gjb_X7_move_17 γ p0 p1 p2 h3)
def lp_X7_pass_36 : Nat → Int32 → Int32 → Int32 → Hst → Option (Int32 × Hst)
  | 0, _, _, _, _ => none
  | n + 1, a1, a2, a3, h =>
    gck 9 514 ((if ((a1 * (h.1 18 (9 : Int32).toNatClampNeg)) * 5) ≤ a3 then
      gck 13 514 (gck 13 514 (gl (hst h 18 (13 : Int32).toNatClampNeg ((h.1 18 (13 : Int32).toNatClampNeg) + a1)) fun h1 =>
      (some (a2, h1))))
    else
      gdz 5 (gl (a3 - a3 / 5 * 5) fun x2 =>
      gdz 5 (gck 9 514 (gdz (h.1 18 (9 : Int32).toNatClampNeg) (gl (((472 + (7 * ((a3 / 5) - (a3 / 5) / (h.1 18 (9 : Int32).toNatClampNeg) * (h.1 18 (9 : Int32).toNatClampNeg)))) + 2) + x2) fun x3 =>
      gck x3 514 (gck 3 514 (gdz 1000 (gl (((h.1 18 x3.toNatClampNeg) * (h.1 18 (3 : Int32).toNatClampNeg)) / 1000) fun x4 =>
      gck x3 514 (gck x3 514 (gl (hst h 18 x3.toNatClampNeg ((h.1 18 x3.toNatClampNeg) - x4)) fun h5 =>
      gl (30 + x2) fun x6 =>
      gck x6 514 (gck x6 514 (gl (hst h5 18 x6.toNatClampNeg ((h5.1 18 x6.toNatClampNeg) + x4)) fun h7 =>
      gl (a2 + x4) fun x8 =>
      ((lp_X7_pass_36 n) a1 x8 (a3 + 1) h7))))))))))))))
def jb_X7_pass_16  (a1 : Int32) (s0 : Int32) (h : Hst) : Option (Int32 × Hst) :=
  gl (hst h 17 5 s0) fun h1 =>
  (if (h1.1 17 5) ≤ 0 then
    gbv (f_X7_save h1) fun h2 =>
    (lp_X7_pass_36 FU a1 0 0 h2)
  else
    (some (0, h1)))
def f_X7_pass (p0 : Int32) (h : Hst) : Option (Int32 × Hst) :=
  gb (f_X7_within p0 1 100 h) fun x2 h1 =>
  (if x2 = 0 then
    (jb_X7_pass_16 p0 1 h1)
  else
    (jb_X7_pass_16 p0 0 h1))
set_option maxRecDepth 20000 in
theorem glp_X7_pass_36 (γ : Gv)  : ∀ (n : Nat) (a1 : Int32) (a2 : Int32) (a3 : Int32) (h : Hst), G γ RX7 cX7_pass 7 (some .int) [] vI 1 0 36 [(0, .ref (gad γ 17)), (1, .int a1), (2, .int a2), (3, .int a3)] [] h (lp_X7_pass_36 n a1 a2 a3 h) := by
  intro n
  induction n with
  | zero => intro a1 a2 a3 h; exact g_none
  | succ n ih =>
    intro a1 a2 a3 h
    rw [lp_X7_pass_36]
    refine g_iload_n (pc := 36) dX7_pass_36 rfl 3 rfl ?_
    refine g_iload_n (pc := 37) dX7_pass_37 rfl 1 rfl ?_
    refine g_aload_n (pc := 38) dX7_pass_38 rfl 0 rfl ?_
    refine gf_RX7_7_17 (pc := 39) dX7_pass_39 ?_
    refine g_bipush (pc := 42) (v := 9) dX7_pass_42 (by decide) ?_
    refine g_iald (pc := 44) 18 (gat_18 _ _) dX7_pass_44 ?_
    refine g_imul (pc := 45) dX7_pass_45 ?_
    refine g_iconst (pc := 46) (v := 5) dX7_pass_46 (by decide) ?_
    refine g_imul (pc := 47) dX7_pass_47 ?_
    refine g_icmp_ge (pc := 48) (tgt := 139) dX7_pass_48 (by decide) ?_ ?_
    · refine g_aload_n (pc := 139) dX7_pass_139 rfl 0 rfl ?_
      refine gf_RX7_7_17 (pc := 140) dX7_pass_140 ?_
      refine g_bipush (pc := 143) (v := 13) dX7_pass_143 (by decide) ?_
      refine g_dup2 (pc := 145) dX7_pass_145 rfl rfl ?_
      refine g_iald (pc := 146) 18 (gat_18 _ _) dX7_pass_146 ?_
      refine g_iload_n (pc := 147) dX7_pass_147 rfl 1 rfl ?_
      refine g_iadd (pc := 148) dX7_pass_148 ?_
      refine g_iast (pc := 149) 18 (gat_18 _ _) (gset_18 _ _ _) dX7_pass_149 ?_
      refine g_nmh (fun h1 => ?_)
      refine g_iload_n (pc := 150) dX7_pass_150 rfl 2 rfl ?_
      exact g_ireturn (pc := 151) (ty := .int) dX7_pass_151 rfl rfl rfl
    · refine g_iload_n (pc := 51) dX7_pass_51 rfl 3 rfl ?_
      refine g_iconst (pc := 52) (v := 5) dX7_pass_52 (by decide) ?_
      refine g_irem (pc := 53) dX7_pass_53 ?_
      refine g_nmi (fun x2 => ?_)
      refine g_istore (pc := 54) (lv' := [(4, .int x2), (0, .ref (gad γ 17)), (1, .int a1), (2, .int a2), (3, .int a3)]) dX7_pass_54 (by decide) rfl ?_
      refine g_sipush (pc := 56) (v := 472) dX7_pass_56 (by decide) ?_
      refine g_bipush (pc := 59) (v := 7) dX7_pass_59 (by decide) ?_
      refine g_iload_n (pc := 61) dX7_pass_61 rfl 4 rfl ?_
      refine g_iconst (pc := 62) (v := 5) dX7_pass_62 (by decide) ?_
      refine g_idiv (pc := 63) dX7_pass_63 ?_
      refine g_aload_n (pc := 64) dX7_pass_64 rfl 1 rfl ?_
      refine gf_RX7_7_17 (pc := 65) dX7_pass_65 ?_
      refine g_bipush (pc := 68) (v := 9) dX7_pass_68 (by decide) ?_
      refine g_iald (pc := 70) 18 (gat_18 _ _) dX7_pass_70 ?_
      refine g_irem (pc := 71) dX7_pass_71 ?_
      refine g_imul (pc := 72) dX7_pass_72 ?_
      refine g_iadd (pc := 73) dX7_pass_73 ?_
      refine g_iconst (pc := 74) (v := 2) dX7_pass_74 (by decide) ?_
      refine g_iadd (pc := 75) dX7_pass_75 ?_
      refine g_iload (pc := 76) dX7_pass_76 0 rfl ?_
      refine g_iadd (pc := 78) dX7_pass_78 ?_
      refine g_nmi (fun x3 => ?_)
      refine g_istore (pc := 79) (lv' := [(5, .int x3), (4, .int x2), (0, .ref (gad γ 17)), (1, .int a1), (2, .int a2), (3, .int a3)]) dX7_pass_79 (by decide) rfl ?_
      refine g_aload_n (pc := 81) dX7_pass_81 rfl 2 rfl ?_
      refine gf_RX7_7_17 (pc := 82) dX7_pass_82 ?_
      refine g_iload (pc := 85) dX7_pass_85 0 rfl ?_
      refine g_iald (pc := 87) 18 (gat_18 _ _) dX7_pass_87 ?_
      refine g_aload_n (pc := 88) dX7_pass_88 rfl 2 rfl ?_
      refine gf_RX7_7_17 (pc := 89) dX7_pass_89 ?_
      refine g_iconst (pc := 92) (v := 3) dX7_pass_92 (by decide) ?_
      refine g_iald (pc := 93) 18 (gat_18 _ _) dX7_pass_93 ?_
      refine g_imul (pc := 94) dX7_pass_94 ?_
      refine g_sipush (pc := 95) (v := 1000) dX7_pass_95 (by decide) ?_
      refine g_idiv (pc := 98) dX7_pass_98 ?_
      refine g_nmi (fun x4 => ?_)
      refine g_istore (pc := 99) (lv' := [(6, .int x4), (5, .int x3), (4, .int x2), (0, .ref (gad γ 17)), (1, .int a1), (2, .int a2), (3, .int a3)]) dX7_pass_99 (by decide) rfl ?_
      refine g_aload_n (pc := 101) dX7_pass_101 rfl 3 rfl ?_
      refine gf_RX7_7_17 (pc := 102) dX7_pass_102 ?_
      refine g_iload (pc := 105) dX7_pass_105 1 rfl ?_
      refine g_dup2 (pc := 107) dX7_pass_107 rfl rfl ?_
      refine g_iald (pc := 108) 18 (gat_18 _ _) dX7_pass_108 ?_
      refine g_iload (pc := 109) dX7_pass_109 0 rfl ?_
      refine g_isub (pc := 111) dX7_pass_111 ?_
      refine g_iast (pc := 112) 18 (gat_18 _ _) (gset_18 _ _ _) dX7_pass_112 ?_
      refine g_nmh (fun h5 => ?_)
      refine g_aload_n (pc := 113) dX7_pass_113 rfl 3 rfl ?_
      refine gf_RX7_7_17 (pc := 114) dX7_pass_114 ?_
      refine g_bipush (pc := 117) (v := 30) dX7_pass_117 (by decide) ?_
      refine g_iload (pc := 119) dX7_pass_119 2 rfl ?_
      refine g_iadd (pc := 121) dX7_pass_121 ?_
      refine g_nmi (fun x6 => ?_)
      refine g_dup2 (pc := 122) dX7_pass_122 rfl rfl ?_
      refine g_iald (pc := 123) 18 (gat_18 _ _) dX7_pass_123 ?_
      refine g_iload (pc := 124) dX7_pass_124 0 rfl ?_
      refine g_iadd (pc := 126) dX7_pass_126 ?_
      refine g_iast (pc := 127) 18 (gat_18 _ _) (gset_18 _ _ _) dX7_pass_127 ?_
      refine g_nmh (fun h7 => ?_)
      refine g_iload_n (pc := 128) dX7_pass_128 rfl 5 rfl ?_
      refine g_iload (pc := 129) dX7_pass_129 0 rfl ?_
      refine g_iadd (pc := 131) dX7_pass_131 ?_
      refine g_nmi (fun x8 => ?_)
      refine g_istore_n (pc := 132) (lv' := [(2, .int x8), (6, .int x4), (5, .int x3), (4, .int x2), (0, .ref (gad γ 17)), (1, .int a1), (3, .int a3)]) dX7_pass_132 rfl (by decide) rfl ?_
      refine g_iinc (pc := 133) (q := 6) (v := a3 + 1) (lv' := [(3, .int (a3 + 1)), (2, .int x8), (6, .int x4), (5, .int x3), (4, .int x2), (0, .ref (gad γ 17)), (1, .int a1)]) dX7_pass_133 rfl rfl (by decide) rfl ?_
      refine g_goto (pc := 136) (tgt := 36) dX7_pass_136 (by decide) ?_
      exact g_sub [5, 6, 1, 0] rfl (ih a1 x8 (a3 + 1) h7)
set_option maxRecDepth 20000 in
theorem gjb_X7_pass_16 (γ : Gv)  (a1 : Int32) (s0 : Int32) (h : Hst) : G γ RX7 cX7_pass 7 (some .int) [] vI 1 0 16 [(0, .ref (gad γ 17)), (1, .int a1)] [.int s0, .ref (gad γ 17)] h (jb_X7_pass_16 a1 s0 h) := by
  unfold jb_X7_pass_16
  refine pf_RX7_31_17 (pc := 16) dX7_pass_16 ?_
  refine g_nmh (fun h1 => ?_)
  refine g_aload_n (pc := 19) dX7_pass_19 rfl 0 rfl ?_
  refine gf_RX7_31_17 (pc := 20) dX7_pass_20 ?_
  refine g_if_le (pc := 23) (tgt := 28) dX7_pass_23 (by decide) ?_ ?_
  · refine g_aload_n (pc := 28) dX7_pass_28 rfl 0 rfl ?_
    refine g_cV (pc := 29) (st := []) (fun r hr => gRunV (As := []) 17 (ge_X7_save γ h1) hr wv_RX7_56 rfl (Nat.le_of_ble_eq_true rfl) (gat_17 _ _) rfl rfl (Nat.le_of_ble_eq_true rfl) (Nat.le_of_ble_eq_true rfl) dX7_pass_29) (fun h2 => ?_)
    refine g_iconst (pc := 32) (v := 0) dX7_pass_32 (by decide) ?_
    refine g_istore_n (pc := 33) (lv' := [(2, .int 0), (0, .ref (gad γ 17)), (1, .int a1)]) dX7_pass_33 rfl (by decide) rfl ?_
    refine g_iconst (pc := 34) (v := 0) dX7_pass_34 (by decide) ?_
    refine g_istore_n (pc := 35) (lv' := [(3, .int 0), (2, .int 0), (0, .ref (gad γ 17)), (1, .int a1)]) dX7_pass_35 rfl (by decide) rfl ?_
    exact g_sub [2, 3, 1, 0] rfl (glp_X7_pass_36 γ FU a1 0 0 h2)
  · refine g_iconst (pc := 26) (v := 0) dX7_pass_26 (by decide) ?_
    exact g_ireturn (pc := 27) (ty := .int) dX7_pass_27 rfl rfl rfl
set_option maxRecDepth 20000 in
theorem ge_X7_pass (γ : Gv) (p0 : Int32) (h : Hst) : G γ RX7 cX7_pass 7 (some .int) [] vI 1 0 0 (lv_args 0 [.ref (gad γ 17), .int p0]) [] h (f_X7_pass p0 h) := by
  show G γ RX7 cX7_pass 7 (some .int) [] vI 1 0 0 [(0, .ref (gad γ 17)), (1, .int p0)] [] h (f_X7_pass p0 h)
  unfold f_X7_pass
  refine g_aload_n (pc := 0) dX7_pass_0 rfl 0 rfl ?_
  refine g_iload_n (pc := 1) dX7_pass_1 rfl 1 rfl ?_
  refine g_iconst (pc := 2) (v := 1) dX7_pass_2 (by decide) ?_
  refine g_bipush (pc := 3) (v := 100) dX7_pass_3 (by decide) ?_
  refine g_cI (pc := 5) (st := [.ref (gad γ 17)]) (fun r hr => gRunS (As := [.int p0, .int 1, .int 100]) (ge_X7_within γ p0 1 100 h) hr wv_RX7_38 rfl (Nat.le_of_ble_eq_true rfl) rfl (Nat.le_of_ble_eq_true rfl) (Nat.le_of_ble_eq_true rfl) dX7_pass_5) (fun x2 h1 => ?_)
  refine g_if_eq (pc := 8) (tgt := 15) dX7_pass_8 (by decide) ?_ ?_
  · refine g_iconst (pc := 15) (v := 1) dX7_pass_15 (by decide) ?_
    exact gjb_X7_pass_16 γ p0 1 h1
  · refine g_iconst (pc := 11) (v := 0) dX7_pass_11 (by decide) ?_
    refine g_goto (pc := 12) (tgt := 16) dX7_pass_12 (by decide) ?_
    exact gjb_X7_pass_16 γ p0 0 h1
