def jb_X1_roundUp_39   (h : Hst) : Option (Hst) :=
  (some h)
def f_X1_roundUp (p0 : Int32) (h : Hst) : Option (Hst) :=
  (if p0 < 0 then
    (jb_X1_roundUp_39 h)
  else
    (if 5 ≤ p0 then
      (jb_X1_roundUp_39 h)
    else
      (if 5 ≤ p0 then
        (jb_X1_roundUp_39 h)
      else
        gck p0 5 (gck p0 5 (gl (hst h 11 p0.toNatClampNeg ((h.1 11 p0.toNatClampNeg) + 1)) fun h1 =>
        gck p0 5 (gl (hst h1 12 p0.toNatClampNeg 0) fun h2 =>
        (jb_X1_roundUp_39 h2)))))))
set_option maxRecDepth 20000 in
theorem gjb_X1_roundUp_39 (γ : Gv)   (h : Hst) : G γ RX1 cX1_roundUp 2 none [] vV 0 0 39 [] [] h (jb_X1_roundUp_39 h) := by
  unfold jb_X1_roundUp_39
  exact g_return (pc := 39) dX1_roundUp_39 rfl rfl
set_option maxRecDepth 20000 in
theorem ge_X1_roundUp (γ : Gv) (p0 : Int32) (h : Hst) : G γ RX1 cX1_roundUp 2 none [] vV 0 0 0 (lv_args 0 [.ref (gad γ 10), .int p0]) [] h (f_X1_roundUp p0 h) := by
  show G γ RX1 cX1_roundUp 2 none [] vV 0 0 0 [(0, .ref (gad γ 10)), (1, .int p0)] [] h (f_X1_roundUp p0 h)
  unfold f_X1_roundUp
  refine g_iload_n (pc := 0) dX1_roundUp_0 rfl 1 rfl ?_
  refine g_if_lt (pc := 1) (tgt := 39) dX1_roundUp_1 (by decide) ?_ ?_
  · exact g_sub [] rfl (gjb_X1_roundUp_39 γ h)
  · refine g_iload_n (pc := 4) dX1_roundUp_4 rfl 1 rfl ?_
    refine g_aload_n (pc := 5) dX1_roundUp_5 rfl 0 rfl ?_
    refine gf_RX1_15_10 (pc := 6) dX1_roundUp_6 ?_
    refine g_alen (pc := 9) (n := 0) (v := 5) 11 0 (gat_11 _ _) rfl rfl dX1_roundUp_9 ?_
    refine g_icmp_ge (pc := 10) (tgt := 39) dX1_roundUp_10 (by decide) ?_ ?_
    · exact g_sub [] rfl (gjb_X1_roundUp_39 γ h)
    · refine g_iload_n (pc := 13) dX1_roundUp_13 rfl 1 rfl ?_
      refine g_aload_n (pc := 14) dX1_roundUp_14 rfl 0 rfl ?_
      refine gf_RX1_19_10 (pc := 15) dX1_roundUp_15 ?_
      refine g_alen (pc := 18) (n := 0) (v := 5) 12 0 (gat_12 _ _) rfl rfl dX1_roundUp_18 ?_
      refine g_icmp_ge (pc := 19) (tgt := 39) dX1_roundUp_19 (by decide) ?_ ?_
      · exact g_sub [] rfl (gjb_X1_roundUp_39 γ h)
      · refine g_aload_n (pc := 22) dX1_roundUp_22 rfl 0 rfl ?_
        refine gf_RX1_15_10 (pc := 23) dX1_roundUp_23 ?_
        refine g_iload_n (pc := 26) dX1_roundUp_26 rfl 1 rfl ?_
        refine g_dup2 (pc := 27) dX1_roundUp_27 rfl rfl ?_
        refine g_iald (pc := 28) 11 (gat_11 _ _) dX1_roundUp_28 ?_
        refine g_iconst (pc := 29) (v := 1) dX1_roundUp_29 (by decide) ?_
        refine g_iadd (pc := 30) dX1_roundUp_30 ?_
        refine g_iast (pc := 31) 11 (gat_11 _ _) (gset_11 _ _ _) dX1_roundUp_31 ?_
        refine g_nmh (fun h1 => ?_)
        refine g_aload_n (pc := 32) dX1_roundUp_32 rfl 0 rfl ?_
        refine gf_RX1_19_10 (pc := 33) dX1_roundUp_33 ?_
        refine g_iload_n (pc := 36) dX1_roundUp_36 rfl 1 rfl ?_
        refine g_iconst (pc := 37) (v := 0) dX1_roundUp_37 (by decide) ?_
        refine g_iast (pc := 38) 12 (gat_12 _ _) (gset_12 _ _ _) dX1_roundUp_38 ?_
        refine g_nmh (fun h2 => ?_)
        exact g_sub [] rfl (gjb_X1_roundUp_39 γ h2)
def jb_X1_split_127   (h : Hst) : Option (Hst) :=
  (some h)
def lp_X1_split_99 : Nat → Int32 → Int32 → Hst → Option (Hst)
  | 0, _, _, _ => none
  | n + 1, a4, a5, h =>
    (if 5 ≤ a5 then
      (jb_X1_split_127 h)
    else
      (if a4 ≤ 0 then
        (jb_X1_split_127 h)
      else
        gb (f_X1_greatestRemainder h) fun x2 h1 =>
        gbv (f_X1_roundUp x2 h1) fun h3 =>
        ((lp_X1_split_99 n) (a4 + (-1)) (a5 + 1) h3)))
def jb_X1_split_96  (a4 : Int32) (h : Hst) : Option (Hst) :=
  (lp_X1_split_99 FU a4 0 h)
def lp_X1_split_17 : Nat → Int32 → Int32 → Int32 → Int32 → Int32 → Hst → Option (Hst)
  | 0, _, _, _, _, _, _ => none
  | n + 1, a1, a2, a3, a4, a5, h =>
    (if 5 ≤ a5 then
      (jb_X1_split_96 a4 h)
    else
      (if 5 ≤ a5 then
        (jb_X1_split_96 a4 h)
      else
        gb (f_X5_get_4 a1 (2 + a5) h) fun x2 h1 =>
        gl (x2 * a2) fun x3 =>
        gdz a3 (gck a5 5 (gl (hst h1 11 a5.toNatClampNeg (x3 / a3)) fun h4 =>
        gdz a3 (gck a5 5 (gl (hst h4 12 a5.toNatClampNeg (x3 - x3 / a3 * a3)) fun h5 =>
        gck a5 5 (gl (a4 - (h5.1 11 a5.toNatClampNeg)) fun x6 =>
        ((lp_X1_split_17 n) a1 a2 a3 x6 (a5 + 1) h5))))))))
def f_X1_split (p0 : Int32) (p1 : Int32) (h : Hst) : Option (Hst) :=
  gb (f_X1_oilOf p0 h) fun x2 h1 =>
  (if 0 < x2 then
    (lp_X1_split_17 FU p0 p1 x2 p1 0 h1)
  else
    (some h1))
set_option maxRecDepth 20000 in
theorem gjb_X1_split_127 (γ : Gv)   (h : Hst) : G γ RX1 cX1_split 7 none [] vV 2 0 127 [] [] h (jb_X1_split_127 h) := by
  unfold jb_X1_split_127
  exact g_return (pc := 127) dX1_split_127 rfl rfl
set_option maxRecDepth 20000 in
theorem glp_X1_split_99 (γ : Gv)  : ∀ (n : Nat) (a4 : Int32) (a5 : Int32) (h : Hst), G γ RX1 cX1_split 7 none [] vV 2 0 99 [(0, .ref (gad γ 10)), (4, .int a4), (5, .int a5)] [] h (lp_X1_split_99 n a4 a5 h) := by
  intro n
  induction n with
  | zero => intro a4 a5 h; exact g_none
  | succ n ih =>
    intro a4 a5 h
    rw [lp_X1_split_99]
    refine g_iload (pc := 99) dX1_split_99 2 rfl ?_
    refine g_iconst (pc := 101) (v := 5) dX1_split_101 (by decide) ?_
    refine g_icmp_ge (pc := 102) (tgt := 127) dX1_split_102 (by decide) ?_ ?_
    · exact g_sub [] rfl (gjb_X1_split_127 γ h)
    · refine g_iload (pc := 105) dX1_split_105 1 rfl ?_
      refine g_if_le (pc := 107) (tgt := 127) dX1_split_107 (by decide) ?_ ?_
      · exact g_sub [] rfl (gjb_X1_split_127 γ h)
      · refine g_aload_n (pc := 110) dX1_split_110 rfl 0 rfl ?_
        refine g_aload_n (pc := 111) dX1_split_111 rfl 0 rfl ?_
        refine g_cI (pc := 112) (st := [.ref (gad γ 10)]) (fun r hr => gRunV (As := []) 10 (ge_X1_greatestRemainder γ h) hr wv_RX1_74 rfl (Nat.le_of_ble_eq_true rfl) (gat_10 _ _) rfl rfl (Nat.le_of_ble_eq_true rfl) (Nat.le_of_ble_eq_true rfl) dX1_split_112) (fun x2 h1 => ?_)
        refine g_cV (pc := 115) (st := []) (fun r hr => gRunV (As := [.int x2]) 10 (ge_X1_roundUp γ x2 h1) hr wv_RX1_78 rfl (Nat.le_of_ble_eq_true rfl) (gat_10 _ _) rfl rfl (Nat.le_of_ble_eq_true rfl) (Nat.le_of_ble_eq_true rfl) dX1_split_115) (fun h3 => ?_)
        refine g_iinc (pc := 118) (q := 1) (v := a4 + (-1)) (lv' := [(4, .int (a4 + (-1))), (0, .ref (gad γ 10)), (5, .int a5)]) dX1_split_118 rfl rfl (by decide) rfl ?_
        refine g_iinc (pc := 121) (q := 2) (v := a5 + 1) (lv' := [(5, .int (a5 + 1)), (4, .int (a4 + (-1))), (0, .ref (gad γ 10))]) dX1_split_121 rfl rfl (by decide) rfl ?_
        refine g_goto (pc := 124) (tgt := 99) dX1_split_124 (by decide) ?_
        exact g_sub [2, 1, 0] rfl (ih (a4 + (-1)) (a5 + 1) h3)
set_option maxRecDepth 20000 in
theorem gjb_X1_split_96 (γ : Gv)  (a4 : Int32) (h : Hst) : G γ RX1 cX1_split 7 none [] vV 2 0 96 [(0, .ref (gad γ 10)), (4, .int a4)] [] h (jb_X1_split_96 a4 h) := by
  unfold jb_X1_split_96
  refine g_iconst (pc := 96) (v := 0) dX1_split_96 (by decide) ?_
  refine g_istore (pc := 97) (lv' := [(5, .int 0), (0, .ref (gad γ 10)), (4, .int a4)]) dX1_split_97 (by decide) rfl ?_
  exact g_sub [1, 2, 0] rfl (glp_X1_split_99 γ FU a4 0 h)
set_option maxRecDepth 20000 in
theorem glp_X1_split_17 (γ : Gv)  : ∀ (n : Nat) (a1 : Int32) (a2 : Int32) (a3 : Int32) (a4 : Int32) (a5 : Int32) (h : Hst), G γ RX1 cX1_split 7 none [] vV 2 0 17 [(0, .ref (gad γ 10)), (1, .int a1), (2, .int a2), (3, .int a3), (4, .int a4), (5, .int a5)] [] h (lp_X1_split_17 n a1 a2 a3 a4 a5 h) := by
  intro n
  induction n with
  | zero => intro a1 a2 a3 a4 a5 h; exact g_none
  | succ n ih =>
    intro a1 a2 a3 a4 a5 h
    rw [lp_X1_split_17]
    refine g_iload (pc := 17) dX1_split_17 5 rfl ?_
    refine g_aload_n (pc := 19) dX1_split_19 rfl 0 rfl ?_
    refine gf_RX1_15_10 (pc := 20) dX1_split_20 ?_
    refine g_alen (pc := 23) (n := 0) (v := 5) 11 0 (gat_11 _ _) rfl rfl dX1_split_23 ?_
    refine g_icmp_ge (pc := 24) (tgt := 96) dX1_split_24 (by decide) ?_ ?_
    · exact g_sub [0, 4] rfl (gjb_X1_split_96 γ a4 h)
    · refine g_iload (pc := 27) dX1_split_27 5 rfl ?_
      refine g_aload_n (pc := 29) dX1_split_29 rfl 0 rfl ?_
      refine gf_RX1_19_10 (pc := 30) dX1_split_30 ?_
      refine g_alen (pc := 33) (n := 0) (v := 5) 12 0 (gat_12 _ _) rfl rfl dX1_split_33 ?_
      refine g_icmp_ge (pc := 34) (tgt := 96) dX1_split_34 (by decide) ?_ ?_
      · exact g_sub [0, 4] rfl (gjb_X1_split_96 γ a4 h)
      · refine g_aload_n (pc := 37) dX1_split_37 rfl 0 rfl ?_
        refine gf_RX1_9_10 (pc := 38) dX1_split_38 ?_
        refine gf_RX1_22_1 (pc := 41) dX1_split_41 ?_
        refine g_iload_n (pc := 44) dX1_split_44 rfl 1 rfl ?_
        refine g_iconst (pc := 45) (v := 2) dX1_split_45 (by decide) ?_
        refine g_iload (pc := 46) dX1_split_46 5 rfl ?_
        refine g_iadd (pc := 48) dX1_split_48 ?_
        refine g_cI (pc := 49) (st := []) (fun r hr => gRunV (As := [.int a1, .int (2 + a5)]) 4 (ge_X5_get_4 γ a1 (2 + a5) h) hr wv_RX1_28 rfl (Nat.le_of_ble_eq_true rfl) (gat_4 _ _) rfl rfl (Nat.le_of_ble_eq_true rfl) (Nat.le_of_ble_eq_true rfl) dX1_split_49) (fun x2 h1 => ?_)
        refine g_iload_n (pc := 52) dX1_split_52 rfl 2 rfl ?_
        refine g_imul (pc := 53) dX1_split_53 ?_
        refine g_nmi (fun x3 => ?_)
        refine g_istore (pc := 54) (lv' := [(6, .int x3), (0, .ref (gad γ 10)), (1, .int a1), (2, .int a2), (3, .int a3), (4, .int a4), (5, .int a5)]) dX1_split_54 (by decide) rfl ?_
        refine g_aload_n (pc := 56) dX1_split_56 rfl 1 rfl ?_
        refine gf_RX1_15_10 (pc := 57) dX1_split_57 ?_
        refine g_iload (pc := 60) dX1_split_60 6 rfl ?_
        refine g_iload (pc := 62) dX1_split_62 0 rfl ?_
        refine g_iload_n (pc := 64) dX1_split_64 rfl 4 rfl ?_
        refine g_idiv (pc := 65) dX1_split_65 ?_
        refine g_iast (pc := 66) 11 (gat_11 _ _) (gset_11 _ _ _) dX1_split_66 ?_
        refine g_nmh (fun h4 => ?_)
        refine g_aload_n (pc := 67) dX1_split_67 rfl 1 rfl ?_
        refine gf_RX1_19_10 (pc := 68) dX1_split_68 ?_
        refine g_iload (pc := 71) dX1_split_71 6 rfl ?_
        refine g_iload (pc := 73) dX1_split_73 0 rfl ?_
        refine g_iload_n (pc := 75) dX1_split_75 rfl 4 rfl ?_
        refine g_irem (pc := 76) dX1_split_76 ?_
        refine g_iast (pc := 77) 12 (gat_12 _ _) (gset_12 _ _ _) dX1_split_77 ?_
        refine g_nmh (fun h5 => ?_)
        refine g_iload (pc := 78) dX1_split_78 5 rfl ?_
        refine g_aload_n (pc := 80) dX1_split_80 rfl 1 rfl ?_
        refine gf_RX1_15_10 (pc := 81) dX1_split_81 ?_
        refine g_iload (pc := 84) dX1_split_84 6 rfl ?_
        refine g_iald (pc := 86) 11 (gat_11 _ _) dX1_split_86 ?_
        refine g_isub (pc := 87) dX1_split_87 ?_
        refine g_nmi (fun x6 => ?_)
        refine g_istore (pc := 88) (lv' := [(4, .int x6), (6, .int x3), (0, .ref (gad γ 10)), (1, .int a1), (2, .int a2), (3, .int a3), (5, .int a5)]) dX1_split_88 (by decide) rfl ?_
        refine g_iinc (pc := 90) (q := 6) (v := a5 + 1) (lv' := [(5, .int (a5 + 1)), (4, .int x6), (6, .int x3), (0, .ref (gad γ 10)), (1, .int a1), (2, .int a2), (3, .int a3)]) dX1_split_90 rfl rfl (by decide) rfl ?_
        refine g_goto (pc := 93) (tgt := 17) dX1_split_93 (by decide) ?_
        exact g_sub [3, 4, 5, 6, 1, 0] rfl (ih a1 a2 a3 x6 (a5 + 1) h5)
set_option maxRecDepth 20000 in
theorem ge_X1_split (γ : Gv) (p0 : Int32) (p1 : Int32) (h : Hst) : G γ RX1 cX1_split 7 none [] vV 2 0 0 (lv_args 0 [.ref (gad γ 10), .int p0, .int p1]) [] h (f_X1_split p0 p1 h) := by
  show G γ RX1 cX1_split 7 none [] vV 2 0 0 [(0, .ref (gad γ 10)), (1, .int p0), (2, .int p1)] [] h (f_X1_split p0 p1 h)
  unfold f_X1_split
  refine g_aload_n (pc := 0) dX1_split_0 rfl 0 rfl ?_
  refine g_iload_n (pc := 1) dX1_split_1 rfl 1 rfl ?_
  refine g_cI (pc := 2) (st := []) (fun r hr => gRunV (As := [.int p0]) 10 (ge_X1_oilOf γ p0 h) hr wv_RX1_34 rfl (Nat.le_of_ble_eq_true rfl) (gat_10 _ _) rfl rfl (Nat.le_of_ble_eq_true rfl) (Nat.le_of_ble_eq_true rfl) dX1_split_2) (fun x2 h1 => ?_)
  refine g_istore_n (pc := 5) (lv' := [(3, .int x2), (0, .ref (gad γ 10)), (1, .int p0), (2, .int p1)]) dX1_split_5 rfl (by decide) rfl ?_
  refine g_iload_n (pc := 6) dX1_split_6 rfl 0 rfl ?_
  refine g_if_gt (pc := 7) (tgt := 11) dX1_split_7 (by decide) ?_ ?_
  · refine g_iload_n (pc := 11) dX1_split_11 rfl 3 rfl ?_
    refine g_istore (pc := 12) (lv' := [(4, .int p1), (3, .int x2), (0, .ref (gad γ 10)), (1, .int p0), (2, .int p1)]) dX1_split_12 (by decide) rfl ?_
    refine g_iconst (pc := 14) (v := 0) dX1_split_14 (by decide) ?_
    refine g_istore (pc := 15) (lv' := [(5, .int 0), (4, .int p1), (3, .int x2), (0, .ref (gad γ 10)), (1, .int p0), (2, .int p1)]) dX1_split_15 (by decide) rfl ?_
    exact g_sub [3, 4, 5, 2, 1, 0] rfl (glp_X1_split_17 γ FU p0 p1 x2 p1 0 h1)
  · exact g_return (pc := 10) dX1_split_10 rfl rfl
def jb_X1_part_23  (s0 : Int32) (h : Hst) : Option (Int32 × Hst) :=
  (some (s0, h))
def jb_X1_part_22   (h : Hst) : Option (Int32 × Hst) :=
  (jb_X1_part_23 0 h)
def f_X1_part (p0 : Int32) (h : Hst) : Option (Int32 × Hst) :=
  (if p0 < 0 then
    (jb_X1_part_22 h)
  else
    (if 5 ≤ p0 then
      (jb_X1_part_22 h)
    else
      gck p0 5 ((jb_X1_part_23 (h.1 11 p0.toNatClampNeg) h))))
set_option maxRecDepth 20000 in
theorem gjb_X1_part_23 (γ : Gv)  (s0 : Int32) (h : Hst) : G γ RX1 cX1_part 2 (some .int) [] vI 0 0 23 [] [.int s0] h (jb_X1_part_23 s0 h) := by
  unfold jb_X1_part_23
  exact g_ireturn (pc := 23) (ty := .int) dX1_part_23 rfl rfl rfl
set_option maxRecDepth 20000 in
theorem gjb_X1_part_22 (γ : Gv)   (h : Hst) : G γ RX1 cX1_part 2 (some .int) [] vI 0 0 22 [] [] h (jb_X1_part_22 h) := by
  unfold jb_X1_part_22
  refine g_iconst (pc := 22) (v := 0) dX1_part_22 (by decide) ?_
  exact gjb_X1_part_23 γ 0 h
set_option maxRecDepth 20000 in
theorem ge_X1_part (γ : Gv) (p0 : Int32) (h : Hst) : G γ RX1 cX1_part 2 (some .int) [] vI 0 0 0 (lv_args 0 [.ref (gad γ 10), .int p0]) [] h (f_X1_part p0 h) := by
  show G γ RX1 cX1_part 2 (some .int) [] vI 0 0 0 [(0, .ref (gad γ 10)), (1, .int p0)] [] h (f_X1_part p0 h)
  unfold f_X1_part
  refine g_iload_n (pc := 0) dX1_part_0 rfl 1 rfl ?_
  refine g_if_lt (pc := 1) (tgt := 22) dX1_part_1 (by decide) ?_ ?_
  · exact g_sub [] rfl (gjb_X1_part_22 γ h)
  · refine g_iload_n (pc := 4) dX1_part_4 rfl 1 rfl ?_
    refine g_aload_n (pc := 5) dX1_part_5 rfl 0 rfl ?_
    refine gf_RX1_15_10 (pc := 6) dX1_part_6 ?_
    refine g_alen (pc := 9) (n := 0) (v := 5) 11 0 (gat_11 _ _) rfl rfl dX1_part_9 ?_
    refine g_icmp_ge (pc := 10) (tgt := 22) dX1_part_10 (by decide) ?_ ?_
    · exact g_sub [] rfl (gjb_X1_part_22 γ h)
    · refine g_aload_n (pc := 13) dX1_part_13 rfl 0 rfl ?_
      refine gf_RX1_15_10 (pc := 14) dX1_part_14 ?_
      refine g_iload_n (pc := 17) dX1_part_17 rfl 1 rfl ?_
      refine g_iald (pc := 18) 11 (gat_11 _ _) dX1_part_18 ?_
      refine g_goto (pc := 19) (tgt := 23) dX1_part_19 (by decide) ?_
      exact g_sub [] rfl (gjb_X1_part_23 γ (h.1 11 p0.toNatClampNeg) h)
def lp_X1_takeOut_8 : Nat → Int32 → Int32 → Hst → Option (Hst)
  | 0, _, _, _ => none
  | n + 1, a1, a3, h =>
    (if 5 ≤ a3 then
      (some h)
    else
      gb (f_X1_part a3 h) fun x2 h1 =>
      gbv (f_X5_add_4 a1 (2 + a3) (-x2) h1) fun h3 =>
      ((lp_X1_takeOut_8 n) a1 (a3 + 1) h3))
def f_X1_takeOut (p0 : Int32) (p1 : Int32) (h : Hst) : Option (Hst) :=
  gbv (f_X1_split p0 p1 h) fun h1 =>
  (lp_X1_takeOut_8 FU p0 0 h1)
set_option maxRecDepth 20000 in
theorem glp_X1_takeOut_8 (γ : Gv)  : ∀ (n : Nat) (a1 : Int32) (a3 : Int32) (h : Hst), G γ RX1 cX1_takeOut 4 none [] vV 3 0 8 [(0, .ref (gad γ 10)), (1, .int a1), (3, .int a3)] [] h (lp_X1_takeOut_8 n a1 a3 h) := by
  intro n
  induction n with
  | zero => intro a1 a3 h; exact g_none
  | succ n ih =>
    intro a1 a3 h
    rw [lp_X1_takeOut_8]
    refine g_iload_n (pc := 8) dX1_takeOut_8 rfl 2 rfl ?_
    refine g_iconst (pc := 9) (v := 5) dX1_takeOut_9 (by decide) ?_
    refine g_icmp_ge (pc := 10) (tgt := 39) dX1_takeOut_10 (by decide) ?_ ?_
    · exact g_return (pc := 39) dX1_takeOut_39 rfl rfl
    · refine g_aload_n (pc := 13) dX1_takeOut_13 rfl 0 rfl ?_
      refine gf_RX1_9_10 (pc := 14) dX1_takeOut_14 ?_
      refine gf_RX1_22_1 (pc := 17) dX1_takeOut_17 ?_
      refine g_iload_n (pc := 20) dX1_takeOut_20 rfl 1 rfl ?_
      refine g_iconst (pc := 21) (v := 2) dX1_takeOut_21 (by decide) ?_
      refine g_iload_n (pc := 22) dX1_takeOut_22 rfl 2 rfl ?_
      refine g_iadd (pc := 23) dX1_takeOut_23 ?_
      refine g_aload_n (pc := 24) dX1_takeOut_24 rfl 0 rfl ?_
      refine g_iload_n (pc := 25) dX1_takeOut_25 rfl 2 rfl ?_
      refine g_cI (pc := 26) (st := [.int (2 + a3), .int a1, .ref (gad γ 4)]) (fun r hr => gRunV (As := [.int a3]) 10 (ge_X1_part γ a3 h) hr wv_RX1_57 rfl (Nat.le_of_ble_eq_true rfl) (gat_10 _ _) rfl rfl (Nat.le_of_ble_eq_true rfl) (Nat.le_of_ble_eq_true rfl) dX1_takeOut_26) (fun x2 h1 => ?_)
      refine g_ineg (pc := 29) dX1_takeOut_29 ?_
      refine g_cV (pc := 30) (st := []) (fun r hr => gRunV (As := [.int a1, .int (2 + a3), .int (-x2)]) 4 (ge_X5_add_4 γ a1 (2 + a3) (-x2) h1) hr wv_RX1_50 rfl (Nat.le_of_ble_eq_true rfl) (gat_4 _ _) rfl rfl (Nat.le_of_ble_eq_true rfl) (Nat.le_of_ble_eq_true rfl) dX1_takeOut_30) (fun h3 => ?_)
      refine g_iinc (pc := 33) (q := 2) (v := a3 + 1) (lv' := [(3, .int (a3 + 1)), (0, .ref (gad γ 10)), (1, .int a1)]) dX1_takeOut_33 rfl rfl (by decide) rfl ?_
      refine g_goto (pc := 36) (tgt := 8) dX1_takeOut_36 (by decide) ?_
      exact g_sub [1, 2, 0] rfl (ih a1 (a3 + 1) h3)
set_option maxRecDepth 20000 in
theorem ge_X1_takeOut (γ : Gv) (p0 : Int32) (p1 : Int32) (h : Hst) : G γ RX1 cX1_takeOut 4 none [] vV 3 0 0 (lv_args 0 [.ref (gad γ 10), .int p0, .int p1]) [] h (f_X1_takeOut p0 p1 h) := by
  show G γ RX1 cX1_takeOut 4 none [] vV 3 0 0 [(0, .ref (gad γ 10)), (1, .int p0), (2, .int p1)] [] h (f_X1_takeOut p0 p1 h)
  unfold f_X1_takeOut
  refine g_aload_n (pc := 0) dX1_takeOut_0 rfl 0 rfl ?_
  refine g_iload_n (pc := 1) dX1_takeOut_1 rfl 1 rfl ?_
  refine g_iload_n (pc := 2) dX1_takeOut_2 rfl 2 rfl ?_
  refine g_cV (pc := 3) (st := []) (fun r hr => gRunV (As := [.int p0, .int p1]) 10 (ge_X1_split γ p0 p1 h) hr wv_RX1_53 rfl (Nat.le_of_ble_eq_true rfl) (gat_10 _ _) rfl rfl (Nat.le_of_ble_eq_true rfl) (Nat.le_of_ble_eq_true rfl) dX1_takeOut_3) (fun h1 => ?_)
  refine g_iconst (pc := 6) (v := 0) dX1_takeOut_6 (by decide) ?_
  refine g_istore_n (pc := 7) (lv' := [(3, .int 0), (0, .ref (gad γ 10)), (1, .int p0), (2, .int p1)]) dX1_takeOut_7 rfl (by decide) rfl ?_
  exact g_sub [1, 2, 0] rfl (glp_X1_takeOut_8 γ FU p0 0 h1)
def jb_X6_draw_42   (h : Hst) : Option ((Int32 × Hst) ⊕ (Nat × Hst)) :=
  (some (.inr (2, h)))
def lp_X6_draw_71 : Nat → Int32 → Int32 → Int32 → Hst → Option ((Int32 × Hst) ⊕ (Nat × Hst))
  | 0, _, _, _, _ => none
  | n + 1, a1, a3, a4, h =>
    (if 5 ≤ a4 then
      gbv (f_X5_add_2 a1 0 (-a3) h) fun h1 =>
      gbv (f_X5_add_2 a1 1 a3 h1) fun h2 =>
      gb (f_X5_get_2 a1 0 h2) fun x4 h3 =>
      (some (.inl (x4, h3)))
    else
      gb (f_X1_part a4 h) fun x6 h5 =>
      gbv (f_X5_add_5 a4 2 x6 h5) fun h7 =>
      ((lp_X6_draw_71 n) a1 a3 (a4 + 1) h7))
def f_X6_draw (p0 : Int32) (p1 : Int32) (p2 : Int32) (h : Hst) : Option ((Int32 × Hst) ⊕ (Nat × Hst)) :=
  (gbvx (f_X6_checkGrower p0 h) (fun h1 =>
    (gbvx (f_X6_checkTank p1 h1) (fun h2 =>
      (gbvx (f_X6_checkOil p2 h2) (fun h3 =>
        gb (f_X5_get_2 p0 0 h3) fun x5 h4 =>
        (if x5 < p2 then
          (jb_X6_draw_42 h4)
        else
          gb (f_X1_oilOf p1 h4) fun x7 h6 =>
          (if p2 ≤ x7 then
            gbv (f_X0_save h6) fun h8 =>
            gbv (f_X1_takeOut p1 p2 h8) fun h9 =>
            (lp_X6_draw_71 FU p0 p2 0 h9)
          else
            (jb_X6_draw_42 h6)))) (fun E h10 => some (.inr (E, h10))))) (fun E h11 => some (.inr (E, h11))))) (fun E h12 => some (.inr (E, h12))))
set_option maxRecDepth 20000 in
theorem gjb_X6_draw_42 (γ : Gv)   (h : Hst) : G γ RX6 cX6_draw 5 (some .int) [] vIX 7 0 42 [] [] h (jb_X6_draw_42 h) := by
  unfold jb_X6_draw_42
  exact g_throwS 2 (by decide +kernel) wcl_RX6_57 wini_2 wat_RX6_61_2 rfl (by decide +kernel : (206, "the account or the tank has less oil") ∈ gstrs) (Nat.le_of_ble_eq_true rfl) (fun x hx => nomatch hx) dX6_draw_42 dX6_draw_45 dX6_draw_46 dX6_draw_48 dX6_draw_51 (fun z hz => by cases hz; rfl)
set_option maxRecDepth 20000 in
theorem glp_X6_draw_71 (γ : Gv)  : ∀ (n : Nat) (a1 : Int32) (a3 : Int32) (a4 : Int32) (h : Hst), G γ RX6 cX6_draw 5 (some .int) [] vIX 7 0 71 [(0, .ref (gad γ 0)), (1, .int a1), (3, .int a3), (4, .int a4)] [] h (lp_X6_draw_71 n a1 a3 a4 h) := by
  intro n
  induction n with
  | zero => intro a1 a3 a4 h; exact g_none
  | succ n ih =>
    intro a1 a3 a4 h
    rw [lp_X6_draw_71]
    refine g_iload (pc := 71) dX6_draw_71 3 rfl ?_
    refine g_iconst (pc := 73) (v := 5) dX6_draw_73 (by decide) ?_
    refine g_icmp_ge (pc := 74) (tgt := 105) dX6_draw_74 (by decide) ?_ ?_
    · refine g_aload_n (pc := 105) dX6_draw_105 rfl 0 rfl ?_
      refine gf_RX6_12_0 (pc := 106) dX6_draw_106 ?_
      refine gf_RX6_200_1 (pc := 109) dX6_draw_109 ?_
      refine g_iload_n (pc := 112) dX6_draw_112 rfl 1 rfl ?_
      refine g_iconst (pc := 113) (v := 0) dX6_draw_113 (by decide) ?_
      refine g_iload_n (pc := 114) dX6_draw_114 rfl 2 rfl ?_
      refine g_ineg (pc := 115) dX6_draw_115 ?_
      refine g_cV (pc := 116) (st := []) (fun r hr => gRunV (As := [.int a1, .int 0, .int (-a3)]) 2 (ge_X5_add_2 γ a1 0 (-a3) h) hr wv_RX6_185 rfl (Nat.le_of_ble_eq_true rfl) (gat_2 _ _) rfl rfl (Nat.le_of_ble_eq_true rfl) (Nat.le_of_ble_eq_true rfl) dX6_draw_116) (fun h1 => ?_)
      refine g_aload_n (pc := 119) dX6_draw_119 rfl 0 rfl ?_
      refine gf_RX6_12_0 (pc := 120) dX6_draw_120 ?_
      refine gf_RX6_200_1 (pc := 123) dX6_draw_123 ?_
      refine g_iload_n (pc := 126) dX6_draw_126 rfl 1 rfl ?_
      refine g_iconst (pc := 127) (v := 1) dX6_draw_127 (by decide) ?_
      refine g_iload_n (pc := 128) dX6_draw_128 rfl 2 rfl ?_
      refine g_cV (pc := 129) (st := []) (fun r hr => gRunV (As := [.int a1, .int 1, .int a3]) 2 (ge_X5_add_2 γ a1 1 a3 h1) hr wv_RX6_185 rfl (Nat.le_of_ble_eq_true rfl) (gat_2 _ _) rfl rfl (Nat.le_of_ble_eq_true rfl) (Nat.le_of_ble_eq_true rfl) dX6_draw_129) (fun h2 => ?_)
      refine g_aload_n (pc := 132) dX6_draw_132 rfl 0 rfl ?_
      refine gf_RX6_12_0 (pc := 133) dX6_draw_133 ?_
      refine gf_RX6_200_1 (pc := 136) dX6_draw_136 ?_
      refine g_iload_n (pc := 139) dX6_draw_139 rfl 1 rfl ?_
      refine g_iconst (pc := 140) (v := 0) dX6_draw_140 (by decide) ?_
      refine g_cI (pc := 141) (st := []) (fun r hr => gRunV (As := [.int a1, .int 0]) 2 (ge_X5_get_2 γ a1 0 h2) hr wv_RX6_116 rfl (Nat.le_of_ble_eq_true rfl) (gat_2 _ _) rfl rfl (Nat.le_of_ble_eq_true rfl) (Nat.le_of_ble_eq_true rfl) dX6_draw_141) (fun x4 h3 => ?_)
      exact g_ireturn (pc := 144) (ty := .int) dX6_draw_144 rfl rfl rfl
    · refine g_aload_n (pc := 77) dX6_draw_77 rfl 0 rfl ?_
      refine gf_RX6_12_0 (pc := 78) dX6_draw_78 ?_
      refine gf_RX6_113_1 (pc := 81) dX6_draw_81 ?_
      refine g_iload (pc := 84) dX6_draw_84 3 rfl ?_
      refine g_iconst (pc := 86) (v := 2) dX6_draw_86 (by decide) ?_
      refine g_aload_n (pc := 87) dX6_draw_87 rfl 0 rfl ?_
      refine gf_RX6_21_0 (pc := 88) dX6_draw_88 ?_
      refine g_iload (pc := 91) dX6_draw_91 3 rfl ?_
      refine g_cI (pc := 93) (st := [.int 2, .int a4, .ref (gad γ 5)]) (fun r hr => gRunV (As := [.int a4]) 10 (ge_X1_part γ a4 h) hr wv_RX6_211 rfl (Nat.le_of_ble_eq_true rfl) (gat_10 _ _) rfl rfl (Nat.le_of_ble_eq_true rfl) (Nat.le_of_ble_eq_true rfl) dX6_draw_93) (fun x6 h5 => ?_)
      refine g_cV (pc := 96) (st := []) (fun r hr => gRunV (As := [.int a4, .int 2, .int x6]) 5 (ge_X5_add_5 γ a4 2 x6 h5) hr wv_RX6_185 rfl (Nat.le_of_ble_eq_true rfl) (gat_5 _ _) rfl rfl (Nat.le_of_ble_eq_true rfl) (Nat.le_of_ble_eq_true rfl) dX6_draw_96) (fun h7 => ?_)
      refine g_iinc (pc := 99) (q := 3) (v := a4 + 1) (lv' := [(4, .int (a4 + 1)), (0, .ref (gad γ 0)), (1, .int a1), (3, .int a3)]) dX6_draw_99 rfl rfl (by decide) rfl ?_
      refine g_goto (pc := 102) (tgt := 71) dX6_draw_102 (by decide) ?_
      exact g_sub [1, 2, 3, 0] rfl (ih a1 a3 (a4 + 1) h7)
set_option maxRecDepth 20000 in
theorem ge_X6_draw (γ : Gv) (p0 : Int32) (p1 : Int32) (p2 : Int32) (h : Hst) : G γ RX6 cX6_draw 5 (some .int) [] vIX 7 0 0 (lv_args 0 [.ref (gad γ 0), .int p0, .int p1, .int p2]) [] h (f_X6_draw p0 p1 p2 h) := by
  show G γ RX6 cX6_draw 5 (some .int) [] vIX 7 0 0 [(0, .ref (gad γ 0)), (1, .int p0), (2, .int p1), (3, .int p2)] [] h (f_X6_draw p0 p1 p2 h)
  unfold f_X6_draw
  refine g_aload_n (pc := 0) dX6_draw_0 rfl 0 rfl ?_
  refine g_iload_n (pc := 1) dX6_draw_1 rfl 1 rfl ?_
  refine g_cVX (pc := 2) (st := []) (fun r hr => gRunV (As := [.int p0]) 0 (ge_X6_checkGrower γ p0 h) hr wv_RX6_71 rfl (Nat.le_of_ble_eq_true rfl) (gat_0 _ _) rfl rfl (Nat.le_of_ble_eq_true rfl) (Nat.le_of_ble_eq_true rfl) dX6_draw_2) (fun h1 => ?_) (fun E h12 hrun => gRun.out hrun rfl rfl (fun y hy => by cases hy; rfl) (fun x hx => nomatch hx))
  refine g_aload_n (pc := 5) dX6_draw_5 rfl 0 rfl ?_
  refine g_iload_n (pc := 6) dX6_draw_6 rfl 2 rfl ?_
  refine g_cVX (pc := 7) (st := []) (fun r hr => gRunV (As := [.int p1]) 0 (ge_X6_checkTank γ p1 h1) hr wv_RX6_138 rfl (Nat.le_of_ble_eq_true rfl) (gat_0 _ _) rfl rfl (Nat.le_of_ble_eq_true rfl) (Nat.le_of_ble_eq_true rfl) dX6_draw_7) (fun h2 => ?_) (fun E h11 hrun => gRun.out hrun rfl rfl (fun y hy => by cases hy; rfl) (fun x hx => nomatch hx))
  refine g_iload_n (pc := 10) dX6_draw_10 rfl 3 rfl ?_
  refine g_cVX (pc := 11) (st := []) (fun r hr => gRunS (As := [.int p2]) (ge_X6_checkOil γ p2 h2) hr wv_RX6_197 rfl (Nat.le_of_ble_eq_true rfl) rfl (Nat.le_of_ble_eq_true rfl) (Nat.le_of_ble_eq_true rfl) dX6_draw_11) (fun h3 => ?_) (fun E h10 hrun => gRun.out hrun rfl rfl (fun y hy => by cases hy; rfl) (fun x hx => nomatch hx))
  refine g_aload_n (pc := 14) dX6_draw_14 rfl 0 rfl ?_
  refine gf_RX6_12_0 (pc := 15) dX6_draw_15 ?_
  refine gf_RX6_200_1 (pc := 18) dX6_draw_18 ?_
  refine g_iload_n (pc := 21) dX6_draw_21 rfl 1 rfl ?_
  refine g_iconst (pc := 22) (v := 0) dX6_draw_22 (by decide) ?_
  refine g_cI (pc := 23) (st := []) (fun r hr => gRunV (As := [.int p0, .int 0]) 2 (ge_X5_get_2 γ p0 0 h3) hr wv_RX6_116 rfl (Nat.le_of_ble_eq_true rfl) (gat_2 _ _) rfl rfl (Nat.le_of_ble_eq_true rfl) (Nat.le_of_ble_eq_true rfl) dX6_draw_23) (fun x5 h4 => ?_)
  refine g_iload_n (pc := 26) dX6_draw_26 rfl 3 rfl ?_
  refine g_icmp_lt (pc := 27) (tgt := 42) dX6_draw_27 (by decide) ?_ ?_
  · exact g_sub [] rfl (gjb_X6_draw_42 γ h4)
  · refine g_aload_n (pc := 30) dX6_draw_30 rfl 0 rfl ?_
    refine gf_RX6_21_0 (pc := 31) dX6_draw_31 ?_
    refine g_iload_n (pc := 34) dX6_draw_34 rfl 2 rfl ?_
    refine g_cI (pc := 35) (st := []) (fun r hr => gRunV (As := [.int p1]) 10 (ge_X1_oilOf γ p1 h4) hr wv_RX6_203 rfl (Nat.le_of_ble_eq_true rfl) (gat_10 _ _) rfl rfl (Nat.le_of_ble_eq_true rfl) (Nat.le_of_ble_eq_true rfl) dX6_draw_35) (fun x7 h6 => ?_)
    refine g_iload_n (pc := 38) dX6_draw_38 rfl 3 rfl ?_
    refine g_icmp_ge (pc := 39) (tgt := 52) dX6_draw_39 (by decide) ?_ ?_
    · refine g_aload_n (pc := 52) dX6_draw_52 rfl 0 rfl ?_
      refine gf_RX6_12_0 (pc := 53) dX6_draw_53 ?_
      refine g_cV (pc := 56) (st := []) (fun r hr => gRunV (As := []) 1 (ge_X0_save γ h6) hr wv_RX6_64 rfl (Nat.le_of_ble_eq_true rfl) (gat_1 _ _) rfl rfl (Nat.le_of_ble_eq_true rfl) (Nat.le_of_ble_eq_true rfl) dX6_draw_56) (fun h8 => ?_)
      refine g_aload_n (pc := 59) dX6_draw_59 rfl 0 rfl ?_
      refine gf_RX6_21_0 (pc := 60) dX6_draw_60 ?_
      refine g_iload_n (pc := 63) dX6_draw_63 rfl 2 rfl ?_
      refine g_iload_n (pc := 64) dX6_draw_64 rfl 3 rfl ?_
      refine g_cV (pc := 65) (st := []) (fun r hr => gRunV (As := [.int p1, .int p2]) 10 (ge_X1_takeOut γ p1 p2 h8) hr wv_RX6_208 rfl (Nat.le_of_ble_eq_true rfl) (gat_10 _ _) rfl rfl (Nat.le_of_ble_eq_true rfl) (Nat.le_of_ble_eq_true rfl) dX6_draw_65) (fun h9 => ?_)
      refine g_iconst (pc := 68) (v := 0) dX6_draw_68 (by decide) ?_
      refine g_istore (pc := 69) (lv' := [(4, .int 0), (0, .ref (gad γ 0)), (1, .int p0), (2, .int p1), (3, .int p2)]) dX6_draw_69 (by decide) rfl ?_
      exact g_sub [1, 2, 4, 0] rfl (glp_X6_draw_71 γ FU p0 p2 0 h9)
    · exact g_sub [] rfl (gjb_X6_draw_42 γ h6)
def jb_X6_move_78   (h : Hst) : Option ((Int32 × Hst) ⊕ (Nat × Hst)) :=
  (some (.inr (2, h)))
def lp_X6_move_107 : Nat → Int32 → Int32 → Int32 → Hst → Option ((Int32 × Hst) ⊕ (Nat × Hst))
  | 0, _, _, _, _ => none
  | n + 1, a2, a5, a6, h =>
    (if 5 ≤ a6 then
      gb (f_X1_oilOf a2 h) fun x2 h1 =>
      (some (.inl (x2, h1)))
    else
      gb (f_X1_part a6 h) fun x4 h3 =>
      gbv (f_X1_pour a2 a6 x4 a5 h3) fun h5 =>
      ((lp_X6_move_107 n) a2 a5 (a6 + 1) h5))
def f_X6_move (p0 : Int32) (p1 : Int32) (p2 : Int32) (p3 : Int32) (h : Hst) : Option ((Int32 × Hst) ⊕ (Nat × Hst)) :=
  (gbvx (f_X6_checkTank p0 h) (fun h1 =>
    (gbvx (f_X6_checkTank p1 h1) (fun h2 =>
      (if p0 = p1 then
        (some (.inr (1, h2)))
      else
        (gbvx (f_X6_checkOil p2 h2) (fun h3 =>
          gb (f_X1_gradeOf p0 h3) fun x5 h4 =>
          gb (f_X1_oilOf p0 h4) fun x7 h6 =>
          (if x7 < p2 then
            (jb_X6_move_78 h6)
          else
            gb (f_X1_roomOf p1 h6) fun x9 h8 =>
            (if x9 < p2 then
              (jb_X6_move_78 h8)
            else
              gb (f_X1_admits p1 x5 p3 h8) fun x11 h10 =>
              (if x11 = 0 then
                (jb_X6_move_78 h10)
              else
                gbv (f_X0_save h10) fun h12 =>
                gbv (f_X1_takeOut p0 p2 h12) fun h13 =>
                (lp_X6_move_107 FU p1 x5 0 h13))))) (fun E h14 => some (.inr (E, h14)))))) (fun E h15 => some (.inr (E, h15))))) (fun E h16 => some (.inr (E, h16))))
set_option maxRecDepth 20000 in
theorem gjb_X6_move_78 (γ : Gv)   (h : Hst) : G γ RX6 cX6_move 7 (some .int) [] vIX 7 0 78 [] [] h (jb_X6_move_78 h) := by
  unfold jb_X6_move_78
  exact g_throwS 2 (by decide +kernel) wcl_RX6_57 wini_2 wat_RX6_61_2 rfl (by decide +kernel : (226, "the oil cannot be moved") ∈ gstrs) (Nat.le_of_ble_eq_true rfl) (fun x hx => nomatch hx) dX6_move_78 dX6_move_81 dX6_move_82 dX6_move_84 dX6_move_87 (fun z hz => by cases hz; rfl)
set_option maxRecDepth 20000 in
theorem glp_X6_move_107 (γ : Gv)  : ∀ (n : Nat) (a2 : Int32) (a5 : Int32) (a6 : Int32) (h : Hst), G γ RX6 cX6_move 7 (some .int) [] vIX 7 0 107 [(0, .ref (gad γ 0)), (2, .int a2), (5, .int a5), (6, .int a6)] [] h (lp_X6_move_107 n a2 a5 a6 h) := by
  intro n
  induction n with
  | zero => intro a2 a5 a6 h; exact g_none
  | succ n ih =>
    intro a2 a5 a6 h
    rw [lp_X6_move_107]
    refine g_iload (pc := 107) dX6_move_107 3 rfl ?_
    refine g_iconst (pc := 109) (v := 5) dX6_move_109 (by decide) ?_
    refine g_icmp_ge (pc := 110) (tgt := 140) dX6_move_110 (by decide) ?_ ?_
    · refine g_aload_n (pc := 140) dX6_move_140 rfl 0 rfl ?_
      refine gf_RX6_21_0 (pc := 141) dX6_move_141 ?_
      refine g_iload_n (pc := 144) dX6_move_144 rfl 1 rfl ?_
      refine g_cI (pc := 145) (st := []) (fun r hr => gRunV (As := [.int a2]) 10 (ge_X1_oilOf γ a2 h) hr wv_RX6_203 rfl (Nat.le_of_ble_eq_true rfl) (gat_10 _ _) rfl rfl (Nat.le_of_ble_eq_true rfl) (Nat.le_of_ble_eq_true rfl) dX6_move_145) (fun x2 h1 => ?_)
      exact g_ireturn (pc := 148) (ty := .int) dX6_move_148 rfl rfl rfl
    · refine g_aload_n (pc := 113) dX6_move_113 rfl 0 rfl ?_
      refine gf_RX6_21_0 (pc := 114) dX6_move_114 ?_
      refine g_iload_n (pc := 117) dX6_move_117 rfl 1 rfl ?_
      refine g_iload (pc := 118) dX6_move_118 3 rfl ?_
      refine g_aload_n (pc := 120) dX6_move_120 rfl 0 rfl ?_
      refine gf_RX6_21_0 (pc := 121) dX6_move_121 ?_
      refine g_iload (pc := 124) dX6_move_124 3 rfl ?_
      refine g_cI (pc := 126) (st := [.int a6, .int a2, .ref (gad γ 10)]) (fun r hr => gRunV (As := [.int a6]) 10 (ge_X1_part γ a6 h) hr wv_RX6_211 rfl (Nat.le_of_ble_eq_true rfl) (gat_10 _ _) rfl rfl (Nat.le_of_ble_eq_true rfl) (Nat.le_of_ble_eq_true rfl) dX6_move_126) (fun x4 h3 => ?_)
      refine g_iload (pc := 129) dX6_move_129 2 rfl ?_
      refine g_cV (pc := 131) (st := []) (fun r hr => gRunV (As := [.int a2, .int a6, .int x4, .int a5]) 10 (ge_X1_pour γ a2 a6 x4 a5 h3) hr wv_RX6_190 rfl (Nat.le_of_ble_eq_true rfl) (gat_10 _ _) rfl rfl (Nat.le_of_ble_eq_true rfl) (Nat.le_of_ble_eq_true rfl) dX6_move_131) (fun h5 => ?_)
      refine g_iinc (pc := 134) (q := 3) (v := a6 + 1) (lv' := [(6, .int (a6 + 1)), (0, .ref (gad γ 0)), (2, .int a2), (5, .int a5)]) dX6_move_134 rfl rfl (by decide) rfl ?_
      refine g_goto (pc := 137) (tgt := 107) dX6_move_137 (by decide) ?_
      exact g_sub [1, 2, 3, 0] rfl (ih a2 a5 (a6 + 1) h5)
set_option maxRecDepth 20000 in
theorem ge_X6_move (γ : Gv) (p0 : Int32) (p1 : Int32) (p2 : Int32) (p3 : Int32) (h : Hst) : G γ RX6 cX6_move 7 (some .int) [] vIX 7 0 0 (lv_args 0 [.ref (gad γ 0), .int p0, .int p1, .int p2, .int p3]) [] h (f_X6_move p0 p1 p2 p3 h) := by
  show G γ RX6 cX6_move 7 (some .int) [] vIX 7 0 0 [(0, .ref (gad γ 0)), (1, .int p0), (2, .int p1), (3, .int p2), (4, .int p3)] [] h (f_X6_move p0 p1 p2 p3 h)
  unfold f_X6_move
  refine g_aload_n (pc := 0) dX6_move_0 rfl 0 rfl ?_
  refine g_iload_n (pc := 1) dX6_move_1 rfl 1 rfl ?_
  refine g_cVX (pc := 2) (st := []) (fun r hr => gRunV (As := [.int p0]) 0 (ge_X6_checkTank γ p0 h) hr wv_RX6_138 rfl (Nat.le_of_ble_eq_true rfl) (gat_0 _ _) rfl rfl (Nat.le_of_ble_eq_true rfl) (Nat.le_of_ble_eq_true rfl) dX6_move_2) (fun h1 => ?_) (fun E h16 hrun => gRun.out hrun rfl rfl (fun y hy => by cases hy; rfl) (fun x hx => nomatch hx))
  refine g_aload_n (pc := 5) dX6_move_5 rfl 0 rfl ?_
  refine g_iload_n (pc := 6) dX6_move_6 rfl 2 rfl ?_
  refine g_cVX (pc := 7) (st := []) (fun r hr => gRunV (As := [.int p1]) 0 (ge_X6_checkTank γ p1 h1) hr wv_RX6_138 rfl (Nat.le_of_ble_eq_true rfl) (gat_0 _ _) rfl rfl (Nat.le_of_ble_eq_true rfl) (Nat.le_of_ble_eq_true rfl) dX6_move_7) (fun h2 => ?_) (fun E h15 hrun => gRun.out hrun rfl rfl (fun y hy => by cases hy; rfl) (fun x hx => nomatch hx))
  refine g_iload_n (pc := 10) dX6_move_10 rfl 1 rfl ?_
  refine g_iload_n (pc := 11) dX6_move_11 rfl 2 rfl ?_
  refine g_icmp_ne (pc := 12) (tgt := 25) dX6_move_12 (by decide) ?_ ?_
  · refine g_iload_n (pc := 25) dX6_move_25 rfl 3 rfl ?_
    refine g_cVX (pc := 26) (st := []) (fun r hr => gRunS (As := [.int p2]) (ge_X6_checkOil γ p2 h2) hr wv_RX6_197 rfl (Nat.le_of_ble_eq_true rfl) rfl (Nat.le_of_ble_eq_true rfl) (Nat.le_of_ble_eq_true rfl) dX6_move_26) (fun h3 => ?_) (fun E h14 hrun => gRun.out hrun rfl rfl (fun y hy => by cases hy; rfl) (fun x hx => nomatch hx))
    refine g_aload_n (pc := 29) dX6_move_29 rfl 0 rfl ?_
    refine gf_RX6_21_0 (pc := 30) dX6_move_30 ?_
    refine g_iload_n (pc := 33) dX6_move_33 rfl 1 rfl ?_
    refine g_cI (pc := 34) (st := []) (fun r hr => gRunV (As := [.int p0]) 10 (ge_X1_gradeOf γ p0 h3) hr wv_RX6_216 rfl (Nat.le_of_ble_eq_true rfl) (gat_10 _ _) rfl rfl (Nat.le_of_ble_eq_true rfl) (Nat.le_of_ble_eq_true rfl) dX6_move_34) (fun x5 h4 => ?_)
    refine g_istore (pc := 37) (lv' := [(5, .int x5), (0, .ref (gad γ 0)), (1, .int p0), (2, .int p1), (3, .int p2), (4, .int p3)]) dX6_move_37 (by decide) rfl ?_
    refine g_aload_n (pc := 39) dX6_move_39 rfl 1 rfl ?_
    refine gf_RX6_21_0 (pc := 40) dX6_move_40 ?_
    refine g_iload_n (pc := 43) dX6_move_43 rfl 2 rfl ?_
    refine g_cI (pc := 44) (st := []) (fun r hr => gRunV (As := [.int p0]) 10 (ge_X1_oilOf γ p0 h4) hr wv_RX6_203 rfl (Nat.le_of_ble_eq_true rfl) (gat_10 _ _) rfl rfl (Nat.le_of_ble_eq_true rfl) (Nat.le_of_ble_eq_true rfl) dX6_move_44) (fun x7 h6 => ?_)
    refine g_iload_n (pc := 47) dX6_move_47 rfl 4 rfl ?_
    refine g_icmp_lt (pc := 48) (tgt := 78) dX6_move_48 (by decide) ?_ ?_
    · exact g_sub [] rfl (gjb_X6_move_78 γ h6)
    · refine g_aload_n (pc := 51) dX6_move_51 rfl 1 rfl ?_
      refine gf_RX6_21_0 (pc := 52) dX6_move_52 ?_
      refine g_iload_n (pc := 55) dX6_move_55 rfl 3 rfl ?_
      refine g_cI (pc := 56) (st := []) (fun r hr => gRunV (As := [.int p1]) 10 (ge_X1_roomOf γ p1 h6) hr wv_RX6_219 rfl (Nat.le_of_ble_eq_true rfl) (gat_10 _ _) rfl rfl (Nat.le_of_ble_eq_true rfl) (Nat.le_of_ble_eq_true rfl) dX6_move_56) (fun x9 h8 => ?_)
      refine g_iload_n (pc := 59) dX6_move_59 rfl 4 rfl ?_
      refine g_icmp_lt (pc := 60) (tgt := 78) dX6_move_60 (by decide) ?_ ?_
      · exact g_sub [] rfl (gjb_X6_move_78 γ h8)
      · refine g_aload_n (pc := 63) dX6_move_63 rfl 1 rfl ?_
        refine gf_RX6_21_0 (pc := 64) dX6_move_64 ?_
        refine g_iload_n (pc := 67) dX6_move_67 rfl 3 rfl ?_
        refine g_iload (pc := 68) dX6_move_68 0 rfl ?_
        refine g_iload (pc := 70) dX6_move_70 5 rfl ?_
        refine g_cI (pc := 72) (st := []) (fun r hr => gRunV (As := [.int p1, .int x5, .int p3]) 10 (ge_X1_admits γ p1 x5 p3 h8) hr wv_RX6_222 rfl (Nat.le_of_ble_eq_true rfl) (gat_10 _ _) rfl rfl (Nat.le_of_ble_eq_true rfl) (Nat.le_of_ble_eq_true rfl) dX6_move_72) (fun x11 h10 => ?_)
        refine g_if_ne (pc := 75) (tgt := 88) dX6_move_75 (by decide) ?_ ?_
        · refine g_aload_n (pc := 88) dX6_move_88 rfl 1 rfl ?_
          refine gf_RX6_12_0 (pc := 89) dX6_move_89 ?_
          refine g_cV (pc := 92) (st := []) (fun r hr => gRunV (As := []) 1 (ge_X0_save γ h10) hr wv_RX6_64 rfl (Nat.le_of_ble_eq_true rfl) (gat_1 _ _) rfl rfl (Nat.le_of_ble_eq_true rfl) (Nat.le_of_ble_eq_true rfl) dX6_move_92) (fun h12 => ?_)
          refine g_aload_n (pc := 95) dX6_move_95 rfl 1 rfl ?_
          refine gf_RX6_21_0 (pc := 96) dX6_move_96 ?_
          refine g_iload_n (pc := 99) dX6_move_99 rfl 2 rfl ?_
          refine g_iload_n (pc := 100) dX6_move_100 rfl 4 rfl ?_
          refine g_cV (pc := 101) (st := []) (fun r hr => gRunV (As := [.int p0, .int p2]) 10 (ge_X1_takeOut γ p0 p2 h12) hr wv_RX6_208 rfl (Nat.le_of_ble_eq_true rfl) (gat_10 _ _) rfl rfl (Nat.le_of_ble_eq_true rfl) (Nat.le_of_ble_eq_true rfl) dX6_move_101) (fun h13 => ?_)
          refine g_iconst (pc := 104) (v := 0) dX6_move_104 (by decide) ?_
          refine g_istore (pc := 105) (lv' := [(6, .int 0), (5, .int x5), (0, .ref (gad γ 0)), (1, .int p0), (2, .int p1), (3, .int p2), (4, .int p3)]) dX6_move_105 (by decide) rfl ?_
          exact g_sub [2, 4, 1, 0] rfl (glp_X6_move_107 γ FU p1 x5 0 h13)
        · exact g_sub [] rfl (gjb_X6_move_78 γ h10)
  · exact g_throwS 1 (by decide +kernel) wcl_RX6_83 wini_1 wat_RX6_87_1 rfl (by decide +kernel : (214, "both tanks are the same") ∈ gstrs) (Nat.le_of_ble_eq_true rfl) (fun x hx => nomatch hx) dX6_move_15 dX6_move_18 dX6_move_19 dX6_move_21 dX6_move_24 (fun z hz => by cases hz; rfl)
def lp_X1_oilAfter_5 : Nat → Int32 → Int32 → Int32 → Hst → Option (Int32 × Hst)
  | 0, _, _, _, _ => none
  | n + 1, a1, a3, a4, h =>
    (if a1 ≤ a4 then
      (some (a3, h))
    else
      gb (f_X3_get_6 3 h) fun x2 h1 =>
      gdz 1000 (gl (a3 - ((a3 * x2) / 1000)) fun x3 =>
      ((lp_X1_oilAfter_5 n) a1 x3 (a4 + 1) h1)))
def f_X1_oilAfter (p0 : Int32) (p1 : Int32) (h : Hst) : Option (Int32 × Hst) :=
  (lp_X1_oilAfter_5 FU p0 p1 0 h)
set_option maxRecDepth 20000 in
theorem glp_X1_oilAfter_5 (γ : Gv)  : ∀ (n : Nat) (a1 : Int32) (a3 : Int32) (a4 : Int32) (h : Hst), G γ RX1 cX1_oilAfter 5 (some .int) [] vI 1 0 5 [(0, .ref (gad γ 10)), (1, .int a1), (3, .int a3), (4, .int a4)] [] h (lp_X1_oilAfter_5 n a1 a3 a4 h) := by
  intro n
  induction n with
  | zero => intro a1 a3 a4 h; exact g_none
  | succ n ih =>
    intro a1 a3 a4 h
    rw [lp_X1_oilAfter_5]
    refine g_iload (pc := 5) dX1_oilAfter_5 3 rfl ?_
    refine g_iload_n (pc := 7) dX1_oilAfter_7 rfl 1 rfl ?_
    refine g_icmp_ge (pc := 8) (tgt := 37) dX1_oilAfter_8 (by decide) ?_ ?_
    · refine g_iload_n (pc := 37) dX1_oilAfter_37 rfl 2 rfl ?_
      exact g_ireturn (pc := 38) (ty := .int) dX1_oilAfter_38 rfl rfl rfl
    · refine g_iload_n (pc := 11) dX1_oilAfter_11 rfl 2 rfl ?_
      refine g_iload_n (pc := 12) dX1_oilAfter_12 rfl 2 rfl ?_
      refine g_aload_n (pc := 13) dX1_oilAfter_13 rfl 0 rfl ?_
      refine gf_RX1_9_10 (pc := 14) dX1_oilAfter_14 ?_
      refine gf_RX1_60_1 (pc := 17) dX1_oilAfter_17 ?_
      refine g_iconst (pc := 20) (v := 3) dX1_oilAfter_20 (by decide) ?_
      refine g_cI (pc := 21) (st := [.int a3, .int a3]) (fun r hr => gRunV (As := [.int 3]) 6 (ge_X3_get_6 γ 3 h) hr wv_RX1_64 rfl (Nat.le_of_ble_eq_true rfl) (gat_6 _ _) rfl rfl (Nat.le_of_ble_eq_true rfl) (Nat.le_of_ble_eq_true rfl) dX1_oilAfter_21) (fun x2 h1 => ?_)
      refine g_imul (pc := 24) dX1_oilAfter_24 ?_
      refine g_sipush (pc := 25) (v := 1000) dX1_oilAfter_25 (by decide) ?_
      refine g_idiv (pc := 28) dX1_oilAfter_28 ?_
      refine g_isub (pc := 29) dX1_oilAfter_29 ?_
      refine g_nmi (fun x3 => ?_)
      refine g_istore_n (pc := 30) (lv' := [(3, .int x3), (0, .ref (gad γ 10)), (1, .int a1), (4, .int a4)]) dX1_oilAfter_30 rfl (by decide) rfl ?_
      refine g_iinc (pc := 31) (q := 3) (v := a4 + 1) (lv' := [(4, .int (a4 + 1)), (3, .int x3), (0, .ref (gad γ 10)), (1, .int a1)]) dX1_oilAfter_31 rfl rfl (by decide) rfl ?_
      refine g_goto (pc := 34) (tgt := 5) dX1_oilAfter_34 (by decide) ?_
      exact g_sub [2, 3, 1, 0] rfl (ih a1 x3 (a4 + 1) h1)
set_option maxRecDepth 20000 in
theorem ge_X1_oilAfter (γ : Gv) (p0 : Int32) (p1 : Int32) (h : Hst) : G γ RX1 cX1_oilAfter 5 (some .int) [] vI 1 0 0 (lv_args 0 [.ref (gad γ 10), .int p0, .int p1]) [] h (f_X1_oilAfter p0 p1 h) := by
  show G γ RX1 cX1_oilAfter 5 (some .int) [] vI 1 0 0 [(0, .ref (gad γ 10)), (1, .int p0), (2, .int p1)] [] h (f_X1_oilAfter p0 p1 h)
  unfold f_X1_oilAfter
  refine g_iload_n (pc := 0) dX1_oilAfter_0 rfl 2 rfl ?_
  refine g_istore_n (pc := 1) (lv' := [(3, .int p1), (0, .ref (gad γ 10)), (1, .int p0), (2, .int p1)]) dX1_oilAfter_1 rfl (by decide) rfl ?_
  refine g_iconst (pc := 2) (v := 0) dX1_oilAfter_2 (by decide) ?_
  refine g_istore (pc := 3) (lv' := [(4, .int 0), (3, .int p1), (0, .ref (gad γ 10)), (1, .int p0), (2, .int p1)]) dX1_oilAfter_3 (by decide) rfl ?_
  exact g_sub [2, 3, 1, 0] rfl (glp_X1_oilAfter_5 γ FU p0 p1 0 h)
def f_X1_settle (p0 : Int32) (p1 : Int32) (p2 : Int32) (h : Hst) : Option (Int32 × Hst) :=
  gb (f_X5_get_4 p0 (2 + p1) h) fun x2 h1 =>
  gb (f_X1_oilAfter p2 x2 h1) fun x4 h3 =>
  gbv (f_X5_put_4 p0 (2 + p1) x4 h3) fun h5 =>
  gbv (f_X5_add_5 p1 3 (x2 - x4) h5) fun h6 =>
  (some (x2 - x4, h6))
set_option maxRecDepth 20000 in
theorem ge_X1_settle (γ : Gv) (p0 : Int32) (p1 : Int32) (p2 : Int32) (h : Hst) : G γ RX1 cX1_settle 6 (some .int) [] vI 2 0 0 (lv_args 0 [.ref (gad γ 10), .int p0, .int p1, .int p2]) [] h (f_X1_settle p0 p1 p2 h) := by
  show G γ RX1 cX1_settle 6 (some .int) [] vI 2 0 0 [(0, .ref (gad γ 10)), (1, .int p0), (2, .int p1), (3, .int p2)] [] h (f_X1_settle p0 p1 p2 h)
  unfold f_X1_settle
  refine g_aload_n (pc := 0) dX1_settle_0 rfl 0 rfl ?_
  refine gf_RX1_9_10 (pc := 1) dX1_settle_1 ?_
  refine gf_RX1_22_1 (pc := 4) dX1_settle_4 ?_
  refine g_iload_n (pc := 7) dX1_settle_7 rfl 1 rfl ?_
  refine g_iconst (pc := 8) (v := 2) dX1_settle_8 (by decide) ?_
  refine g_iload_n (pc := 9) dX1_settle_9 rfl 2 rfl ?_
  refine g_iadd (pc := 10) dX1_settle_10 ?_
  refine g_cI (pc := 11) (st := []) (fun r hr => gRunV (As := [.int p0, .int (2 + p1)]) 4 (ge_X5_get_4 γ p0 (2 + p1) h) hr wv_RX1_28 rfl (Nat.le_of_ble_eq_true rfl) (gat_4 _ _) rfl rfl (Nat.le_of_ble_eq_true rfl) (Nat.le_of_ble_eq_true rfl) dX1_settle_11) (fun x2 h1 => ?_)
  refine g_istore (pc := 14) (lv' := [(4, .int x2), (0, .ref (gad γ 10)), (1, .int p0), (2, .int p1), (3, .int p2)]) dX1_settle_14 (by decide) rfl ?_
  refine g_aload_n (pc := 16) dX1_settle_16 rfl 1 rfl ?_
  refine g_iload_n (pc := 17) dX1_settle_17 rfl 4 rfl ?_
  refine g_iload (pc := 18) dX1_settle_18 0 rfl ?_
  refine g_cI (pc := 20) (st := []) (fun r hr => gRunV (As := [.int p2, .int x2]) 10 (ge_X1_oilAfter γ p2 x2 h1) hr wv_RX1_68 rfl (Nat.le_of_ble_eq_true rfl) (gat_10 _ _) rfl rfl (Nat.le_of_ble_eq_true rfl) (Nat.le_of_ble_eq_true rfl) dX1_settle_20) (fun x4 h3 => ?_)
  refine g_istore (pc := 23) (lv' := [(5, .int x4), (4, .int x2), (0, .ref (gad γ 10)), (1, .int p0), (2, .int p1), (3, .int p2)]) dX1_settle_23 (by decide) rfl ?_
  refine g_aload_n (pc := 25) dX1_settle_25 rfl 2 rfl ?_
  refine gf_RX1_9_10 (pc := 26) dX1_settle_26 ?_
  refine gf_RX1_22_1 (pc := 29) dX1_settle_29 ?_
  refine g_iload_n (pc := 32) dX1_settle_32 rfl 3 rfl ?_
  refine g_iconst (pc := 33) (v := 2) dX1_settle_33 (by decide) ?_
  refine g_iload_n (pc := 34) dX1_settle_34 rfl 4 rfl ?_
  refine g_iadd (pc := 35) dX1_settle_35 ?_
  refine g_iload (pc := 36) dX1_settle_36 0 rfl ?_
  refine g_cV (pc := 38) (st := []) (fun r hr => gRunV (As := [.int p0, .int (2 + p1), .int x4]) 4 (ge_X5_put_4 γ p0 (2 + p1) x4 h3) hr wv_RX1_46 rfl (Nat.le_of_ble_eq_true rfl) (gat_4 _ _) rfl rfl (Nat.le_of_ble_eq_true rfl) (Nat.le_of_ble_eq_true rfl) dX1_settle_38) (fun h5 => ?_)
  refine g_aload_n (pc := 41) dX1_settle_41 rfl 2 rfl ?_
  refine gf_RX1_9_10 (pc := 42) dX1_settle_42 ?_
  refine gf_RX1_71_1 (pc := 45) dX1_settle_45 ?_
  refine g_iload_n (pc := 48) dX1_settle_48 rfl 4 rfl ?_
  refine g_iconst (pc := 49) (v := 3) dX1_settle_49 (by decide) ?_
  refine g_iload (pc := 50) dX1_settle_50 1 rfl ?_
  refine g_iload (pc := 52) dX1_settle_52 0 rfl ?_
  refine g_isub (pc := 54) dX1_settle_54 ?_
  refine g_cV (pc := 55) (st := []) (fun r hr => gRunV (As := [.int p1, .int 3, .int (x2 - x4)]) 5 (ge_X5_add_5 γ p1 3 (x2 - x4) h5) hr wv_RX1_50 rfl (Nat.le_of_ble_eq_true rfl) (gat_5 _ _) rfl rfl (Nat.le_of_ble_eq_true rfl) (Nat.le_of_ble_eq_true rfl) dX1_settle_55) (fun h6 => ?_)
  refine g_iload (pc := 58) dX1_settle_58 1 rfl ?_
  refine g_iload (pc := 60) dX1_settle_60 0 rfl ?_
  refine g_isub (pc := 62) dX1_settle_62 ?_
  exact g_ireturn (pc := 63) (ty := .int) dX1_settle_63 rfl rfl rfl
def lp_X6_pass_66 (R57 : Int32 → Int32 → Int32 → Int32 → Hst → Option ((Int32 × Hst) ⊕ (Nat × Hst))) : Nat → Int32 → Int32 → Int32 → Int32 → Int32 → Hst → Option ((Int32 × Hst) ⊕ (Nat × Hst))
  | 0, _, _, _, _, _, _ => none
  | n + 1, a1, a2, a3, a4, a5, h =>
    (if 5 ≤ a5 then
      (R57 a1 a2 a3 (a4 + 1) h)
    else
      gb (f_X1_settle a4 a5 a1 h) fun x2 h1 =>
      gl (a2 + x2) fun x3 =>
      ((lp_X6_pass_66 R57 n) a1 x3 a3 a4 (a5 + 1) h1))
def lp_X6_pass_57 : Nat → Int32 → Int32 → Int32 → Int32 → Hst → Option ((Int32 × Hst) ⊕ (Nat × Hst))
  | 0, _, _, _, _, _ => none
  | n + 1, a1, a2, a3, a4, h =>
    (if a3 ≤ a4 then
      (some (.inl (a2, h)))
    else
      (lp_X6_pass_66 (lp_X6_pass_57 n) FU a1 a2 a3 a4 0 h))
def f_X6_pass (p0 : Int32) (h : Hst) : Option ((Int32 × Hst) ⊕ (Nat × Hst)) :=
  gb (f_X6_isOutside p0 1 100 h) fun x2 h1 =>
  (if x2 = 0 then
    gbv (f_X0_save h1) fun h3 =>
    gbv (f_X3_add_7 6 p0 h3) fun h4 =>
    gb (f_X3_get_7 2 h4) fun x6 h5 =>
    (lp_X6_pass_57 FU p0 0 x6 0 h5)
  else
    (some (.inr (1, h1))))
set_option maxRecDepth 20000 in
theorem glp_X6_pass_66 (γ : Gv) (R57 : Int32 → Int32 → Int32 → Int32 → Hst → Option ((Int32 × Hst) ⊕ (Nat × Hst))) (hR57 : ∀ (a1 : Int32) (a2 : Int32) (a3 : Int32) (a4 : Int32) (h : Hst), G γ RX6 cX6_pass 6 (some .int) [] vIX 6 0 57 [(0, .ref (gad γ 0)), (1, .int a1), (2, .int a2), (3, .int a3), (4, .int a4)] [] h (R57 a1 a2 a3 a4 h)) : ∀ (n : Nat) (a1 : Int32) (a2 : Int32) (a3 : Int32) (a4 : Int32) (a5 : Int32) (h : Hst), G γ RX6 cX6_pass 6 (some .int) [] vIX 6 0 66 [(0, .ref (gad γ 0)), (1, .int a1), (2, .int a2), (3, .int a3), (4, .int a4), (5, .int a5)] [] h (lp_X6_pass_66 R57 n a1 a2 a3 a4 a5 h) := by
  intro n
  induction n with
  | zero => intro a1 a2 a3 a4 a5 h; exact g_none
  | succ n ih =>
    intro a1 a2 a3 a4 a5 h
    rw [lp_X6_pass_66]
    refine g_iload (pc := 66) dX6_pass_66 5 rfl ?_
    refine g_iconst (pc := 68) (v := 5) dX6_pass_68 (by decide) ?_
    refine g_icmp_ge (pc := 69) (tgt := 93) dX6_pass_69 (by decide) ?_ ?_
    · refine g_iinc (pc := 93) (q := 4) (v := a4 + 1) (lv' := [(4, .int (a4 + 1)), (0, .ref (gad γ 0)), (1, .int a1), (2, .int a2), (3, .int a3), (5, .int a5)]) dX6_pass_93 rfl rfl (by decide) rfl ?_
      refine g_goto (pc := 96) (tgt := 57) dX6_pass_96 (by decide) ?_
      exact g_sub [1, 2, 3, 4, 0] rfl (hR57 a1 a2 a3 (a4 + 1) h)
    · refine g_iload_n (pc := 72) dX6_pass_72 rfl 2 rfl ?_
      refine g_aload_n (pc := 73) dX6_pass_73 rfl 0 rfl ?_
      refine gf_RX6_21_0 (pc := 74) dX6_pass_74 ?_
      refine g_iload (pc := 77) dX6_pass_77 4 rfl ?_
      refine g_iload (pc := 79) dX6_pass_79 5 rfl ?_
      refine g_iload_n (pc := 81) dX6_pass_81 rfl 1 rfl ?_
      refine g_cI (pc := 82) (st := [.int a2]) (fun r hr => gRunV (As := [.int a4, .int a5, .int a1]) 10 (ge_X1_settle γ a4 a5 a1 h) hr wv_RX6_230 rfl (Nat.le_of_ble_eq_true rfl) (gat_10 _ _) rfl rfl (Nat.le_of_ble_eq_true rfl) (Nat.le_of_ble_eq_true rfl) dX6_pass_82) (fun x2 h1 => ?_)
      refine g_iadd (pc := 85) dX6_pass_85 ?_
      refine g_nmi (fun x3 => ?_)
      refine g_istore_n (pc := 86) (lv' := [(2, .int x3), (0, .ref (gad γ 0)), (1, .int a1), (3, .int a3), (4, .int a4), (5, .int a5)]) dX6_pass_86 rfl (by decide) rfl ?_
      refine g_iinc (pc := 87) (q := 5) (v := a5 + 1) (lv' := [(5, .int (a5 + 1)), (2, .int x3), (0, .ref (gad γ 0)), (1, .int a1), (3, .int a3), (4, .int a4)]) dX6_pass_87 rfl rfl (by decide) rfl ?_
      refine g_goto (pc := 90) (tgt := 66) dX6_pass_90 (by decide) ?_
      exact g_sub [2, 3, 1, 4, 5, 0] rfl (ih a1 x3 a3 a4 (a5 + 1) h1)
set_option maxRecDepth 20000 in
theorem glp_X6_pass_57 (γ : Gv)  : ∀ (n : Nat) (a1 : Int32) (a2 : Int32) (a3 : Int32) (a4 : Int32) (h : Hst), G γ RX6 cX6_pass 6 (some .int) [] vIX 6 0 57 [(0, .ref (gad γ 0)), (1, .int a1), (2, .int a2), (3, .int a3), (4, .int a4)] [] h (lp_X6_pass_57 n a1 a2 a3 a4 h) := by
  intro n
  induction n with
  | zero => intro a1 a2 a3 a4 h; exact g_none
  | succ n ih =>
    intro a1 a2 a3 a4 h
    rw [lp_X6_pass_57]
    refine g_iload (pc := 57) dX6_pass_57 4 rfl ?_
    refine g_iload_n (pc := 59) dX6_pass_59 rfl 3 rfl ?_
    refine g_icmp_ge (pc := 60) (tgt := 99) dX6_pass_60 (by decide) ?_ ?_
    · refine g_iload_n (pc := 99) dX6_pass_99 rfl 2 rfl ?_
      exact g_ireturn (pc := 100) (ty := .int) dX6_pass_100 rfl rfl rfl
    · refine g_iconst (pc := 63) (v := 0) dX6_pass_63 (by decide) ?_
      refine g_istore (pc := 64) (lv' := [(5, .int 0), (0, .ref (gad γ 0)), (1, .int a1), (2, .int a2), (3, .int a3), (4, .int a4)]) dX6_pass_64 (by decide) rfl ?_
      exact g_sub [1, 2, 3, 4, 5, 0] rfl (glp_X6_pass_66 γ (lp_X6_pass_57 n) ih FU a1 a2 a3 a4 0 h)
set_option maxRecDepth 20000 in
theorem ge_X6_pass (γ : Gv) (p0 : Int32) (h : Hst) : G γ RX6 cX6_pass 6 (some .int) [] vIX 6 0 0 (lv_args 0 [.ref (gad γ 0), .int p0]) [] h (f_X6_pass p0 h) := by
  show G γ RX6 cX6_pass 6 (some .int) [] vIX 6 0 0 [(0, .ref (gad γ 0)), (1, .int p0)] [] h (f_X6_pass p0 h)
  unfold f_X6_pass
  refine g_iload_n (pc := 0) dX6_pass_0 rfl 1 rfl ?_
  refine g_iconst (pc := 1) (v := 1) dX6_pass_1 (by decide) ?_
  refine g_bipush (pc := 2) (v := 100) dX6_pass_2 (by decide) ?_
  refine g_cI (pc := 4) (st := []) (fun r hr => gRunS (As := [.int p0, .int 1, .int 100]) (ge_X6_isOutside γ p0 1 100 h) hr wv_RX6_79 rfl (Nat.le_of_ble_eq_true rfl) rfl (Nat.le_of_ble_eq_true rfl) (Nat.le_of_ble_eq_true rfl) dX6_pass_4) (fun x2 h1 => ?_)
  refine g_if_eq (pc := 7) (tgt := 20) dX6_pass_7 (by decide) ?_ ?_
  · refine g_aload_n (pc := 20) dX6_pass_20 rfl 0 rfl ?_
    refine gf_RX6_12_0 (pc := 21) dX6_pass_21 ?_
    refine g_cV (pc := 24) (st := []) (fun r hr => gRunV (As := []) 1 (ge_X0_save γ h1) hr wv_RX6_64 rfl (Nat.le_of_ble_eq_true rfl) (gat_1 _ _) rfl rfl (Nat.le_of_ble_eq_true rfl) (Nat.le_of_ble_eq_true rfl) dX6_pass_24) (fun h3 => ?_)
    refine g_aload_n (pc := 27) dX6_pass_27 rfl 0 rfl ?_
    refine gf_RX6_12_0 (pc := 28) dX6_pass_28 ?_
    refine gf_RX6_47_1 (pc := 31) dX6_pass_31 ?_
    refine g_bipush (pc := 34) (v := 6) dX6_pass_34 (by decide) ?_
    refine g_iload_n (pc := 36) dX6_pass_36 rfl 1 rfl ?_
    refine g_cV (pc := 37) (st := []) (fun r hr => gRunV (As := [.int 6, .int p0]) 7 (ge_X3_add_7 γ 6 p0 h3) hr wv_RX6_67 rfl (Nat.le_of_ble_eq_true rfl) (gat_7 _ _) rfl rfl (Nat.le_of_ble_eq_true rfl) (Nat.le_of_ble_eq_true rfl) dX6_pass_37) (fun h4 => ?_)
    refine g_iconst (pc := 40) (v := 0) dX6_pass_40 (by decide) ?_
    refine g_istore_n (pc := 41) (lv' := [(2, .int 0), (0, .ref (gad γ 0)), (1, .int p0)]) dX6_pass_41 rfl (by decide) rfl ?_
    refine g_aload_n (pc := 42) dX6_pass_42 rfl 1 rfl ?_
    refine gf_RX6_12_0 (pc := 43) dX6_pass_43 ?_
    refine gf_RX6_47_1 (pc := 46) dX6_pass_46 ?_
    refine g_iconst (pc := 49) (v := 2) dX6_pass_49 (by decide) ?_
    refine g_cI (pc := 50) (st := []) (fun r hr => gRunV (As := [.int 2]) 7 (ge_X3_get_7 γ 2 h4) hr wv_RX6_51 rfl (Nat.le_of_ble_eq_true rfl) (gat_7 _ _) rfl rfl (Nat.le_of_ble_eq_true rfl) (Nat.le_of_ble_eq_true rfl) dX6_pass_50) (fun x6 h5 => ?_)
    refine g_istore_n (pc := 53) (lv' := [(3, .int x6), (2, .int 0), (0, .ref (gad γ 0)), (1, .int p0)]) dX6_pass_53 rfl (by decide) rfl ?_
    refine g_iconst (pc := 54) (v := 0) dX6_pass_54 (by decide) ?_
    refine g_istore (pc := 55) (lv' := [(4, .int 0), (3, .int x6), (2, .int 0), (0, .ref (gad γ 0)), (1, .int p0)]) dX6_pass_55 (by decide) rfl ?_
    exact g_sub [3, 4, 2, 1, 0] rfl (glp_X6_pass_57 γ FU p0 0 x6 0 h5)
  · exact g_throwS 1 (by decide +kernel) wcl_RX6_83 wini_1 wat_RX6_87_1 rfl (by decide +kernel : (228, "the days are not 1 to 100") ∈ gstrs) (Nat.le_of_ble_eq_true rfl) (fun x hx => nomatch hx) dX6_pass_10 dX6_pass_13 dX6_pass_14 dX6_pass_16 dX6_pass_19 (fun z hz => by cases hz; rfl)
def jb_X6_append_40   (h : Hst) : Option ((Int32 × Hst) ⊕ (Nat × Hst)) :=
  (some (.inr (2, h)))
def f_X6_append (p0 : Int32) (h : Hst) : Option ((Int32 × Hst) ⊕ (Nat × Hst)) :=
  gb (f_X6_isOutside p0 33 126 h) fun x2 h1 =>
  (if x2 = 0 then
    (if (h1.1 0 5) < 0 then
      (jb_X6_append_40 h1)
    else
      (if (h1.1 0 5) < 60 then
        gck (h1.1 0 5) 60 (gl (hst h1 16 (h1.1 0 5).toNatClampNeg p0) fun h3 =>
        gl (hst h3 0 5 ((h3.1 0 5) + 1)) fun h4 =>
        (some (.inl (h4.1 0 5, h4))))
      else
        (jb_X6_append_40 h1)))
  else
    (some (.inr (1, h1))))
set_option maxRecDepth 20000 in
theorem gjb_X6_append_40 (γ : Gv)   (h : Hst) : G γ RX6 cX6_append 2 (some .int) [] vIX 6 0 40 [] [] h (jb_X6_append_40 h) := by
  unfold jb_X6_append_40
  exact g_throwS 2 (by decide +kernel) wcl_RX6_57 wini_2 wat_RX6_61_2 rfl (by decide +kernel : (236, "the buffer has 60 characters") ∈ gstrs) (Nat.le_of_ble_eq_true rfl) (fun x hx => nomatch hx) dX6_append_40 dX6_append_43 dX6_append_44 dX6_append_46 dX6_append_49 (fun z hz => by cases hz; rfl)
set_option maxRecDepth 20000 in
theorem ge_X6_append (γ : Gv) (p0 : Int32) (h : Hst) : G γ RX6 cX6_append 2 (some .int) [] vIX 6 0 0 (lv_args 0 [.ref (gad γ 0), .int p0]) [] h (f_X6_append p0 h) := by
  show G γ RX6 cX6_append 2 (some .int) [] vIX 6 0 0 [(0, .ref (gad γ 0)), (1, .int p0)] [] h (f_X6_append p0 h)
  unfold f_X6_append
  refine g_iload_n (pc := 0) dX6_append_0 rfl 1 rfl ?_
  refine g_bipush (pc := 1) (v := 33) dX6_append_1 (by decide) ?_
  refine g_bipush (pc := 3) (v := 126) dX6_append_3 (by decide) ?_
  refine g_cI (pc := 5) (st := []) (fun r hr => gRunS (As := [.int p0, .int 33, .int 126]) (ge_X6_isOutside γ p0 33 126 h) hr wv_RX6_79 rfl (Nat.le_of_ble_eq_true rfl) rfl (Nat.le_of_ble_eq_true rfl) (Nat.le_of_ble_eq_true rfl) dX6_append_5) (fun x2 h1 => ?_)
  refine g_if_eq (pc := 8) (tgt := 21) dX6_append_8 (by decide) ?_ ?_
  · refine g_aload_n (pc := 21) dX6_append_21 rfl 0 rfl ?_
    refine gf_RX6_43_0 (pc := 22) dX6_append_22 ?_
    refine g_if_lt (pc := 25) (tgt := 40) dX6_append_25 (by decide) ?_ ?_
    · exact g_sub [] rfl (gjb_X6_append_40 γ h1)
    · refine g_aload_n (pc := 28) dX6_append_28 rfl 0 rfl ?_
      refine gf_RX6_43_0 (pc := 29) dX6_append_29 ?_
      refine g_aload_n (pc := 32) dX6_append_32 rfl 0 rfl ?_
      refine gf_RX6_39_0 (pc := 33) dX6_append_33 ?_
      refine g_alen (pc := 36) (n := 0) (v := 60) 16 0 (gat_16 _ _) rfl rfl dX6_append_36 ?_
      refine g_icmp_lt (pc := 37) (tgt := 50) dX6_append_37 (by decide) ?_ ?_
      · refine g_aload_n (pc := 50) dX6_append_50 rfl 0 rfl ?_
        refine gf_RX6_39_0 (pc := 51) dX6_append_51 ?_
        refine g_aload_n (pc := 54) dX6_append_54 rfl 0 rfl ?_
        refine gf_RX6_43_0 (pc := 55) dX6_append_55 ?_
        refine g_iload_n (pc := 58) dX6_append_58 rfl 1 rfl ?_
        refine g_iast (pc := 59) 16 (gat_16 _ _) (gset_16 _ _ _) dX6_append_59 ?_
        refine g_nmh (fun h3 => ?_)
        refine g_aload_n (pc := 60) dX6_append_60 rfl 0 rfl ?_
        refine g_dup (pc := 61) dX6_append_61 rfl ?_
        refine gf_RX6_43_0 (pc := 62) dX6_append_62 ?_
        refine g_iconst (pc := 65) (v := 1) dX6_append_65 (by decide) ?_
        refine g_iadd (pc := 66) dX6_append_66 ?_
        refine pf_RX6_43_0 (pc := 67) dX6_append_67 ?_
        refine g_nmh (fun h4 => ?_)
        refine g_aload_n (pc := 70) dX6_append_70 rfl 0 rfl ?_
        refine gf_RX6_43_0 (pc := 71) dX6_append_71 ?_
        exact g_ireturn (pc := 74) (ty := .int) dX6_append_74 rfl rfl rfl
      · exact g_sub [] rfl (gjb_X6_append_40 γ h1)
  · exact g_throwS 1 (by decide +kernel) wcl_RX6_83 wini_1 wat_RX6_87_1 rfl (by decide +kernel : (234, "the code is not 33 to 126") ∈ gstrs) (Nat.le_of_ble_eq_true rfl) (fun x hx => nomatch hx) dX6_append_11 dX6_append_14 dX6_append_15 dX6_append_17 dX6_append_20 (fun z hz => by cases hz; rfl)
def f_X6_clearBuffer  (h : Hst) : Option (Int32 × Hst) :=
  gl (h.1 0 5) fun x1 =>
  gl (hst h 0 5 0) fun h2 =>
  (some (x1, h2))
set_option maxRecDepth 20000 in
theorem ge_X6_clearBuffer (γ : Gv)  (h : Hst) : G γ RX6 cX6_clearBuffer 2 (some .int) [] vI 0 0 0 (lv_args 0 [.ref (gad γ 0)]) [] h (f_X6_clearBuffer h) := by
  show G γ RX6 cX6_clearBuffer 2 (some .int) [] vI 0 0 0 [(0, .ref (gad γ 0))] [] h (f_X6_clearBuffer h)
  unfold f_X6_clearBuffer
  refine g_aload_n (pc := 0) dX6_clearBuffer_0 rfl 0 rfl ?_
  refine gf_RX6_43_0 (pc := 1) dX6_clearBuffer_1 ?_
  refine g_nmi (fun x1 => ?_)
  refine g_istore_n (pc := 4) (lv' := [(1, .int x1), (0, .ref (gad γ 0))]) dX6_clearBuffer_4 rfl (by decide) rfl ?_
  refine g_aload_n (pc := 5) dX6_clearBuffer_5 rfl 1 rfl ?_
  refine g_iconst (pc := 6) (v := 0) dX6_clearBuffer_6 (by decide) ?_
  refine pf_RX6_43_0 (pc := 7) dX6_clearBuffer_7 ?_
  refine g_nmh (fun h2 => ?_)
  refine g_iload_n (pc := 10) dX6_clearBuffer_10 rfl 0 rfl ?_
  exact g_ireturn (pc := 11) (ty := .int) dX6_clearBuffer_11 rfl rfl rfl
def f_X4_restart  (h : Hst) : Option (Hst) :=
  gl (hst h 15 0 0) fun h1 =>
  (some h1)
set_option maxRecDepth 20000 in
theorem ge_X4_restart (γ : Gv)  (h : Hst) : G γ RX4 cX4_restart 1 none [] vV 0 0 0 (lv_args 0 [.ref (gad γ 15)]) [] h (f_X4_restart h) := by
  show G γ RX4 cX4_restart 1 none [] vV 0 0 0 [(0, .ref (gad γ 15))] [] h (f_X4_restart h)
  unfold f_X4_restart
  refine g_aload_n (pc := 0) dX4_restart_0 rfl 0 rfl ?_
  refine g_iconst (pc := 1) (v := 0) dX4_restart_1 (by decide) ?_
  refine pf_RX4_11_15 (pc := 2) dX4_restart_2 ?_
  refine g_nmh (fun h1 => ?_)
  exact g_return (pc := 5) dX4_restart_5 rfl rfl
def jb_X6_codeAt_23  (s0 : Int32) (h : Hst) : Option (Int32 × Hst) :=
  (some (s0, h))
def jb_X6_codeAt_22   (h : Hst) : Option (Int32 × Hst) :=
  (jb_X6_codeAt_23 0 h)
def f_X6_codeAt (p0 : Int32) (h : Hst) : Option (Int32 × Hst) :=
  (if p0 < 0 then
    (jb_X6_codeAt_22 h)
  else
    (if 60 ≤ p0 then
      (jb_X6_codeAt_22 h)
    else
      gck p0 60 ((jb_X6_codeAt_23 (h.1 16 p0.toNatClampNeg) h))))
set_option maxRecDepth 20000 in
theorem gjb_X6_codeAt_23 (γ : Gv)  (s0 : Int32) (h : Hst) : G γ RX6 cX6_codeAt 2 (some .int) [] vI 0 0 23 [] [.int s0] h (jb_X6_codeAt_23 s0 h) := by
  unfold jb_X6_codeAt_23
  exact g_ireturn (pc := 23) (ty := .int) dX6_codeAt_23 rfl rfl rfl
set_option maxRecDepth 20000 in
theorem gjb_X6_codeAt_22 (γ : Gv)   (h : Hst) : G γ RX6 cX6_codeAt 2 (some .int) [] vI 0 0 22 [] [] h (jb_X6_codeAt_22 h) := by
  unfold jb_X6_codeAt_22
  refine g_iconst (pc := 22) (v := 0) dX6_codeAt_22 (by decide) ?_
  exact gjb_X6_codeAt_23 γ 0 h
set_option maxRecDepth 20000 in
theorem ge_X6_codeAt (γ : Gv) (p0 : Int32) (h : Hst) : G γ RX6 cX6_codeAt 2 (some .int) [] vI 0 0 0 (lv_args 0 [.ref (gad γ 0), .int p0]) [] h (f_X6_codeAt p0 h) := by
  show G γ RX6 cX6_codeAt 2 (some .int) [] vI 0 0 0 [(0, .ref (gad γ 0)), (1, .int p0)] [] h (f_X6_codeAt p0 h)
  unfold f_X6_codeAt
  refine g_iload_n (pc := 0) dX6_codeAt_0 rfl 1 rfl ?_
  refine g_if_lt (pc := 1) (tgt := 22) dX6_codeAt_1 (by decide) ?_ ?_
  · exact g_sub [] rfl (gjb_X6_codeAt_22 γ h)
  · refine g_iload_n (pc := 4) dX6_codeAt_4 rfl 1 rfl ?_
    refine g_aload_n (pc := 5) dX6_codeAt_5 rfl 0 rfl ?_
    refine gf_RX6_39_0 (pc := 6) dX6_codeAt_6 ?_
    refine g_alen (pc := 9) (n := 0) (v := 60) 16 0 (gat_16 _ _) rfl rfl dX6_codeAt_9 ?_
    refine g_icmp_ge (pc := 10) (tgt := 22) dX6_codeAt_10 (by decide) ?_ ?_
    · exact g_sub [] rfl (gjb_X6_codeAt_22 γ h)
    · refine g_aload_n (pc := 13) dX6_codeAt_13 rfl 0 rfl ?_
      refine gf_RX6_39_0 (pc := 14) dX6_codeAt_14 ?_
      refine g_iload_n (pc := 17) dX6_codeAt_17 rfl 1 rfl ?_
      refine g_iald (pc := 18) 16 (gat_16 _ _) dX6_codeAt_18 ?_
      refine g_goto (pc := 19) (tgt := 23) dX6_codeAt_19 (by decide) ?_
      exact g_sub [] rfl (gjb_X6_codeAt_23 γ (h.1 16 p0.toNatClampNeg) h)
def jb_X4_numberStands_34  (s0 : Int32) (h : Hst) : Option (Int32 × Hst) :=
  (gzr s0 (some (s0, h)))
def jb_X4_numberStands_33   (h : Hst) : Option (Int32 × Hst) :=
  (jb_X4_numberStands_34 0 h)
def f_X4_numberStands  (h : Hst) : Option (Int32 × Hst) :=
  (if (h.1 15 4) = 0 then
    (jb_X4_numberStands_33 h)
  else
    (if (h.1 15 3) < (h.1 15 1) then
      (jb_X4_numberStands_33 h)
    else
      (if (h.1 15 2) < (h.1 15 3) then
        (jb_X4_numberStands_33 h)
      else
        (jb_X4_numberStands_34 1 h))))
set_option maxRecDepth 20000 in
theorem gjb_X4_numberStands_34 (γ : Gv)  (s0 : Int32) (h : Hst) : G γ RX4 cX4_numberStands 1 (some .boolean) [] vI 0 0 34 [] [.int s0] h (jb_X4_numberStands_34 s0 h) := by
  unfold jb_X4_numberStands_34
  exact g_zreturn (pc := 34) dX4_numberStands_34 rfl rfl
set_option maxRecDepth 20000 in
theorem gjb_X4_numberStands_33 (γ : Gv)   (h : Hst) : G γ RX4 cX4_numberStands 1 (some .boolean) [] vI 0 0 33 [] [] h (jb_X4_numberStands_33 h) := by
  unfold jb_X4_numberStands_33
  refine g_iconst (pc := 33) (v := 0) dX4_numberStands_33 (by decide) ?_
  exact gjb_X4_numberStands_34 γ 0 h
set_option maxRecDepth 20000 in
theorem ge_X4_numberStands (γ : Gv)  (h : Hst) : G γ RX4 cX4_numberStands 1 (some .boolean) [] vI 0 0 0 (lv_args 0 [.ref (gad γ 15)]) [] h (f_X4_numberStands h) := by
  show G γ RX4 cX4_numberStands 1 (some .boolean) [] vI 0 0 0 [(0, .ref (gad γ 15))] [] h (f_X4_numberStands h)
  unfold f_X4_numberStands
  refine g_aload_n (pc := 0) dX4_numberStands_0 rfl 0 rfl ?_
  refine gf_RX4_51_15 (pc := 1) dX4_numberStands_1 ?_
  refine g_if_eq (pc := 4) (tgt := 33) dX4_numberStands_4 (by decide) ?_ ?_
  · exact g_sub [] rfl (gjb_X4_numberStands_33 γ h)
  · refine g_aload_n (pc := 7) dX4_numberStands_7 rfl 0 rfl ?_
    refine gf_RX4_35_15 (pc := 8) dX4_numberStands_8 ?_
    refine g_aload_n (pc := 11) dX4_numberStands_11 rfl 0 rfl ?_
    refine gf_RX4_61_15 (pc := 12) dX4_numberStands_12 ?_
    refine g_icmp_lt (pc := 15) (tgt := 33) dX4_numberStands_15 (by decide) ?_ ?_
    · exact g_sub [] rfl (gjb_X4_numberStands_33 γ h)
    · refine g_aload_n (pc := 18) dX4_numberStands_18 rfl 0 rfl ?_
      refine gf_RX4_35_15 (pc := 19) dX4_numberStands_19 ?_
      refine g_aload_n (pc := 22) dX4_numberStands_22 rfl 0 rfl ?_
      refine gf_RX4_64_15 (pc := 23) dX4_numberStands_23 ?_
      refine g_icmp_gt (pc := 26) (tgt := 33) dX4_numberStands_26 (by decide) ?_ ?_
      · exact g_sub [] rfl (gjb_X4_numberStands_33 γ h)
      · refine g_iconst (pc := 29) (v := 1) dX4_numberStands_29 (by decide) ?_
        refine g_goto (pc := 30) (tgt := 34) dX4_numberStands_30 (by decide) ?_
        exact g_sub [] rfl (gjb_X4_numberStands_34 γ 1 h)
def f_X4_beginNumber (p0 : Int32) (p1 : Int32) (p2 : Int32) (h : Hst) : Option (Hst) :=
  gl (hst h 15 0 p0) fun h1 =>
  gl (hst h1 15 1 p1) fun h2 =>
  gl (hst h2 15 2 p2) fun h3 =>
  gl (hst h3 15 3 0) fun h4 =>
  gl (hst h4 15 4 0) fun h5 =>
  (some h5)
set_option maxRecDepth 20000 in
theorem ge_X4_beginNumber (γ : Gv) (p0 : Int32) (p1 : Int32) (p2 : Int32) (h : Hst) : G γ RX4 cX4_beginNumber 4 none [] vV 0 0 0 (lv_args 0 [.ref (gad γ 15), .int p0, .int p1, .int p2]) [] h (f_X4_beginNumber p0 p1 p2 h) := by
  show G γ RX4 cX4_beginNumber 4 none [] vV 0 0 0 [(0, .ref (gad γ 15)), (1, .int p0), (2, .int p1), (3, .int p2)] [] h (f_X4_beginNumber p0 p1 p2 h)
  unfold f_X4_beginNumber
  refine g_aload_n (pc := 0) dX4_beginNumber_0 rfl 0 rfl ?_
  refine g_iload_n (pc := 1) dX4_beginNumber_1 rfl 1 rfl ?_
  refine pf_RX4_11_15 (pc := 2) dX4_beginNumber_2 ?_
  refine g_nmh (fun h1 => ?_)
  refine g_aload_n (pc := 5) dX4_beginNumber_5 rfl 0 rfl ?_
  refine g_iload_n (pc := 6) dX4_beginNumber_6 rfl 2 rfl ?_
  refine pf_RX4_61_15 (pc := 7) dX4_beginNumber_7 ?_
  refine g_nmh (fun h2 => ?_)
  refine g_aload_n (pc := 10) dX4_beginNumber_10 rfl 0 rfl ?_
  refine g_iload_n (pc := 11) dX4_beginNumber_11 rfl 3 rfl ?_
  refine pf_RX4_64_15 (pc := 12) dX4_beginNumber_12 ?_
  refine g_nmh (fun h3 => ?_)
  refine g_aload_n (pc := 15) dX4_beginNumber_15 rfl 0 rfl ?_
  refine g_iconst (pc := 16) (v := 0) dX4_beginNumber_16 (by decide) ?_
  refine pf_RX4_35_15 (pc := 17) dX4_beginNumber_17 ?_
  refine g_nmh (fun h4 => ?_)
  refine g_aload_n (pc := 20) dX4_beginNumber_20 rfl 0 rfl ?_
  refine g_iconst (pc := 21) (v := 0) dX4_beginNumber_21 (by decide) ?_
  refine pf_RX4_51_15 (pc := 22) rfl rfl dX4_beginNumber_22 ?_
  refine g_nmh (fun h5 => ?_)
  exact g_return (pc := 25) dX4_beginNumber_25 rfl rfl
def jb_X4_readsSign_88   (h : Hst) : Option (Int32 × Hst) :=
  (gzr 0 (some (0, h)))
def jb_X4_readsSign_67  (a1 : Int32) (h : Hst) : Option (Int32 × Hst) :=
  (if (h.1 15 0) = 2 then
    (jb_X4_readsSign_88 h)
  else
    (if a1 = 59 then
      gl (hst h 15 0 0) fun h1 =>
      (gzr 1 (some (1, h1)))
    else
      (jb_X4_readsSign_88 h)))
def jb_X4_readsSign_32  (a1 : Int32) (h : Hst) : Option (Int32 × Hst) :=
  (if (h.1 15 0) = 3 then
    (if a1 = 42 then
      gl (hst h 15 8 (h.1 15 3)) fun h1 =>
      gbv (f_X4_beginNumber 4 500 1500 h1) fun h2 =>
      (gzr 1 (some (1, h2)))
    else
      (jb_X4_readsSign_67 a1 h))
  else
    (jb_X4_readsSign_67 a1 h))
def f_X4_readsSign (p0 : Int32) (h : Hst) : Option (Int32 × Hst) :=
  (if (h.1 15 0) = 2 then
    (if p0 = 47 then
      gl (hst h 15 7 (h.1 15 3)) fun h1 =>
      gbv (f_X4_beginNumber 3 0 50 h1) fun h2 =>
      (gzr 1 (some (1, h2)))
    else
      (jb_X4_readsSign_32 p0 h))
  else
    (jb_X4_readsSign_32 p0 h))
set_option maxRecDepth 20000 in
theorem gjb_X4_readsSign_88 (γ : Gv)   (h : Hst) : G γ RX4 cX4_readsSign 2 (some .boolean) [] vI 1 0 88 [] [] h (jb_X4_readsSign_88 h) := by
  unfold jb_X4_readsSign_88
  refine g_iconst (pc := 88) (v := 0) dX4_readsSign_88 (by decide) ?_
  exact g_zreturn (pc := 89) dX4_readsSign_89 rfl rfl
set_option maxRecDepth 20000 in
theorem gjb_X4_readsSign_67 (γ : Gv)  (a1 : Int32) (h : Hst) : G γ RX4 cX4_readsSign 2 (some .boolean) [] vI 1 0 67 [(0, .ref (gad γ 15)), (1, .int a1)] [] h (jb_X4_readsSign_67 a1 h) := by
  unfold jb_X4_readsSign_67
  refine g_aload_n (pc := 67) dX4_readsSign_67 rfl 0 rfl ?_
  refine gf_RX4_11_15 (pc := 68) dX4_readsSign_68 ?_
  refine g_iconst (pc := 71) (v := 2) dX4_readsSign_71 (by decide) ?_
  refine g_icmp_eq (pc := 72) (tgt := 88) dX4_readsSign_72 (by decide) ?_ ?_
  · exact g_sub [] rfl (gjb_X4_readsSign_88 γ h)
  · refine g_iload_n (pc := 75) dX4_readsSign_75 rfl 1 rfl ?_
    refine g_bipush (pc := 76) (v := 59) dX4_readsSign_76 (by decide) ?_
    refine g_icmp_ne (pc := 78) (tgt := 88) dX4_readsSign_78 (by decide) ?_ ?_
    · exact g_sub [] rfl (gjb_X4_readsSign_88 γ h)
    · refine g_aload_n (pc := 81) dX4_readsSign_81 rfl 0 rfl ?_
      refine g_iconst (pc := 82) (v := 0) dX4_readsSign_82 (by decide) ?_
      refine pf_RX4_11_15 (pc := 83) dX4_readsSign_83 ?_
      refine g_nmh (fun h1 => ?_)
      refine g_iconst (pc := 86) (v := 1) dX4_readsSign_86 (by decide) ?_
      exact g_zreturn (pc := 87) dX4_readsSign_87 rfl rfl
set_option maxRecDepth 20000 in
theorem gjb_X4_readsSign_32 (γ : Gv)  (a1 : Int32) (h : Hst) : G γ RX4 cX4_readsSign 2 (some .boolean) [] vI 1 0 32 [(0, .ref (gad γ 15)), (1, .int a1)] [] h (jb_X4_readsSign_32 a1 h) := by
  unfold jb_X4_readsSign_32
  refine g_aload_n (pc := 32) dX4_readsSign_32 rfl 0 rfl ?_
  refine gf_RX4_11_15 (pc := 33) dX4_readsSign_33 ?_
  refine g_iconst (pc := 36) (v := 3) dX4_readsSign_36 (by decide) ?_
  refine g_icmp_ne (pc := 37) (tgt := 67) dX4_readsSign_37 (by decide) ?_ ?_
  · exact gjb_X4_readsSign_67 γ a1 h
  · refine g_iload_n (pc := 40) dX4_readsSign_40 rfl 1 rfl ?_
    refine g_bipush (pc := 41) (v := 42) dX4_readsSign_41 (by decide) ?_
    refine g_icmp_ne (pc := 43) (tgt := 67) dX4_readsSign_43 (by decide) ?_ ?_
    · exact gjb_X4_readsSign_67 γ a1 h
    · refine g_aload_n (pc := 46) dX4_readsSign_46 rfl 0 rfl ?_
      refine g_aload_n (pc := 47) dX4_readsSign_47 rfl 0 rfl ?_
      refine gf_RX4_35_15 (pc := 48) dX4_readsSign_48 ?_
      refine pf_RX4_32_15 (pc := 51) dX4_readsSign_51 ?_
      refine g_nmh (fun h1 => ?_)
      refine g_aload_n (pc := 54) dX4_readsSign_54 rfl 0 rfl ?_
      refine g_iconst (pc := 55) (v := 4) dX4_readsSign_55 (by decide) ?_
      refine g_sipush (pc := 56) (v := 500) dX4_readsSign_56 (by decide) ?_
      refine g_sipush (pc := 59) (v := 1500) dX4_readsSign_59 (by decide) ?_
      refine g_cV (pc := 62) (st := []) (fun r hr => gRunV (As := [.int 4, .int 500, .int 1500]) 15 (ge_X4_beginNumber γ 4 500 1500 h1) hr wv_RX4_44 rfl (Nat.le_of_ble_eq_true rfl) (gat_15 _ _) rfl rfl (Nat.le_of_ble_eq_true rfl) (Nat.le_of_ble_eq_true rfl) dX4_readsSign_62) (fun h2 => ?_)
      refine g_iconst (pc := 65) (v := 1) dX4_readsSign_65 (by decide) ?_
      exact g_zreturn (pc := 66) dX4_readsSign_66 rfl rfl
set_option maxRecDepth 20000 in
theorem ge_X4_readsSign (γ : Gv) (p0 : Int32) (h : Hst) : G γ RX4 cX4_readsSign 2 (some .boolean) [] vI 1 0 0 (lv_args 0 [.ref (gad γ 15), .int p0]) [] h (f_X4_readsSign p0 h) := by
  show G γ RX4 cX4_readsSign 2 (some .boolean) [] vI 1 0 0 [(0, .ref (gad γ 15)), (1, .int p0)] [] h (f_X4_readsSign p0 h)
  unfold f_X4_readsSign
  refine g_aload_n (pc := 0) dX4_readsSign_0 rfl 0 rfl ?_
  refine gf_RX4_11_15 (pc := 1) dX4_readsSign_1 ?_
  refine g_iconst (pc := 4) (v := 2) dX4_readsSign_4 (by decide) ?_
  refine g_icmp_ne (pc := 5) (tgt := 32) dX4_readsSign_5 (by decide) ?_ ?_
  · exact gjb_X4_readsSign_32 γ p0 h
  · refine g_iload_n (pc := 8) dX4_readsSign_8 rfl 1 rfl ?_
    refine g_bipush (pc := 9) (v := 47) dX4_readsSign_9 (by decide) ?_
    refine g_icmp_ne (pc := 11) (tgt := 32) dX4_readsSign_11 (by decide) ?_ ?_
    · exact gjb_X4_readsSign_32 γ p0 h
    · refine g_aload_n (pc := 14) dX4_readsSign_14 rfl 0 rfl ?_
      refine g_aload_n (pc := 15) dX4_readsSign_15 rfl 0 rfl ?_
      refine gf_RX4_35_15 (pc := 16) dX4_readsSign_16 ?_
      refine pf_RX4_58_15 (pc := 19) dX4_readsSign_19 ?_
      refine g_nmh (fun h1 => ?_)
      refine g_aload_n (pc := 22) dX4_readsSign_22 rfl 0 rfl ?_
      refine g_iconst (pc := 23) (v := 3) dX4_readsSign_23 (by decide) ?_
      refine g_iconst (pc := 24) (v := 0) dX4_readsSign_24 (by decide) ?_
      refine g_bipush (pc := 25) (v := 50) dX4_readsSign_25 (by decide) ?_
      refine g_cV (pc := 27) (st := []) (fun r hr => gRunV (As := [.int 3, .int 0, .int 50]) 15 (ge_X4_beginNumber γ 3 0 50 h1) hr wv_RX4_44 rfl (Nat.le_of_ble_eq_true rfl) (gat_15 _ _) rfl rfl (Nat.le_of_ble_eq_true rfl) (Nat.le_of_ble_eq_true rfl) dX4_readsSign_27) (fun h2 => ?_)
      refine g_iconst (pc := 30) (v := 1) dX4_readsSign_30 (by decide) ?_
      exact g_zreturn (pc := 31) dX4_readsSign_31 rfl rfl
def jb_X4_numberCanStand_35 (R12 : Int32 → Int32 → Int32 → Hst → Option (Int32 × Hst)) (a1 : Int32) (a2 : Int32) (a3 : Int32) (h : Hst) : Option (Int32 × Hst) :=
  (if (h.1 15 3) = 0 then
    (gzr 0 (some (0, h)))
  else
    gl (a1 * 10) fun x1 =>
    gl ((a2 * 10) + 9) fun x2 =>
    (R12 x1 x2 (a3 + 1) h))
def lp_X4_numberCanStand_12 : Nat → Int32 → Int32 → Int32 → Hst → Option (Int32 × Hst)
  | 0, _, _, _, _ => none
  | n + 1, a1, a2, a3, h =>
    (if 4 ≤ a3 then
      (gzr 0 (some (0, h)))
    else
      (if (h.1 15 2) < a1 then
        (jb_X4_numberCanStand_35 (lp_X4_numberCanStand_12 n) a1 a2 a3 h)
      else
        (if a2 < (h.1 15 1) then
          (jb_X4_numberCanStand_35 (lp_X4_numberCanStand_12 n) a1 a2 a3 h)
        else
          (gzr 1 (some (1, h))))))
def f_X4_numberCanStand  (h : Hst) : Option (Int32 × Hst) :=
  gl (h.1 15 3) fun x1 =>
  gl (h.1 15 3) fun x2 =>
  (lp_X4_numberCanStand_12 FU x1 x2 0 h)
set_option maxRecDepth 20000 in
theorem gjb_X4_numberCanStand_35 (γ : Gv) (R12 : Int32 → Int32 → Int32 → Hst → Option (Int32 × Hst)) (hR12 : ∀ (a1 : Int32) (a2 : Int32) (a3 : Int32) (h : Hst), G γ RX4 cX4_numberCanStand 4 (some .boolean) [] vI 0 0 12 [(0, .ref (gad γ 15)), (1, .int a1), (2, .int a2), (3, .int a3)] [] h (R12 a1 a2 a3 h)) (a1 : Int32) (a2 : Int32) (a3 : Int32) (h : Hst) : G γ RX4 cX4_numberCanStand 4 (some .boolean) [] vI 0 0 35 [(0, .ref (gad γ 15)), (1, .int a1), (2, .int a2), (3, .int a3)] [] h (jb_X4_numberCanStand_35 R12 a1 a2 a3 h) := by
  unfold jb_X4_numberCanStand_35
  refine g_aload_n (pc := 35) dX4_numberCanStand_35 rfl 0 rfl ?_
  refine gf_RX4_35_15 (pc := 36) dX4_numberCanStand_36 ?_
  refine g_if_ne (pc := 39) (tgt := 44) dX4_numberCanStand_39 (by decide) ?_ ?_
  · refine g_iload_n (pc := 44) dX4_numberCanStand_44 rfl 1 rfl ?_
    refine g_bipush (pc := 45) (v := 10) dX4_numberCanStand_45 (by decide) ?_
    refine g_imul (pc := 47) dX4_numberCanStand_47 ?_
    refine g_nmi (fun x1 => ?_)
    refine g_istore_n (pc := 48) (lv' := [(1, .int x1), (0, .ref (gad γ 15)), (2, .int a2), (3, .int a3)]) dX4_numberCanStand_48 rfl (by decide) rfl ?_
    refine g_iload_n (pc := 49) dX4_numberCanStand_49 rfl 2 rfl ?_
    refine g_bipush (pc := 50) (v := 10) dX4_numberCanStand_50 (by decide) ?_
    refine g_imul (pc := 52) dX4_numberCanStand_52 ?_
    refine g_bipush (pc := 53) (v := 9) dX4_numberCanStand_53 (by decide) ?_
    refine g_iadd (pc := 55) dX4_numberCanStand_55 ?_
    refine g_nmi (fun x2 => ?_)
    refine g_istore_n (pc := 56) (lv' := [(2, .int x2), (1, .int x1), (0, .ref (gad γ 15)), (3, .int a3)]) dX4_numberCanStand_56 rfl (by decide) rfl ?_
    refine g_iinc (pc := 57) (q := 3) (v := a3 + 1) (lv' := [(3, .int (a3 + 1)), (2, .int x2), (1, .int x1), (0, .ref (gad γ 15))]) dX4_numberCanStand_57 rfl rfl (by decide) rfl ?_
    refine g_goto (pc := 60) (tgt := 12) dX4_numberCanStand_60 (by decide) ?_
    exact g_sub [3, 2, 1, 0] rfl (hR12 x1 x2 (a3 + 1) h)
  · refine g_iconst (pc := 42) (v := 0) dX4_numberCanStand_42 (by decide) ?_
    exact g_zreturn (pc := 43) dX4_numberCanStand_43 rfl rfl
set_option maxRecDepth 20000 in
theorem glp_X4_numberCanStand_12 (γ : Gv)  : ∀ (n : Nat) (a1 : Int32) (a2 : Int32) (a3 : Int32) (h : Hst), G γ RX4 cX4_numberCanStand 4 (some .boolean) [] vI 0 0 12 [(0, .ref (gad γ 15)), (1, .int a1), (2, .int a2), (3, .int a3)] [] h (lp_X4_numberCanStand_12 n a1 a2 a3 h) := by
  intro n
  induction n with
  | zero => intro a1 a2 a3 h; exact g_none
  | succ n ih =>
    intro a1 a2 a3 h
    rw [lp_X4_numberCanStand_12]
    refine g_iload_n (pc := 12) dX4_numberCanStand_12 rfl 3 rfl ?_
    refine g_iconst (pc := 13) (v := 4) dX4_numberCanStand_13 (by decide) ?_
    refine g_icmp_ge (pc := 14) (tgt := 63) dX4_numberCanStand_14 (by decide) ?_ ?_
    · refine g_iconst (pc := 63) (v := 0) dX4_numberCanStand_63 (by decide) ?_
      exact g_zreturn (pc := 64) dX4_numberCanStand_64 rfl rfl
    · refine g_iload_n (pc := 17) dX4_numberCanStand_17 rfl 1 rfl ?_
      refine g_aload_n (pc := 18) dX4_numberCanStand_18 rfl 0 rfl ?_
      refine gf_RX4_64_15 (pc := 19) dX4_numberCanStand_19 ?_
      refine g_icmp_gt (pc := 22) (tgt := 35) dX4_numberCanStand_22 (by decide) ?_ ?_
      · exact gjb_X4_numberCanStand_35 γ (lp_X4_numberCanStand_12 n) ih a1 a2 a3 h
      · refine g_iload_n (pc := 25) dX4_numberCanStand_25 rfl 2 rfl ?_
        refine g_aload_n (pc := 26) dX4_numberCanStand_26 rfl 0 rfl ?_
        refine gf_RX4_61_15 (pc := 27) dX4_numberCanStand_27 ?_
        refine g_icmp_lt (pc := 30) (tgt := 35) dX4_numberCanStand_30 (by decide) ?_ ?_
        · exact gjb_X4_numberCanStand_35 γ (lp_X4_numberCanStand_12 n) ih a1 a2 a3 h
        · refine g_iconst (pc := 33) (v := 1) dX4_numberCanStand_33 (by decide) ?_
          exact g_zreturn (pc := 34) dX4_numberCanStand_34 rfl rfl
set_option maxRecDepth 20000 in
theorem ge_X4_numberCanStand (γ : Gv)  (h : Hst) : G γ RX4 cX4_numberCanStand 4 (some .boolean) [] vI 0 0 0 (lv_args 0 [.ref (gad γ 15)]) [] h (f_X4_numberCanStand h) := by
  show G γ RX4 cX4_numberCanStand 4 (some .boolean) [] vI 0 0 0 [(0, .ref (gad γ 15))] [] h (f_X4_numberCanStand h)
  unfold f_X4_numberCanStand
  refine g_aload_n (pc := 0) dX4_numberCanStand_0 rfl 0 rfl ?_
  refine gf_RX4_35_15 (pc := 1) dX4_numberCanStand_1 ?_
  refine g_nmi (fun x1 => ?_)
  refine g_istore_n (pc := 4) (lv' := [(1, .int x1), (0, .ref (gad γ 15))]) dX4_numberCanStand_4 rfl (by decide) rfl ?_
  refine g_aload_n (pc := 5) dX4_numberCanStand_5 rfl 1 rfl ?_
  refine gf_RX4_35_15 (pc := 6) dX4_numberCanStand_6 ?_
  refine g_nmi (fun x2 => ?_)
  refine g_istore_n (pc := 9) (lv' := [(2, .int x2), (1, .int x1), (0, .ref (gad γ 15))]) dX4_numberCanStand_9 rfl (by decide) rfl ?_
  refine g_iconst (pc := 10) (v := 0) dX4_numberCanStand_10 (by decide) ?_
  refine g_istore_n (pc := 11) (lv' := [(3, .int 0), (2, .int x2), (1, .int x1), (0, .ref (gad γ 15))]) dX4_numberCanStand_11 rfl (by decide) rfl ?_
  exact g_sub [3, 2, 1, 0] rfl (glp_X4_numberCanStand_12 γ FU x1 x2 0 h)
def jb_X4_readsDigit_16  (a1 : Int32) (h : Hst) : Option (Int32 × Hst) :=
  gl (hst h 15 3 (((h.1 15 3) * 10) + a1)) fun h1 =>
  gl (hst h1 15 4 1) fun h2 =>
  gb (f_X4_numberCanStand h2) fun x4 h3 =>
  (gzr x4 (some (x4, h3)))
def f_X4_readsDigit (p0 : Int32) (h : Hst) : Option (Int32 × Hst) :=
  (if (h.1 15 4) = 0 then
    (jb_X4_readsDigit_16 p0 h)
  else
    (if (h.1 15 3) = 0 then
      (gzr 0 (some (0, h)))
    else
      (jb_X4_readsDigit_16 p0 h)))
set_option maxRecDepth 20000 in
theorem gjb_X4_readsDigit_16 (γ : Gv)  (a1 : Int32) (h : Hst) : G γ RX4 cX4_readsDigit 2 (some .boolean) [] vI 1 0 16 [(0, .ref (gad γ 15)), (1, .int a1)] [] h (jb_X4_readsDigit_16 a1 h) := by
  unfold jb_X4_readsDigit_16
  refine g_aload_n (pc := 16) dX4_readsDigit_16 rfl 0 rfl ?_
  refine g_aload_n (pc := 17) dX4_readsDigit_17 rfl 0 rfl ?_
  refine gf_RX4_35_15 (pc := 18) dX4_readsDigit_18 ?_
  refine g_bipush (pc := 21) (v := 10) dX4_readsDigit_21 (by decide) ?_
  refine g_imul (pc := 23) dX4_readsDigit_23 ?_
  refine g_iload_n (pc := 24) dX4_readsDigit_24 rfl 1 rfl ?_
  refine g_iadd (pc := 25) dX4_readsDigit_25 ?_
  refine pf_RX4_35_15 (pc := 26) dX4_readsDigit_26 ?_
  refine g_nmh (fun h1 => ?_)
  refine g_aload_n (pc := 29) dX4_readsDigit_29 rfl 0 rfl ?_
  refine g_iconst (pc := 30) (v := 1) dX4_readsDigit_30 (by decide) ?_
  refine pf_RX4_51_15 (pc := 31) rfl rfl dX4_readsDigit_31 ?_
  refine g_nmh (fun h2 => ?_)
  refine g_aload_n (pc := 34) dX4_readsDigit_34 rfl 0 rfl ?_
  refine g_cI (pc := 35) (st := []) (fun r hr => gRunV (As := []) 15 (ge_X4_numberCanStand γ h2) hr wv_RX4_55 rfl (Nat.le_of_ble_eq_true rfl) (gat_15 _ _) rfl rfl (Nat.le_of_ble_eq_true rfl) (Nat.le_of_ble_eq_true rfl) dX4_readsDigit_35) (fun x4 h3 => ?_)
  exact g_zreturn (pc := 38) dX4_readsDigit_38 rfl rfl
set_option maxRecDepth 20000 in
theorem ge_X4_readsDigit (γ : Gv) (p0 : Int32) (h : Hst) : G γ RX4 cX4_readsDigit 2 (some .boolean) [] vI 1 0 0 (lv_args 0 [.ref (gad γ 15), .int p0]) [] h (f_X4_readsDigit p0 h) := by
  show G γ RX4 cX4_readsDigit 2 (some .boolean) [] vI 1 0 0 [(0, .ref (gad γ 15)), (1, .int p0)] [] h (f_X4_readsDigit p0 h)
  unfold f_X4_readsDigit
  refine g_aload_n (pc := 0) dX4_readsDigit_0 rfl 0 rfl ?_
  refine gf_RX4_51_15 (pc := 1) dX4_readsDigit_1 ?_
  refine g_if_eq (pc := 4) (tgt := 16) dX4_readsDigit_4 (by decide) ?_ ?_
  · exact gjb_X4_readsDigit_16 γ p0 h
  · refine g_aload_n (pc := 7) dX4_readsDigit_7 rfl 0 rfl ?_
    refine gf_RX4_35_15 (pc := 8) dX4_readsDigit_8 ?_
    refine g_if_ne (pc := 11) (tgt := 16) dX4_readsDigit_11 (by decide) ?_ ?_
    · exact gjb_X4_readsDigit_16 γ p0 h
    · refine g_iconst (pc := 14) (v := 0) dX4_readsDigit_14 (by decide) ?_
      exact g_zreturn (pc := 15) dX4_readsDigit_15 rfl rfl
def f_X4_readsVariety (p0 : Int32) (h : Hst) : Option (Int32 × Hst) :=
  gl (hst h 15 6 (p0 - 97)) fun h1 =>
  gbv (f_X4_beginNumber 2 1 2000 h1) fun h2 =>
  gb (f_X6_isVariety (h2.1 15 6) h2) fun x4 h3 =>
  (gzr x4 (some (x4, h3)))
set_option maxRecDepth 20000 in
theorem ge_X4_readsVariety (γ : Gv) (p0 : Int32) (h : Hst) : G γ RX4 cX4_readsVariety 2 (some .boolean) [] vI 1 0 0 (lv_args 0 [.ref (gad γ 15), .int p0]) [] h (f_X4_readsVariety p0 h) := by
  show G γ RX4 cX4_readsVariety 2 (some .boolean) [] vI 1 0 0 [(0, .ref (gad γ 15)), (1, .int p0)] [] h (f_X4_readsVariety p0 h)
  unfold f_X4_readsVariety
  refine g_aload_n (pc := 0) dX4_readsVariety_0 rfl 0 rfl ?_
  refine g_iload_n (pc := 1) dX4_readsVariety_1 rfl 1 rfl ?_
  refine g_bipush (pc := 2) (v := 97) dX4_readsVariety_2 (by decide) ?_
  refine g_isub (pc := 4) dX4_readsVariety_4 ?_
  refine pf_RX4_41_15 (pc := 5) dX4_readsVariety_5 ?_
  refine g_nmh (fun h1 => ?_)
  refine g_aload_n (pc := 8) dX4_readsVariety_8 rfl 0 rfl ?_
  refine g_iconst (pc := 9) (v := 2) dX4_readsVariety_9 (by decide) ?_
  refine g_iconst (pc := 10) (v := 1) dX4_readsVariety_10 (by decide) ?_
  refine g_sipush (pc := 11) (v := 2000) dX4_readsVariety_11 (by decide) ?_
  refine g_cV (pc := 14) (st := []) (fun r hr => gRunV (As := [.int 2, .int 1, .int 2000]) 15 (ge_X4_beginNumber γ 2 1 2000 h1) hr wv_RX4_44 rfl (Nat.le_of_ble_eq_true rfl) (gat_15 _ _) rfl rfl (Nat.le_of_ble_eq_true rfl) (Nat.le_of_ble_eq_true rfl) dX4_readsVariety_14) (fun h2 => ?_)
  refine g_aload_n (pc := 17) dX4_readsVariety_17 rfl 0 rfl ?_
  refine gf_RX4_41_15 (pc := 18) dX4_readsVariety_18 ?_
  refine g_cI (pc := 21) (st := []) (fun r hr => gRunSN (As := [.int (h2.1 15 6)]) (ge_X6_isVariety γ (h2.1 15 6) h2) hr rfl wv_RX4_48 rfl (Nat.le_of_ble_eq_true rfl) rfl (Nat.le_of_ble_eq_true rfl) (Nat.le_of_ble_eq_true rfl) dX4_readsVariety_21) (fun x4 h3 => ?_)
  exact g_zreturn (pc := 24) dX4_readsVariety_24 rfl rfl
def jb_X4_readsGrower_34  (s0 : Int32) (h : Hst) : Option (Int32 × Hst) :=
  (gzr s0 (some (s0, h)))
def jb_X4_readsGrower_33   (h : Hst) : Option (Int32 × Hst) :=
  (jb_X4_readsGrower_34 0 h)
def f_X4_readsGrower (p0 : Int32) (h : Hst) : Option (Int32 × Hst) :=
  gl (hst h 15 5 (p0 - 48)) fun h1 =>
  gl (hst h1 15 0 1) fun h2 =>
  (if (h2.1 15 5) < 0 then
    (jb_X4_readsGrower_33 h2)
  else
    (if 8 ≤ (h2.1 15 5) then
      (jb_X4_readsGrower_33 h2)
    else
      (jb_X4_readsGrower_34 1 h2)))
set_option maxRecDepth 20000 in
theorem gjb_X4_readsGrower_34 (γ : Gv)  (s0 : Int32) (h : Hst) : G γ RX4 cX4_readsGrower 2 (some .boolean) [] vI 0 0 34 [] [.int s0] h (jb_X4_readsGrower_34 s0 h) := by
  unfold jb_X4_readsGrower_34
  exact g_zreturn (pc := 34) dX4_readsGrower_34 rfl rfl
set_option maxRecDepth 20000 in
theorem gjb_X4_readsGrower_33 (γ : Gv)   (h : Hst) : G γ RX4 cX4_readsGrower 2 (some .boolean) [] vI 0 0 33 [] [] h (jb_X4_readsGrower_33 h) := by
  unfold jb_X4_readsGrower_33
  refine g_iconst (pc := 33) (v := 0) dX4_readsGrower_33 (by decide) ?_
  exact gjb_X4_readsGrower_34 γ 0 h
set_option maxRecDepth 20000 in
theorem ge_X4_readsGrower (γ : Gv) (p0 : Int32) (h : Hst) : G γ RX4 cX4_readsGrower 2 (some .boolean) [] vI 0 0 0 (lv_args 0 [.ref (gad γ 15), .int p0]) [] h (f_X4_readsGrower p0 h) := by
  show G γ RX4 cX4_readsGrower 2 (some .boolean) [] vI 0 0 0 [(0, .ref (gad γ 15)), (1, .int p0)] [] h (f_X4_readsGrower p0 h)
  unfold f_X4_readsGrower
  refine g_aload_n (pc := 0) dX4_readsGrower_0 rfl 0 rfl ?_
  refine g_iload_n (pc := 1) dX4_readsGrower_1 rfl 1 rfl ?_
  refine g_bipush (pc := 2) (v := 48) dX4_readsGrower_2 (by decide) ?_
  refine g_isub (pc := 4) dX4_readsGrower_4 ?_
  refine pf_RX4_38_15 (pc := 5) dX4_readsGrower_5 ?_
  refine g_nmh (fun h1 => ?_)
  refine g_aload_n (pc := 8) dX4_readsGrower_8 rfl 0 rfl ?_
  refine g_iconst (pc := 9) (v := 1) dX4_readsGrower_9 (by decide) ?_
  refine pf_RX4_11_15 (pc := 10) dX4_readsGrower_10 ?_
  refine g_nmh (fun h2 => ?_)
  refine g_aload_n (pc := 13) dX4_readsGrower_13 rfl 0 rfl ?_
  refine gf_RX4_38_15 (pc := 14) dX4_readsGrower_14 ?_
  refine g_if_lt (pc := 17) (tgt := 33) dX4_readsGrower_17 (by decide) ?_ ?_
  · exact g_sub [] rfl (gjb_X4_readsGrower_33 γ h2)
  · refine g_aload_n (pc := 20) dX4_readsGrower_20 rfl 0 rfl ?_
    refine gf_RX4_38_15 (pc := 21) dX4_readsGrower_21 ?_
    refine g_bipush (pc := 24) (v := 8) dX4_readsGrower_24 (by decide) ?_
    refine g_icmp_ge (pc := 26) (tgt := 33) dX4_readsGrower_26 (by decide) ?_ ?_
    · exact g_sub [] rfl (gjb_X4_readsGrower_33 γ h2)
    · refine g_iconst (pc := 29) (v := 1) dX4_readsGrower_29 (by decide) ?_
      refine g_goto (pc := 30) (tgt := 34) dX4_readsGrower_30 (by decide) ?_
      exact g_sub [] rfl (gjb_X4_readsGrower_34 γ 1 h2)
def jb_X4_reads_68  (s0 : Int32) (h : Hst) : Option (Int32 × Hst) :=
  (gzr s0 (some (s0, h)))
def jb_X4_reads_67   (h : Hst) : Option (Int32 × Hst) :=
  (jb_X4_reads_68 0 h)
def jb_X4_reads_48  (a1 : Int32) (h : Hst) : Option (Int32 × Hst) :=
  gb (f_X4_numberStands h) fun x2 h1 =>
  (if x2 = 0 then
    (jb_X4_reads_67 h1)
  else
    gb (f_X4_readsSign a1 h1) fun x4 h3 =>
    (if x4 = 0 then
      (jb_X4_reads_67 h3)
    else
      (jb_X4_reads_68 1 h3)))
def f_X4_reads (p0 : Int32) (h : Hst) : Option (Int32 × Hst) :=
  (if (h.1 15 0) = 0 then
    gb (f_X4_readsGrower p0 h) fun x6 h5 =>
    (gzr x6 (some (x6, h5)))
  else
    (if (h.1 15 0) = 1 then
      gb (f_X4_readsVariety p0 h) fun x4 h3 =>
      (gzr x4 (some (x4, h3)))
    else
      (if p0 < 48 then
        (jb_X4_reads_48 p0 h)
      else
        (if 57 < p0 then
          (jb_X4_reads_48 p0 h)
        else
          gb (f_X4_readsDigit (p0 - 48) h) fun x2 h1 =>
          (gzr x2 (some (x2, h1)))))))
set_option maxRecDepth 20000 in
theorem gjb_X4_reads_68 (γ : Gv)  (s0 : Int32) (h : Hst) : G γ RX4 cX4_reads 2 (some .boolean) [] vI 2 0 68 [] [.int s0] h (jb_X4_reads_68 s0 h) := by
  unfold jb_X4_reads_68
  exact g_zreturn (pc := 68) dX4_reads_68 rfl rfl
set_option maxRecDepth 20000 in
theorem gjb_X4_reads_67 (γ : Gv)   (h : Hst) : G γ RX4 cX4_reads 2 (some .boolean) [] vI 2 0 67 [] [] h (jb_X4_reads_67 h) := by
  unfold jb_X4_reads_67
  refine g_iconst (pc := 67) (v := 0) dX4_reads_67 (by decide) ?_
  exact gjb_X4_reads_68 γ 0 h
set_option maxRecDepth 20000 in
theorem gjb_X4_reads_48 (γ : Gv)  (a1 : Int32) (h : Hst) : G γ RX4 cX4_reads 2 (some .boolean) [] vI 2 0 48 [(0, .ref (gad γ 15)), (1, .int a1)] [] h (jb_X4_reads_48 a1 h) := by
  unfold jb_X4_reads_48
  refine g_aload_n (pc := 48) dX4_reads_48 rfl 0 rfl ?_
  refine g_cI (pc := 49) (st := []) (fun r hr => gRunV (As := []) 15 (ge_X4_numberStands γ h) hr wv_RX4_25 rfl (Nat.le_of_ble_eq_true rfl) (gat_15 _ _) rfl rfl (Nat.le_of_ble_eq_true rfl) (Nat.le_of_ble_eq_true rfl) dX4_reads_49) (fun x2 h1 => ?_)
  refine g_if_eq (pc := 52) (tgt := 67) dX4_reads_52 (by decide) ?_ ?_
  · exact g_sub [] rfl (gjb_X4_reads_67 γ h1)
  · refine g_aload_n (pc := 55) dX4_reads_55 rfl 0 rfl ?_
    refine g_iload_n (pc := 56) dX4_reads_56 rfl 1 rfl ?_
    refine g_cI (pc := 57) (st := []) (fun r hr => gRunV (As := [.int a1]) 15 (ge_X4_readsSign γ a1 h1) hr wv_RX4_29 rfl (Nat.le_of_ble_eq_true rfl) (gat_15 _ _) rfl rfl (Nat.le_of_ble_eq_true rfl) (Nat.le_of_ble_eq_true rfl) dX4_reads_57) (fun x4 h3 => ?_)
    refine g_if_eq (pc := 60) (tgt := 67) dX4_reads_60 (by decide) ?_ ?_
    · exact g_sub [] rfl (gjb_X4_reads_67 γ h3)
    · refine g_iconst (pc := 63) (v := 1) dX4_reads_63 (by decide) ?_
      refine g_goto (pc := 64) (tgt := 68) dX4_reads_64 (by decide) ?_
      exact g_sub [] rfl (gjb_X4_reads_68 γ 1 h3)
set_option maxRecDepth 20000 in
theorem ge_X4_reads (γ : Gv) (p0 : Int32) (h : Hst) : G γ RX4 cX4_reads 2 (some .boolean) [] vI 2 0 0 (lv_args 0 [.ref (gad γ 15), .int p0]) [] h (f_X4_reads p0 h) := by
  show G γ RX4 cX4_reads 2 (some .boolean) [] vI 2 0 0 [(0, .ref (gad γ 15)), (1, .int p0)] [] h (f_X4_reads p0 h)
  unfold f_X4_reads
  refine g_aload_n (pc := 0) dX4_reads_0 rfl 0 rfl ?_
  refine gf_RX4_11_15 (pc := 1) dX4_reads_1 ?_
  refine g_if_ne (pc := 4) (tgt := 13) dX4_reads_4 (by decide) ?_ ?_
  · refine g_aload_n (pc := 13) dX4_reads_13 rfl 0 rfl ?_
    refine gf_RX4_11_15 (pc := 14) dX4_reads_14 ?_
    refine g_iconst (pc := 17) (v := 1) dX4_reads_17 (by decide) ?_
    refine g_icmp_ne (pc := 18) (tgt := 27) dX4_reads_18 (by decide) ?_ ?_
    · refine g_iload_n (pc := 27) dX4_reads_27 rfl 1 rfl ?_
      refine g_bipush (pc := 28) (v := 48) dX4_reads_28 (by decide) ?_
      refine g_icmp_lt (pc := 30) (tgt := 48) dX4_reads_30 (by decide) ?_ ?_
      · exact gjb_X4_reads_48 γ p0 h
      · refine g_iload_n (pc := 33) dX4_reads_33 rfl 1 rfl ?_
        refine g_bipush (pc := 34) (v := 57) dX4_reads_34 (by decide) ?_
        refine g_icmp_gt (pc := 36) (tgt := 48) dX4_reads_36 (by decide) ?_ ?_
        · exact gjb_X4_reads_48 γ p0 h
        · refine g_aload_n (pc := 39) dX4_reads_39 rfl 0 rfl ?_
          refine g_iload_n (pc := 40) dX4_reads_40 rfl 1 rfl ?_
          refine g_bipush (pc := 41) (v := 48) dX4_reads_41 (by decide) ?_
          refine g_isub (pc := 43) dX4_reads_43 ?_
          refine g_cI (pc := 44) (st := []) (fun r hr => gRunV (As := [.int (p0 - 48)]) 15 (ge_X4_readsDigit γ (p0 - 48) h) hr wv_RX4_22 rfl (Nat.le_of_ble_eq_true rfl) (gat_15 _ _) rfl rfl (Nat.le_of_ble_eq_true rfl) (Nat.le_of_ble_eq_true rfl) dX4_reads_44) (fun x2 h1 => ?_)
          exact g_zreturn (pc := 47) dX4_reads_47 rfl rfl
    · refine g_aload_n (pc := 21) dX4_reads_21 rfl 0 rfl ?_
      refine g_iload_n (pc := 22) dX4_reads_22 rfl 1 rfl ?_
      refine g_cI (pc := 23) (st := []) (fun r hr => gRunV (As := [.int p0]) 15 (ge_X4_readsVariety γ p0 h) hr wv_RX4_19 rfl (Nat.le_of_ble_eq_true rfl) (gat_15 _ _) rfl rfl (Nat.le_of_ble_eq_true rfl) (Nat.le_of_ble_eq_true rfl) dX4_reads_23) (fun x4 h3 => ?_)
      exact g_zreturn (pc := 26) dX4_reads_26 rfl rfl
  · refine g_aload_n (pc := 7) dX4_reads_7 rfl 0 rfl ?_
    refine g_iload_n (pc := 8) dX4_reads_8 rfl 1 rfl ?_
    refine g_cI (pc := 9) (st := []) (fun r hr => gRunV (As := [.int p0]) 15 (ge_X4_readsGrower γ p0 h) hr wv_RX4_15 rfl (Nat.le_of_ble_eq_true rfl) (gat_15 _ _) rfl rfl (Nat.le_of_ble_eq_true rfl) (Nat.le_of_ble_eq_true rfl) dX4_reads_9) (fun x6 h5 => ?_)
    exact g_zreturn (pc := 12) dX4_reads_12 rfl rfl
def lp_X6_firstError_9 : Nat → Int32 → Hst → Option (Int32 × Hst)
  | 0, _, _ => none
  | n + 1, a1, h =>
    (if (h.1 0 5) ≤ a1 then
      (some (h.1 0 5, h))
    else
      gb (f_X6_codeAt a1 h) fun x2 h1 =>
      gb (f_X4_reads x2 h1) fun x4 h3 =>
      (if x4 = 0 then
        (some (a1, h3))
      else
        ((lp_X6_firstError_9 n) (a1 + 1) h3)))
def f_X6_firstError  (h : Hst) : Option (Int32 × Hst) :=
  gbv (f_X4_restart h) fun h1 =>
  (lp_X6_firstError_9 FU 0 h1)
set_option maxRecDepth 20000 in
theorem glp_X6_firstError_9 (γ : Gv)  : ∀ (n : Nat) (a1 : Int32) (h : Hst), G γ RX6 cX6_firstError 2 (some .int) [] vI 3 0 9 [(0, .ref (gad γ 0)), (1, .int a1)] [] h (lp_X6_firstError_9 n a1 h) := by
  intro n
  induction n with
  | zero => intro a1 h; exact g_none
  | succ n ih =>
    intro a1 h
    rw [lp_X6_firstError_9]
    refine g_iload_n (pc := 9) dX6_firstError_9 rfl 1 rfl ?_
    refine g_aload_n (pc := 10) dX6_firstError_10 rfl 0 rfl ?_
    refine gf_RX6_43_0 (pc := 11) dX6_firstError_11 ?_
    refine g_icmp_ge (pc := 14) (tgt := 40) dX6_firstError_14 (by decide) ?_ ?_
    · refine g_aload_n (pc := 40) dX6_firstError_40 rfl 0 rfl ?_
      refine gf_RX6_43_0 (pc := 41) dX6_firstError_41 ?_
      exact g_ireturn (pc := 44) (ty := .int) dX6_firstError_44 rfl rfl rfl
    · refine g_aload_n (pc := 17) dX6_firstError_17 rfl 0 rfl ?_
      refine gf_RX6_35_0 (pc := 18) dX6_firstError_18 ?_
      refine g_aload_n (pc := 21) dX6_firstError_21 rfl 0 rfl ?_
      refine g_iload_n (pc := 22) dX6_firstError_22 rfl 1 rfl ?_
      refine g_cI (pc := 23) (st := [.ref (gad γ 15)]) (fun r hr => gRunV (As := [.int a1]) 0 (ge_X6_codeAt γ a1 h) hr wv_RX6_241 rfl (Nat.le_of_ble_eq_true rfl) (gat_0 _ _) rfl rfl (Nat.le_of_ble_eq_true rfl) (Nat.le_of_ble_eq_true rfl) dX6_firstError_23) (fun x2 h1 => ?_)
      refine g_cI (pc := 26) (st := []) (fun r hr => gRunV (As := [.int x2]) 15 (ge_X4_reads γ x2 h1) hr wv_RX6_244 rfl (Nat.le_of_ble_eq_true rfl) (gat_15 _ _) rfl rfl (Nat.le_of_ble_eq_true rfl) (Nat.le_of_ble_eq_true rfl) dX6_firstError_26) (fun x4 h3 => ?_)
      refine g_if_ne (pc := 29) (tgt := 34) dX6_firstError_29 (by decide) ?_ ?_
      · refine g_iinc (pc := 34) (q := 1) (v := a1 + 1) (lv' := [(1, .int (a1 + 1)), (0, .ref (gad γ 0))]) dX6_firstError_34 rfl rfl (by decide) rfl ?_
        refine g_goto (pc := 37) (tgt := 9) dX6_firstError_37 (by decide) ?_
        exact g_sub [1, 0] rfl (ih (a1 + 1) h3)
      · refine g_iload_n (pc := 32) dX6_firstError_32 rfl 1 rfl ?_
        exact g_ireturn (pc := 33) (ty := .int) dX6_firstError_33 rfl rfl rfl
set_option maxRecDepth 20000 in
theorem ge_X6_firstError (γ : Gv)  (h : Hst) : G γ RX6 cX6_firstError 2 (some .int) [] vI 3 0 0 (lv_args 0 [.ref (gad γ 0)]) [] h (f_X6_firstError h) := by
  show G γ RX6 cX6_firstError 2 (some .int) [] vI 3 0 0 [(0, .ref (gad γ 0))] [] h (f_X6_firstError h)
  unfold f_X6_firstError
  refine g_aload_n (pc := 0) dX6_firstError_0 rfl 0 rfl ?_
  refine gf_RX6_35_0 (pc := 1) dX6_firstError_1 ?_
  refine g_cV (pc := 4) (st := []) (fun r hr => gRunV (As := []) 15 (ge_X4_restart γ h) hr wv_RX6_238 rfl (Nat.le_of_ble_eq_true rfl) (gat_15 _ _) rfl rfl (Nat.le_of_ble_eq_true rfl) (Nat.le_of_ble_eq_true rfl) dX6_firstError_4) (fun h1 => ?_)
  refine g_iconst (pc := 7) (v := 0) dX6_firstError_7 (by decide) ?_
  refine g_istore_n (pc := 8) (lv' := [(1, .int 0), (0, .ref (gad γ 0))]) dX6_firstError_8 rfl (by decide) rfl ?_
  exact g_sub [1, 0] rfl (glp_X6_firstError_9 γ FU 0 h1)
def jb_X4_canEnd_28  (s0 : Int32) (h : Hst) : Option (Int32 × Hst) :=
  (gzr s0 (some (s0, h)))
def jb_X4_canEnd_27   (h : Hst) : Option (Int32 × Hst) :=
  (jb_X4_canEnd_28 0 h)
def jb_X4_canEnd_16   (h : Hst) : Option (Int32 × Hst) :=
  gb (f_X4_numberStands h) fun x2 h1 =>
  (if x2 = 0 then
    (jb_X4_canEnd_27 h1)
  else
    (jb_X4_canEnd_28 1 h1))
def f_X4_canEnd  (h : Hst) : Option (Int32 × Hst) :=
  (if (h.1 15 0) = 3 then
    (jb_X4_canEnd_16 h)
  else
    (if (h.1 15 0) = 4 then
      (jb_X4_canEnd_16 h)
    else
      (jb_X4_canEnd_27 h)))
set_option maxRecDepth 20000 in
theorem gjb_X4_canEnd_28 (γ : Gv)  (s0 : Int32) (h : Hst) : G γ RX4 cX4_canEnd 1 (some .boolean) [] vI 1 0 28 [] [.int s0] h (jb_X4_canEnd_28 s0 h) := by
  unfold jb_X4_canEnd_28
  exact g_zreturn (pc := 28) dX4_canEnd_28 rfl rfl
set_option maxRecDepth 20000 in
theorem gjb_X4_canEnd_27 (γ : Gv)   (h : Hst) : G γ RX4 cX4_canEnd 1 (some .boolean) [] vI 1 0 27 [] [] h (jb_X4_canEnd_27 h) := by
  unfold jb_X4_canEnd_27
  refine g_iconst (pc := 27) (v := 0) dX4_canEnd_27 (by decide) ?_
  exact gjb_X4_canEnd_28 γ 0 h
set_option maxRecDepth 20000 in
theorem gjb_X4_canEnd_16 (γ : Gv)   (h : Hst) : G γ RX4 cX4_canEnd 1 (some .boolean) [] vI 1 0 16 [(0, .ref (gad γ 15))] [] h (jb_X4_canEnd_16 h) := by
  unfold jb_X4_canEnd_16
  refine g_aload_n (pc := 16) dX4_canEnd_16 rfl 0 rfl ?_
  refine g_cI (pc := 17) (st := []) (fun r hr => gRunV (As := []) 15 (ge_X4_numberStands γ h) hr wv_RX4_25 rfl (Nat.le_of_ble_eq_true rfl) (gat_15 _ _) rfl rfl (Nat.le_of_ble_eq_true rfl) (Nat.le_of_ble_eq_true rfl) dX4_canEnd_17) (fun x2 h1 => ?_)
  refine g_if_eq (pc := 20) (tgt := 27) dX4_canEnd_20 (by decide) ?_ ?_
  · exact g_sub [] rfl (gjb_X4_canEnd_27 γ h1)
  · refine g_iconst (pc := 23) (v := 1) dX4_canEnd_23 (by decide) ?_
    refine g_goto (pc := 24) (tgt := 28) dX4_canEnd_24 (by decide) ?_
    exact g_sub [] rfl (gjb_X4_canEnd_28 γ 1 h1)
set_option maxRecDepth 20000 in
theorem ge_X4_canEnd (γ : Gv)  (h : Hst) : G γ RX4 cX4_canEnd 1 (some .boolean) [] vI 1 0 0 (lv_args 0 [.ref (gad γ 15)]) [] h (f_X4_canEnd h) := by
  show G γ RX4 cX4_canEnd 1 (some .boolean) [] vI 1 0 0 [(0, .ref (gad γ 15))] [] h (f_X4_canEnd h)
  unfold f_X4_canEnd
  refine g_aload_n (pc := 0) dX4_canEnd_0 rfl 0 rfl ?_
  refine gf_RX4_11_15 (pc := 1) dX4_canEnd_1 ?_
  refine g_iconst (pc := 4) (v := 3) dX4_canEnd_4 (by decide) ?_
  refine g_icmp_eq (pc := 5) (tgt := 16) dX4_canEnd_5 (by decide) ?_ ?_
  · exact gjb_X4_canEnd_16 γ h
  · refine g_aload_n (pc := 8) dX4_canEnd_8 rfl 0 rfl ?_
    refine gf_RX4_11_15 (pc := 9) dX4_canEnd_9 ?_
    refine g_iconst (pc := 12) (v := 4) dX4_canEnd_12 (by decide) ?_
    refine g_icmp_ne (pc := 13) (tgt := 27) dX4_canEnd_13 (by decide) ?_ ?_
    · exact g_sub [] rfl (gjb_X4_canEnd_27 γ h)
    · exact gjb_X4_canEnd_16 γ h
def jb_X4_acidity_19  (s0 : Int32) (h : Hst) : Option (Int32 × Hst) :=
  (some (s0, h))
def f_X4_acidity  (h : Hst) : Option (Int32 × Hst) :=
  (if (h.1 15 0) = 4 then
    (jb_X4_acidity_19 (h.1 15 8) h)
  else
    (jb_X4_acidity_19 (h.1 15 3) h))
set_option maxRecDepth 20000 in
theorem gjb_X4_acidity_19 (γ : Gv)  (s0 : Int32) (h : Hst) : G γ RX4 cX4_acidity 1 (some .int) [] vI 0 0 19 [] [.int s0] h (jb_X4_acidity_19 s0 h) := by
  unfold jb_X4_acidity_19
  exact g_ireturn (pc := 19) (ty := .int) dX4_acidity_19 rfl rfl rfl
set_option maxRecDepth 20000 in
theorem ge_X4_acidity (γ : Gv)  (h : Hst) : G γ RX4 cX4_acidity 1 (some .int) [] vI 0 0 0 (lv_args 0 [.ref (gad γ 15)]) [] h (f_X4_acidity h) := by
  show G γ RX4 cX4_acidity 1 (some .int) [] vI 0 0 0 [(0, .ref (gad γ 15))] [] h (f_X4_acidity h)
  unfold f_X4_acidity
  refine g_aload_n (pc := 0) dX4_acidity_0 rfl 0 rfl ?_
  refine gf_RX4_11_15 (pc := 1) dX4_acidity_1 ?_
  refine g_iconst (pc := 4) (v := 4) dX4_acidity_4 (by decide) ?_
  refine g_icmp_ne (pc := 5) (tgt := 15) dX4_acidity_5 (by decide) ?_ ?_
  · refine g_aload_n (pc := 15) dX4_acidity_15 rfl 0 rfl ?_
    refine gf_RX4_35_15 (pc := 16) dX4_acidity_16 ?_
    exact g_sub [] rfl (gjb_X4_acidity_19 γ (h.1 15 3) h)
  · refine g_aload_n (pc := 8) dX4_acidity_8 rfl 0 rfl ?_
    refine gf_RX4_32_15 (pc := 9) dX4_acidity_9 ?_
    refine g_goto (pc := 12) (tgt := 19) dX4_acidity_12 (by decide) ?_
    exact g_sub [] rfl (gjb_X4_acidity_19 γ (h.1 15 8) h)
def jb_X4_truth_18  (s0 : Int32) (h : Hst) : Option (Int32 × Hst) :=
  (some (s0, h))
def f_X4_truth  (h : Hst) : Option (Int32 × Hst) :=
  (if (h.1 15 0) = 4 then
    (jb_X4_truth_18 (h.1 15 3) h)
  else
    (jb_X4_truth_18 1000 h))
set_option maxRecDepth 20000 in
theorem gjb_X4_truth_18 (γ : Gv)  (s0 : Int32) (h : Hst) : G γ RX4 cX4_truth 1 (some .int) [] vI 0 0 18 [] [.int s0] h (jb_X4_truth_18 s0 h) := by
  unfold jb_X4_truth_18
  exact g_ireturn (pc := 18) (ty := .int) dX4_truth_18 rfl rfl rfl
set_option maxRecDepth 20000 in
theorem ge_X4_truth (γ : Gv)  (h : Hst) : G γ RX4 cX4_truth 1 (some .int) [] vI 0 0 0 (lv_args 0 [.ref (gad γ 15)]) [] h (f_X4_truth h) := by
  show G γ RX4 cX4_truth 1 (some .int) [] vI 0 0 0 [(0, .ref (gad γ 15))] [] h (f_X4_truth h)
  unfold f_X4_truth
  refine g_aload_n (pc := 0) dX4_truth_0 rfl 0 rfl ?_
  refine gf_RX4_11_15 (pc := 1) dX4_truth_1 ?_
  refine g_iconst (pc := 4) (v := 4) dX4_truth_4 (by decide) ?_
  refine g_icmp_ne (pc := 5) (tgt := 15) dX4_truth_5 (by decide) ?_ ?_
  · refine g_sipush (pc := 15) (v := 1000) dX4_truth_15 (by decide) ?_
    exact g_sub [] rfl (gjb_X4_truth_18 γ 1000 h)
  · refine g_aload_n (pc := 8) dX4_truth_8 rfl 0 rfl ?_
    refine gf_RX4_35_15 (pc := 9) dX4_truth_9 ?_
    refine g_goto (pc := 12) (tgt := 18) dX4_truth_12 (by decide) ?_
    exact g_sub [] rfl (gjb_X4_truth_18 γ (h.1 15 3) h)
def jb_X6_enterSlips_126 (R11 : Int32 → Int32 → Hst → Option (Int32 × Hst)) (a1 : Int32) (a2 : Int32) (a3 : Int32) (h : Hst) : Option (Int32 × Hst) :=
  gb (f_X4_reads a3 h) fun x2 h1 =>
  (R11 a1 (a2 + 1) h1)
def jb_X6_enterSlips_81  (a1 : Int32) (h : Hst) : Option (Int32 × Hst) :=
  (some (a1, h))
def jb_X6_enterSlips_37 (R11 : Int32 → Int32 → Hst → Option (Int32 × Hst)) (a1 : Int32) (a2 : Int32) (s0 : Int32) (h : Hst) : Option (Int32 × Hst) :=
  (if s0 = 59 then
    gb (f_X3_get_7 0 h) fun x2 h1 =>
    (if x2 ≤ (h.1 15 5) then
      (jb_X6_enterSlips_81 a1 h1)
    else
      gb (f_X3_get_7 1 h1) fun x4 h3 =>
      (if x4 < 40 then
        gb (f_X4_acidity h3) fun x6 h5 =>
        gb (f_X4_truth h5) fun x8 h7 =>
        gb (f_X6_enterLot (h3.1 15 5) (h3.1 15 6) (h3.1 15 7) x6 x8 h7) fun x10 h9 =>
        (jb_X6_enterSlips_126 R11 (a1 + 1) a2 s0 h9)
      else
        (jb_X6_enterSlips_81 a1 h3)))
  else
    (jb_X6_enterSlips_126 R11 a1 a2 s0 h))
def lp_X6_enterSlips_11 : Nat → Int32 → Int32 → Hst → Option (Int32 × Hst)
  | 0, _, _, _ => none
  | n + 1, a1, a2, h =>
    (if (h.1 0 5) < a2 then
      (some (a1, h))
    else
      (if (h.1 0 5) ≤ a2 then
        (jb_X6_enterSlips_37 (lp_X6_enterSlips_11 n) a1 a2 59 h)
      else
        gb (f_X6_codeAt a2 h) fun x2 h1 =>
        (jb_X6_enterSlips_37 (lp_X6_enterSlips_11 n) a1 a2 x2 h1)))
def f_X6_enterSlips  (h : Hst) : Option (Int32 × Hst) :=
  gbv (f_X4_restart h) fun h1 =>
  (lp_X6_enterSlips_11 FU 0 0 h1)
set_option maxRecDepth 20000 in
theorem gjb_X6_enterSlips_126 (γ : Gv) (R11 : Int32 → Int32 → Hst → Option (Int32 × Hst)) (hR11 : ∀ (a1 : Int32) (a2 : Int32) (h : Hst), G γ RX6 cX6_enterSlips 4 (some .int) [] vI 3 0 11 [(0, .ref (gad γ 0)), (1, .int a1), (2, .int a2)] [] h (R11 a1 a2 h)) (a1 : Int32) (a2 : Int32) (a3 : Int32) (h : Hst) : G γ RX6 cX6_enterSlips 4 (some .int) [] vI 3 0 126 [(0, .ref (gad γ 0)), (1, .int a1), (2, .int a2), (3, .int a3)] [] h (jb_X6_enterSlips_126 R11 a1 a2 a3 h) := by
  unfold jb_X6_enterSlips_126
  refine g_aload_n (pc := 126) dX6_enterSlips_126 rfl 0 rfl ?_
  refine gf_RX6_35_0 (pc := 127) dX6_enterSlips_127 ?_
  refine g_iload_n (pc := 130) dX6_enterSlips_130 rfl 3 rfl ?_
  refine g_cI (pc := 131) (st := []) (fun r hr => gRunV (As := [.int a3]) 15 (ge_X4_reads γ a3 h) hr wv_RX6_244 rfl (Nat.le_of_ble_eq_true rfl) (gat_15 _ _) rfl rfl (Nat.le_of_ble_eq_true rfl) (Nat.le_of_ble_eq_true rfl) dX6_enterSlips_131) (fun x2 h1 => ?_)
  refine g_pop (pc := 134) dX6_enterSlips_134 rfl ?_
  refine g_iinc (pc := 135) (q := 2) (v := a2 + 1) (lv' := [(2, .int (a2 + 1)), (0, .ref (gad γ 0)), (1, .int a1), (3, .int a3)]) dX6_enterSlips_135 rfl rfl (by decide) rfl ?_
  refine g_goto (pc := 138) (tgt := 11) dX6_enterSlips_138 (by decide) ?_
  exact g_sub [1, 2, 0] rfl (hR11 a1 (a2 + 1) h1)
set_option maxRecDepth 20000 in
theorem gjb_X6_enterSlips_81 (γ : Gv)  (a1 : Int32) (h : Hst) : G γ RX6 cX6_enterSlips 4 (some .int) [] vI 3 0 81 [(1, .int a1)] [] h (jb_X6_enterSlips_81 a1 h) := by
  unfold jb_X6_enterSlips_81
  refine g_iload_n (pc := 81) dX6_enterSlips_81 rfl 0 rfl ?_
  exact g_ireturn (pc := 82) (ty := .int) dX6_enterSlips_82 rfl rfl rfl
set_option maxRecDepth 20000 in
theorem gjb_X6_enterSlips_37 (γ : Gv) (R11 : Int32 → Int32 → Hst → Option (Int32 × Hst)) (hR11 : ∀ (a1 : Int32) (a2 : Int32) (h : Hst), G γ RX6 cX6_enterSlips 4 (some .int) [] vI 3 0 11 [(0, .ref (gad γ 0)), (1, .int a1), (2, .int a2)] [] h (R11 a1 a2 h)) (a1 : Int32) (a2 : Int32) (s0 : Int32) (h : Hst) : G γ RX6 cX6_enterSlips 4 (some .int) [] vI 3 0 37 [(0, .ref (gad γ 0)), (1, .int a1), (2, .int a2)] [.int s0] h (jb_X6_enterSlips_37 R11 a1 a2 s0 h) := by
  unfold jb_X6_enterSlips_37
  refine g_istore_n (pc := 37) (lv' := [(3, .int s0), (0, .ref (gad γ 0)), (1, .int a1), (2, .int a2)]) dX6_enterSlips_37 rfl (by decide) rfl ?_
  refine g_iload_n (pc := 38) dX6_enterSlips_38 rfl 0 rfl ?_
  refine g_bipush (pc := 39) (v := 59) dX6_enterSlips_39 (by decide) ?_
  refine g_icmp_ne (pc := 41) (tgt := 126) dX6_enterSlips_41 (by decide) ?_ ?_
  · exact g_sub [1, 2, 3, 0] rfl (gjb_X6_enterSlips_126 γ R11 hR11 a1 a2 s0 h)
  · refine g_aload_n (pc := 44) dX6_enterSlips_44 rfl 1 rfl ?_
    refine gf_RX6_35_0 (pc := 45) dX6_enterSlips_45 ?_
    refine gf_RX6_385_15 (pc := 48) dX6_enterSlips_48 ?_
    refine g_aload_n (pc := 51) dX6_enterSlips_51 rfl 1 rfl ?_
    refine gf_RX6_12_0 (pc := 52) dX6_enterSlips_52 ?_
    refine gf_RX6_47_1 (pc := 55) dX6_enterSlips_55 ?_
    refine g_iconst (pc := 58) (v := 0) dX6_enterSlips_58 (by decide) ?_
    refine g_cI (pc := 59) (st := [.int (h.1 15 5)]) (fun r hr => gRunV (As := [.int 0]) 7 (ge_X3_get_7 γ 0 h) hr wv_RX6_51 rfl (Nat.le_of_ble_eq_true rfl) (gat_7 _ _) rfl rfl (Nat.le_of_ble_eq_true rfl) (Nat.le_of_ble_eq_true rfl) dX6_enterSlips_59) (fun x2 h1 => ?_)
    refine g_icmp_ge (pc := 62) (tgt := 81) dX6_enterSlips_62 (by decide) ?_ ?_
    · exact g_sub [2] rfl (gjb_X6_enterSlips_81 γ a1 h1)
    · refine g_aload_n (pc := 65) dX6_enterSlips_65 rfl 1 rfl ?_
      refine gf_RX6_12_0 (pc := 66) dX6_enterSlips_66 ?_
      refine gf_RX6_47_1 (pc := 69) dX6_enterSlips_69 ?_
      refine g_iconst (pc := 72) (v := 1) dX6_enterSlips_72 (by decide) ?_
      refine g_cI (pc := 73) (st := []) (fun r hr => gRunV (As := [.int 1]) 7 (ge_X3_get_7 γ 1 h1) hr wv_RX6_51 rfl (Nat.le_of_ble_eq_true rfl) (gat_7 _ _) rfl rfl (Nat.le_of_ble_eq_true rfl) (Nat.le_of_ble_eq_true rfl) dX6_enterSlips_73) (fun x4 h3 => ?_)
      refine g_bipush (pc := 76) (v := 40) dX6_enterSlips_76 (by decide) ?_
      refine g_icmp_lt (pc := 78) (tgt := 83) dX6_enterSlips_78 (by decide) ?_ ?_
      · refine g_aload_n (pc := 83) dX6_enterSlips_83 rfl 1 rfl ?_
        refine g_aload_n (pc := 84) dX6_enterSlips_84 rfl 1 rfl ?_
        refine gf_RX6_35_0 (pc := 85) dX6_enterSlips_85 ?_
        refine gf_RX6_385_15 (pc := 88) dX6_enterSlips_88 ?_
        refine g_aload_n (pc := 91) dX6_enterSlips_91 rfl 1 rfl ?_
        refine gf_RX6_35_0 (pc := 92) dX6_enterSlips_92 ?_
        refine gf_RX6_388_15 (pc := 95) dX6_enterSlips_95 ?_
        refine g_aload_n (pc := 98) dX6_enterSlips_98 rfl 1 rfl ?_
        refine gf_RX6_35_0 (pc := 99) dX6_enterSlips_99 ?_
        refine gf_RX6_391_15 (pc := 102) dX6_enterSlips_102 ?_
        refine g_aload_n (pc := 105) dX6_enterSlips_105 rfl 1 rfl ?_
        refine gf_RX6_35_0 (pc := 106) dX6_enterSlips_106 ?_
        refine g_cI (pc := 109) (st := [.int (h3.1 15 7), .int (h3.1 15 6), .int (h3.1 15 5), .ref (gad γ 0)]) (fun r hr => gRunV (As := []) 15 (ge_X4_acidity γ h3) hr wv_RX6_394 rfl (Nat.le_of_ble_eq_true rfl) (gat_15 _ _) rfl rfl (Nat.le_of_ble_eq_true rfl) (Nat.le_of_ble_eq_true rfl) dX6_enterSlips_109) (fun x6 h5 => ?_)
        refine g_aload_n (pc := 112) dX6_enterSlips_112 rfl 1 rfl ?_
        refine gf_RX6_35_0 (pc := 113) dX6_enterSlips_113 ?_
        refine g_cI (pc := 116) (st := [.int x6, .int (h3.1 15 7), .int (h3.1 15 6), .int (h3.1 15 5), .ref (gad γ 0)]) (fun r hr => gRunV (As := []) 15 (ge_X4_truth γ h5) hr wv_RX6_397 rfl (Nat.le_of_ble_eq_true rfl) (gat_15 _ _) rfl rfl (Nat.le_of_ble_eq_true rfl) (Nat.le_of_ble_eq_true rfl) dX6_enterSlips_116) (fun x8 h7 => ?_)
        refine g_cI (pc := 119) (st := []) (fun r hr => gRunV (As := [.int (h3.1 15 5), .int (h3.1 15 6), .int (h3.1 15 7), .int x6, .int x8]) 0 (ge_X6_enterLot γ (h3.1 15 5) (h3.1 15 6) (h3.1 15 7) x6 x8 h7) hr wv_RX6_90 rfl (Nat.le_of_ble_eq_true rfl) (gat_0 _ _) rfl rfl (Nat.le_of_ble_eq_true rfl) (Nat.le_of_ble_eq_true rfl) dX6_enterSlips_119) (fun x10 h9 => ?_)
        refine g_pop (pc := 122) dX6_enterSlips_122 rfl ?_
        refine g_iinc (pc := 123) (q := 2) (v := a1 + 1) (lv' := [(1, .int (a1 + 1)), (3, .int s0), (0, .ref (gad γ 0)), (2, .int a2)]) dX6_enterSlips_123 rfl rfl (by decide) rfl ?_
        exact g_sub [2, 0, 3, 1] rfl (gjb_X6_enterSlips_126 γ R11 hR11 (a1 + 1) a2 s0 h9)
      · exact g_sub [2] rfl (gjb_X6_enterSlips_81 γ a1 h3)
set_option maxRecDepth 20000 in
theorem glp_X6_enterSlips_11 (γ : Gv)  : ∀ (n : Nat) (a1 : Int32) (a2 : Int32) (h : Hst), G γ RX6 cX6_enterSlips 4 (some .int) [] vI 3 0 11 [(0, .ref (gad γ 0)), (1, .int a1), (2, .int a2)] [] h (lp_X6_enterSlips_11 n a1 a2 h) := by
  intro n
  induction n with
  | zero => intro a1 a2 h; exact g_none
  | succ n ih =>
    intro a1 a2 h
    rw [lp_X6_enterSlips_11]
    refine g_iload_n (pc := 11) dX6_enterSlips_11 rfl 2 rfl ?_
    refine g_aload_n (pc := 12) dX6_enterSlips_12 rfl 0 rfl ?_
    refine gf_RX6_43_0 (pc := 13) dX6_enterSlips_13 ?_
    refine g_icmp_gt (pc := 16) (tgt := 141) dX6_enterSlips_16 (by decide) ?_ ?_
    · refine g_iload_n (pc := 141) dX6_enterSlips_141 rfl 1 rfl ?_
      exact g_ireturn (pc := 142) (ty := .int) dX6_enterSlips_142 rfl rfl rfl
    · refine g_iload_n (pc := 19) dX6_enterSlips_19 rfl 2 rfl ?_
      refine g_aload_n (pc := 20) dX6_enterSlips_20 rfl 0 rfl ?_
      refine gf_RX6_43_0 (pc := 21) dX6_enterSlips_21 ?_
      refine g_icmp_ge (pc := 24) (tgt := 35) dX6_enterSlips_24 (by decide) ?_ ?_
      · refine g_bipush (pc := 35) (v := 59) dX6_enterSlips_35 (by decide) ?_
        exact gjb_X6_enterSlips_37 γ (lp_X6_enterSlips_11 n) ih a1 a2 59 h
      · refine g_aload_n (pc := 27) dX6_enterSlips_27 rfl 0 rfl ?_
        refine g_iload_n (pc := 28) dX6_enterSlips_28 rfl 2 rfl ?_
        refine g_cI (pc := 29) (st := []) (fun r hr => gRunV (As := [.int a2]) 0 (ge_X6_codeAt γ a2 h) hr wv_RX6_241 rfl (Nat.le_of_ble_eq_true rfl) (gat_0 _ _) rfl rfl (Nat.le_of_ble_eq_true rfl) (Nat.le_of_ble_eq_true rfl) dX6_enterSlips_29) (fun x2 h1 => ?_)
        refine g_goto (pc := 32) (tgt := 37) dX6_enterSlips_32 (by decide) ?_
        exact gjb_X6_enterSlips_37 γ (lp_X6_enterSlips_11 n) ih a1 a2 x2 h1
set_option maxRecDepth 20000 in
theorem ge_X6_enterSlips (γ : Gv)  (h : Hst) : G γ RX6 cX6_enterSlips 4 (some .int) [] vI 3 0 0 (lv_args 0 [.ref (gad γ 0)]) [] h (f_X6_enterSlips h) := by
  show G γ RX6 cX6_enterSlips 4 (some .int) [] vI 3 0 0 [(0, .ref (gad γ 0))] [] h (f_X6_enterSlips h)
  unfold f_X6_enterSlips
  refine g_iconst (pc := 0) (v := 0) dX6_enterSlips_0 (by decide) ?_
  refine g_istore_n (pc := 1) (lv' := [(1, .int 0), (0, .ref (gad γ 0))]) dX6_enterSlips_1 rfl (by decide) rfl ?_
  refine g_aload_n (pc := 2) dX6_enterSlips_2 rfl 1 rfl ?_
  refine gf_RX6_35_0 (pc := 3) dX6_enterSlips_3 ?_
  refine g_cV (pc := 6) (st := []) (fun r hr => gRunV (As := []) 15 (ge_X4_restart γ h) hr wv_RX6_238 rfl (Nat.le_of_ble_eq_true rfl) (gat_15 _ _) rfl rfl (Nat.le_of_ble_eq_true rfl) (Nat.le_of_ble_eq_true rfl) dX6_enterSlips_6) (fun h1 => ?_)
  refine g_iconst (pc := 9) (v := 0) dX6_enterSlips_9 (by decide) ?_
  refine g_istore_n (pc := 10) (lv' := [(2, .int 0), (1, .int 0), (0, .ref (gad γ 0))]) dX6_enterSlips_10 rfl (by decide) rfl ?_
  exact g_sub [2, 1, 0] rfl (glp_X6_enterSlips_11 γ FU 0 0 h1)
def jb_X6_addSlips_21   (h : Hst) : Option ((Int32 × Hst) ⊕ (Nat × Hst)) :=
  (some (.inr (1, h)))
def f_X6_addSlips  (h : Hst) : Option ((Int32 × Hst) ⊕ (Nat × Hst)) :=
  gb (f_X6_firstError h) fun x2 h1 =>
  (if x2 < (h1.1 0 5) then
    (jb_X6_addSlips_21 h1)
  else
    gb (f_X4_canEnd h1) fun x4 h3 =>
    (if x4 = 0 then
      (jb_X6_addSlips_21 h3)
    else
      gbv (f_X0_save h3) fun h5 =>
      gb (f_X6_enterSlips h5) fun x7 h6 =>
      gl (hst h6 0 5 0) fun h8 =>
      (some (.inl (x7, h8)))))
set_option maxRecDepth 20000 in
theorem gjb_X6_addSlips_21 (γ : Gv)   (h : Hst) : G γ RX6 cX6_addSlips 2 (some .int) [] vIX 6 0 21 [] [] h (jb_X6_addSlips_21 h) := by
  unfold jb_X6_addSlips_21
  exact g_throwS 1 (by decide +kernel) wcl_RX6_83 wini_1 wat_RX6_87_1 rfl (by decide +kernel : (255, "the buffer is not a complete row of slips") ∈ gstrs) (Nat.le_of_ble_eq_true rfl) (fun x hx => nomatch hx) dX6_addSlips_21 dX6_addSlips_24 dX6_addSlips_25 dX6_addSlips_27 dX6_addSlips_30 (fun z hz => by cases hz; rfl)
set_option maxRecDepth 20000 in
theorem ge_X6_addSlips (γ : Gv)  (h : Hst) : G γ RX6 cX6_addSlips 2 (some .int) [] vIX 6 0 0 (lv_args 0 [.ref (gad γ 0)]) [] h (f_X6_addSlips h) := by
  show G γ RX6 cX6_addSlips 2 (some .int) [] vIX 6 0 0 [(0, .ref (gad γ 0))] [] h (f_X6_addSlips h)
  unfold f_X6_addSlips
  refine g_aload_n (pc := 0) dX6_addSlips_0 rfl 0 rfl ?_
  refine g_cI (pc := 1) (st := []) (fun r hr => gRunV (As := []) 0 (ge_X6_firstError γ h) hr wv_RX6_247 rfl (Nat.le_of_ble_eq_true rfl) (gat_0 _ _) rfl rfl (Nat.le_of_ble_eq_true rfl) (Nat.le_of_ble_eq_true rfl) dX6_addSlips_1) (fun x2 h1 => ?_)
  refine g_aload_n (pc := 4) dX6_addSlips_4 rfl 0 rfl ?_
  refine gf_RX6_43_0 (pc := 5) dX6_addSlips_5 ?_
  refine g_icmp_lt (pc := 8) (tgt := 21) dX6_addSlips_8 (by decide) ?_ ?_
  · exact g_sub [] rfl (gjb_X6_addSlips_21 γ h1)
  · refine g_aload_n (pc := 11) dX6_addSlips_11 rfl 0 rfl ?_
    refine gf_RX6_35_0 (pc := 12) dX6_addSlips_12 ?_
    refine g_cI (pc := 15) (st := []) (fun r hr => gRunV (As := []) 15 (ge_X4_canEnd γ h1) hr wv_RX6_251 rfl (Nat.le_of_ble_eq_true rfl) (gat_15 _ _) rfl rfl (Nat.le_of_ble_eq_true rfl) (Nat.le_of_ble_eq_true rfl) dX6_addSlips_15) (fun x4 h3 => ?_)
    refine g_if_ne (pc := 18) (tgt := 31) dX6_addSlips_18 (by decide) ?_ ?_
    · refine g_aload_n (pc := 31) dX6_addSlips_31 rfl 0 rfl ?_
      refine gf_RX6_12_0 (pc := 32) dX6_addSlips_32 ?_
      refine g_cV (pc := 35) (st := []) (fun r hr => gRunV (As := []) 1 (ge_X0_save γ h3) hr wv_RX6_64 rfl (Nat.le_of_ble_eq_true rfl) (gat_1 _ _) rfl rfl (Nat.le_of_ble_eq_true rfl) (Nat.le_of_ble_eq_true rfl) dX6_addSlips_35) (fun h5 => ?_)
      refine g_aload_n (pc := 38) dX6_addSlips_38 rfl 0 rfl ?_
      refine g_cI (pc := 39) (st := []) (fun r hr => gRunV (As := []) 0 (ge_X6_enterSlips γ h5) hr wv_RX6_257 rfl (Nat.le_of_ble_eq_true rfl) (gat_0 _ _) rfl rfl (Nat.le_of_ble_eq_true rfl) (Nat.le_of_ble_eq_true rfl) dX6_addSlips_39) (fun x7 h6 => ?_)
      refine g_istore_n (pc := 42) (lv' := [(1, .int x7), (0, .ref (gad γ 0))]) dX6_addSlips_42 rfl (by decide) rfl ?_
      refine g_aload_n (pc := 43) dX6_addSlips_43 rfl 1 rfl ?_
      refine g_iconst (pc := 44) (v := 0) dX6_addSlips_44 (by decide) ?_
      refine pf_RX6_43_0 (pc := 45) dX6_addSlips_45 ?_
      refine g_nmh (fun h8 => ?_)
      refine g_iload_n (pc := 48) dX6_addSlips_48 rfl 0 rfl ?_
      exact g_ireturn (pc := 49) (ty := .int) dX6_addSlips_49 rfl rfl rfl
    · exact g_sub [] rfl (gjb_X6_addSlips_21 γ h3)
def jb_X0_restore_52   (h : Hst) : Option (Hst) :=
  (some h)
def f_X0_restore  (h : Hst) : Option (Hst) :=
  gl (hst h 1 9 ((h.1 1 9) - 1)) fun h1 =>
  gb (f_X0_placeOfSaved (h1.1 1 9) h1) fun x3 h2 =>
  (if x3 < 0 then
    (jb_X0_restore_52 h2)
  else
    (if (3318 - 553) < x3 then
      (jb_X0_restore_52 h2)
    else
      gcp x3 0 553 3318 553 (gl (hso h2 8 (va_cpy (h2.1 9) (h2.1 8) x3.toNatClampNeg (0 : Int32).toNatClampNeg (553 : Int32).toNatClampNeg)) fun h4 =>
      (jb_X0_restore_52 h4))))
set_option maxRecDepth 20000 in
theorem gjb_X0_restore_52 (γ : Gv)   (h : Hst) : G γ RX0 cX0_restore 2 none [] vV 1 0 52 [] [] h (jb_X0_restore_52 h) := by
  unfold jb_X0_restore_52
  exact g_return (pc := 52) dX0_restore_52 rfl rfl
set_option maxRecDepth 20000 in
theorem ge_X0_restore (γ : Gv)  (h : Hst) : G γ RX0 cX0_restore 2 none [] vV 1 0 0 (lv_args 0 [.ref (gad γ 1)]) [] h (f_X0_restore h) := by
  show G γ RX0 cX0_restore 2 none [] vV 1 0 0 [(0, .ref (gad γ 1))] [] h (f_X0_restore h)
  unfold f_X0_restore
  refine g_aload_n (pc := 0) dX0_restore_0 rfl 0 rfl ?_
  refine g_dup (pc := 1) dX0_restore_1 rfl ?_
  refine gf_RX0_65_1 (pc := 2) dX0_restore_2 ?_
  refine g_iconst (pc := 5) (v := 1) dX0_restore_5 (by decide) ?_
  refine g_isub (pc := 6) dX0_restore_6 ?_
  refine pf_RX0_65_1 (pc := 7) dX0_restore_7 ?_
  refine g_nmh (fun h1 => ?_)
  refine g_aload_n (pc := 10) dX0_restore_10 rfl 0 rfl ?_
  refine g_aload_n (pc := 11) dX0_restore_11 rfl 0 rfl ?_
  refine gf_RX0_65_1 (pc := 12) dX0_restore_12 ?_
  refine g_cI (pc := 15) (st := []) (fun r hr => gRunV (As := [.int (h1.1 1 9)]) 1 (ge_X0_placeOfSaved γ (h1.1 1 9) h1) hr wv_RX0_72 rfl (Nat.le_of_ble_eq_true rfl) (gat_1 _ _) rfl rfl (Nat.le_of_ble_eq_true rfl) (Nat.le_of_ble_eq_true rfl) dX0_restore_15) (fun x3 h2 => ?_)
  refine g_istore_n (pc := 18) (lv' := [(1, .int x3), (0, .ref (gad γ 1))]) dX0_restore_18 rfl (by decide) rfl ?_
  refine g_iload_n (pc := 19) dX0_restore_19 rfl 0 rfl ?_
  refine g_if_lt (pc := 20) (tgt := 52) dX0_restore_20 (by decide) ?_ ?_
  · exact g_sub [] rfl (gjb_X0_restore_52 γ h2)
  · refine g_iload_n (pc := 23) dX0_restore_23 rfl 0 rfl ?_
    refine g_aload_n (pc := 24) dX0_restore_24 rfl 1 rfl ?_
    refine gf_RX0_15_1 (pc := 25) dX0_restore_25 ?_
    refine g_alen (pc := 28) (n := 0) (v := 3318) 9 0 (gat_9 _ _) rfl rfl dX0_restore_28 ?_
    refine g_sipush (pc := 29) (v := 553) dX0_restore_29 (by decide) ?_
    refine g_isub (pc := 32) dX0_restore_32 ?_
    refine g_icmp_gt (pc := 33) (tgt := 52) dX0_restore_33 (by decide) ?_ ?_
    · exact g_sub [] rfl (gjb_X0_restore_52 γ h2)
    · refine g_aload_n (pc := 36) dX0_restore_36 rfl 1 rfl ?_
      refine gf_RX0_15_1 (pc := 37) dX0_restore_37 ?_
      refine g_iload_n (pc := 40) dX0_restore_40 rfl 0 rfl ?_
      refine g_aload_n (pc := 41) dX0_restore_41 rfl 1 rfl ?_
      refine gf_RX0_11_1 (pc := 42) dX0_restore_42 ?_
      refine g_iconst (pc := 45) (v := 0) dX0_restore_45 (by decide) ?_
      refine g_sipush (pc := 46) (v := 553) dX0_restore_46 (by decide) ?_
      refine g_copyi (pc := 49) 9 8 wk_RX0_76 wa_1 wa_2 wa_3 (gat_9 _ _) (gat_8 _ _) (gset_8 _ _ _) (Nat.le_of_ble_eq_true rfl) (Nat.le_of_ble_eq_true rfl) dX0_restore_49 ?_
      refine g_nmh (fun h4 => ?_)
      exact g_sub [] rfl (gjb_X0_restore_52 γ h4)
def f_X6_undo  (h : Hst) : Option ((Int32 × Hst) ⊕ (Nat × Hst)) :=
  (if (h.1 1 9) = 0 then
    (some (.inr (2, h)))
  else
    gbv (f_X0_restore h) fun h1 =>
    (some (.inl (h1.1 1 9, h1))))
set_option maxRecDepth 20000 in
theorem ge_X6_undo (γ : Gv)  (h : Hst) : G γ RX6 cX6_undo 1 (some .int) [] vIX 6 0 0 (lv_args 0 [.ref (gad γ 0)]) [] h (f_X6_undo h) := by
  show G γ RX6 cX6_undo 1 (some .int) [] vIX 6 0 0 [(0, .ref (gad γ 0))] [] h (f_X6_undo h)
  unfold f_X6_undo
  refine g_aload_n (pc := 0) dX6_undo_0 rfl 0 rfl ?_
  refine gf_RX6_12_0 (pc := 1) dX6_undo_1 ?_
  refine gf_RX6_260_1 (pc := 4) dX6_undo_4 ?_
  refine g_if_ne (pc := 7) (tgt := 21) dX6_undo_7 (by decide) ?_ ?_
  · refine g_aload_n (pc := 21) dX6_undo_21 rfl 0 rfl ?_
    refine gf_RX6_12_0 (pc := 22) dX6_undo_22 ?_
    refine g_cV (pc := 25) (st := []) (fun r hr => gRunV (As := []) 1 (ge_X0_restore γ h) hr wv_RX6_265 rfl (Nat.le_of_ble_eq_true rfl) (gat_1 _ _) rfl rfl (Nat.le_of_ble_eq_true rfl) (Nat.le_of_ble_eq_true rfl) dX6_undo_25) (fun h1 => ?_)
    refine g_aload_n (pc := 28) dX6_undo_28 rfl 0 rfl ?_
    refine gf_RX6_12_0 (pc := 29) dX6_undo_29 ?_
    refine gf_RX6_260_1 (pc := 32) dX6_undo_32 ?_
    exact g_ireturn (pc := 35) (ty := .int) dX6_undo_35 rfl rfl rfl
  · exact g_throwSW 2 (by decide +kernel) wcl_RX6_57 wini_2 wat_RX6_61_2 rfl (by decide +kernel : (263, "there is no saved state") ∈ gstrs) (Nat.le_of_ble_eq_true rfl) (fun x hx => nomatch hx) dX6_undo_10 dX6_undo_13 dX6_undo_14 dX6_undo_17 dX6_undo_20 (fun z hz => by cases hz; rfl)
def jb_X6_lotsWith_78 (R19 : Int32 → Int32 → Int32 → Int32 → Int32 → Int32 → Hst → Option (Int32 × Hst)) (a1 : Int32) (a2 : Int32) (a3 : Int32) (a4 : Int32) (a5 : Int32) (a6 : Int32) (h : Hst) : Option (Int32 × Hst) :=
  (R19 a1 a2 a3 a4 a5 (a6 + 1) h)
def jb_X6_lotsWith_51 (R19 : Int32 → Int32 → Int32 → Int32 → Int32 → Int32 → Hst → Option (Int32 × Hst)) (a1 : Int32) (a2 : Int32) (a3 : Int32) (a4 : Int32) (a5 : Int32) (a6 : Int32) (s0 : Int32) (h : Hst) : Option (Int32 × Hst) :=
  (if s0 = 0 then
    (jb_X6_lotsWith_78 R19 a1 a2 a3 a4 a5 a6 h)
  else
    gb (f_X5_get_3 a6 a1 h) fun x2 h1 =>
    (if x2 = a2 then
      (jb_X6_lotsWith_78 R19 a1 a2 a3 (a4 + 1) a5 a6 h1)
    else
      (jb_X6_lotsWith_78 R19 a1 a2 a3 a4 a5 a6 h1)))
def jb_X6_lotsWith_46 (R19 : Int32 → Int32 → Int32 → Int32 → Int32 → Int32 → Hst → Option (Int32 × Hst)) (a1 : Int32) (a2 : Int32) (a3 : Int32) (a4 : Int32) (a5 : Int32) (a6 : Int32) (h : Hst) : Option (Int32 × Hst) :=
  (jb_X6_lotsWith_51 R19 a1 a2 a3 a4 a5 a6 1 h)
def lp_X6_lotsWith_19 : Nat → Int32 → Int32 → Int32 → Int32 → Int32 → Int32 → Hst → Option (Int32 × Hst)
  | 0, _, _, _, _, _, _, _ => none
  | n + 1, a1, a2, a3, a4, a5, a6, h =>
    (if a5 ≤ a6 then
      (some (a4, h))
    else
      (if a3 = 0 then
        (jb_X6_lotsWith_46 (lp_X6_lotsWith_19 n) a1 a2 a3 a4 a5 a6 h)
      else
        gb (f_X5_get_3 a6 5 h) fun x2 h1 =>
        (if x2 = 0 then
          (jb_X6_lotsWith_46 (lp_X6_lotsWith_19 n) a1 a2 a3 a4 a5 a6 h1)
        else
          (jb_X6_lotsWith_51 (lp_X6_lotsWith_19 n) a1 a2 a3 a4 a5 a6 0 h1))))
def f_X6_lotsWith (p0 : Int32) (p1 : Int32) (p2 : Int32) (h : Hst) : Option (Int32 × Hst) :=
  gb (f_X3_get_7 1 h) fun x2 h1 =>
  (lp_X6_lotsWith_19 FU p0 p1 p2 0 x2 0 h1)
set_option maxRecDepth 20000 in
theorem gjb_X6_lotsWith_78 (γ : Gv) (R19 : Int32 → Int32 → Int32 → Int32 → Int32 → Int32 → Hst → Option (Int32 × Hst)) (hR19 : ∀ (a1 : Int32) (a2 : Int32) (a3 : Int32) (a4 : Int32) (a5 : Int32) (a6 : Int32) (h : Hst), G γ RX6 cX6_lotsWith 8 (some .int) [] vI 1 0 19 [(0, .ref (gad γ 0)), (1, .int a1), (2, .int a2), (3, .int a3), (4, .int a4), (5, .int a5), (6, .int a6)] [] h (R19 a1 a2 a3 a4 a5 a6 h)) (a1 : Int32) (a2 : Int32) (a3 : Int32) (a4 : Int32) (a5 : Int32) (a6 : Int32) (h : Hst) : G γ RX6 cX6_lotsWith 8 (some .int) [] vI 1 0 78 [(0, .ref (gad γ 0)), (1, .int a1), (2, .int a2), (3, .int a3), (4, .int a4), (5, .int a5), (6, .int a6)] [] h (jb_X6_lotsWith_78 R19 a1 a2 a3 a4 a5 a6 h) := by
  unfold jb_X6_lotsWith_78
  refine g_iinc (pc := 78) (q := 6) (v := a6 + 1) (lv' := [(6, .int (a6 + 1)), (0, .ref (gad γ 0)), (1, .int a1), (2, .int a2), (3, .int a3), (4, .int a4), (5, .int a5)]) dX6_lotsWith_78 rfl rfl (by decide) rfl ?_
  refine g_goto (pc := 81) (tgt := 19) dX6_lotsWith_81 (by decide) ?_
  exact g_sub [1, 2, 3, 4, 5, 6, 0] rfl (hR19 a1 a2 a3 a4 a5 (a6 + 1) h)
set_option maxRecDepth 20000 in
theorem gjb_X6_lotsWith_51 (γ : Gv) (R19 : Int32 → Int32 → Int32 → Int32 → Int32 → Int32 → Hst → Option (Int32 × Hst)) (hR19 : ∀ (a1 : Int32) (a2 : Int32) (a3 : Int32) (a4 : Int32) (a5 : Int32) (a6 : Int32) (h : Hst), G γ RX6 cX6_lotsWith 8 (some .int) [] vI 1 0 19 [(0, .ref (gad γ 0)), (1, .int a1), (2, .int a2), (3, .int a3), (4, .int a4), (5, .int a5), (6, .int a6)] [] h (R19 a1 a2 a3 a4 a5 a6 h)) (a1 : Int32) (a2 : Int32) (a3 : Int32) (a4 : Int32) (a5 : Int32) (a6 : Int32) (s0 : Int32) (h : Hst) : G γ RX6 cX6_lotsWith 8 (some .int) [] vI 1 0 51 [(0, .ref (gad γ 0)), (1, .int a1), (2, .int a2), (3, .int a3), (4, .int a4), (5, .int a5), (6, .int a6)] [.int s0] h (jb_X6_lotsWith_51 R19 a1 a2 a3 a4 a5 a6 s0 h) := by
  unfold jb_X6_lotsWith_51
  refine g_istore (pc := 51) (lv' := [(7, .int s0), (0, .ref (gad γ 0)), (1, .int a1), (2, .int a2), (3, .int a3), (4, .int a4), (5, .int a5), (6, .int a6)]) dX6_lotsWith_51 (by decide) rfl ?_
  refine g_iload (pc := 53) dX6_lotsWith_53 0 rfl ?_
  refine g_if_eq (pc := 55) (tgt := 78) dX6_lotsWith_55 (by decide) ?_ ?_
  · exact g_sub [1, 2, 3, 4, 5, 6, 7] rfl (gjb_X6_lotsWith_78 γ R19 hR19 a1 a2 a3 a4 a5 a6 h)
  · refine g_aload_n (pc := 58) dX6_lotsWith_58 rfl 1 rfl ?_
    refine gf_RX6_12_0 (pc := 59) dX6_lotsWith_59 ?_
    refine gf_RX6_182_1 (pc := 62) dX6_lotsWith_62 ?_
    refine g_iload (pc := 65) dX6_lotsWith_65 7 rfl ?_
    refine g_iload_n (pc := 67) dX6_lotsWith_67 rfl 2 rfl ?_
    refine g_cI (pc := 68) (st := []) (fun r hr => gRunV (As := [.int a6, .int a1]) 3 (ge_X5_get_3 γ a6 a1 h) hr wv_RX6_116 rfl (Nat.le_of_ble_eq_true rfl) (gat_3 _ _) rfl rfl (Nat.le_of_ble_eq_true rfl) (Nat.le_of_ble_eq_true rfl) dX6_lotsWith_68) (fun x2 h1 => ?_)
    refine g_iload_n (pc := 71) dX6_lotsWith_71 rfl 3 rfl ?_
    refine g_icmp_ne (pc := 72) (tgt := 78) dX6_lotsWith_72 (by decide) ?_ ?_
    · exact g_sub [1, 2, 3, 4, 5, 6, 7] rfl (gjb_X6_lotsWith_78 γ R19 hR19 a1 a2 a3 a4 a5 a6 h1)
    · refine g_iinc (pc := 75) (q := 5) (v := a4 + 1) (lv' := [(4, .int (a4 + 1)), (7, .int s0), (0, .ref (gad γ 0)), (1, .int a1), (2, .int a2), (3, .int a3), (5, .int a5), (6, .int a6)]) dX6_lotsWith_75 rfl rfl (by decide) rfl ?_
      exact g_sub [2, 3, 4, 5, 0, 6, 7] rfl (gjb_X6_lotsWith_78 γ R19 hR19 a1 a2 a3 (a4 + 1) a5 a6 h1)
set_option maxRecDepth 20000 in
theorem gjb_X6_lotsWith_46 (γ : Gv) (R19 : Int32 → Int32 → Int32 → Int32 → Int32 → Int32 → Hst → Option (Int32 × Hst)) (hR19 : ∀ (a1 : Int32) (a2 : Int32) (a3 : Int32) (a4 : Int32) (a5 : Int32) (a6 : Int32) (h : Hst), G γ RX6 cX6_lotsWith 8 (some .int) [] vI 1 0 19 [(0, .ref (gad γ 0)), (1, .int a1), (2, .int a2), (3, .int a3), (4, .int a4), (5, .int a5), (6, .int a6)] [] h (R19 a1 a2 a3 a4 a5 a6 h)) (a1 : Int32) (a2 : Int32) (a3 : Int32) (a4 : Int32) (a5 : Int32) (a6 : Int32) (h : Hst) : G γ RX6 cX6_lotsWith 8 (some .int) [] vI 1 0 46 [(0, .ref (gad γ 0)), (1, .int a1), (2, .int a2), (3, .int a3), (4, .int a4), (5, .int a5), (6, .int a6)] [] h (jb_X6_lotsWith_46 R19 a1 a2 a3 a4 a5 a6 h) := by
  unfold jb_X6_lotsWith_46
  refine g_iconst (pc := 46) (v := 1) dX6_lotsWith_46 (by decide) ?_
  refine g_goto (pc := 47) (tgt := 51) dX6_lotsWith_47 (by decide) ?_
  exact gjb_X6_lotsWith_51 γ R19 hR19 a1 a2 a3 a4 a5 a6 1 h
set_option maxRecDepth 20000 in
theorem glp_X6_lotsWith_19 (γ : Gv)  : ∀ (n : Nat) (a1 : Int32) (a2 : Int32) (a3 : Int32) (a4 : Int32) (a5 : Int32) (a6 : Int32) (h : Hst), G γ RX6 cX6_lotsWith 8 (some .int) [] vI 1 0 19 [(0, .ref (gad γ 0)), (1, .int a1), (2, .int a2), (3, .int a3), (4, .int a4), (5, .int a5), (6, .int a6)] [] h (lp_X6_lotsWith_19 n a1 a2 a3 a4 a5 a6 h) := by
  intro n
  induction n with
  | zero => intro a1 a2 a3 a4 a5 a6 h; exact g_none
  | succ n ih =>
    intro a1 a2 a3 a4 a5 a6 h
    rw [lp_X6_lotsWith_19]
    refine g_iload (pc := 19) dX6_lotsWith_19 6 rfl ?_
    refine g_iload (pc := 21) dX6_lotsWith_21 5 rfl ?_
    refine g_icmp_ge (pc := 23) (tgt := 84) dX6_lotsWith_23 (by decide) ?_ ?_
    · refine g_iload (pc := 84) dX6_lotsWith_84 4 rfl ?_
      exact g_ireturn (pc := 86) (ty := .int) dX6_lotsWith_86 rfl rfl rfl
    · refine g_iload_n (pc := 26) dX6_lotsWith_26 rfl 3 rfl ?_
      refine g_if_eq (pc := 27) (tgt := 46) dX6_lotsWith_27 (by decide) ?_ ?_
      · exact gjb_X6_lotsWith_46 γ (lp_X6_lotsWith_19 n) ih a1 a2 a3 a4 a5 a6 h
      · refine g_aload_n (pc := 30) dX6_lotsWith_30 rfl 0 rfl ?_
        refine gf_RX6_12_0 (pc := 31) dX6_lotsWith_31 ?_
        refine gf_RX6_182_1 (pc := 34) dX6_lotsWith_34 ?_
        refine g_iload (pc := 37) dX6_lotsWith_37 6 rfl ?_
        refine g_iconst (pc := 39) (v := 5) dX6_lotsWith_39 (by decide) ?_
        refine g_cI (pc := 40) (st := []) (fun r hr => gRunV (As := [.int a6, .int 5]) 3 (ge_X5_get_3 γ a6 5 h) hr wv_RX6_116 rfl (Nat.le_of_ble_eq_true rfl) (gat_3 _ _) rfl rfl (Nat.le_of_ble_eq_true rfl) (Nat.le_of_ble_eq_true rfl) dX6_lotsWith_40) (fun x2 h1 => ?_)
        refine g_if_ne (pc := 43) (tgt := 50) dX6_lotsWith_43 (by decide) ?_ ?_
        · refine g_iconst (pc := 50) (v := 0) dX6_lotsWith_50 (by decide) ?_
          exact gjb_X6_lotsWith_51 γ (lp_X6_lotsWith_19 n) ih a1 a2 a3 a4 a5 a6 0 h1
        · exact gjb_X6_lotsWith_46 γ (lp_X6_lotsWith_19 n) ih a1 a2 a3 a4 a5 a6 h1
set_option maxRecDepth 20000 in
theorem ge_X6_lotsWith (γ : Gv) (p0 : Int32) (p1 : Int32) (p2 : Int32) (h : Hst) : G γ RX6 cX6_lotsWith 8 (some .int) [] vI 1 0 0 (lv_args 0 [.ref (gad γ 0), .int p0, .int p1, .int p2]) [] h (f_X6_lotsWith p0 p1 p2 h) := by
  show G γ RX6 cX6_lotsWith 8 (some .int) [] vI 1 0 0 [(0, .ref (gad γ 0)), (1, .int p0), (2, .int p1), (3, .int p2)] [] h (f_X6_lotsWith p0 p1 p2 h)
  unfold f_X6_lotsWith
  refine g_iconst (pc := 0) (v := 0) dX6_lotsWith_0 (by decide) ?_
  refine g_istore (pc := 1) (lv' := [(4, .int 0), (0, .ref (gad γ 0)), (1, .int p0), (2, .int p1), (3, .int p2)]) dX6_lotsWith_1 (by decide) rfl ?_
  refine g_aload_n (pc := 3) dX6_lotsWith_3 rfl 1 rfl ?_
  refine gf_RX6_12_0 (pc := 4) dX6_lotsWith_4 ?_
  refine gf_RX6_47_1 (pc := 7) dX6_lotsWith_7 ?_
  refine g_iconst (pc := 10) (v := 1) dX6_lotsWith_10 (by decide) ?_
  refine g_cI (pc := 11) (st := []) (fun r hr => gRunV (As := [.int 1]) 7 (ge_X3_get_7 γ 1 h) hr wv_RX6_51 rfl (Nat.le_of_ble_eq_true rfl) (gat_7 _ _) rfl rfl (Nat.le_of_ble_eq_true rfl) (Nat.le_of_ble_eq_true rfl) dX6_lotsWith_11) (fun x2 h1 => ?_)
  refine g_istore (pc := 14) (lv' := [(5, .int x2), (4, .int 0), (0, .ref (gad γ 0)), (1, .int p0), (2, .int p1), (3, .int p2)]) dX6_lotsWith_14 (by decide) rfl ?_
  refine g_iconst (pc := 16) (v := 0) dX6_lotsWith_16 (by decide) ?_
  refine g_istore (pc := 17) (lv' := [(6, .int 0), (5, .int x2), (4, .int 0), (0, .ref (gad γ 0)), (1, .int p0), (2, .int p1), (3, .int p2)]) dX6_lotsWith_17 (by decide) rfl ?_
  exact g_sub [3, 4, 5, 6, 2, 1, 0] rfl (glp_X6_lotsWith_19 γ FU p0 p1 p2 0 x2 0 h1)
def f_X6_grower (p0 : Int32) (p1 : Int32) (h : Hst) : Option ((Int32 × Hst) ⊕ (Nat × Hst)) :=
  (gbvx (f_X6_checkGrower p0 h) (fun h1 =>
    (if p1 = 0 then
      gb (f_X5_get_2 p0 0 h1) fun x3 h2 =>
      (some (.inl (x3, h2)))
    else
    (if p1 = 1 then
      gb (f_X6_lotsWith 0 p0 0 h1) fun x5 h4 =>
      (some (.inl (x5, h4)))
    else
    (if p1 = 2 then
      gb (f_X6_lotsWith 0 p0 1 h1) fun x7 h6 =>
      (some (.inl (x7, h6)))
    else
    (if p1 = 3 then
      gb (f_X5_get_2 p0 1 h1) fun x9 h8 =>
      (some (.inl (x9, h8)))
    else
    (if p1 = 4 then
      gb (f_X5_get_2 p0 2 h1) fun x11 h10 =>
      (some (.inl (x11, h10)))
    else
    (if p1 = 5 then
      gb (f_X5_get_2 p0 3 h1) fun x13 h12 =>
      (some (.inl (x13, h12)))
    else
    (some (.inr (1, h1)))))))))) (fun E h14 => some (.inr (E, h14))))
set_option maxRecDepth 20000 in
theorem ge_X6_grower (γ : Gv) (p0 : Int32) (p1 : Int32) (h : Hst) : G γ RX6 cX6_grower 3 (some .int) [] vIX 7 0 0 (lv_args 0 [.ref (gad γ 0), .int p0, .int p1]) [] h (f_X6_grower p0 p1 h) := by
  show G γ RX6 cX6_grower 3 (some .int) [] vIX 7 0 0 [(0, .ref (gad γ 0)), (1, .int p0), (2, .int p1)] [] h (f_X6_grower p0 p1 h)
  unfold f_X6_grower
  refine g_aload_n (pc := 0) dX6_grower_0 rfl 0 rfl ?_
  refine g_iload_n (pc := 1) dX6_grower_1 rfl 1 rfl ?_
  refine g_cVX (pc := 2) (st := []) (fun r hr => gRunV (As := [.int p0]) 0 (ge_X6_checkGrower γ p0 h) hr wv_RX6_71 rfl (Nat.le_of_ble_eq_true rfl) (gat_0 _ _) rfl rfl (Nat.le_of_ble_eq_true rfl) (Nat.le_of_ble_eq_true rfl) dX6_grower_2) (fun h1 => ?_) (fun E h14 hrun => gRun.out hrun rfl rfl (fun y hy => by cases hy; rfl) (fun x hx => nomatch hx))
  refine g_iload_n (pc := 5) dX6_grower_5 rfl 2 rfl ?_
  refine g_case (c := p1 = 0) (fun c0 => ?_) (fun c0 => ?_)
  · refine g_tswI (pc := 6) (tgt := 44) (off := 38) dX6_grower_6 (by rw [c0]; decide) (by rw [c0]; decide) (by rw [c0]; decide) (by decide) ?_
    refine g_aload_n (pc := 44) dX6_grower_44 rfl 0 rfl ?_
    refine gf_RX6_12_0 (pc := 45) dX6_grower_45 ?_
    refine gf_RX6_200_1 (pc := 48) dX6_grower_48 ?_
    refine g_iload_n (pc := 51) dX6_grower_51 rfl 1 rfl ?_
    refine g_iconst (pc := 52) (v := 0) dX6_grower_52 (by decide) ?_
    refine g_cI (pc := 53) (st := []) (fun r hr => gRunV (As := [.int p0, .int 0]) 2 (ge_X5_get_2 γ p0 0 h1) hr wv_RX6_116 rfl (Nat.le_of_ble_eq_true rfl) (gat_2 _ _) rfl rfl (Nat.le_of_ble_eq_true rfl) (Nat.le_of_ble_eq_true rfl) dX6_grower_53) (fun x3 h2 => ?_)
    exact g_ireturn (pc := 56) (ty := .int) dX6_grower_56 rfl rfl rfl
  refine g_case (c := p1 = 1) (fun c1 => ?_) (fun c1 => ?_)
  · refine g_tswI (pc := 6) (tgt := 57) (off := 51) dX6_grower_6 (by rw [c1]; decide) (by rw [c1]; decide) (by rw [c1]; decide) (by decide) ?_
    refine g_aload_n (pc := 57) dX6_grower_57 rfl 0 rfl ?_
    refine g_iconst (pc := 58) (v := 0) dX6_grower_58 (by decide) ?_
    refine g_iload_n (pc := 59) dX6_grower_59 rfl 1 rfl ?_
    refine g_iconst (pc := 60) (v := 0) dX6_grower_60 (by decide) ?_
    refine g_cI (pc := 61) (st := []) (fun r hr => gRunV (As := [.int 0, .int p0, .int 0]) 0 (ge_X6_lotsWith γ 0 p0 0 h1) hr wv_RX6_268 rfl (Nat.le_of_ble_eq_true rfl) (gat_0 _ _) rfl rfl (Nat.le_of_ble_eq_true rfl) (Nat.le_of_ble_eq_true rfl) dX6_grower_61) (fun x5 h4 => ?_)
    exact g_ireturn (pc := 64) (ty := .int) dX6_grower_64 rfl rfl rfl
  refine g_case (c := p1 = 2) (fun c2 => ?_) (fun c2 => ?_)
  · refine g_tswI (pc := 6) (tgt := 65) (off := 59) dX6_grower_6 (by rw [c2]; decide) (by rw [c2]; decide) (by rw [c2]; decide) (by decide) ?_
    refine g_aload_n (pc := 65) dX6_grower_65 rfl 0 rfl ?_
    refine g_iconst (pc := 66) (v := 0) dX6_grower_66 (by decide) ?_
    refine g_iload_n (pc := 67) dX6_grower_67 rfl 1 rfl ?_
    refine g_iconst (pc := 68) (v := 1) dX6_grower_68 (by decide) ?_
    refine g_cI (pc := 69) (st := []) (fun r hr => gRunV (As := [.int 0, .int p0, .int 1]) 0 (ge_X6_lotsWith γ 0 p0 1 h1) hr wv_RX6_268 rfl (Nat.le_of_ble_eq_true rfl) (gat_0 _ _) rfl rfl (Nat.le_of_ble_eq_true rfl) (Nat.le_of_ble_eq_true rfl) dX6_grower_69) (fun x7 h6 => ?_)
    exact g_ireturn (pc := 72) (ty := .int) dX6_grower_72 rfl rfl rfl
  refine g_case (c := p1 = 3) (fun c3 => ?_) (fun c3 => ?_)
  · refine g_tswI (pc := 6) (tgt := 73) (off := 67) dX6_grower_6 (by rw [c3]; decide) (by rw [c3]; decide) (by rw [c3]; decide) (by decide) ?_
    refine g_aload_n (pc := 73) dX6_grower_73 rfl 0 rfl ?_
    refine gf_RX6_12_0 (pc := 74) dX6_grower_74 ?_
    refine gf_RX6_200_1 (pc := 77) dX6_grower_77 ?_
    refine g_iload_n (pc := 80) dX6_grower_80 rfl 1 rfl ?_
    refine g_iconst (pc := 81) (v := 1) dX6_grower_81 (by decide) ?_
    refine g_cI (pc := 82) (st := []) (fun r hr => gRunV (As := [.int p0, .int 1]) 2 (ge_X5_get_2 γ p0 1 h1) hr wv_RX6_116 rfl (Nat.le_of_ble_eq_true rfl) (gat_2 _ _) rfl rfl (Nat.le_of_ble_eq_true rfl) (Nat.le_of_ble_eq_true rfl) dX6_grower_82) (fun x9 h8 => ?_)
    exact g_ireturn (pc := 85) (ty := .int) dX6_grower_85 rfl rfl rfl
  refine g_case (c := p1 = 4) (fun c4 => ?_) (fun c4 => ?_)
  · refine g_tswI (pc := 6) (tgt := 86) (off := 80) dX6_grower_6 (by rw [c4]; decide) (by rw [c4]; decide) (by rw [c4]; decide) (by decide) ?_
    refine g_aload_n (pc := 86) dX6_grower_86 rfl 0 rfl ?_
    refine gf_RX6_12_0 (pc := 87) dX6_grower_87 ?_
    refine gf_RX6_200_1 (pc := 90) dX6_grower_90 ?_
    refine g_iload_n (pc := 93) dX6_grower_93 rfl 1 rfl ?_
    refine g_iconst (pc := 94) (v := 2) dX6_grower_94 (by decide) ?_
    refine g_cI (pc := 95) (st := []) (fun r hr => gRunV (As := [.int p0, .int 2]) 2 (ge_X5_get_2 γ p0 2 h1) hr wv_RX6_116 rfl (Nat.le_of_ble_eq_true rfl) (gat_2 _ _) rfl rfl (Nat.le_of_ble_eq_true rfl) (Nat.le_of_ble_eq_true rfl) dX6_grower_95) (fun x11 h10 => ?_)
    exact g_ireturn (pc := 98) (ty := .int) dX6_grower_98 rfl rfl rfl
  refine g_case (c := p1 = 5) (fun c5 => ?_) (fun c5 => ?_)
  · refine g_tswI (pc := 6) (tgt := 99) (off := 93) dX6_grower_6 (by rw [c5]; decide) (by rw [c5]; decide) (by rw [c5]; decide) (by decide) ?_
    refine g_aload_n (pc := 99) dX6_grower_99 rfl 0 rfl ?_
    refine gf_RX6_12_0 (pc := 100) dX6_grower_100 ?_
    refine gf_RX6_200_1 (pc := 103) dX6_grower_103 ?_
    refine g_iload_n (pc := 106) dX6_grower_106 rfl 1 rfl ?_
    refine g_iconst (pc := 107) (v := 3) dX6_grower_107 (by decide) ?_
    refine g_cI (pc := 108) (st := []) (fun r hr => gRunV (As := [.int p0, .int 3]) 2 (ge_X5_get_2 γ p0 3 h1) hr wv_RX6_116 rfl (Nat.le_of_ble_eq_true rfl) (gat_2 _ _) rfl rfl (Nat.le_of_ble_eq_true rfl) (Nat.le_of_ble_eq_true rfl) dX6_grower_108) (fun x13 h12 => ?_)
    exact g_ireturn (pc := 111) (ty := .int) dX6_grower_111 rfl rfl rfl
  refine g_tswO (pc := 6) (tgt := 112) dX6_grower_6 (by have k := fun (v : Int32) (n : Int) (e : v.toInt = n) (c : ¬ p1 = v) => gne e c; have k0 := k 0 0 (by decide) c0; have k1 := k 1 1 (by decide) c1; have k2 := k 2 2 (by decide) c2; have k3 := k 3 3 (by decide) c3; have k4 := k 4 4 (by decide) c4; have k5 := k 5 5 (by decide) c5; omega) (by decide) ?_
  exact g_throwSW 1 (by decide +kernel) wcl_RX6_83 wini_1 wat_RX6_87_1 rfl (by decide +kernel : (272, "what is not 0 to 5") ∈ gstrs) (Nat.le_of_ble_eq_true rfl) (fun x hx => nomatch hx) dX6_grower_112 dX6_grower_115 dX6_grower_116 dX6_grower_119 dX6_grower_122 (fun z hz => by cases hz; rfl)
def jb_X6_ifPressed_32  (s0 : Int32) (h : Hst) : Option (Int32 × Hst) :=
  (some (s0, h))
def f_X6_ifPressed (p0 : Int32) (p1 : Int32) (p2 : Int32) (h : Hst) : Option (Int32 × Hst) :=
  gb (f_X5_get_3 p0 5 h) fun x2 h1 =>
  (if x2 < p1 then
    (jb_X6_ifPressed_32 (-1) h1)
  else
    gb (f_X5_get_3 p0 p2 h1) fun x4 h3 =>
    (jb_X6_ifPressed_32 x4 h3))
set_option maxRecDepth 20000 in
theorem gjb_X6_ifPressed_32 (γ : Gv)  (s0 : Int32) (h : Hst) : G γ RX6 cX6_ifPressed 4 (some .int) [] vI 1 0 32 [] [.int s0] h (jb_X6_ifPressed_32 s0 h) := by
  unfold jb_X6_ifPressed_32
  exact g_ireturn (pc := 32) (ty := .int) dX6_ifPressed_32 rfl rfl rfl
set_option maxRecDepth 20000 in
theorem ge_X6_ifPressed (γ : Gv) (p0 : Int32) (p1 : Int32) (p2 : Int32) (h : Hst) : G γ RX6 cX6_ifPressed 4 (some .int) [] vI 1 0 0 (lv_args 0 [.ref (gad γ 0), .int p0, .int p1, .int p2]) [] h (f_X6_ifPressed p0 p1 p2 h) := by
  show G γ RX6 cX6_ifPressed 4 (some .int) [] vI 1 0 0 [(0, .ref (gad γ 0)), (1, .int p0), (2, .int p1), (3, .int p2)] [] h (f_X6_ifPressed p0 p1 p2 h)
  unfold f_X6_ifPressed
  refine g_aload_n (pc := 0) dX6_ifPressed_0 rfl 0 rfl ?_
  refine gf_RX6_12_0 (pc := 1) dX6_ifPressed_1 ?_
  refine gf_RX6_182_1 (pc := 4) dX6_ifPressed_4 ?_
  refine g_iload_n (pc := 7) dX6_ifPressed_7 rfl 1 rfl ?_
  refine g_iconst (pc := 8) (v := 5) dX6_ifPressed_8 (by decide) ?_
  refine g_cI (pc := 9) (st := []) (fun r hr => gRunV (As := [.int p0, .int 5]) 3 (ge_X5_get_3 γ p0 5 h) hr wv_RX6_116 rfl (Nat.le_of_ble_eq_true rfl) (gat_3 _ _) rfl rfl (Nat.le_of_ble_eq_true rfl) (Nat.le_of_ble_eq_true rfl) dX6_ifPressed_9) (fun x2 h1 => ?_)
  refine g_iload_n (pc := 12) dX6_ifPressed_12 rfl 2 rfl ?_
  refine g_icmp_lt (pc := 13) (tgt := 31) dX6_ifPressed_13 (by decide) ?_ ?_
  · refine g_iconst (pc := 31) (v := (-1)) dX6_ifPressed_31 (by decide) ?_
    exact g_sub [] rfl (gjb_X6_ifPressed_32 γ (-1) h1)
  · refine g_aload_n (pc := 16) dX6_ifPressed_16 rfl 0 rfl ?_
    refine gf_RX6_12_0 (pc := 17) dX6_ifPressed_17 ?_
    refine gf_RX6_182_1 (pc := 20) dX6_ifPressed_20 ?_
    refine g_iload_n (pc := 23) dX6_ifPressed_23 rfl 1 rfl ?_
    refine g_iload_n (pc := 24) dX6_ifPressed_24 rfl 3 rfl ?_
    refine g_cI (pc := 25) (st := []) (fun r hr => gRunV (As := [.int p0, .int p2]) 3 (ge_X5_get_3 γ p0 p2 h1) hr wv_RX6_116 rfl (Nat.le_of_ble_eq_true rfl) (gat_3 _ _) rfl rfl (Nat.le_of_ble_eq_true rfl) (Nat.le_of_ble_eq_true rfl) dX6_ifPressed_25) (fun x4 h3 => ?_)
    refine g_goto (pc := 28) (tgt := 32) dX6_ifPressed_28 (by decide) ?_
    exact g_sub [] rfl (gjb_X6_ifPressed_32 γ x4 h3)
def f_X6_lot (p0 : Int32) (p1 : Int32) (h : Hst) : Option ((Int32 × Hst) ⊕ (Nat × Hst)) :=
  (gbvx (f_X6_checkLot p0 h) (fun h1 =>
    (if p1 = 0 then
      gb (f_X5_get_3 p0 0 h1) fun x3 h2 =>
      (some (.inl (x3, h2)))
    else
    (if p1 = 1 then
      gb (f_X5_get_3 p0 1 h1) fun x5 h4 =>
      (some (.inl (x5, h4)))
    else
    (if p1 = 2 then
      gb (f_X5_get_3 p0 2 h1) fun x7 h6 =>
      (some (.inl (x7, h6)))
    else
    (if p1 = 3 then
      gb (f_X5_get_3 p0 3 h1) fun x9 h8 =>
      (some (.inl (x9, h8)))
    else
    (if p1 = 4 then
      gb (f_X0_gradeOfLot p0 h1) fun x11 h10 =>
      (some (.inl (x11, h10)))
    else
    (if p1 = 5 then
      gb (f_X5_get_3 p0 5 h1) fun x13 h12 =>
      (some (.inl (x13, h12)))
    else
    (if p1 = 6 then
      gb (f_X6_ifPressed p0 1 6 h1) fun x15 h14 =>
      (some (.inl (x15, h14)))
    else
    (if p1 = 7 then
      gb (f_X6_ifPressed p0 1 8 h1) fun x17 h16 =>
      (some (.inl (x17, h16)))
    else
    (if p1 = 8 then
      gb (f_X6_ifPressed p0 2 9 h1) fun x19 h18 =>
      (some (.inl (x19, h18)))
    else
    (if p1 = 9 then
      gb (f_X6_ifPressed p0 1 10 h1) fun x21 h20 =>
      (some (.inl (x21, h20)))
    else
    (if p1 = 10 then
      gb (f_X6_reasonAgainstAppeal p0 h1) fun x23 h22 =>
      (some (.inl (x23, h22)))
    else
    (some (.inr (1, h1))))))))))))))) (fun E h24 => some (.inr (E, h24))))
set_option maxRecDepth 20000 in
theorem ge_X6_lot (γ : Gv) (p0 : Int32) (p1 : Int32) (h : Hst) : G γ RX6 cX6_lot 3 (some .int) [] vIX 7 0 0 (lv_args 0 [.ref (gad γ 0), .int p0, .int p1]) [] h (f_X6_lot p0 p1 h) := by
  show G γ RX6 cX6_lot 3 (some .int) [] vIX 7 0 0 [(0, .ref (gad γ 0)), (1, .int p0), (2, .int p1)] [] h (f_X6_lot p0 p1 h)
  unfold f_X6_lot
  refine g_aload_n (pc := 0) dX6_lot_0 rfl 0 rfl ?_
  refine g_iload_n (pc := 1) dX6_lot_1 rfl 1 rfl ?_
  refine g_cVX (pc := 2) (st := []) (fun r hr => gRunV (As := [.int p0]) 0 (ge_X6_checkLot γ p0 h) hr wv_RX6_171 rfl (Nat.le_of_ble_eq_true rfl) (gat_0 _ _) rfl rfl (Nat.le_of_ble_eq_true rfl) (Nat.le_of_ble_eq_true rfl) dX6_lot_2) (fun h1 => ?_) (fun E h24 hrun => gRun.out hrun rfl rfl (fun y hy => by cases hy; rfl) (fun x hx => nomatch hx))
  refine g_iload_n (pc := 5) dX6_lot_5 rfl 2 rfl ?_
  refine g_case (c := p1 = 0) (fun c0 => ?_) (fun c0 => ?_)
  · refine g_tswI (pc := 6) (tgt := 64) (off := 58) dX6_lot_6 (by rw [c0]; decide) (by rw [c0]; decide) (by rw [c0]; decide) (by decide) ?_
    refine g_aload_n (pc := 64) dX6_lot_64 rfl 0 rfl ?_
    refine gf_RX6_12_0 (pc := 65) dX6_lot_65 ?_
    refine gf_RX6_182_1 (pc := 68) dX6_lot_68 ?_
    refine g_iload_n (pc := 71) dX6_lot_71 rfl 1 rfl ?_
    refine g_iconst (pc := 72) (v := 0) dX6_lot_72 (by decide) ?_
    refine g_cI (pc := 73) (st := []) (fun r hr => gRunV (As := [.int p0, .int 0]) 3 (ge_X5_get_3 γ p0 0 h1) hr wv_RX6_116 rfl (Nat.le_of_ble_eq_true rfl) (gat_3 _ _) rfl rfl (Nat.le_of_ble_eq_true rfl) (Nat.le_of_ble_eq_true rfl) dX6_lot_73) (fun x3 h2 => ?_)
    exact g_ireturn (pc := 76) (ty := .int) dX6_lot_76 rfl rfl rfl
  refine g_case (c := p1 = 1) (fun c1 => ?_) (fun c1 => ?_)
  · refine g_tswI (pc := 6) (tgt := 77) (off := 71) dX6_lot_6 (by rw [c1]; decide) (by rw [c1]; decide) (by rw [c1]; decide) (by decide) ?_
    refine g_aload_n (pc := 77) dX6_lot_77 rfl 0 rfl ?_
    refine gf_RX6_12_0 (pc := 78) dX6_lot_78 ?_
    refine gf_RX6_182_1 (pc := 81) dX6_lot_81 ?_
    refine g_iload_n (pc := 84) dX6_lot_84 rfl 1 rfl ?_
    refine g_iconst (pc := 85) (v := 1) dX6_lot_85 (by decide) ?_
    refine g_cI (pc := 86) (st := []) (fun r hr => gRunV (As := [.int p0, .int 1]) 3 (ge_X5_get_3 γ p0 1 h1) hr wv_RX6_116 rfl (Nat.le_of_ble_eq_true rfl) (gat_3 _ _) rfl rfl (Nat.le_of_ble_eq_true rfl) (Nat.le_of_ble_eq_true rfl) dX6_lot_86) (fun x5 h4 => ?_)
    exact g_ireturn (pc := 89) (ty := .int) dX6_lot_89 rfl rfl rfl
  refine g_case (c := p1 = 2) (fun c2 => ?_) (fun c2 => ?_)
  · refine g_tswI (pc := 6) (tgt := 90) (off := 84) dX6_lot_6 (by rw [c2]; decide) (by rw [c2]; decide) (by rw [c2]; decide) (by decide) ?_
    refine g_aload_n (pc := 90) dX6_lot_90 rfl 0 rfl ?_
    refine gf_RX6_12_0 (pc := 91) dX6_lot_91 ?_
    refine gf_RX6_182_1 (pc := 94) dX6_lot_94 ?_
    refine g_iload_n (pc := 97) dX6_lot_97 rfl 1 rfl ?_
    refine g_iconst (pc := 98) (v := 2) dX6_lot_98 (by decide) ?_
    refine g_cI (pc := 99) (st := []) (fun r hr => gRunV (As := [.int p0, .int 2]) 3 (ge_X5_get_3 γ p0 2 h1) hr wv_RX6_116 rfl (Nat.le_of_ble_eq_true rfl) (gat_3 _ _) rfl rfl (Nat.le_of_ble_eq_true rfl) (Nat.le_of_ble_eq_true rfl) dX6_lot_99) (fun x7 h6 => ?_)
    exact g_ireturn (pc := 102) (ty := .int) dX6_lot_102 rfl rfl rfl
  refine g_case (c := p1 = 3) (fun c3 => ?_) (fun c3 => ?_)
  · refine g_tswI (pc := 6) (tgt := 103) (off := 97) dX6_lot_6 (by rw [c3]; decide) (by rw [c3]; decide) (by rw [c3]; decide) (by decide) ?_
    refine g_aload_n (pc := 103) dX6_lot_103 rfl 0 rfl ?_
    refine gf_RX6_12_0 (pc := 104) dX6_lot_104 ?_
    refine gf_RX6_182_1 (pc := 107) dX6_lot_107 ?_
    refine g_iload_n (pc := 110) dX6_lot_110 rfl 1 rfl ?_
    refine g_iconst (pc := 111) (v := 3) dX6_lot_111 (by decide) ?_
    refine g_cI (pc := 112) (st := []) (fun r hr => gRunV (As := [.int p0, .int 3]) 3 (ge_X5_get_3 γ p0 3 h1) hr wv_RX6_116 rfl (Nat.le_of_ble_eq_true rfl) (gat_3 _ _) rfl rfl (Nat.le_of_ble_eq_true rfl) (Nat.le_of_ble_eq_true rfl) dX6_lot_112) (fun x9 h8 => ?_)
    exact g_ireturn (pc := 115) (ty := .int) dX6_lot_115 rfl rfl rfl
  refine g_case (c := p1 = 4) (fun c4 => ?_) (fun c4 => ?_)
  · refine g_tswI (pc := 6) (tgt := 116) (off := 110) dX6_lot_6 (by rw [c4]; decide) (by rw [c4]; decide) (by rw [c4]; decide) (by decide) ?_
    refine g_aload_n (pc := 116) dX6_lot_116 rfl 0 rfl ?_
    refine gf_RX6_12_0 (pc := 117) dX6_lot_117 ?_
    refine g_iload_n (pc := 120) dX6_lot_120 rfl 1 rfl ?_
    refine g_cI (pc := 121) (st := []) (fun r hr => gRunV (As := [.int p0]) 1 (ge_X0_gradeOfLot γ p0 h1) hr wv_RX6_187 rfl (Nat.le_of_ble_eq_true rfl) (gat_1 _ _) rfl rfl (Nat.le_of_ble_eq_true rfl) (Nat.le_of_ble_eq_true rfl) dX6_lot_121) (fun x11 h10 => ?_)
    exact g_ireturn (pc := 124) (ty := .int) dX6_lot_124 rfl rfl rfl
  refine g_case (c := p1 = 5) (fun c5 => ?_) (fun c5 => ?_)
  · refine g_tswI (pc := 6) (tgt := 125) (off := 119) dX6_lot_6 (by rw [c5]; decide) (by rw [c5]; decide) (by rw [c5]; decide) (by decide) ?_
    refine g_aload_n (pc := 125) dX6_lot_125 rfl 0 rfl ?_
    refine gf_RX6_12_0 (pc := 126) dX6_lot_126 ?_
    refine gf_RX6_182_1 (pc := 129) dX6_lot_129 ?_
    refine g_iload_n (pc := 132) dX6_lot_132 rfl 1 rfl ?_
    refine g_iconst (pc := 133) (v := 5) dX6_lot_133 (by decide) ?_
    refine g_cI (pc := 134) (st := []) (fun r hr => gRunV (As := [.int p0, .int 5]) 3 (ge_X5_get_3 γ p0 5 h1) hr wv_RX6_116 rfl (Nat.le_of_ble_eq_true rfl) (gat_3 _ _) rfl rfl (Nat.le_of_ble_eq_true rfl) (Nat.le_of_ble_eq_true rfl) dX6_lot_134) (fun x13 h12 => ?_)
    exact g_ireturn (pc := 137) (ty := .int) dX6_lot_137 rfl rfl rfl
  refine g_case (c := p1 = 6) (fun c6 => ?_) (fun c6 => ?_)
  · refine g_tswI (pc := 6) (tgt := 138) (off := 132) dX6_lot_6 (by rw [c6]; decide) (by rw [c6]; decide) (by rw [c6]; decide) (by decide) ?_
    refine g_aload_n (pc := 138) dX6_lot_138 rfl 0 rfl ?_
    refine g_iload_n (pc := 139) dX6_lot_139 rfl 1 rfl ?_
    refine g_iconst (pc := 140) (v := 1) dX6_lot_140 (by decide) ?_
    refine g_bipush (pc := 141) (v := 6) dX6_lot_141 (by decide) ?_
    refine g_cI (pc := 143) (st := []) (fun r hr => gRunV (As := [.int p0, .int 1, .int 6]) 0 (ge_X6_ifPressed γ p0 1 6 h1) hr wv_RX6_274 rfl (Nat.le_of_ble_eq_true rfl) (gat_0 _ _) rfl rfl (Nat.le_of_ble_eq_true rfl) (Nat.le_of_ble_eq_true rfl) dX6_lot_143) (fun x15 h14 => ?_)
    exact g_ireturn (pc := 146) (ty := .int) dX6_lot_146 rfl rfl rfl
  refine g_case (c := p1 = 7) (fun c7 => ?_) (fun c7 => ?_)
  · refine g_tswI (pc := 6) (tgt := 147) (off := 141) dX6_lot_6 (by rw [c7]; decide) (by rw [c7]; decide) (by rw [c7]; decide) (by decide) ?_
    refine g_aload_n (pc := 147) dX6_lot_147 rfl 0 rfl ?_
    refine g_iload_n (pc := 148) dX6_lot_148 rfl 1 rfl ?_
    refine g_iconst (pc := 149) (v := 1) dX6_lot_149 (by decide) ?_
    refine g_bipush (pc := 150) (v := 8) dX6_lot_150 (by decide) ?_
    refine g_cI (pc := 152) (st := []) (fun r hr => gRunV (As := [.int p0, .int 1, .int 8]) 0 (ge_X6_ifPressed γ p0 1 8 h1) hr wv_RX6_274 rfl (Nat.le_of_ble_eq_true rfl) (gat_0 _ _) rfl rfl (Nat.le_of_ble_eq_true rfl) (Nat.le_of_ble_eq_true rfl) dX6_lot_152) (fun x17 h16 => ?_)
    exact g_ireturn (pc := 155) (ty := .int) dX6_lot_155 rfl rfl rfl
  refine g_case (c := p1 = 8) (fun c8 => ?_) (fun c8 => ?_)
  · refine g_tswI (pc := 6) (tgt := 156) (off := 150) dX6_lot_6 (by rw [c8]; decide) (by rw [c8]; decide) (by rw [c8]; decide) (by decide) ?_
    refine g_aload_n (pc := 156) dX6_lot_156 rfl 0 rfl ?_
    refine g_iload_n (pc := 157) dX6_lot_157 rfl 1 rfl ?_
    refine g_iconst (pc := 158) (v := 2) dX6_lot_158 (by decide) ?_
    refine g_bipush (pc := 159) (v := 9) dX6_lot_159 (by decide) ?_
    refine g_cI (pc := 161) (st := []) (fun r hr => gRunV (As := [.int p0, .int 2, .int 9]) 0 (ge_X6_ifPressed γ p0 2 9 h1) hr wv_RX6_274 rfl (Nat.le_of_ble_eq_true rfl) (gat_0 _ _) rfl rfl (Nat.le_of_ble_eq_true rfl) (Nat.le_of_ble_eq_true rfl) dX6_lot_161) (fun x19 h18 => ?_)
    exact g_ireturn (pc := 164) (ty := .int) dX6_lot_164 rfl rfl rfl
  refine g_case (c := p1 = 9) (fun c9 => ?_) (fun c9 => ?_)
  · refine g_tswI (pc := 6) (tgt := 165) (off := 159) dX6_lot_6 (by rw [c9]; decide) (by rw [c9]; decide) (by rw [c9]; decide) (by decide) ?_
    refine g_aload_n (pc := 165) dX6_lot_165 rfl 0 rfl ?_
    refine g_iload_n (pc := 166) dX6_lot_166 rfl 1 rfl ?_
    refine g_iconst (pc := 167) (v := 1) dX6_lot_167 (by decide) ?_
    refine g_bipush (pc := 168) (v := 10) dX6_lot_168 (by decide) ?_
    refine g_cI (pc := 170) (st := []) (fun r hr => gRunV (As := [.int p0, .int 1, .int 10]) 0 (ge_X6_ifPressed γ p0 1 10 h1) hr wv_RX6_274 rfl (Nat.le_of_ble_eq_true rfl) (gat_0 _ _) rfl rfl (Nat.le_of_ble_eq_true rfl) (Nat.le_of_ble_eq_true rfl) dX6_lot_170) (fun x21 h20 => ?_)
    exact g_ireturn (pc := 173) (ty := .int) dX6_lot_173 rfl rfl rfl
  refine g_case (c := p1 = 10) (fun c10 => ?_) (fun c10 => ?_)
  · refine g_tswI (pc := 6) (tgt := 174) (off := 168) dX6_lot_6 (by rw [c10]; decide) (by rw [c10]; decide) (by rw [c10]; decide) (by decide) ?_
    refine g_aload_n (pc := 174) dX6_lot_174 rfl 0 rfl ?_
    refine g_iload_n (pc := 175) dX6_lot_175 rfl 1 rfl ?_
    refine g_cI (pc := 176) (st := []) (fun r hr => gRunV (As := [.int p0]) 0 (ge_X6_reasonAgainstAppeal γ p0 h1) hr wv_RX6_174 rfl (Nat.le_of_ble_eq_true rfl) (gat_0 _ _) rfl rfl (Nat.le_of_ble_eq_true rfl) (Nat.le_of_ble_eq_true rfl) dX6_lot_176) (fun x23 h22 => ?_)
    exact g_ireturn (pc := 179) (ty := .int) dX6_lot_179 rfl rfl rfl
  refine g_tswO (pc := 6) (tgt := 180) dX6_lot_6 (by have k := fun (v : Int32) (n : Int) (e : v.toInt = n) (c : ¬ p1 = v) => gne e c; have k0 := k 0 0 (by decide) c0; have k1 := k 1 1 (by decide) c1; have k2 := k 2 2 (by decide) c2; have k3 := k 3 3 (by decide) c3; have k4 := k 4 4 (by decide) c4; have k5 := k 5 5 (by decide) c5; have k6 := k 6 6 (by decide) c6; have k7 := k 7 7 (by decide) c7; have k8 := k 8 8 (by decide) c8; have k9 := k 9 9 (by decide) c9; have k10 := k 10 10 (by decide) c10; omega) (by decide) ?_
  exact g_throwSW 1 (by decide +kernel) wcl_RX6_83 wini_1 wat_RX6_87_1 rfl (by decide +kernel : (277, "what is not 0 to 10") ∈ gstrs) (Nat.le_of_ble_eq_true rfl) (fun x hx => nomatch hx) dX6_lot_180 dX6_lot_183 dX6_lot_184 dX6_lot_187 dX6_lot_190 (fun z hz => by cases hz; rfl)
def f_X6_tank (p0 : Int32) (p1 : Int32) (h : Hst) : Option ((Int32 × Hst) ⊕ (Nat × Hst)) :=
  (gbvx (f_X6_checkTank p0 h) (fun h1 =>
    (if p1 = 0 then
      gb (f_X5_get_4 p0 0 h1) fun x3 h2 =>
      (some (.inl (x3, h2)))
    else
    (if p1 = 1 then
      gb (f_X1_oilOf p0 h1) fun x5 h4 =>
      (some (.inl (x5, h4)))
    else
    (if p1 = 2 then
      gb (f_X1_gradeOf p0 h1) fun x7 h6 =>
      (some (.inl (x7, h6)))
    else
    (if p1 = 3 then
      (some (.inr (1, h1)))
    else
    (if p1 = 4 then
      (some (.inr (1, h1)))
    else
    (if p1 = 5 then
      (some (.inr (1, h1)))
    else
    (if p1 = 6 then
      (some (.inr (1, h1)))
    else
    (if p1 = 7 then
      (some (.inr (1, h1)))
    else
    (if p1 = 8 then
      (some (.inr (1, h1)))
    else
    (if p1 = 9 then
      (some (.inr (1, h1)))
    else
    (if p1 = 10 then
      gb (f_X5_get_4 p0 ((2 + p1) - 10) h1) fun x9 h8 =>
      (some (.inl (x9, h8)))
    else
    (if p1 = 11 then
      gb (f_X5_get_4 p0 ((2 + p1) - 10) h1) fun x11 h10 =>
      (some (.inl (x11, h10)))
    else
    (if p1 = 12 then
      gb (f_X5_get_4 p0 ((2 + p1) - 10) h1) fun x13 h12 =>
      (some (.inl (x13, h12)))
    else
    (if p1 = 13 then
      gb (f_X5_get_4 p0 ((2 + p1) - 10) h1) fun x15 h14 =>
      (some (.inl (x15, h14)))
    else
    (if p1 = 14 then
      gb (f_X5_get_4 p0 ((2 + p1) - 10) h1) fun x17 h16 =>
      (some (.inl (x17, h16)))
    else
    (some (.inr (1, h1))))))))))))))))))) (fun E h18 => some (.inr (E, h18))))
set_option maxRecDepth 20000 in
theorem ge_X6_tank (γ : Gv) (p0 : Int32) (p1 : Int32) (h : Hst) : G γ RX6 cX6_tank 3 (some .int) [] vIX 7 0 0 (lv_args 0 [.ref (gad γ 0), .int p0, .int p1]) [] h (f_X6_tank p0 p1 h) := by
  show G γ RX6 cX6_tank 3 (some .int) [] vIX 7 0 0 [(0, .ref (gad γ 0)), (1, .int p0), (2, .int p1)] [] h (f_X6_tank p0 p1 h)
  unfold f_X6_tank
  refine g_aload_n (pc := 0) dX6_tank_0 rfl 0 rfl ?_
  refine g_iload_n (pc := 1) dX6_tank_1 rfl 1 rfl ?_
  refine g_cVX (pc := 2) (st := []) (fun r hr => gRunV (As := [.int p0]) 0 (ge_X6_checkTank γ p0 h) hr wv_RX6_138 rfl (Nat.le_of_ble_eq_true rfl) (gat_0 _ _) rfl rfl (Nat.le_of_ble_eq_true rfl) (Nat.le_of_ble_eq_true rfl) dX6_tank_2) (fun h1 => ?_) (fun E h18 hrun => gRun.out hrun rfl rfl (fun y hy => by cases hy; rfl) (fun x hx => nomatch hx))
  refine g_iload_n (pc := 5) dX6_tank_5 rfl 2 rfl ?_
  refine g_case (c := p1 = 0) (fun c0 => ?_) (fun c0 => ?_)
  · refine g_tswI (pc := 6) (tgt := 80) (off := 74) dX6_tank_6 (by rw [c0]; decide) (by rw [c0]; decide) (by rw [c0]; decide) (by decide) ?_
    refine g_aload_n (pc := 80) dX6_tank_80 rfl 0 rfl ?_
    refine gf_RX6_12_0 (pc := 81) dX6_tank_81 ?_
    refine gf_RX6_98_1 (pc := 84) dX6_tank_84 ?_
    refine g_iload_n (pc := 87) dX6_tank_87 rfl 1 rfl ?_
    refine g_iconst (pc := 88) (v := 0) dX6_tank_88 (by decide) ?_
    refine g_cI (pc := 89) (st := []) (fun r hr => gRunV (As := [.int p0, .int 0]) 4 (ge_X5_get_4 γ p0 0 h1) hr wv_RX6_116 rfl (Nat.le_of_ble_eq_true rfl) (gat_4 _ _) rfl rfl (Nat.le_of_ble_eq_true rfl) (Nat.le_of_ble_eq_true rfl) dX6_tank_89) (fun x3 h2 => ?_)
    exact g_ireturn (pc := 92) (ty := .int) dX6_tank_92 rfl rfl rfl
  refine g_case (c := p1 = 1) (fun c1 => ?_) (fun c1 => ?_)
  · refine g_tswI (pc := 6) (tgt := 93) (off := 87) dX6_tank_6 (by rw [c1]; decide) (by rw [c1]; decide) (by rw [c1]; decide) (by decide) ?_
    refine g_aload_n (pc := 93) dX6_tank_93 rfl 0 rfl ?_
    refine gf_RX6_21_0 (pc := 94) dX6_tank_94 ?_
    refine g_iload_n (pc := 97) dX6_tank_97 rfl 1 rfl ?_
    refine g_cI (pc := 98) (st := []) (fun r hr => gRunV (As := [.int p0]) 10 (ge_X1_oilOf γ p0 h1) hr wv_RX6_203 rfl (Nat.le_of_ble_eq_true rfl) (gat_10 _ _) rfl rfl (Nat.le_of_ble_eq_true rfl) (Nat.le_of_ble_eq_true rfl) dX6_tank_98) (fun x5 h4 => ?_)
    exact g_ireturn (pc := 101) (ty := .int) dX6_tank_101 rfl rfl rfl
  refine g_case (c := p1 = 2) (fun c2 => ?_) (fun c2 => ?_)
  · refine g_tswI (pc := 6) (tgt := 102) (off := 96) dX6_tank_6 (by rw [c2]; decide) (by rw [c2]; decide) (by rw [c2]; decide) (by decide) ?_
    refine g_aload_n (pc := 102) dX6_tank_102 rfl 0 rfl ?_
    refine gf_RX6_21_0 (pc := 103) dX6_tank_103 ?_
    refine g_iload_n (pc := 106) dX6_tank_106 rfl 1 rfl ?_
    refine g_cI (pc := 107) (st := []) (fun r hr => gRunV (As := [.int p0]) 10 (ge_X1_gradeOf γ p0 h1) hr wv_RX6_216 rfl (Nat.le_of_ble_eq_true rfl) (gat_10 _ _) rfl rfl (Nat.le_of_ble_eq_true rfl) (Nat.le_of_ble_eq_true rfl) dX6_tank_107) (fun x7 h6 => ?_)
    exact g_ireturn (pc := 110) (ty := .int) dX6_tank_110 rfl rfl rfl
  refine g_case (c := p1 = 3) (fun c3 => ?_) (fun c3 => ?_)
  · refine g_tswI (pc := 6) (tgt := 129) (off := 123) dX6_tank_6 (by rw [c3]; decide) (by rw [c3]; decide) (by rw [c3]; decide) (by decide) ?_
    exact g_throwSW 1 (by decide +kernel) wcl_RX6_83 wini_1 wat_RX6_87_1 rfl (by decide +kernel : (279, "what is not 0 to 2 or 10 to 14") ∈ gstrs) (Nat.le_of_ble_eq_true rfl) (fun x hx => nomatch hx) dX6_tank_129 dX6_tank_132 dX6_tank_133 dX6_tank_136 dX6_tank_139 (fun z hz => by cases hz; rfl)
  refine g_case (c := p1 = 4) (fun c4 => ?_) (fun c4 => ?_)
  · refine g_tswI (pc := 6) (tgt := 129) (off := 123) dX6_tank_6 (by rw [c4]; decide) (by rw [c4]; decide) (by rw [c4]; decide) (by decide) ?_
    exact g_throwSW 1 (by decide +kernel) wcl_RX6_83 wini_1 wat_RX6_87_1 rfl (by decide +kernel : (279, "what is not 0 to 2 or 10 to 14") ∈ gstrs) (Nat.le_of_ble_eq_true rfl) (fun x hx => nomatch hx) dX6_tank_129 dX6_tank_132 dX6_tank_133 dX6_tank_136 dX6_tank_139 (fun z hz => by cases hz; rfl)
  refine g_case (c := p1 = 5) (fun c5 => ?_) (fun c5 => ?_)
  · refine g_tswI (pc := 6) (tgt := 129) (off := 123) dX6_tank_6 (by rw [c5]; decide) (by rw [c5]; decide) (by rw [c5]; decide) (by decide) ?_
    exact g_throwSW 1 (by decide +kernel) wcl_RX6_83 wini_1 wat_RX6_87_1 rfl (by decide +kernel : (279, "what is not 0 to 2 or 10 to 14") ∈ gstrs) (Nat.le_of_ble_eq_true rfl) (fun x hx => nomatch hx) dX6_tank_129 dX6_tank_132 dX6_tank_133 dX6_tank_136 dX6_tank_139 (fun z hz => by cases hz; rfl)
  refine g_case (c := p1 = 6) (fun c6 => ?_) (fun c6 => ?_)
  · refine g_tswI (pc := 6) (tgt := 129) (off := 123) dX6_tank_6 (by rw [c6]; decide) (by rw [c6]; decide) (by rw [c6]; decide) (by decide) ?_
    exact g_throwSW 1 (by decide +kernel) wcl_RX6_83 wini_1 wat_RX6_87_1 rfl (by decide +kernel : (279, "what is not 0 to 2 or 10 to 14") ∈ gstrs) (Nat.le_of_ble_eq_true rfl) (fun x hx => nomatch hx) dX6_tank_129 dX6_tank_132 dX6_tank_133 dX6_tank_136 dX6_tank_139 (fun z hz => by cases hz; rfl)
  refine g_case (c := p1 = 7) (fun c7 => ?_) (fun c7 => ?_)
  · refine g_tswI (pc := 6) (tgt := 129) (off := 123) dX6_tank_6 (by rw [c7]; decide) (by rw [c7]; decide) (by rw [c7]; decide) (by decide) ?_
    exact g_throwSW 1 (by decide +kernel) wcl_RX6_83 wini_1 wat_RX6_87_1 rfl (by decide +kernel : (279, "what is not 0 to 2 or 10 to 14") ∈ gstrs) (Nat.le_of_ble_eq_true rfl) (fun x hx => nomatch hx) dX6_tank_129 dX6_tank_132 dX6_tank_133 dX6_tank_136 dX6_tank_139 (fun z hz => by cases hz; rfl)
  refine g_case (c := p1 = 8) (fun c8 => ?_) (fun c8 => ?_)
  · refine g_tswI (pc := 6) (tgt := 129) (off := 123) dX6_tank_6 (by rw [c8]; decide) (by rw [c8]; decide) (by rw [c8]; decide) (by decide) ?_
    exact g_throwSW 1 (by decide +kernel) wcl_RX6_83 wini_1 wat_RX6_87_1 rfl (by decide +kernel : (279, "what is not 0 to 2 or 10 to 14") ∈ gstrs) (Nat.le_of_ble_eq_true rfl) (fun x hx => nomatch hx) dX6_tank_129 dX6_tank_132 dX6_tank_133 dX6_tank_136 dX6_tank_139 (fun z hz => by cases hz; rfl)
  refine g_case (c := p1 = 9) (fun c9 => ?_) (fun c9 => ?_)
  · refine g_tswI (pc := 6) (tgt := 129) (off := 123) dX6_tank_6 (by rw [c9]; decide) (by rw [c9]; decide) (by rw [c9]; decide) (by decide) ?_
    exact g_throwSW 1 (by decide +kernel) wcl_RX6_83 wini_1 wat_RX6_87_1 rfl (by decide +kernel : (279, "what is not 0 to 2 or 10 to 14") ∈ gstrs) (Nat.le_of_ble_eq_true rfl) (fun x hx => nomatch hx) dX6_tank_129 dX6_tank_132 dX6_tank_133 dX6_tank_136 dX6_tank_139 (fun z hz => by cases hz; rfl)
  refine g_case (c := p1 = 10) (fun c10 => ?_) (fun c10 => ?_)
  · refine g_tswI (pc := 6) (tgt := 111) (off := 105) dX6_tank_6 (by rw [c10]; decide) (by rw [c10]; decide) (by rw [c10]; decide) (by decide) ?_
    refine g_aload_n (pc := 111) dX6_tank_111 rfl 0 rfl ?_
    refine gf_RX6_12_0 (pc := 112) dX6_tank_112 ?_
    refine gf_RX6_98_1 (pc := 115) dX6_tank_115 ?_
    refine g_iload_n (pc := 118) dX6_tank_118 rfl 1 rfl ?_
    refine g_iconst (pc := 119) (v := 2) dX6_tank_119 (by decide) ?_
    refine g_iload_n (pc := 120) dX6_tank_120 rfl 2 rfl ?_
    refine g_iadd (pc := 121) dX6_tank_121 ?_
    refine g_bipush (pc := 122) (v := 10) dX6_tank_122 (by decide) ?_
    refine g_isub (pc := 124) dX6_tank_124 ?_
    refine g_cI (pc := 125) (st := []) (fun r hr => gRunV (As := [.int p0, .int ((2 + p1) - 10)]) 4 (ge_X5_get_4 γ p0 ((2 + p1) - 10) h1) hr wv_RX6_116 rfl (Nat.le_of_ble_eq_true rfl) (gat_4 _ _) rfl rfl (Nat.le_of_ble_eq_true rfl) (Nat.le_of_ble_eq_true rfl) dX6_tank_125) (fun x9 h8 => ?_)
    exact g_ireturn (pc := 128) (ty := .int) dX6_tank_128 rfl rfl rfl
  refine g_case (c := p1 = 11) (fun c11 => ?_) (fun c11 => ?_)
  · refine g_tswI (pc := 6) (tgt := 111) (off := 105) dX6_tank_6 (by rw [c11]; decide) (by rw [c11]; decide) (by rw [c11]; decide) (by decide) ?_
    refine g_aload_n (pc := 111) dX6_tank_111 rfl 0 rfl ?_
    refine gf_RX6_12_0 (pc := 112) dX6_tank_112 ?_
    refine gf_RX6_98_1 (pc := 115) dX6_tank_115 ?_
    refine g_iload_n (pc := 118) dX6_tank_118 rfl 1 rfl ?_
    refine g_iconst (pc := 119) (v := 2) dX6_tank_119 (by decide) ?_
    refine g_iload_n (pc := 120) dX6_tank_120 rfl 2 rfl ?_
    refine g_iadd (pc := 121) dX6_tank_121 ?_
    refine g_bipush (pc := 122) (v := 10) dX6_tank_122 (by decide) ?_
    refine g_isub (pc := 124) dX6_tank_124 ?_
    refine g_cI (pc := 125) (st := []) (fun r hr => gRunV (As := [.int p0, .int ((2 + p1) - 10)]) 4 (ge_X5_get_4 γ p0 ((2 + p1) - 10) h1) hr wv_RX6_116 rfl (Nat.le_of_ble_eq_true rfl) (gat_4 _ _) rfl rfl (Nat.le_of_ble_eq_true rfl) (Nat.le_of_ble_eq_true rfl) dX6_tank_125) (fun x11 h10 => ?_)
    exact g_ireturn (pc := 128) (ty := .int) dX6_tank_128 rfl rfl rfl
  refine g_case (c := p1 = 12) (fun c12 => ?_) (fun c12 => ?_)
  · refine g_tswI (pc := 6) (tgt := 111) (off := 105) dX6_tank_6 (by rw [c12]; decide) (by rw [c12]; decide) (by rw [c12]; decide) (by decide) ?_
    refine g_aload_n (pc := 111) dX6_tank_111 rfl 0 rfl ?_
    refine gf_RX6_12_0 (pc := 112) dX6_tank_112 ?_
    refine gf_RX6_98_1 (pc := 115) dX6_tank_115 ?_
    refine g_iload_n (pc := 118) dX6_tank_118 rfl 1 rfl ?_
    refine g_iconst (pc := 119) (v := 2) dX6_tank_119 (by decide) ?_
    refine g_iload_n (pc := 120) dX6_tank_120 rfl 2 rfl ?_
    refine g_iadd (pc := 121) dX6_tank_121 ?_
    refine g_bipush (pc := 122) (v := 10) dX6_tank_122 (by decide) ?_
    refine g_isub (pc := 124) dX6_tank_124 ?_
    refine g_cI (pc := 125) (st := []) (fun r hr => gRunV (As := [.int p0, .int ((2 + p1) - 10)]) 4 (ge_X5_get_4 γ p0 ((2 + p1) - 10) h1) hr wv_RX6_116 rfl (Nat.le_of_ble_eq_true rfl) (gat_4 _ _) rfl rfl (Nat.le_of_ble_eq_true rfl) (Nat.le_of_ble_eq_true rfl) dX6_tank_125) (fun x13 h12 => ?_)
    exact g_ireturn (pc := 128) (ty := .int) dX6_tank_128 rfl rfl rfl
  refine g_case (c := p1 = 13) (fun c13 => ?_) (fun c13 => ?_)
  · refine g_tswI (pc := 6) (tgt := 111) (off := 105) dX6_tank_6 (by rw [c13]; decide) (by rw [c13]; decide) (by rw [c13]; decide) (by decide) ?_
    refine g_aload_n (pc := 111) dX6_tank_111 rfl 0 rfl ?_
    refine gf_RX6_12_0 (pc := 112) dX6_tank_112 ?_
    refine gf_RX6_98_1 (pc := 115) dX6_tank_115 ?_
    refine g_iload_n (pc := 118) dX6_tank_118 rfl 1 rfl ?_
    refine g_iconst (pc := 119) (v := 2) dX6_tank_119 (by decide) ?_
    refine g_iload_n (pc := 120) dX6_tank_120 rfl 2 rfl ?_
    refine g_iadd (pc := 121) dX6_tank_121 ?_
    refine g_bipush (pc := 122) (v := 10) dX6_tank_122 (by decide) ?_
    refine g_isub (pc := 124) dX6_tank_124 ?_
    refine g_cI (pc := 125) (st := []) (fun r hr => gRunV (As := [.int p0, .int ((2 + p1) - 10)]) 4 (ge_X5_get_4 γ p0 ((2 + p1) - 10) h1) hr wv_RX6_116 rfl (Nat.le_of_ble_eq_true rfl) (gat_4 _ _) rfl rfl (Nat.le_of_ble_eq_true rfl) (Nat.le_of_ble_eq_true rfl) dX6_tank_125) (fun x15 h14 => ?_)
    exact g_ireturn (pc := 128) (ty := .int) dX6_tank_128 rfl rfl rfl
  refine g_case (c := p1 = 14) (fun c14 => ?_) (fun c14 => ?_)
  · refine g_tswI (pc := 6) (tgt := 111) (off := 105) dX6_tank_6 (by rw [c14]; decide) (by rw [c14]; decide) (by rw [c14]; decide) (by decide) ?_
    refine g_aload_n (pc := 111) dX6_tank_111 rfl 0 rfl ?_
    refine gf_RX6_12_0 (pc := 112) dX6_tank_112 ?_
    refine gf_RX6_98_1 (pc := 115) dX6_tank_115 ?_
    refine g_iload_n (pc := 118) dX6_tank_118 rfl 1 rfl ?_
    refine g_iconst (pc := 119) (v := 2) dX6_tank_119 (by decide) ?_
    refine g_iload_n (pc := 120) dX6_tank_120 rfl 2 rfl ?_
    refine g_iadd (pc := 121) dX6_tank_121 ?_
    refine g_bipush (pc := 122) (v := 10) dX6_tank_122 (by decide) ?_
    refine g_isub (pc := 124) dX6_tank_124 ?_
    refine g_cI (pc := 125) (st := []) (fun r hr => gRunV (As := [.int p0, .int ((2 + p1) - 10)]) 4 (ge_X5_get_4 γ p0 ((2 + p1) - 10) h1) hr wv_RX6_116 rfl (Nat.le_of_ble_eq_true rfl) (gat_4 _ _) rfl rfl (Nat.le_of_ble_eq_true rfl) (Nat.le_of_ble_eq_true rfl) dX6_tank_125) (fun x17 h16 => ?_)
    exact g_ireturn (pc := 128) (ty := .int) dX6_tank_128 rfl rfl rfl
  refine g_tswO (pc := 6) (tgt := 129) dX6_tank_6 (by have k := fun (v : Int32) (n : Int) (e : v.toInt = n) (c : ¬ p1 = v) => gne e c; have k0 := k 0 0 (by decide) c0; have k1 := k 1 1 (by decide) c1; have k2 := k 2 2 (by decide) c2; have k3 := k 3 3 (by decide) c3; have k4 := k 4 4 (by decide) c4; have k5 := k 5 5 (by decide) c5; have k6 := k 6 6 (by decide) c6; have k7 := k 7 7 (by decide) c7; have k8 := k 8 8 (by decide) c8; have k9 := k 9 9 (by decide) c9; have k10 := k 10 10 (by decide) c10; have k11 := k 11 11 (by decide) c11; have k12 := k 12 12 (by decide) c12; have k13 := k 13 13 (by decide) c13; have k14 := k 14 14 (by decide) c14; omega) (by decide) ?_
  exact g_throwSW 1 (by decide +kernel) wcl_RX6_83 wini_1 wat_RX6_87_1 rfl (by decide +kernel : (279, "what is not 0 to 2 or 10 to 14") ∈ gstrs) (Nat.le_of_ble_eq_true rfl) (fun x hx => nomatch hx) dX6_tank_129 dX6_tank_132 dX6_tank_133 dX6_tank_136 dX6_tank_139 (fun z hz => by cases hz; rfl)
def lp_X1_oilOfVariety_4 : Nat → Int32 → Int32 → Int32 → Hst → Option (Int32 × Hst)
  | 0, _, _, _, _ => none
  | n + 1, a1, a2, a3, h =>
    (if 6 ≤ a3 then
      (some (a2, h))
    else
      gb (f_X5_get_4 a3 (2 + a1) h) fun x2 h1 =>
      gl (a2 + x2) fun x3 =>
      ((lp_X1_oilOfVariety_4 n) a1 x3 (a3 + 1) h1))
def f_X1_oilOfVariety (p0 : Int32) (h : Hst) : Option (Int32 × Hst) :=
  (lp_X1_oilOfVariety_4 FU p0 0 0 h)
set_option maxRecDepth 20000 in
theorem glp_X1_oilOfVariety_4 (γ : Gv)  : ∀ (n : Nat) (a1 : Int32) (a2 : Int32) (a3 : Int32) (h : Hst), G γ RX1 cX1_oilOfVariety 4 (some .int) [] vI 1 0 4 [(0, .ref (gad γ 10)), (1, .int a1), (2, .int a2), (3, .int a3)] [] h (lp_X1_oilOfVariety_4 n a1 a2 a3 h) := by
  intro n
  induction n with
  | zero => intro a1 a2 a3 h; exact g_none
  | succ n ih =>
    intro a1 a2 a3 h
    rw [lp_X1_oilOfVariety_4]
    refine g_iload_n (pc := 4) dX1_oilOfVariety_4 rfl 3 rfl ?_
    refine g_bipush (pc := 5) (v := 6) dX1_oilOfVariety_5 (by decide) ?_
    refine g_icmp_ge (pc := 7) (tgt := 33) dX1_oilOfVariety_7 (by decide) ?_ ?_
    · refine g_iload_n (pc := 33) dX1_oilOfVariety_33 rfl 2 rfl ?_
      exact g_ireturn (pc := 34) (ty := .int) dX1_oilOfVariety_34 rfl rfl rfl
    · refine g_iload_n (pc := 10) dX1_oilOfVariety_10 rfl 2 rfl ?_
      refine g_aload_n (pc := 11) dX1_oilOfVariety_11 rfl 0 rfl ?_
      refine gf_RX1_9_10 (pc := 12) dX1_oilOfVariety_12 ?_
      refine gf_RX1_22_1 (pc := 15) dX1_oilOfVariety_15 ?_
      refine g_iload_n (pc := 18) dX1_oilOfVariety_18 rfl 3 rfl ?_
      refine g_iconst (pc := 19) (v := 2) dX1_oilOfVariety_19 (by decide) ?_
      refine g_iload_n (pc := 20) dX1_oilOfVariety_20 rfl 1 rfl ?_
      refine g_iadd (pc := 21) dX1_oilOfVariety_21 ?_
      refine g_cI (pc := 22) (st := [.int a2]) (fun r hr => gRunV (As := [.int a3, .int (2 + a1)]) 4 (ge_X5_get_4 γ a3 (2 + a1) h) hr wv_RX1_28 rfl (Nat.le_of_ble_eq_true rfl) (gat_4 _ _) rfl rfl (Nat.le_of_ble_eq_true rfl) (Nat.le_of_ble_eq_true rfl) dX1_oilOfVariety_22) (fun x2 h1 => ?_)
      refine g_iadd (pc := 25) dX1_oilOfVariety_25 ?_
      refine g_nmi (fun x3 => ?_)
      refine g_istore_n (pc := 26) (lv' := [(2, .int x3), (0, .ref (gad γ 10)), (1, .int a1), (3, .int a3)]) dX1_oilOfVariety_26 rfl (by decide) rfl ?_
      refine g_iinc (pc := 27) (q := 3) (v := a3 + 1) (lv' := [(3, .int (a3 + 1)), (2, .int x3), (0, .ref (gad γ 10)), (1, .int a1)]) dX1_oilOfVariety_27 rfl rfl (by decide) rfl ?_
      refine g_goto (pc := 30) (tgt := 4) dX1_oilOfVariety_30 (by decide) ?_
      exact g_sub [2, 3, 1, 0] rfl (ih a1 x3 (a3 + 1) h1)
set_option maxRecDepth 20000 in
theorem ge_X1_oilOfVariety (γ : Gv) (p0 : Int32) (h : Hst) : G γ RX1 cX1_oilOfVariety 4 (some .int) [] vI 1 0 0 (lv_args 0 [.ref (gad γ 10), .int p0]) [] h (f_X1_oilOfVariety p0 h) := by
  show G γ RX1 cX1_oilOfVariety 4 (some .int) [] vI 1 0 0 [(0, .ref (gad γ 10)), (1, .int p0)] [] h (f_X1_oilOfVariety p0 h)
  unfold f_X1_oilOfVariety
  refine g_iconst (pc := 0) (v := 0) dX1_oilOfVariety_0 (by decide) ?_
  refine g_istore_n (pc := 1) (lv' := [(2, .int 0), (0, .ref (gad γ 10)), (1, .int p0)]) dX1_oilOfVariety_1 rfl (by decide) rfl ?_
  refine g_iconst (pc := 2) (v := 0) dX1_oilOfVariety_2 (by decide) ?_
  refine g_istore_n (pc := 3) (lv' := [(3, .int 0), (2, .int 0), (0, .ref (gad γ 10)), (1, .int p0)]) dX1_oilOfVariety_3 rfl (by decide) rfl ?_
  exact g_sub [2, 3, 1, 0] rfl (glp_X1_oilOfVariety_4 γ FU p0 0 0 h)
def jb_X6_residueVariety_29  (s0 : Int32) (h : Hst) : Option (Int32 × Hst) :=
  (some (s0, h))
def f_X6_residueVariety  (h : Hst) : Option (Int32 × Hst) :=
  gb (f_X3_get_7 4 h) fun x2 h1 =>
  (if x2 ≤ 0 then
    (jb_X6_residueVariety_29 (-1) h1)
  else
    gb (f_X3_get_7 3 h1) fun x4 h3 =>
    (jb_X6_residueVariety_29 x4 h3))
set_option maxRecDepth 20000 in
theorem gjb_X6_residueVariety_29 (γ : Gv)  (s0 : Int32) (h : Hst) : G γ RX6 cX6_residueVariety 1 (some .int) [] vI 1 0 29 [] [.int s0] h (jb_X6_residueVariety_29 s0 h) := by
  unfold jb_X6_residueVariety_29
  exact g_ireturn (pc := 29) (ty := .int) dX6_residueVariety_29 rfl rfl rfl
set_option maxRecDepth 20000 in
theorem ge_X6_residueVariety (γ : Gv)  (h : Hst) : G γ RX6 cX6_residueVariety 1 (some .int) [] vI 1 0 0 (lv_args 0 [.ref (gad γ 0)]) [] h (f_X6_residueVariety h) := by
  show G γ RX6 cX6_residueVariety 1 (some .int) [] vI 1 0 0 [(0, .ref (gad γ 0))] [] h (f_X6_residueVariety h)
  unfold f_X6_residueVariety
  refine g_aload_n (pc := 0) dX6_residueVariety_0 rfl 0 rfl ?_
  refine gf_RX6_12_0 (pc := 1) dX6_residueVariety_1 ?_
  refine gf_RX6_47_1 (pc := 4) dX6_residueVariety_4 ?_
  refine g_iconst (pc := 7) (v := 4) dX6_residueVariety_7 (by decide) ?_
  refine g_cI (pc := 8) (st := []) (fun r hr => gRunV (As := [.int 4]) 7 (ge_X3_get_7 γ 4 h) hr wv_RX6_51 rfl (Nat.le_of_ble_eq_true rfl) (gat_7 _ _) rfl rfl (Nat.le_of_ble_eq_true rfl) (Nat.le_of_ble_eq_true rfl) dX6_residueVariety_8) (fun x2 h1 => ?_)
  refine g_if_le (pc := 11) (tgt := 28) dX6_residueVariety_11 (by decide) ?_ ?_
  · refine g_iconst (pc := 28) (v := (-1)) dX6_residueVariety_28 (by decide) ?_
    exact g_sub [] rfl (gjb_X6_residueVariety_29 γ (-1) h1)
  · refine g_aload_n (pc := 14) dX6_residueVariety_14 rfl 0 rfl ?_
    refine gf_RX6_12_0 (pc := 15) dX6_residueVariety_15 ?_
    refine gf_RX6_47_1 (pc := 18) dX6_residueVariety_18 ?_
    refine g_iconst (pc := 21) (v := 3) dX6_residueVariety_21 (by decide) ?_
    refine g_cI (pc := 22) (st := []) (fun r hr => gRunV (As := [.int 3]) 7 (ge_X3_get_7 γ 3 h1) hr wv_RX6_51 rfl (Nat.le_of_ble_eq_true rfl) (gat_7 _ _) rfl rfl (Nat.le_of_ble_eq_true rfl) (Nat.le_of_ble_eq_true rfl) dX6_residueVariety_22) (fun x4 h3 => ?_)
    refine g_goto (pc := 25) (tgt := 29) dX6_residueVariety_25 (by decide) ?_
    exact g_sub [] rfl (gjb_X6_residueVariety_29 γ x4 h3)
def jb_X6_variety_110  (s0 : Int32) (h : Hst) : Option ((Int32 × Hst) ⊕ (Nat × Hst)) :=
  (some (.inl (s0, h)))
def f_X6_variety (p0 : Int32) (p1 : Int32) (h : Hst) : Option ((Int32 × Hst) ⊕ (Nat × Hst)) :=
  (gbvx (f_X6_checkVariety p0 h) (fun h1 =>
    (if p1 = 0 then
      gb (f_X5_get_5 p0 0 h1) fun x3 h2 =>
      (some (.inl (x3, h2)))
    else
    (if p1 = 1 then
      gb (f_X5_get_5 p0 1 h1) fun x5 h4 =>
      (some (.inl (x5, h4)))
    else
    (if p1 = 2 then
      gb (f_X1_oilOfVariety p0 h1) fun x7 h6 =>
      (some (.inl (x7, h6)))
    else
    (if p1 = 3 then
      gb (f_X6_residueVariety h1) fun x9 h8 =>
      (if x9 = p0 then
        gb (f_X3_get_7 4 h8) fun x11 h10 =>
        (jb_X6_variety_110 x11 h10)
      else
        (jb_X6_variety_110 0 h8))
    else
    (if p1 = 4 then
      gb (f_X5_get_5 p0 2 h1) fun x13 h12 =>
      (some (.inl (x13, h12)))
    else
    (if p1 = 5 then
      gb (f_X5_get_5 p0 3 h1) fun x15 h14 =>
      (some (.inl (x15, h14)))
    else
    (if p1 = 6 then
      gb (f_X5_get_5 p0 4 h1) fun x17 h16 =>
      (some (.inl (x17, h16)))
    else
    (if p1 = 7 then
      gb (f_X6_lotsWith 1 p0 1 h1) fun x19 h18 =>
      (some (.inl (x19, h18)))
    else
    (some (.inr (1, h1)))))))))))) (fun E h20 => some (.inr (E, h20))))
set_option maxRecDepth 20000 in
theorem gjb_X6_variety_110 (γ : Gv)  (s0 : Int32) (h : Hst) : G γ RX6 cX6_variety 3 (some .int) [] vIX 7 0 110 [] [.int s0] h (jb_X6_variety_110 s0 h) := by
  unfold jb_X6_variety_110
  exact g_ireturn (pc := 110) (ty := .int) dX6_variety_110 rfl rfl rfl
set_option maxRecDepth 20000 in
theorem ge_X6_variety (γ : Gv) (p0 : Int32) (p1 : Int32) (h : Hst) : G γ RX6 cX6_variety 3 (some .int) [] vIX 7 0 0 (lv_args 0 [.ref (gad γ 0), .int p0, .int p1]) [] h (f_X6_variety p0 p1 h) := by
  show G γ RX6 cX6_variety 3 (some .int) [] vIX 7 0 0 [(0, .ref (gad γ 0)), (1, .int p0), (2, .int p1)] [] h (f_X6_variety p0 p1 h)
  unfold f_X6_variety
  refine g_iload_n (pc := 0) dX6_variety_0 rfl 1 rfl ?_
  refine g_cVX (pc := 1) (st := []) (fun r hr => gRunS (As := [.int p0]) (ge_X6_checkVariety γ p0 h) hr wv_RX6_108 rfl (Nat.le_of_ble_eq_true rfl) rfl (Nat.le_of_ble_eq_true rfl) (Nat.le_of_ble_eq_true rfl) dX6_variety_1) (fun h1 => ?_) (fun E h20 hrun => gRun.out hrun rfl rfl (fun y hy => by cases hy; rfl) (fun x hx => nomatch hx))
  refine g_iload_n (pc := 4) dX6_variety_4 rfl 2 rfl ?_
  refine g_case (c := p1 = 0) (fun c0 => ?_) (fun c0 => ?_)
  · refine g_tswI (pc := 5) (tgt := 52) (off := 47) dX6_variety_5 (by rw [c0]; decide) (by rw [c0]; decide) (by rw [c0]; decide) (by decide) ?_
    refine g_aload_n (pc := 52) dX6_variety_52 rfl 0 rfl ?_
    refine gf_RX6_12_0 (pc := 53) dX6_variety_53 ?_
    refine gf_RX6_113_1 (pc := 56) dX6_variety_56 ?_
    refine g_iload_n (pc := 59) dX6_variety_59 rfl 1 rfl ?_
    refine g_iconst (pc := 60) (v := 0) dX6_variety_60 (by decide) ?_
    refine g_cI (pc := 61) (st := []) (fun r hr => gRunV (As := [.int p0, .int 0]) 5 (ge_X5_get_5 γ p0 0 h1) hr wv_RX6_116 rfl (Nat.le_of_ble_eq_true rfl) (gat_5 _ _) rfl rfl (Nat.le_of_ble_eq_true rfl) (Nat.le_of_ble_eq_true rfl) dX6_variety_61) (fun x3 h2 => ?_)
    exact g_ireturn (pc := 64) (ty := .int) dX6_variety_64 rfl rfl rfl
  refine g_case (c := p1 = 1) (fun c1 => ?_) (fun c1 => ?_)
  · refine g_tswI (pc := 5) (tgt := 65) (off := 60) dX6_variety_5 (by rw [c1]; decide) (by rw [c1]; decide) (by rw [c1]; decide) (by decide) ?_
    refine g_aload_n (pc := 65) dX6_variety_65 rfl 0 rfl ?_
    refine gf_RX6_12_0 (pc := 66) dX6_variety_66 ?_
    refine gf_RX6_113_1 (pc := 69) dX6_variety_69 ?_
    refine g_iload_n (pc := 72) dX6_variety_72 rfl 1 rfl ?_
    refine g_iconst (pc := 73) (v := 1) dX6_variety_73 (by decide) ?_
    refine g_cI (pc := 74) (st := []) (fun r hr => gRunV (As := [.int p0, .int 1]) 5 (ge_X5_get_5 γ p0 1 h1) hr wv_RX6_116 rfl (Nat.le_of_ble_eq_true rfl) (gat_5 _ _) rfl rfl (Nat.le_of_ble_eq_true rfl) (Nat.le_of_ble_eq_true rfl) dX6_variety_74) (fun x5 h4 => ?_)
    exact g_ireturn (pc := 77) (ty := .int) dX6_variety_77 rfl rfl rfl
  refine g_case (c := p1 = 2) (fun c2 => ?_) (fun c2 => ?_)
  · refine g_tswI (pc := 5) (tgt := 78) (off := 73) dX6_variety_5 (by rw [c2]; decide) (by rw [c2]; decide) (by rw [c2]; decide) (by decide) ?_
    refine g_aload_n (pc := 78) dX6_variety_78 rfl 0 rfl ?_
    refine gf_RX6_21_0 (pc := 79) dX6_variety_79 ?_
    refine g_iload_n (pc := 82) dX6_variety_82 rfl 1 rfl ?_
    refine g_cI (pc := 83) (st := []) (fun r hr => gRunV (As := [.int p0]) 10 (ge_X1_oilOfVariety γ p0 h1) hr wv_RX6_281 rfl (Nat.le_of_ble_eq_true rfl) (gat_10 _ _) rfl rfl (Nat.le_of_ble_eq_true rfl) (Nat.le_of_ble_eq_true rfl) dX6_variety_83) (fun x7 h6 => ?_)
    exact g_ireturn (pc := 86) (ty := .int) dX6_variety_86 rfl rfl rfl
  refine g_case (c := p1 = 3) (fun c3 => ?_) (fun c3 => ?_)
  · refine g_tswI (pc := 5) (tgt := 87) (off := 82) dX6_variety_5 (by rw [c3]; decide) (by rw [c3]; decide) (by rw [c3]; decide) (by decide) ?_
    refine g_aload_n (pc := 87) dX6_variety_87 rfl 0 rfl ?_
    refine g_cI (pc := 88) (st := []) (fun r hr => gRunV (As := []) 0 (ge_X6_residueVariety γ h1) hr wv_RX6_284 rfl (Nat.le_of_ble_eq_true rfl) (gat_0 _ _) rfl rfl (Nat.le_of_ble_eq_true rfl) (Nat.le_of_ble_eq_true rfl) dX6_variety_88) (fun x9 h8 => ?_)
    refine g_iload_n (pc := 91) dX6_variety_91 rfl 1 rfl ?_
    refine g_icmp_ne (pc := 92) (tgt := 109) dX6_variety_92 (by decide) ?_ ?_
    · refine g_iconst (pc := 109) (v := 0) dX6_variety_109 (by decide) ?_
      exact g_sub [] rfl (gjb_X6_variety_110 γ 0 h8)
    · refine g_aload_n (pc := 95) dX6_variety_95 rfl 0 rfl ?_
      refine gf_RX6_12_0 (pc := 96) dX6_variety_96 ?_
      refine gf_RX6_47_1 (pc := 99) dX6_variety_99 ?_
      refine g_iconst (pc := 102) (v := 4) dX6_variety_102 (by decide) ?_
      refine g_cI (pc := 103) (st := []) (fun r hr => gRunV (As := [.int 4]) 7 (ge_X3_get_7 γ 4 h8) hr wv_RX6_51 rfl (Nat.le_of_ble_eq_true rfl) (gat_7 _ _) rfl rfl (Nat.le_of_ble_eq_true rfl) (Nat.le_of_ble_eq_true rfl) dX6_variety_103) (fun x11 h10 => ?_)
      refine g_goto (pc := 106) (tgt := 110) dX6_variety_106 (by decide) ?_
      exact g_sub [] rfl (gjb_X6_variety_110 γ x11 h10)
  refine g_case (c := p1 = 4) (fun c4 => ?_) (fun c4 => ?_)
  · refine g_tswI (pc := 5) (tgt := 111) (off := 106) dX6_variety_5 (by rw [c4]; decide) (by rw [c4]; decide) (by rw [c4]; decide) (by decide) ?_
    refine g_aload_n (pc := 111) dX6_variety_111 rfl 0 rfl ?_
    refine gf_RX6_12_0 (pc := 112) dX6_variety_112 ?_
    refine gf_RX6_113_1 (pc := 115) dX6_variety_115 ?_
    refine g_iload_n (pc := 118) dX6_variety_118 rfl 1 rfl ?_
    refine g_iconst (pc := 119) (v := 2) dX6_variety_119 (by decide) ?_
    refine g_cI (pc := 120) (st := []) (fun r hr => gRunV (As := [.int p0, .int 2]) 5 (ge_X5_get_5 γ p0 2 h1) hr wv_RX6_116 rfl (Nat.le_of_ble_eq_true rfl) (gat_5 _ _) rfl rfl (Nat.le_of_ble_eq_true rfl) (Nat.le_of_ble_eq_true rfl) dX6_variety_120) (fun x13 h12 => ?_)
    exact g_ireturn (pc := 123) (ty := .int) dX6_variety_123 rfl rfl rfl
  refine g_case (c := p1 = 5) (fun c5 => ?_) (fun c5 => ?_)
  · refine g_tswI (pc := 5) (tgt := 124) (off := 119) dX6_variety_5 (by rw [c5]; decide) (by rw [c5]; decide) (by rw [c5]; decide) (by decide) ?_
    refine g_aload_n (pc := 124) dX6_variety_124 rfl 0 rfl ?_
    refine gf_RX6_12_0 (pc := 125) dX6_variety_125 ?_
    refine gf_RX6_113_1 (pc := 128) dX6_variety_128 ?_
    refine g_iload_n (pc := 131) dX6_variety_131 rfl 1 rfl ?_
    refine g_iconst (pc := 132) (v := 3) dX6_variety_132 (by decide) ?_
    refine g_cI (pc := 133) (st := []) (fun r hr => gRunV (As := [.int p0, .int 3]) 5 (ge_X5_get_5 γ p0 3 h1) hr wv_RX6_116 rfl (Nat.le_of_ble_eq_true rfl) (gat_5 _ _) rfl rfl (Nat.le_of_ble_eq_true rfl) (Nat.le_of_ble_eq_true rfl) dX6_variety_133) (fun x15 h14 => ?_)
    exact g_ireturn (pc := 136) (ty := .int) dX6_variety_136 rfl rfl rfl
  refine g_case (c := p1 = 6) (fun c6 => ?_) (fun c6 => ?_)
  · refine g_tswI (pc := 5) (tgt := 137) (off := 132) dX6_variety_5 (by rw [c6]; decide) (by rw [c6]; decide) (by rw [c6]; decide) (by decide) ?_
    refine g_aload_n (pc := 137) dX6_variety_137 rfl 0 rfl ?_
    refine gf_RX6_12_0 (pc := 138) dX6_variety_138 ?_
    refine gf_RX6_113_1 (pc := 141) dX6_variety_141 ?_
    refine g_iload_n (pc := 144) dX6_variety_144 rfl 1 rfl ?_
    refine g_iconst (pc := 145) (v := 4) dX6_variety_145 (by decide) ?_
    refine g_cI (pc := 146) (st := []) (fun r hr => gRunV (As := [.int p0, .int 4]) 5 (ge_X5_get_5 γ p0 4 h1) hr wv_RX6_116 rfl (Nat.le_of_ble_eq_true rfl) (gat_5 _ _) rfl rfl (Nat.le_of_ble_eq_true rfl) (Nat.le_of_ble_eq_true rfl) dX6_variety_146) (fun x17 h16 => ?_)
    exact g_ireturn (pc := 149) (ty := .int) dX6_variety_149 rfl rfl rfl
  refine g_case (c := p1 = 7) (fun c7 => ?_) (fun c7 => ?_)
  · refine g_tswI (pc := 5) (tgt := 150) (off := 145) dX6_variety_5 (by rw [c7]; decide) (by rw [c7]; decide) (by rw [c7]; decide) (by decide) ?_
    refine g_aload_n (pc := 150) dX6_variety_150 rfl 0 rfl ?_
    refine g_iconst (pc := 151) (v := 1) dX6_variety_151 (by decide) ?_
    refine g_iload_n (pc := 152) dX6_variety_152 rfl 1 rfl ?_
    refine g_iconst (pc := 153) (v := 1) dX6_variety_153 (by decide) ?_
    refine g_cI (pc := 154) (st := []) (fun r hr => gRunV (As := [.int 1, .int p0, .int 1]) 0 (ge_X6_lotsWith γ 1 p0 1 h1) hr wv_RX6_268 rfl (Nat.le_of_ble_eq_true rfl) (gat_0 _ _) rfl rfl (Nat.le_of_ble_eq_true rfl) (Nat.le_of_ble_eq_true rfl) dX6_variety_154) (fun x19 h18 => ?_)
    exact g_ireturn (pc := 157) (ty := .int) dX6_variety_157 rfl rfl rfl
  refine g_tswO (pc := 5) (tgt := 158) dX6_variety_5 (by have k := fun (v : Int32) (n : Int) (e : v.toInt = n) (c : ¬ p1 = v) => gne e c; have k0 := k 0 0 (by decide) c0; have k1 := k 1 1 (by decide) c1; have k2 := k 2 2 (by decide) c2; have k3 := k 3 3 (by decide) c3; have k4 := k 4 4 (by decide) c4; have k5 := k 5 5 (by decide) c5; have k6 := k 6 6 (by decide) c6; have k7 := k 7 7 (by decide) c7; omega) (by decide) ?_
  exact g_throwSW 1 (by decide +kernel) wcl_RX6_83 wini_1 wat_RX6_87_1 rfl (by decide +kernel : (287, "what is not 0 to 7") ∈ gstrs) (Nat.le_of_ble_eq_true rfl) (fun x hx => nomatch hx) dX6_variety_158 dX6_variety_161 dX6_variety_162 dX6_variety_165 dX6_variety_168 (fun z hz => by cases hz; rfl)
def lp_X1_allOil_4 : Nat → Int32 → Int32 → Hst → Option (Int32 × Hst)
  | 0, _, _, _ => none
  | n + 1, a1, a2, h =>
    (if 6 ≤ a2 then
      (some (a1, h))
    else
      gb (f_X1_oilOf a2 h) fun x2 h1 =>
      gl (a1 + x2) fun x3 =>
      ((lp_X1_allOil_4 n) x3 (a2 + 1) h1))
def f_X1_allOil  (h : Hst) : Option (Int32 × Hst) :=
  (lp_X1_allOil_4 FU 0 0 h)
set_option maxRecDepth 20000 in
theorem glp_X1_allOil_4 (γ : Gv)  : ∀ (n : Nat) (a1 : Int32) (a2 : Int32) (h : Hst), G γ RX1 cX1_allOil 3 (some .int) [] vI 2 0 4 [(0, .ref (gad γ 10)), (1, .int a1), (2, .int a2)] [] h (lp_X1_allOil_4 n a1 a2 h) := by
  intro n
  induction n with
  | zero => intro a1 a2 h; exact g_none
  | succ n ih =>
    intro a1 a2 h
    rw [lp_X1_allOil_4]
    refine g_iload_n (pc := 4) dX1_allOil_4 rfl 2 rfl ?_
    refine g_bipush (pc := 5) (v := 6) dX1_allOil_5 (by decide) ?_
    refine g_icmp_ge (pc := 7) (tgt := 24) dX1_allOil_7 (by decide) ?_ ?_
    · refine g_iload_n (pc := 24) dX1_allOil_24 rfl 1 rfl ?_
      exact g_ireturn (pc := 25) (ty := .int) dX1_allOil_25 rfl rfl rfl
    · refine g_iload_n (pc := 10) dX1_allOil_10 rfl 1 rfl ?_
      refine g_aload_n (pc := 11) dX1_allOil_11 rfl 0 rfl ?_
      refine g_iload_n (pc := 12) dX1_allOil_12 rfl 2 rfl ?_
      refine g_cI (pc := 13) (st := [.int a1]) (fun r hr => gRunV (As := [.int a2]) 10 (ge_X1_oilOf γ a2 h) hr wv_RX1_34 rfl (Nat.le_of_ble_eq_true rfl) (gat_10 _ _) rfl rfl (Nat.le_of_ble_eq_true rfl) (Nat.le_of_ble_eq_true rfl) dX1_allOil_13) (fun x2 h1 => ?_)
      refine g_iadd (pc := 16) dX1_allOil_16 ?_
      refine g_nmi (fun x3 => ?_)
      refine g_istore_n (pc := 17) (lv' := [(1, .int x3), (0, .ref (gad γ 10)), (2, .int a2)]) dX1_allOil_17 rfl (by decide) rfl ?_
      refine g_iinc (pc := 18) (q := 2) (v := a2 + 1) (lv' := [(2, .int (a2 + 1)), (1, .int x3), (0, .ref (gad γ 10))]) dX1_allOil_18 rfl rfl (by decide) rfl ?_
      refine g_goto (pc := 21) (tgt := 4) dX1_allOil_21 (by decide) ?_
      exact g_sub [2, 1, 0] rfl (ih x3 (a2 + 1) h1)
set_option maxRecDepth 20000 in
theorem ge_X1_allOil (γ : Gv)  (h : Hst) : G γ RX1 cX1_allOil 3 (some .int) [] vI 2 0 0 (lv_args 0 [.ref (gad γ 10)]) [] h (f_X1_allOil h) := by
  show G γ RX1 cX1_allOil 3 (some .int) [] vI 2 0 0 [(0, .ref (gad γ 10))] [] h (f_X1_allOil h)
  unfold f_X1_allOil
  refine g_iconst (pc := 0) (v := 0) dX1_allOil_0 (by decide) ?_
  refine g_istore_n (pc := 1) (lv' := [(1, .int 0), (0, .ref (gad γ 10))]) dX1_allOil_1 rfl (by decide) rfl ?_
  refine g_iconst (pc := 2) (v := 0) dX1_allOil_2 (by decide) ?_
  refine g_istore_n (pc := 3) (lv' := [(2, .int 0), (1, .int 0), (0, .ref (gad γ 10))]) dX1_allOil_3 rfl (by decide) rfl ?_
  exact g_sub [2, 1, 0] rfl (glp_X1_allOil_4 γ FU 0 0 h)
def lp_X6_sumOfGrowers_4 : Nat → Int32 → Int32 → Int32 → Hst → Option (Int32 × Hst)
  | 0, _, _, _, _ => none
  | n + 1, a1, a2, a3, h =>
    (if 8 ≤ a3 then
      (some (a2, h))
    else
      gb (f_X5_get_2 a3 a1 h) fun x2 h1 =>
      gl (a2 + x2) fun x3 =>
      ((lp_X6_sumOfGrowers_4 n) a1 x3 (a3 + 1) h1))
def f_X6_sumOfGrowers (p0 : Int32) (h : Hst) : Option (Int32 × Hst) :=
  (lp_X6_sumOfGrowers_4 FU p0 0 0 h)
set_option maxRecDepth 20000 in
theorem glp_X6_sumOfGrowers_4 (γ : Gv)  : ∀ (n : Nat) (a1 : Int32) (a2 : Int32) (a3 : Int32) (h : Hst), G γ RX6 cX6_sumOfGrowers 4 (some .int) [] vI 1 0 4 [(0, .ref (gad γ 0)), (1, .int a1), (2, .int a2), (3, .int a3)] [] h (lp_X6_sumOfGrowers_4 n a1 a2 a3 h) := by
  intro n
  induction n with
  | zero => intro a1 a2 a3 h; exact g_none
  | succ n ih =>
    intro a1 a2 a3 h
    rw [lp_X6_sumOfGrowers_4]
    refine g_iload_n (pc := 4) dX6_sumOfGrowers_4 rfl 3 rfl ?_
    refine g_bipush (pc := 5) (v := 8) dX6_sumOfGrowers_5 (by decide) ?_
    refine g_icmp_ge (pc := 7) (tgt := 31) dX6_sumOfGrowers_7 (by decide) ?_ ?_
    · refine g_iload_n (pc := 31) dX6_sumOfGrowers_31 rfl 2 rfl ?_
      exact g_ireturn (pc := 32) (ty := .int) dX6_sumOfGrowers_32 rfl rfl rfl
    · refine g_iload_n (pc := 10) dX6_sumOfGrowers_10 rfl 2 rfl ?_
      refine g_aload_n (pc := 11) dX6_sumOfGrowers_11 rfl 0 rfl ?_
      refine gf_RX6_12_0 (pc := 12) dX6_sumOfGrowers_12 ?_
      refine gf_RX6_200_1 (pc := 15) dX6_sumOfGrowers_15 ?_
      refine g_iload_n (pc := 18) dX6_sumOfGrowers_18 rfl 3 rfl ?_
      refine g_iload_n (pc := 19) dX6_sumOfGrowers_19 rfl 1 rfl ?_
      refine g_cI (pc := 20) (st := [.int a2]) (fun r hr => gRunV (As := [.int a3, .int a1]) 2 (ge_X5_get_2 γ a3 a1 h) hr wv_RX6_116 rfl (Nat.le_of_ble_eq_true rfl) (gat_2 _ _) rfl rfl (Nat.le_of_ble_eq_true rfl) (Nat.le_of_ble_eq_true rfl) dX6_sumOfGrowers_20) (fun x2 h1 => ?_)
      refine g_iadd (pc := 23) dX6_sumOfGrowers_23 ?_
      refine g_nmi (fun x3 => ?_)
      refine g_istore_n (pc := 24) (lv' := [(2, .int x3), (0, .ref (gad γ 0)), (1, .int a1), (3, .int a3)]) dX6_sumOfGrowers_24 rfl (by decide) rfl ?_
      refine g_iinc (pc := 25) (q := 3) (v := a3 + 1) (lv' := [(3, .int (a3 + 1)), (2, .int x3), (0, .ref (gad γ 0)), (1, .int a1)]) dX6_sumOfGrowers_25 rfl rfl (by decide) rfl ?_
      refine g_goto (pc := 28) (tgt := 4) dX6_sumOfGrowers_28 (by decide) ?_
      exact g_sub [2, 3, 1, 0] rfl (ih a1 x3 (a3 + 1) h1)
set_option maxRecDepth 20000 in
theorem ge_X6_sumOfGrowers (γ : Gv) (p0 : Int32) (h : Hst) : G γ RX6 cX6_sumOfGrowers 4 (some .int) [] vI 1 0 0 (lv_args 0 [.ref (gad γ 0), .int p0]) [] h (f_X6_sumOfGrowers p0 h) := by
  show G γ RX6 cX6_sumOfGrowers 4 (some .int) [] vI 1 0 0 [(0, .ref (gad γ 0)), (1, .int p0)] [] h (f_X6_sumOfGrowers p0 h)
  unfold f_X6_sumOfGrowers
  refine g_iconst (pc := 0) (v := 0) dX6_sumOfGrowers_0 (by decide) ?_
  refine g_istore_n (pc := 1) (lv' := [(2, .int 0), (0, .ref (gad γ 0)), (1, .int p0)]) dX6_sumOfGrowers_1 rfl (by decide) rfl ?_
  refine g_iconst (pc := 2) (v := 0) dX6_sumOfGrowers_2 (by decide) ?_
  refine g_istore_n (pc := 3) (lv' := [(3, .int 0), (2, .int 0), (0, .ref (gad γ 0)), (1, .int p0)]) dX6_sumOfGrowers_3 rfl (by decide) rfl ?_
  exact g_sub [2, 3, 1, 0] rfl (glp_X6_sumOfGrowers_4 γ FU p0 0 0 h)
def jb_X1_oilOfGrade_27 (R4 : Int32 → Int32 → Int32 → Hst → Option (Int32 × Hst)) (a1 : Int32) (a2 : Int32) (a3 : Int32) (h : Hst) : Option (Int32 × Hst) :=
  (R4 a1 a2 (a3 + 1) h)
def lp_X1_oilOfGrade_4 : Nat → Int32 → Int32 → Int32 → Hst → Option (Int32 × Hst)
  | 0, _, _, _, _ => none
  | n + 1, a1, a2, a3, h =>
    (if 6 ≤ a3 then
      (some (a2, h))
    else
      gb (f_X1_gradeOf a3 h) fun x2 h1 =>
      (if x2 = a1 then
        gb (f_X1_oilOf a3 h1) fun x4 h3 =>
        gl (a2 + x4) fun x5 =>
        (jb_X1_oilOfGrade_27 (lp_X1_oilOfGrade_4 n) a1 x5 a3 h3)
      else
        (jb_X1_oilOfGrade_27 (lp_X1_oilOfGrade_4 n) a1 a2 a3 h1)))
def f_X1_oilOfGrade (p0 : Int32) (h : Hst) : Option (Int32 × Hst) :=
  (lp_X1_oilOfGrade_4 FU p0 0 0 h)
set_option maxRecDepth 20000 in
theorem gjb_X1_oilOfGrade_27 (γ : Gv) (R4 : Int32 → Int32 → Int32 → Hst → Option (Int32 × Hst)) (hR4 : ∀ (a1 : Int32) (a2 : Int32) (a3 : Int32) (h : Hst), G γ RX1 cX1_oilOfGrade 4 (some .int) [] vI 3 0 4 [(0, .ref (gad γ 10)), (1, .int a1), (2, .int a2), (3, .int a3)] [] h (R4 a1 a2 a3 h)) (a1 : Int32) (a2 : Int32) (a3 : Int32) (h : Hst) : G γ RX1 cX1_oilOfGrade 4 (some .int) [] vI 3 0 27 [(0, .ref (gad γ 10)), (1, .int a1), (2, .int a2), (3, .int a3)] [] h (jb_X1_oilOfGrade_27 R4 a1 a2 a3 h) := by
  unfold jb_X1_oilOfGrade_27
  refine g_iinc (pc := 27) (q := 3) (v := a3 + 1) (lv' := [(3, .int (a3 + 1)), (0, .ref (gad γ 10)), (1, .int a1), (2, .int a2)]) dX1_oilOfGrade_27 rfl rfl (by decide) rfl ?_
  refine g_goto (pc := 30) (tgt := 4) dX1_oilOfGrade_30 (by decide) ?_
  exact g_sub [1, 2, 3, 0] rfl (hR4 a1 a2 (a3 + 1) h)
set_option maxRecDepth 20000 in
theorem glp_X1_oilOfGrade_4 (γ : Gv)  : ∀ (n : Nat) (a1 : Int32) (a2 : Int32) (a3 : Int32) (h : Hst), G γ RX1 cX1_oilOfGrade 4 (some .int) [] vI 3 0 4 [(0, .ref (gad γ 10)), (1, .int a1), (2, .int a2), (3, .int a3)] [] h (lp_X1_oilOfGrade_4 n a1 a2 a3 h) := by
  intro n
  induction n with
  | zero => intro a1 a2 a3 h; exact g_none
  | succ n ih =>
    intro a1 a2 a3 h
    rw [lp_X1_oilOfGrade_4]
    refine g_iload_n (pc := 4) dX1_oilOfGrade_4 rfl 3 rfl ?_
    refine g_bipush (pc := 5) (v := 6) dX1_oilOfGrade_5 (by decide) ?_
    refine g_icmp_ge (pc := 7) (tgt := 33) dX1_oilOfGrade_7 (by decide) ?_ ?_
    · refine g_iload_n (pc := 33) dX1_oilOfGrade_33 rfl 2 rfl ?_
      exact g_ireturn (pc := 34) (ty := .int) dX1_oilOfGrade_34 rfl rfl rfl
    · refine g_aload_n (pc := 10) dX1_oilOfGrade_10 rfl 0 rfl ?_
      refine g_iload_n (pc := 11) dX1_oilOfGrade_11 rfl 3 rfl ?_
      refine g_cI (pc := 12) (st := []) (fun r hr => gRunV (As := [.int a3]) 10 (ge_X1_gradeOf γ a3 h) hr wv_RX1_38 rfl (Nat.le_of_ble_eq_true rfl) (gat_10 _ _) rfl rfl (Nat.le_of_ble_eq_true rfl) (Nat.le_of_ble_eq_true rfl) dX1_oilOfGrade_12) (fun x2 h1 => ?_)
      refine g_iload_n (pc := 15) dX1_oilOfGrade_15 rfl 1 rfl ?_
      refine g_icmp_ne (pc := 16) (tgt := 27) dX1_oilOfGrade_16 (by decide) ?_ ?_
      · exact gjb_X1_oilOfGrade_27 γ (lp_X1_oilOfGrade_4 n) ih a1 a2 a3 h1
      · refine g_iload_n (pc := 19) dX1_oilOfGrade_19 rfl 2 rfl ?_
        refine g_aload_n (pc := 20) dX1_oilOfGrade_20 rfl 0 rfl ?_
        refine g_iload_n (pc := 21) dX1_oilOfGrade_21 rfl 3 rfl ?_
        refine g_cI (pc := 22) (st := [.int a2]) (fun r hr => gRunV (As := [.int a3]) 10 (ge_X1_oilOf γ a3 h1) hr wv_RX1_34 rfl (Nat.le_of_ble_eq_true rfl) (gat_10 _ _) rfl rfl (Nat.le_of_ble_eq_true rfl) (Nat.le_of_ble_eq_true rfl) dX1_oilOfGrade_22) (fun x4 h3 => ?_)
        refine g_iadd (pc := 25) dX1_oilOfGrade_25 ?_
        refine g_nmi (fun x5 => ?_)
        refine g_istore_n (pc := 26) (lv' := [(2, .int x5), (0, .ref (gad γ 10)), (1, .int a1), (3, .int a3)]) dX1_oilOfGrade_26 rfl (by decide) rfl ?_
        exact g_sub [1, 2, 0, 3] rfl (gjb_X1_oilOfGrade_27 γ (lp_X1_oilOfGrade_4 n) ih a1 x5 a3 h3)
set_option maxRecDepth 20000 in
theorem ge_X1_oilOfGrade (γ : Gv) (p0 : Int32) (h : Hst) : G γ RX1 cX1_oilOfGrade 4 (some .int) [] vI 3 0 0 (lv_args 0 [.ref (gad γ 10), .int p0]) [] h (f_X1_oilOfGrade p0 h) := by
  show G γ RX1 cX1_oilOfGrade 4 (some .int) [] vI 3 0 0 [(0, .ref (gad γ 10)), (1, .int p0)] [] h (f_X1_oilOfGrade p0 h)
  unfold f_X1_oilOfGrade
  refine g_iconst (pc := 0) (v := 0) dX1_oilOfGrade_0 (by decide) ?_
  refine g_istore_n (pc := 1) (lv' := [(2, .int 0), (0, .ref (gad γ 10)), (1, .int p0)]) dX1_oilOfGrade_1 rfl (by decide) rfl ?_
  refine g_iconst (pc := 2) (v := 0) dX1_oilOfGrade_2 (by decide) ?_
  refine g_istore_n (pc := 3) (lv' := [(3, .int 0), (2, .int 0), (0, .ref (gad γ 10)), (1, .int p0)]) dX1_oilOfGrade_3 rfl (by decide) rfl ?_
  exact g_sub [2, 3, 1, 0] rfl (glp_X1_oilOfGrade_4 γ FU p0 0 0 h)
def f_X6_count (p0 : Int32) (h : Hst) : Option ((Int32 × Hst) ⊕ (Nat × Hst)) :=
  (if p0 = 0 then
    gb (f_X3_get_7 0 h) fun x2 h1 =>
    (some (.inl (x2, h1)))
  else
  (if p0 = 1 then
    gb (f_X3_get_7 1 h) fun x4 h3 =>
    (some (.inl (x4, h3)))
  else
  (if p0 = 2 then
    gb (f_X6_lotsWith 5 0 0 h) fun x6 h5 =>
    (some (.inl (x6, h5)))
  else
  (if p0 = 3 then
    gb (f_X3_get_7 2 h) fun x8 h7 =>
    (some (.inl (x8, h7)))
  else
  (if p0 = 4 then
    gb (f_X6_residueVariety h) fun x10 h9 =>
    (some (.inl (x10, h9)))
  else
  (if p0 = 5 then
    gb (f_X3_get_7 4 h) fun x12 h11 =>
    (some (.inl (x12, h11)))
  else
  (if p0 = 6 then
    gb (f_X3_get_7 5 h) fun x14 h13 =>
    (some (.inl (x14, h13)))
  else
  (if p0 = 7 then
    gb (f_X3_get_7 6 h) fun x16 h15 =>
    (some (.inl (x16, h15)))
  else
  (if p0 = 8 then
    gb (f_X1_allOil h) fun x18 h17 =>
    (some (.inl (x18, h17)))
  else
  (if p0 = 9 then
    gb (f_X6_sumOfGrowers 0 h) fun x20 h19 =>
    (some (.inl (x20, h19)))
  else
  (if p0 = 10 then
    gb (f_X1_oilOfGrade 0 h) fun x22 h21 =>
    (some (.inl (x22, h21)))
  else
  (if p0 = 11 then
    gb (f_X6_sumOfGrowers 2 h) fun x24 h23 =>
    (some (.inl (x24, h23)))
  else
  (if p0 = 12 then
    (some (.inl (h.1 1 9, h)))
  else
  (some (.inr (1, h))))))))))))))))
set_option maxRecDepth 20000 in
theorem ge_X6_count (γ : Gv) (p0 : Int32) (h : Hst) : G γ RX6 cX6_count 2 (some .int) [] vIX 6 0 0 (lv_args 0 [.ref (gad γ 0), .int p0]) [] h (f_X6_count p0 h) := by
  show G γ RX6 cX6_count 2 (some .int) [] vIX 6 0 0 [(0, .ref (gad γ 0)), (1, .int p0)] [] h (f_X6_count p0 h)
  unfold f_X6_count
  refine g_iload_n (pc := 0) dX6_count_0 rfl 1 rfl ?_
  refine g_case (c := p0 = 0) (fun c0 => ?_) (fun c0 => ?_)
  · refine g_tswI (pc := 1) (tgt := 68) (off := 67) dX6_count_1 (by rw [c0]; decide) (by rw [c0]; decide) (by rw [c0]; decide) (by decide) ?_
    refine g_aload_n (pc := 68) dX6_count_68 rfl 0 rfl ?_
    refine gf_RX6_12_0 (pc := 69) dX6_count_69 ?_
    refine gf_RX6_47_1 (pc := 72) dX6_count_72 ?_
    refine g_iconst (pc := 75) (v := 0) dX6_count_75 (by decide) ?_
    refine g_cI (pc := 76) (st := []) (fun r hr => gRunV (As := [.int 0]) 7 (ge_X3_get_7 γ 0 h) hr wv_RX6_51 rfl (Nat.le_of_ble_eq_true rfl) (gat_7 _ _) rfl rfl (Nat.le_of_ble_eq_true rfl) (Nat.le_of_ble_eq_true rfl) dX6_count_76) (fun x2 h1 => ?_)
    exact g_ireturn (pc := 79) (ty := .int) dX6_count_79 rfl rfl rfl
  refine g_case (c := p0 = 1) (fun c1 => ?_) (fun c1 => ?_)
  · refine g_tswI (pc := 1) (tgt := 80) (off := 79) dX6_count_1 (by rw [c1]; decide) (by rw [c1]; decide) (by rw [c1]; decide) (by decide) ?_
    refine g_aload_n (pc := 80) dX6_count_80 rfl 0 rfl ?_
    refine gf_RX6_12_0 (pc := 81) dX6_count_81 ?_
    refine gf_RX6_47_1 (pc := 84) dX6_count_84 ?_
    refine g_iconst (pc := 87) (v := 1) dX6_count_87 (by decide) ?_
    refine g_cI (pc := 88) (st := []) (fun r hr => gRunV (As := [.int 1]) 7 (ge_X3_get_7 γ 1 h) hr wv_RX6_51 rfl (Nat.le_of_ble_eq_true rfl) (gat_7 _ _) rfl rfl (Nat.le_of_ble_eq_true rfl) (Nat.le_of_ble_eq_true rfl) dX6_count_88) (fun x4 h3 => ?_)
    exact g_ireturn (pc := 91) (ty := .int) dX6_count_91 rfl rfl rfl
  refine g_case (c := p0 = 2) (fun c2 => ?_) (fun c2 => ?_)
  · refine g_tswI (pc := 1) (tgt := 92) (off := 91) dX6_count_1 (by rw [c2]; decide) (by rw [c2]; decide) (by rw [c2]; decide) (by decide) ?_
    refine g_aload_n (pc := 92) dX6_count_92 rfl 0 rfl ?_
    refine g_iconst (pc := 93) (v := 5) dX6_count_93 (by decide) ?_
    refine g_iconst (pc := 94) (v := 0) dX6_count_94 (by decide) ?_
    refine g_iconst (pc := 95) (v := 0) dX6_count_95 (by decide) ?_
    refine g_cI (pc := 96) (st := []) (fun r hr => gRunV (As := [.int 5, .int 0, .int 0]) 0 (ge_X6_lotsWith γ 5 0 0 h) hr wv_RX6_268 rfl (Nat.le_of_ble_eq_true rfl) (gat_0 _ _) rfl rfl (Nat.le_of_ble_eq_true rfl) (Nat.le_of_ble_eq_true rfl) dX6_count_96) (fun x6 h5 => ?_)
    exact g_ireturn (pc := 99) (ty := .int) dX6_count_99 rfl rfl rfl
  refine g_case (c := p0 = 3) (fun c3 => ?_) (fun c3 => ?_)
  · refine g_tswI (pc := 1) (tgt := 100) (off := 99) dX6_count_1 (by rw [c3]; decide) (by rw [c3]; decide) (by rw [c3]; decide) (by decide) ?_
    refine g_aload_n (pc := 100) dX6_count_100 rfl 0 rfl ?_
    refine gf_RX6_12_0 (pc := 101) dX6_count_101 ?_
    refine gf_RX6_47_1 (pc := 104) dX6_count_104 ?_
    refine g_iconst (pc := 107) (v := 2) dX6_count_107 (by decide) ?_
    refine g_cI (pc := 108) (st := []) (fun r hr => gRunV (As := [.int 2]) 7 (ge_X3_get_7 γ 2 h) hr wv_RX6_51 rfl (Nat.le_of_ble_eq_true rfl) (gat_7 _ _) rfl rfl (Nat.le_of_ble_eq_true rfl) (Nat.le_of_ble_eq_true rfl) dX6_count_108) (fun x8 h7 => ?_)
    exact g_ireturn (pc := 111) (ty := .int) dX6_count_111 rfl rfl rfl
  refine g_case (c := p0 = 4) (fun c4 => ?_) (fun c4 => ?_)
  · refine g_tswI (pc := 1) (tgt := 112) (off := 111) dX6_count_1 (by rw [c4]; decide) (by rw [c4]; decide) (by rw [c4]; decide) (by decide) ?_
    refine g_aload_n (pc := 112) dX6_count_112 rfl 0 rfl ?_
    refine g_cI (pc := 113) (st := []) (fun r hr => gRunV (As := []) 0 (ge_X6_residueVariety γ h) hr wv_RX6_284 rfl (Nat.le_of_ble_eq_true rfl) (gat_0 _ _) rfl rfl (Nat.le_of_ble_eq_true rfl) (Nat.le_of_ble_eq_true rfl) dX6_count_113) (fun x10 h9 => ?_)
    exact g_ireturn (pc := 116) (ty := .int) dX6_count_116 rfl rfl rfl
  refine g_case (c := p0 = 5) (fun c5 => ?_) (fun c5 => ?_)
  · refine g_tswI (pc := 1) (tgt := 117) (off := 116) dX6_count_1 (by rw [c5]; decide) (by rw [c5]; decide) (by rw [c5]; decide) (by decide) ?_
    refine g_aload_n (pc := 117) dX6_count_117 rfl 0 rfl ?_
    refine gf_RX6_12_0 (pc := 118) dX6_count_118 ?_
    refine gf_RX6_47_1 (pc := 121) dX6_count_121 ?_
    refine g_iconst (pc := 124) (v := 4) dX6_count_124 (by decide) ?_
    refine g_cI (pc := 125) (st := []) (fun r hr => gRunV (As := [.int 4]) 7 (ge_X3_get_7 γ 4 h) hr wv_RX6_51 rfl (Nat.le_of_ble_eq_true rfl) (gat_7 _ _) rfl rfl (Nat.le_of_ble_eq_true rfl) (Nat.le_of_ble_eq_true rfl) dX6_count_125) (fun x12 h11 => ?_)
    exact g_ireturn (pc := 128) (ty := .int) dX6_count_128 rfl rfl rfl
  refine g_case (c := p0 = 6) (fun c6 => ?_) (fun c6 => ?_)
  · refine g_tswI (pc := 1) (tgt := 129) (off := 128) dX6_count_1 (by rw [c6]; decide) (by rw [c6]; decide) (by rw [c6]; decide) (by decide) ?_
    refine g_aload_n (pc := 129) dX6_count_129 rfl 0 rfl ?_
    refine gf_RX6_12_0 (pc := 130) dX6_count_130 ?_
    refine gf_RX6_47_1 (pc := 133) dX6_count_133 ?_
    refine g_iconst (pc := 136) (v := 5) dX6_count_136 (by decide) ?_
    refine g_cI (pc := 137) (st := []) (fun r hr => gRunV (As := [.int 5]) 7 (ge_X3_get_7 γ 5 h) hr wv_RX6_51 rfl (Nat.le_of_ble_eq_true rfl) (gat_7 _ _) rfl rfl (Nat.le_of_ble_eq_true rfl) (Nat.le_of_ble_eq_true rfl) dX6_count_137) (fun x14 h13 => ?_)
    exact g_ireturn (pc := 140) (ty := .int) dX6_count_140 rfl rfl rfl
  refine g_case (c := p0 = 7) (fun c7 => ?_) (fun c7 => ?_)
  · refine g_tswI (pc := 1) (tgt := 141) (off := 140) dX6_count_1 (by rw [c7]; decide) (by rw [c7]; decide) (by rw [c7]; decide) (by decide) ?_
    refine g_aload_n (pc := 141) dX6_count_141 rfl 0 rfl ?_
    refine gf_RX6_12_0 (pc := 142) dX6_count_142 ?_
    refine gf_RX6_47_1 (pc := 145) dX6_count_145 ?_
    refine g_bipush (pc := 148) (v := 6) dX6_count_148 (by decide) ?_
    refine g_cI (pc := 150) (st := []) (fun r hr => gRunV (As := [.int 6]) 7 (ge_X3_get_7 γ 6 h) hr wv_RX6_51 rfl (Nat.le_of_ble_eq_true rfl) (gat_7 _ _) rfl rfl (Nat.le_of_ble_eq_true rfl) (Nat.le_of_ble_eq_true rfl) dX6_count_150) (fun x16 h15 => ?_)
    exact g_ireturn (pc := 153) (ty := .int) dX6_count_153 rfl rfl rfl
  refine g_case (c := p0 = 8) (fun c8 => ?_) (fun c8 => ?_)
  · refine g_tswI (pc := 1) (tgt := 154) (off := 153) dX6_count_1 (by rw [c8]; decide) (by rw [c8]; decide) (by rw [c8]; decide) (by decide) ?_
    refine g_aload_n (pc := 154) dX6_count_154 rfl 0 rfl ?_
    refine gf_RX6_21_0 (pc := 155) dX6_count_155 ?_
    refine g_cI (pc := 158) (st := []) (fun r hr => gRunV (As := []) 10 (ge_X1_allOil γ h) hr wv_RX6_289 rfl (Nat.le_of_ble_eq_true rfl) (gat_10 _ _) rfl rfl (Nat.le_of_ble_eq_true rfl) (Nat.le_of_ble_eq_true rfl) dX6_count_158) (fun x18 h17 => ?_)
    exact g_ireturn (pc := 161) (ty := .int) dX6_count_161 rfl rfl rfl
  refine g_case (c := p0 = 9) (fun c9 => ?_) (fun c9 => ?_)
  · refine g_tswI (pc := 1) (tgt := 162) (off := 161) dX6_count_1 (by rw [c9]; decide) (by rw [c9]; decide) (by rw [c9]; decide) (by decide) ?_
    refine g_aload_n (pc := 162) dX6_count_162 rfl 0 rfl ?_
    refine g_iconst (pc := 163) (v := 0) dX6_count_163 (by decide) ?_
    refine g_cI (pc := 164) (st := []) (fun r hr => gRunV (As := [.int 0]) 0 (ge_X6_sumOfGrowers γ 0 h) hr wv_RX6_292 rfl (Nat.le_of_ble_eq_true rfl) (gat_0 _ _) rfl rfl (Nat.le_of_ble_eq_true rfl) (Nat.le_of_ble_eq_true rfl) dX6_count_164) (fun x20 h19 => ?_)
    exact g_ireturn (pc := 167) (ty := .int) dX6_count_167 rfl rfl rfl
  refine g_case (c := p0 = 10) (fun c10 => ?_) (fun c10 => ?_)
  · refine g_tswI (pc := 1) (tgt := 168) (off := 167) dX6_count_1 (by rw [c10]; decide) (by rw [c10]; decide) (by rw [c10]; decide) (by decide) ?_
    refine g_aload_n (pc := 168) dX6_count_168 rfl 0 rfl ?_
    refine gf_RX6_21_0 (pc := 169) dX6_count_169 ?_
    refine g_iconst (pc := 172) (v := 0) dX6_count_172 (by decide) ?_
    refine g_cI (pc := 173) (st := []) (fun r hr => gRunV (As := [.int 0]) 10 (ge_X1_oilOfGrade γ 0 h) hr wv_RX6_295 rfl (Nat.le_of_ble_eq_true rfl) (gat_10 _ _) rfl rfl (Nat.le_of_ble_eq_true rfl) (Nat.le_of_ble_eq_true rfl) dX6_count_173) (fun x22 h21 => ?_)
    exact g_ireturn (pc := 176) (ty := .int) dX6_count_176 rfl rfl rfl
  refine g_case (c := p0 = 11) (fun c11 => ?_) (fun c11 => ?_)
  · refine g_tswI (pc := 1) (tgt := 177) (off := 176) dX6_count_1 (by rw [c11]; decide) (by rw [c11]; decide) (by rw [c11]; decide) (by decide) ?_
    refine g_aload_n (pc := 177) dX6_count_177 rfl 0 rfl ?_
    refine g_iconst (pc := 178) (v := 2) dX6_count_178 (by decide) ?_
    refine g_cI (pc := 179) (st := []) (fun r hr => gRunV (As := [.int 2]) 0 (ge_X6_sumOfGrowers γ 2 h) hr wv_RX6_292 rfl (Nat.le_of_ble_eq_true rfl) (gat_0 _ _) rfl rfl (Nat.le_of_ble_eq_true rfl) (Nat.le_of_ble_eq_true rfl) dX6_count_179) (fun x24 h23 => ?_)
    exact g_ireturn (pc := 182) (ty := .int) dX6_count_182 rfl rfl rfl
  refine g_case (c := p0 = 12) (fun c12 => ?_) (fun c12 => ?_)
  · refine g_tswI (pc := 1) (tgt := 183) (off := 182) dX6_count_1 (by rw [c12]; decide) (by rw [c12]; decide) (by rw [c12]; decide) (by decide) ?_
    refine g_aload_n (pc := 183) dX6_count_183 rfl 0 rfl ?_
    refine gf_RX6_12_0 (pc := 184) dX6_count_184 ?_
    refine gf_RX6_260_1 (pc := 187) dX6_count_187 ?_
    exact g_ireturn (pc := 190) (ty := .int) dX6_count_190 rfl rfl rfl
  refine g_tswO (pc := 1) (tgt := 191) dX6_count_1 (by have k := fun (v : Int32) (n : Int) (e : v.toInt = n) (c : ¬ p0 = v) => gne e c; have k0 := k 0 0 (by decide) c0; have k1 := k 1 1 (by decide) c1; have k2 := k 2 2 (by decide) c2; have k3 := k 3 3 (by decide) c3; have k4 := k 4 4 (by decide) c4; have k5 := k 5 5 (by decide) c5; have k6 := k 6 6 (by decide) c6; have k7 := k 7 7 (by decide) c7; have k8 := k 8 8 (by decide) c8; have k9 := k 9 9 (by decide) c9; have k10 := k 10 10 (by decide) c10; have k11 := k 11 11 (by decide) c11; have k12 := k 12 12 (by decide) c12; omega) (by decide) ?_
  exact g_throwSW 1 (by decide +kernel) wcl_RX6_83 wini_1 wat_RX6_87_1 rfl (by decide +kernel : (298, "what is not 0 to 12") ∈ gstrs) (Nat.le_of_ble_eq_true rfl) (fun x hx => nomatch hx) dX6_count_191 dX6_count_194 dX6_count_195 dX6_count_198 dX6_count_201 (fun z hz => by cases hz; rfl)
def f_X6_setting (p0 : Int32) (h : Hst) : Option ((Int32 × Hst) ⊕ (Nat × Hst)) :=
  gb (f_X6_isSetting p0 h) fun x2 h1 =>
  (if x2 = 0 then
    (some (.inr (0, h1)))
  else
    gb (f_X3_get_6 p0 h1) fun x4 h3 =>
    (some (.inl (x4, h3))))
set_option maxRecDepth 20000 in
theorem ge_X6_setting (γ : Gv) (p0 : Int32) (h : Hst) : G γ RX6 cX6_setting 2 (some .int) [] vIX 6 0 0 (lv_args 0 [.ref (gad γ 0), .int p0]) [] h (f_X6_setting p0 h) := by
  show G γ RX6 cX6_setting 2 (some .int) [] vIX 6 0 0 [(0, .ref (gad γ 0)), (1, .int p0)] [] h (f_X6_setting p0 h)
  unfold f_X6_setting
  refine g_iload_n (pc := 0) dX6_setting_0 rfl 1 rfl ?_
  refine g_cI (pc := 1) (st := []) (fun r hr => gRunS (As := [.int p0]) (ge_X6_isSetting γ p0 h) hr wv_RX6_119 rfl (Nat.le_of_ble_eq_true rfl) rfl (Nat.le_of_ble_eq_true rfl) (Nat.le_of_ble_eq_true rfl) dX6_setting_1) (fun x2 h1 => ?_)
  refine g_if_ne (pc := 4) (tgt := 17) dX6_setting_4 (by decide) ?_ ?_
  · refine g_aload_n (pc := 17) dX6_setting_17 rfl 0 rfl ?_
    refine gf_RX6_12_0 (pc := 18) dX6_setting_18 ?_
    refine gf_RX6_133_1 (pc := 21) dX6_setting_21 ?_
    refine g_iload_n (pc := 24) dX6_setting_24 rfl 1 rfl ?_
    refine g_cI (pc := 25) (st := []) (fun r hr => gRunV (As := [.int p0]) 6 (ge_X3_get_6 γ p0 h1) hr wv_RX6_51 rfl (Nat.le_of_ble_eq_true rfl) (gat_6 _ _) rfl rfl (Nat.le_of_ble_eq_true rfl) (Nat.le_of_ble_eq_true rfl) dX6_setting_25) (fun x4 h3 => ?_)
    exact g_ireturn (pc := 28) (ty := .int) dX6_setting_28 rfl rfl rfl
  · exact g_throwS 0 (by decide +kernel) wcl_RX6_122 wini_0 wat_RX6_126_0 rfl (by decide +kernel : (124, "there is no such setting") ∈ gstrs) (Nat.le_of_ble_eq_true rfl) (fun x hx => nomatch hx) dX6_setting_7 dX6_setting_10 dX6_setting_11 dX6_setting_13 dX6_setting_16 (fun z hz => by cases hz; rfl)
def f_X6_whyNot (p0 : Int32) (p1 : Int32) (h : Hst) : Option ((Int32 × Hst) ⊕ (Nat × Hst)) :=
  (gbvx (f_X6_checkTank p0 h) (fun h1 =>
    gb (f_X6_reasonAgainstPress p0 p1 h1) fun x3 h2 =>
    (some (.inl (x3, h2)))) (fun E h4 => some (.inr (E, h4))))
set_option maxRecDepth 20000 in
theorem ge_X6_whyNot (γ : Gv) (p0 : Int32) (p1 : Int32) (h : Hst) : G γ RX6 cX6_whyNot 3 (some .int) [] vIX 7 0 0 (lv_args 0 [.ref (gad γ 0), .int p0, .int p1]) [] h (f_X6_whyNot p0 p1 h) := by
  show G γ RX6 cX6_whyNot 3 (some .int) [] vIX 7 0 0 [(0, .ref (gad γ 0)), (1, .int p0), (2, .int p1)] [] h (f_X6_whyNot p0 p1 h)
  unfold f_X6_whyNot
  refine g_aload_n (pc := 0) dX6_whyNot_0 rfl 0 rfl ?_
  refine g_iload_n (pc := 1) dX6_whyNot_1 rfl 1 rfl ?_
  refine g_cVX (pc := 2) (st := []) (fun r hr => gRunV (As := [.int p0]) 0 (ge_X6_checkTank γ p0 h) hr wv_RX6_138 rfl (Nat.le_of_ble_eq_true rfl) (gat_0 _ _) rfl rfl (Nat.le_of_ble_eq_true rfl) (Nat.le_of_ble_eq_true rfl) dX6_whyNot_2) (fun h1 => ?_) (fun E h4 hrun => gRun.out hrun rfl rfl (fun y hy => by cases hy; rfl) (fun x hx => nomatch hx))
  refine g_aload_n (pc := 5) dX6_whyNot_5 rfl 0 rfl ?_
  refine g_iload_n (pc := 6) dX6_whyNot_6 rfl 1 rfl ?_
  refine g_iload_n (pc := 7) dX6_whyNot_7 rfl 2 rfl ?_
  refine g_cI (pc := 8) (st := []) (fun r hr => gRunV (As := [.int p0, .int p1]) 0 (ge_X6_reasonAgainstPress γ p0 p1 h1) hr wv_RX6_141 rfl (Nat.le_of_ble_eq_true rfl) (gat_0 _ _) rfl rfl (Nat.le_of_ble_eq_true rfl) (Nat.le_of_ble_eq_true rfl) dX6_whyNot_8) (fun x3 h2 => ?_)
  exact g_ireturn (pc := 11) (ty := .int) dX6_whyNot_11 rfl rfl rfl
def f_X6_next (p0 : Int32) (h : Hst) : Option ((Int32 × Hst) ⊕ (Nat × Hst)) :=
  gb (f_X6_isOutside p0 0 4 h) fun x2 h1 =>
  (if x2 = 0 then
    gb (f_X2_lookAhead h1) fun x4 h3 =>
    (if x4 = 0 then
      (some (.inl ((-1), h3)))
    else
      (if p0 = 0 then
        (some (.inl (h3.1 13 5, h3)))
      else
      (if p0 = 1 then
        (some (.inl (h3.1 13 8, h3)))
      else
      (if p0 = 2 then
        (some (.inl (h3.1 13 11, h3)))
      else
      (if p0 = 3 then
        (some (.inl (h3.1 13 9, h3)))
      else
      (some (.inl (h3.1 13 3, h3))))))))
  else
    (some (.inr (1, h1))))
set_option maxRecDepth 20000 in
theorem ge_X6_next (γ : Gv) (p0 : Int32) (h : Hst) : G γ RX6 cX6_next 2 (some .int) [] vIX 6 0 0 (lv_args 0 [.ref (gad γ 0), .int p0]) [] h (f_X6_next p0 h) := by
  show G γ RX6 cX6_next 2 (some .int) [] vIX 6 0 0 [(0, .ref (gad γ 0)), (1, .int p0)] [] h (f_X6_next p0 h)
  unfold f_X6_next
  refine g_iload_n (pc := 0) dX6_next_0 rfl 1 rfl ?_
  refine g_iconst (pc := 1) (v := 0) dX6_next_1 (by decide) ?_
  refine g_iconst (pc := 2) (v := 4) dX6_next_2 (by decide) ?_
  refine g_cI (pc := 3) (st := []) (fun r hr => gRunS (As := [.int p0, .int 0, .int 4]) (ge_X6_isOutside γ p0 0 4 h) hr wv_RX6_79 rfl (Nat.le_of_ble_eq_true rfl) rfl (Nat.le_of_ble_eq_true rfl) (Nat.le_of_ble_eq_true rfl) dX6_next_3) (fun x2 h1 => ?_)
  refine g_if_eq (pc := 6) (tgt := 20) dX6_next_6 (by decide) ?_ ?_
  · refine g_aload_n (pc := 20) dX6_next_20 rfl 0 rfl ?_
    refine gf_RX6_28_0 (pc := 21) dX6_next_21 ?_
    refine g_cI (pc := 24) (st := []) (fun r hr => gRunV (As := []) 13 (ge_X2_lookAhead γ h1) hr wv_RX6_302 rfl (Nat.le_of_ble_eq_true rfl) (gat_13 _ _) rfl rfl (Nat.le_of_ble_eq_true rfl) (Nat.le_of_ble_eq_true rfl) dX6_next_24) (fun x4 h3 => ?_)
    refine g_if_ne (pc := 27) (tgt := 32) dX6_next_27 (by decide) ?_ ?_
    · refine g_iload_n (pc := 32) dX6_next_32 rfl 1 rfl ?_
      refine g_case (c := p0 = 0) (fun c0 => ?_) (fun c0 => ?_)
      · refine g_tswI (pc := 33) (tgt := 64) (off := 31) dX6_next_33 (by rw [c0]; decide) (by rw [c0]; decide) (by rw [c0]; decide) (by decide) ?_
        refine g_aload_n (pc := 64) dX6_next_64 rfl 0 rfl ?_
        refine gf_RX6_28_0 (pc := 65) dX6_next_65 ?_
        refine gf_RX6_168_13 (pc := 68) dX6_next_68 ?_
        exact g_ireturn (pc := 71) (ty := .int) dX6_next_71 rfl rfl rfl
      refine g_case (c := p0 = 1) (fun c1 => ?_) (fun c1 => ?_)
      · refine g_tswI (pc := 33) (tgt := 72) (off := 39) dX6_next_33 (by rw [c1]; decide) (by rw [c1]; decide) (by rw [c1]; decide) (by decide) ?_
        refine g_aload_n (pc := 72) dX6_next_72 rfl 0 rfl ?_
        refine gf_RX6_28_0 (pc := 73) dX6_next_73 ?_
        refine gf_RX6_305_13 (pc := 76) dX6_next_76 ?_
        exact g_ireturn (pc := 79) (ty := .int) dX6_next_79 rfl rfl rfl
      refine g_case (c := p0 = 2) (fun c2 => ?_) (fun c2 => ?_)
      · refine g_tswI (pc := 33) (tgt := 80) (off := 47) dX6_next_33 (by rw [c2]; decide) (by rw [c2]; decide) (by rw [c2]; decide) (by decide) ?_
        refine g_aload_n (pc := 80) dX6_next_80 rfl 0 rfl ?_
        refine gf_RX6_28_0 (pc := 81) dX6_next_81 ?_
        refine gf_RX6_308_13 (pc := 84) dX6_next_84 ?_
        exact g_ireturn (pc := 87) (ty := .int) dX6_next_87 rfl rfl rfl
      refine g_case (c := p0 = 3) (fun c3 => ?_) (fun c3 => ?_)
      · refine g_tswI (pc := 33) (tgt := 88) (off := 55) dX6_next_33 (by rw [c3]; decide) (by rw [c3]; decide) (by rw [c3]; decide) (by decide) ?_
        refine g_aload_n (pc := 88) dX6_next_88 rfl 0 rfl ?_
        refine gf_RX6_28_0 (pc := 89) dX6_next_89 ?_
        refine gf_RX6_150_13 (pc := 92) dX6_next_92 ?_
        exact g_ireturn (pc := 95) (ty := .int) dX6_next_95 rfl rfl rfl
      refine g_tswO (pc := 33) (tgt := 96) dX6_next_33 (by have k := fun (v : Int32) (n : Int) (e : v.toInt = n) (c : ¬ p0 = v) => gne e c; have k0 := k 0 0 (by decide) c0; have k1 := k 1 1 (by decide) c1; have k2 := k 2 2 (by decide) c2; have k3 := k 3 3 (by decide) c3; omega) (by decide) ?_
      refine g_aload_n (pc := 96) dX6_next_96 rfl 0 rfl ?_
      refine gf_RX6_28_0 (pc := 97) dX6_next_97 ?_
      refine gf_RX6_165_13 (pc := 100) dX6_next_100 ?_
      exact g_ireturn (pc := 103) (ty := .int) dX6_next_103 rfl rfl rfl
    · refine g_iconst (pc := 30) (v := (-1)) dX6_next_30 (by decide) ?_
      exact g_ireturn (pc := 31) (ty := .int) dX6_next_31 rfl rfl rfl
  · exact g_throwSW 1 (by decide +kernel) wcl_RX6_83 wini_1 wat_RX6_87_1 rfl (by decide +kernel : (300, "what is not 0 to 4") ∈ gstrs) (Nat.le_of_ble_eq_true rfl) (fun x hx => nomatch hx) dX6_next_9 dX6_next_12 dX6_next_13 dX6_next_16 dX6_next_19 (fun z hz => by cases hz; rfl)
def f_X6_taken (p0 : Int32) (p1 : Int32) (p2 : Int32) (h : Hst) : Option ((Int32 × Hst) ⊕ (Nat × Hst)) :=
  (gbvx (f_X6_checkTank p0 h) (fun h1 =>
    (gbvx (f_X6_checkOil p1 h1) (fun h2 =>
      gb (f_X6_isVariety p2 h2) fun x4 h3 =>
      (if x4 = 0 then
        (some (.inr (1, h3)))
      else
        gb (f_X1_oilOf p0 h3) fun x6 h5 =>
        (if p1 ≤ x6 then
          gbv (f_X1_split p0 p1 h5) fun h7 =>
          gb (f_X1_part p2 h7) fun x9 h8 =>
          (some (.inl (x9, h8)))
        else
          (some (.inl ((-1), h5)))))) (fun E h10 => some (.inr (E, h10))))) (fun E h11 => some (.inr (E, h11))))
set_option maxRecDepth 20000 in
theorem ge_X6_taken (γ : Gv) (p0 : Int32) (p1 : Int32) (p2 : Int32) (h : Hst) : G γ RX6 cX6_taken 4 (some .int) [] vIX 7 0 0 (lv_args 0 [.ref (gad γ 0), .int p0, .int p1, .int p2]) [] h (f_X6_taken p0 p1 p2 h) := by
  show G γ RX6 cX6_taken 4 (some .int) [] vIX 7 0 0 [(0, .ref (gad γ 0)), (1, .int p0), (2, .int p1), (3, .int p2)] [] h (f_X6_taken p0 p1 p2 h)
  unfold f_X6_taken
  refine g_aload_n (pc := 0) dX6_taken_0 rfl 0 rfl ?_
  refine g_iload_n (pc := 1) dX6_taken_1 rfl 1 rfl ?_
  refine g_cVX (pc := 2) (st := []) (fun r hr => gRunV (As := [.int p0]) 0 (ge_X6_checkTank γ p0 h) hr wv_RX6_138 rfl (Nat.le_of_ble_eq_true rfl) (gat_0 _ _) rfl rfl (Nat.le_of_ble_eq_true rfl) (Nat.le_of_ble_eq_true rfl) dX6_taken_2) (fun h1 => ?_) (fun E h11 hrun => gRun.out hrun rfl rfl (fun y hy => by cases hy; rfl) (fun x hx => nomatch hx))
  refine g_iload_n (pc := 5) dX6_taken_5 rfl 2 rfl ?_
  refine g_cVX (pc := 6) (st := []) (fun r hr => gRunS (As := [.int p1]) (ge_X6_checkOil γ p1 h1) hr wv_RX6_197 rfl (Nat.le_of_ble_eq_true rfl) rfl (Nat.le_of_ble_eq_true rfl) (Nat.le_of_ble_eq_true rfl) dX6_taken_6) (fun h2 => ?_) (fun E h10 hrun => gRun.out hrun rfl rfl (fun y hy => by cases hy; rfl) (fun x hx => nomatch hx))
  refine g_iload_n (pc := 9) dX6_taken_9 rfl 3 rfl ?_
  refine g_cI (pc := 10) (st := []) (fun r hr => gRunS (As := [.int p2]) (ge_X6_isVariety γ p2 h2) hr wv_RX6_75 rfl (Nat.le_of_ble_eq_true rfl) rfl (Nat.le_of_ble_eq_true rfl) (Nat.le_of_ble_eq_true rfl) dX6_taken_10) (fun x4 h3 => ?_)
  refine g_if_ne (pc := 13) (tgt := 27) dX6_taken_13 (by decide) ?_ ?_
  · refine g_aload_n (pc := 27) dX6_taken_27 rfl 0 rfl ?_
    refine gf_RX6_21_0 (pc := 28) dX6_taken_28 ?_
    refine g_iload_n (pc := 31) dX6_taken_31 rfl 1 rfl ?_
    refine g_cI (pc := 32) (st := []) (fun r hr => gRunV (As := [.int p0]) 10 (ge_X1_oilOf γ p0 h3) hr wv_RX6_203 rfl (Nat.le_of_ble_eq_true rfl) (gat_10 _ _) rfl rfl (Nat.le_of_ble_eq_true rfl) (Nat.le_of_ble_eq_true rfl) dX6_taken_32) (fun x6 h5 => ?_)
    refine g_iload_n (pc := 35) dX6_taken_35 rfl 2 rfl ?_
    refine g_icmp_ge (pc := 36) (tgt := 41) dX6_taken_36 (by decide) ?_ ?_
    · refine g_aload_n (pc := 41) dX6_taken_41 rfl 0 rfl ?_
      refine gf_RX6_21_0 (pc := 42) dX6_taken_42 ?_
      refine g_iload_n (pc := 45) dX6_taken_45 rfl 1 rfl ?_
      refine g_iload_n (pc := 46) dX6_taken_46 rfl 2 rfl ?_
      refine g_cV (pc := 47) (st := []) (fun r hr => gRunV (As := [.int p0, .int p1]) 10 (ge_X1_split γ p0 p1 h5) hr wv_RX6_313 rfl (Nat.le_of_ble_eq_true rfl) (gat_10 _ _) rfl rfl (Nat.le_of_ble_eq_true rfl) (Nat.le_of_ble_eq_true rfl) dX6_taken_47) (fun h7 => ?_)
      refine g_aload_n (pc := 50) dX6_taken_50 rfl 0 rfl ?_
      refine gf_RX6_21_0 (pc := 51) dX6_taken_51 ?_
      refine g_iload_n (pc := 54) dX6_taken_54 rfl 3 rfl ?_
      refine g_cI (pc := 55) (st := []) (fun r hr => gRunV (As := [.int p2]) 10 (ge_X1_part γ p2 h7) hr wv_RX6_211 rfl (Nat.le_of_ble_eq_true rfl) (gat_10 _ _) rfl rfl (Nat.le_of_ble_eq_true rfl) (Nat.le_of_ble_eq_true rfl) dX6_taken_55) (fun x9 h8 => ?_)
      exact g_ireturn (pc := 58) (ty := .int) dX6_taken_58 rfl rfl rfl
    · refine g_iconst (pc := 39) (v := (-1)) dX6_taken_39 (by decide) ?_
      exact g_ireturn (pc := 40) (ty := .int) dX6_taken_40 rfl rfl rfl
  · exact g_throwSW 1 (by decide +kernel) wcl_RX6_83 wini_1 wat_RX6_87_1 rfl (by decide +kernel : (311, "there is no such variety") ∈ gstrs) (Nat.le_of_ble_eq_true rfl) (fun x hx => nomatch hx) dX6_taken_16 dX6_taken_19 dX6_taken_20 dX6_taken_23 dX6_taken_26 (fun z hz => by cases hz; rfl)
def lp_X6_oilIn_32 : Nat → Int32 → Int32 → Int32 → Int32 → Hst → Option ((Int32 × Hst) ⊕ (Nat × Hst))
  | 0, _, _, _, _, _ => none
  | n + 1, a1, a2, a3, a4, h =>
    (if 5 ≤ a4 then
      (some (.inl (a3, h)))
    else
      gb (f_X5_get_4 a1 (2 + a4) h) fun x2 h1 =>
      gb (f_X1_oilAfter a2 x2 h1) fun x4 h3 =>
      gl (a3 + x4) fun x5 =>
      ((lp_X6_oilIn_32 n) a1 a2 x5 (a4 + 1) h3))
def f_X6_oilIn (p0 : Int32) (p1 : Int32) (h : Hst) : Option ((Int32 × Hst) ⊕ (Nat × Hst)) :=
  (gbvx (f_X6_checkTank p0 h) (fun h1 =>
    gb (f_X6_isOutside p1 0 200 h1) fun x3 h2 =>
    (if x3 = 0 then
      (lp_X6_oilIn_32 FU p0 p1 0 0 h2)
    else
      (some (.inr (1, h2))))) (fun E h4 => some (.inr (E, h4))))
set_option maxRecDepth 20000 in
theorem glp_X6_oilIn_32 (γ : Gv)  : ∀ (n : Nat) (a1 : Int32) (a2 : Int32) (a3 : Int32) (a4 : Int32) (h : Hst), G γ RX6 cX6_oilIn 5 (some .int) [] vIX 7 0 32 [(0, .ref (gad γ 0)), (1, .int a1), (2, .int a2), (3, .int a3), (4, .int a4)] [] h (lp_X6_oilIn_32 n a1 a2 a3 a4 h) := by
  intro n
  induction n with
  | zero => intro a1 a2 a3 a4 h; exact g_none
  | succ n ih =>
    intro a1 a2 a3 a4 h
    rw [lp_X6_oilIn_32]
    refine g_iload (pc := 32) dX6_oilIn_32 4 rfl ?_
    refine g_iconst (pc := 34) (v := 5) dX6_oilIn_34 (by decide) ?_
    refine g_icmp_ge (pc := 35) (tgt := 70) dX6_oilIn_35 (by decide) ?_ ?_
    · refine g_iload_n (pc := 70) dX6_oilIn_70 rfl 3 rfl ?_
      exact g_ireturn (pc := 71) (ty := .int) dX6_oilIn_71 rfl rfl rfl
    · refine g_iload_n (pc := 38) dX6_oilIn_38 rfl 3 rfl ?_
      refine g_aload_n (pc := 39) dX6_oilIn_39 rfl 0 rfl ?_
      refine gf_RX6_21_0 (pc := 40) dX6_oilIn_40 ?_
      refine g_iload_n (pc := 43) dX6_oilIn_43 rfl 2 rfl ?_
      refine g_aload_n (pc := 44) dX6_oilIn_44 rfl 0 rfl ?_
      refine gf_RX6_12_0 (pc := 45) dX6_oilIn_45 ?_
      refine gf_RX6_98_1 (pc := 48) dX6_oilIn_48 ?_
      refine g_iload_n (pc := 51) dX6_oilIn_51 rfl 1 rfl ?_
      refine g_iconst (pc := 52) (v := 2) dX6_oilIn_52 (by decide) ?_
      refine g_iload (pc := 53) dX6_oilIn_53 4 rfl ?_
      refine g_iadd (pc := 55) dX6_oilIn_55 ?_
      refine g_cI (pc := 56) (st := [.int a2, .ref (gad γ 10), .int a3]) (fun r hr => gRunV (As := [.int a1, .int (2 + a4)]) 4 (ge_X5_get_4 γ a1 (2 + a4) h) hr wv_RX6_116 rfl (Nat.le_of_ble_eq_true rfl) (gat_4 _ _) rfl rfl (Nat.le_of_ble_eq_true rfl) (Nat.le_of_ble_eq_true rfl) dX6_oilIn_56) (fun x2 h1 => ?_)
      refine g_cI (pc := 59) (st := [.int a3]) (fun r hr => gRunV (As := [.int a2, .int x2]) 10 (ge_X1_oilAfter γ a2 x2 h1) hr wv_RX6_318 rfl (Nat.le_of_ble_eq_true rfl) (gat_10 _ _) rfl rfl (Nat.le_of_ble_eq_true rfl) (Nat.le_of_ble_eq_true rfl) dX6_oilIn_59) (fun x4 h3 => ?_)
      refine g_iadd (pc := 62) dX6_oilIn_62 ?_
      refine g_nmi (fun x5 => ?_)
      refine g_istore_n (pc := 63) (lv' := [(3, .int x5), (0, .ref (gad γ 0)), (1, .int a1), (2, .int a2), (4, .int a4)]) dX6_oilIn_63 rfl (by decide) rfl ?_
      refine g_iinc (pc := 64) (q := 4) (v := a4 + 1) (lv' := [(4, .int (a4 + 1)), (3, .int x5), (0, .ref (gad γ 0)), (1, .int a1), (2, .int a2)]) dX6_oilIn_64 rfl rfl (by decide) rfl ?_
      refine g_goto (pc := 67) (tgt := 32) dX6_oilIn_67 (by decide) ?_
      exact g_sub [2, 3, 4, 1, 0] rfl (ih a1 a2 x5 (a4 + 1) h3)
set_option maxRecDepth 20000 in
theorem ge_X6_oilIn (γ : Gv) (p0 : Int32) (p1 : Int32) (h : Hst) : G γ RX6 cX6_oilIn 5 (some .int) [] vIX 7 0 0 (lv_args 0 [.ref (gad γ 0), .int p0, .int p1]) [] h (f_X6_oilIn p0 p1 h) := by
  show G γ RX6 cX6_oilIn 5 (some .int) [] vIX 7 0 0 [(0, .ref (gad γ 0)), (1, .int p0), (2, .int p1)] [] h (f_X6_oilIn p0 p1 h)
  unfold f_X6_oilIn
  refine g_aload_n (pc := 0) dX6_oilIn_0 rfl 0 rfl ?_
  refine g_iload_n (pc := 1) dX6_oilIn_1 rfl 1 rfl ?_
  refine g_cVX (pc := 2) (st := []) (fun r hr => gRunV (As := [.int p0]) 0 (ge_X6_checkTank γ p0 h) hr wv_RX6_138 rfl (Nat.le_of_ble_eq_true rfl) (gat_0 _ _) rfl rfl (Nat.le_of_ble_eq_true rfl) (Nat.le_of_ble_eq_true rfl) dX6_oilIn_2) (fun h1 => ?_) (fun E h4 hrun => gRun.out hrun rfl rfl (fun y hy => by cases hy; rfl) (fun x hx => nomatch hx))
  refine g_iload_n (pc := 5) dX6_oilIn_5 rfl 2 rfl ?_
  refine g_iconst (pc := 6) (v := 0) dX6_oilIn_6 (by decide) ?_
  refine g_sipush (pc := 7) (v := 200) dX6_oilIn_7 (by decide) ?_
  refine g_cI (pc := 10) (st := []) (fun r hr => gRunS (As := [.int p1, .int 0, .int 200]) (ge_X6_isOutside γ p1 0 200 h1) hr wv_RX6_79 rfl (Nat.le_of_ble_eq_true rfl) rfl (Nat.le_of_ble_eq_true rfl) (Nat.le_of_ble_eq_true rfl) dX6_oilIn_10) (fun x3 h2 => ?_)
  refine g_if_eq (pc := 13) (tgt := 27) dX6_oilIn_13 (by decide) ?_ ?_
  · refine g_iconst (pc := 27) (v := 0) dX6_oilIn_27 (by decide) ?_
    refine g_istore_n (pc := 28) (lv' := [(3, .int 0), (0, .ref (gad γ 0)), (1, .int p0), (2, .int p1)]) dX6_oilIn_28 rfl (by decide) rfl ?_
    refine g_iconst (pc := 29) (v := 0) dX6_oilIn_29 (by decide) ?_
    refine g_istore (pc := 30) (lv' := [(4, .int 0), (3, .int 0), (0, .ref (gad γ 0)), (1, .int p0), (2, .int p1)]) dX6_oilIn_30 (by decide) rfl ?_
    exact g_sub [2, 3, 4, 1, 0] rfl (glp_X6_oilIn_32 γ FU p0 p1 0 0 h2)
  · exact g_throwSW 1 (by decide +kernel) wcl_RX6_83 wini_1 wat_RX6_87_1 rfl (by decide +kernel : (316, "the days are not 0 to 200") ∈ gstrs) (Nat.le_of_ble_eq_true rfl) (fun x hx => nomatch hx) dX6_oilIn_16 dX6_oilIn_19 dX6_oilIn_20 dX6_oilIn_23 dX6_oilIn_26 (fun z hz => by cases hz; rfl)
def jb_X6_lossBy_63  (a2 : Int32) (h : Hst) : Option ((Int32 × Hst) ⊕ (Nat × Hst)) :=
  (some (.inl (a2, h)))
def lp_X6_lossBy_30 : Nat → Int32 → Int32 → Int32 → Hst → Option ((Int32 × Hst) ⊕ (Nat × Hst))
  | 0, _, _, _, _ => none
  | n + 1, a1, a2, a3, h =>
    (if 40 ≤ a3 then
      (jb_X6_lossBy_63 a2 h)
    else
      gb (f_X2_step a1 h) fun x2 h1 =>
      (if x2 = 0 then
        (jb_X6_lossBy_63 a2 h1)
      else
        gl (a2 + (h1.1 13 9)) fun x3 =>
        ((lp_X6_lossBy_30 n) a1 x3 (a3 + 1) h1)))
def f_X6_lossBy (p0 : Int32) (h : Hst) : Option ((Int32 × Hst) ⊕ (Nat × Hst)) :=
  gb (f_X6_isSettingValue 5 p0 h) fun x2 h1 =>
  (if x2 = 0 then
    (some (.inr (1, h1)))
  else
    gbv (f_X2_begin h1) fun h3 =>
    (lp_X6_lossBy_30 FU p0 0 0 h3))
set_option maxRecDepth 20000 in
theorem gjb_X6_lossBy_63 (γ : Gv)  (a2 : Int32) (h : Hst) : G γ RX6 cX6_lossBy 4 (some .int) [] vIX 6 0 63 [(2, .int a2)] [] h (jb_X6_lossBy_63 a2 h) := by
  unfold jb_X6_lossBy_63
  refine g_iload_n (pc := 63) dX6_lossBy_63 rfl 0 rfl ?_
  exact g_ireturn (pc := 64) (ty := .int) dX6_lossBy_64 rfl rfl rfl
set_option maxRecDepth 20000 in
theorem glp_X6_lossBy_30 (γ : Gv)  : ∀ (n : Nat) (a1 : Int32) (a2 : Int32) (a3 : Int32) (h : Hst), G γ RX6 cX6_lossBy 4 (some .int) [] vIX 6 0 30 [(0, .ref (gad γ 0)), (1, .int a1), (2, .int a2), (3, .int a3)] [] h (lp_X6_lossBy_30 n a1 a2 a3 h) := by
  intro n
  induction n with
  | zero => intro a1 a2 a3 h; exact g_none
  | succ n ih =>
    intro a1 a2 a3 h
    rw [lp_X6_lossBy_30]
    refine g_iload_n (pc := 30) dX6_lossBy_30 rfl 3 rfl ?_
    refine g_bipush (pc := 31) (v := 40) dX6_lossBy_31 (by decide) ?_
    refine g_icmp_ge (pc := 33) (tgt := 63) dX6_lossBy_33 (by decide) ?_ ?_
    · exact g_sub [2] rfl (gjb_X6_lossBy_63 γ a2 h)
    · refine g_aload_n (pc := 36) dX6_lossBy_36 rfl 0 rfl ?_
      refine gf_RX6_28_0 (pc := 37) dX6_lossBy_37 ?_
      refine g_iload_n (pc := 40) dX6_lossBy_40 rfl 1 rfl ?_
      refine g_cI (pc := 41) (st := []) (fun r hr => gRunV (As := [.int a1]) 13 (ge_X2_step γ a1 h) hr wv_RX6_326 rfl (Nat.le_of_ble_eq_true rfl) (gat_13 _ _) rfl rfl (Nat.le_of_ble_eq_true rfl) (Nat.le_of_ble_eq_true rfl) dX6_lossBy_41) (fun x2 h1 => ?_)
      refine g_if_eq (pc := 44) (tgt := 63) dX6_lossBy_44 (by decide) ?_ ?_
      · exact g_sub [2] rfl (gjb_X6_lossBy_63 γ a2 h1)
      · refine g_iload_n (pc := 47) dX6_lossBy_47 rfl 2 rfl ?_
        refine g_aload_n (pc := 48) dX6_lossBy_48 rfl 0 rfl ?_
        refine gf_RX6_28_0 (pc := 49) dX6_lossBy_49 ?_
        refine gf_RX6_150_13 (pc := 52) dX6_lossBy_52 ?_
        refine g_iadd (pc := 55) dX6_lossBy_55 ?_
        refine g_nmi (fun x3 => ?_)
        refine g_istore_n (pc := 56) (lv' := [(2, .int x3), (0, .ref (gad γ 0)), (1, .int a1), (3, .int a3)]) dX6_lossBy_56 rfl (by decide) rfl ?_
        refine g_iinc (pc := 57) (q := 3) (v := a3 + 1) (lv' := [(3, .int (a3 + 1)), (2, .int x3), (0, .ref (gad γ 0)), (1, .int a1)]) dX6_lossBy_57 rfl rfl (by decide) rfl ?_
        refine g_goto (pc := 60) (tgt := 30) dX6_lossBy_60 (by decide) ?_
        exact g_sub [2, 3, 1, 0] rfl (ih a1 x3 (a3 + 1) h1)
set_option maxRecDepth 20000 in
theorem ge_X6_lossBy (γ : Gv) (p0 : Int32) (h : Hst) : G γ RX6 cX6_lossBy 4 (some .int) [] vIX 6 0 0 (lv_args 0 [.ref (gad γ 0), .int p0]) [] h (f_X6_lossBy p0 h) := by
  show G γ RX6 cX6_lossBy 4 (some .int) [] vIX 6 0 0 [(0, .ref (gad γ 0)), (1, .int p0)] [] h (f_X6_lossBy p0 h)
  unfold f_X6_lossBy
  refine g_iconst (pc := 0) (v := 5) dX6_lossBy_0 (by decide) ?_
  refine g_iload_n (pc := 1) dX6_lossBy_1 rfl 1 rfl ?_
  refine g_cI (pc := 2) (st := []) (fun r hr => gRunS (As := [.int 5, .int p0]) (ge_X6_isSettingValue γ 5 p0 h) hr wv_RX6_127 rfl (Nat.le_of_ble_eq_true rfl) rfl (Nat.le_of_ble_eq_true rfl) (Nat.le_of_ble_eq_true rfl) dX6_lossBy_2) (fun x2 h1 => ?_)
  refine g_if_ne (pc := 5) (tgt := 19) dX6_lossBy_5 (by decide) ?_ ?_
  · refine g_aload_n (pc := 19) dX6_lossBy_19 rfl 0 rfl ?_
    refine gf_RX6_28_0 (pc := 20) dX6_lossBy_20 ?_
    refine g_cV (pc := 23) (st := []) (fun r hr => gRunV (As := []) 13 (ge_X2_begin γ h1) hr wv_RX6_323 rfl (Nat.le_of_ble_eq_true rfl) (gat_13 _ _) rfl rfl (Nat.le_of_ble_eq_true rfl) (Nat.le_of_ble_eq_true rfl) dX6_lossBy_23) (fun h3 => ?_)
    refine g_iconst (pc := 26) (v := 0) dX6_lossBy_26 (by decide) ?_
    refine g_istore_n (pc := 27) (lv' := [(2, .int 0), (0, .ref (gad γ 0)), (1, .int p0)]) dX6_lossBy_27 rfl (by decide) rfl ?_
    refine g_iconst (pc := 28) (v := 0) dX6_lossBy_28 (by decide) ?_
    refine g_istore_n (pc := 29) (lv' := [(3, .int 0), (2, .int 0), (0, .ref (gad γ 0)), (1, .int p0)]) dX6_lossBy_29 rfl (by decide) rfl ?_
    exact g_sub [2, 3, 1, 0] rfl (glp_X6_lossBy_30 γ FU p0 0 0 h3)
  · exact g_throwSW 1 (by decide +kernel) wcl_RX6_83 wini_1 wat_RX6_87_1 rfl (by decide +kernel : (321, "the way is not 0 to 2") ∈ gstrs) (Nat.le_of_ble_eq_true rfl) (fun x hx => nomatch hx) dX6_lossBy_8 dX6_lossBy_11 dX6_lossBy_12 dX6_lossBy_15 dX6_lossBy_18 (fun z hz => by cases hz; rfl)
def jb_X6_bestTank_71 (R19 : Int32 → Int32 → Int32 → Int32 → Hst → Option (Int32 × Hst)) (a1 : Int32) (a2 : Int32) (a3 : Int32) (a4 : Int32) (h : Hst) : Option (Int32 × Hst) :=
  (R19 a1 a2 a3 (a4 + 1) h)
def jb_X6_bestTank_65 (R19 : Int32 → Int32 → Int32 → Int32 → Hst → Option (Int32 × Hst)) (a3 : Int32) (a4 : Int32) (a5 : Int32) (h : Hst) : Option (Int32 × Hst) :=
  (jb_X6_bestTank_71 R19 a4 a5 a3 a4 h)
def lp_X6_bestTank_19 : Nat → Int32 → Int32 → Int32 → Int32 → Hst → Option (Int32 × Hst)
  | 0, _, _, _, _, _ => none
  | n + 1, a1, a2, a3, a4, h =>
    (if a3 ≤ a4 then
      (some (a1, h))
    else
      gb (f_X6_reasonAgainstPress a4 0 h) fun x2 h1 =>
      (if x2 = 0 then
        gb (f_X1_roomOf a4 h1) fun x4 h3 =>
        gl (x4 - (h3.1 13 11)) fun x5 =>
        (if a1 = (-1) then
          (jb_X6_bestTank_65 (lp_X6_bestTank_19 n) a3 a4 x5 h3)
        else
          (if a2 ≤ x5 then
            (jb_X6_bestTank_71 (lp_X6_bestTank_19 n) a1 a2 a3 a4 h3)
          else
            (jb_X6_bestTank_65 (lp_X6_bestTank_19 n) a3 a4 x5 h3)))
      else
        (jb_X6_bestTank_71 (lp_X6_bestTank_19 n) a1 a2 a3 a4 h1)))
def f_X6_bestTank  (h : Hst) : Option (Int32 × Hst) :=
  gb (f_X3_get_7 2 h) fun x2 h1 =>
  (lp_X6_bestTank_19 FU (-1) 0 x2 0 h1)
set_option maxRecDepth 20000 in
theorem gjb_X6_bestTank_71 (γ : Gv) (R19 : Int32 → Int32 → Int32 → Int32 → Hst → Option (Int32 × Hst)) (hR19 : ∀ (a1 : Int32) (a2 : Int32) (a3 : Int32) (a4 : Int32) (h : Hst), G γ RX6 cX6_bestTank 6 (some .int) [] vI 5 0 19 [(0, .ref (gad γ 0)), (1, .int a1), (2, .int a2), (3, .int a3), (4, .int a4)] [] h (R19 a1 a2 a3 a4 h)) (a1 : Int32) (a2 : Int32) (a3 : Int32) (a4 : Int32) (h : Hst) : G γ RX6 cX6_bestTank 6 (some .int) [] vI 5 0 71 [(0, .ref (gad γ 0)), (1, .int a1), (2, .int a2), (3, .int a3), (4, .int a4)] [] h (jb_X6_bestTank_71 R19 a1 a2 a3 a4 h) := by
  unfold jb_X6_bestTank_71
  refine g_iinc (pc := 71) (q := 4) (v := a4 + 1) (lv' := [(4, .int (a4 + 1)), (0, .ref (gad γ 0)), (1, .int a1), (2, .int a2), (3, .int a3)]) dX6_bestTank_71 rfl rfl (by decide) rfl ?_
  refine g_goto (pc := 74) (tgt := 19) dX6_bestTank_74 (by decide) ?_
  exact g_sub [1, 2, 3, 4, 0] rfl (hR19 a1 a2 a3 (a4 + 1) h)
set_option maxRecDepth 20000 in
theorem gjb_X6_bestTank_65 (γ : Gv) (R19 : Int32 → Int32 → Int32 → Int32 → Hst → Option (Int32 × Hst)) (hR19 : ∀ (a1 : Int32) (a2 : Int32) (a3 : Int32) (a4 : Int32) (h : Hst), G γ RX6 cX6_bestTank 6 (some .int) [] vI 5 0 19 [(0, .ref (gad γ 0)), (1, .int a1), (2, .int a2), (3, .int a3), (4, .int a4)] [] h (R19 a1 a2 a3 a4 h)) (a3 : Int32) (a4 : Int32) (a5 : Int32) (h : Hst) : G γ RX6 cX6_bestTank 6 (some .int) [] vI 5 0 65 [(0, .ref (gad γ 0)), (3, .int a3), (4, .int a4), (5, .int a5)] [] h (jb_X6_bestTank_65 R19 a3 a4 a5 h) := by
  unfold jb_X6_bestTank_65
  refine g_iload (pc := 65) dX6_bestTank_65 2 rfl ?_
  refine g_istore_n (pc := 67) (lv' := [(1, .int a4), (0, .ref (gad γ 0)), (3, .int a3), (4, .int a4), (5, .int a5)]) dX6_bestTank_67 rfl (by decide) rfl ?_
  refine g_iload (pc := 68) dX6_bestTank_68 4 rfl ?_
  refine g_istore_n (pc := 70) (lv' := [(2, .int a5), (1, .int a4), (0, .ref (gad γ 0)), (3, .int a3), (4, .int a4), (5, .int a5)]) dX6_bestTank_70 rfl (by decide) rfl ?_
  exact g_sub [2, 1, 0, 3, 4] rfl (gjb_X6_bestTank_71 γ R19 hR19 a4 a5 a3 a4 h)
set_option maxRecDepth 20000 in
theorem glp_X6_bestTank_19 (γ : Gv)  : ∀ (n : Nat) (a1 : Int32) (a2 : Int32) (a3 : Int32) (a4 : Int32) (h : Hst), G γ RX6 cX6_bestTank 6 (some .int) [] vI 5 0 19 [(0, .ref (gad γ 0)), (1, .int a1), (2, .int a2), (3, .int a3), (4, .int a4)] [] h (lp_X6_bestTank_19 n a1 a2 a3 a4 h) := by
  intro n
  induction n with
  | zero => intro a1 a2 a3 a4 h; exact g_none
  | succ n ih =>
    intro a1 a2 a3 a4 h
    rw [lp_X6_bestTank_19]
    refine g_iload (pc := 19) dX6_bestTank_19 4 rfl ?_
    refine g_iload_n (pc := 21) dX6_bestTank_21 rfl 3 rfl ?_
    refine g_icmp_ge (pc := 22) (tgt := 77) dX6_bestTank_22 (by decide) ?_ ?_
    · refine g_iload_n (pc := 77) dX6_bestTank_77 rfl 1 rfl ?_
      exact g_ireturn (pc := 78) (ty := .int) dX6_bestTank_78 rfl rfl rfl
    · refine g_aload_n (pc := 25) dX6_bestTank_25 rfl 0 rfl ?_
      refine g_iload (pc := 26) dX6_bestTank_26 4 rfl ?_
      refine g_iconst (pc := 28) (v := 0) dX6_bestTank_28 (by decide) ?_
      refine g_cI (pc := 29) (st := []) (fun r hr => gRunV (As := [.int a4, .int 0]) 0 (ge_X6_reasonAgainstPress γ a4 0 h) hr wv_RX6_141 rfl (Nat.le_of_ble_eq_true rfl) (gat_0 _ _) rfl rfl (Nat.le_of_ble_eq_true rfl) (Nat.le_of_ble_eq_true rfl) dX6_bestTank_29) (fun x2 h1 => ?_)
      refine g_if_ne (pc := 32) (tgt := 71) dX6_bestTank_32 (by decide) ?_ ?_
      · exact gjb_X6_bestTank_71 γ (lp_X6_bestTank_19 n) ih a1 a2 a3 a4 h1
      · refine g_aload_n (pc := 35) dX6_bestTank_35 rfl 0 rfl ?_
        refine gf_RX6_21_0 (pc := 36) dX6_bestTank_36 ?_
        refine g_iload (pc := 39) dX6_bestTank_39 4 rfl ?_
        refine g_cI (pc := 41) (st := []) (fun r hr => gRunV (As := [.int a4]) 10 (ge_X1_roomOf γ a4 h1) hr wv_RX6_219 rfl (Nat.le_of_ble_eq_true rfl) (gat_10 _ _) rfl rfl (Nat.le_of_ble_eq_true rfl) (Nat.le_of_ble_eq_true rfl) dX6_bestTank_41) (fun x4 h3 => ?_)
        refine g_aload_n (pc := 44) dX6_bestTank_44 rfl 0 rfl ?_
        refine gf_RX6_28_0 (pc := 45) dX6_bestTank_45 ?_
        refine gf_RX6_308_13 (pc := 48) dX6_bestTank_48 ?_
        refine g_isub (pc := 51) dX6_bestTank_51 ?_
        refine g_nmi (fun x5 => ?_)
        refine g_istore (pc := 52) (lv' := [(5, .int x5), (0, .ref (gad γ 0)), (1, .int a1), (2, .int a2), (3, .int a3), (4, .int a4)]) dX6_bestTank_52 (by decide) rfl ?_
        refine g_iload_n (pc := 54) dX6_bestTank_54 rfl 2 rfl ?_
        refine g_iconst (pc := 55) (v := (-1)) dX6_bestTank_55 (by decide) ?_
        refine g_icmp_eq (pc := 56) (tgt := 65) dX6_bestTank_56 (by decide) ?_ ?_
        · exact g_sub [1, 4, 5, 0] rfl (gjb_X6_bestTank_65 γ (lp_X6_bestTank_19 n) ih a3 a4 x5 h3)
        · refine g_iload (pc := 59) dX6_bestTank_59 0 rfl ?_
          refine g_iload_n (pc := 61) dX6_bestTank_61 rfl 3 rfl ?_
          refine g_icmp_ge (pc := 62) (tgt := 71) dX6_bestTank_62 (by decide) ?_ ?_
          · exact g_sub [1, 2, 3, 4, 5] rfl (gjb_X6_bestTank_71 γ (lp_X6_bestTank_19 n) ih a1 a2 a3 a4 h3)
          · exact g_sub [1, 4, 5, 0] rfl (gjb_X6_bestTank_65 γ (lp_X6_bestTank_19 n) ih a3 a4 x5 h3)
set_option maxRecDepth 20000 in
theorem ge_X6_bestTank (γ : Gv)  (h : Hst) : G γ RX6 cX6_bestTank 6 (some .int) [] vI 5 0 0 (lv_args 0 [.ref (gad γ 0)]) [] h (f_X6_bestTank h) := by
  show G γ RX6 cX6_bestTank 6 (some .int) [] vI 5 0 0 [(0, .ref (gad γ 0))] [] h (f_X6_bestTank h)
  unfold f_X6_bestTank
  refine g_iconst (pc := 0) (v := (-1)) dX6_bestTank_0 (by decide) ?_
  refine g_istore_n (pc := 1) (lv' := [(1, .int (-1)), (0, .ref (gad γ 0))]) dX6_bestTank_1 rfl (by decide) rfl ?_
  refine g_iconst (pc := 2) (v := 0) dX6_bestTank_2 (by decide) ?_
  refine g_istore_n (pc := 3) (lv' := [(2, .int 0), (1, .int (-1)), (0, .ref (gad γ 0))]) dX6_bestTank_3 rfl (by decide) rfl ?_
  refine g_aload_n (pc := 4) dX6_bestTank_4 rfl 2 rfl ?_
  refine gf_RX6_12_0 (pc := 5) dX6_bestTank_5 ?_
  refine gf_RX6_47_1 (pc := 8) dX6_bestTank_8 ?_
  refine g_iconst (pc := 11) (v := 2) dX6_bestTank_11 (by decide) ?_
  refine g_cI (pc := 12) (st := []) (fun r hr => gRunV (As := [.int 2]) 7 (ge_X3_get_7 γ 2 h) hr wv_RX6_51 rfl (Nat.le_of_ble_eq_true rfl) (gat_7 _ _) rfl rfl (Nat.le_of_ble_eq_true rfl) (Nat.le_of_ble_eq_true rfl) dX6_bestTank_12) (fun x2 h1 => ?_)
  refine g_istore_n (pc := 15) (lv' := [(3, .int x2), (2, .int 0), (1, .int (-1)), (0, .ref (gad γ 0))]) dX6_bestTank_15 rfl (by decide) rfl ?_
  refine g_iconst (pc := 16) (v := 0) dX6_bestTank_16 (by decide) ?_
  refine g_istore (pc := 17) (lv' := [(4, .int 0), (3, .int x2), (2, .int 0), (1, .int (-1)), (0, .ref (gad γ 0))]) dX6_bestTank_17 (by decide) rfl ?_
  exact g_sub [4, 3, 2, 1, 0] rfl (glp_X6_bestTank_19 γ FU (-1) 0 x2 0 h1)
def f_X6_goodShare  (h : Hst) : Option (UInt64 × Hst) :=
  gb (f_X1_allOil h) fun x2 h1 =>
  (if x2 = 0 then
    (some (FP.dconst0, h1))
  else
    gb (f_X1_oilOfGrade 0 h1) fun x4 h3 =>
    gnn (FP.ddiv (FP.i2d x4) (FP.i2d x2)) ((some (FP.ddiv (FP.i2d x4) (FP.i2d x2), h3))))
set_option maxRecDepth 20000 in
theorem ge_X6_goodShare (γ : Gv)  (h : Hst) : G γ RX6 cX6_goodShare 2 (some .double) [] vD 4 0 0 (lv_args 0 [.ref (gad γ 0)]) [] h (f_X6_goodShare h) := by
  show G γ RX6 cX6_goodShare 2 (some .double) [] vD 4 0 0 [(0, .ref (gad γ 0))] [] h (f_X6_goodShare h)
  unfold f_X6_goodShare
  refine g_aload_n (pc := 0) dX6_goodShare_0 rfl 0 rfl ?_
  refine gf_RX6_21_0 (pc := 1) dX6_goodShare_1 ?_
  refine g_cI (pc := 4) (st := []) (fun r hr => gRunV (As := []) 10 (ge_X1_allOil γ h) hr wv_RX6_289 rfl (Nat.le_of_ble_eq_true rfl) (gat_10 _ _) rfl rfl (Nat.le_of_ble_eq_true rfl) (Nat.le_of_ble_eq_true rfl) dX6_goodShare_4) (fun x2 h1 => ?_)
  refine g_istore_n (pc := 7) (lv' := [(1, .int x2), (0, .ref (gad γ 0))]) dX6_goodShare_7 rfl (by decide) rfl ?_
  refine g_iload_n (pc := 8) dX6_goodShare_8 rfl 0 rfl ?_
  refine g_if_ne (pc := 9) (tgt := 14) dX6_goodShare_9 (by decide) ?_ ?_
  · refine g_aload_n (pc := 14) dX6_goodShare_14 rfl 1 rfl ?_
    refine gf_RX6_21_0 (pc := 15) dX6_goodShare_15 ?_
    refine g_iconst (pc := 18) (v := 0) dX6_goodShare_18 (by decide) ?_
    refine g_cI (pc := 19) (st := []) (fun r hr => gRunV (As := [.int 0]) 10 (ge_X1_oilOfGrade γ 0 h1) hr wv_RX6_295 rfl (Nat.le_of_ble_eq_true rfl) (gat_10 _ _) rfl rfl (Nat.le_of_ble_eq_true rfl) (Nat.le_of_ble_eq_true rfl) dX6_goodShare_19) (fun x4 h3 => ?_)
    refine g_i2d (pc := 22) dX6_goodShare_22 ?_
    refine g_iload_n (pc := 23) dX6_goodShare_23 rfl 0 rfl ?_
    refine g_i2d (pc := 24) dX6_goodShare_24 ?_
    refine g_ddiv (pc := 25) dX6_goodShare_25 ?_
    exact g_dreturn (pc := 26) dX6_goodShare_26 rfl rfl
  · refine g_dconst0 (pc := 12) dX6_goodShare_12 ?_
    exact g_dreturn (pc := 13) dX6_goodShare_13 rfl rfl
def f_X6_mixed (p0 : Int64) (p1 : Int64) (h : Hst) : Option (Int64 × Hst) :=
  (some ((31 * p0) + p1, h))
set_option maxRecDepth 20000 in
theorem ge_X6_mixed (γ : Gv) (p0 : Int64) (p1 : Int64) (h : Hst) : G γ RX6 cX6_mixed 4 (some .long) [] vL 0 0 0 (lv_args 0 [.long p0, .long p1]) [] h (f_X6_mixed p0 p1 h) := by
  show G γ RX6 cX6_mixed 4 (some .long) [] vL 0 0 0 [(0, .long p0), (2, .long p1)] [] h (f_X6_mixed p0 p1 h)
  unfold f_X6_mixed
  refine g_ldc2 (pc := 0) wk_RX6_414 dX6_mixed_0 ?_
  refine g_lload_n (pc := 3) dX6_mixed_3 rfl 0 rfl ?_
  refine g_lmul (pc := 4) dX6_mixed_4 ?_
  refine g_lload_n (pc := 5) dX6_mixed_5 rfl 1 rfl ?_
  refine g_ladd (pc := 6) dX6_mixed_6 ?_
  exact g_lreturn (pc := 7) dX6_mixed_7 rfl rfl
def lp_X6_mixedWithGrowers_28 (R18 : Int64 → Int32 → Int32 → Hst → Option (Int64 × Hst)) : Nat → Int64 → Int32 → Int32 → Int32 → Hst → Option (Int64 × Hst)
  | 0, _, _, _, _, _ => none
  | n + 1, a3, a5, a6, a7, h =>
    (if 5 < a7 then
      (R18 a3 a5 (a6 + 1) h)
    else
      (gbx (f_X6_grower a6 a7 h) (fun x2 h1 =>
        gb (f_X6_mixed a3 (x2.toInt64) h1) fun x4 h3 =>
        ((lp_X6_mixedWithGrowers_28 R18 n) x4 a5 a6 (a7 + 1) h3)) (fun _ _ => none)))
def lp_X6_mixedWithGrowers_18 : Nat → Int64 → Int32 → Int32 → Hst → Option (Int64 × Hst)
  | 0, _, _, _, _ => none
  | n + 1, a3, a5, a6, h =>
    (if a5 ≤ a6 then
      (some (a3, h))
    else
      (lp_X6_mixedWithGrowers_28 (lp_X6_mixedWithGrowers_18 n) FU a3 a5 a6 0 h))
def f_X6_mixedWithGrowers (p0 : Int64) (h : Hst) : Option (Int64 × Hst) :=
  gb (f_X3_get_7 0 h) fun x2 h1 =>
  (lp_X6_mixedWithGrowers_18 FU p0 x2 0 h1)
set_option maxRecDepth 20000 in
theorem glp_X6_mixedWithGrowers_28 (γ : Gv) (R18 : Int64 → Int32 → Int32 → Hst → Option (Int64 × Hst)) (hR18 : ∀ (a3 : Int64) (a5 : Int32) (a6 : Int32) (h : Hst), G γ RX6 cX6_mixedWithGrowers 8 (some .long) [] vL 8 0 18 [(0, .ref (gad γ 0)), (3, .long a3), (5, .int a5), (6, .int a6)] [] h (R18 a3 a5 a6 h)) : ∀ (n : Nat) (a3 : Int64) (a5 : Int32) (a6 : Int32) (a7 : Int32) (h : Hst), G γ RX6 cX6_mixedWithGrowers 8 (some .long) [] vL 8 0 28 [(0, .ref (gad γ 0)), (3, .long a3), (5, .int a5), (6, .int a6), (7, .int a7)] [] h (lp_X6_mixedWithGrowers_28 R18 n a3 a5 a6 a7 h) := by
  intro n
  induction n with
  | zero => intro a3 a5 a6 a7 h; exact g_none
  | succ n ih =>
    intro a3 a5 a6 a7 h
    rw [lp_X6_mixedWithGrowers_28]
    refine g_iload (pc := 28) dX6_mixedWithGrowers_28 4 rfl ?_
    refine g_iconst (pc := 30) (v := 5) dX6_mixedWithGrowers_30 (by decide) ?_
    refine g_icmp_gt (pc := 31) (tgt := 54) dX6_mixedWithGrowers_31 (by decide) ?_ ?_
    · refine g_iinc (pc := 54) (q := 3) (v := a6 + 1) (lv' := [(6, .int (a6 + 1)), (0, .ref (gad γ 0)), (3, .long a3), (5, .int a5), (7, .int a7)]) dX6_mixedWithGrowers_54 rfl rfl (by decide) rfl ?_
      refine g_goto (pc := 57) (tgt := 18) dX6_mixedWithGrowers_57 (by decide) ?_
      exact g_sub [1, 2, 3, 0] rfl (hR18 a3 a5 (a6 + 1) h)
    · refine g_lload_n (pc := 34) dX6_mixedWithGrowers_34 rfl 1 rfl ?_
      refine g_aload_n (pc := 35) dX6_mixedWithGrowers_35 rfl 0 rfl ?_
      refine g_iload (pc := 36) dX6_mixedWithGrowers_36 3 rfl ?_
      refine g_iload (pc := 38) dX6_mixedWithGrowers_38 4 rfl ?_
      refine g_cIX (pc := 40) (st := [.long a3]) (fun r hr => gRunV (As := [.int a6, .int a7]) 0 (ge_X6_grower γ a6 a7 h) hr wv_RX6_416 rfl (Nat.le_of_ble_eq_true rfl) (gat_0 _ _) rfl rfl (Nat.le_of_ble_eq_true rfl) (Nat.le_of_ble_eq_true rfl) dX6_mixedWithGrowers_40) (fun x2 h1 => ?_) (fun E h0 hrun => g_none)
      refine g_i2l (pc := 43) dX6_mixedWithGrowers_43 ?_
      refine g_cL (pc := 44) (st := []) (fun r hr => gRunS (As := [.long a3, .long (x2.toInt64)]) (ge_X6_mixed γ a3 (x2.toInt64) h1) hr wv_RX6_334 rfl (Nat.le_of_ble_eq_true rfl) rfl (Nat.le_of_ble_eq_true rfl) (Nat.le_of_ble_eq_true rfl) dX6_mixedWithGrowers_44) (fun x4 h3 => ?_)
      refine g_lstore_n (pc := 47) (lv' := [(3, .long x4), (0, .ref (gad γ 0)), (5, .int a5), (6, .int a6), (7, .int a7)]) dX6_mixedWithGrowers_47 rfl (by decide) rfl ?_
      refine g_iinc (pc := 48) (q := 4) (v := a7 + 1) (lv' := [(7, .int (a7 + 1)), (3, .long x4), (0, .ref (gad γ 0)), (5, .int a5), (6, .int a6)]) dX6_mixedWithGrowers_48 rfl rfl (by decide) rfl ?_
      refine g_goto (pc := 51) (tgt := 28) dX6_mixedWithGrowers_51 (by decide) ?_
      exact g_sub [2, 1, 3, 4, 0] rfl (ih x4 a5 a6 (a7 + 1) h3)
set_option maxRecDepth 20000 in
theorem glp_X6_mixedWithGrowers_18 (γ : Gv)  : ∀ (n : Nat) (a3 : Int64) (a5 : Int32) (a6 : Int32) (h : Hst), G γ RX6 cX6_mixedWithGrowers 8 (some .long) [] vL 8 0 18 [(0, .ref (gad γ 0)), (3, .long a3), (5, .int a5), (6, .int a6)] [] h (lp_X6_mixedWithGrowers_18 n a3 a5 a6 h) := by
  intro n
  induction n with
  | zero => intro a3 a5 a6 h; exact g_none
  | succ n ih =>
    intro a3 a5 a6 h
    rw [lp_X6_mixedWithGrowers_18]
    refine g_iload (pc := 18) dX6_mixedWithGrowers_18 3 rfl ?_
    refine g_iload (pc := 20) dX6_mixedWithGrowers_20 2 rfl ?_
    refine g_icmp_ge (pc := 22) (tgt := 60) dX6_mixedWithGrowers_22 (by decide) ?_ ?_
    · refine g_lload_n (pc := 60) dX6_mixedWithGrowers_60 rfl 1 rfl ?_
      exact g_lreturn (pc := 61) dX6_mixedWithGrowers_61 rfl rfl
    · refine g_iconst (pc := 25) (v := 0) dX6_mixedWithGrowers_25 (by decide) ?_
      refine g_istore (pc := 26) (lv' := [(7, .int 0), (0, .ref (gad γ 0)), (3, .long a3), (5, .int a5), (6, .int a6)]) dX6_mixedWithGrowers_26 (by decide) rfl ?_
      exact g_sub [1, 2, 3, 4, 0] rfl (glp_X6_mixedWithGrowers_28 γ (lp_X6_mixedWithGrowers_18 n) ih FU a3 a5 a6 0 h)
set_option maxRecDepth 20000 in
theorem ge_X6_mixedWithGrowers (γ : Gv) (p0 : Int64) (h : Hst) : G γ RX6 cX6_mixedWithGrowers 8 (some .long) [] vL 8 0 0 (lv_args 0 [.ref (gad γ 0), .long p0]) [] h (f_X6_mixedWithGrowers p0 h) := by
  show G γ RX6 cX6_mixedWithGrowers 8 (some .long) [] vL 8 0 0 [(0, .ref (gad γ 0)), (1, .long p0)] [] h (f_X6_mixedWithGrowers p0 h)
  unfold f_X6_mixedWithGrowers
  refine g_lload_n (pc := 0) dX6_mixedWithGrowers_0 rfl 1 rfl ?_
  refine g_lstore_n (pc := 1) (lv' := [(3, .long p0), (0, .ref (gad γ 0)), (1, .long p0)]) dX6_mixedWithGrowers_1 rfl (by decide) rfl ?_
  refine g_aload_n (pc := 2) dX6_mixedWithGrowers_2 rfl 1 rfl ?_
  refine gf_RX6_12_0 (pc := 3) dX6_mixedWithGrowers_3 ?_
  refine gf_RX6_47_1 (pc := 6) dX6_mixedWithGrowers_6 ?_
  refine g_iconst (pc := 9) (v := 0) dX6_mixedWithGrowers_9 (by decide) ?_
  refine g_cI (pc := 10) (st := []) (fun r hr => gRunV (As := [.int 0]) 7 (ge_X3_get_7 γ 0 h) hr wv_RX6_51 rfl (Nat.le_of_ble_eq_true rfl) (gat_7 _ _) rfl rfl (Nat.le_of_ble_eq_true rfl) (Nat.le_of_ble_eq_true rfl) dX6_mixedWithGrowers_10) (fun x2 h1 => ?_)
  refine g_istore (pc := 13) (lv' := [(5, .int x2), (3, .long p0), (0, .ref (gad γ 0)), (1, .long p0)]) dX6_mixedWithGrowers_13 (by decide) rfl ?_
  refine g_iconst (pc := 15) (v := 0) dX6_mixedWithGrowers_15 (by decide) ?_
  refine g_istore (pc := 16) (lv' := [(6, .int 0), (5, .int x2), (3, .long p0), (0, .ref (gad γ 0)), (1, .long p0)]) dX6_mixedWithGrowers_16 (by decide) rfl ?_
  exact g_sub [3, 2, 1, 0] rfl (glp_X6_mixedWithGrowers_18 γ FU p0 x2 0 h1)
def lp_X6_mixedWithLots_28 (R18 : Int64 → Int32 → Int32 → Hst → Option (Int64 × Hst)) : Nat → Int64 → Int32 → Int32 → Int32 → Hst → Option (Int64 × Hst)
  | 0, _, _, _, _, _ => none
  | n + 1, a3, a5, a6, a7, h =>
    (if 10 < a7 then
      (R18 a3 a5 (a6 + 1) h)
    else
      (gbx (f_X6_lot a6 a7 h) (fun x2 h1 =>
        gb (f_X6_mixed a3 (x2.toInt64) h1) fun x4 h3 =>
        ((lp_X6_mixedWithLots_28 R18 n) x4 a5 a6 (a7 + 1) h3)) (fun _ _ => none)))
def lp_X6_mixedWithLots_18 : Nat → Int64 → Int32 → Int32 → Hst → Option (Int64 × Hst)
  | 0, _, _, _, _ => none
  | n + 1, a3, a5, a6, h =>
    (if a5 ≤ a6 then
      (some (a3, h))
    else
      (lp_X6_mixedWithLots_28 (lp_X6_mixedWithLots_18 n) FU a3 a5 a6 0 h))
def f_X6_mixedWithLots (p0 : Int64) (h : Hst) : Option (Int64 × Hst) :=
  gb (f_X3_get_7 1 h) fun x2 h1 =>
  (lp_X6_mixedWithLots_18 FU p0 x2 0 h1)
set_option maxRecDepth 20000 in
theorem glp_X6_mixedWithLots_28 (γ : Gv) (R18 : Int64 → Int32 → Int32 → Hst → Option (Int64 × Hst)) (hR18 : ∀ (a3 : Int64) (a5 : Int32) (a6 : Int32) (h : Hst), G γ RX6 cX6_mixedWithLots 8 (some .long) [] vL 8 0 18 [(0, .ref (gad γ 0)), (3, .long a3), (5, .int a5), (6, .int a6)] [] h (R18 a3 a5 a6 h)) : ∀ (n : Nat) (a3 : Int64) (a5 : Int32) (a6 : Int32) (a7 : Int32) (h : Hst), G γ RX6 cX6_mixedWithLots 8 (some .long) [] vL 8 0 28 [(0, .ref (gad γ 0)), (3, .long a3), (5, .int a5), (6, .int a6), (7, .int a7)] [] h (lp_X6_mixedWithLots_28 R18 n a3 a5 a6 a7 h) := by
  intro n
  induction n with
  | zero => intro a3 a5 a6 a7 h; exact g_none
  | succ n ih =>
    intro a3 a5 a6 a7 h
    rw [lp_X6_mixedWithLots_28]
    refine g_iload (pc := 28) dX6_mixedWithLots_28 4 rfl ?_
    refine g_bipush (pc := 30) (v := 10) dX6_mixedWithLots_30 (by decide) ?_
    refine g_icmp_gt (pc := 32) (tgt := 55) dX6_mixedWithLots_32 (by decide) ?_ ?_
    · refine g_iinc (pc := 55) (q := 3) (v := a6 + 1) (lv' := [(6, .int (a6 + 1)), (0, .ref (gad γ 0)), (3, .long a3), (5, .int a5), (7, .int a7)]) dX6_mixedWithLots_55 rfl rfl (by decide) rfl ?_
      refine g_goto (pc := 58) (tgt := 18) dX6_mixedWithLots_58 (by decide) ?_
      exact g_sub [1, 2, 3, 0] rfl (hR18 a3 a5 (a6 + 1) h)
    · refine g_lload_n (pc := 35) dX6_mixedWithLots_35 rfl 1 rfl ?_
      refine g_aload_n (pc := 36) dX6_mixedWithLots_36 rfl 0 rfl ?_
      refine g_iload (pc := 37) dX6_mixedWithLots_37 3 rfl ?_
      refine g_iload (pc := 39) dX6_mixedWithLots_39 4 rfl ?_
      refine g_cIX (pc := 41) (st := [.long a3]) (fun r hr => gRunV (As := [.int a6, .int a7]) 0 (ge_X6_lot γ a6 a7 h) hr wv_RX6_418 rfl (Nat.le_of_ble_eq_true rfl) (gat_0 _ _) rfl rfl (Nat.le_of_ble_eq_true rfl) (Nat.le_of_ble_eq_true rfl) dX6_mixedWithLots_41) (fun x2 h1 => ?_) (fun E h0 hrun => g_none)
      refine g_i2l (pc := 44) dX6_mixedWithLots_44 ?_
      refine g_cL (pc := 45) (st := []) (fun r hr => gRunS (As := [.long a3, .long (x2.toInt64)]) (ge_X6_mixed γ a3 (x2.toInt64) h1) hr wv_RX6_334 rfl (Nat.le_of_ble_eq_true rfl) rfl (Nat.le_of_ble_eq_true rfl) (Nat.le_of_ble_eq_true rfl) dX6_mixedWithLots_45) (fun x4 h3 => ?_)
      refine g_lstore_n (pc := 48) (lv' := [(3, .long x4), (0, .ref (gad γ 0)), (5, .int a5), (6, .int a6), (7, .int a7)]) dX6_mixedWithLots_48 rfl (by decide) rfl ?_
      refine g_iinc (pc := 49) (q := 4) (v := a7 + 1) (lv' := [(7, .int (a7 + 1)), (3, .long x4), (0, .ref (gad γ 0)), (5, .int a5), (6, .int a6)]) dX6_mixedWithLots_49 rfl rfl (by decide) rfl ?_
      refine g_goto (pc := 52) (tgt := 28) dX6_mixedWithLots_52 (by decide) ?_
      exact g_sub [2, 1, 3, 4, 0] rfl (ih x4 a5 a6 (a7 + 1) h3)
set_option maxRecDepth 20000 in
theorem glp_X6_mixedWithLots_18 (γ : Gv)  : ∀ (n : Nat) (a3 : Int64) (a5 : Int32) (a6 : Int32) (h : Hst), G γ RX6 cX6_mixedWithLots 8 (some .long) [] vL 8 0 18 [(0, .ref (gad γ 0)), (3, .long a3), (5, .int a5), (6, .int a6)] [] h (lp_X6_mixedWithLots_18 n a3 a5 a6 h) := by
  intro n
  induction n with
  | zero => intro a3 a5 a6 h; exact g_none
  | succ n ih =>
    intro a3 a5 a6 h
    rw [lp_X6_mixedWithLots_18]
    refine g_iload (pc := 18) dX6_mixedWithLots_18 3 rfl ?_
    refine g_iload (pc := 20) dX6_mixedWithLots_20 2 rfl ?_
    refine g_icmp_ge (pc := 22) (tgt := 61) dX6_mixedWithLots_22 (by decide) ?_ ?_
    · refine g_lload_n (pc := 61) dX6_mixedWithLots_61 rfl 1 rfl ?_
      exact g_lreturn (pc := 62) dX6_mixedWithLots_62 rfl rfl
    · refine g_iconst (pc := 25) (v := 0) dX6_mixedWithLots_25 (by decide) ?_
      refine g_istore (pc := 26) (lv' := [(7, .int 0), (0, .ref (gad γ 0)), (3, .long a3), (5, .int a5), (6, .int a6)]) dX6_mixedWithLots_26 (by decide) rfl ?_
      exact g_sub [1, 2, 3, 4, 0] rfl (glp_X6_mixedWithLots_28 γ (lp_X6_mixedWithLots_18 n) ih FU a3 a5 a6 0 h)
set_option maxRecDepth 20000 in
theorem ge_X6_mixedWithLots (γ : Gv) (p0 : Int64) (h : Hst) : G γ RX6 cX6_mixedWithLots 8 (some .long) [] vL 8 0 0 (lv_args 0 [.ref (gad γ 0), .long p0]) [] h (f_X6_mixedWithLots p0 h) := by
  show G γ RX6 cX6_mixedWithLots 8 (some .long) [] vL 8 0 0 [(0, .ref (gad γ 0)), (1, .long p0)] [] h (f_X6_mixedWithLots p0 h)
  unfold f_X6_mixedWithLots
  refine g_lload_n (pc := 0) dX6_mixedWithLots_0 rfl 1 rfl ?_
  refine g_lstore_n (pc := 1) (lv' := [(3, .long p0), (0, .ref (gad γ 0)), (1, .long p0)]) dX6_mixedWithLots_1 rfl (by decide) rfl ?_
  refine g_aload_n (pc := 2) dX6_mixedWithLots_2 rfl 1 rfl ?_
  refine gf_RX6_12_0 (pc := 3) dX6_mixedWithLots_3 ?_
  refine gf_RX6_47_1 (pc := 6) dX6_mixedWithLots_6 ?_
  refine g_iconst (pc := 9) (v := 1) dX6_mixedWithLots_9 (by decide) ?_
  refine g_cI (pc := 10) (st := []) (fun r hr => gRunV (As := [.int 1]) 7 (ge_X3_get_7 γ 1 h) hr wv_RX6_51 rfl (Nat.le_of_ble_eq_true rfl) (gat_7 _ _) rfl rfl (Nat.le_of_ble_eq_true rfl) (Nat.le_of_ble_eq_true rfl) dX6_mixedWithLots_10) (fun x2 h1 => ?_)
  refine g_istore (pc := 13) (lv' := [(5, .int x2), (3, .long p0), (0, .ref (gad γ 0)), (1, .long p0)]) dX6_mixedWithLots_13 (by decide) rfl ?_
  refine g_iconst (pc := 15) (v := 0) dX6_mixedWithLots_15 (by decide) ?_
  refine g_istore (pc := 16) (lv' := [(6, .int 0), (5, .int x2), (3, .long p0), (0, .ref (gad γ 0)), (1, .long p0)]) dX6_mixedWithLots_16 (by decide) rfl ?_
  exact g_sub [3, 2, 1, 0] rfl (glp_X6_mixedWithLots_18 γ FU p0 x2 0 h1)
def lp_X6_mixedWithTanks_128 (R18 : Int64 → Int32 → Int32 → Hst → Option (Int64 × Hst)) : Nat → Int64 → Int32 → Int32 → Int32 → Hst → Option (Int64 × Hst)
  | 0, _, _, _, _, _ => none
  | n + 1, a3, a5, a6, a7, h =>
    (if 5 ≤ a7 then
      (R18 a3 a5 (a6 + 1) h)
    else
      (gbx (f_X6_taken a6 1 a7 h) (fun x2 h1 =>
        gb (f_X6_mixed a3 (x2.toInt64) h1) fun x4 h3 =>
        ((lp_X6_mixedWithTanks_128 R18 n) x4 a5 a6 (a7 + 1) h3)) (fun _ _ => none)))
def lp_X6_mixedWithTanks_58 (R18 : Int64 → Int32 → Int32 → Hst → Option (Int64 × Hst)) : Nat → Int64 → Int32 → Int32 → Int32 → Hst → Option (Int64 × Hst)
  | 0, _, _, _, _, _ => none
  | n + 1, a3, a5, a6, a7, h =>
    (if 14 < a7 then
      gb (f_X6_reasonAgainstPress a6 0 h) fun x2 h1 =>
      gb (f_X6_mixed a3 (x2.toInt64) h1) fun x4 h3 =>
      gb (f_X6_reasonAgainstPress a6 1 h3) fun x6 h5 =>
      gb (f_X6_mixed x4 (x6.toInt64) h5) fun x8 h7 =>
      (gbx (f_X6_oilIn a6 30 h7) (fun x10 h9 =>
        gb (f_X6_mixed x8 (x10.toInt64) h9) fun x12 h11 =>
        (lp_X6_mixedWithTanks_128 R18 FU x12 a5 a6 0 h11)) (fun _ _ => none))
    else
      (gbx (f_X6_tank a6 a7 h) (fun x15 h14 =>
        gb (f_X6_mixed a3 (x15.toInt64) h14) fun x17 h16 =>
        ((lp_X6_mixedWithTanks_58 R18 n) x17 a5 a6 (a7 + 1) h16)) (fun _ _ => none)))
def lp_X6_mixedWithTanks_28 (R18 : Int64 → Int32 → Int32 → Hst → Option (Int64 × Hst)) : Nat → Int64 → Int32 → Int32 → Int32 → Hst → Option (Int64 × Hst)
  | 0, _, _, _, _, _ => none
  | n + 1, a3, a5, a6, a7, h =>
    (if 2 < a7 then
      (lp_X6_mixedWithTanks_58 R18 FU a3 a5 a6 10 h)
    else
      (gbx (f_X6_tank a6 a7 h) (fun x2 h1 =>
        gb (f_X6_mixed a3 (x2.toInt64) h1) fun x4 h3 =>
        ((lp_X6_mixedWithTanks_28 R18 n) x4 a5 a6 (a7 + 1) h3)) (fun _ _ => none)))
def lp_X6_mixedWithTanks_18 : Nat → Int64 → Int32 → Int32 → Hst → Option (Int64 × Hst)
  | 0, _, _, _, _ => none
  | n + 1, a3, a5, a6, h =>
    (if a5 ≤ a6 then
      (some (a3, h))
    else
      (lp_X6_mixedWithTanks_28 (lp_X6_mixedWithTanks_18 n) FU a3 a5 a6 0 h))
def f_X6_mixedWithTanks (p0 : Int64) (h : Hst) : Option (Int64 × Hst) :=
  gb (f_X3_get_7 2 h) fun x2 h1 =>
  (lp_X6_mixedWithTanks_18 FU p0 x2 0 h1)
set_option maxRecDepth 20000 in
theorem glp_X6_mixedWithTanks_128 (γ : Gv) (R18 : Int64 → Int32 → Int32 → Hst → Option (Int64 × Hst)) (hR18 : ∀ (a3 : Int64) (a5 : Int32) (a6 : Int32) (h : Hst), G γ RX6 cX6_mixedWithTanks 8 (some .long) [] vL 8 0 18 [(0, .ref (gad γ 0)), (3, .long a3), (5, .int a5), (6, .int a6)] [] h (R18 a3 a5 a6 h)) : ∀ (n : Nat) (a3 : Int64) (a5 : Int32) (a6 : Int32) (a7 : Int32) (h : Hst), G γ RX6 cX6_mixedWithTanks 8 (some .long) [] vL 8 0 128 [(0, .ref (gad γ 0)), (3, .long a3), (5, .int a5), (6, .int a6), (7, .int a7)] [] h (lp_X6_mixedWithTanks_128 R18 n a3 a5 a6 a7 h) := by
  intro n
  induction n with
  | zero => intro a3 a5 a6 a7 h; exact g_none
  | succ n ih =>
    intro a3 a5 a6 a7 h
    rw [lp_X6_mixedWithTanks_128]
    refine g_iload (pc := 128) dX6_mixedWithTanks_128 4 rfl ?_
    refine g_iconst (pc := 130) (v := 5) dX6_mixedWithTanks_130 (by decide) ?_
    refine g_icmp_ge (pc := 131) (tgt := 155) dX6_mixedWithTanks_131 (by decide) ?_ ?_
    · refine g_iinc (pc := 155) (q := 3) (v := a6 + 1) (lv' := [(6, .int (a6 + 1)), (0, .ref (gad γ 0)), (3, .long a3), (5, .int a5), (7, .int a7)]) dX6_mixedWithTanks_155 rfl rfl (by decide) rfl ?_
      refine g_goto (pc := 158) (tgt := 18) dX6_mixedWithTanks_158 (by decide) ?_
      exact g_sub [1, 2, 3, 0] rfl (hR18 a3 a5 (a6 + 1) h)
    · refine g_lload_n (pc := 134) dX6_mixedWithTanks_134 rfl 1 rfl ?_
      refine g_aload_n (pc := 135) dX6_mixedWithTanks_135 rfl 0 rfl ?_
      refine g_iload (pc := 136) dX6_mixedWithTanks_136 3 rfl ?_
      refine g_iconst (pc := 138) (v := 1) dX6_mixedWithTanks_138 (by decide) ?_
      refine g_iload (pc := 139) dX6_mixedWithTanks_139 4 rfl ?_
      refine g_cIX (pc := 141) (st := [.long a3]) (fun r hr => gRunV (As := [.int a6, .int 1, .int a7]) 0 (ge_X6_taken γ a6 1 a7 h) hr wv_RX6_426 rfl (Nat.le_of_ble_eq_true rfl) (gat_0 _ _) rfl rfl (Nat.le_of_ble_eq_true rfl) (Nat.le_of_ble_eq_true rfl) dX6_mixedWithTanks_141) (fun x2 h1 => ?_) (fun E h0 hrun => g_none)
      refine g_i2l (pc := 144) dX6_mixedWithTanks_144 ?_
      refine g_cL (pc := 145) (st := []) (fun r hr => gRunS (As := [.long a3, .long (x2.toInt64)]) (ge_X6_mixed γ a3 (x2.toInt64) h1) hr wv_RX6_334 rfl (Nat.le_of_ble_eq_true rfl) rfl (Nat.le_of_ble_eq_true rfl) (Nat.le_of_ble_eq_true rfl) dX6_mixedWithTanks_145) (fun x4 h3 => ?_)
      refine g_lstore_n (pc := 148) (lv' := [(3, .long x4), (0, .ref (gad γ 0)), (5, .int a5), (6, .int a6), (7, .int a7)]) dX6_mixedWithTanks_148 rfl (by decide) rfl ?_
      refine g_iinc (pc := 149) (q := 4) (v := a7 + 1) (lv' := [(7, .int (a7 + 1)), (3, .long x4), (0, .ref (gad γ 0)), (5, .int a5), (6, .int a6)]) dX6_mixedWithTanks_149 rfl rfl (by decide) rfl ?_
      refine g_goto (pc := 152) (tgt := 128) dX6_mixedWithTanks_152 (by decide) ?_
      exact g_sub [2, 1, 3, 4, 0] rfl (ih x4 a5 a6 (a7 + 1) h3)
set_option maxRecDepth 20000 in
theorem glp_X6_mixedWithTanks_58 (γ : Gv) (R18 : Int64 → Int32 → Int32 → Hst → Option (Int64 × Hst)) (hR18 : ∀ (a3 : Int64) (a5 : Int32) (a6 : Int32) (h : Hst), G γ RX6 cX6_mixedWithTanks 8 (some .long) [] vL 8 0 18 [(0, .ref (gad γ 0)), (3, .long a3), (5, .int a5), (6, .int a6)] [] h (R18 a3 a5 a6 h)) : ∀ (n : Nat) (a3 : Int64) (a5 : Int32) (a6 : Int32) (a7 : Int32) (h : Hst), G γ RX6 cX6_mixedWithTanks 8 (some .long) [] vL 8 0 58 [(0, .ref (gad γ 0)), (3, .long a3), (5, .int a5), (6, .int a6), (7, .int a7)] [] h (lp_X6_mixedWithTanks_58 R18 n a3 a5 a6 a7 h) := by
  intro n
  induction n with
  | zero => intro a3 a5 a6 a7 h; exact g_none
  | succ n ih =>
    intro a3 a5 a6 a7 h
    rw [lp_X6_mixedWithTanks_58]
    refine g_iload (pc := 58) dX6_mixedWithTanks_58 4 rfl ?_
    refine g_bipush (pc := 60) (v := 14) dX6_mixedWithTanks_60 (by decide) ?_
    refine g_icmp_gt (pc := 62) (tgt := 85) dX6_mixedWithTanks_62 (by decide) ?_ ?_
    · refine g_lload_n (pc := 85) dX6_mixedWithTanks_85 rfl 1 rfl ?_
      refine g_aload_n (pc := 86) dX6_mixedWithTanks_86 rfl 0 rfl ?_
      refine g_iload (pc := 87) dX6_mixedWithTanks_87 3 rfl ?_
      refine g_iconst (pc := 89) (v := 0) dX6_mixedWithTanks_89 (by decide) ?_
      refine g_cI (pc := 90) (st := [.long a3]) (fun r hr => gRunV (As := [.int a6, .int 0]) 0 (ge_X6_reasonAgainstPress γ a6 0 h) hr wv_RX6_141 rfl (Nat.le_of_ble_eq_true rfl) (gat_0 _ _) rfl rfl (Nat.le_of_ble_eq_true rfl) (Nat.le_of_ble_eq_true rfl) dX6_mixedWithTanks_90) (fun x2 h1 => ?_)
      refine g_i2l (pc := 93) dX6_mixedWithTanks_93 ?_
      refine g_cL (pc := 94) (st := []) (fun r hr => gRunS (As := [.long a3, .long (x2.toInt64)]) (ge_X6_mixed γ a3 (x2.toInt64) h1) hr wv_RX6_334 rfl (Nat.le_of_ble_eq_true rfl) rfl (Nat.le_of_ble_eq_true rfl) (Nat.le_of_ble_eq_true rfl) dX6_mixedWithTanks_94) (fun x4 h3 => ?_)
      refine g_lstore_n (pc := 97) (lv' := [(3, .long x4), (0, .ref (gad γ 0)), (5, .int a5), (6, .int a6), (7, .int a7)]) dX6_mixedWithTanks_97 rfl (by decide) rfl ?_
      refine g_lload_n (pc := 98) dX6_mixedWithTanks_98 rfl 0 rfl ?_
      refine g_aload_n (pc := 99) dX6_mixedWithTanks_99 rfl 1 rfl ?_
      refine g_iload (pc := 100) dX6_mixedWithTanks_100 3 rfl ?_
      refine g_iconst (pc := 102) (v := 1) dX6_mixedWithTanks_102 (by decide) ?_
      refine g_cI (pc := 103) (st := [.long x4]) (fun r hr => gRunV (As := [.int a6, .int 1]) 0 (ge_X6_reasonAgainstPress γ a6 1 h3) hr wv_RX6_141 rfl (Nat.le_of_ble_eq_true rfl) (gat_0 _ _) rfl rfl (Nat.le_of_ble_eq_true rfl) (Nat.le_of_ble_eq_true rfl) dX6_mixedWithTanks_103) (fun x6 h5 => ?_)
      refine g_i2l (pc := 106) dX6_mixedWithTanks_106 ?_
      refine g_cL (pc := 107) (st := []) (fun r hr => gRunS (As := [.long x4, .long (x6.toInt64)]) (ge_X6_mixed γ x4 (x6.toInt64) h5) hr wv_RX6_334 rfl (Nat.le_of_ble_eq_true rfl) rfl (Nat.le_of_ble_eq_true rfl) (Nat.le_of_ble_eq_true rfl) dX6_mixedWithTanks_107) (fun x8 h7 => ?_)
      refine g_lstore_n (pc := 110) (lv' := [(3, .long x8), (0, .ref (gad γ 0)), (5, .int a5), (6, .int a6), (7, .int a7)]) dX6_mixedWithTanks_110 rfl (by decide) rfl ?_
      refine g_lload_n (pc := 111) dX6_mixedWithTanks_111 rfl 0 rfl ?_
      refine g_aload_n (pc := 112) dX6_mixedWithTanks_112 rfl 1 rfl ?_
      refine g_iload (pc := 113) dX6_mixedWithTanks_113 3 rfl ?_
      refine g_bipush (pc := 115) (v := 30) dX6_mixedWithTanks_115 (by decide) ?_
      refine g_cIX (pc := 117) (st := [.long x8]) (fun r hr => gRunV (As := [.int a6, .int 30]) 0 (ge_X6_oilIn γ a6 30 h7) hr wv_RX6_423 rfl (Nat.le_of_ble_eq_true rfl) (gat_0 _ _) rfl rfl (Nat.le_of_ble_eq_true rfl) (Nat.le_of_ble_eq_true rfl) dX6_mixedWithTanks_117) (fun x10 h9 => ?_) (fun E h0 hrun => g_none)
      refine g_i2l (pc := 120) dX6_mixedWithTanks_120 ?_
      refine g_cL (pc := 121) (st := []) (fun r hr => gRunS (As := [.long x8, .long (x10.toInt64)]) (ge_X6_mixed γ x8 (x10.toInt64) h9) hr wv_RX6_334 rfl (Nat.le_of_ble_eq_true rfl) rfl (Nat.le_of_ble_eq_true rfl) (Nat.le_of_ble_eq_true rfl) dX6_mixedWithTanks_121) (fun x12 h11 => ?_)
      refine g_lstore_n (pc := 124) (lv' := [(3, .long x12), (0, .ref (gad γ 0)), (5, .int a5), (6, .int a6), (7, .int a7)]) dX6_mixedWithTanks_124 rfl (by decide) rfl ?_
      refine g_iconst (pc := 125) (v := 0) dX6_mixedWithTanks_125 (by decide) ?_
      refine g_istore (pc := 126) (lv' := [(7, .int 0), (3, .long x12), (0, .ref (gad γ 0)), (5, .int a5), (6, .int a6)]) dX6_mixedWithTanks_126 (by decide) rfl ?_
      exact g_sub [2, 1, 3, 4, 0] rfl (glp_X6_mixedWithTanks_128 γ R18 hR18 FU x12 a5 a6 0 h11)
    · refine g_lload_n (pc := 65) dX6_mixedWithTanks_65 rfl 1 rfl ?_
      refine g_aload_n (pc := 66) dX6_mixedWithTanks_66 rfl 0 rfl ?_
      refine g_iload (pc := 67) dX6_mixedWithTanks_67 3 rfl ?_
      refine g_iload (pc := 69) dX6_mixedWithTanks_69 4 rfl ?_
      refine g_cIX (pc := 71) (st := [.long a3]) (fun r hr => gRunV (As := [.int a6, .int a7]) 0 (ge_X6_tank γ a6 a7 h) hr wv_RX6_420 rfl (Nat.le_of_ble_eq_true rfl) (gat_0 _ _) rfl rfl (Nat.le_of_ble_eq_true rfl) (Nat.le_of_ble_eq_true rfl) dX6_mixedWithTanks_71) (fun x15 h14 => ?_) (fun E h0 hrun => g_none)
      refine g_i2l (pc := 74) dX6_mixedWithTanks_74 ?_
      refine g_cL (pc := 75) (st := []) (fun r hr => gRunS (As := [.long a3, .long (x15.toInt64)]) (ge_X6_mixed γ a3 (x15.toInt64) h14) hr wv_RX6_334 rfl (Nat.le_of_ble_eq_true rfl) rfl (Nat.le_of_ble_eq_true rfl) (Nat.le_of_ble_eq_true rfl) dX6_mixedWithTanks_75) (fun x17 h16 => ?_)
      refine g_lstore_n (pc := 78) (lv' := [(3, .long x17), (0, .ref (gad γ 0)), (5, .int a5), (6, .int a6), (7, .int a7)]) dX6_mixedWithTanks_78 rfl (by decide) rfl ?_
      refine g_iinc (pc := 79) (q := 4) (v := a7 + 1) (lv' := [(7, .int (a7 + 1)), (3, .long x17), (0, .ref (gad γ 0)), (5, .int a5), (6, .int a6)]) dX6_mixedWithTanks_79 rfl rfl (by decide) rfl ?_
      refine g_goto (pc := 82) (tgt := 58) dX6_mixedWithTanks_82 (by decide) ?_
      exact g_sub [2, 1, 3, 4, 0] rfl (ih x17 a5 a6 (a7 + 1) h16)
set_option maxRecDepth 20000 in
theorem glp_X6_mixedWithTanks_28 (γ : Gv) (R18 : Int64 → Int32 → Int32 → Hst → Option (Int64 × Hst)) (hR18 : ∀ (a3 : Int64) (a5 : Int32) (a6 : Int32) (h : Hst), G γ RX6 cX6_mixedWithTanks 8 (some .long) [] vL 8 0 18 [(0, .ref (gad γ 0)), (3, .long a3), (5, .int a5), (6, .int a6)] [] h (R18 a3 a5 a6 h)) : ∀ (n : Nat) (a3 : Int64) (a5 : Int32) (a6 : Int32) (a7 : Int32) (h : Hst), G γ RX6 cX6_mixedWithTanks 8 (some .long) [] vL 8 0 28 [(0, .ref (gad γ 0)), (3, .long a3), (5, .int a5), (6, .int a6), (7, .int a7)] [] h (lp_X6_mixedWithTanks_28 R18 n a3 a5 a6 a7 h) := by
  intro n
  induction n with
  | zero => intro a3 a5 a6 a7 h; exact g_none
  | succ n ih =>
    intro a3 a5 a6 a7 h
    rw [lp_X6_mixedWithTanks_28]
    refine g_iload (pc := 28) dX6_mixedWithTanks_28 4 rfl ?_
    refine g_iconst (pc := 30) (v := 2) dX6_mixedWithTanks_30 (by decide) ?_
    refine g_icmp_gt (pc := 31) (tgt := 54) dX6_mixedWithTanks_31 (by decide) ?_ ?_
    · refine g_bipush (pc := 54) (v := 10) dX6_mixedWithTanks_54 (by decide) ?_
      refine g_istore (pc := 56) (lv' := [(7, .int 10), (0, .ref (gad γ 0)), (3, .long a3), (5, .int a5), (6, .int a6)]) dX6_mixedWithTanks_56 (by decide) rfl ?_
      exact g_sub [1, 2, 3, 4, 0] rfl (glp_X6_mixedWithTanks_58 γ R18 hR18 FU a3 a5 a6 10 h)
    · refine g_lload_n (pc := 34) dX6_mixedWithTanks_34 rfl 1 rfl ?_
      refine g_aload_n (pc := 35) dX6_mixedWithTanks_35 rfl 0 rfl ?_
      refine g_iload (pc := 36) dX6_mixedWithTanks_36 3 rfl ?_
      refine g_iload (pc := 38) dX6_mixedWithTanks_38 4 rfl ?_
      refine g_cIX (pc := 40) (st := [.long a3]) (fun r hr => gRunV (As := [.int a6, .int a7]) 0 (ge_X6_tank γ a6 a7 h) hr wv_RX6_420 rfl (Nat.le_of_ble_eq_true rfl) (gat_0 _ _) rfl rfl (Nat.le_of_ble_eq_true rfl) (Nat.le_of_ble_eq_true rfl) dX6_mixedWithTanks_40) (fun x2 h1 => ?_) (fun E h0 hrun => g_none)
      refine g_i2l (pc := 43) dX6_mixedWithTanks_43 ?_
      refine g_cL (pc := 44) (st := []) (fun r hr => gRunS (As := [.long a3, .long (x2.toInt64)]) (ge_X6_mixed γ a3 (x2.toInt64) h1) hr wv_RX6_334 rfl (Nat.le_of_ble_eq_true rfl) rfl (Nat.le_of_ble_eq_true rfl) (Nat.le_of_ble_eq_true rfl) dX6_mixedWithTanks_44) (fun x4 h3 => ?_)
      refine g_lstore_n (pc := 47) (lv' := [(3, .long x4), (0, .ref (gad γ 0)), (5, .int a5), (6, .int a6), (7, .int a7)]) dX6_mixedWithTanks_47 rfl (by decide) rfl ?_
      refine g_iinc (pc := 48) (q := 4) (v := a7 + 1) (lv' := [(7, .int (a7 + 1)), (3, .long x4), (0, .ref (gad γ 0)), (5, .int a5), (6, .int a6)]) dX6_mixedWithTanks_48 rfl rfl (by decide) rfl ?_
      refine g_goto (pc := 51) (tgt := 28) dX6_mixedWithTanks_51 (by decide) ?_
      exact g_sub [2, 1, 3, 4, 0] rfl (ih x4 a5 a6 (a7 + 1) h3)
set_option maxRecDepth 20000 in
theorem glp_X6_mixedWithTanks_18 (γ : Gv)  : ∀ (n : Nat) (a3 : Int64) (a5 : Int32) (a6 : Int32) (h : Hst), G γ RX6 cX6_mixedWithTanks 8 (some .long) [] vL 8 0 18 [(0, .ref (gad γ 0)), (3, .long a3), (5, .int a5), (6, .int a6)] [] h (lp_X6_mixedWithTanks_18 n a3 a5 a6 h) := by
  intro n
  induction n with
  | zero => intro a3 a5 a6 h; exact g_none
  | succ n ih =>
    intro a3 a5 a6 h
    rw [lp_X6_mixedWithTanks_18]
    refine g_iload (pc := 18) dX6_mixedWithTanks_18 3 rfl ?_
    refine g_iload (pc := 20) dX6_mixedWithTanks_20 2 rfl ?_
    refine g_icmp_ge (pc := 22) (tgt := 161) dX6_mixedWithTanks_22 (by decide) ?_ ?_
    · refine g_lload_n (pc := 161) dX6_mixedWithTanks_161 rfl 1 rfl ?_
      exact g_lreturn (pc := 162) dX6_mixedWithTanks_162 rfl rfl
    · refine g_iconst (pc := 25) (v := 0) dX6_mixedWithTanks_25 (by decide) ?_
      refine g_istore (pc := 26) (lv' := [(7, .int 0), (0, .ref (gad γ 0)), (3, .long a3), (5, .int a5), (6, .int a6)]) dX6_mixedWithTanks_26 (by decide) rfl ?_
      exact g_sub [1, 2, 3, 4, 0] rfl (glp_X6_mixedWithTanks_28 γ (lp_X6_mixedWithTanks_18 n) ih FU a3 a5 a6 0 h)
set_option maxRecDepth 20000 in
theorem ge_X6_mixedWithTanks (γ : Gv) (p0 : Int64) (h : Hst) : G γ RX6 cX6_mixedWithTanks 8 (some .long) [] vL 8 0 0 (lv_args 0 [.ref (gad γ 0), .long p0]) [] h (f_X6_mixedWithTanks p0 h) := by
  show G γ RX6 cX6_mixedWithTanks 8 (some .long) [] vL 8 0 0 [(0, .ref (gad γ 0)), (1, .long p0)] [] h (f_X6_mixedWithTanks p0 h)
  unfold f_X6_mixedWithTanks
  refine g_lload_n (pc := 0) dX6_mixedWithTanks_0 rfl 1 rfl ?_
  refine g_lstore_n (pc := 1) (lv' := [(3, .long p0), (0, .ref (gad γ 0)), (1, .long p0)]) dX6_mixedWithTanks_1 rfl (by decide) rfl ?_
  refine g_aload_n (pc := 2) dX6_mixedWithTanks_2 rfl 1 rfl ?_
  refine gf_RX6_12_0 (pc := 3) dX6_mixedWithTanks_3 ?_
  refine gf_RX6_47_1 (pc := 6) dX6_mixedWithTanks_6 ?_
  refine g_iconst (pc := 9) (v := 2) dX6_mixedWithTanks_9 (by decide) ?_
  refine g_cI (pc := 10) (st := []) (fun r hr => gRunV (As := [.int 2]) 7 (ge_X3_get_7 γ 2 h) hr wv_RX6_51 rfl (Nat.le_of_ble_eq_true rfl) (gat_7 _ _) rfl rfl (Nat.le_of_ble_eq_true rfl) (Nat.le_of_ble_eq_true rfl) dX6_mixedWithTanks_10) (fun x2 h1 => ?_)
  refine g_istore (pc := 13) (lv' := [(5, .int x2), (3, .long p0), (0, .ref (gad γ 0)), (1, .long p0)]) dX6_mixedWithTanks_13 (by decide) rfl ?_
  refine g_iconst (pc := 15) (v := 0) dX6_mixedWithTanks_15 (by decide) ?_
  refine g_istore (pc := 16) (lv' := [(6, .int 0), (5, .int x2), (3, .long p0), (0, .ref (gad γ 0)), (1, .long p0)]) dX6_mixedWithTanks_16 (by decide) rfl ?_
  exact g_sub [3, 2, 1, 0] rfl (glp_X6_mixedWithTanks_18 γ FU p0 x2 0 h1)
def lp_X6_mixedWithVarieties_14 (R5 : Int64 → Int32 → Hst → Option (Int64 × Hst)) : Nat → Int64 → Int32 → Int32 → Hst → Option (Int64 × Hst)
  | 0, _, _, _, _ => none
  | n + 1, a3, a5, a6, h =>
    (if 7 < a6 then
      (R5 a3 (a5 + 1) h)
    else
      (gbx (f_X6_variety a5 a6 h) (fun x2 h1 =>
        gb (f_X6_mixed a3 (x2.toInt64) h1) fun x4 h3 =>
        ((lp_X6_mixedWithVarieties_14 R5 n) x4 a5 (a6 + 1) h3)) (fun _ _ => none)))
def lp_X6_mixedWithVarieties_5 : Nat → Int64 → Int32 → Hst → Option (Int64 × Hst)
  | 0, _, _, _ => none
  | n + 1, a3, a5, h =>
    (if 5 ≤ a5 then
      (some (a3, h))
    else
      (lp_X6_mixedWithVarieties_14 (lp_X6_mixedWithVarieties_5 n) FU a3 a5 0 h))
def f_X6_mixedWithVarieties (p0 : Int64) (h : Hst) : Option (Int64 × Hst) :=
  (lp_X6_mixedWithVarieties_5 FU p0 0 h)
set_option maxRecDepth 20000 in
theorem glp_X6_mixedWithVarieties_14 (γ : Gv) (R5 : Int64 → Int32 → Hst → Option (Int64 × Hst)) (hR5 : ∀ (a3 : Int64) (a5 : Int32) (h : Hst), G γ RX6 cX6_mixedWithVarieties 7 (some .long) [] vL 8 0 5 [(0, .ref (gad γ 0)), (3, .long a3), (5, .int a5)] [] h (R5 a3 a5 h)) : ∀ (n : Nat) (a3 : Int64) (a5 : Int32) (a6 : Int32) (h : Hst), G γ RX6 cX6_mixedWithVarieties 7 (some .long) [] vL 8 0 14 [(0, .ref (gad γ 0)), (3, .long a3), (5, .int a5), (6, .int a6)] [] h (lp_X6_mixedWithVarieties_14 R5 n a3 a5 a6 h) := by
  intro n
  induction n with
  | zero => intro a3 a5 a6 h; exact g_none
  | succ n ih =>
    intro a3 a5 a6 h
    rw [lp_X6_mixedWithVarieties_14]
    refine g_iload (pc := 14) dX6_mixedWithVarieties_14 3 rfl ?_
    refine g_bipush (pc := 16) (v := 7) dX6_mixedWithVarieties_16 (by decide) ?_
    refine g_icmp_gt (pc := 18) (tgt := 41) dX6_mixedWithVarieties_18 (by decide) ?_ ?_
    · refine g_iinc (pc := 41) (q := 2) (v := a5 + 1) (lv' := [(5, .int (a5 + 1)), (0, .ref (gad γ 0)), (3, .long a3), (6, .int a6)]) dX6_mixedWithVarieties_41 rfl rfl (by decide) rfl ?_
      refine g_goto (pc := 44) (tgt := 5) dX6_mixedWithVarieties_44 (by decide) ?_
      exact g_sub [1, 2, 0] rfl (hR5 a3 (a5 + 1) h)
    · refine g_lload_n (pc := 21) dX6_mixedWithVarieties_21 rfl 1 rfl ?_
      refine g_aload_n (pc := 22) dX6_mixedWithVarieties_22 rfl 0 rfl ?_
      refine g_iload (pc := 23) dX6_mixedWithVarieties_23 2 rfl ?_
      refine g_iload (pc := 25) dX6_mixedWithVarieties_25 3 rfl ?_
      refine g_cIX (pc := 27) (st := [.long a3]) (fun r hr => gRunV (As := [.int a5, .int a6]) 0 (ge_X6_variety γ a5 a6 h) hr wv_RX6_429 rfl (Nat.le_of_ble_eq_true rfl) (gat_0 _ _) rfl rfl (Nat.le_of_ble_eq_true rfl) (Nat.le_of_ble_eq_true rfl) dX6_mixedWithVarieties_27) (fun x2 h1 => ?_) (fun E h0 hrun => g_none)
      refine g_i2l (pc := 30) dX6_mixedWithVarieties_30 ?_
      refine g_cL (pc := 31) (st := []) (fun r hr => gRunS (As := [.long a3, .long (x2.toInt64)]) (ge_X6_mixed γ a3 (x2.toInt64) h1) hr wv_RX6_334 rfl (Nat.le_of_ble_eq_true rfl) rfl (Nat.le_of_ble_eq_true rfl) (Nat.le_of_ble_eq_true rfl) dX6_mixedWithVarieties_31) (fun x4 h3 => ?_)
      refine g_lstore_n (pc := 34) (lv' := [(3, .long x4), (0, .ref (gad γ 0)), (5, .int a5), (6, .int a6)]) dX6_mixedWithVarieties_34 rfl (by decide) rfl ?_
      refine g_iinc (pc := 35) (q := 3) (v := a6 + 1) (lv' := [(6, .int (a6 + 1)), (3, .long x4), (0, .ref (gad γ 0)), (5, .int a5)]) dX6_mixedWithVarieties_35 rfl rfl (by decide) rfl ?_
      refine g_goto (pc := 38) (tgt := 14) dX6_mixedWithVarieties_38 (by decide) ?_
      exact g_sub [2, 1, 3, 0] rfl (ih x4 a5 (a6 + 1) h3)
set_option maxRecDepth 20000 in
theorem glp_X6_mixedWithVarieties_5 (γ : Gv)  : ∀ (n : Nat) (a3 : Int64) (a5 : Int32) (h : Hst), G γ RX6 cX6_mixedWithVarieties 7 (some .long) [] vL 8 0 5 [(0, .ref (gad γ 0)), (3, .long a3), (5, .int a5)] [] h (lp_X6_mixedWithVarieties_5 n a3 a5 h) := by
  intro n
  induction n with
  | zero => intro a3 a5 h; exact g_none
  | succ n ih =>
    intro a3 a5 h
    rw [lp_X6_mixedWithVarieties_5]
    refine g_iload (pc := 5) dX6_mixedWithVarieties_5 2 rfl ?_
    refine g_iconst (pc := 7) (v := 5) dX6_mixedWithVarieties_7 (by decide) ?_
    refine g_icmp_ge (pc := 8) (tgt := 47) dX6_mixedWithVarieties_8 (by decide) ?_ ?_
    · refine g_lload_n (pc := 47) dX6_mixedWithVarieties_47 rfl 1 rfl ?_
      exact g_lreturn (pc := 48) dX6_mixedWithVarieties_48 rfl rfl
    · refine g_iconst (pc := 11) (v := 0) dX6_mixedWithVarieties_11 (by decide) ?_
      refine g_istore (pc := 12) (lv' := [(6, .int 0), (0, .ref (gad γ 0)), (3, .long a3), (5, .int a5)]) dX6_mixedWithVarieties_12 (by decide) rfl ?_
      exact g_sub [1, 2, 3, 0] rfl (glp_X6_mixedWithVarieties_14 γ (lp_X6_mixedWithVarieties_5 n) ih FU a3 a5 0 h)
set_option maxRecDepth 20000 in
theorem ge_X6_mixedWithVarieties (γ : Gv) (p0 : Int64) (h : Hst) : G γ RX6 cX6_mixedWithVarieties 7 (some .long) [] vL 8 0 0 (lv_args 0 [.ref (gad γ 0), .long p0]) [] h (f_X6_mixedWithVarieties p0 h) := by
  show G γ RX6 cX6_mixedWithVarieties 7 (some .long) [] vL 8 0 0 [(0, .ref (gad γ 0)), (1, .long p0)] [] h (f_X6_mixedWithVarieties p0 h)
  unfold f_X6_mixedWithVarieties
  refine g_lload_n (pc := 0) dX6_mixedWithVarieties_0 rfl 1 rfl ?_
  refine g_lstore_n (pc := 1) (lv' := [(3, .long p0), (0, .ref (gad γ 0)), (1, .long p0)]) dX6_mixedWithVarieties_1 rfl (by decide) rfl ?_
  refine g_iconst (pc := 2) (v := 0) dX6_mixedWithVarieties_2 (by decide) ?_
  refine g_istore (pc := 3) (lv' := [(5, .int 0), (3, .long p0), (0, .ref (gad γ 0)), (1, .long p0)]) dX6_mixedWithVarieties_3 (by decide) rfl ?_
  exact g_sub [2, 1, 0] rfl (glp_X6_mixedWithVarieties_5 γ FU p0 0 h)
def jb_X6_bitsOf_50  (a2 : UInt64) (a4 : Int64) (h : Hst) : Option (Int64 × Hst) :=
  gnn (FP.dsub a2 (FP.dconst1)) (gnn (FP.dmul (FP.dsub a2 (FP.dconst1)) 4841369599423283200) ((some ((a4 <<< ((52 : Int32).toInt64 &&& 63)) + (FP.d2l (FP.dmul (FP.dsub a2 (FP.dconst1)) 4841369599423283200)), h))))
def lp_X6_bitsOf_18 : Nat → UInt64 → Int64 → Int32 → Hst → Option (Int64 × Hst)
  | 0, _, _, _, _ => none
  | n + 1, a2, a4, a6, h =>
    (if 1000 ≤ a6 then
      (jb_X6_bitsOf_50 a2 a4 h)
    else
      (if 0 ≤ (Op.cmpValue (FP.dcmp a2 (FP.dconst1)) .g) then
        (jb_X6_bitsOf_50 a2 a4 h)
      else
        gnn (FP.dmul a2 4611686018427387904) (gl (FP.dmul a2 4611686018427387904) fun x1 =>
        gl (a4 - 1) fun x2 =>
        ((lp_X6_bitsOf_18 n) x1 x2 (a6 + 1) h))))
def f_X6_bitsOf (p0 : UInt64) (h : Hst) : Option (Int64 × Hst) :=
  (if 0 < (Op.cmpValue (FP.dcmp p0 (FP.dconst0)) .l) then
    (lp_X6_bitsOf_18 FU p0 1023 0 h)
  else
    (some (0, h)))
set_option maxRecDepth 20000 in
theorem gjb_X6_bitsOf_50 (γ : Gv)  (a2 : UInt64) (a4 : Int64) (h : Hst) : G γ RX6 cX6_bitsOf 7 (some .long) [] vL 0 0 50 [(2, .double a2), (4, .long a4)] [] h (jb_X6_bitsOf_50 a2 a4 h) := by
  unfold jb_X6_bitsOf_50
  refine g_lload (pc := 50) dX6_bitsOf_50 1 rfl ?_
  refine g_bipush (pc := 52) (v := 52) dX6_bitsOf_52 (by decide) ?_
  refine g_lshl (pc := 54) dX6_bitsOf_54 ?_
  refine g_dload_n (pc := 55) dX6_bitsOf_55 rfl 0 rfl ?_
  refine g_dconst1 (pc := 56) dX6_bitsOf_56 ?_
  refine g_dsub (pc := 57) dX6_bitsOf_57 ?_
  refine g_ldc2d (pc := 58) wk_RX6_435 dX6_bitsOf_58 ?_
  refine g_dmul (pc := 61) dX6_bitsOf_61 ?_
  refine g_d2l (pc := 62) dX6_bitsOf_62 ?_
  refine g_ladd (pc := 63) dX6_bitsOf_63 ?_
  exact g_lreturn (pc := 64) dX6_bitsOf_64 rfl rfl
set_option maxRecDepth 20000 in
theorem glp_X6_bitsOf_18 (γ : Gv)  : ∀ (n : Nat) (a2 : UInt64) (a4 : Int64) (a6 : Int32) (h : Hst), G γ RX6 cX6_bitsOf 7 (some .long) [] vL 0 0 18 [(2, .double a2), (4, .long a4), (6, .int a6)] [] h (lp_X6_bitsOf_18 n a2 a4 a6 h) := by
  intro n
  induction n with
  | zero => intro a2 a4 a6 h; exact g_none
  | succ n ih =>
    intro a2 a4 a6 h
    rw [lp_X6_bitsOf_18]
    refine g_iload (pc := 18) dX6_bitsOf_18 2 rfl ?_
    refine g_sipush (pc := 20) (v := 1000) dX6_bitsOf_20 (by decide) ?_
    refine g_icmp_ge (pc := 23) (tgt := 50) dX6_bitsOf_23 (by decide) ?_ ?_
    · exact g_sub [0, 1] rfl (gjb_X6_bitsOf_50 γ a2 a4 h)
    · refine g_dload_n (pc := 26) dX6_bitsOf_26 rfl 0 rfl ?_
      refine g_dconst1 (pc := 27) dX6_bitsOf_27 ?_
      refine g_dcmp (pc := 28) dX6_bitsOf_28 ?_
      refine g_if_ge (pc := 29) (tgt := 50) dX6_bitsOf_29 (by decide) ?_ ?_
      · exact g_sub [0, 1] rfl (gjb_X6_bitsOf_50 γ a2 a4 h)
      · refine g_dload_n (pc := 32) dX6_bitsOf_32 rfl 0 rfl ?_
        refine g_ldc2d (pc := 33) wk_RX6_433 dX6_bitsOf_33 ?_
        refine g_dmul (pc := 36) dX6_bitsOf_36 ?_
        refine g_nmd (fun x1 => ?_)
        refine g_dstore_n (pc := 37) (lv' := [(2, .double x1), (4, .long a4), (6, .int a6)]) dX6_bitsOf_37 rfl (by decide) rfl ?_
        refine g_lload (pc := 38) dX6_bitsOf_38 1 rfl ?_
        refine g_lconst (pc := 40) (v := 1) dX6_bitsOf_40 (by decide) ?_
        refine g_lsub (pc := 41) dX6_bitsOf_41 ?_
        refine g_nml (fun x2 => ?_)
        refine g_lstore (pc := 42) (lv' := [(4, .long x2), (2, .double x1), (6, .int a6)]) dX6_bitsOf_42 (by decide) rfl ?_
        refine g_iinc (pc := 44) (q := 2) (v := a6 + 1) (lv' := [(6, .int (a6 + 1)), (4, .long x2), (2, .double x1)]) dX6_bitsOf_44 rfl rfl (by decide) rfl ?_
        refine g_goto (pc := 47) (tgt := 18) dX6_bitsOf_47 (by decide) ?_
        exact g_sub [2, 1, 0] rfl (ih x1 x2 (a6 + 1) h)
set_option maxRecDepth 20000 in
theorem ge_X6_bitsOf (γ : Gv) (p0 : UInt64) (h : Hst) : G γ RX6 cX6_bitsOf 7 (some .long) [] vL 0 0 0 (lv_args 0 [.double p0]) [] h (f_X6_bitsOf p0 h) := by
  show G γ RX6 cX6_bitsOf 7 (some .long) [] vL 0 0 0 [(0, .double p0)] [] h (f_X6_bitsOf p0 h)
  unfold f_X6_bitsOf
  refine g_dload_n (pc := 0) dX6_bitsOf_0 rfl 0 rfl ?_
  refine g_dconst0 (pc := 1) dX6_bitsOf_1 ?_
  refine g_dcmp (pc := 2) dX6_bitsOf_2 ?_
  refine g_if_gt (pc := 3) (tgt := 8) dX6_bitsOf_3 (by decide) ?_ ?_
  · refine g_dload_n (pc := 8) dX6_bitsOf_8 rfl 0 rfl ?_
    refine g_dstore_n (pc := 9) (lv' := [(2, .double p0), (0, .double p0)]) dX6_bitsOf_9 rfl (by decide) rfl ?_
    refine g_ldc2 (pc := 10) wk_RX6_431 dX6_bitsOf_10 ?_
    refine g_lstore (pc := 13) (lv' := [(4, .long 1023), (2, .double p0), (0, .double p0)]) dX6_bitsOf_13 (by decide) rfl ?_
    refine g_iconst (pc := 15) (v := 0) dX6_bitsOf_15 (by decide) ?_
    refine g_istore (pc := 16) (lv' := [(6, .int 0), (4, .long 1023), (2, .double p0), (0, .double p0)]) dX6_bitsOf_16 (by decide) rfl ?_
    exact g_sub [2, 1, 0] rfl (glp_X6_bitsOf_18 γ FU p0 1023 0 h)
  · refine g_lconst (pc := 6) (v := 0) dX6_bitsOf_6 (by decide) ?_
    exact g_lreturn (pc := 7) dX6_bitsOf_7 rfl rfl
def lp_X6_digest_160 : Nat → Int64 → Int32 → Hst → Option (Int64 × Hst)
  | 0, _, _, _ => none
  | n + 1, a1, a3, h =>
    (if (h.1 0 5) ≤ a3 then
      (some (a1, h))
    else
      gb (f_X6_codeAt a3 h) fun x2 h1 =>
      gb (f_X6_mixed a1 (x2.toInt64) h1) fun x4 h3 =>
      ((lp_X6_digest_160 n) x4 (a3 + 1) h3))
def lp_X6_digest_104 : Nat → Int64 → Int32 → Hst → Option (Int64 × Hst)
  | 0, _, _, _ => none
  | n + 1, a1, a3, h =>
    (if 2 < a3 then
      gb (f_X6_bestTank h) fun x2 h1 =>
      gb (f_X6_mixed a1 (x2.toInt64) h1) fun x4 h3 =>
      gb (f_X6_goodShare h3) fun x6 h5 =>
      gb (f_X6_bitsOf x6 h5) fun x8 h7 =>
      gb (f_X6_mixed x4 x8 h7) fun x10 h9 =>
      gb (f_X6_mixed x10 ((h9.1 0 5).toInt64) h9) fun x12 h11 =>
      (lp_X6_digest_160 FU x12 0 h11)
    else
      (gbx (f_X6_lossBy a3 h) (fun x14 h13 =>
        gb (f_X6_mixed a1 (x14.toInt64) h13) fun x16 h15 =>
        ((lp_X6_digest_104 n) x16 (a3 + 1) h15)) (fun _ _ => none)))
def lp_X6_digest_80 : Nat → Int64 → Int32 → Hst → Option (Int64 × Hst)
  | 0, _, _, _ => none
  | n + 1, a1, a3, h =>
    (if 4 < a3 then
      (lp_X6_digest_104 FU a1 0 h)
    else
      (gbx (f_X6_next a3 h) (fun x2 h1 =>
        gb (f_X6_mixed a1 (x2.toInt64) h1) fun x4 h3 =>
        ((lp_X6_digest_80 n) x4 (a3 + 1) h3)) (fun _ _ => none)))
def lp_X6_digest_31 : Nat → Int64 → Int32 → Hst → Option (Int64 × Hst)
  | 0, _, _, _ => none
  | n + 1, a1, a3, h =>
    (if 7 ≤ a3 then
      gb (f_X6_mixedWithGrowers a1 h) fun x2 h1 =>
      gb (f_X6_mixedWithLots x2 h1) fun x4 h3 =>
      gb (f_X6_mixedWithTanks x4 h3) fun x6 h5 =>
      gb (f_X6_mixedWithVarieties x6 h5) fun x8 h7 =>
      (lp_X6_digest_80 FU x8 0 h7)
    else
      (gbx (f_X6_setting a3 h) (fun x10 h9 =>
        gb (f_X6_mixed a1 (x10.toInt64) h9) fun x12 h11 =>
        ((lp_X6_digest_31 n) x12 (a3 + 1) h11)) (fun _ _ => none)))
def lp_X6_digest_6 : Nat → Int64 → Int32 → Hst → Option (Int64 × Hst)
  | 0, _, _, _ => none
  | n + 1, a1, a3, h =>
    (if 12 < a3 then
      (lp_X6_digest_31 FU a1 0 h)
    else
      (gbx (f_X6_count a3 h) (fun x2 h1 =>
        gb (f_X6_mixed a1 (x2.toInt64) h1) fun x4 h3 =>
        ((lp_X6_digest_6 n) x4 (a3 + 1) h3)) (fun _ _ => none)))
def f_X6_digest  (h : Hst) : Option (Int64 × Hst) :=
  (lp_X6_digest_6 FU 2393 0 h)
set_option maxRecDepth 20000 in
theorem glp_X6_digest_160 (γ : Gv)  : ∀ (n : Nat) (a1 : Int64) (a3 : Int32) (h : Hst), G γ RX6 cX6_digest 4 (some .long) [] vL 9 0 160 [(0, .ref (gad γ 0)), (1, .long a1), (3, .int a3)] [] h (lp_X6_digest_160 n a1 a3 h) := by
  intro n
  induction n with
  | zero => intro a1 a3 h; exact g_none
  | succ n ih =>
    intro a1 a3 h
    rw [lp_X6_digest_160]
    refine g_iload_n (pc := 160) dX6_digest_160 rfl 2 rfl ?_
    refine g_aload_n (pc := 161) dX6_digest_161 rfl 0 rfl ?_
    refine gf_RX6_43_0 (pc := 162) dX6_digest_162 ?_
    refine g_icmp_ge (pc := 165) (tgt := 185) dX6_digest_165 (by decide) ?_ ?_
    · refine g_lload_n (pc := 185) dX6_digest_185 rfl 1 rfl ?_
      exact g_lreturn (pc := 186) dX6_digest_186 rfl rfl
    · refine g_lload_n (pc := 168) dX6_digest_168 rfl 1 rfl ?_
      refine g_aload_n (pc := 169) dX6_digest_169 rfl 0 rfl ?_
      refine g_iload_n (pc := 170) dX6_digest_170 rfl 2 rfl ?_
      refine g_cI (pc := 171) (st := [.long a1]) (fun r hr => gRunV (As := [.int a3]) 0 (ge_X6_codeAt γ a3 h) hr wv_RX6_241 rfl (Nat.le_of_ble_eq_true rfl) (gat_0 _ _) rfl rfl (Nat.le_of_ble_eq_true rfl) (Nat.le_of_ble_eq_true rfl) dX6_digest_171) (fun x2 h1 => ?_)
      refine g_i2l (pc := 174) dX6_digest_174 ?_
      refine g_cL (pc := 175) (st := []) (fun r hr => gRunS (As := [.long a1, .long (x2.toInt64)]) (ge_X6_mixed γ a1 (x2.toInt64) h1) hr wv_RX6_334 rfl (Nat.le_of_ble_eq_true rfl) rfl (Nat.le_of_ble_eq_true rfl) (Nat.le_of_ble_eq_true rfl) dX6_digest_175) (fun x4 h3 => ?_)
      refine g_lstore_n (pc := 178) (lv' := [(1, .long x4), (0, .ref (gad γ 0)), (3, .int a3)]) dX6_digest_178 rfl (by decide) rfl ?_
      refine g_iinc (pc := 179) (q := 2) (v := a3 + 1) (lv' := [(3, .int (a3 + 1)), (1, .long x4), (0, .ref (gad γ 0))]) dX6_digest_179 rfl rfl (by decide) rfl ?_
      refine g_goto (pc := 182) (tgt := 160) dX6_digest_182 (by decide) ?_
      exact g_sub [2, 1, 0] rfl (ih x4 (a3 + 1) h3)
set_option maxRecDepth 20000 in
theorem glp_X6_digest_104 (γ : Gv)  : ∀ (n : Nat) (a1 : Int64) (a3 : Int32) (h : Hst), G γ RX6 cX6_digest 4 (some .long) [] vL 9 0 104 [(0, .ref (gad γ 0)), (1, .long a1), (3, .int a3)] [] h (lp_X6_digest_104 n a1 a3 h) := by
  intro n
  induction n with
  | zero => intro a1 a3 h; exact g_none
  | succ n ih =>
    intro a1 a3 h
    rw [lp_X6_digest_104]
    refine g_iload_n (pc := 104) dX6_digest_104 rfl 2 rfl ?_
    refine g_iconst (pc := 105) (v := 2) dX6_digest_105 (by decide) ?_
    refine g_icmp_gt (pc := 106) (tgt := 126) dX6_digest_106 (by decide) ?_ ?_
    · refine g_lload_n (pc := 126) dX6_digest_126 rfl 1 rfl ?_
      refine g_aload_n (pc := 127) dX6_digest_127 rfl 0 rfl ?_
      refine g_cI (pc := 128) (st := [.long a1]) (fun r hr => gRunV (As := []) 0 (ge_X6_bestTank γ h) hr wv_RX6_360 rfl (Nat.le_of_ble_eq_true rfl) (gat_0 _ _) rfl rfl (Nat.le_of_ble_eq_true rfl) (Nat.le_of_ble_eq_true rfl) dX6_digest_128) (fun x2 h1 => ?_)
      refine g_i2l (pc := 131) dX6_digest_131 ?_
      refine g_cL (pc := 132) (st := []) (fun r hr => gRunS (As := [.long a1, .long (x2.toInt64)]) (ge_X6_mixed γ a1 (x2.toInt64) h1) hr wv_RX6_334 rfl (Nat.le_of_ble_eq_true rfl) rfl (Nat.le_of_ble_eq_true rfl) (Nat.le_of_ble_eq_true rfl) dX6_digest_132) (fun x4 h3 => ?_)
      refine g_lstore_n (pc := 135) (lv' := [(1, .long x4), (0, .ref (gad γ 0)), (3, .int a3)]) dX6_digest_135 rfl (by decide) rfl ?_
      refine g_lload_n (pc := 136) dX6_digest_136 rfl 0 rfl ?_
      refine g_aload_n (pc := 137) dX6_digest_137 rfl 1 rfl ?_
      refine g_cD (pc := 138) (st := [.long x4]) (fun r hr => gRunV (As := []) 0 (ge_X6_goodShare γ h3) hr wv_RX6_363 rfl (Nat.le_of_ble_eq_true rfl) (gat_0 _ _) rfl rfl (Nat.le_of_ble_eq_true rfl) (Nat.le_of_ble_eq_true rfl) dX6_digest_138) (fun x6 h5 => ?_)
      refine g_cL (pc := 141) (st := [.long x4]) (fun r hr => gRunS (As := [.double x6]) (ge_X6_bitsOf γ x6 h5) hr wv_RX6_367 rfl (Nat.le_of_ble_eq_true rfl) rfl (Nat.le_of_ble_eq_true rfl) (Nat.le_of_ble_eq_true rfl) dX6_digest_141) (fun x8 h7 => ?_)
      refine g_cL (pc := 144) (st := []) (fun r hr => gRunS (As := [.long x4, .long x8]) (ge_X6_mixed γ x4 x8 h7) hr wv_RX6_334 rfl (Nat.le_of_ble_eq_true rfl) rfl (Nat.le_of_ble_eq_true rfl) (Nat.le_of_ble_eq_true rfl) dX6_digest_144) (fun x10 h9 => ?_)
      refine g_lstore_n (pc := 147) (lv' := [(1, .long x10), (0, .ref (gad γ 0)), (3, .int a3)]) dX6_digest_147 rfl (by decide) rfl ?_
      refine g_lload_n (pc := 148) dX6_digest_148 rfl 0 rfl ?_
      refine g_aload_n (pc := 149) dX6_digest_149 rfl 1 rfl ?_
      refine gf_RX6_43_0 (pc := 150) dX6_digest_150 ?_
      refine g_i2l (pc := 153) dX6_digest_153 ?_
      refine g_cL (pc := 154) (st := []) (fun r hr => gRunS (As := [.long x10, .long ((h9.1 0 5).toInt64)]) (ge_X6_mixed γ x10 ((h9.1 0 5).toInt64) h9) hr wv_RX6_334 rfl (Nat.le_of_ble_eq_true rfl) rfl (Nat.le_of_ble_eq_true rfl) (Nat.le_of_ble_eq_true rfl) dX6_digest_154) (fun x12 h11 => ?_)
      refine g_lstore_n (pc := 157) (lv' := [(1, .long x12), (0, .ref (gad γ 0)), (3, .int a3)]) dX6_digest_157 rfl (by decide) rfl ?_
      refine g_iconst (pc := 158) (v := 0) dX6_digest_158 (by decide) ?_
      refine g_istore_n (pc := 159) (lv' := [(3, .int 0), (1, .long x12), (0, .ref (gad γ 0))]) dX6_digest_159 rfl (by decide) rfl ?_
      exact g_sub [2, 1, 0] rfl (glp_X6_digest_160 γ FU x12 0 h11)
    · refine g_lload_n (pc := 109) dX6_digest_109 rfl 1 rfl ?_
      refine g_aload_n (pc := 110) dX6_digest_110 rfl 0 rfl ?_
      refine g_iload_n (pc := 111) dX6_digest_111 rfl 2 rfl ?_
      refine g_cIX (pc := 112) (st := [.long a1]) (fun r hr => gRunV (As := [.int a3]) 0 (ge_X6_lossBy γ a3 h) hr wv_RX6_357 rfl (Nat.le_of_ble_eq_true rfl) (gat_0 _ _) rfl rfl (Nat.le_of_ble_eq_true rfl) (Nat.le_of_ble_eq_true rfl) dX6_digest_112) (fun x14 h13 => ?_) (fun E h0 hrun => g_none)
      refine g_i2l (pc := 115) dX6_digest_115 ?_
      refine g_cL (pc := 116) (st := []) (fun r hr => gRunS (As := [.long a1, .long (x14.toInt64)]) (ge_X6_mixed γ a1 (x14.toInt64) h13) hr wv_RX6_334 rfl (Nat.le_of_ble_eq_true rfl) rfl (Nat.le_of_ble_eq_true rfl) (Nat.le_of_ble_eq_true rfl) dX6_digest_116) (fun x16 h15 => ?_)
      refine g_lstore_n (pc := 119) (lv' := [(1, .long x16), (0, .ref (gad γ 0)), (3, .int a3)]) dX6_digest_119 rfl (by decide) rfl ?_
      refine g_iinc (pc := 120) (q := 2) (v := a3 + 1) (lv' := [(3, .int (a3 + 1)), (1, .long x16), (0, .ref (gad γ 0))]) dX6_digest_120 rfl rfl (by decide) rfl ?_
      refine g_goto (pc := 123) (tgt := 104) dX6_digest_123 (by decide) ?_
      exact g_sub [2, 1, 0] rfl (ih x16 (a3 + 1) h15)
set_option maxRecDepth 20000 in
theorem glp_X6_digest_80 (γ : Gv)  : ∀ (n : Nat) (a1 : Int64) (a3 : Int32) (h : Hst), G γ RX6 cX6_digest 4 (some .long) [] vL 9 0 80 [(0, .ref (gad γ 0)), (1, .long a1), (3, .int a3)] [] h (lp_X6_digest_80 n a1 a3 h) := by
  intro n
  induction n with
  | zero => intro a1 a3 h; exact g_none
  | succ n ih =>
    intro a1 a3 h
    rw [lp_X6_digest_80]
    refine g_iload_n (pc := 80) dX6_digest_80 rfl 2 rfl ?_
    refine g_iconst (pc := 81) (v := 4) dX6_digest_81 (by decide) ?_
    refine g_icmp_gt (pc := 82) (tgt := 102) dX6_digest_82 (by decide) ?_ ?_
    · refine g_iconst (pc := 102) (v := 0) dX6_digest_102 (by decide) ?_
      refine g_istore_n (pc := 103) (lv' := [(3, .int 0), (0, .ref (gad γ 0)), (1, .long a1)]) dX6_digest_103 rfl (by decide) rfl ?_
      exact g_sub [1, 2, 0] rfl (glp_X6_digest_104 γ FU a1 0 h)
    · refine g_lload_n (pc := 85) dX6_digest_85 rfl 1 rfl ?_
      refine g_aload_n (pc := 86) dX6_digest_86 rfl 0 rfl ?_
      refine g_iload_n (pc := 87) dX6_digest_87 rfl 2 rfl ?_
      refine g_cIX (pc := 88) (st := [.long a1]) (fun r hr => gRunV (As := [.int a3]) 0 (ge_X6_next γ a3 h) hr wv_RX6_354 rfl (Nat.le_of_ble_eq_true rfl) (gat_0 _ _) rfl rfl (Nat.le_of_ble_eq_true rfl) (Nat.le_of_ble_eq_true rfl) dX6_digest_88) (fun x2 h1 => ?_) (fun E h0 hrun => g_none)
      refine g_i2l (pc := 91) dX6_digest_91 ?_
      refine g_cL (pc := 92) (st := []) (fun r hr => gRunS (As := [.long a1, .long (x2.toInt64)]) (ge_X6_mixed γ a1 (x2.toInt64) h1) hr wv_RX6_334 rfl (Nat.le_of_ble_eq_true rfl) rfl (Nat.le_of_ble_eq_true rfl) (Nat.le_of_ble_eq_true rfl) dX6_digest_92) (fun x4 h3 => ?_)
      refine g_lstore_n (pc := 95) (lv' := [(1, .long x4), (0, .ref (gad γ 0)), (3, .int a3)]) dX6_digest_95 rfl (by decide) rfl ?_
      refine g_iinc (pc := 96) (q := 2) (v := a3 + 1) (lv' := [(3, .int (a3 + 1)), (1, .long x4), (0, .ref (gad γ 0))]) dX6_digest_96 rfl rfl (by decide) rfl ?_
      refine g_goto (pc := 99) (tgt := 80) dX6_digest_99 (by decide) ?_
      exact g_sub [2, 1, 0] rfl (ih x4 (a3 + 1) h3)
set_option maxRecDepth 20000 in
theorem glp_X6_digest_31 (γ : Gv)  : ∀ (n : Nat) (a1 : Int64) (a3 : Int32) (h : Hst), G γ RX6 cX6_digest 4 (some .long) [] vL 9 0 31 [(0, .ref (gad γ 0)), (1, .long a1), (3, .int a3)] [] h (lp_X6_digest_31 n a1 a3 h) := by
  intro n
  induction n with
  | zero => intro a1 a3 h; exact g_none
  | succ n ih =>
    intro a1 a3 h
    rw [lp_X6_digest_31]
    refine g_iload_n (pc := 31) dX6_digest_31 rfl 2 rfl ?_
    refine g_bipush (pc := 32) (v := 7) dX6_digest_32 (by decide) ?_
    refine g_icmp_ge (pc := 34) (tgt := 54) dX6_digest_34 (by decide) ?_ ?_
    · refine g_aload_n (pc := 54) dX6_digest_54 rfl 0 rfl ?_
      refine g_lload_n (pc := 55) dX6_digest_55 rfl 1 rfl ?_
      refine g_cL (pc := 56) (st := []) (fun r hr => gRunV (As := [.long a1]) 0 (ge_X6_mixedWithGrowers γ a1 h) hr wv_RX6_341 rfl (Nat.le_of_ble_eq_true rfl) (gat_0 _ _) rfl rfl (Nat.le_of_ble_eq_true rfl) (Nat.le_of_ble_eq_true rfl) dX6_digest_56) (fun x2 h1 => ?_)
      refine g_lstore_n (pc := 59) (lv' := [(1, .long x2), (0, .ref (gad γ 0)), (3, .int a3)]) dX6_digest_59 rfl (by decide) rfl ?_
      refine g_aload_n (pc := 60) dX6_digest_60 rfl 1 rfl ?_
      refine g_lload_n (pc := 61) dX6_digest_61 rfl 0 rfl ?_
      refine g_cL (pc := 62) (st := []) (fun r hr => gRunV (As := [.long x2]) 0 (ge_X6_mixedWithLots γ x2 h1) hr wv_RX6_345 rfl (Nat.le_of_ble_eq_true rfl) (gat_0 _ _) rfl rfl (Nat.le_of_ble_eq_true rfl) (Nat.le_of_ble_eq_true rfl) dX6_digest_62) (fun x4 h3 => ?_)
      refine g_lstore_n (pc := 65) (lv' := [(1, .long x4), (0, .ref (gad γ 0)), (3, .int a3)]) dX6_digest_65 rfl (by decide) rfl ?_
      refine g_aload_n (pc := 66) dX6_digest_66 rfl 1 rfl ?_
      refine g_lload_n (pc := 67) dX6_digest_67 rfl 0 rfl ?_
      refine g_cL (pc := 68) (st := []) (fun r hr => gRunV (As := [.long x4]) 0 (ge_X6_mixedWithTanks γ x4 h3) hr wv_RX6_348 rfl (Nat.le_of_ble_eq_true rfl) (gat_0 _ _) rfl rfl (Nat.le_of_ble_eq_true rfl) (Nat.le_of_ble_eq_true rfl) dX6_digest_68) (fun x6 h5 => ?_)
      refine g_lstore_n (pc := 71) (lv' := [(1, .long x6), (0, .ref (gad γ 0)), (3, .int a3)]) dX6_digest_71 rfl (by decide) rfl ?_
      refine g_aload_n (pc := 72) dX6_digest_72 rfl 1 rfl ?_
      refine g_lload_n (pc := 73) dX6_digest_73 rfl 0 rfl ?_
      refine g_cL (pc := 74) (st := []) (fun r hr => gRunV (As := [.long x6]) 0 (ge_X6_mixedWithVarieties γ x6 h5) hr wv_RX6_351 rfl (Nat.le_of_ble_eq_true rfl) (gat_0 _ _) rfl rfl (Nat.le_of_ble_eq_true rfl) (Nat.le_of_ble_eq_true rfl) dX6_digest_74) (fun x8 h7 => ?_)
      refine g_lstore_n (pc := 77) (lv' := [(1, .long x8), (0, .ref (gad γ 0)), (3, .int a3)]) dX6_digest_77 rfl (by decide) rfl ?_
      refine g_iconst (pc := 78) (v := 0) dX6_digest_78 (by decide) ?_
      refine g_istore_n (pc := 79) (lv' := [(3, .int 0), (1, .long x8), (0, .ref (gad γ 0))]) dX6_digest_79 rfl (by decide) rfl ?_
      exact g_sub [2, 1, 0] rfl (glp_X6_digest_80 γ FU x8 0 h7)
    · refine g_lload_n (pc := 37) dX6_digest_37 rfl 1 rfl ?_
      refine g_aload_n (pc := 38) dX6_digest_38 rfl 0 rfl ?_
      refine g_iload_n (pc := 39) dX6_digest_39 rfl 2 rfl ?_
      refine g_cIX (pc := 40) (st := [.long a1]) (fun r hr => gRunV (As := [.int a3]) 0 (ge_X6_setting γ a3 h) hr wv_RX6_338 rfl (Nat.le_of_ble_eq_true rfl) (gat_0 _ _) rfl rfl (Nat.le_of_ble_eq_true rfl) (Nat.le_of_ble_eq_true rfl) dX6_digest_40) (fun x10 h9 => ?_) (fun E h0 hrun => g_none)
      refine g_i2l (pc := 43) dX6_digest_43 ?_
      refine g_cL (pc := 44) (st := []) (fun r hr => gRunS (As := [.long a1, .long (x10.toInt64)]) (ge_X6_mixed γ a1 (x10.toInt64) h9) hr wv_RX6_334 rfl (Nat.le_of_ble_eq_true rfl) rfl (Nat.le_of_ble_eq_true rfl) (Nat.le_of_ble_eq_true rfl) dX6_digest_44) (fun x12 h11 => ?_)
      refine g_lstore_n (pc := 47) (lv' := [(1, .long x12), (0, .ref (gad γ 0)), (3, .int a3)]) dX6_digest_47 rfl (by decide) rfl ?_
      refine g_iinc (pc := 48) (q := 2) (v := a3 + 1) (lv' := [(3, .int (a3 + 1)), (1, .long x12), (0, .ref (gad γ 0))]) dX6_digest_48 rfl rfl (by decide) rfl ?_
      refine g_goto (pc := 51) (tgt := 31) dX6_digest_51 (by decide) ?_
      exact g_sub [2, 1, 0] rfl (ih x12 (a3 + 1) h11)
set_option maxRecDepth 20000 in
theorem glp_X6_digest_6 (γ : Gv)  : ∀ (n : Nat) (a1 : Int64) (a3 : Int32) (h : Hst), G γ RX6 cX6_digest 4 (some .long) [] vL 9 0 6 [(0, .ref (gad γ 0)), (1, .long a1), (3, .int a3)] [] h (lp_X6_digest_6 n a1 a3 h) := by
  intro n
  induction n with
  | zero => intro a1 a3 h; exact g_none
  | succ n ih =>
    intro a1 a3 h
    rw [lp_X6_digest_6]
    refine g_iload_n (pc := 6) dX6_digest_6 rfl 2 rfl ?_
    refine g_bipush (pc := 7) (v := 12) dX6_digest_7 (by decide) ?_
    refine g_icmp_gt (pc := 9) (tgt := 29) dX6_digest_9 (by decide) ?_ ?_
    · refine g_iconst (pc := 29) (v := 0) dX6_digest_29 (by decide) ?_
      refine g_istore_n (pc := 30) (lv' := [(3, .int 0), (0, .ref (gad γ 0)), (1, .long a1)]) dX6_digest_30 rfl (by decide) rfl ?_
      exact g_sub [1, 2, 0] rfl (glp_X6_digest_31 γ FU a1 0 h)
    · refine g_lload_n (pc := 12) dX6_digest_12 rfl 1 rfl ?_
      refine g_aload_n (pc := 13) dX6_digest_13 rfl 0 rfl ?_
      refine g_iload_n (pc := 14) dX6_digest_14 rfl 2 rfl ?_
      refine g_cIX (pc := 15) (st := [.long a1]) (fun r hr => gRunV (As := [.int a3]) 0 (ge_X6_count γ a3 h) hr wv_RX6_331 rfl (Nat.le_of_ble_eq_true rfl) (gat_0 _ _) rfl rfl (Nat.le_of_ble_eq_true rfl) (Nat.le_of_ble_eq_true rfl) dX6_digest_15) (fun x2 h1 => ?_) (fun E h0 hrun => g_none)
      refine g_i2l (pc := 18) dX6_digest_18 ?_
      refine g_cL (pc := 19) (st := []) (fun r hr => gRunS (As := [.long a1, .long (x2.toInt64)]) (ge_X6_mixed γ a1 (x2.toInt64) h1) hr wv_RX6_334 rfl (Nat.le_of_ble_eq_true rfl) rfl (Nat.le_of_ble_eq_true rfl) (Nat.le_of_ble_eq_true rfl) dX6_digest_19) (fun x4 h3 => ?_)
      refine g_lstore_n (pc := 22) (lv' := [(1, .long x4), (0, .ref (gad γ 0)), (3, .int a3)]) dX6_digest_22 rfl (by decide) rfl ?_
      refine g_iinc (pc := 23) (q := 2) (v := a3 + 1) (lv' := [(3, .int (a3 + 1)), (1, .long x4), (0, .ref (gad γ 0))]) dX6_digest_23 rfl rfl (by decide) rfl ?_
      refine g_goto (pc := 26) (tgt := 6) dX6_digest_26 (by decide) ?_
      exact g_sub [2, 1, 0] rfl (ih x4 (a3 + 1) h3)
set_option maxRecDepth 20000 in
theorem ge_X6_digest (γ : Gv)  (h : Hst) : G γ RX6 cX6_digest 4 (some .long) [] vL 9 0 0 (lv_args 0 [.ref (gad γ 0)]) [] h (f_X6_digest h) := by
  show G γ RX6 cX6_digest 4 (some .long) [] vL 9 0 0 [(0, .ref (gad γ 0))] [] h (f_X6_digest h)
  unfold f_X6_digest
  refine g_ldc2 (pc := 0) wk_RX6_329 dX6_digest_0 ?_
  refine g_lstore_n (pc := 3) (lv' := [(1, .long 2393), (0, .ref (gad γ 0))]) dX6_digest_3 rfl (by decide) rfl ?_
  refine g_iconst (pc := 4) (v := 0) dX6_digest_4 (by decide) ?_
  refine g_istore_n (pc := 5) (lv' := [(3, .int 0), (1, .long 2393), (0, .ref (gad γ 0))]) dX6_digest_5 rfl (by decide) rfl ?_
  exact g_sub [2, 1, 0] rfl (glp_X6_digest_6 γ FU 2393 0 h)
