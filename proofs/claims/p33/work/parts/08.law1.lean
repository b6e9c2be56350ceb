def jb_L_cell_19 (xs : Nat → Int32) (Lx : Nat)  (s0 : Int32) (h : Hst) : Option (Int32 × Hst) :=
  (some (s0, h))
def f_L_cell (xs : Nat → Int32) (Lx : Nat) (p1 : Int32) (h : Hst) : Option (Int32 × Hst) :=
  (if (Int32.ofNat Lx) ≤ p1 then
    (jb_L_cell_19 xs Lx (739982445 * (p1 + 103)) h)
  else
    gck p1 Lx ((jb_L_cell_19 xs Lx (xs p1.toNatClampNeg) h)))
set_option maxRecDepth 20000 in
theorem gjb_L_cell_19 (γ : Gv)  (s0 : Int32) (h : Hst) : G γ RL cL_cell 2 (some .int) [] vI 0 0 19 [] [.int s0] h (jb_L_cell_19 (gxs γ) (gLx γ) s0 h) := by
  unfold jb_L_cell_19
  exact g_ireturn (pc := 19) (ty := .int) dL_cell_19 rfl rfl rfl
set_option maxRecDepth 20000 in
theorem ge_L_cell (γ : Gv) (p1 : Int32) (h : Hst) : G γ RL cL_cell 2 (some .int) [] vI 0 0 0 (lv_args 0 [.ref (gscr γ), .int p1]) [] h (f_L_cell (gxs γ) (gLx γ) p1 h) := by
  show G γ RL cL_cell 2 (some .int) [] vI 0 0 0 [(0, .ref (gscr γ)), (1, .int p1)] [] h (f_L_cell (gxs γ) (gLx γ) p1 h)
  unfold f_L_cell
  refine g_iload_n (pc := 0) dL_cell_0 rfl 1 rfl ?_
  refine g_aload_n (pc := 1) dL_cell_1 rfl 0 rfl ?_
  refine g_slen (pc := 2) dL_cell_2 ?_
  refine g_icmp_ge (pc := 3) (tgt := 12) dL_cell_3 (by decide) ?_ ?_
  · refine g_ldc (pc := 12) wk_RL_7 dL_cell_12 ?_
    refine g_iload_n (pc := 14) dL_cell_14 rfl 1 rfl ?_
    refine g_bipush (pc := 15) (v := 103) dL_cell_15 (by decide) ?_
    refine g_iadd (pc := 17) dL_cell_17 ?_
    refine g_imul (pc := 18) dL_cell_18 ?_
    exact g_sub [] rfl (gjb_L_cell_19 γ (739982445 * (p1 + 103)) h)
  · refine g_aload_n (pc := 6) dL_cell_6 rfl 0 rfl ?_
    refine g_iload_n (pc := 7) dL_cell_7 rfl 1 rfl ?_
    refine g_sld (pc := 8) dL_cell_8 ?_
    refine g_goto (pc := 9) (tgt := 19) dL_cell_9 (by decide) ?_
    exact g_sub [] rfl (gjb_L_cell_19 γ ((gxs γ) p1.toNatClampNeg) h)
def f_L_at (p0 : Int32) (p1 : Int32) (h : Hst) : Option (Int32 × Hst) :=
  gdz p1 ((some (((p0.toUInt32 >>> ((1 : Int32).toUInt32 &&& Int32.toUInt32 31)).toInt32) - ((p0.toUInt32 >>> ((1 : Int32).toUInt32 &&& Int32.toUInt32 31)).toInt32) / p1 * p1, h)))
set_option maxRecDepth 20000 in
theorem ge_L_at (γ : Gv) (p0 : Int32) (p1 : Int32) (h : Hst) : G γ RL cL_at 2 (some .int) [] vI 0 0 0 (lv_args 0 [.int p0, .int p1]) [] h (f_L_at p0 p1 h) := by
  show G γ RL cL_at 2 (some .int) [] vI 0 0 0 [(0, .int p0), (1, .int p1)] [] h (f_L_at p0 p1 h)
  unfold f_L_at
  refine g_iload_n (pc := 0) dL_at_0 rfl 0 rfl ?_
  refine g_iconst (pc := 1) (v := 1) dL_at_1 (by decide) ?_
  refine g_iushr (pc := 2) dL_at_2 ?_
  refine g_iload_n (pc := 3) dL_at_3 rfl 1 rfl ?_
  refine g_irem (pc := 4) dL_at_4 ?_
  exact g_ireturn (pc := 5) (ty := .int) dL_at_5 rfl rfl rfl
def lp_L_oil_4 : Nat → Int32 → Int32 → Int32 → Hst → Option (Int32 × Hst)
  | 0, _, _, _, _ => none
  | n + 1, a1, a2, a3, h =>
    (if 5 ≤ a3 then
      (some (a2, h))
    else
      gck (((7 * a1) + 2) + a3) 28 (gl (a2 + (h.1 24 (((7 * a1) + 2) + a3).toNatClampNeg)) fun x1 =>
      ((lp_L_oil_4 n) a1 x1 (a3 + 1) h)))
def f_L_oil (p1 : Int32) (h : Hst) : Option (Int32 × Hst) :=
  (lp_L_oil_4 FU p1 0 0 h)
set_option maxRecDepth 20000 in
theorem glp_L_oil_4 (γ : Gv)  : ∀ (n : Nat) (a1 : Int32) (a2 : Int32) (a3 : Int32) (h : Hst), G γ RL cL_oil 4 (some .int) [] vI 0 0 4 [(0, .ref (gad γ 24)), (1, .int a1), (2, .int a2), (3, .int a3)] [] h (lp_L_oil_4 n a1 a2 a3 h) := by
  intro n
  induction n with
  | zero => intro a1 a2 a3 h; exact g_none
  | succ n ih =>
    intro a1 a2 a3 h
    rw [lp_L_oil_4]
    refine g_iload_n (pc := 4) dL_oil_4 rfl 3 rfl ?_
    refine g_iconst (pc := 5) (v := 5) dL_oil_5 (by decide) ?_
    refine g_icmp_ge (pc := 6) (tgt := 28) dL_oil_6 (by decide) ?_ ?_
    · refine g_iload_n (pc := 28) dL_oil_28 rfl 2 rfl ?_
      exact g_ireturn (pc := 29) (ty := .int) dL_oil_29 rfl rfl rfl
    · refine g_iload_n (pc := 9) dL_oil_9 rfl 2 rfl ?_
      refine g_aload_n (pc := 10) dL_oil_10 rfl 0 rfl ?_
      refine g_bipush (pc := 11) (v := 7) dL_oil_11 (by decide) ?_
      refine g_iload_n (pc := 13) dL_oil_13 rfl 1 rfl ?_
      refine g_imul (pc := 14) dL_oil_14 ?_
      refine g_iconst (pc := 15) (v := 2) dL_oil_15 (by decide) ?_
      refine g_iadd (pc := 16) dL_oil_16 ?_
      refine g_iload_n (pc := 17) dL_oil_17 rfl 3 rfl ?_
      refine g_iadd (pc := 18) dL_oil_18 ?_
      refine g_iald (pc := 19) 24 (gat_24 _ _) dL_oil_19 ?_
      refine g_iadd (pc := 20) dL_oil_20 ?_
      refine g_nmi (fun x1 => ?_)
      refine g_istore_n (pc := 21) (lv' := [(2, .int x1), (0, .ref (gad γ 24)), (1, .int a1), (3, .int a3)]) dL_oil_21 rfl (by decide) rfl ?_
      refine g_iinc (pc := 22) (q := 3) (v := a3 + 1) (lv' := [(3, .int (a3 + 1)), (2, .int x1), (0, .ref (gad γ 24)), (1, .int a1)]) dL_oil_22 rfl rfl (by decide) rfl ?_
      refine g_goto (pc := 25) (tgt := 4) dL_oil_25 (by decide) ?_
      exact g_sub [2, 3, 1, 0] rfl (ih a1 x1 (a3 + 1) h)
set_option maxRecDepth 20000 in
theorem ge_L_oil (γ : Gv) (p1 : Int32) (h : Hst) : G γ RL cL_oil 4 (some .int) [] vI 0 0 0 (lv_args 0 [.ref (gad γ 24), .int p1]) [] h (f_L_oil p1 h) := by
  show G γ RL cL_oil 4 (some .int) [] vI 0 0 0 [(0, .ref (gad γ 24)), (1, .int p1)] [] h (f_L_oil p1 h)
  unfold f_L_oil
  refine g_iconst (pc := 0) (v := 0) dL_oil_0 (by decide) ?_
  refine g_istore_n (pc := 1) (lv' := [(2, .int 0), (0, .ref (gad γ 24)), (1, .int p1)]) dL_oil_1 rfl (by decide) rfl ?_
  refine g_iconst (pc := 2) (v := 0) dL_oil_2 (by decide) ?_
  refine g_istore_n (pc := 3) (lv' := [(3, .int 0), (2, .int 0), (0, .ref (gad γ 24)), (1, .int p1)]) dL_oil_3 rfl (by decide) rfl ?_
  exact g_sub [2, 3, 1, 0] rfl (glp_L_oil_4 γ FU p1 0 0 h)
def jb_L_shares_127 (R57 : Int32 → Int32 → Int32 → Int32 → Int32 → Hst → Option (Hst)) (R68 : Int32 → Int32 → Int32 → Int32 → Int32 → Int32 → Int32 → Hst → Option (Hst)) (a1 : Int32) (a2 : Int32) (a4 : Int32) (a5 : Int32) (a6 : Int32) (a7 : Int32) (a8 : Int32) (h : Hst) : Option (Hst) :=
  (R68 a1 a2 a4 a5 a6 a7 (a8 + (-1)) h)
def jb_L_shares_123 (R57 : Int32 → Int32 → Int32 → Int32 → Int32 → Hst → Option (Hst)) (R68 : Int32 → Int32 → Int32 → Int32 → Int32 → Int32 → Int32 → Hst → Option (Hst)) (a1 : Int32) (a2 : Int32) (a4 : Int32) (a5 : Int32) (a6 : Int32) (a8 : Int32) (h : Hst) : Option (Hst) :=
  (jb_L_shares_127 R57 R68 a1 a2 a4 a5 a6 a8 a8 h)
def lp_L_shares_68 (R57 : Int32 → Int32 → Int32 → Int32 → Int32 → Hst → Option (Hst)) : Nat → Int32 → Int32 → Int32 → Int32 → Int32 → Int32 → Int32 → Hst → Option (Hst)
  | 0, _, _, _, _, _, _, _, _ => none
  | n + 1, a1, a2, a4, a5, a6, a7, a8, h =>
    (if a8 < 0 then
      gl (a6 ||| ((1 : Int32) <<< (a7 &&& 31))) fun x1 =>
      gck a7 5 (gck a7 5 (gl (hst h 26 a7.toNatClampNeg ((h.1 26 a7.toNatClampNeg) + 1)) fun h2 =>
      (R57 a1 a2 a4 (a5 + (-1)) x1 h2)))
    else
      (if ((a6 >>> (a8 &&& 31)) &&& 1) = 0 then
        (if a7 < 0 then
          (jb_L_shares_123 R57 (lp_L_shares_68 R57 n) a1 a2 a4 a5 a6 a8 h)
        else
          gck (((7 * a1) + 2) + a8) 28 (gdz a4 (gck (((7 * a1) + 2) + a7) 28 (gdz a4 ((if (((h.1 24 (((7 * a1) + 2) + a8).toNatClampNeg) * a2) - ((h.1 24 (((7 * a1) + 2) + a8).toNatClampNeg) * a2) / a4 * a4) < (((h.1 24 (((7 * a1) + 2) + a7).toNatClampNeg) * a2) - ((h.1 24 (((7 * a1) + 2) + a7).toNatClampNeg) * a2) / a4 * a4) then
            (jb_L_shares_127 R57 (lp_L_shares_68 R57 n) a1 a2 a4 a5 a6 a7 a8 h)
          else
            (jb_L_shares_123 R57 (lp_L_shares_68 R57 n) a1 a2 a4 a5 a6 a8 h)))))))
      else
        (jb_L_shares_127 R57 (lp_L_shares_68 R57 n) a1 a2 a4 a5 a6 a7 a8 h)))
def lp_L_shares_57 : Nat → Int32 → Int32 → Int32 → Int32 → Int32 → Hst → Option (Hst)
  | 0, _, _, _, _, _, _ => none
  | n + 1, a1, a2, a4, a5, a6, h =>
    (if a5 ≤ 0 then
      (some h)
    else
      (lp_L_shares_68 (lp_L_shares_57 n) FU a1 a2 a4 a5 a6 (-1) 4 h))
def lp_L_shares_13 : Nat → Int32 → Int32 → Int32 → Int32 → Int32 → Hst → Option (Hst)
  | 0, _, _, _, _, _, _ => none
  | n + 1, a1, a2, a4, a5, a6, h =>
    (if 5 ≤ a6 then
      (lp_L_shares_57 FU a1 a2 a4 a5 0 h)
    else
      gck (((7 * a1) + 2) + a6) 28 (gdz a4 (gck a6 5 (gl (hst h 26 a6.toNatClampNeg (((h.1 24 (((7 * a1) + 2) + a6).toNatClampNeg) * a2) / a4)) fun h1 =>
      gck a6 5 (gl (a5 - (h1.1 26 a6.toNatClampNeg)) fun x2 =>
      ((lp_L_shares_13 n) a1 a2 a4 x2 (a6 + 1) h1))))))
def f_L_shares (p1 : Int32) (p2 : Int32) (h : Hst) : Option (Hst) :=
  gb (f_L_oil p1 h) fun x2 h1 =>
  (lp_L_shares_13 FU p1 p2 x2 p2 0 h1)
set_option maxRecDepth 20000 in
theorem gjb_L_shares_127 (γ : Gv) (R57 : Int32 → Int32 → Int32 → Int32 → Int32 → Hst → Option (Hst)) (R68 : Int32 → Int32 → Int32 → Int32 → Int32 → Int32 → Int32 → Hst → Option (Hst)) (hR57 : ∀ (a1 : Int32) (a2 : Int32) (a4 : Int32) (a5 : Int32) (a6 : Int32) (h : Hst), G γ RL cL_shares 9 none [] vV 1 0 57 [(0, .ref (gad γ 24)), (1, .int a1), (2, .int a2), (3, .ref (gad γ 26)), (4, .int a4), (5, .int a5), (6, .int a6)] [] h (R57 a1 a2 a4 a5 a6 h)) (hR68 : ∀ (a1 : Int32) (a2 : Int32) (a4 : Int32) (a5 : Int32) (a6 : Int32) (a7 : Int32) (a8 : Int32) (h : Hst), G γ RL cL_shares 9 none [] vV 1 0 68 [(0, .ref (gad γ 24)), (1, .int a1), (2, .int a2), (3, .ref (gad γ 26)), (4, .int a4), (5, .int a5), (6, .int a6), (7, .int a7), (8, .int a8)] [] h (R68 a1 a2 a4 a5 a6 a7 a8 h)) (a1 : Int32) (a2 : Int32) (a4 : Int32) (a5 : Int32) (a6 : Int32) (a7 : Int32) (a8 : Int32) (h : Hst) : G γ RL cL_shares 9 none [] vV 1 0 127 [(0, .ref (gad γ 24)), (1, .int a1), (2, .int a2), (3, .ref (gad γ 26)), (4, .int a4), (5, .int a5), (6, .int a6), (7, .int a7), (8, .int a8)] [] h (jb_L_shares_127 R57 R68 a1 a2 a4 a5 a6 a7 a8 h) := by
  unfold jb_L_shares_127
  refine g_iinc (pc := 127) (q := 8) (v := a8 + (-1)) (lv' := [(8, .int (a8 + (-1))), (0, .ref (gad γ 24)), (1, .int a1), (2, .int a2), (3, .ref (gad γ 26)), (4, .int a4), (5, .int a5), (6, .int a6), (7, .int a7)]) dL_shares_127 rfl rfl (by decide) rfl ?_
  refine g_goto (pc := 130) (tgt := 68) dL_shares_130 (by decide) ?_
  exact g_sub [1, 2, 3, 4, 5, 6, 7, 8, 0] rfl (hR68 a1 a2 a4 a5 a6 a7 (a8 + (-1)) h)
set_option maxRecDepth 20000 in
theorem gjb_L_shares_123 (γ : Gv) (R57 : Int32 → Int32 → Int32 → Int32 → Int32 → Hst → Option (Hst)) (R68 : Int32 → Int32 → Int32 → Int32 → Int32 → Int32 → Int32 → Hst → Option (Hst)) (hR57 : ∀ (a1 : Int32) (a2 : Int32) (a4 : Int32) (a5 : Int32) (a6 : Int32) (h : Hst), G γ RL cL_shares 9 none [] vV 1 0 57 [(0, .ref (gad γ 24)), (1, .int a1), (2, .int a2), (3, .ref (gad γ 26)), (4, .int a4), (5, .int a5), (6, .int a6)] [] h (R57 a1 a2 a4 a5 a6 h)) (hR68 : ∀ (a1 : Int32) (a2 : Int32) (a4 : Int32) (a5 : Int32) (a6 : Int32) (a7 : Int32) (a8 : Int32) (h : Hst), G γ RL cL_shares 9 none [] vV 1 0 68 [(0, .ref (gad γ 24)), (1, .int a1), (2, .int a2), (3, .ref (gad γ 26)), (4, .int a4), (5, .int a5), (6, .int a6), (7, .int a7), (8, .int a8)] [] h (R68 a1 a2 a4 a5 a6 a7 a8 h)) (a1 : Int32) (a2 : Int32) (a4 : Int32) (a5 : Int32) (a6 : Int32) (a8 : Int32) (h : Hst) : G γ RL cL_shares 9 none [] vV 1 0 123 [(0, .ref (gad γ 24)), (1, .int a1), (2, .int a2), (3, .ref (gad γ 26)), (4, .int a4), (5, .int a5), (6, .int a6), (8, .int a8)] [] h (jb_L_shares_123 R57 R68 a1 a2 a4 a5 a6 a8 h) := by
  unfold jb_L_shares_123
  refine g_iload (pc := 123) dL_shares_123 7 rfl ?_
  refine g_istore (pc := 125) (lv' := [(7, .int a8), (0, .ref (gad γ 24)), (1, .int a1), (2, .int a2), (3, .ref (gad γ 26)), (4, .int a4), (5, .int a5), (6, .int a6), (8, .int a8)]) dL_shares_125 (by decide) rfl ?_
  exact g_sub [1, 2, 3, 4, 5, 6, 7, 0, 8] rfl (gjb_L_shares_127 γ R57 R68 hR57 hR68 a1 a2 a4 a5 a6 a8 a8 h)
set_option maxRecDepth 20000 in
theorem glp_L_shares_68 (γ : Gv) (R57 : Int32 → Int32 → Int32 → Int32 → Int32 → Hst → Option (Hst)) (hR57 : ∀ (a1 : Int32) (a2 : Int32) (a4 : Int32) (a5 : Int32) (a6 : Int32) (h : Hst), G γ RL cL_shares 9 none [] vV 1 0 57 [(0, .ref (gad γ 24)), (1, .int a1), (2, .int a2), (3, .ref (gad γ 26)), (4, .int a4), (5, .int a5), (6, .int a6)] [] h (R57 a1 a2 a4 a5 a6 h)) : ∀ (n : Nat) (a1 : Int32) (a2 : Int32) (a4 : Int32) (a5 : Int32) (a6 : Int32) (a7 : Int32) (a8 : Int32) (h : Hst), G γ RL cL_shares 9 none [] vV 1 0 68 [(0, .ref (gad γ 24)), (1, .int a1), (2, .int a2), (3, .ref (gad γ 26)), (4, .int a4), (5, .int a5), (6, .int a6), (7, .int a7), (8, .int a8)] [] h (lp_L_shares_68 R57 n a1 a2 a4 a5 a6 a7 a8 h) := by
  intro n
  induction n with
  | zero => intro a1 a2 a4 a5 a6 a7 a8 h; exact g_none
  | succ n ih =>
    intro a1 a2 a4 a5 a6 a7 a8 h
    rw [lp_L_shares_68]
    refine g_iload (pc := 68) dL_shares_68 8 rfl ?_
    refine g_if_lt (pc := 70) (tgt := 133) dL_shares_70 (by decide) ?_ ?_
    · refine g_iload (pc := 133) dL_shares_133 6 rfl ?_
      refine g_iconst (pc := 135) (v := 1) dL_shares_135 (by decide) ?_
      refine g_iload (pc := 136) dL_shares_136 7 rfl ?_
      refine g_ishl (pc := 138) dL_shares_138 ?_
      refine g_ior (pc := 139) dL_shares_139 ?_
      refine g_nmi (fun x1 => ?_)
      refine g_istore (pc := 140) (lv' := [(6, .int x1), (0, .ref (gad γ 24)), (1, .int a1), (2, .int a2), (3, .ref (gad γ 26)), (4, .int a4), (5, .int a5), (7, .int a7), (8, .int a8)]) dL_shares_140 (by decide) rfl ?_
      refine g_aload_n (pc := 142) dL_shares_142 rfl 4 rfl ?_
      refine g_iload (pc := 143) dL_shares_143 7 rfl ?_
      refine g_dup2 (pc := 145) dL_shares_145 rfl rfl ?_
      refine g_iald (pc := 146) 26 (gat_26 _ _) dL_shares_146 ?_
      refine g_iconst (pc := 147) (v := 1) dL_shares_147 (by decide) ?_
      refine g_iadd (pc := 148) dL_shares_148 ?_
      refine g_iast (pc := 149) 26 (gat_26 _ _) (gset_26 _ _ _) dL_shares_149 ?_
      refine g_nmh (fun h2 => ?_)
      refine g_iinc (pc := 150) (q := 6) (v := a5 + (-1)) (lv' := [(5, .int (a5 + (-1))), (6, .int x1), (0, .ref (gad γ 24)), (1, .int a1), (2, .int a2), (3, .ref (gad γ 26)), (4, .int a4), (7, .int a7), (8, .int a8)]) dL_shares_150 rfl rfl (by decide) rfl ?_
      refine g_goto (pc := 153) (tgt := 57) dL_shares_153 (by decide) ?_
      exact g_sub [2, 3, 4, 5, 6, 0, 1] rfl (hR57 a1 a2 a4 (a5 + (-1)) x1 h2)
    · refine g_iload (pc := 73) dL_shares_73 6 rfl ?_
      refine g_iload (pc := 75) dL_shares_75 8 rfl ?_
      refine g_ishr (pc := 77) dL_shares_77 ?_
      refine g_iconst (pc := 78) (v := 1) dL_shares_78 (by decide) ?_
      refine g_iand (pc := 79) dL_shares_79 ?_
      refine g_if_ne (pc := 80) (tgt := 127) dL_shares_80 (by decide) ?_ ?_
      · exact gjb_L_shares_127 γ R57 (lp_L_shares_68 R57 n) hR57 ih a1 a2 a4 a5 a6 a7 a8 h
      · refine g_iload (pc := 83) dL_shares_83 7 rfl ?_
        refine g_if_lt (pc := 85) (tgt := 123) dL_shares_85 (by decide) ?_ ?_
        · exact g_sub [0, 1, 2, 3, 4, 5, 6, 8] rfl (gjb_L_shares_123 γ R57 (lp_L_shares_68 R57 n) hR57 ih a1 a2 a4 a5 a6 a8 h)
        · refine g_aload_n (pc := 88) dL_shares_88 rfl 0 rfl ?_
          refine g_bipush (pc := 89) (v := 7) dL_shares_89 (by decide) ?_
          refine g_iload_n (pc := 91) dL_shares_91 rfl 1 rfl ?_
          refine g_imul (pc := 92) dL_shares_92 ?_
          refine g_iconst (pc := 93) (v := 2) dL_shares_93 (by decide) ?_
          refine g_iadd (pc := 94) dL_shares_94 ?_
          refine g_iload (pc := 95) dL_shares_95 8 rfl ?_
          refine g_iadd (pc := 97) dL_shares_97 ?_
          refine g_iald (pc := 98) 24 (gat_24 _ _) dL_shares_98 ?_
          refine g_iload_n (pc := 99) dL_shares_99 rfl 2 rfl ?_
          refine g_imul (pc := 100) dL_shares_100 ?_
          refine g_iload (pc := 101) dL_shares_101 4 rfl ?_
          refine g_irem (pc := 103) dL_shares_103 ?_
          refine g_aload_n (pc := 104) dL_shares_104 rfl 0 rfl ?_
          refine g_bipush (pc := 105) (v := 7) dL_shares_105 (by decide) ?_
          refine g_iload_n (pc := 107) dL_shares_107 rfl 1 rfl ?_
          refine g_imul (pc := 108) dL_shares_108 ?_
          refine g_iconst (pc := 109) (v := 2) dL_shares_109 (by decide) ?_
          refine g_iadd (pc := 110) dL_shares_110 ?_
          refine g_iload (pc := 111) dL_shares_111 7 rfl ?_
          refine g_iadd (pc := 113) dL_shares_113 ?_
          refine g_iald (pc := 114) 24 (gat_24 _ _) dL_shares_114 ?_
          refine g_iload_n (pc := 115) dL_shares_115 rfl 2 rfl ?_
          refine g_imul (pc := 116) dL_shares_116 ?_
          refine g_iload (pc := 117) dL_shares_117 4 rfl ?_
          refine g_irem (pc := 119) dL_shares_119 ?_
          refine g_icmp_lt (pc := 120) (tgt := 127) dL_shares_120 (by decide) ?_ ?_
          · exact gjb_L_shares_127 γ R57 (lp_L_shares_68 R57 n) hR57 ih a1 a2 a4 a5 a6 a7 a8 h
          · exact g_sub [0, 1, 2, 3, 4, 5, 6, 8] rfl (gjb_L_shares_123 γ R57 (lp_L_shares_68 R57 n) hR57 ih a1 a2 a4 a5 a6 a8 h)
set_option maxRecDepth 20000 in
theorem glp_L_shares_57 (γ : Gv)  : ∀ (n : Nat) (a1 : Int32) (a2 : Int32) (a4 : Int32) (a5 : Int32) (a6 : Int32) (h : Hst), G γ RL cL_shares 9 none [] vV 1 0 57 [(0, .ref (gad γ 24)), (1, .int a1), (2, .int a2), (3, .ref (gad γ 26)), (4, .int a4), (5, .int a5), (6, .int a6)] [] h (lp_L_shares_57 n a1 a2 a4 a5 a6 h) := by
  intro n
  induction n with
  | zero => intro a1 a2 a4 a5 a6 h; exact g_none
  | succ n ih =>
    intro a1 a2 a4 a5 a6 h
    rw [lp_L_shares_57]
    refine g_iload (pc := 57) dL_shares_57 5 rfl ?_
    refine g_if_le (pc := 59) (tgt := 156) dL_shares_59 (by decide) ?_ ?_
    · exact g_return (pc := 156) dL_shares_156 rfl rfl
    · refine g_iconst (pc := 62) (v := (-1)) dL_shares_62 (by decide) ?_
      refine g_istore (pc := 63) (lv' := [(7, .int (-1)), (0, .ref (gad γ 24)), (1, .int a1), (2, .int a2), (3, .ref (gad γ 26)), (4, .int a4), (5, .int a5), (6, .int a6)]) dL_shares_63 (by decide) rfl ?_
      refine g_iconst (pc := 65) (v := 4) dL_shares_65 (by decide) ?_
      refine g_istore (pc := 66) (lv' := [(8, .int 4), (7, .int (-1)), (0, .ref (gad γ 24)), (1, .int a1), (2, .int a2), (3, .ref (gad γ 26)), (4, .int a4), (5, .int a5), (6, .int a6)]) dL_shares_66 (by decide) rfl ?_
      exact g_sub [2, 3, 4, 5, 6, 7, 8, 1, 0] rfl (glp_L_shares_68 γ (lp_L_shares_57 n) ih FU a1 a2 a4 a5 a6 (-1) 4 h)
set_option maxRecDepth 20000 in
theorem glp_L_shares_13 (γ : Gv)  : ∀ (n : Nat) (a1 : Int32) (a2 : Int32) (a4 : Int32) (a5 : Int32) (a6 : Int32) (h : Hst), G γ RL cL_shares 9 none [] vV 1 0 13 [(0, .ref (gad γ 24)), (1, .int a1), (2, .int a2), (3, .ref (gad γ 26)), (4, .int a4), (5, .int a5), (6, .int a6)] [] h (lp_L_shares_13 n a1 a2 a4 a5 a6 h) := by
  intro n
  induction n with
  | zero => intro a1 a2 a4 a5 a6 h; exact g_none
  | succ n ih =>
    intro a1 a2 a4 a5 a6 h
    rw [lp_L_shares_13]
    refine g_iload (pc := 13) dL_shares_13 6 rfl ?_
    refine g_iconst (pc := 15) (v := 5) dL_shares_15 (by decide) ?_
    refine g_icmp_ge (pc := 16) (tgt := 54) dL_shares_16 (by decide) ?_ ?_
    · refine g_iconst (pc := 54) (v := 0) dL_shares_54 (by decide) ?_
      refine g_istore (pc := 55) (lv' := [(6, .int 0), (0, .ref (gad γ 24)), (1, .int a1), (2, .int a2), (3, .ref (gad γ 26)), (4, .int a4), (5, .int a5)]) dL_shares_55 (by decide) rfl ?_
      exact g_sub [1, 2, 3, 4, 5, 6, 0] rfl (glp_L_shares_57 γ FU a1 a2 a4 a5 0 h)
    · refine g_aload_n (pc := 19) dL_shares_19 rfl 3 rfl ?_
      refine g_iload (pc := 20) dL_shares_20 6 rfl ?_
      refine g_aload_n (pc := 22) dL_shares_22 rfl 0 rfl ?_
      refine g_bipush (pc := 23) (v := 7) dL_shares_23 (by decide) ?_
      refine g_iload_n (pc := 25) dL_shares_25 rfl 1 rfl ?_
      refine g_imul (pc := 26) dL_shares_26 ?_
      refine g_iconst (pc := 27) (v := 2) dL_shares_27 (by decide) ?_
      refine g_iadd (pc := 28) dL_shares_28 ?_
      refine g_iload (pc := 29) dL_shares_29 6 rfl ?_
      refine g_iadd (pc := 31) dL_shares_31 ?_
      refine g_iald (pc := 32) 24 (gat_24 _ _) dL_shares_32 ?_
      refine g_iload_n (pc := 33) dL_shares_33 rfl 2 rfl ?_
      refine g_imul (pc := 34) dL_shares_34 ?_
      refine g_iload (pc := 35) dL_shares_35 4 rfl ?_
      refine g_idiv (pc := 37) dL_shares_37 ?_
      refine g_iast (pc := 38) 26 (gat_26 _ _) (gset_26 _ _ _) dL_shares_38 ?_
      refine g_nmh (fun h1 => ?_)
      refine g_iload (pc := 39) dL_shares_39 5 rfl ?_
      refine g_aload_n (pc := 41) dL_shares_41 rfl 3 rfl ?_
      refine g_iload (pc := 42) dL_shares_42 6 rfl ?_
      refine g_iald (pc := 44) 26 (gat_26 _ _) dL_shares_44 ?_
      refine g_isub (pc := 45) dL_shares_45 ?_
      refine g_nmi (fun x2 => ?_)
      refine g_istore (pc := 46) (lv' := [(5, .int x2), (0, .ref (gad γ 24)), (1, .int a1), (2, .int a2), (3, .ref (gad γ 26)), (4, .int a4), (6, .int a6)]) dL_shares_46 (by decide) rfl ?_
      refine g_iinc (pc := 48) (q := 6) (v := a6 + 1) (lv' := [(6, .int (a6 + 1)), (5, .int x2), (0, .ref (gad γ 24)), (1, .int a1), (2, .int a2), (3, .ref (gad γ 26)), (4, .int a4)]) dL_shares_48 rfl rfl (by decide) rfl ?_
      refine g_goto (pc := 51) (tgt := 13) dL_shares_51 (by decide) ?_
      exact g_sub [2, 3, 4, 5, 6, 1, 0] rfl (ih a1 a2 a4 x2 (a6 + 1) h1)
set_option maxRecDepth 20000 in
theorem ge_L_shares (γ : Gv) (p1 : Int32) (p2 : Int32) (h : Hst) : G γ RL cL_shares 9 none [] vV 1 0 0 (lv_args 0 [.ref (gad γ 24), .int p1, .int p2, .ref (gad γ 26)]) [] h (f_L_shares p1 p2 h) := by
  show G γ RL cL_shares 9 none [] vV 1 0 0 [(0, .ref (gad γ 24)), (1, .int p1), (2, .int p2), (3, .ref (gad γ 26))] [] h (f_L_shares p1 p2 h)
  unfold f_L_shares
  refine g_aload_n (pc := 0) dL_shares_0 rfl 0 rfl ?_
  refine g_iload_n (pc := 1) dL_shares_1 rfl 1 rfl ?_
  refine g_cI (pc := 2) (st := []) (fun r hr => gRunS (As := [.ref (gad γ 24), .int p1]) (ge_L_oil γ p1 h) hr wv_RL_8 rfl (Nat.le_of_ble_eq_true rfl) rfl (Nat.le_of_ble_eq_true rfl) (Nat.le_of_ble_eq_true rfl) dL_shares_2) (fun x2 h1 => ?_)
  refine g_istore (pc := 5) (lv' := [(4, .int x2), (0, .ref (gad γ 24)), (1, .int p1), (2, .int p2), (3, .ref (gad γ 26))]) dL_shares_5 (by decide) rfl ?_
  refine g_iload_n (pc := 7) dL_shares_7 rfl 3 rfl ?_
  refine g_istore (pc := 8) (lv' := [(5, .int p2), (4, .int x2), (0, .ref (gad γ 24)), (1, .int p1), (2, .int p2), (3, .ref (gad γ 26))]) dL_shares_8 (by decide) rfl ?_
  refine g_iconst (pc := 10) (v := 0) dL_shares_10 (by decide) ?_
  refine g_istore (pc := 11) (lv' := [(6, .int 0), (5, .int p2), (4, .int x2), (0, .ref (gad γ 24)), (1, .int p1), (2, .int p2), (3, .ref (gad γ 26))]) dL_shares_11 (by decide) rfl ?_
  exact g_sub [3, 4, 5, 6, 2, 1, 0] rfl (glp_L_shares_13 γ FU p1 p2 x2 p2 0 h1)
def jb_L_pour_36  (a1 : Int32) (a2 : Int32) (a3 : Int32) (h : Hst) : Option (Hst) :=
  gl (((7 * a1) + 2) + a2) fun x1 =>
  gck x1 28 (gck x1 28 (gl (hst h 24 x1.toNatClampNeg ((h.1 24 x1.toNatClampNeg) + a3)) fun h2 =>
  (some h2)))
def jb_L_pour_26  (a1 : Int32) (a2 : Int32) (a3 : Int32) (a4 : Int32) (h : Hst) : Option (Hst) :=
  gck ((7 * a1) + 1) 28 (gl (hst h 24 ((7 * a1) + 1).toNatClampNeg a4) fun h1 =>
  (jb_L_pour_36 a1 a2 a3 h1))
def f_L_pour (p1 : Int32) (p2 : Int32) (p3 : Int32) (p4 : Int32) (h : Hst) : Option (Hst) :=
  (if p3 = 0 then
    (some h)
  else
    gb (f_L_oil p1 h) fun x2 h1 =>
    (if x2 = 0 then
      (jb_L_pour_26 p1 p2 p3 p4 h1)
    else
      gck ((7 * p1) + 1) 28 ((if p4 ≤ (h1.1 24 ((7 * p1) + 1).toNatClampNeg) then
        (jb_L_pour_36 p1 p2 p3 h1)
      else
        (jb_L_pour_26 p1 p2 p3 p4 h1)))))
set_option maxRecDepth 20000 in
theorem gjb_L_pour_36 (γ : Gv)  (a1 : Int32) (a2 : Int32) (a3 : Int32) (h : Hst) : G γ RL cL_pour 5 none [] vV 1 0 36 [(0, .ref (gad γ 24)), (1, .int a1), (2, .int a2), (3, .int a3)] [] h (jb_L_pour_36 a1 a2 a3 h) := by
  unfold jb_L_pour_36
  refine g_aload_n (pc := 36) dL_pour_36 rfl 0 rfl ?_
  refine g_bipush (pc := 37) (v := 7) dL_pour_37 (by decide) ?_
  refine g_iload_n (pc := 39) dL_pour_39 rfl 1 rfl ?_
  refine g_imul (pc := 40) dL_pour_40 ?_
  refine g_iconst (pc := 41) (v := 2) dL_pour_41 (by decide) ?_
  refine g_iadd (pc := 42) dL_pour_42 ?_
  refine g_iload_n (pc := 43) dL_pour_43 rfl 2 rfl ?_
  refine g_iadd (pc := 44) dL_pour_44 ?_
  refine g_nmi (fun x1 => ?_)
  refine g_dup2 (pc := 45) dL_pour_45 rfl rfl ?_
  refine g_iald (pc := 46) 24 (gat_24 _ _) dL_pour_46 ?_
  refine g_iload_n (pc := 47) dL_pour_47 rfl 3 rfl ?_
  refine g_iadd (pc := 48) dL_pour_48 ?_
  refine g_iast (pc := 49) 24 (gat_24 _ _) (gset_24 _ _ _) dL_pour_49 ?_
  refine g_nmh (fun h2 => ?_)
  exact g_return (pc := 50) dL_pour_50 rfl rfl
set_option maxRecDepth 20000 in
theorem gjb_L_pour_26 (γ : Gv)  (a1 : Int32) (a2 : Int32) (a3 : Int32) (a4 : Int32) (h : Hst) : G γ RL cL_pour 5 none [] vV 1 0 26 [(0, .ref (gad γ 24)), (1, .int a1), (2, .int a2), (3, .int a3), (4, .int a4)] [] h (jb_L_pour_26 a1 a2 a3 a4 h) := by
  unfold jb_L_pour_26
  refine g_aload_n (pc := 26) dL_pour_26 rfl 0 rfl ?_
  refine g_bipush (pc := 27) (v := 7) dL_pour_27 (by decide) ?_
  refine g_iload_n (pc := 29) dL_pour_29 rfl 1 rfl ?_
  refine g_imul (pc := 30) dL_pour_30 ?_
  refine g_iconst (pc := 31) (v := 1) dL_pour_31 (by decide) ?_
  refine g_iadd (pc := 32) dL_pour_32 ?_
  refine g_iload (pc := 33) dL_pour_33 4 rfl ?_
  refine g_iast (pc := 35) 24 (gat_24 _ _) (gset_24 _ _ _) dL_pour_35 ?_
  refine g_nmh (fun h1 => ?_)
  exact g_sub [0, 1, 2, 3] rfl (gjb_L_pour_36 γ a1 a2 a3 h1)
set_option maxRecDepth 20000 in
theorem ge_L_pour (γ : Gv) (p1 : Int32) (p2 : Int32) (p3 : Int32) (p4 : Int32) (h : Hst) : G γ RL cL_pour 5 none [] vV 1 0 0 (lv_args 0 [.ref (gad γ 24), .int p1, .int p2, .int p3, .int p4]) [] h (f_L_pour p1 p2 p3 p4 h) := by
  show G γ RL cL_pour 5 none [] vV 1 0 0 [(0, .ref (gad γ 24)), (1, .int p1), (2, .int p2), (3, .int p3), (4, .int p4)] [] h (f_L_pour p1 p2 p3 p4 h)
  unfold f_L_pour
  refine g_iload_n (pc := 0) dL_pour_0 rfl 3 rfl ?_
  refine g_if_ne (pc := 1) (tgt := 5) dL_pour_1 (by decide) ?_ ?_
  · refine g_aload_n (pc := 5) dL_pour_5 rfl 0 rfl ?_
    refine g_iload_n (pc := 6) dL_pour_6 rfl 1 rfl ?_
    refine g_cI (pc := 7) (st := []) (fun r hr => gRunS (As := [.ref (gad γ 24), .int p1]) (ge_L_oil γ p1 h) hr wv_RL_8 rfl (Nat.le_of_ble_eq_true rfl) rfl (Nat.le_of_ble_eq_true rfl) (Nat.le_of_ble_eq_true rfl) dL_pour_7) (fun x2 h1 => ?_)
    refine g_if_eq (pc := 10) (tgt := 26) dL_pour_10 (by decide) ?_ ?_
    · exact gjb_L_pour_26 γ p1 p2 p3 p4 h1
    · refine g_aload_n (pc := 13) dL_pour_13 rfl 0 rfl ?_
      refine g_bipush (pc := 14) (v := 7) dL_pour_14 (by decide) ?_
      refine g_iload_n (pc := 16) dL_pour_16 rfl 1 rfl ?_
      refine g_imul (pc := 17) dL_pour_17 ?_
      refine g_iconst (pc := 18) (v := 1) dL_pour_18 (by decide) ?_
      refine g_iadd (pc := 19) dL_pour_19 ?_
      refine g_iald (pc := 20) 24 (gat_24 _ _) dL_pour_20 ?_
      refine g_iload (pc := 21) dL_pour_21 4 rfl ?_
      refine g_icmp_ge (pc := 23) (tgt := 36) dL_pour_23 (by decide) ?_ ?_
      · exact g_sub [0, 1, 2, 3] rfl (gjb_L_pour_36 γ p1 p2 p3 h1)
      · exact gjb_L_pour_26 γ p1 p2 p3 p4 h1
  · exact g_return (pc := 4) dL_pour_4 rfl rfl
def jb_L_grade_21  (s0 : Int32) (h : Hst) : Option (Int32 × Hst) :=
  (some (s0, h))
def f_L_grade (p0 : Int32) (h : Hst) : Option (Int32 × Hst) :=
  (if p0 ≤ 20 then
    (if p0 ≤ 8 then
      (jb_L_grade_21 0 h)
    else
      (jb_L_grade_21 1 h))
  else
    (jb_L_grade_21 2 h))
set_option maxRecDepth 20000 in
theorem gjb_L_grade_21 (γ : Gv)  (s0 : Int32) (h : Hst) : G γ RL cL_grade 1 (some .int) [] vI 0 0 21 [] [.int s0] h (jb_L_grade_21 s0 h) := by
  unfold jb_L_grade_21
  exact g_ireturn (pc := 21) (ty := .int) dL_grade_21 rfl rfl rfl
set_option maxRecDepth 20000 in
theorem ge_L_grade (γ : Gv) (p0 : Int32) (h : Hst) : G γ RL cL_grade 1 (some .int) [] vI 0 0 0 (lv_args 0 [.int p0]) [] h (f_L_grade p0 h) := by
  show G γ RL cL_grade 1 (some .int) [] vI 0 0 0 [(0, .int p0)] [] h (f_L_grade p0 h)
  unfold f_L_grade
  refine g_iload_n (pc := 0) dL_grade_0 rfl 0 rfl ?_
  refine g_bipush (pc := 1) (v := 20) dL_grade_1 (by decide) ?_
  refine g_icmp_le (pc := 3) (tgt := 10) dL_grade_3 (by decide) ?_ ?_
  · refine g_iload_n (pc := 10) dL_grade_10 rfl 0 rfl ?_
    refine g_bipush (pc := 11) (v := 8) dL_grade_11 (by decide) ?_
    refine g_icmp_le (pc := 13) (tgt := 20) dL_grade_13 (by decide) ?_ ?_
    · refine g_iconst (pc := 20) (v := 0) dL_grade_20 (by decide) ?_
      exact g_sub [] rfl (gjb_L_grade_21 γ 0 h)
    · refine g_iconst (pc := 16) (v := 1) dL_grade_16 (by decide) ?_
      refine g_goto (pc := 17) (tgt := 21) dL_grade_17 (by decide) ?_
      exact g_sub [] rfl (gjb_L_grade_21 γ 1 h)
  · refine g_iconst (pc := 6) (v := 2) dL_grade_6 (by decide) ?_
    refine g_goto (pc := 7) (tgt := 21) dL_grade_7 (by decide) ?_
    exact g_sub [] rfl (gjb_L_grade_21 γ 2 h)
def lp_L_next_58 : Nat → Int32 → Hst → Option (Int32 × Hst)
  | 0, _, _ => none
  | n + 1, a2, h =>
    gck 1 15 ((if (h.1 17 (1 : Int32).toNatClampNeg) ≤ a2 then
      (some ((-1), h))
    else
      gck ((6 * a2) + 5) 60 ((if (h.1 19 ((6 * a2) + 5).toNatClampNeg) = 0 then
        (some (a2, h))
      else
        ((lp_L_next_58 n) (a2 + 1) h)))))
def jb_L_next_56   (h : Hst) : Option (Int32 × Hst) :=
  (lp_L_next_58 FU 0 h)
def jb_L_next_50 (R16 : Int32 → Hst → Option (Int32 × Hst)) (a2 : Int32) (h : Hst) : Option (Int32 × Hst) :=
  (R16 (a2 + 1) h)
def lp_L_next_16 : Nat → Int32 → Hst → Option (Int32 × Hst)
  | 0, _, _ => none
  | n + 1, a2, h =>
    gck 1 15 ((if (h.1 17 (1 : Int32).toNatClampNeg) ≤ a2 then
      (jb_L_next_56 h)
    else
      gck ((6 * a2) + 5) 60 ((if (h.1 19 ((6 * a2) + 5).toNatClampNeg) = 0 then
        gck ((6 * a2) + 1) 60 (gck 3 15 ((if (h.1 19 ((6 * a2) + 1).toNatClampNeg) = (h.1 17 (3 : Int32).toNatClampNeg) then
          (some (a2, h))
        else
          (jb_L_next_50 (lp_L_next_16 n) a2 h))))
      else
        (jb_L_next_50 (lp_L_next_16 n) a2 h)))))
def f_L_next  (h : Hst) : Option (Int32 × Hst) :=
  gck 13 15 ((if (h.1 17 (13 : Int32).toNatClampNeg) = 1 then
    gck 3 15 ((if (h.1 17 (3 : Int32).toNatClampNeg) < 0 then
      (jb_L_next_56 h)
    else
      (lp_L_next_16 FU 0 h)))
  else
    (jb_L_next_56 h)))
set_option maxRecDepth 20000 in
theorem glp_L_next_58 (γ : Gv)  : ∀ (n : Nat) (a2 : Int32) (h : Hst), G γ RL cL_next 3 (some .int) [] vI 0 0 58 [(0, .ref (gad γ 17)), (1, .ref (gad γ 19)), (2, .int a2)] [] h (lp_L_next_58 n a2 h) := by
  intro n
  induction n with
  | zero => intro a2 h; exact g_none
  | succ n ih =>
    intro a2 h
    rw [lp_L_next_58]
    refine g_iload_n (pc := 58) dL_next_58 rfl 2 rfl ?_
    refine g_aload_n (pc := 59) dL_next_59 rfl 0 rfl ?_
    refine g_iconst (pc := 60) (v := 1) dL_next_60 (by decide) ?_
    refine g_iald (pc := 61) 17 (gat_17 _ _) dL_next_61 ?_
    refine g_icmp_ge (pc := 62) (tgt := 84) dL_next_62 (by decide) ?_ ?_
    · refine g_iconst (pc := 84) (v := (-1)) dL_next_84 (by decide) ?_
      exact g_ireturn (pc := 85) (ty := .int) dL_next_85 rfl rfl rfl
    · refine g_aload_n (pc := 65) dL_next_65 rfl 1 rfl ?_
      refine g_bipush (pc := 66) (v := 6) dL_next_66 (by decide) ?_
      refine g_iload_n (pc := 68) dL_next_68 rfl 2 rfl ?_
      refine g_imul (pc := 69) dL_next_69 ?_
      refine g_iconst (pc := 70) (v := 5) dL_next_70 (by decide) ?_
      refine g_iadd (pc := 71) dL_next_71 ?_
      refine g_iald (pc := 72) 19 (gat_19 _ _) dL_next_72 ?_
      refine g_if_ne (pc := 73) (tgt := 78) dL_next_73 (by decide) ?_ ?_
      · refine g_iinc (pc := 78) (q := 2) (v := a2 + 1) (lv' := [(2, .int (a2 + 1)), (0, .ref (gad γ 17)), (1, .ref (gad γ 19))]) dL_next_78 rfl rfl (by decide) rfl ?_
        refine g_goto (pc := 81) (tgt := 58) dL_next_81 (by decide) ?_
        exact g_sub [1, 2, 0] rfl (ih (a2 + 1) h)
      · refine g_iload_n (pc := 76) dL_next_76 rfl 2 rfl ?_
        exact g_ireturn (pc := 77) (ty := .int) dL_next_77 rfl rfl rfl
set_option maxRecDepth 20000 in
theorem gjb_L_next_56 (γ : Gv)   (h : Hst) : G γ RL cL_next 3 (some .int) [] vI 0 0 56 [(0, .ref (gad γ 17)), (1, .ref (gad γ 19))] [] h (jb_L_next_56 h) := by
  unfold jb_L_next_56
  refine g_iconst (pc := 56) (v := 0) dL_next_56 (by decide) ?_
  refine g_istore_n (pc := 57) (lv' := [(2, .int 0), (0, .ref (gad γ 17)), (1, .ref (gad γ 19))]) dL_next_57 rfl (by decide) rfl ?_
  exact g_sub [1, 2, 0] rfl (glp_L_next_58 γ FU 0 h)
set_option maxRecDepth 20000 in
theorem gjb_L_next_50 (γ : Gv) (R16 : Int32 → Hst → Option (Int32 × Hst)) (hR16 : ∀ (a2 : Int32) (h : Hst), G γ RL cL_next 3 (some .int) [] vI 0 0 16 [(0, .ref (gad γ 17)), (1, .ref (gad γ 19)), (2, .int a2)] [] h (R16 a2 h)) (a2 : Int32) (h : Hst) : G γ RL cL_next 3 (some .int) [] vI 0 0 50 [(0, .ref (gad γ 17)), (1, .ref (gad γ 19)), (2, .int a2)] [] h (jb_L_next_50 R16 a2 h) := by
  unfold jb_L_next_50
  refine g_iinc (pc := 50) (q := 2) (v := a2 + 1) (lv' := [(2, .int (a2 + 1)), (0, .ref (gad γ 17)), (1, .ref (gad γ 19))]) dL_next_50 rfl rfl (by decide) rfl ?_
  refine g_goto (pc := 53) (tgt := 16) dL_next_53 (by decide) ?_
  exact g_sub [1, 2, 0] rfl (hR16 (a2 + 1) h)
set_option maxRecDepth 20000 in
theorem glp_L_next_16 (γ : Gv)  : ∀ (n : Nat) (a2 : Int32) (h : Hst), G γ RL cL_next 3 (some .int) [] vI 0 0 16 [(0, .ref (gad γ 17)), (1, .ref (gad γ 19)), (2, .int a2)] [] h (lp_L_next_16 n a2 h) := by
  intro n
  induction n with
  | zero => intro a2 h; exact g_none
  | succ n ih =>
    intro a2 h
    rw [lp_L_next_16]
    refine g_iload_n (pc := 16) dL_next_16 rfl 2 rfl ?_
    refine g_aload_n (pc := 17) dL_next_17 rfl 0 rfl ?_
    refine g_iconst (pc := 18) (v := 1) dL_next_18 (by decide) ?_
    refine g_iald (pc := 19) 17 (gat_17 _ _) dL_next_19 ?_
    refine g_icmp_ge (pc := 20) (tgt := 56) dL_next_20 (by decide) ?_ ?_
    · exact g_sub [0, 1] rfl (gjb_L_next_56 γ h)
    · refine g_aload_n (pc := 23) dL_next_23 rfl 1 rfl ?_
      refine g_bipush (pc := 24) (v := 6) dL_next_24 (by decide) ?_
      refine g_iload_n (pc := 26) dL_next_26 rfl 2 rfl ?_
      refine g_imul (pc := 27) dL_next_27 ?_
      refine g_iconst (pc := 28) (v := 5) dL_next_28 (by decide) ?_
      refine g_iadd (pc := 29) dL_next_29 ?_
      refine g_iald (pc := 30) 19 (gat_19 _ _) dL_next_30 ?_
      refine g_if_ne (pc := 31) (tgt := 50) dL_next_31 (by decide) ?_ ?_
      · exact gjb_L_next_50 γ (lp_L_next_16 n) ih a2 h
      · refine g_aload_n (pc := 34) dL_next_34 rfl 1 rfl ?_
        refine g_bipush (pc := 35) (v := 6) dL_next_35 (by decide) ?_
        refine g_iload_n (pc := 37) dL_next_37 rfl 2 rfl ?_
        refine g_imul (pc := 38) dL_next_38 ?_
        refine g_iconst (pc := 39) (v := 1) dL_next_39 (by decide) ?_
        refine g_iadd (pc := 40) dL_next_40 ?_
        refine g_iald (pc := 41) 19 (gat_19 _ _) dL_next_41 ?_
        refine g_aload_n (pc := 42) dL_next_42 rfl 0 rfl ?_
        refine g_iconst (pc := 43) (v := 3) dL_next_43 (by decide) ?_
        refine g_iald (pc := 44) 17 (gat_17 _ _) dL_next_44 ?_
        refine g_icmp_ne (pc := 45) (tgt := 50) dL_next_45 (by decide) ?_ ?_
        · exact gjb_L_next_50 γ (lp_L_next_16 n) ih a2 h
        · refine g_iload_n (pc := 48) dL_next_48 rfl 2 rfl ?_
          exact g_ireturn (pc := 49) (ty := .int) dL_next_49 rfl rfl rfl
set_option maxRecDepth 20000 in
theorem ge_L_next (γ : Gv)  (h : Hst) : G γ RL cL_next 3 (some .int) [] vI 0 0 0 (lv_args 0 [.ref (gad γ 17), .ref (gad γ 19)]) [] h (f_L_next h) := by
  show G γ RL cL_next 3 (some .int) [] vI 0 0 0 [(0, .ref (gad γ 17)), (1, .ref (gad γ 19))] [] h (f_L_next h)
  unfold f_L_next
  refine g_aload_n (pc := 0) dL_next_0 rfl 0 rfl ?_
  refine g_bipush (pc := 1) (v := 13) dL_next_1 (by decide) ?_
  refine g_iald (pc := 3) 17 (gat_17 _ _) dL_next_3 ?_
  refine g_iconst (pc := 4) (v := 1) dL_next_4 (by decide) ?_
  refine g_icmp_ne (pc := 5) (tgt := 56) dL_next_5 (by decide) ?_ ?_
  · exact gjb_L_next_56 γ h
  · refine g_aload_n (pc := 8) dL_next_8 rfl 0 rfl ?_
    refine g_iconst (pc := 9) (v := 3) dL_next_9 (by decide) ?_
    refine g_iald (pc := 10) 17 (gat_17 _ _) dL_next_10 ?_
    refine g_if_lt (pc := 11) (tgt := 56) dL_next_11 (by decide) ?_ ?_
    · exact gjb_L_next_56 γ h
    · refine g_iconst (pc := 14) (v := 0) dL_next_14 (by decide) ?_
      refine g_istore_n (pc := 15) (lv' := [(2, .int 0), (0, .ref (gad γ 17)), (1, .ref (gad γ 19))]) dL_next_15 rfl (by decide) rfl ?_
      exact g_sub [1, 2, 0] rfl (glp_L_next_16 γ FU 0 h)
