def f_L_addGrower  (h : Hst) : Option (Int32 × Hst) :=
  (gbx (f_X6_addGrower h) (fun x2 h1 =>
    gck 0 1 (gl (hsj h1 25 (0 : Int32).toNatClampNeg (x2.toInt64)) fun h3 =>
    (some (0, h3)))) (fun E h4 =>
    (if E = 2 then
      (some (1, h4))
    else
    none)))
set_option maxRecDepth 20000 in
theorem ge_L_addGrower (γ : Gv)  (h : Hst) : G γ RL cL_addGrower 3 (some .int) [(0, 8, 11, 13)] vI 7 1 0 (lv_args 0 [.ref (gad γ 0), .ref (gad γ 25)]) [] h (f_L_addGrower h) := by
  show G γ RL cL_addGrower 3 (some .int) [(0, 8, 11, 13)] vI 7 1 0 [(0, .ref (gad γ 0)), (1, .ref (gad γ 25))] [] h (f_L_addGrower h)
  unfold f_L_addGrower
  refine g_aload_n (pc := 0) dL_addGrower_0 rfl 1 rfl ?_
  refine g_iconst (pc := 1) (v := 0) dL_addGrower_1 (by decide) ?_
  refine g_aload_n (pc := 2) dL_addGrower_2 rfl 0 rfl ?_
  refine g_cIX (pc := 3) (st := [.int 0, .ref (gad γ 25)]) (fun r hr => gRunV (As := []) 0 (ge_X6_addGrower γ h) hr wv_RL_7 rfl (Nat.le_of_ble_eq_true rfl) (gat_0 _ _) rfl rfl (Nat.le_of_ble_eq_true rfl) (Nat.le_of_ble_eq_true rfl) dL_addGrower_3) (fun x2 h1 => ?_) (fun E h4 hrun => ?_)
  · refine g_i2l (pc := 6) dL_addGrower_6 ?_
    refine g_last (pc := 7) 25 (gat_25 _ _) (gset_25 _ _ _) dL_addGrower_7 ?_
    refine g_nmh (fun h3 => ?_)
    refine g_goto (pc := 8) (tgt := 14) dL_addGrower_8 (by decide) ?_
    refine g_iconst (pc := 14) (v := 0) dL_addGrower_14 (by decide) ?_
    exact g_ireturn (pc := 15) (ty := .int) dL_addGrower_15 rfl rfl rfl
  · refine g_case (c := E = 2) (fun c => ?_) (fun c => ?_)
    · subst c
      refine gRun.caught (b2 := 0) hrun rfl (by decide) [] ⟨0, 8, 11, 13⟩ [] rfl (fun z hz => nomatch hz) (by decide) (by decide) wcl_RL_13 wcast_2 (fun q5 => ?_)
      refine g_astore_n (pc := 11) (lv' := [(2, .ref q5), (0, .ref (gad γ 0)), (1, .ref (gad γ 25))]) dL_addGrower_11 rfl (by decide) rfl ?_
      refine g_iconst (pc := 12) (v := 1) dL_addGrower_12 (by decide) ?_
      exact g_ireturn (pc := 13) (ty := .int) dL_addGrower_13 rfl rfl rfl
    exact g_none
def f_L_addLot (p1 : Int32) (p2 : Int32) (p3 : Int32) (p4 : Int32) (p5 : Int32) (h : Hst) : Option (Int32 × Hst) :=
  (gbx (f_X6_addLot p1 p2 p3 p4 p5 h) (fun x2 h1 =>
    gck 0 1 (gl (hsj h1 25 (0 : Int32).toNatClampNeg (x2.toInt64)) fun h3 =>
    (some (0, h3)))) (fun E h4 =>
    (if E = 0 then
      (some (1, h4))
    else
    (if E = 1 then
      (some (2, h4))
    else
    (if E = 2 then
      (some (3, h4))
    else
    none)))))
set_option maxRecDepth 20000 in
theorem ge_L_addLot (γ : Gv) (p1 : Int32) (p2 : Int32) (p3 : Int32) (p4 : Int32) (p5 : Int32) (h : Hst) : G γ RL cL_addLot 8 (some .int) [(0, 16, 19, 19), (0, 16, 23, 21), (0, 16, 27, 13)] vI 8 1 0 (lv_args 0 [.ref (gad γ 0), .int p1, .int p2, .int p3, .int p4, .int p5, .ref (gad γ 25)]) [] h (f_L_addLot p1 p2 p3 p4 p5 h) := by
  show G γ RL cL_addLot 8 (some .int) [(0, 16, 19, 19), (0, 16, 23, 21), (0, 16, 27, 13)] vI 8 1 0 [(0, .ref (gad γ 0)), (1, .int p1), (2, .int p2), (3, .int p3), (4, .int p4), (5, .int p5), (6, .ref (gad γ 25))] [] h (f_L_addLot p1 p2 p3 p4 p5 h)
  unfold f_L_addLot
  refine g_aload (pc := 0) dL_addLot_0 6 rfl ?_
  refine g_iconst (pc := 2) (v := 0) dL_addLot_2 (by decide) ?_
  refine g_aload_n (pc := 3) dL_addLot_3 rfl 0 rfl ?_
  refine g_iload_n (pc := 4) dL_addLot_4 rfl 1 rfl ?_
  refine g_iload_n (pc := 5) dL_addLot_5 rfl 2 rfl ?_
  refine g_iload_n (pc := 6) dL_addLot_6 rfl 3 rfl ?_
  refine g_iload (pc := 7) dL_addLot_7 4 rfl ?_
  refine g_iload (pc := 9) dL_addLot_9 5 rfl ?_
  refine g_cIX (pc := 11) (st := [.int 0, .ref (gad γ 25)]) (fun r hr => gRunV (As := [.int p1, .int p2, .int p3, .int p4, .int p5]) 0 (ge_X6_addLot γ p1 p2 p3 p4 p5 h) hr wv_RL_15 rfl (Nat.le_of_ble_eq_true rfl) (gat_0 _ _) rfl rfl (Nat.le_of_ble_eq_true rfl) (Nat.le_of_ble_eq_true rfl) dL_addLot_11) (fun x2 h1 => ?_) (fun E h4 hrun => ?_)
  · refine g_i2l (pc := 14) dL_addLot_14 ?_
    refine g_last (pc := 15) 25 (gat_25 _ _) (gset_25 _ _ _) dL_addLot_15 ?_
    refine g_nmh (fun h3 => ?_)
    refine g_goto (pc := 16) (tgt := 31) dL_addLot_16 (by decide) ?_
    refine g_iconst (pc := 31) (v := 0) dL_addLot_31 (by decide) ?_
    exact g_ireturn (pc := 32) (ty := .int) dL_addLot_32 rfl rfl rfl
  · refine g_case (c := E = 0) (fun c => ?_) (fun c => ?_)
    · subst c
      refine gRun.caught (b2 := 0) hrun rfl (by decide) [] ⟨0, 16, 19, 19⟩ [⟨0, 16, 23, 21⟩, ⟨0, 16, 27, 13⟩] rfl (fun z hz => nomatch hz) (by decide) (by decide) wcl_RL_19 wcast_0 (fun q5 => ?_)
      refine g_astore (pc := 19) (lv' := [(7, .ref q5), (0, .ref (gad γ 0)), (1, .int p1), (2, .int p2), (3, .int p3), (4, .int p4), (5, .int p5), (6, .ref (gad γ 25))]) dL_addLot_19 (by decide) rfl ?_
      refine g_iconst (pc := 21) (v := 1) dL_addLot_21 (by decide) ?_
      exact g_ireturn (pc := 22) (ty := .int) dL_addLot_22 rfl rfl rfl
    refine g_case (c := E = 1) (fun c => ?_) (fun c => ?_)
    · subst c
      refine gRun.caught (b2 := 0) hrun rfl (by decide) [⟨0, 16, 19, 19⟩] ⟨0, 16, 23, 21⟩ [⟨0, 16, 27, 13⟩] rfl (fun z hz => by
            simp only [List.mem_cons, List.not_mem_nil, or_false] at hz
            rcases hz with rfl
            · exact Or.inr ⟨by decide, _, wcl_RL_19, (by decide +kernel : (gexc 1, "java/lang/IndexOutOfBoundsException") ∈ gNcs)⟩) (by decide) (by decide) wcl_RL_21 wcast_1 (fun q6 => ?_)
      refine g_astore (pc := 23) (lv' := [(7, .ref q6), (0, .ref (gad γ 0)), (1, .int p1), (2, .int p2), (3, .int p3), (4, .int p4), (5, .int p5), (6, .ref (gad γ 25))]) dL_addLot_23 (by decide) rfl ?_
      refine g_iconst (pc := 25) (v := 2) dL_addLot_25 (by decide) ?_
      exact g_ireturn (pc := 26) (ty := .int) dL_addLot_26 rfl rfl rfl
    refine g_case (c := E = 2) (fun c => ?_) (fun c => ?_)
    · subst c
      refine gRun.caught (b2 := 0) hrun rfl (by decide) [⟨0, 16, 19, 19⟩, ⟨0, 16, 23, 21⟩] ⟨0, 16, 27, 13⟩ [] rfl (fun z hz => by
            simp only [List.mem_cons, List.not_mem_nil, or_false] at hz
            rcases hz with rfl | rfl
            · exact Or.inr ⟨by decide, _, wcl_RL_19, (by decide +kernel : (gexc 2, "java/lang/IndexOutOfBoundsException") ∈ gNcs)⟩
            · exact Or.inr ⟨by decide, _, wcl_RL_21, (by decide +kernel : (gexc 2, "java/lang/IllegalArgumentException") ∈ gNcs)⟩) (by decide) (by decide) wcl_RL_13 wcast_2 (fun q7 => ?_)
      refine g_astore (pc := 27) (lv' := [(7, .ref q7), (0, .ref (gad γ 0)), (1, .int p1), (2, .int p2), (3, .int p3), (4, .int p4), (5, .int p5), (6, .ref (gad γ 25))]) dL_addLot_27 (by decide) rfl ?_
      refine g_iconst (pc := 29) (v := 3) dL_addLot_29 (by decide) ?_
      exact g_ireturn (pc := 30) (ty := .int) dL_addLot_30 rfl rfl rfl
    exact g_none
def f_L_addTank (p1 : Int32) (h : Hst) : Option (Int32 × Hst) :=
  (gbx (f_X6_addTank p1 h) (fun x2 h1 =>
    gck 0 1 (gl (hsj h1 25 (0 : Int32).toNatClampNeg (x2.toInt64)) fun h3 =>
    (some (0, h3)))) (fun E h4 =>
    (if E = 1 then
      (some (1, h4))
    else
    (if E = 2 then
      (some (2, h4))
    else
    none))))
set_option maxRecDepth 20000 in
theorem ge_L_addTank (γ : Gv) (p1 : Int32) (h : Hst) : G γ RL cL_addTank 4 (some .int) [(0, 9, 12, 21), (0, 9, 15, 13)] vI 7 1 0 (lv_args 0 [.ref (gad γ 0), .int p1, .ref (gad γ 25)]) [] h (f_L_addTank p1 h) := by
  show G γ RL cL_addTank 4 (some .int) [(0, 9, 12, 21), (0, 9, 15, 13)] vI 7 1 0 [(0, .ref (gad γ 0)), (1, .int p1), (2, .ref (gad γ 25))] [] h (f_L_addTank p1 h)
  unfold f_L_addTank
  refine g_aload_n (pc := 0) dL_addTank_0 rfl 2 rfl ?_
  refine g_iconst (pc := 1) (v := 0) dL_addTank_1 (by decide) ?_
  refine g_aload_n (pc := 2) dL_addTank_2 rfl 0 rfl ?_
  refine g_iload_n (pc := 3) dL_addTank_3 rfl 1 rfl ?_
  refine g_cIX (pc := 4) (st := [.int 0, .ref (gad γ 25)]) (fun r hr => gRunV (As := [.int p1]) 0 (ge_X6_addTank γ p1 h) hr wv_RL_23 rfl (Nat.le_of_ble_eq_true rfl) (gat_0 _ _) rfl rfl (Nat.le_of_ble_eq_true rfl) (Nat.le_of_ble_eq_true rfl) dL_addTank_4) (fun x2 h1 => ?_) (fun E h4 hrun => ?_)
  · refine g_i2l (pc := 7) dL_addTank_7 ?_
    refine g_last (pc := 8) 25 (gat_25 _ _) (gset_25 _ _ _) dL_addTank_8 ?_
    refine g_nmh (fun h3 => ?_)
    refine g_goto (pc := 9) (tgt := 18) dL_addTank_9 (by decide) ?_
    refine g_iconst (pc := 18) (v := 0) dL_addTank_18 (by decide) ?_
    exact g_ireturn (pc := 19) (ty := .int) dL_addTank_19 rfl rfl rfl
  · refine g_case (c := E = 1) (fun c => ?_) (fun c => ?_)
    · subst c
      refine gRun.caught (b2 := 0) hrun rfl (by decide) [] ⟨0, 9, 12, 21⟩ [⟨0, 9, 15, 13⟩] rfl (fun z hz => nomatch hz) (by decide) (by decide) wcl_RL_21 wcast_1 (fun q5 => ?_)
      refine g_astore_n (pc := 12) (lv' := [(3, .ref q5), (0, .ref (gad γ 0)), (1, .int p1), (2, .ref (gad γ 25))]) dL_addTank_12 rfl (by decide) rfl ?_
      refine g_iconst (pc := 13) (v := 1) dL_addTank_13 (by decide) ?_
      exact g_ireturn (pc := 14) (ty := .int) dL_addTank_14 rfl rfl rfl
    refine g_case (c := E = 2) (fun c => ?_) (fun c => ?_)
    · subst c
      refine gRun.caught (b2 := 0) hrun rfl (by decide) [⟨0, 9, 12, 21⟩] ⟨0, 9, 15, 13⟩ [] rfl (fun z hz => by
            simp only [List.mem_cons, List.not_mem_nil, or_false] at hz
            rcases hz with rfl
            · exact Or.inr ⟨by decide, _, wcl_RL_21, (by decide +kernel : (gexc 2, "java/lang/IllegalArgumentException") ∈ gNcs)⟩) (by decide) (by decide) wcl_RL_13 wcast_2 (fun q6 => ?_)
      refine g_astore_n (pc := 15) (lv' := [(3, .ref q6), (0, .ref (gad γ 0)), (1, .int p1), (2, .ref (gad γ 25))]) dL_addTank_15 rfl (by decide) rfl ?_
      refine g_iconst (pc := 16) (v := 2) dL_addTank_16 (by decide) ?_
      exact g_ireturn (pc := 17) (ty := .int) dL_addTank_17 rfl rfl rfl
    exact g_none
def f_L_setYield (p1 : Int32) (p2 : Int32) (h : Hst) : Option (Int32 × Hst) :=
  (gbx (f_X6_setYield p1 p2 h) (fun x2 h1 =>
    gck 0 1 (gl (hsj h1 25 (0 : Int32).toNatClampNeg (x2.toInt64)) fun h3 =>
    (some (0, h3)))) (fun E h4 =>
    (if E = 0 then
      (some (1, h4))
    else
    (if E = 1 then
      (some (2, h4))
    else
    none))))
set_option maxRecDepth 20000 in
theorem ge_L_setYield (γ : Gv) (p1 : Int32) (p2 : Int32) (h : Hst) : G γ RL cL_setYield 5 (some .int) [(0, 10, 13, 19), (0, 10, 17, 21)] vI 8 1 0 (lv_args 0 [.ref (gad γ 0), .int p1, .int p2, .ref (gad γ 25)]) [] h (f_L_setYield p1 p2 h) := by
  show G γ RL cL_setYield 5 (some .int) [(0, 10, 13, 19), (0, 10, 17, 21)] vI 8 1 0 [(0, .ref (gad γ 0)), (1, .int p1), (2, .int p2), (3, .ref (gad γ 25))] [] h (f_L_setYield p1 p2 h)
  unfold f_L_setYield
  refine g_aload_n (pc := 0) dL_setYield_0 rfl 3 rfl ?_
  refine g_iconst (pc := 1) (v := 0) dL_setYield_1 (by decide) ?_
  refine g_aload_n (pc := 2) dL_setYield_2 rfl 0 rfl ?_
  refine g_iload_n (pc := 3) dL_setYield_3 rfl 1 rfl ?_
  refine g_iload_n (pc := 4) dL_setYield_4 rfl 2 rfl ?_
  refine g_cIX (pc := 5) (st := [.int 0, .ref (gad γ 25)]) (fun r hr => gRunV (As := [.int p1, .int p2]) 0 (ge_X6_setYield γ p1 p2 h) hr wv_RL_27 rfl (Nat.le_of_ble_eq_true rfl) (gat_0 _ _) rfl rfl (Nat.le_of_ble_eq_true rfl) (Nat.le_of_ble_eq_true rfl) dL_setYield_5) (fun x2 h1 => ?_) (fun E h4 hrun => ?_)
  · refine g_i2l (pc := 8) dL_setYield_8 ?_
    refine g_last (pc := 9) 25 (gat_25 _ _) (gset_25 _ _ _) dL_setYield_9 ?_
    refine g_nmh (fun h3 => ?_)
    refine g_goto (pc := 10) (tgt := 21) dL_setYield_10 (by decide) ?_
    refine g_iconst (pc := 21) (v := 0) dL_setYield_21 (by decide) ?_
    exact g_ireturn (pc := 22) (ty := .int) dL_setYield_22 rfl rfl rfl
  · refine g_case (c := E = 0) (fun c => ?_) (fun c => ?_)
    · subst c
      refine gRun.caught (b2 := 0) hrun rfl (by decide) [] ⟨0, 10, 13, 19⟩ [⟨0, 10, 17, 21⟩] rfl (fun z hz => nomatch hz) (by decide) (by decide) wcl_RL_19 wcast_0 (fun q5 => ?_)
      refine g_astore (pc := 13) (lv' := [(4, .ref q5), (0, .ref (gad γ 0)), (1, .int p1), (2, .int p2), (3, .ref (gad γ 25))]) dL_setYield_13 (by decide) rfl ?_
      refine g_iconst (pc := 15) (v := 1) dL_setYield_15 (by decide) ?_
      exact g_ireturn (pc := 16) (ty := .int) dL_setYield_16 rfl rfl rfl
    refine g_case (c := E = 1) (fun c => ?_) (fun c => ?_)
    · subst c
      refine gRun.caught (b2 := 0) hrun rfl (by decide) [⟨0, 10, 13, 19⟩] ⟨0, 10, 17, 21⟩ [] rfl (fun z hz => by
            simp only [List.mem_cons, List.not_mem_nil, or_false] at hz
            rcases hz with rfl
            · exact Or.inr ⟨by decide, _, wcl_RL_19, (by decide +kernel : (gexc 1, "java/lang/IndexOutOfBoundsException") ∈ gNcs)⟩) (by decide) (by decide) wcl_RL_21 wcast_1 (fun q6 => ?_)
      refine g_astore (pc := 17) (lv' := [(4, .ref q6), (0, .ref (gad γ 0)), (1, .int p1), (2, .int p2), (3, .ref (gad γ 25))]) dL_setYield_17 (by decide) rfl ?_
      refine g_iconst (pc := 19) (v := 2) dL_setYield_19 (by decide) ?_
      exact g_ireturn (pc := 20) (ty := .int) dL_setYield_20 rfl rfl rfl
    exact g_none
def f_L_set (p1 : Int32) (p2 : Int32) (h : Hst) : Option (Int32 × Hst) :=
  (gbx (f_X6_set p1 p2 h) (fun x2 h1 =>
    gck 0 1 (gl (hsj h1 25 (0 : Int32).toNatClampNeg (x2.toInt64)) fun h3 =>
    (some (0, h3)))) (fun E h4 =>
    (if E = 0 then
      (some (1, h4))
    else
    (if E = 1 then
      (some (2, h4))
    else
    none))))
set_option maxRecDepth 20000 in
theorem ge_L_set (γ : Gv) (p1 : Int32) (p2 : Int32) (h : Hst) : G γ RL cL_set 5 (some .int) [(0, 10, 13, 19), (0, 10, 17, 21)] vI 7 1 0 (lv_args 0 [.ref (gad γ 0), .int p1, .int p2, .ref (gad γ 25)]) [] h (f_L_set p1 p2 h) := by
  show G γ RL cL_set 5 (some .int) [(0, 10, 13, 19), (0, 10, 17, 21)] vI 7 1 0 [(0, .ref (gad γ 0)), (1, .int p1), (2, .int p2), (3, .ref (gad γ 25))] [] h (f_L_set p1 p2 h)
  unfold f_L_set
  refine g_aload_n (pc := 0) dL_set_0 rfl 3 rfl ?_
  refine g_iconst (pc := 1) (v := 0) dL_set_1 (by decide) ?_
  refine g_aload_n (pc := 2) dL_set_2 rfl 0 rfl ?_
  refine g_iload_n (pc := 3) dL_set_3 rfl 1 rfl ?_
  refine g_iload_n (pc := 4) dL_set_4 rfl 2 rfl ?_
  refine g_cIX (pc := 5) (st := [.int 0, .ref (gad γ 25)]) (fun r hr => gRunV (As := [.int p1, .int p2]) 0 (ge_X6_set γ p1 p2 h) hr wv_RL_31 rfl (Nat.le_of_ble_eq_true rfl) (gat_0 _ _) rfl rfl (Nat.le_of_ble_eq_true rfl) (Nat.le_of_ble_eq_true rfl) dL_set_5) (fun x2 h1 => ?_) (fun E h4 hrun => ?_)
  · refine g_i2l (pc := 8) dL_set_8 ?_
    refine g_last (pc := 9) 25 (gat_25 _ _) (gset_25 _ _ _) dL_set_9 ?_
    refine g_nmh (fun h3 => ?_)
    refine g_goto (pc := 10) (tgt := 21) dL_set_10 (by decide) ?_
    refine g_iconst (pc := 21) (v := 0) dL_set_21 (by decide) ?_
    exact g_ireturn (pc := 22) (ty := .int) dL_set_22 rfl rfl rfl
  · refine g_case (c := E = 0) (fun c => ?_) (fun c => ?_)
    · subst c
      refine gRun.caught (b2 := 0) hrun rfl (by decide) [] ⟨0, 10, 13, 19⟩ [⟨0, 10, 17, 21⟩] rfl (fun z hz => nomatch hz) (by decide) (by decide) wcl_RL_19 wcast_0 (fun q5 => ?_)
      refine g_astore (pc := 13) (lv' := [(4, .ref q5), (0, .ref (gad γ 0)), (1, .int p1), (2, .int p2), (3, .ref (gad γ 25))]) dL_set_13 (by decide) rfl ?_
      refine g_iconst (pc := 15) (v := 1) dL_set_15 (by decide) ?_
      exact g_ireturn (pc := 16) (ty := .int) dL_set_16 rfl rfl rfl
    refine g_case (c := E = 1) (fun c => ?_) (fun c => ?_)
    · subst c
      refine gRun.caught (b2 := 0) hrun rfl (by decide) [⟨0, 10, 13, 19⟩] ⟨0, 10, 17, 21⟩ [] rfl (fun z hz => by
            simp only [List.mem_cons, List.not_mem_nil, or_false] at hz
            rcases hz with rfl
            · exact Or.inr ⟨by decide, _, wcl_RL_19, (by decide +kernel : (gexc 1, "java/lang/IndexOutOfBoundsException") ∈ gNcs)⟩) (by decide) (by decide) wcl_RL_21 wcast_1 (fun q6 => ?_)
      refine g_astore (pc := 17) (lv' := [(4, .ref q6), (0, .ref (gad γ 0)), (1, .int p1), (2, .int p2), (3, .ref (gad γ 25))]) dL_set_17 (by decide) rfl ?_
      refine g_iconst (pc := 19) (v := 2) dL_set_19 (by decide) ?_
      exact g_ireturn (pc := 20) (ty := .int) dL_set_20 rfl rfl rfl
    exact g_none
def f_L_press (p1 : Int32) (p2 : Int32) (h : Hst) : Option (Int32 × Hst) :=
  (gbx (f_X6_press p1 p2 h) (fun x2 h1 =>
    gck 0 1 (gl (hsj h1 25 (0 : Int32).toNatClampNeg (x2.toInt64)) fun h3 =>
    (some (0, h3)))) (fun E h4 =>
    (if E = 0 then
      (some (1, h4))
    else
    (if E = 2 then
      (some (2, h4))
    else
    none))))
set_option maxRecDepth 20000 in
theorem ge_L_press (γ : Gv) (p1 : Int32) (p2 : Int32) (h : Hst) : G γ RL cL_press 5 (some .int) [(0, 10, 13, 19), (0, 10, 17, 13)] vI 8 1 0 (lv_args 0 [.ref (gad γ 0), .int p1, .int p2, .ref (gad γ 25)]) [] h (f_L_press p1 p2 h) := by
  show G γ RL cL_press 5 (some .int) [(0, 10, 13, 19), (0, 10, 17, 13)] vI 8 1 0 [(0, .ref (gad γ 0)), (1, .int p1), (2, .int p2), (3, .ref (gad γ 25))] [] h (f_L_press p1 p2 h)
  unfold f_L_press
  refine g_aload_n (pc := 0) dL_press_0 rfl 3 rfl ?_
  refine g_iconst (pc := 1) (v := 0) dL_press_1 (by decide) ?_
  refine g_aload_n (pc := 2) dL_press_2 rfl 0 rfl ?_
  refine g_iload_n (pc := 3) dL_press_3 rfl 1 rfl ?_
  refine g_iload_n (pc := 4) dL_press_4 rfl 2 rfl ?_
  refine g_cIX (pc := 5) (st := [.int 0, .ref (gad γ 25)]) (fun r hr => gRunV (As := [.int p1, .int p2]) 0 (ge_X6_press γ p1 p2 h) hr wv_RL_34 rfl (Nat.le_of_ble_eq_true rfl) (gat_0 _ _) rfl rfl (Nat.le_of_ble_eq_true rfl) (Nat.le_of_ble_eq_true rfl) dL_press_5) (fun x2 h1 => ?_) (fun E h4 hrun => ?_)
  · refine g_i2l (pc := 8) dL_press_8 ?_
    refine g_last (pc := 9) 25 (gat_25 _ _) (gset_25 _ _ _) dL_press_9 ?_
    refine g_nmh (fun h3 => ?_)
    refine g_goto (pc := 10) (tgt := 21) dL_press_10 (by decide) ?_
    refine g_iconst (pc := 21) (v := 0) dL_press_21 (by decide) ?_
    exact g_ireturn (pc := 22) (ty := .int) dL_press_22 rfl rfl rfl
  · refine g_case (c := E = 0) (fun c => ?_) (fun c => ?_)
    · subst c
      refine gRun.caught (b2 := 0) hrun rfl (by decide) [] ⟨0, 10, 13, 19⟩ [⟨0, 10, 17, 13⟩] rfl (fun z hz => nomatch hz) (by decide) (by decide) wcl_RL_19 wcast_0 (fun q5 => ?_)
      refine g_astore (pc := 13) (lv' := [(4, .ref q5), (0, .ref (gad γ 0)), (1, .int p1), (2, .int p2), (3, .ref (gad γ 25))]) dL_press_13 (by decide) rfl ?_
      refine g_iconst (pc := 15) (v := 1) dL_press_15 (by decide) ?_
      exact g_ireturn (pc := 16) (ty := .int) dL_press_16 rfl rfl rfl
    refine g_case (c := E = 2) (fun c => ?_) (fun c => ?_)
    · subst c
      refine gRun.caught (b2 := 0) hrun rfl (by decide) [⟨0, 10, 13, 19⟩] ⟨0, 10, 17, 13⟩ [] rfl (fun z hz => by
            simp only [List.mem_cons, List.not_mem_nil, or_false] at hz
            rcases hz with rfl
            · exact Or.inr ⟨by decide, _, wcl_RL_19, (by decide +kernel : (gexc 2, "java/lang/IndexOutOfBoundsException") ∈ gNcs)⟩) (by decide) (by decide) wcl_RL_13 wcast_2 (fun q6 => ?_)
      refine g_astore (pc := 17) (lv' := [(4, .ref q6), (0, .ref (gad γ 0)), (1, .int p1), (2, .int p2), (3, .ref (gad γ 25))]) dL_press_17 (by decide) rfl ?_
      refine g_iconst (pc := 19) (v := 2) dL_press_19 (by decide) ?_
      exact g_ireturn (pc := 20) (ty := .int) dL_press_20 rfl rfl rfl
    exact g_none
def f_L_appeal (p1 : Int32) (h : Hst) : Option (Int32 × Hst) :=
  (gbx (f_X6_appeal p1 h) (fun x2 h1 =>
    gck 0 1 (gl (hsj h1 25 (0 : Int32).toNatClampNeg (x2.toInt64)) fun h3 =>
    (some (0, h3)))) (fun E h4 =>
    (if E = 0 then
      (some (1, h4))
    else
    (if E = 2 then
      (some (2, h4))
    else
    none))))
set_option maxRecDepth 20000 in
theorem ge_L_appeal (γ : Gv) (p1 : Int32) (h : Hst) : G γ RL cL_appeal 4 (some .int) [(0, 9, 12, 19), (0, 9, 15, 13)] vI 8 1 0 (lv_args 0 [.ref (gad γ 0), .int p1, .ref (gad γ 25)]) [] h (f_L_appeal p1 h) := by
  show G γ RL cL_appeal 4 (some .int) [(0, 9, 12, 19), (0, 9, 15, 13)] vI 8 1 0 [(0, .ref (gad γ 0)), (1, .int p1), (2, .ref (gad γ 25))] [] h (f_L_appeal p1 h)
  unfold f_L_appeal
  refine g_aload_n (pc := 0) dL_appeal_0 rfl 2 rfl ?_
  refine g_iconst (pc := 1) (v := 0) dL_appeal_1 (by decide) ?_
  refine g_aload_n (pc := 2) dL_appeal_2 rfl 0 rfl ?_
  refine g_iload_n (pc := 3) dL_appeal_3 rfl 1 rfl ?_
  refine g_cIX (pc := 4) (st := [.int 0, .ref (gad γ 25)]) (fun r hr => gRunV (As := [.int p1]) 0 (ge_X6_appeal γ p1 h) hr wv_RL_38 rfl (Nat.le_of_ble_eq_true rfl) (gat_0 _ _) rfl rfl (Nat.le_of_ble_eq_true rfl) (Nat.le_of_ble_eq_true rfl) dL_appeal_4) (fun x2 h1 => ?_) (fun E h4 hrun => ?_)
  · refine g_i2l (pc := 7) dL_appeal_7 ?_
    refine g_last (pc := 8) 25 (gat_25 _ _) (gset_25 _ _ _) dL_appeal_8 ?_
    refine g_nmh (fun h3 => ?_)
    refine g_goto (pc := 9) (tgt := 18) dL_appeal_9 (by decide) ?_
    refine g_iconst (pc := 18) (v := 0) dL_appeal_18 (by decide) ?_
    exact g_ireturn (pc := 19) (ty := .int) dL_appeal_19 rfl rfl rfl
  · refine g_case (c := E = 0) (fun c => ?_) (fun c => ?_)
    · subst c
      refine gRun.caught (b2 := 0) hrun rfl (by decide) [] ⟨0, 9, 12, 19⟩ [⟨0, 9, 15, 13⟩] rfl (fun z hz => nomatch hz) (by decide) (by decide) wcl_RL_19 wcast_0 (fun q5 => ?_)
      refine g_astore_n (pc := 12) (lv' := [(3, .ref q5), (0, .ref (gad γ 0)), (1, .int p1), (2, .ref (gad γ 25))]) dL_appeal_12 rfl (by decide) rfl ?_
      refine g_iconst (pc := 13) (v := 1) dL_appeal_13 (by decide) ?_
      exact g_ireturn (pc := 14) (ty := .int) dL_appeal_14 rfl rfl rfl
    refine g_case (c := E = 2) (fun c => ?_) (fun c => ?_)
    · subst c
      refine gRun.caught (b2 := 0) hrun rfl (by decide) [⟨0, 9, 12, 19⟩] ⟨0, 9, 15, 13⟩ [] rfl (fun z hz => by
            simp only [List.mem_cons, List.not_mem_nil, or_false] at hz
            rcases hz with rfl
            · exact Or.inr ⟨by decide, _, wcl_RL_19, (by decide +kernel : (gexc 2, "java/lang/IndexOutOfBoundsException") ∈ gNcs)⟩) (by decide) (by decide) wcl_RL_13 wcast_2 (fun q6 => ?_)
      refine g_astore_n (pc := 15) (lv' := [(3, .ref q6), (0, .ref (gad γ 0)), (1, .int p1), (2, .ref (gad γ 25))]) dL_appeal_15 rfl (by decide) rfl ?_
      refine g_iconst (pc := 16) (v := 2) dL_appeal_16 (by decide) ?_
      exact g_ireturn (pc := 17) (ty := .int) dL_appeal_17 rfl rfl rfl
    exact g_none
def f_L_draw (p1 : Int32) (p2 : Int32) (p3 : Int32) (h : Hst) : Option (Int32 × Hst) :=
  (gbx (f_X6_draw p1 p2 p3 h) (fun x2 h1 =>
    gck 0 1 (gl (hsj h1 25 (0 : Int32).toNatClampNeg (x2.toInt64)) fun h3 =>
    (some (0, h3)))) (fun E h4 =>
    (if E = 0 then
      (some (1, h4))
    else
    (if E = 1 then
      (some (2, h4))
    else
    (if E = 2 then
      (some (3, h4))
    else
    none)))))
set_option maxRecDepth 20000 in
theorem ge_L_draw (γ : Gv) (p1 : Int32) (p2 : Int32) (p3 : Int32) (h : Hst) : G γ RL cL_draw 6 (some .int) [(0, 12, 15, 19), (0, 12, 19, 21), (0, 12, 23, 13)] vI 8 1 0 (lv_args 0 [.ref (gad γ 0), .int p1, .int p2, .int p3, .ref (gad γ 25)]) [] h (f_L_draw p1 p2 p3 h) := by
  show G γ RL cL_draw 6 (some .int) [(0, 12, 15, 19), (0, 12, 19, 21), (0, 12, 23, 13)] vI 8 1 0 [(0, .ref (gad γ 0)), (1, .int p1), (2, .int p2), (3, .int p3), (4, .ref (gad γ 25))] [] h (f_L_draw p1 p2 p3 h)
  unfold f_L_draw
  refine g_aload (pc := 0) dL_draw_0 4 rfl ?_
  refine g_iconst (pc := 2) (v := 0) dL_draw_2 (by decide) ?_
  refine g_aload_n (pc := 3) dL_draw_3 rfl 0 rfl ?_
  refine g_iload_n (pc := 4) dL_draw_4 rfl 1 rfl ?_
  refine g_iload_n (pc := 5) dL_draw_5 rfl 2 rfl ?_
  refine g_iload_n (pc := 6) dL_draw_6 rfl 3 rfl ?_
  refine g_cIX (pc := 7) (st := [.int 0, .ref (gad γ 25)]) (fun r hr => gRunV (As := [.int p1, .int p2, .int p3]) 0 (ge_X6_draw γ p1 p2 p3 h) hr wv_RL_41 rfl (Nat.le_of_ble_eq_true rfl) (gat_0 _ _) rfl rfl (Nat.le_of_ble_eq_true rfl) (Nat.le_of_ble_eq_true rfl) dL_draw_7) (fun x2 h1 => ?_) (fun E h4 hrun => ?_)
  · refine g_i2l (pc := 10) dL_draw_10 ?_
    refine g_last (pc := 11) 25 (gat_25 _ _) (gset_25 _ _ _) dL_draw_11 ?_
    refine g_nmh (fun h3 => ?_)
    refine g_goto (pc := 12) (tgt := 27) dL_draw_12 (by decide) ?_
    refine g_iconst (pc := 27) (v := 0) dL_draw_27 (by decide) ?_
    exact g_ireturn (pc := 28) (ty := .int) dL_draw_28 rfl rfl rfl
  · refine g_case (c := E = 0) (fun c => ?_) (fun c => ?_)
    · subst c
      refine gRun.caught (b2 := 0) hrun rfl (by decide) [] ⟨0, 12, 15, 19⟩ [⟨0, 12, 19, 21⟩, ⟨0, 12, 23, 13⟩] rfl (fun z hz => nomatch hz) (by decide) (by decide) wcl_RL_19 wcast_0 (fun q5 => ?_)
      refine g_astore (pc := 15) (lv' := [(5, .ref q5), (0, .ref (gad γ 0)), (1, .int p1), (2, .int p2), (3, .int p3), (4, .ref (gad γ 25))]) dL_draw_15 (by decide) rfl ?_
      refine g_iconst (pc := 17) (v := 1) dL_draw_17 (by decide) ?_
      exact g_ireturn (pc := 18) (ty := .int) dL_draw_18 rfl rfl rfl
    refine g_case (c := E = 1) (fun c => ?_) (fun c => ?_)
    · subst c
      refine gRun.caught (b2 := 0) hrun rfl (by decide) [⟨0, 12, 15, 19⟩] ⟨0, 12, 19, 21⟩ [⟨0, 12, 23, 13⟩] rfl (fun z hz => by
            simp only [List.mem_cons, List.not_mem_nil, or_false] at hz
            rcases hz with rfl
            · exact Or.inr ⟨by decide, _, wcl_RL_19, (by decide +kernel : (gexc 1, "java/lang/IndexOutOfBoundsException") ∈ gNcs)⟩) (by decide) (by decide) wcl_RL_21 wcast_1 (fun q6 => ?_)
      refine g_astore (pc := 19) (lv' := [(5, .ref q6), (0, .ref (gad γ 0)), (1, .int p1), (2, .int p2), (3, .int p3), (4, .ref (gad γ 25))]) dL_draw_19 (by decide) rfl ?_
      refine g_iconst (pc := 21) (v := 2) dL_draw_21 (by decide) ?_
      exact g_ireturn (pc := 22) (ty := .int) dL_draw_22 rfl rfl rfl
    refine g_case (c := E = 2) (fun c => ?_) (fun c => ?_)
    · subst c
      refine gRun.caught (b2 := 0) hrun rfl (by decide) [⟨0, 12, 15, 19⟩, ⟨0, 12, 19, 21⟩] ⟨0, 12, 23, 13⟩ [] rfl (fun z hz => by
            simp only [List.mem_cons, List.not_mem_nil, or_false] at hz
            rcases hz with rfl | rfl
            · exact Or.inr ⟨by decide, _, wcl_RL_19, (by decide +kernel : (gexc 2, "java/lang/IndexOutOfBoundsException") ∈ gNcs)⟩
            · exact Or.inr ⟨by decide, _, wcl_RL_21, (by decide +kernel : (gexc 2, "java/lang/IllegalArgumentException") ∈ gNcs)⟩) (by decide) (by decide) wcl_RL_13 wcast_2 (fun q7 => ?_)
      refine g_astore (pc := 23) (lv' := [(5, .ref q7), (0, .ref (gad γ 0)), (1, .int p1), (2, .int p2), (3, .int p3), (4, .ref (gad γ 25))]) dL_draw_23 (by decide) rfl ?_
      refine g_iconst (pc := 25) (v := 3) dL_draw_25 (by decide) ?_
      exact g_ireturn (pc := 26) (ty := .int) dL_draw_26 rfl rfl rfl
    exact g_none
def f_L_move (p1 : Int32) (p2 : Int32) (p3 : Int32) (p4 : Int32) (h : Hst) : Option (Int32 × Hst) :=
  (gbx (f_X6_move p1 p2 p3 p4 h) (fun x2 h1 =>
    gck 0 1 (gl (hsj h1 25 (0 : Int32).toNatClampNeg (x2.toInt64)) fun h3 =>
    (some (0, h3)))) (fun E h4 =>
    (if E = 0 then
      (some (1, h4))
    else
    (if E = 1 then
      (some (2, h4))
    else
    (if E = 2 then
      (some (3, h4))
    else
    none)))))
set_option maxRecDepth 20000 in
theorem ge_L_move (γ : Gv) (p1 : Int32) (p2 : Int32) (p3 : Int32) (p4 : Int32) (h : Hst) : G γ RL cL_move 7 (some .int) [(0, 14, 17, 19), (0, 14, 21, 21), (0, 14, 25, 13)] vI 8 1 0 (lv_args 0 [.ref (gad γ 0), .int p1, .int p2, .int p3, .int p4, .ref (gad γ 25)]) [] h (f_L_move p1 p2 p3 p4 h) := by
  show G γ RL cL_move 7 (some .int) [(0, 14, 17, 19), (0, 14, 21, 21), (0, 14, 25, 13)] vI 8 1 0 [(0, .ref (gad γ 0)), (1, .int p1), (2, .int p2), (3, .int p3), (4, .int p4), (5, .ref (gad γ 25))] [] h (f_L_move p1 p2 p3 p4 h)
  unfold f_L_move
  refine g_aload (pc := 0) dL_move_0 5 rfl ?_
  refine g_iconst (pc := 2) (v := 0) dL_move_2 (by decide) ?_
  refine g_aload_n (pc := 3) dL_move_3 rfl 0 rfl ?_
  refine g_iload_n (pc := 4) dL_move_4 rfl 1 rfl ?_
  refine g_iload_n (pc := 5) dL_move_5 rfl 2 rfl ?_
  refine g_iload_n (pc := 6) dL_move_6 rfl 3 rfl ?_
  refine g_iload (pc := 7) dL_move_7 4 rfl ?_
  refine g_cIX (pc := 9) (st := [.int 0, .ref (gad γ 25)]) (fun r hr => gRunV (As := [.int p1, .int p2, .int p3, .int p4]) 0 (ge_X6_move γ p1 p2 p3 p4 h) hr wv_RL_45 rfl (Nat.le_of_ble_eq_true rfl) (gat_0 _ _) rfl rfl (Nat.le_of_ble_eq_true rfl) (Nat.le_of_ble_eq_true rfl) dL_move_9) (fun x2 h1 => ?_) (fun E h4 hrun => ?_)
  · refine g_i2l (pc := 12) dL_move_12 ?_
    refine g_last (pc := 13) 25 (gat_25 _ _) (gset_25 _ _ _) dL_move_13 ?_
    refine g_nmh (fun h3 => ?_)
    refine g_goto (pc := 14) (tgt := 29) dL_move_14 (by decide) ?_
    refine g_iconst (pc := 29) (v := 0) dL_move_29 (by decide) ?_
    exact g_ireturn (pc := 30) (ty := .int) dL_move_30 rfl rfl rfl
  · refine g_case (c := E = 0) (fun c => ?_) (fun c => ?_)
    · subst c
      refine gRun.caught (b2 := 0) hrun rfl (by decide) [] ⟨0, 14, 17, 19⟩ [⟨0, 14, 21, 21⟩, ⟨0, 14, 25, 13⟩] rfl (fun z hz => nomatch hz) (by decide) (by decide) wcl_RL_19 wcast_0 (fun q5 => ?_)
      refine g_astore (pc := 17) (lv' := [(6, .ref q5), (0, .ref (gad γ 0)), (1, .int p1), (2, .int p2), (3, .int p3), (4, .int p4), (5, .ref (gad γ 25))]) dL_move_17 (by decide) rfl ?_
      refine g_iconst (pc := 19) (v := 1) dL_move_19 (by decide) ?_
      exact g_ireturn (pc := 20) (ty := .int) dL_move_20 rfl rfl rfl
    refine g_case (c := E = 1) (fun c => ?_) (fun c => ?_)
    · subst c
      refine gRun.caught (b2 := 0) hrun rfl (by decide) [⟨0, 14, 17, 19⟩] ⟨0, 14, 21, 21⟩ [⟨0, 14, 25, 13⟩] rfl (fun z hz => by
            simp only [List.mem_cons, List.not_mem_nil, or_false] at hz
            rcases hz with rfl
            · exact Or.inr ⟨by decide, _, wcl_RL_19, (by decide +kernel : (gexc 1, "java/lang/IndexOutOfBoundsException") ∈ gNcs)⟩) (by decide) (by decide) wcl_RL_21 wcast_1 (fun q6 => ?_)
      refine g_astore (pc := 21) (lv' := [(6, .ref q6), (0, .ref (gad γ 0)), (1, .int p1), (2, .int p2), (3, .int p3), (4, .int p4), (5, .ref (gad γ 25))]) dL_move_21 (by decide) rfl ?_
      refine g_iconst (pc := 23) (v := 2) dL_move_23 (by decide) ?_
      exact g_ireturn (pc := 24) (ty := .int) dL_move_24 rfl rfl rfl
    refine g_case (c := E = 2) (fun c => ?_) (fun c => ?_)
    · subst c
      refine gRun.caught (b2 := 0) hrun rfl (by decide) [⟨0, 14, 17, 19⟩, ⟨0, 14, 21, 21⟩] ⟨0, 14, 25, 13⟩ [] rfl (fun z hz => by
            simp only [List.mem_cons, List.not_mem_nil, or_false] at hz
            rcases hz with rfl | rfl
            · exact Or.inr ⟨by decide, _, wcl_RL_19, (by decide +kernel : (gexc 2, "java/lang/IndexOutOfBoundsException") ∈ gNcs)⟩
            · exact Or.inr ⟨by decide, _, wcl_RL_21, (by decide +kernel : (gexc 2, "java/lang/IllegalArgumentException") ∈ gNcs)⟩) (by decide) (by decide) wcl_RL_13 wcast_2 (fun q7 => ?_)
      refine g_astore (pc := 25) (lv' := [(6, .ref q7), (0, .ref (gad γ 0)), (1, .int p1), (2, .int p2), (3, .int p3), (4, .int p4), (5, .ref (gad γ 25))]) dL_move_25 (by decide) rfl ?_
      refine g_iconst (pc := 27) (v := 3) dL_move_27 (by decide) ?_
      exact g_ireturn (pc := 28) (ty := .int) dL_move_28 rfl rfl rfl
    exact g_none
def f_L_pass (p1 : Int32) (h : Hst) : Option (Int32 × Hst) :=
  (gbx (f_X6_pass p1 h) (fun x2 h1 =>
    gck 0 1 (gl (hsj h1 25 (0 : Int32).toNatClampNeg (x2.toInt64)) fun h3 =>
    (some (0, h3)))) (fun E h4 =>
    (if E = 1 then
      (some (1, h4))
    else
    none)))
set_option maxRecDepth 20000 in
theorem ge_L_pass (γ : Gv) (p1 : Int32) (h : Hst) : G γ RL cL_pass 4 (some .int) [(0, 9, 12, 21)] vI 7 1 0 (lv_args 0 [.ref (gad γ 0), .int p1, .ref (gad γ 25)]) [] h (f_L_pass p1 h) := by
  show G γ RL cL_pass 4 (some .int) [(0, 9, 12, 21)] vI 7 1 0 [(0, .ref (gad γ 0)), (1, .int p1), (2, .ref (gad γ 25))] [] h (f_L_pass p1 h)
  unfold f_L_pass
  refine g_aload_n (pc := 0) dL_pass_0 rfl 2 rfl ?_
  refine g_iconst (pc := 1) (v := 0) dL_pass_1 (by decide) ?_
  refine g_aload_n (pc := 2) dL_pass_2 rfl 0 rfl ?_
  refine g_iload_n (pc := 3) dL_pass_3 rfl 1 rfl ?_
  refine g_cIX (pc := 4) (st := [.int 0, .ref (gad γ 25)]) (fun r hr => gRunV (As := [.int p1]) 0 (ge_X6_pass γ p1 h) hr wv_RL_49 rfl (Nat.le_of_ble_eq_true rfl) (gat_0 _ _) rfl rfl (Nat.le_of_ble_eq_true rfl) (Nat.le_of_ble_eq_true rfl) dL_pass_4) (fun x2 h1 => ?_) (fun E h4 hrun => ?_)
  · refine g_i2l (pc := 7) dL_pass_7 ?_
    refine g_last (pc := 8) 25 (gat_25 _ _) (gset_25 _ _ _) dL_pass_8 ?_
    refine g_nmh (fun h3 => ?_)
    refine g_goto (pc := 9) (tgt := 15) dL_pass_9 (by decide) ?_
    refine g_iconst (pc := 15) (v := 0) dL_pass_15 (by decide) ?_
    exact g_ireturn (pc := 16) (ty := .int) dL_pass_16 rfl rfl rfl
  · refine g_case (c := E = 1) (fun c => ?_) (fun c => ?_)
    · subst c
      refine gRun.caught (b2 := 0) hrun rfl (by decide) [] ⟨0, 9, 12, 21⟩ [] rfl (fun z hz => nomatch hz) (by decide) (by decide) wcl_RL_21 wcast_1 (fun q5 => ?_)
      refine g_astore_n (pc := 12) (lv' := [(3, .ref q5), (0, .ref (gad γ 0)), (1, .int p1), (2, .ref (gad γ 25))]) dL_pass_12 rfl (by decide) rfl ?_
      refine g_iconst (pc := 13) (v := 1) dL_pass_13 (by decide) ?_
      exact g_ireturn (pc := 14) (ty := .int) dL_pass_14 rfl rfl rfl
    exact g_none
def f_L_append (p1 : Int32) (h : Hst) : Option (Int32 × Hst) :=
  (gbx (f_X6_append p1 h) (fun x2 h1 =>
    gck 0 1 (gl (hsj h1 25 (0 : Int32).toNatClampNeg (x2.toInt64)) fun h3 =>
    (some (0, h3)))) (fun E h4 =>
    (if E = 1 then
      (some (1, h4))
    else
    (if E = 2 then
      (some (2, h4))
    else
    none))))
set_option maxRecDepth 20000 in
theorem ge_L_append (γ : Gv) (p1 : Int32) (h : Hst) : G γ RL cL_append 4 (some .int) [(0, 9, 12, 21), (0, 9, 15, 13)] vI 7 1 0 (lv_args 0 [.ref (gad γ 0), .int p1, .ref (gad γ 25)]) [] h (f_L_append p1 h) := by
  show G γ RL cL_append 4 (some .int) [(0, 9, 12, 21), (0, 9, 15, 13)] vI 7 1 0 [(0, .ref (gad γ 0)), (1, .int p1), (2, .ref (gad γ 25))] [] h (f_L_append p1 h)
  unfold f_L_append
  refine g_aload_n (pc := 0) dL_append_0 rfl 2 rfl ?_
  refine g_iconst (pc := 1) (v := 0) dL_append_1 (by decide) ?_
  refine g_aload_n (pc := 2) dL_append_2 rfl 0 rfl ?_
  refine g_iload_n (pc := 3) dL_append_3 rfl 1 rfl ?_
  refine g_cIX (pc := 4) (st := [.int 0, .ref (gad γ 25)]) (fun r hr => gRunV (As := [.int p1]) 0 (ge_X6_append γ p1 h) hr wv_RL_52 rfl (Nat.le_of_ble_eq_true rfl) (gat_0 _ _) rfl rfl (Nat.le_of_ble_eq_true rfl) (Nat.le_of_ble_eq_true rfl) dL_append_4) (fun x2 h1 => ?_) (fun E h4 hrun => ?_)
  · refine g_i2l (pc := 7) dL_append_7 ?_
    refine g_last (pc := 8) 25 (gat_25 _ _) (gset_25 _ _ _) dL_append_8 ?_
    refine g_nmh (fun h3 => ?_)
    refine g_goto (pc := 9) (tgt := 18) dL_append_9 (by decide) ?_
    refine g_iconst (pc := 18) (v := 0) dL_append_18 (by decide) ?_
    exact g_ireturn (pc := 19) (ty := .int) dL_append_19 rfl rfl rfl
  · refine g_case (c := E = 1) (fun c => ?_) (fun c => ?_)
    · subst c
      refine gRun.caught (b2 := 0) hrun rfl (by decide) [] ⟨0, 9, 12, 21⟩ [⟨0, 9, 15, 13⟩] rfl (fun z hz => nomatch hz) (by decide) (by decide) wcl_RL_21 wcast_1 (fun q5 => ?_)
      refine g_astore_n (pc := 12) (lv' := [(3, .ref q5), (0, .ref (gad γ 0)), (1, .int p1), (2, .ref (gad γ 25))]) dL_append_12 rfl (by decide) rfl ?_
      refine g_iconst (pc := 13) (v := 1) dL_append_13 (by decide) ?_
      exact g_ireturn (pc := 14) (ty := .int) dL_append_14 rfl rfl rfl
    refine g_case (c := E = 2) (fun c => ?_) (fun c => ?_)
    · subst c
      refine gRun.caught (b2 := 0) hrun rfl (by decide) [⟨0, 9, 12, 21⟩] ⟨0, 9, 15, 13⟩ [] rfl (fun z hz => by
            simp only [List.mem_cons, List.not_mem_nil, or_false] at hz
            rcases hz with rfl
            · exact Or.inr ⟨by decide, _, wcl_RL_21, (by decide +kernel : (gexc 2, "java/lang/IllegalArgumentException") ∈ gNcs)⟩) (by decide) (by decide) wcl_RL_13 wcast_2 (fun q6 => ?_)
      refine g_astore_n (pc := 15) (lv' := [(3, .ref q6), (0, .ref (gad γ 0)), (1, .int p1), (2, .ref (gad γ 25))]) dL_append_15 rfl (by decide) rfl ?_
      refine g_iconst (pc := 16) (v := 2) dL_append_16 (by decide) ?_
      exact g_ireturn (pc := 17) (ty := .int) dL_append_17 rfl rfl rfl
    exact g_none
def f_L_addSlips  (h : Hst) : Option (Int32 × Hst) :=
  (gbx (f_X6_addSlips h) (fun x2 h1 =>
    gck 0 1 (gl (hsj h1 25 (0 : Int32).toNatClampNeg (x2.toInt64)) fun h3 =>
    (some (0, h3)))) (fun E h4 =>
    (if E = 1 then
      (some (1, h4))
    else
    none)))
set_option maxRecDepth 20000 in
theorem ge_L_addSlips (γ : Gv)  (h : Hst) : G γ RL cL_addSlips 3 (some .int) [(0, 8, 11, 21)] vI 7 1 0 (lv_args 0 [.ref (gad γ 0), .ref (gad γ 25)]) [] h (f_L_addSlips h) := by
  show G γ RL cL_addSlips 3 (some .int) [(0, 8, 11, 21)] vI 7 1 0 [(0, .ref (gad γ 0)), (1, .ref (gad γ 25))] [] h (f_L_addSlips h)
  unfold f_L_addSlips
  refine g_aload_n (pc := 0) dL_addSlips_0 rfl 1 rfl ?_
  refine g_iconst (pc := 1) (v := 0) dL_addSlips_1 (by decide) ?_
  refine g_aload_n (pc := 2) dL_addSlips_2 rfl 0 rfl ?_
  refine g_cIX (pc := 3) (st := [.int 0, .ref (gad γ 25)]) (fun r hr => gRunV (As := []) 0 (ge_X6_addSlips γ h) hr wv_RL_55 rfl (Nat.le_of_ble_eq_true rfl) (gat_0 _ _) rfl rfl (Nat.le_of_ble_eq_true rfl) (Nat.le_of_ble_eq_true rfl) dL_addSlips_3) (fun x2 h1 => ?_) (fun E h4 hrun => ?_)
  · refine g_i2l (pc := 6) dL_addSlips_6 ?_
    refine g_last (pc := 7) 25 (gat_25 _ _) (gset_25 _ _ _) dL_addSlips_7 ?_
    refine g_nmh (fun h3 => ?_)
    refine g_goto (pc := 8) (tgt := 14) dL_addSlips_8 (by decide) ?_
    refine g_iconst (pc := 14) (v := 0) dL_addSlips_14 (by decide) ?_
    exact g_ireturn (pc := 15) (ty := .int) dL_addSlips_15 rfl rfl rfl
  · refine g_case (c := E = 1) (fun c => ?_) (fun c => ?_)
    · subst c
      refine gRun.caught (b2 := 0) hrun rfl (by decide) [] ⟨0, 8, 11, 21⟩ [] rfl (fun z hz => nomatch hz) (by decide) (by decide) wcl_RL_21 wcast_1 (fun q5 => ?_)
      refine g_astore_n (pc := 11) (lv' := [(2, .ref q5), (0, .ref (gad γ 0)), (1, .ref (gad γ 25))]) dL_addSlips_11 rfl (by decide) rfl ?_
      refine g_iconst (pc := 12) (v := 1) dL_addSlips_12 (by decide) ?_
      exact g_ireturn (pc := 13) (ty := .int) dL_addSlips_13 rfl rfl rfl
    exact g_none
def f_L_undo  (h : Hst) : Option (Int32 × Hst) :=
  (gbx (f_X6_undo h) (fun x2 h1 =>
    gck 0 1 (gl (hsj h1 25 (0 : Int32).toNatClampNeg (x2.toInt64)) fun h3 =>
    (some (0, h3)))) (fun E h4 =>
    (if E = 2 then
      (some (1, h4))
    else
    none)))
set_option maxRecDepth 20000 in
theorem ge_L_undo (γ : Gv)  (h : Hst) : G γ RL cL_undo 3 (some .int) [(0, 8, 11, 13)] vI 7 1 0 (lv_args 0 [.ref (gad γ 0), .ref (gad γ 25)]) [] h (f_L_undo h) := by
  show G γ RL cL_undo 3 (some .int) [(0, 8, 11, 13)] vI 7 1 0 [(0, .ref (gad γ 0)), (1, .ref (gad γ 25))] [] h (f_L_undo h)
  unfold f_L_undo
  refine g_aload_n (pc := 0) dL_undo_0 rfl 1 rfl ?_
  refine g_iconst (pc := 1) (v := 0) dL_undo_1 (by decide) ?_
  refine g_aload_n (pc := 2) dL_undo_2 rfl 0 rfl ?_
  refine g_cIX (pc := 3) (st := [.int 0, .ref (gad γ 25)]) (fun r hr => gRunV (As := []) 0 (ge_X6_undo γ h) hr wv_RL_58 rfl (Nat.le_of_ble_eq_true rfl) (gat_0 _ _) rfl rfl (Nat.le_of_ble_eq_true rfl) (Nat.le_of_ble_eq_true rfl) dL_undo_3) (fun x2 h1 => ?_) (fun E h4 hrun => ?_)
  · refine g_i2l (pc := 6) dL_undo_6 ?_
    refine g_last (pc := 7) 25 (gat_25 _ _) (gset_25 _ _ _) dL_undo_7 ?_
    refine g_nmh (fun h3 => ?_)
    refine g_goto (pc := 8) (tgt := 14) dL_undo_8 (by decide) ?_
    refine g_iconst (pc := 14) (v := 0) dL_undo_14 (by decide) ?_
    exact g_ireturn (pc := 15) (ty := .int) dL_undo_15 rfl rfl rfl
  · refine g_case (c := E = 2) (fun c => ?_) (fun c => ?_)
    · subst c
      refine gRun.caught (b2 := 0) hrun rfl (by decide) [] ⟨0, 8, 11, 13⟩ [] rfl (fun z hz => nomatch hz) (by decide) (by decide) wcl_RL_13 wcast_2 (fun q5 => ?_)
      refine g_astore_n (pc := 11) (lv' := [(2, .ref q5), (0, .ref (gad γ 0)), (1, .ref (gad γ 25))]) dL_undo_11 rfl (by decide) rfl ?_
      refine g_iconst (pc := 12) (v := 1) dL_undo_12 (by decide) ?_
      exact g_ireturn (pc := 13) (ty := .int) dL_undo_13 rfl rfl rfl
    exact g_none
def f_L_grower (p1 : Int32) (p2 : Int32) (h : Hst) : Option (Int32 × Hst) :=
  (gbx (f_X6_grower p1 p2 h) (fun x2 h1 =>
    gck 0 1 (gl (hsj h1 25 (0 : Int32).toNatClampNeg (x2.toInt64)) fun h3 =>
    (some (0, h3)))) (fun E h4 =>
    (if E = 0 then
      (some (1, h4))
    else
    (if E = 1 then
      (some (2, h4))
    else
    none))))
set_option maxRecDepth 20000 in
theorem ge_L_grower (γ : Gv) (p1 : Int32) (p2 : Int32) (h : Hst) : G γ RL cL_grower 5 (some .int) [(0, 10, 13, 19), (0, 10, 17, 21)] vI 8 1 0 (lv_args 0 [.ref (gad γ 0), .int p1, .int p2, .ref (gad γ 25)]) [] h (f_L_grower p1 p2 h) := by
  show G γ RL cL_grower 5 (some .int) [(0, 10, 13, 19), (0, 10, 17, 21)] vI 8 1 0 [(0, .ref (gad γ 0)), (1, .int p1), (2, .int p2), (3, .ref (gad γ 25))] [] h (f_L_grower p1 p2 h)
  unfold f_L_grower
  refine g_aload_n (pc := 0) dL_grower_0 rfl 3 rfl ?_
  refine g_iconst (pc := 1) (v := 0) dL_grower_1 (by decide) ?_
  refine g_aload_n (pc := 2) dL_grower_2 rfl 0 rfl ?_
  refine g_iload_n (pc := 3) dL_grower_3 rfl 1 rfl ?_
  refine g_iload_n (pc := 4) dL_grower_4 rfl 2 rfl ?_
  refine g_cIX (pc := 5) (st := [.int 0, .ref (gad γ 25)]) (fun r hr => gRunV (As := [.int p1, .int p2]) 0 (ge_X6_grower γ p1 p2 h) hr wv_RL_61 rfl (Nat.le_of_ble_eq_true rfl) (gat_0 _ _) rfl rfl (Nat.le_of_ble_eq_true rfl) (Nat.le_of_ble_eq_true rfl) dL_grower_5) (fun x2 h1 => ?_) (fun E h4 hrun => ?_)
  · refine g_i2l (pc := 8) dL_grower_8 ?_
    refine g_last (pc := 9) 25 (gat_25 _ _) (gset_25 _ _ _) dL_grower_9 ?_
    refine g_nmh (fun h3 => ?_)
    refine g_goto (pc := 10) (tgt := 21) dL_grower_10 (by decide) ?_
    refine g_iconst (pc := 21) (v := 0) dL_grower_21 (by decide) ?_
    exact g_ireturn (pc := 22) (ty := .int) dL_grower_22 rfl rfl rfl
  · refine g_case (c := E = 0) (fun c => ?_) (fun c => ?_)
    · subst c
      refine gRun.caught (b2 := 0) hrun rfl (by decide) [] ⟨0, 10, 13, 19⟩ [⟨0, 10, 17, 21⟩] rfl (fun z hz => nomatch hz) (by decide) (by decide) wcl_RL_19 wcast_0 (fun q5 => ?_)
      refine g_astore (pc := 13) (lv' := [(4, .ref q5), (0, .ref (gad γ 0)), (1, .int p1), (2, .int p2), (3, .ref (gad γ 25))]) dL_grower_13 (by decide) rfl ?_
      refine g_iconst (pc := 15) (v := 1) dL_grower_15 (by decide) ?_
      exact g_ireturn (pc := 16) (ty := .int) dL_grower_16 rfl rfl rfl
    refine g_case (c := E = 1) (fun c => ?_) (fun c => ?_)
    · subst c
      refine gRun.caught (b2 := 0) hrun rfl (by decide) [⟨0, 10, 13, 19⟩] ⟨0, 10, 17, 21⟩ [] rfl (fun z hz => by
            simp only [List.mem_cons, List.not_mem_nil, or_false] at hz
            rcases hz with rfl
            · exact Or.inr ⟨by decide, _, wcl_RL_19, (by decide +kernel : (gexc 1, "java/lang/IndexOutOfBoundsException") ∈ gNcs)⟩) (by decide) (by decide) wcl_RL_21 wcast_1 (fun q6 => ?_)
      refine g_astore (pc := 17) (lv' := [(4, .ref q6), (0, .ref (gad γ 0)), (1, .int p1), (2, .int p2), (3, .ref (gad γ 25))]) dL_grower_17 (by decide) rfl ?_
      refine g_iconst (pc := 19) (v := 2) dL_grower_19 (by decide) ?_
      exact g_ireturn (pc := 20) (ty := .int) dL_grower_20 rfl rfl rfl
    exact g_none
def f_L_lot (p1 : Int32) (p2 : Int32) (h : Hst) : Option (Int32 × Hst) :=
  (gbx (f_X6_lot p1 p2 h) (fun x2 h1 =>
    gck 0 1 (gl (hsj h1 25 (0 : Int32).toNatClampNeg (x2.toInt64)) fun h3 =>
    (some (0, h3)))) (fun E h4 =>
    (if E = 0 then
      (some (1, h4))
    else
    (if E = 1 then
      (some (2, h4))
    else
    none))))
set_option maxRecDepth 20000 in
theorem ge_L_lot (γ : Gv) (p1 : Int32) (p2 : Int32) (h : Hst) : G γ RL cL_lot 5 (some .int) [(0, 10, 13, 19), (0, 10, 17, 21)] vI 8 1 0 (lv_args 0 [.ref (gad γ 0), .int p1, .int p2, .ref (gad γ 25)]) [] h (f_L_lot p1 p2 h) := by
  show G γ RL cL_lot 5 (some .int) [(0, 10, 13, 19), (0, 10, 17, 21)] vI 8 1 0 [(0, .ref (gad γ 0)), (1, .int p1), (2, .int p2), (3, .ref (gad γ 25))] [] h (f_L_lot p1 p2 h)
  unfold f_L_lot
  refine g_aload_n (pc := 0) dL_lot_0 rfl 3 rfl ?_
  refine g_iconst (pc := 1) (v := 0) dL_lot_1 (by decide) ?_
  refine g_aload_n (pc := 2) dL_lot_2 rfl 0 rfl ?_
  refine g_iload_n (pc := 3) dL_lot_3 rfl 1 rfl ?_
  refine g_iload_n (pc := 4) dL_lot_4 rfl 2 rfl ?_
  refine g_cIX (pc := 5) (st := [.int 0, .ref (gad γ 25)]) (fun r hr => gRunV (As := [.int p1, .int p2]) 0 (ge_X6_lot γ p1 p2 h) hr wv_RL_64 rfl (Nat.le_of_ble_eq_true rfl) (gat_0 _ _) rfl rfl (Nat.le_of_ble_eq_true rfl) (Nat.le_of_ble_eq_true rfl) dL_lot_5) (fun x2 h1 => ?_) (fun E h4 hrun => ?_)
  · refine g_i2l (pc := 8) dL_lot_8 ?_
    refine g_last (pc := 9) 25 (gat_25 _ _) (gset_25 _ _ _) dL_lot_9 ?_
    refine g_nmh (fun h3 => ?_)
    refine g_goto (pc := 10) (tgt := 21) dL_lot_10 (by decide) ?_
    refine g_iconst (pc := 21) (v := 0) dL_lot_21 (by decide) ?_
    exact g_ireturn (pc := 22) (ty := .int) dL_lot_22 rfl rfl rfl
  · refine g_case (c := E = 0) (fun c => ?_) (fun c => ?_)
    · subst c
      refine gRun.caught (b2 := 0) hrun rfl (by decide) [] ⟨0, 10, 13, 19⟩ [⟨0, 10, 17, 21⟩] rfl (fun z hz => nomatch hz) (by decide) (by decide) wcl_RL_19 wcast_0 (fun q5 => ?_)
      refine g_astore (pc := 13) (lv' := [(4, .ref q5), (0, .ref (gad γ 0)), (1, .int p1), (2, .int p2), (3, .ref (gad γ 25))]) dL_lot_13 (by decide) rfl ?_
      refine g_iconst (pc := 15) (v := 1) dL_lot_15 (by decide) ?_
      exact g_ireturn (pc := 16) (ty := .int) dL_lot_16 rfl rfl rfl
    refine g_case (c := E = 1) (fun c => ?_) (fun c => ?_)
    · subst c
      refine gRun.caught (b2 := 0) hrun rfl (by decide) [⟨0, 10, 13, 19⟩] ⟨0, 10, 17, 21⟩ [] rfl (fun z hz => by
            simp only [List.mem_cons, List.not_mem_nil, or_false] at hz
            rcases hz with rfl
            · exact Or.inr ⟨by decide, _, wcl_RL_19, (by decide +kernel : (gexc 1, "java/lang/IndexOutOfBoundsException") ∈ gNcs)⟩) (by decide) (by decide) wcl_RL_21 wcast_1 (fun q6 => ?_)
      refine g_astore (pc := 17) (lv' := [(4, .ref q6), (0, .ref (gad γ 0)), (1, .int p1), (2, .int p2), (3, .ref (gad γ 25))]) dL_lot_17 (by decide) rfl ?_
      refine g_iconst (pc := 19) (v := 2) dL_lot_19 (by decide) ?_
      exact g_ireturn (pc := 20) (ty := .int) dL_lot_20 rfl rfl rfl
    exact g_none
def f_L_tank (p1 : Int32) (p2 : Int32) (h : Hst) : Option (Int32 × Hst) :=
  (gbx (f_X6_tank p1 p2 h) (fun x2 h1 =>
    gck 0 1 (gl (hsj h1 25 (0 : Int32).toNatClampNeg (x2.toInt64)) fun h3 =>
    (some (0, h3)))) (fun E h4 =>
    (if E = 0 then
      (some (1, h4))
    else
    (if E = 1 then
      (some (2, h4))
    else
    none))))
set_option maxRecDepth 20000 in
theorem ge_L_tank (γ : Gv) (p1 : Int32) (p2 : Int32) (h : Hst) : G γ RL cL_tank 5 (some .int) [(0, 10, 13, 19), (0, 10, 17, 21)] vI 8 1 0 (lv_args 0 [.ref (gad γ 0), .int p1, .int p2, .ref (gad γ 25)]) [] h (f_L_tank p1 p2 h) := by
  show G γ RL cL_tank 5 (some .int) [(0, 10, 13, 19), (0, 10, 17, 21)] vI 8 1 0 [(0, .ref (gad γ 0)), (1, .int p1), (2, .int p2), (3, .ref (gad γ 25))] [] h (f_L_tank p1 p2 h)
  unfold f_L_tank
  refine g_aload_n (pc := 0) dL_tank_0 rfl 3 rfl ?_
  refine g_iconst (pc := 1) (v := 0) dL_tank_1 (by decide) ?_
  refine g_aload_n (pc := 2) dL_tank_2 rfl 0 rfl ?_
  refine g_iload_n (pc := 3) dL_tank_3 rfl 1 rfl ?_
  refine g_iload_n (pc := 4) dL_tank_4 rfl 2 rfl ?_
  refine g_cIX (pc := 5) (st := [.int 0, .ref (gad γ 25)]) (fun r hr => gRunV (As := [.int p1, .int p2]) 0 (ge_X6_tank γ p1 p2 h) hr wv_RL_67 rfl (Nat.le_of_ble_eq_true rfl) (gat_0 _ _) rfl rfl (Nat.le_of_ble_eq_true rfl) (Nat.le_of_ble_eq_true rfl) dL_tank_5) (fun x2 h1 => ?_) (fun E h4 hrun => ?_)
  · refine g_i2l (pc := 8) dL_tank_8 ?_
    refine g_last (pc := 9) 25 (gat_25 _ _) (gset_25 _ _ _) dL_tank_9 ?_
    refine g_nmh (fun h3 => ?_)
    refine g_goto (pc := 10) (tgt := 21) dL_tank_10 (by decide) ?_
    refine g_iconst (pc := 21) (v := 0) dL_tank_21 (by decide) ?_
    exact g_ireturn (pc := 22) (ty := .int) dL_tank_22 rfl rfl rfl
  · refine g_case (c := E = 0) (fun c => ?_) (fun c => ?_)
    · subst c
      refine gRun.caught (b2 := 0) hrun rfl (by decide) [] ⟨0, 10, 13, 19⟩ [⟨0, 10, 17, 21⟩] rfl (fun z hz => nomatch hz) (by decide) (by decide) wcl_RL_19 wcast_0 (fun q5 => ?_)
      refine g_astore (pc := 13) (lv' := [(4, .ref q5), (0, .ref (gad γ 0)), (1, .int p1), (2, .int p2), (3, .ref (gad γ 25))]) dL_tank_13 (by decide) rfl ?_
      refine g_iconst (pc := 15) (v := 1) dL_tank_15 (by decide) ?_
      exact g_ireturn (pc := 16) (ty := .int) dL_tank_16 rfl rfl rfl
    refine g_case (c := E = 1) (fun c => ?_) (fun c => ?_)
    · subst c
      refine gRun.caught (b2 := 0) hrun rfl (by decide) [⟨0, 10, 13, 19⟩] ⟨0, 10, 17, 21⟩ [] rfl (fun z hz => by
            simp only [List.mem_cons, List.not_mem_nil, or_false] at hz
            rcases hz with rfl
            · exact Or.inr ⟨by decide, _, wcl_RL_19, (by decide +kernel : (gexc 1, "java/lang/IndexOutOfBoundsException") ∈ gNcs)⟩) (by decide) (by decide) wcl_RL_21 wcast_1 (fun q6 => ?_)
      refine g_astore (pc := 17) (lv' := [(4, .ref q6), (0, .ref (gad γ 0)), (1, .int p1), (2, .int p2), (3, .ref (gad γ 25))]) dL_tank_17 (by decide) rfl ?_
      refine g_iconst (pc := 19) (v := 2) dL_tank_19 (by decide) ?_
      exact g_ireturn (pc := 20) (ty := .int) dL_tank_20 rfl rfl rfl
    exact g_none
def f_L_variety (p1 : Int32) (p2 : Int32) (h : Hst) : Option (Int32 × Hst) :=
  (gbx (f_X6_variety p1 p2 h) (fun x2 h1 =>
    gck 0 1 (gl (hsj h1 25 (0 : Int32).toNatClampNeg (x2.toInt64)) fun h3 =>
    (some (0, h3)))) (fun E h4 =>
    (if E = 0 then
      (some (1, h4))
    else
    (if E = 1 then
      (some (2, h4))
    else
    none))))
set_option maxRecDepth 20000 in
theorem ge_L_variety (γ : Gv) (p1 : Int32) (p2 : Int32) (h : Hst) : G γ RL cL_variety 5 (some .int) [(0, 10, 13, 19), (0, 10, 17, 21)] vI 8 1 0 (lv_args 0 [.ref (gad γ 0), .int p1, .int p2, .ref (gad γ 25)]) [] h (f_L_variety p1 p2 h) := by
  show G γ RL cL_variety 5 (some .int) [(0, 10, 13, 19), (0, 10, 17, 21)] vI 8 1 0 [(0, .ref (gad γ 0)), (1, .int p1), (2, .int p2), (3, .ref (gad γ 25))] [] h (f_L_variety p1 p2 h)
  unfold f_L_variety
  refine g_aload_n (pc := 0) dL_variety_0 rfl 3 rfl ?_
  refine g_iconst (pc := 1) (v := 0) dL_variety_1 (by decide) ?_
  refine g_aload_n (pc := 2) dL_variety_2 rfl 0 rfl ?_
  refine g_iload_n (pc := 3) dL_variety_3 rfl 1 rfl ?_
  refine g_iload_n (pc := 4) dL_variety_4 rfl 2 rfl ?_
  refine g_cIX (pc := 5) (st := [.int 0, .ref (gad γ 25)]) (fun r hr => gRunV (As := [.int p1, .int p2]) 0 (ge_X6_variety γ p1 p2 h) hr wv_RL_70 rfl (Nat.le_of_ble_eq_true rfl) (gat_0 _ _) rfl rfl (Nat.le_of_ble_eq_true rfl) (Nat.le_of_ble_eq_true rfl) dL_variety_5) (fun x2 h1 => ?_) (fun E h4 hrun => ?_)
  · refine g_i2l (pc := 8) dL_variety_8 ?_
    refine g_last (pc := 9) 25 (gat_25 _ _) (gset_25 _ _ _) dL_variety_9 ?_
    refine g_nmh (fun h3 => ?_)
    refine g_goto (pc := 10) (tgt := 21) dL_variety_10 (by decide) ?_
    refine g_iconst (pc := 21) (v := 0) dL_variety_21 (by decide) ?_
    exact g_ireturn (pc := 22) (ty := .int) dL_variety_22 rfl rfl rfl
  · refine g_case (c := E = 0) (fun c => ?_) (fun c => ?_)
    · subst c
      refine gRun.caught (b2 := 0) hrun rfl (by decide) [] ⟨0, 10, 13, 19⟩ [⟨0, 10, 17, 21⟩] rfl (fun z hz => nomatch hz) (by decide) (by decide) wcl_RL_19 wcast_0 (fun q5 => ?_)
      refine g_astore (pc := 13) (lv' := [(4, .ref q5), (0, .ref (gad γ 0)), (1, .int p1), (2, .int p2), (3, .ref (gad γ 25))]) dL_variety_13 (by decide) rfl ?_
      refine g_iconst (pc := 15) (v := 1) dL_variety_15 (by decide) ?_
      exact g_ireturn (pc := 16) (ty := .int) dL_variety_16 rfl rfl rfl
    refine g_case (c := E = 1) (fun c => ?_) (fun c => ?_)
    · subst c
      refine gRun.caught (b2 := 0) hrun rfl (by decide) [⟨0, 10, 13, 19⟩] ⟨0, 10, 17, 21⟩ [] rfl (fun z hz => by
            simp only [List.mem_cons, List.not_mem_nil, or_false] at hz
            rcases hz with rfl
            · exact Or.inr ⟨by decide, _, wcl_RL_19, (by decide +kernel : (gexc 1, "java/lang/IndexOutOfBoundsException") ∈ gNcs)⟩) (by decide) (by decide) wcl_RL_21 wcast_1 (fun q6 => ?_)
      refine g_astore (pc := 17) (lv' := [(4, .ref q6), (0, .ref (gad γ 0)), (1, .int p1), (2, .int p2), (3, .ref (gad γ 25))]) dL_variety_17 (by decide) rfl ?_
      refine g_iconst (pc := 19) (v := 2) dL_variety_19 (by decide) ?_
      exact g_ireturn (pc := 20) (ty := .int) dL_variety_20 rfl rfl rfl
    exact g_none
def f_L_count (p1 : Int32) (h : Hst) : Option (Int32 × Hst) :=
  (gbx (f_X6_count p1 h) (fun x2 h1 =>
    gck 0 1 (gl (hsj h1 25 (0 : Int32).toNatClampNeg (x2.toInt64)) fun h3 =>
    (some (0, h3)))) (fun E h4 =>
    (if E = 1 then
      (some (1, h4))
    else
    none)))
set_option maxRecDepth 20000 in
theorem ge_L_count (γ : Gv) (p1 : Int32) (h : Hst) : G γ RL cL_count 4 (some .int) [(0, 9, 12, 21)] vI 7 1 0 (lv_args 0 [.ref (gad γ 0), .int p1, .ref (gad γ 25)]) [] h (f_L_count p1 h) := by
  show G γ RL cL_count 4 (some .int) [(0, 9, 12, 21)] vI 7 1 0 [(0, .ref (gad γ 0)), (1, .int p1), (2, .ref (gad γ 25))] [] h (f_L_count p1 h)
  unfold f_L_count
  refine g_aload_n (pc := 0) dL_count_0 rfl 2 rfl ?_
  refine g_iconst (pc := 1) (v := 0) dL_count_1 (by decide) ?_
  refine g_aload_n (pc := 2) dL_count_2 rfl 0 rfl ?_
  refine g_iload_n (pc := 3) dL_count_3 rfl 1 rfl ?_
  refine g_cIX (pc := 4) (st := [.int 0, .ref (gad γ 25)]) (fun r hr => gRunV (As := [.int p1]) 0 (ge_X6_count γ p1 h) hr wv_RL_73 rfl (Nat.le_of_ble_eq_true rfl) (gat_0 _ _) rfl rfl (Nat.le_of_ble_eq_true rfl) (Nat.le_of_ble_eq_true rfl) dL_count_4) (fun x2 h1 => ?_) (fun E h4 hrun => ?_)
  · refine g_i2l (pc := 7) dL_count_7 ?_
    refine g_last (pc := 8) 25 (gat_25 _ _) (gset_25 _ _ _) dL_count_8 ?_
    refine g_nmh (fun h3 => ?_)
    refine g_goto (pc := 9) (tgt := 15) dL_count_9 (by decide) ?_
    refine g_iconst (pc := 15) (v := 0) dL_count_15 (by decide) ?_
    exact g_ireturn (pc := 16) (ty := .int) dL_count_16 rfl rfl rfl
  · refine g_case (c := E = 1) (fun c => ?_) (fun c => ?_)
    · subst c
      refine gRun.caught (b2 := 0) hrun rfl (by decide) [] ⟨0, 9, 12, 21⟩ [] rfl (fun z hz => nomatch hz) (by decide) (by decide) wcl_RL_21 wcast_1 (fun q5 => ?_)
      refine g_astore_n (pc := 12) (lv' := [(3, .ref q5), (0, .ref (gad γ 0)), (1, .int p1), (2, .ref (gad γ 25))]) dL_count_12 rfl (by decide) rfl ?_
      refine g_iconst (pc := 13) (v := 1) dL_count_13 (by decide) ?_
      exact g_ireturn (pc := 14) (ty := .int) dL_count_14 rfl rfl rfl
    exact g_none
def f_L_setting (p1 : Int32) (h : Hst) : Option (Int32 × Hst) :=
  (gbx (f_X6_setting p1 h) (fun x2 h1 =>
    gck 0 1 (gl (hsj h1 25 (0 : Int32).toNatClampNeg (x2.toInt64)) fun h3 =>
    (some (0, h3)))) (fun E h4 =>
    (if E = 0 then
      (some (1, h4))
    else
    none)))
set_option maxRecDepth 20000 in
theorem ge_L_setting (γ : Gv) (p1 : Int32) (h : Hst) : G γ RL cL_setting 4 (some .int) [(0, 9, 12, 19)] vI 7 1 0 (lv_args 0 [.ref (gad γ 0), .int p1, .ref (gad γ 25)]) [] h (f_L_setting p1 h) := by
  show G γ RL cL_setting 4 (some .int) [(0, 9, 12, 19)] vI 7 1 0 [(0, .ref (gad γ 0)), (1, .int p1), (2, .ref (gad γ 25))] [] h (f_L_setting p1 h)
  unfold f_L_setting
  refine g_aload_n (pc := 0) dL_setting_0 rfl 2 rfl ?_
  refine g_iconst (pc := 1) (v := 0) dL_setting_1 (by decide) ?_
  refine g_aload_n (pc := 2) dL_setting_2 rfl 0 rfl ?_
  refine g_iload_n (pc := 3) dL_setting_3 rfl 1 rfl ?_
  refine g_cIX (pc := 4) (st := [.int 0, .ref (gad γ 25)]) (fun r hr => gRunV (As := [.int p1]) 0 (ge_X6_setting γ p1 h) hr wv_RL_76 rfl (Nat.le_of_ble_eq_true rfl) (gat_0 _ _) rfl rfl (Nat.le_of_ble_eq_true rfl) (Nat.le_of_ble_eq_true rfl) dL_setting_4) (fun x2 h1 => ?_) (fun E h4 hrun => ?_)
  · refine g_i2l (pc := 7) dL_setting_7 ?_
    refine g_last (pc := 8) 25 (gat_25 _ _) (gset_25 _ _ _) dL_setting_8 ?_
    refine g_nmh (fun h3 => ?_)
    refine g_goto (pc := 9) (tgt := 15) dL_setting_9 (by decide) ?_
    refine g_iconst (pc := 15) (v := 0) dL_setting_15 (by decide) ?_
    exact g_ireturn (pc := 16) (ty := .int) dL_setting_16 rfl rfl rfl
  · refine g_case (c := E = 0) (fun c => ?_) (fun c => ?_)
    · subst c
      refine gRun.caught (b2 := 0) hrun rfl (by decide) [] ⟨0, 9, 12, 19⟩ [] rfl (fun z hz => nomatch hz) (by decide) (by decide) wcl_RL_19 wcast_0 (fun q5 => ?_)
      refine g_astore_n (pc := 12) (lv' := [(3, .ref q5), (0, .ref (gad γ 0)), (1, .int p1), (2, .ref (gad γ 25))]) dL_setting_12 rfl (by decide) rfl ?_
      refine g_iconst (pc := 13) (v := 1) dL_setting_13 (by decide) ?_
      exact g_ireturn (pc := 14) (ty := .int) dL_setting_14 rfl rfl rfl
    exact g_none
def f_L_whyNot (p1 : Int32) (p2 : Int32) (h : Hst) : Option (Int32 × Hst) :=
  (gbx (f_X6_whyNot p1 p2 h) (fun x2 h1 =>
    gck 0 1 (gl (hsj h1 25 (0 : Int32).toNatClampNeg (x2.toInt64)) fun h3 =>
    (some (0, h3)))) (fun E h4 =>
    (if E = 0 then
      (some (1, h4))
    else
    none)))
set_option maxRecDepth 20000 in
theorem ge_L_whyNot (γ : Gv) (p1 : Int32) (p2 : Int32) (h : Hst) : G γ RL cL_whyNot 5 (some .int) [(0, 10, 13, 19)] vI 8 1 0 (lv_args 0 [.ref (gad γ 0), .int p1, .int p2, .ref (gad γ 25)]) [] h (f_L_whyNot p1 p2 h) := by
  show G γ RL cL_whyNot 5 (some .int) [(0, 10, 13, 19)] vI 8 1 0 [(0, .ref (gad γ 0)), (1, .int p1), (2, .int p2), (3, .ref (gad γ 25))] [] h (f_L_whyNot p1 p2 h)
  unfold f_L_whyNot
  refine g_aload_n (pc := 0) dL_whyNot_0 rfl 3 rfl ?_
  refine g_iconst (pc := 1) (v := 0) dL_whyNot_1 (by decide) ?_
  refine g_aload_n (pc := 2) dL_whyNot_2 rfl 0 rfl ?_
  refine g_iload_n (pc := 3) dL_whyNot_3 rfl 1 rfl ?_
  refine g_iload_n (pc := 4) dL_whyNot_4 rfl 2 rfl ?_
  refine g_cIX (pc := 5) (st := [.int 0, .ref (gad γ 25)]) (fun r hr => gRunV (As := [.int p1, .int p2]) 0 (ge_X6_whyNot γ p1 p2 h) hr wv_RL_79 rfl (Nat.le_of_ble_eq_true rfl) (gat_0 _ _) rfl rfl (Nat.le_of_ble_eq_true rfl) (Nat.le_of_ble_eq_true rfl) dL_whyNot_5) (fun x2 h1 => ?_) (fun E h4 hrun => ?_)
  · refine g_i2l (pc := 8) dL_whyNot_8 ?_
    refine g_last (pc := 9) 25 (gat_25 _ _) (gset_25 _ _ _) dL_whyNot_9 ?_
    refine g_nmh (fun h3 => ?_)
    refine g_goto (pc := 10) (tgt := 17) dL_whyNot_10 (by decide) ?_
    refine g_iconst (pc := 17) (v := 0) dL_whyNot_17 (by decide) ?_
    exact g_ireturn (pc := 18) (ty := .int) dL_whyNot_18 rfl rfl rfl
  · refine g_case (c := E = 0) (fun c => ?_) (fun c => ?_)
    · subst c
      refine gRun.caught (b2 := 0) hrun rfl (by decide) [] ⟨0, 10, 13, 19⟩ [] rfl (fun z hz => nomatch hz) (by decide) (by decide) wcl_RL_19 wcast_0 (fun q5 => ?_)
      refine g_astore (pc := 13) (lv' := [(4, .ref q5), (0, .ref (gad γ 0)), (1, .int p1), (2, .int p2), (3, .ref (gad γ 25))]) dL_whyNot_13 (by decide) rfl ?_
      refine g_iconst (pc := 15) (v := 1) dL_whyNot_15 (by decide) ?_
      exact g_ireturn (pc := 16) (ty := .int) dL_whyNot_16 rfl rfl rfl
    exact g_none
def f_L_next (p1 : Int32) (h : Hst) : Option (Int32 × Hst) :=
  (gbx (f_X6_next p1 h) (fun x2 h1 =>
    gck 0 1 (gl (hsj h1 25 (0 : Int32).toNatClampNeg (x2.toInt64)) fun h3 =>
    (some (0, h3)))) (fun E h4 =>
    (if E = 1 then
      (some (1, h4))
    else
    none)))
set_option maxRecDepth 20000 in
theorem ge_L_next (γ : Gv) (p1 : Int32) (h : Hst) : G γ RL cL_next 4 (some .int) [(0, 9, 12, 21)] vI 7 1 0 (lv_args 0 [.ref (gad γ 0), .int p1, .ref (gad γ 25)]) [] h (f_L_next p1 h) := by
  show G γ RL cL_next 4 (some .int) [(0, 9, 12, 21)] vI 7 1 0 [(0, .ref (gad γ 0)), (1, .int p1), (2, .ref (gad γ 25))] [] h (f_L_next p1 h)
  unfold f_L_next
  refine g_aload_n (pc := 0) dL_next_0 rfl 2 rfl ?_
  refine g_iconst (pc := 1) (v := 0) dL_next_1 (by decide) ?_
  refine g_aload_n (pc := 2) dL_next_2 rfl 0 rfl ?_
  refine g_iload_n (pc := 3) dL_next_3 rfl 1 rfl ?_
  refine g_cIX (pc := 4) (st := [.int 0, .ref (gad γ 25)]) (fun r hr => gRunV (As := [.int p1]) 0 (ge_X6_next γ p1 h) hr wv_RL_82 rfl (Nat.le_of_ble_eq_true rfl) (gat_0 _ _) rfl rfl (Nat.le_of_ble_eq_true rfl) (Nat.le_of_ble_eq_true rfl) dL_next_4) (fun x2 h1 => ?_) (fun E h4 hrun => ?_)
  · refine g_i2l (pc := 7) dL_next_7 ?_
    refine g_last (pc := 8) 25 (gat_25 _ _) (gset_25 _ _ _) dL_next_8 ?_
    refine g_nmh (fun h3 => ?_)
    refine g_goto (pc := 9) (tgt := 15) dL_next_9 (by decide) ?_
    refine g_iconst (pc := 15) (v := 0) dL_next_15 (by decide) ?_
    exact g_ireturn (pc := 16) (ty := .int) dL_next_16 rfl rfl rfl
  · refine g_case (c := E = 1) (fun c => ?_) (fun c => ?_)
    · subst c
      refine gRun.caught (b2 := 0) hrun rfl (by decide) [] ⟨0, 9, 12, 21⟩ [] rfl (fun z hz => nomatch hz) (by decide) (by decide) wcl_RL_21 wcast_1 (fun q5 => ?_)
      refine g_astore_n (pc := 12) (lv' := [(3, .ref q5), (0, .ref (gad γ 0)), (1, .int p1), (2, .ref (gad γ 25))]) dL_next_12 rfl (by decide) rfl ?_
      refine g_iconst (pc := 13) (v := 1) dL_next_13 (by decide) ?_
      exact g_ireturn (pc := 14) (ty := .int) dL_next_14 rfl rfl rfl
    exact g_none
def f_L_taken (p1 : Int32) (p2 : Int32) (p3 : Int32) (h : Hst) : Option (Int32 × Hst) :=
  (gbx (f_X6_taken p1 p2 p3 h) (fun x2 h1 =>
    gck 0 1 (gl (hsj h1 25 (0 : Int32).toNatClampNeg (x2.toInt64)) fun h3 =>
    (some (0, h3)))) (fun E h4 =>
    (if E = 0 then
      (some (1, h4))
    else
    (if E = 1 then
      (some (2, h4))
    else
    none))))
set_option maxRecDepth 20000 in
theorem ge_L_taken (γ : Gv) (p1 : Int32) (p2 : Int32) (p3 : Int32) (h : Hst) : G γ RL cL_taken 6 (some .int) [(0, 12, 15, 19), (0, 12, 19, 21)] vI 8 1 0 (lv_args 0 [.ref (gad γ 0), .int p1, .int p2, .int p3, .ref (gad γ 25)]) [] h (f_L_taken p1 p2 p3 h) := by
  show G γ RL cL_taken 6 (some .int) [(0, 12, 15, 19), (0, 12, 19, 21)] vI 8 1 0 [(0, .ref (gad γ 0)), (1, .int p1), (2, .int p2), (3, .int p3), (4, .ref (gad γ 25))] [] h (f_L_taken p1 p2 p3 h)
  unfold f_L_taken
  refine g_aload (pc := 0) dL_taken_0 4 rfl ?_
  refine g_iconst (pc := 2) (v := 0) dL_taken_2 (by decide) ?_
  refine g_aload_n (pc := 3) dL_taken_3 rfl 0 rfl ?_
  refine g_iload_n (pc := 4) dL_taken_4 rfl 1 rfl ?_
  refine g_iload_n (pc := 5) dL_taken_5 rfl 2 rfl ?_
  refine g_iload_n (pc := 6) dL_taken_6 rfl 3 rfl ?_
  refine g_cIX (pc := 7) (st := [.int 0, .ref (gad γ 25)]) (fun r hr => gRunV (As := [.int p1, .int p2, .int p3]) 0 (ge_X6_taken γ p1 p2 p3 h) hr wv_RL_85 rfl (Nat.le_of_ble_eq_true rfl) (gat_0 _ _) rfl rfl (Nat.le_of_ble_eq_true rfl) (Nat.le_of_ble_eq_true rfl) dL_taken_7) (fun x2 h1 => ?_) (fun E h4 hrun => ?_)
  · refine g_i2l (pc := 10) dL_taken_10 ?_
    refine g_last (pc := 11) 25 (gat_25 _ _) (gset_25 _ _ _) dL_taken_11 ?_
    refine g_nmh (fun h3 => ?_)
    refine g_goto (pc := 12) (tgt := 23) dL_taken_12 (by decide) ?_
    refine g_iconst (pc := 23) (v := 0) dL_taken_23 (by decide) ?_
    exact g_ireturn (pc := 24) (ty := .int) dL_taken_24 rfl rfl rfl
  · refine g_case (c := E = 0) (fun c => ?_) (fun c => ?_)
    · subst c
      refine gRun.caught (b2 := 0) hrun rfl (by decide) [] ⟨0, 12, 15, 19⟩ [⟨0, 12, 19, 21⟩] rfl (fun z hz => nomatch hz) (by decide) (by decide) wcl_RL_19 wcast_0 (fun q5 => ?_)
      refine g_astore (pc := 15) (lv' := [(5, .ref q5), (0, .ref (gad γ 0)), (1, .int p1), (2, .int p2), (3, .int p3), (4, .ref (gad γ 25))]) dL_taken_15 (by decide) rfl ?_
      refine g_iconst (pc := 17) (v := 1) dL_taken_17 (by decide) ?_
      exact g_ireturn (pc := 18) (ty := .int) dL_taken_18 rfl rfl rfl
    refine g_case (c := E = 1) (fun c => ?_) (fun c => ?_)
    · subst c
      refine gRun.caught (b2 := 0) hrun rfl (by decide) [⟨0, 12, 15, 19⟩] ⟨0, 12, 19, 21⟩ [] rfl (fun z hz => by
            simp only [List.mem_cons, List.not_mem_nil, or_false] at hz
            rcases hz with rfl
            · exact Or.inr ⟨by decide, _, wcl_RL_19, (by decide +kernel : (gexc 1, "java/lang/IndexOutOfBoundsException") ∈ gNcs)⟩) (by decide) (by decide) wcl_RL_21 wcast_1 (fun q6 => ?_)
      refine g_astore (pc := 19) (lv' := [(5, .ref q6), (0, .ref (gad γ 0)), (1, .int p1), (2, .int p2), (3, .int p3), (4, .ref (gad γ 25))]) dL_taken_19 (by decide) rfl ?_
      refine g_iconst (pc := 21) (v := 2) dL_taken_21 (by decide) ?_
      exact g_ireturn (pc := 22) (ty := .int) dL_taken_22 rfl rfl rfl
    exact g_none
def f_L_oilIn (p1 : Int32) (p2 : Int32) (h : Hst) : Option (Int32 × Hst) :=
  (gbx (f_X6_oilIn p1 p2 h) (fun x2 h1 =>
    gck 0 1 (gl (hsj h1 25 (0 : Int32).toNatClampNeg (x2.toInt64)) fun h3 =>
    (some (0, h3)))) (fun E h4 =>
    (if E = 0 then
      (some (1, h4))
    else
    (if E = 1 then
      (some (2, h4))
    else
    none))))
set_option maxRecDepth 20000 in
theorem ge_L_oilIn (γ : Gv) (p1 : Int32) (p2 : Int32) (h : Hst) : G γ RL cL_oilIn 5 (some .int) [(0, 10, 13, 19), (0, 10, 17, 21)] vI 8 1 0 (lv_args 0 [.ref (gad γ 0), .int p1, .int p2, .ref (gad γ 25)]) [] h (f_L_oilIn p1 p2 h) := by
  show G γ RL cL_oilIn 5 (some .int) [(0, 10, 13, 19), (0, 10, 17, 21)] vI 8 1 0 [(0, .ref (gad γ 0)), (1, .int p1), (2, .int p2), (3, .ref (gad γ 25))] [] h (f_L_oilIn p1 p2 h)
  unfold f_L_oilIn
  refine g_aload_n (pc := 0) dL_oilIn_0 rfl 3 rfl ?_
  refine g_iconst (pc := 1) (v := 0) dL_oilIn_1 (by decide) ?_
  refine g_aload_n (pc := 2) dL_oilIn_2 rfl 0 rfl ?_
  refine g_iload_n (pc := 3) dL_oilIn_3 rfl 1 rfl ?_
  refine g_iload_n (pc := 4) dL_oilIn_4 rfl 2 rfl ?_
  refine g_cIX (pc := 5) (st := [.int 0, .ref (gad γ 25)]) (fun r hr => gRunV (As := [.int p1, .int p2]) 0 (ge_X6_oilIn γ p1 p2 h) hr wv_RL_88 rfl (Nat.le_of_ble_eq_true rfl) (gat_0 _ _) rfl rfl (Nat.le_of_ble_eq_true rfl) (Nat.le_of_ble_eq_true rfl) dL_oilIn_5) (fun x2 h1 => ?_) (fun E h4 hrun => ?_)
  · refine g_i2l (pc := 8) dL_oilIn_8 ?_
    refine g_last (pc := 9) 25 (gat_25 _ _) (gset_25 _ _ _) dL_oilIn_9 ?_
    refine g_nmh (fun h3 => ?_)
    refine g_goto (pc := 10) (tgt := 21) dL_oilIn_10 (by decide) ?_
    refine g_iconst (pc := 21) (v := 0) dL_oilIn_21 (by decide) ?_
    exact g_ireturn (pc := 22) (ty := .int) dL_oilIn_22 rfl rfl rfl
  · refine g_case (c := E = 0) (fun c => ?_) (fun c => ?_)
    · subst c
      refine gRun.caught (b2 := 0) hrun rfl (by decide) [] ⟨0, 10, 13, 19⟩ [⟨0, 10, 17, 21⟩] rfl (fun z hz => nomatch hz) (by decide) (by decide) wcl_RL_19 wcast_0 (fun q5 => ?_)
      refine g_astore (pc := 13) (lv' := [(4, .ref q5), (0, .ref (gad γ 0)), (1, .int p1), (2, .int p2), (3, .ref (gad γ 25))]) dL_oilIn_13 (by decide) rfl ?_
      refine g_iconst (pc := 15) (v := 1) dL_oilIn_15 (by decide) ?_
      exact g_ireturn (pc := 16) (ty := .int) dL_oilIn_16 rfl rfl rfl
    refine g_case (c := E = 1) (fun c => ?_) (fun c => ?_)
    · subst c
      refine gRun.caught (b2 := 0) hrun rfl (by decide) [⟨0, 10, 13, 19⟩] ⟨0, 10, 17, 21⟩ [] rfl (fun z hz => by
            simp only [List.mem_cons, List.not_mem_nil, or_false] at hz
            rcases hz with rfl
            · exact Or.inr ⟨by decide, _, wcl_RL_19, (by decide +kernel : (gexc 1, "java/lang/IndexOutOfBoundsException") ∈ gNcs)⟩) (by decide) (by decide) wcl_RL_21 wcast_1 (fun q6 => ?_)
      refine g_astore (pc := 17) (lv' := [(4, .ref q6), (0, .ref (gad γ 0)), (1, .int p1), (2, .int p2), (3, .ref (gad γ 25))]) dL_oilIn_17 (by decide) rfl ?_
      refine g_iconst (pc := 19) (v := 2) dL_oilIn_19 (by decide) ?_
      exact g_ireturn (pc := 20) (ty := .int) dL_oilIn_20 rfl rfl rfl
    exact g_none
def f_L_lossBy (p1 : Int32) (h : Hst) : Option (Int32 × Hst) :=
  (gbx (f_X6_lossBy p1 h) (fun x2 h1 =>
    gck 0 1 (gl (hsj h1 25 (0 : Int32).toNatClampNeg (x2.toInt64)) fun h3 =>
    (some (0, h3)))) (fun E h4 =>
    (if E = 1 then
      (some (1, h4))
    else
    none)))
set_option maxRecDepth 20000 in
theorem ge_L_lossBy (γ : Gv) (p1 : Int32) (h : Hst) : G γ RL cL_lossBy 4 (some .int) [(0, 9, 12, 21)] vI 7 1 0 (lv_args 0 [.ref (gad γ 0), .int p1, .ref (gad γ 25)]) [] h (f_L_lossBy p1 h) := by
  show G γ RL cL_lossBy 4 (some .int) [(0, 9, 12, 21)] vI 7 1 0 [(0, .ref (gad γ 0)), (1, .int p1), (2, .ref (gad γ 25))] [] h (f_L_lossBy p1 h)
  unfold f_L_lossBy
  refine g_aload_n (pc := 0) dL_lossBy_0 rfl 2 rfl ?_
  refine g_iconst (pc := 1) (v := 0) dL_lossBy_1 (by decide) ?_
  refine g_aload_n (pc := 2) dL_lossBy_2 rfl 0 rfl ?_
  refine g_iload_n (pc := 3) dL_lossBy_3 rfl 1 rfl ?_
  refine g_cIX (pc := 4) (st := [.int 0, .ref (gad γ 25)]) (fun r hr => gRunV (As := [.int p1]) 0 (ge_X6_lossBy γ p1 h) hr wv_RL_91 rfl (Nat.le_of_ble_eq_true rfl) (gat_0 _ _) rfl rfl (Nat.le_of_ble_eq_true rfl) (Nat.le_of_ble_eq_true rfl) dL_lossBy_4) (fun x2 h1 => ?_) (fun E h4 hrun => ?_)
  · refine g_i2l (pc := 7) dL_lossBy_7 ?_
    refine g_last (pc := 8) 25 (gat_25 _ _) (gset_25 _ _ _) dL_lossBy_8 ?_
    refine g_nmh (fun h3 => ?_)
    refine g_goto (pc := 9) (tgt := 15) dL_lossBy_9 (by decide) ?_
    refine g_iconst (pc := 15) (v := 0) dL_lossBy_15 (by decide) ?_
    exact g_ireturn (pc := 16) (ty := .int) dL_lossBy_16 rfl rfl rfl
  · refine g_case (c := E = 1) (fun c => ?_) (fun c => ?_)
    · subst c
      refine gRun.caught (b2 := 0) hrun rfl (by decide) [] ⟨0, 9, 12, 21⟩ [] rfl (fun z hz => nomatch hz) (by decide) (by decide) wcl_RL_21 wcast_1 (fun q5 => ?_)
      refine g_astore_n (pc := 12) (lv' := [(3, .ref q5), (0, .ref (gad γ 0)), (1, .int p1), (2, .ref (gad γ 25))]) dL_lossBy_12 rfl (by decide) rfl ?_
      refine g_iconst (pc := 13) (v := 1) dL_lossBy_13 (by decide) ?_
      exact g_ireturn (pc := 14) (ty := .int) dL_lossBy_14 rfl rfl rfl
    exact g_none
def jb_L_law_1879 (xs : Nat → Int32) (Lx : Nat) (R23 : Int32 → Hst → Option (Int32 × Hst)) (a4 : Int32) (h : Hst) : Option (Int32 × Hst) :=
  (R23 (a4 + 6) h)
def jb_L_law_217 (xs : Nat → Int32) (Lx : Nat) (R23 : Int32 → Hst → Option (Int32 × Hst)) (a4 : Int32) (h : Hst) : Option (Int32 × Hst) :=
  (jb_L_law_1879 xs Lx R23 a4 h)
def jb_L_law_321 (xs : Nat → Int32) (Lx : Nat) (R23 : Int32 → Hst → Option (Int32 × Hst)) (a4 : Int32) (h : Hst) : Option (Int32 × Hst) :=
  (jb_L_law_1879 xs Lx R23 a4 h)
def jb_L_law_377 (xs : Nat → Int32) (Lx : Nat) (R23 : Int32 → Hst → Option (Int32 × Hst)) (a4 : Int32) (h : Hst) : Option (Int32 × Hst) :=
  (jb_L_law_1879 xs Lx R23 a4 h)
def jb_L_law_445 (xs : Nat → Int32) (Lx : Nat) (R23 : Int32 → Hst → Option (Int32 × Hst)) (a4 : Int32) (h : Hst) : Option (Int32 × Hst) :=
  (jb_L_law_1879 xs Lx R23 a4 h)
def jb_L_law_513 (xs : Nat → Int32) (Lx : Nat) (R23 : Int32 → Hst → Option (Int32 × Hst)) (a4 : Int32) (h : Hst) : Option (Int32 × Hst) :=
  (jb_L_law_1879 xs Lx R23 a4 h)
def jb_L_law_597 (xs : Nat → Int32) (Lx : Nat) (R23 : Int32 → Hst → Option (Int32 × Hst)) (a4 : Int32) (h : Hst) : Option (Int32 × Hst) :=
  (jb_L_law_1879 xs Lx R23 a4 h)
def jb_L_law_564 (xs : Nat → Int32) (Lx : Nat) (R23 : Int32 → Hst → Option (Int32 × Hst)) (a4 : Int32) (a5 : Int32) (s0 : Int32) (s1 : Int32) (h : Hst) : Option (Int32 × Hst) :=
  gb (f_X7_press s1 s0 h) fun x2 h1 =>
  gb (f_X7_thrown h1) fun x4 h3 =>
  (if x4 = a5 then
    (if a5 = 0 then
      gck 0 1 ((if (lg_cmp (h3.2 25 (0 : Int32).toNatClampNeg) (x2.toInt64)) = 0 then
        (jb_L_law_597 xs Lx R23 a4 h3)
      else
        (gzr 0 (some (0, h3)))))
    else
      (jb_L_law_597 xs Lx R23 a4 h3))
  else
    (gzr 0 (some (0, h3))))
def jb_L_law_537 (xs : Nat → Int32) (Lx : Nat) (R23 : Int32 → Hst → Option (Int32 × Hst)) (a4 : Int32) (s0 : Int32) (s1 : Int32) (h : Hst) : Option (Int32 × Hst) :=
  gb (f_L_press s1 s0 h) fun x2 h1 =>
  gck (a4 + 1) Lx (gck (a4 + 2) Lx ((if (xs (a4 + 2).toNatClampNeg) = 0 then
    (jb_L_law_564 xs Lx R23 a4 x2 0 (xs (a4 + 1).toNatClampNeg) h1)
  else
    (jb_L_law_564 xs Lx R23 a4 x2 1 (xs (a4 + 1).toNatClampNeg) h1))))
def jb_L_law_666 (xs : Nat → Int32) (Lx : Nat) (R23 : Int32 → Hst → Option (Int32 × Hst)) (a4 : Int32) (h : Hst) : Option (Int32 × Hst) :=
  (jb_L_law_1879 xs Lx R23 a4 h)
def jb_L_law_746 (xs : Nat → Int32) (Lx : Nat) (R23 : Int32 → Hst → Option (Int32 × Hst)) (a4 : Int32) (h : Hst) : Option (Int32 × Hst) :=
  (jb_L_law_1879 xs Lx R23 a4 h)
def jb_L_law_854 (xs : Nat → Int32) (Lx : Nat) (R23 : Int32 → Hst → Option (Int32 × Hst)) (a4 : Int32) (h : Hst) : Option (Int32 × Hst) :=
  (jb_L_law_1879 xs Lx R23 a4 h)
def jb_L_law_821 (xs : Nat → Int32) (Lx : Nat) (R23 : Int32 → Hst → Option (Int32 × Hst)) (a4 : Int32) (a5 : Int32) (s0 : Int32) (s1 : Int32) (s2 : Int32) (s3 : Int32) (h : Hst) : Option (Int32 × Hst) :=
  gb (f_X7_move s3 s2 s1 s0 h) fun x2 h1 =>
  gb (f_X7_thrown h1) fun x4 h3 =>
  (if x4 = a5 then
    (if a5 = 0 then
      gck 0 1 ((if (lg_cmp (h3.2 25 (0 : Int32).toNatClampNeg) (x2.toInt64)) = 0 then
        (jb_L_law_854 xs Lx R23 a4 h3)
      else
        (gzr 0 (some (0, h3)))))
    else
      (jb_L_law_854 xs Lx R23 a4 h3))
  else
    (gzr 0 (some (0, h3))))
def jb_L_law_782 (xs : Nat → Int32) (Lx : Nat) (R23 : Int32 → Hst → Option (Int32 × Hst)) (a4 : Int32) (s0 : Int32) (s1 : Int32) (s2 : Int32) (s3 : Int32) (h : Hst) : Option (Int32 × Hst) :=
  gb (f_L_move s3 s2 s1 s0 h) fun x2 h1 =>
  gck (a4 + 1) Lx (gck (a4 + 2) Lx (gck (a4 + 3) Lx (gck (a4 + 4) Lx ((if (xs (a4 + 4).toNatClampNeg) = 0 then
    (jb_L_law_821 xs Lx R23 a4 x2 0 (xs (a4 + 3).toNatClampNeg) (xs (a4 + 2).toNatClampNeg) (xs (a4 + 1).toNatClampNeg) h1)
  else
    (jb_L_law_821 xs Lx R23 a4 x2 1 (xs (a4 + 3).toNatClampNeg) (xs (a4 + 2).toNatClampNeg) (xs (a4 + 1).toNatClampNeg) h1))))))
def jb_L_law_910 (xs : Nat → Int32) (Lx : Nat) (R23 : Int32 → Hst → Option (Int32 × Hst)) (a4 : Int32) (h : Hst) : Option (Int32 × Hst) :=
  (jb_L_law_1879 xs Lx R23 a4 h)
def jb_L_law_966 (xs : Nat → Int32) (Lx : Nat) (R23 : Int32 → Hst → Option (Int32 × Hst)) (a4 : Int32) (h : Hst) : Option (Int32 × Hst) :=
  (jb_L_law_1879 xs Lx R23 a4 h)
def jb_L_law_1036 (xs : Nat → Int32) (Lx : Nat) (R23 : Int32 → Hst → Option (Int32 × Hst)) (a4 : Int32) (h : Hst) : Option (Int32 × Hst) :=
  (jb_L_law_1879 xs Lx R23 a4 h)
def jb_L_law_1080 (xs : Nat → Int32) (Lx : Nat) (R23 : Int32 → Hst → Option (Int32 × Hst)) (a4 : Int32) (h : Hst) : Option (Int32 × Hst) :=
  (jb_L_law_1879 xs Lx R23 a4 h)
def jb_L_law_1148 (xs : Nat → Int32) (Lx : Nat) (R23 : Int32 → Hst → Option (Int32 × Hst)) (a4 : Int32) (h : Hst) : Option (Int32 × Hst) :=
  (jb_L_law_1879 xs Lx R23 a4 h)
def jb_L_law_1216 (xs : Nat → Int32) (Lx : Nat) (R23 : Int32 → Hst → Option (Int32 × Hst)) (a4 : Int32) (h : Hst) : Option (Int32 × Hst) :=
  (jb_L_law_1879 xs Lx R23 a4 h)
def jb_L_law_1284 (xs : Nat → Int32) (Lx : Nat) (R23 : Int32 → Hst → Option (Int32 × Hst)) (a4 : Int32) (h : Hst) : Option (Int32 × Hst) :=
  (jb_L_law_1879 xs Lx R23 a4 h)
def jb_L_law_1352 (xs : Nat → Int32) (Lx : Nat) (R23 : Int32 → Hst → Option (Int32 × Hst)) (a4 : Int32) (h : Hst) : Option (Int32 × Hst) :=
  (jb_L_law_1879 xs Lx R23 a4 h)
def jb_L_law_1408 (xs : Nat → Int32) (Lx : Nat) (R23 : Int32 → Hst → Option (Int32 × Hst)) (a4 : Int32) (h : Hst) : Option (Int32 × Hst) :=
  (jb_L_law_1879 xs Lx R23 a4 h)
def jb_L_law_1464 (xs : Nat → Int32) (Lx : Nat) (R23 : Int32 → Hst → Option (Int32 × Hst)) (a4 : Int32) (h : Hst) : Option (Int32 × Hst) :=
  (jb_L_law_1879 xs Lx R23 a4 h)
def jb_L_law_1548 (xs : Nat → Int32) (Lx : Nat) (R23 : Int32 → Hst → Option (Int32 × Hst)) (a4 : Int32) (h : Hst) : Option (Int32 × Hst) :=
  (jb_L_law_1879 xs Lx R23 a4 h)
def jb_L_law_1515 (xs : Nat → Int32) (Lx : Nat) (R23 : Int32 → Hst → Option (Int32 × Hst)) (a4 : Int32) (a5 : Int32) (s0 : Int32) (s1 : Int32) (h : Hst) : Option (Int32 × Hst) :=
  gb (f_X7_whyNot s1 s0 h) fun x2 h1 =>
  gb (f_X7_thrown h1) fun x4 h3 =>
  (if x4 = a5 then
    (if a5 = 0 then
      gck 0 1 ((if (lg_cmp (h3.2 25 (0 : Int32).toNatClampNeg) (x2.toInt64)) = 0 then
        (jb_L_law_1548 xs Lx R23 a4 h3)
      else
        (gzr 0 (some (0, h3)))))
    else
      (jb_L_law_1548 xs Lx R23 a4 h3))
  else
    (gzr 0 (some (0, h3))))
def jb_L_law_1488 (xs : Nat → Int32) (Lx : Nat) (R23 : Int32 → Hst → Option (Int32 × Hst)) (a4 : Int32) (s0 : Int32) (s1 : Int32) (h : Hst) : Option (Int32 × Hst) :=
  gb (f_L_whyNot s1 s0 h) fun x2 h1 =>
  gck (a4 + 1) Lx (gck (a4 + 2) Lx ((if (xs (a4 + 2).toNatClampNeg) = 0 then
    (jb_L_law_1515 xs Lx R23 a4 x2 0 (xs (a4 + 1).toNatClampNeg) h1)
  else
    (jb_L_law_1515 xs Lx R23 a4 x2 1 (xs (a4 + 1).toNatClampNeg) h1))))
def jb_L_law_1604 (xs : Nat → Int32) (Lx : Nat) (R23 : Int32 → Hst → Option (Int32 × Hst)) (a4 : Int32) (h : Hst) : Option (Int32 × Hst) :=
  (jb_L_law_1879 xs Lx R23 a4 h)
def jb_L_law_1684 (xs : Nat → Int32) (Lx : Nat) (R23 : Int32 → Hst → Option (Int32 × Hst)) (a4 : Int32) (h : Hst) : Option (Int32 × Hst) :=
  (jb_L_law_1879 xs Lx R23 a4 h)
def jb_L_law_1752 (xs : Nat → Int32) (Lx : Nat) (R23 : Int32 → Hst → Option (Int32 × Hst)) (a4 : Int32) (h : Hst) : Option (Int32 × Hst) :=
  (jb_L_law_1879 xs Lx R23 a4 h)
def jb_L_law_1808 (xs : Nat → Int32) (Lx : Nat) (R23 : Int32 → Hst → Option (Int32 × Hst)) (a4 : Int32) (h : Hst) : Option (Int32 × Hst) :=
  (jb_L_law_1879 xs Lx R23 a4 h)
def jb_L_law_1862 (xs : Nat → Int32) (Lx : Nat) (R23 : Int32 → Hst → Option (Int32 × Hst)) (a4 : Int32) (h : Hst) : Option (Int32 × Hst) :=
  (jb_L_law_1879 xs Lx R23 a4 h)
def jb_L_law_1860 (xs : Nat → Int32) (Lx : Nat)   (h : Hst) : Option (Int32 × Hst) :=
  (gzr 0 (some (0, h)))
def lp_L_law_23 (xs : Nat → Int32) (Lx : Nat) : Nat → Int32 → Hst → Option (Int32 × Hst)
  | 0, _, _ => none
  | n + 1, a4, h =>
    (if ((Int32.ofNat Lx) - 6) < a4 then
      (gzr 1 (some (1, h)))
    else
      gck a4 Lx (gl ((xs a4.toNatClampNeg) &&& 31) fun x1 =>
      (if x1 = 0 then
        gb (f_L_addGrower h) fun x3 h2 =>
        gb (f_X7_addGrower h2) fun x5 h4 =>
        gb (f_X7_thrown h4) fun x7 h6 =>
        (if x7 = x3 then
          (if x3 = 0 then
            gck 0 1 ((if (lg_cmp (h6.2 25 (0 : Int32).toNatClampNeg) (x5.toInt64)) = 0 then
              (jb_L_law_217 xs Lx (lp_L_law_23 xs Lx n) a4 h6)
            else
              (gzr 0 (some (0, h6)))))
          else
            (jb_L_law_217 xs Lx (lp_L_law_23 xs Lx n) a4 h6))
        else
          (gzr 0 (some (0, h6))))
      else
      (if x1 = 1 then
        gck (a4 + 1) Lx (gck (a4 + 2) Lx (gck (a4 + 3) Lx (gck (a4 + 4) Lx (gck (a4 + 5) Lx (gb (f_L_addLot (xs (a4 + 1).toNatClampNeg) (xs (a4 + 2).toNatClampNeg) (xs (a4 + 3).toNatClampNeg) (xs (a4 + 4).toNatClampNeg) (xs (a4 + 5).toNatClampNeg) h) fun x9 h8 =>
        gck (a4 + 1) Lx (gck (a4 + 2) Lx (gck (a4 + 3) Lx (gck (a4 + 4) Lx (gck (a4 + 5) Lx (gb (f_X7_addLot (xs (a4 + 1).toNatClampNeg) (xs (a4 + 2).toNatClampNeg) (xs (a4 + 3).toNatClampNeg) (xs (a4 + 4).toNatClampNeg) (xs (a4 + 5).toNatClampNeg) h8) fun x11 h10 =>
        gb (f_X7_thrown h10) fun x13 h12 =>
        (if x13 = x9 then
          (if x9 = 0 then
            gck 0 1 ((if (lg_cmp (h12.2 25 (0 : Int32).toNatClampNeg) (x11.toInt64)) = 0 then
              (jb_L_law_321 xs Lx (lp_L_law_23 xs Lx n) a4 h12)
            else
              (gzr 0 (some (0, h12)))))
          else
            (jb_L_law_321 xs Lx (lp_L_law_23 xs Lx n) a4 h12))
        else
          (gzr 0 (some (0, h12))))))))))))))
      else
      (if x1 = 2 then
        gck (a4 + 1) Lx (gb (f_L_addTank (xs (a4 + 1).toNatClampNeg) h) fun x15 h14 =>
        gck (a4 + 1) Lx (gb (f_X7_addTank (xs (a4 + 1).toNatClampNeg) h14) fun x17 h16 =>
        gb (f_X7_thrown h16) fun x19 h18 =>
        (if x19 = x15 then
          (if x15 = 0 then
            gck 0 1 ((if (lg_cmp (h18.2 25 (0 : Int32).toNatClampNeg) (x17.toInt64)) = 0 then
              (jb_L_law_377 xs Lx (lp_L_law_23 xs Lx n) a4 h18)
            else
              (gzr 0 (some (0, h18)))))
          else
            (jb_L_law_377 xs Lx (lp_L_law_23 xs Lx n) a4 h18))
        else
          (gzr 0 (some (0, h18))))))
      else
      (if x1 = 3 then
        gck (a4 + 1) Lx (gck (a4 + 2) Lx (gb (f_L_setYield (xs (a4 + 1).toNatClampNeg) (xs (a4 + 2).toNatClampNeg) h) fun x21 h20 =>
        gck (a4 + 1) Lx (gck (a4 + 2) Lx (gb (f_X7_setYield (xs (a4 + 1).toNatClampNeg) (xs (a4 + 2).toNatClampNeg) h20) fun x23 h22 =>
        gb (f_X7_thrown h22) fun x25 h24 =>
        (if x25 = x21 then
          (if x21 = 0 then
            gck 0 1 ((if (lg_cmp (h24.2 25 (0 : Int32).toNatClampNeg) (x23.toInt64)) = 0 then
              (jb_L_law_445 xs Lx (lp_L_law_23 xs Lx n) a4 h24)
            else
              (gzr 0 (some (0, h24)))))
          else
            (jb_L_law_445 xs Lx (lp_L_law_23 xs Lx n) a4 h24))
        else
          (gzr 0 (some (0, h24))))))))
      else
      (if x1 = 4 then
        gck (a4 + 1) Lx (gck (a4 + 2) Lx (gb (f_L_set (xs (a4 + 1).toNatClampNeg) (xs (a4 + 2).toNatClampNeg) h) fun x27 h26 =>
        gck (a4 + 1) Lx (gck (a4 + 2) Lx (gb (f_X7_set (xs (a4 + 1).toNatClampNeg) (xs (a4 + 2).toNatClampNeg) h26) fun x29 h28 =>
        gb (f_X7_thrown h28) fun x31 h30 =>
        (if x31 = x27 then
          (if x27 = 0 then
            gck 0 1 ((if (lg_cmp (h30.2 25 (0 : Int32).toNatClampNeg) (x29.toInt64)) = 0 then
              (jb_L_law_513 xs Lx (lp_L_law_23 xs Lx n) a4 h30)
            else
              (gzr 0 (some (0, h30)))))
          else
            (jb_L_law_513 xs Lx (lp_L_law_23 xs Lx n) a4 h30))
        else
          (gzr 0 (some (0, h30))))))))
      else
      (if x1 = 5 then
        gck (a4 + 1) Lx (gck (a4 + 2) Lx ((if (xs (a4 + 2).toNatClampNeg) = 0 then
          (jb_L_law_537 xs Lx (lp_L_law_23 xs Lx n) a4 0 (xs (a4 + 1).toNatClampNeg) h)
        else
          (jb_L_law_537 xs Lx (lp_L_law_23 xs Lx n) a4 1 (xs (a4 + 1).toNatClampNeg) h))))
      else
      (if x1 = 6 then
        gb (f_X6_clean h) fun x33 h32 =>
        gb (f_X7_clean h32) fun x35 h34 =>
        (if x33 = x35 then
          (jb_L_law_1879 xs Lx (lp_L_law_23 xs Lx n) a4 h34)
        else
          (gzr 0 (some (0, h34))))
      else
      (if x1 = 7 then
        gck (a4 + 1) Lx (gb (f_L_appeal (xs (a4 + 1).toNatClampNeg) h) fun x37 h36 =>
        gck (a4 + 1) Lx (gb (f_X7_appeal (xs (a4 + 1).toNatClampNeg) h36) fun x39 h38 =>
        gb (f_X7_thrown h38) fun x41 h40 =>
        (if x41 = x37 then
          (if x37 = 0 then
            gck 0 1 ((if (lg_cmp (h40.2 25 (0 : Int32).toNatClampNeg) (x39.toInt64)) = 0 then
              (jb_L_law_666 xs Lx (lp_L_law_23 xs Lx n) a4 h40)
            else
              (gzr 0 (some (0, h40)))))
          else
            (jb_L_law_666 xs Lx (lp_L_law_23 xs Lx n) a4 h40))
        else
          (gzr 0 (some (0, h40))))))
      else
      (if x1 = 8 then
        gck (a4 + 1) Lx (gck (a4 + 2) Lx (gck (a4 + 3) Lx (gb (f_L_draw (xs (a4 + 1).toNatClampNeg) (xs (a4 + 2).toNatClampNeg) (xs (a4 + 3).toNatClampNeg) h) fun x43 h42 =>
        gck (a4 + 1) Lx (gck (a4 + 2) Lx (gck (a4 + 3) Lx (gb (f_X7_draw (xs (a4 + 1).toNatClampNeg) (xs (a4 + 2).toNatClampNeg) (xs (a4 + 3).toNatClampNeg) h42) fun x45 h44 =>
        gb (f_X7_thrown h44) fun x47 h46 =>
        (if x47 = x43 then
          (if x43 = 0 then
            gck 0 1 ((if (lg_cmp (h46.2 25 (0 : Int32).toNatClampNeg) (x45.toInt64)) = 0 then
              (jb_L_law_746 xs Lx (lp_L_law_23 xs Lx n) a4 h46)
            else
              (gzr 0 (some (0, h46)))))
          else
            (jb_L_law_746 xs Lx (lp_L_law_23 xs Lx n) a4 h46))
        else
          (gzr 0 (some (0, h46))))))))))
      else
      (if x1 = 9 then
        gck (a4 + 1) Lx (gck (a4 + 2) Lx (gck (a4 + 3) Lx (gck (a4 + 4) Lx ((if (xs (a4 + 4).toNatClampNeg) = 0 then
          (jb_L_law_782 xs Lx (lp_L_law_23 xs Lx n) a4 0 (xs (a4 + 3).toNatClampNeg) (xs (a4 + 2).toNatClampNeg) (xs (a4 + 1).toNatClampNeg) h)
        else
          (jb_L_law_782 xs Lx (lp_L_law_23 xs Lx n) a4 1 (xs (a4 + 3).toNatClampNeg) (xs (a4 + 2).toNatClampNeg) (xs (a4 + 1).toNatClampNeg) h))))))
      else
      (if x1 = 10 then
        gck (a4 + 1) Lx (gb (f_L_pass (xs (a4 + 1).toNatClampNeg) h) fun x49 h48 =>
        gck (a4 + 1) Lx (gb (f_X7_pass (xs (a4 + 1).toNatClampNeg) h48) fun x51 h50 =>
        gb (f_X7_thrown h50) fun x53 h52 =>
        (if x53 = x49 then
          (if x49 = 0 then
            gck 0 1 ((if (lg_cmp (h52.2 25 (0 : Int32).toNatClampNeg) (x51.toInt64)) = 0 then
              (jb_L_law_910 xs Lx (lp_L_law_23 xs Lx n) a4 h52)
            else
              (gzr 0 (some (0, h52)))))
          else
            (jb_L_law_910 xs Lx (lp_L_law_23 xs Lx n) a4 h52))
        else
          (gzr 0 (some (0, h52))))))
      else
      (if x1 = 11 then
        gck (a4 + 1) Lx (gb (f_L_append (xs (a4 + 1).toNatClampNeg) h) fun x55 h54 =>
        gck (a4 + 1) Lx (gb (f_X7_append (xs (a4 + 1).toNatClampNeg) h54) fun x57 h56 =>
        gb (f_X7_thrown h56) fun x59 h58 =>
        (if x59 = x55 then
          (if x55 = 0 then
            gck 0 1 ((if (lg_cmp (h58.2 25 (0 : Int32).toNatClampNeg) (x57.toInt64)) = 0 then
              (jb_L_law_966 xs Lx (lp_L_law_23 xs Lx n) a4 h58)
            else
              (gzr 0 (some (0, h58)))))
          else
            (jb_L_law_966 xs Lx (lp_L_law_23 xs Lx n) a4 h58))
        else
          (gzr 0 (some (0, h58))))))
      else
      (if x1 = 12 then
        gb (f_X6_clearBuffer h) fun x61 h60 =>
        gb (f_X7_clearBuffer h60) fun x63 h62 =>
        (if x61 = x63 then
          (jb_L_law_1879 xs Lx (lp_L_law_23 xs Lx n) a4 h62)
        else
          (gzr 0 (some (0, h62))))
      else
      (if x1 = 13 then
        gb (f_X6_firstError h) fun x65 h64 =>
        gb (f_X7_firstError h64) fun x67 h66 =>
        (if x65 = x67 then
          (jb_L_law_1879 xs Lx (lp_L_law_23 xs Lx n) a4 h66)
        else
          (gzr 0 (some (0, h66))))
      else
      (if x1 = 14 then
        gb (f_L_addSlips h) fun x69 h68 =>
        gb (f_X7_addSlips h68) fun x71 h70 =>
        gb (f_X7_thrown h70) fun x73 h72 =>
        (if x73 = x69 then
          (if x69 = 0 then
            gck 0 1 ((if (lg_cmp (h72.2 25 (0 : Int32).toNatClampNeg) (x71.toInt64)) = 0 then
              (jb_L_law_1036 xs Lx (lp_L_law_23 xs Lx n) a4 h72)
            else
              (gzr 0 (some (0, h72)))))
          else
            (jb_L_law_1036 xs Lx (lp_L_law_23 xs Lx n) a4 h72))
        else
          (gzr 0 (some (0, h72))))
      else
      (if x1 = 15 then
        gb (f_L_undo h) fun x75 h74 =>
        gb (f_X7_undo h74) fun x77 h76 =>
        gb (f_X7_thrown h76) fun x79 h78 =>
        (if x79 = x75 then
          (if x75 = 0 then
            gck 0 1 ((if (lg_cmp (h78.2 25 (0 : Int32).toNatClampNeg) (x77.toInt64)) = 0 then
              (jb_L_law_1080 xs Lx (lp_L_law_23 xs Lx n) a4 h78)
            else
              (gzr 0 (some (0, h78)))))
          else
            (jb_L_law_1080 xs Lx (lp_L_law_23 xs Lx n) a4 h78))
        else
          (gzr 0 (some (0, h78))))
      else
      (if x1 = 16 then
        gck (a4 + 1) Lx (gck (a4 + 2) Lx (gb (f_L_grower (xs (a4 + 1).toNatClampNeg) (xs (a4 + 2).toNatClampNeg) h) fun x81 h80 =>
        gck (a4 + 1) Lx (gck (a4 + 2) Lx (gb (f_X7_grower (xs (a4 + 1).toNatClampNeg) (xs (a4 + 2).toNatClampNeg) h80) fun x83 h82 =>
        gb (f_X7_thrown h82) fun x85 h84 =>
        (if x85 = x81 then
          (if x81 = 0 then
            gck 0 1 ((if (lg_cmp (h84.2 25 (0 : Int32).toNatClampNeg) (x83.toInt64)) = 0 then
              (jb_L_law_1148 xs Lx (lp_L_law_23 xs Lx n) a4 h84)
            else
              (gzr 0 (some (0, h84)))))
          else
            (jb_L_law_1148 xs Lx (lp_L_law_23 xs Lx n) a4 h84))
        else
          (gzr 0 (some (0, h84))))))))
      else
      (if x1 = 17 then
        gck (a4 + 1) Lx (gck (a4 + 2) Lx (gb (f_L_lot (xs (a4 + 1).toNatClampNeg) (xs (a4 + 2).toNatClampNeg) h) fun x87 h86 =>
        gck (a4 + 1) Lx (gck (a4 + 2) Lx (gb (f_X7_lot (xs (a4 + 1).toNatClampNeg) (xs (a4 + 2).toNatClampNeg) h86) fun x89 h88 =>
        gb (f_X7_thrown h88) fun x91 h90 =>
        (if x91 = x87 then
          (if x87 = 0 then
            gck 0 1 ((if (lg_cmp (h90.2 25 (0 : Int32).toNatClampNeg) (x89.toInt64)) = 0 then
              (jb_L_law_1216 xs Lx (lp_L_law_23 xs Lx n) a4 h90)
            else
              (gzr 0 (some (0, h90)))))
          else
            (jb_L_law_1216 xs Lx (lp_L_law_23 xs Lx n) a4 h90))
        else
          (gzr 0 (some (0, h90))))))))
      else
      (if x1 = 18 then
        gck (a4 + 1) Lx (gck (a4 + 2) Lx (gb (f_L_tank (xs (a4 + 1).toNatClampNeg) (xs (a4 + 2).toNatClampNeg) h) fun x93 h92 =>
        gck (a4 + 1) Lx (gck (a4 + 2) Lx (gb (f_X7_tank (xs (a4 + 1).toNatClampNeg) (xs (a4 + 2).toNatClampNeg) h92) fun x95 h94 =>
        gb (f_X7_thrown h94) fun x97 h96 =>
        (if x97 = x93 then
          (if x93 = 0 then
            gck 0 1 ((if (lg_cmp (h96.2 25 (0 : Int32).toNatClampNeg) (x95.toInt64)) = 0 then
              (jb_L_law_1284 xs Lx (lp_L_law_23 xs Lx n) a4 h96)
            else
              (gzr 0 (some (0, h96)))))
          else
            (jb_L_law_1284 xs Lx (lp_L_law_23 xs Lx n) a4 h96))
        else
          (gzr 0 (some (0, h96))))))))
      else
      (if x1 = 19 then
        gck (a4 + 1) Lx (gck (a4 + 2) Lx (gb (f_L_variety (xs (a4 + 1).toNatClampNeg) (xs (a4 + 2).toNatClampNeg) h) fun x99 h98 =>
        gck (a4 + 1) Lx (gck (a4 + 2) Lx (gb (f_X7_variety (xs (a4 + 1).toNatClampNeg) (xs (a4 + 2).toNatClampNeg) h98) fun x101 h100 =>
        gb (f_X7_thrown h100) fun x103 h102 =>
        (if x103 = x99 then
          (if x99 = 0 then
            gck 0 1 ((if (lg_cmp (h102.2 25 (0 : Int32).toNatClampNeg) (x101.toInt64)) = 0 then
              (jb_L_law_1352 xs Lx (lp_L_law_23 xs Lx n) a4 h102)
            else
              (gzr 0 (some (0, h102)))))
          else
            (jb_L_law_1352 xs Lx (lp_L_law_23 xs Lx n) a4 h102))
        else
          (gzr 0 (some (0, h102))))))))
      else
      (if x1 = 20 then
        gck (a4 + 1) Lx (gb (f_L_count (xs (a4 + 1).toNatClampNeg) h) fun x105 h104 =>
        gck (a4 + 1) Lx (gb (f_X7_count (xs (a4 + 1).toNatClampNeg) h104) fun x107 h106 =>
        gb (f_X7_thrown h106) fun x109 h108 =>
        (if x109 = x105 then
          (if x105 = 0 then
            gck 0 1 ((if (lg_cmp (h108.2 25 (0 : Int32).toNatClampNeg) (x107.toInt64)) = 0 then
              (jb_L_law_1408 xs Lx (lp_L_law_23 xs Lx n) a4 h108)
            else
              (gzr 0 (some (0, h108)))))
          else
            (jb_L_law_1408 xs Lx (lp_L_law_23 xs Lx n) a4 h108))
        else
          (gzr 0 (some (0, h108))))))
      else
      (if x1 = 21 then
        gck (a4 + 1) Lx (gb (f_L_setting (xs (a4 + 1).toNatClampNeg) h) fun x111 h110 =>
        gck (a4 + 1) Lx (gb (f_X7_setting (xs (a4 + 1).toNatClampNeg) h110) fun x113 h112 =>
        gb (f_X7_thrown h112) fun x115 h114 =>
        (if x115 = x111 then
          (if x111 = 0 then
            gck 0 1 ((if (lg_cmp (h114.2 25 (0 : Int32).toNatClampNeg) (x113.toInt64)) = 0 then
              (jb_L_law_1464 xs Lx (lp_L_law_23 xs Lx n) a4 h114)
            else
              (gzr 0 (some (0, h114)))))
          else
            (jb_L_law_1464 xs Lx (lp_L_law_23 xs Lx n) a4 h114))
        else
          (gzr 0 (some (0, h114))))))
      else
      (if x1 = 22 then
        gck (a4 + 1) Lx (gck (a4 + 2) Lx ((if (xs (a4 + 2).toNatClampNeg) = 0 then
          (jb_L_law_1488 xs Lx (lp_L_law_23 xs Lx n) a4 0 (xs (a4 + 1).toNatClampNeg) h)
        else
          (jb_L_law_1488 xs Lx (lp_L_law_23 xs Lx n) a4 1 (xs (a4 + 1).toNatClampNeg) h))))
      else
      (if x1 = 23 then
        gck (a4 + 1) Lx (gb (f_L_next (xs (a4 + 1).toNatClampNeg) h) fun x117 h116 =>
        gck (a4 + 1) Lx (gb (f_X7_next (xs (a4 + 1).toNatClampNeg) h116) fun x119 h118 =>
        gb (f_X7_thrown h118) fun x121 h120 =>
        (if x121 = x117 then
          (if x117 = 0 then
            gck 0 1 ((if (lg_cmp (h120.2 25 (0 : Int32).toNatClampNeg) (x119.toInt64)) = 0 then
              (jb_L_law_1604 xs Lx (lp_L_law_23 xs Lx n) a4 h120)
            else
              (gzr 0 (some (0, h120)))))
          else
            (jb_L_law_1604 xs Lx (lp_L_law_23 xs Lx n) a4 h120))
        else
          (gzr 0 (some (0, h120))))))
      else
      (if x1 = 24 then
        gck (a4 + 1) Lx (gck (a4 + 2) Lx (gck (a4 + 3) Lx (gb (f_L_taken (xs (a4 + 1).toNatClampNeg) (xs (a4 + 2).toNatClampNeg) (xs (a4 + 3).toNatClampNeg) h) fun x123 h122 =>
        gck (a4 + 1) Lx (gck (a4 + 2) Lx (gck (a4 + 3) Lx (gb (f_X7_taken (xs (a4 + 1).toNatClampNeg) (xs (a4 + 2).toNatClampNeg) (xs (a4 + 3).toNatClampNeg) h122) fun x125 h124 =>
        gb (f_X7_thrown h124) fun x127 h126 =>
        (if x127 = x123 then
          (if x123 = 0 then
            gck 0 1 ((if (lg_cmp (h126.2 25 (0 : Int32).toNatClampNeg) (x125.toInt64)) = 0 then
              (jb_L_law_1684 xs Lx (lp_L_law_23 xs Lx n) a4 h126)
            else
              (gzr 0 (some (0, h126)))))
          else
            (jb_L_law_1684 xs Lx (lp_L_law_23 xs Lx n) a4 h126))
        else
          (gzr 0 (some (0, h126))))))))))
      else
      (if x1 = 25 then
        gck (a4 + 1) Lx (gck (a4 + 2) Lx (gb (f_L_oilIn (xs (a4 + 1).toNatClampNeg) (xs (a4 + 2).toNatClampNeg) h) fun x129 h128 =>
        gck (a4 + 1) Lx (gck (a4 + 2) Lx (gb (f_X7_oilIn (xs (a4 + 1).toNatClampNeg) (xs (a4 + 2).toNatClampNeg) h128) fun x131 h130 =>
        gb (f_X7_thrown h130) fun x133 h132 =>
        (if x133 = x129 then
          (if x129 = 0 then
            gck 0 1 ((if (lg_cmp (h132.2 25 (0 : Int32).toNatClampNeg) (x131.toInt64)) = 0 then
              (jb_L_law_1752 xs Lx (lp_L_law_23 xs Lx n) a4 h132)
            else
              (gzr 0 (some (0, h132)))))
          else
            (jb_L_law_1752 xs Lx (lp_L_law_23 xs Lx n) a4 h132))
        else
          (gzr 0 (some (0, h132))))))))
      else
      (if x1 = 26 then
        gck (a4 + 1) Lx (gb (f_L_lossBy (xs (a4 + 1).toNatClampNeg) h) fun x135 h134 =>
        gck (a4 + 1) Lx (gb (f_X7_lossBy (xs (a4 + 1).toNatClampNeg) h134) fun x137 h136 =>
        gb (f_X7_thrown h136) fun x139 h138 =>
        (if x139 = x135 then
          (if x135 = 0 then
            gck 0 1 ((if (lg_cmp (h138.2 25 (0 : Int32).toNatClampNeg) (x137.toInt64)) = 0 then
              (jb_L_law_1808 xs Lx (lp_L_law_23 xs Lx n) a4 h138)
            else
              (gzr 0 (some (0, h138)))))
          else
            (jb_L_law_1808 xs Lx (lp_L_law_23 xs Lx n) a4 h138))
        else
          (gzr 0 (some (0, h138))))))
      else
      (if x1 = 27 then
        gb (f_X6_bestTank h) fun x141 h140 =>
        gb (f_X7_bestTank h140) fun x143 h142 =>
        (if x141 = x143 then
          (jb_L_law_1879 xs Lx (lp_L_law_23 xs Lx n) a4 h142)
        else
          (gzr 0 (some (0, h142))))
      else
      (if x1 = 28 then
        gb (f_X6_goodShare h) fun x145 h144 =>
        gb (f_X7_goodShare h144) fun x147 h146 =>
        (if (Op.cmpValue (FP.dcmp x145 x147) .l) = 0 then
          (jb_L_law_1862 xs Lx (lp_L_law_23 xs Lx n) a4 h146)
        else
          (if (Op.cmpValue (FP.dcmp x145 x145) .l) = 0 then
            (jb_L_law_1860 xs Lx h146)
          else
            (if (Op.cmpValue (FP.dcmp x147 x147) .l) = 0 then
              (jb_L_law_1860 xs Lx h146)
            else
              (jb_L_law_1862 xs Lx (lp_L_law_23 xs Lx n) a4 h146))))
      else
      (if x1 = 29 then
        gb (f_X6_digest h) fun x149 h148 =>
        gb (f_X7_digest h148) fun x151 h150 =>
        (if (lg_cmp x149 x151) = 0 then
          (jb_L_law_1879 xs Lx (lp_L_law_23 xs Lx n) a4 h150)
        else
          (gzr 0 (some (0, h150))))
      else
      (jb_L_law_1879 xs Lx (lp_L_law_23 xs Lx n) a4 h)))))))))))))))))))))))))))))))))
set_option maxRecDepth 20000 in
theorem gjb_L_law_1879 (γ : Gv) (B : Nat) (R23 : Int32 → Hst → Option (Int32 × Hst)) (hR23 : ∀ (a4 : Int32) (h : Hst), G γ RL cL_law 9 (some .boolean) [] vI 10 B 23 [(0, .ref (gscr γ)), (1, .ref (gad γ 0)), (2, .ref (gad γ 17)), (3, .ref (gad γ 25)), (4, .int a4)] [] h (R23 a4 h)) (a4 : Int32) (h : Hst) : G γ RL cL_law 9 (some .boolean) [] vI 10 B 1879 [(0, .ref (gscr γ)), (1, .ref (gad γ 0)), (2, .ref (gad γ 17)), (3, .ref (gad γ 25)), (4, .int a4)] [] h (jb_L_law_1879 (gxs γ) (gLx γ) R23 a4 h) := by
  unfold jb_L_law_1879
  refine g_iinc (pc := 1879) (q := 4) (v := a4 + 6) (lv' := [(4, .int (a4 + 6)), (0, .ref (gscr γ)), (1, .ref (gad γ 0)), (2, .ref (gad γ 17)), (3, .ref (gad γ 25))]) dL_law_1879 rfl rfl (by decide) rfl ?_
  refine g_goto (pc := 1882) (tgt := 23) dL_law_1882 (by decide) ?_
  exact g_weak (by omega) (g_sub [1, 2, 3, 4, 0] rfl (hR23 (a4 + 6) h))
set_option maxRecDepth 20000 in
theorem gjb_L_law_217 (γ : Gv) (B : Nat) (R23 : Int32 → Hst → Option (Int32 × Hst)) (hR23 : ∀ (a4 : Int32) (h : Hst), G γ RL cL_law 9 (some .boolean) [] vI 10 B 23 [(0, .ref (gscr γ)), (1, .ref (gad γ 0)), (2, .ref (gad γ 17)), (3, .ref (gad γ 25)), (4, .int a4)] [] h (R23 a4 h)) (a4 : Int32) (h : Hst) : G γ RL cL_law 9 (some .boolean) [] vI 10 B 217 [(0, .ref (gscr γ)), (1, .ref (gad γ 0)), (2, .ref (gad γ 17)), (3, .ref (gad γ 25)), (4, .int a4)] [] h (jb_L_law_217 (gxs γ) (gLx γ) R23 a4 h) := by
  unfold jb_L_law_217
  refine g_goto (pc := 217) (tgt := 1879) dL_law_217 (by decide) ?_
  exact g_weak (by omega) (g_sub [0, 1, 2, 3, 4] rfl (gjb_L_law_1879 γ B R23 hR23 a4 h))
set_option maxRecDepth 20000 in
theorem gjb_L_law_321 (γ : Gv) (B : Nat) (R23 : Int32 → Hst → Option (Int32 × Hst)) (hR23 : ∀ (a4 : Int32) (h : Hst), G γ RL cL_law 9 (some .boolean) [] vI 10 B 23 [(0, .ref (gscr γ)), (1, .ref (gad γ 0)), (2, .ref (gad γ 17)), (3, .ref (gad γ 25)), (4, .int a4)] [] h (R23 a4 h)) (a4 : Int32) (h : Hst) : G γ RL cL_law 9 (some .boolean) [] vI 10 B 321 [(0, .ref (gscr γ)), (1, .ref (gad γ 0)), (2, .ref (gad γ 17)), (3, .ref (gad γ 25)), (4, .int a4)] [] h (jb_L_law_321 (gxs γ) (gLx γ) R23 a4 h) := by
  unfold jb_L_law_321
  refine g_goto (pc := 321) (tgt := 1879) dL_law_321 (by decide) ?_
  exact g_weak (by omega) (g_sub [0, 1, 2, 3, 4] rfl (gjb_L_law_1879 γ B R23 hR23 a4 h))
set_option maxRecDepth 20000 in
theorem gjb_L_law_377 (γ : Gv) (B : Nat) (R23 : Int32 → Hst → Option (Int32 × Hst)) (hR23 : ∀ (a4 : Int32) (h : Hst), G γ RL cL_law 9 (some .boolean) [] vI 10 B 23 [(0, .ref (gscr γ)), (1, .ref (gad γ 0)), (2, .ref (gad γ 17)), (3, .ref (gad γ 25)), (4, .int a4)] [] h (R23 a4 h)) (a4 : Int32) (h : Hst) : G γ RL cL_law 9 (some .boolean) [] vI 10 B 377 [(0, .ref (gscr γ)), (1, .ref (gad γ 0)), (2, .ref (gad γ 17)), (3, .ref (gad γ 25)), (4, .int a4)] [] h (jb_L_law_377 (gxs γ) (gLx γ) R23 a4 h) := by
  unfold jb_L_law_377
  refine g_goto (pc := 377) (tgt := 1879) dL_law_377 (by decide) ?_
  exact g_weak (by omega) (g_sub [0, 1, 2, 3, 4] rfl (gjb_L_law_1879 γ B R23 hR23 a4 h))
set_option maxRecDepth 20000 in
theorem gjb_L_law_445 (γ : Gv) (B : Nat) (R23 : Int32 → Hst → Option (Int32 × Hst)) (hR23 : ∀ (a4 : Int32) (h : Hst), G γ RL cL_law 9 (some .boolean) [] vI 10 B 23 [(0, .ref (gscr γ)), (1, .ref (gad γ 0)), (2, .ref (gad γ 17)), (3, .ref (gad γ 25)), (4, .int a4)] [] h (R23 a4 h)) (a4 : Int32) (h : Hst) : G γ RL cL_law 9 (some .boolean) [] vI 10 B 445 [(0, .ref (gscr γ)), (1, .ref (gad γ 0)), (2, .ref (gad γ 17)), (3, .ref (gad γ 25)), (4, .int a4)] [] h (jb_L_law_445 (gxs γ) (gLx γ) R23 a4 h) := by
  unfold jb_L_law_445
  refine g_goto (pc := 445) (tgt := 1879) dL_law_445 (by decide) ?_
  exact g_weak (by omega) (g_sub [0, 1, 2, 3, 4] rfl (gjb_L_law_1879 γ B R23 hR23 a4 h))
set_option maxRecDepth 20000 in
theorem gjb_L_law_513 (γ : Gv) (B : Nat) (R23 : Int32 → Hst → Option (Int32 × Hst)) (hR23 : ∀ (a4 : Int32) (h : Hst), G γ RL cL_law 9 (some .boolean) [] vI 10 B 23 [(0, .ref (gscr γ)), (1, .ref (gad γ 0)), (2, .ref (gad γ 17)), (3, .ref (gad γ 25)), (4, .int a4)] [] h (R23 a4 h)) (a4 : Int32) (h : Hst) : G γ RL cL_law 9 (some .boolean) [] vI 10 B 513 [(0, .ref (gscr γ)), (1, .ref (gad γ 0)), (2, .ref (gad γ 17)), (3, .ref (gad γ 25)), (4, .int a4)] [] h (jb_L_law_513 (gxs γ) (gLx γ) R23 a4 h) := by
  unfold jb_L_law_513
  refine g_goto (pc := 513) (tgt := 1879) dL_law_513 (by decide) ?_
  exact g_weak (by omega) (g_sub [0, 1, 2, 3, 4] rfl (gjb_L_law_1879 γ B R23 hR23 a4 h))
set_option maxRecDepth 20000 in
theorem gjb_L_law_597 (γ : Gv) (B : Nat) (R23 : Int32 → Hst → Option (Int32 × Hst)) (hR23 : ∀ (a4 : Int32) (h : Hst), G γ RL cL_law 9 (some .boolean) [] vI 10 B 23 [(0, .ref (gscr γ)), (1, .ref (gad γ 0)), (2, .ref (gad γ 17)), (3, .ref (gad γ 25)), (4, .int a4)] [] h (R23 a4 h)) (a4 : Int32) (h : Hst) : G γ RL cL_law 9 (some .boolean) [] vI 10 B 597 [(0, .ref (gscr γ)), (1, .ref (gad γ 0)), (2, .ref (gad γ 17)), (3, .ref (gad γ 25)), (4, .int a4)] [] h (jb_L_law_597 (gxs γ) (gLx γ) R23 a4 h) := by
  unfold jb_L_law_597
  refine g_goto (pc := 597) (tgt := 1879) dL_law_597 (by decide) ?_
  exact g_weak (by omega) (g_sub [0, 1, 2, 3, 4] rfl (gjb_L_law_1879 γ B R23 hR23 a4 h))
set_option maxRecDepth 20000 in
theorem gjb_L_law_564 (γ : Gv) (B : Nat) (R23 : Int32 → Hst → Option (Int32 × Hst)) (hR23 : ∀ (a4 : Int32) (h : Hst), G γ RL cL_law 9 (some .boolean) [] vI 10 B 23 [(0, .ref (gscr γ)), (1, .ref (gad γ 0)), (2, .ref (gad γ 17)), (3, .ref (gad γ 25)), (4, .int a4)] [] h (R23 a4 h)) (a4 : Int32) (a5 : Int32) (s0 : Int32) (s1 : Int32) (h : Hst) : G γ RL cL_law 9 (some .boolean) [] vI 10 B 564 [(0, .ref (gscr γ)), (1, .ref (gad γ 0)), (2, .ref (gad γ 17)), (3, .ref (gad γ 25)), (4, .int a4), (5, .int a5)] [.int s0, .int s1, .ref (gad γ 17)] h (jb_L_law_564 (gxs γ) (gLx γ) R23 a4 a5 s0 s1 h) := by
  unfold jb_L_law_564
  refine g_cI (pc := 564) (st := []) (fun r hr => gRunV (As := [.int s1, .int s0]) 17 (ge_X7_press γ s1 s0 h) hr wv_RL_125 rfl (Nat.le_of_ble_eq_true rfl) (gat_17 _ _) rfl rfl (Nat.le_of_ble_eq_true rfl) (Nat.le_of_ble_eq_true rfl) dL_law_564) (fun x2 h1 => ?_)
  refine g_istore (pc := 567) (lv' := [(6, .int x2), (0, .ref (gscr γ)), (1, .ref (gad γ 0)), (2, .ref (gad γ 17)), (3, .ref (gad γ 25)), (4, .int a4), (5, .int a5)]) dL_law_567 (by decide) rfl ?_
  refine g_aload_n (pc := 569) dL_law_569 rfl 3 rfl ?_
  refine g_cI (pc := 570) (st := []) (fun r hr => gRunV (As := []) 17 (ge_X7_thrown γ h1) hr wv_RL_104 rfl (Nat.le_of_ble_eq_true rfl) (gat_17 _ _) rfl rfl (Nat.le_of_ble_eq_true rfl) (Nat.le_of_ble_eq_true rfl) dL_law_570) (fun x4 h3 => ?_)
  refine g_iload (pc := 573) dL_law_573 6 rfl ?_
  refine g_icmp_eq (pc := 575) (tgt := 580) dL_law_575 (by decide) ?_ ?_
  · refine g_iload (pc := 580) dL_law_580 6 rfl ?_
    refine g_if_ne (pc := 582) (tgt := 597) dL_law_582 (by decide) ?_ ?_
    · exact g_weak (by omega) (g_sub [1, 2, 3, 4, 5] rfl (gjb_L_law_597 γ B R23 hR23 a4 h3))
    · refine g_aload_n (pc := 585) dL_law_585 rfl 4 rfl ?_
      refine g_iconst (pc := 586) (v := 0) dL_law_586 (by decide) ?_
      refine g_lald (pc := 587) 25 (gat_25 _ _) dL_law_587 ?_
      refine g_iload (pc := 588) dL_law_588 0 rfl ?_
      refine g_i2l (pc := 590) dL_law_590 ?_
      refine g_lcmp (pc := 591) dL_law_591 ?_
      refine g_if_eq (pc := 592) (tgt := 597) dL_law_592 (by decide) ?_ ?_
      · exact g_weak (by omega) (g_sub [1, 2, 3, 4, 5] rfl (gjb_L_law_597 γ B R23 hR23 a4 h3))
      · refine g_iconst (pc := 595) (v := 0) dL_law_595 (by decide) ?_
        exact g_zreturn (pc := 596) dL_law_596 rfl rfl
  · refine g_iconst (pc := 578) (v := 0) dL_law_578 (by decide) ?_
    exact g_zreturn (pc := 579) dL_law_579 rfl rfl
set_option maxRecDepth 20000 in
theorem gjb_L_law_537 (γ : Gv) (B : Nat) (R23 : Int32 → Hst → Option (Int32 × Hst)) (hR23 : ∀ (a4 : Int32) (h : Hst), G γ RL cL_law 9 (some .boolean) [] vI 10 B 23 [(0, .ref (gscr γ)), (1, .ref (gad γ 0)), (2, .ref (gad γ 17)), (3, .ref (gad γ 25)), (4, .int a4)] [] h (R23 a4 h)) (a4 : Int32) (s0 : Int32) (s1 : Int32) (h : Hst) : G γ RL cL_law 9 (some .boolean) [] vI 10 (B + 1) 537 [(0, .ref (gscr γ)), (1, .ref (gad γ 0)), (2, .ref (gad γ 17)), (3, .ref (gad γ 25)), (4, .int a4)] [.int s0, .int s1, .ref (gad γ 0)] h (jb_L_law_537 (gxs γ) (gLx γ) R23 a4 s0 s1 h) := by
  unfold jb_L_law_537
  refine g_aload_n (pc := 537) dL_law_537 rfl 3 rfl ?_
  refine g_cH (pc := 538) (st := []) (fun r hr => gRunSX (As := [.ref (gad γ 0), .int s1, .int s0, .ref (gad γ 25)]) (ge_L_press γ s1 s0 h) hr wv_RL_122 rfl (Nat.le_of_ble_eq_true rfl) rfl (Nat.le_of_ble_eq_true rfl) (Nat.le_of_ble_eq_true rfl) dL_law_538) (fun x2 h1 => ?_)
  refine g_istore (pc := 541) (lv' := [(5, .int x2), (0, .ref (gscr γ)), (1, .ref (gad γ 0)), (2, .ref (gad γ 17)), (3, .ref (gad γ 25)), (4, .int a4)]) dL_law_541 (by decide) rfl ?_
  refine g_aload_n (pc := 543) dL_law_543 rfl 3 rfl ?_
  refine g_aload_n (pc := 544) dL_law_544 rfl 1 rfl ?_
  refine g_iload (pc := 545) dL_law_545 5 rfl ?_
  refine g_iconst (pc := 547) (v := 1) dL_law_547 (by decide) ?_
  refine g_iadd (pc := 548) dL_law_548 ?_
  refine g_sld (pc := 549) dL_law_549 ?_
  refine g_aload_n (pc := 550) dL_law_550 rfl 1 rfl ?_
  refine g_iload (pc := 551) dL_law_551 5 rfl ?_
  refine g_iconst (pc := 553) (v := 2) dL_law_553 (by decide) ?_
  refine g_iadd (pc := 554) dL_law_554 ?_
  refine g_sld (pc := 555) dL_law_555 ?_
  refine g_if_eq (pc := 556) (tgt := 563) dL_law_556 (by decide) ?_ ?_
  · refine g_iconst (pc := 563) (v := 0) dL_law_563 (by decide) ?_
    exact g_weak (by omega) (g_sub [1, 2, 3, 4, 5, 0] rfl (gjb_L_law_564 γ B R23 hR23 a4 x2 0 ((gxs γ) (a4 + 1).toNatClampNeg) h1))
  · refine g_iconst (pc := 559) (v := 1) dL_law_559 (by decide) ?_
    refine g_goto (pc := 560) (tgt := 564) dL_law_560 (by decide) ?_
    exact g_weak (by omega) (g_sub [1, 2, 3, 4, 5, 0] rfl (gjb_L_law_564 γ B R23 hR23 a4 x2 1 ((gxs γ) (a4 + 1).toNatClampNeg) h1))
set_option maxRecDepth 20000 in
theorem gjb_L_law_666 (γ : Gv) (B : Nat) (R23 : Int32 → Hst → Option (Int32 × Hst)) (hR23 : ∀ (a4 : Int32) (h : Hst), G γ RL cL_law 9 (some .boolean) [] vI 10 B 23 [(0, .ref (gscr γ)), (1, .ref (gad γ 0)), (2, .ref (gad γ 17)), (3, .ref (gad γ 25)), (4, .int a4)] [] h (R23 a4 h)) (a4 : Int32) (h : Hst) : G γ RL cL_law 9 (some .boolean) [] vI 10 B 666 [(0, .ref (gscr γ)), (1, .ref (gad γ 0)), (2, .ref (gad γ 17)), (3, .ref (gad γ 25)), (4, .int a4)] [] h (jb_L_law_666 (gxs γ) (gLx γ) R23 a4 h) := by
  unfold jb_L_law_666
  refine g_goto (pc := 666) (tgt := 1879) dL_law_666 (by decide) ?_
  exact g_weak (by omega) (g_sub [0, 1, 2, 3, 4] rfl (gjb_L_law_1879 γ B R23 hR23 a4 h))
set_option maxRecDepth 20000 in
theorem gjb_L_law_746 (γ : Gv) (B : Nat) (R23 : Int32 → Hst → Option (Int32 × Hst)) (hR23 : ∀ (a4 : Int32) (h : Hst), G γ RL cL_law 9 (some .boolean) [] vI 10 B 23 [(0, .ref (gscr γ)), (1, .ref (gad γ 0)), (2, .ref (gad γ 17)), (3, .ref (gad γ 25)), (4, .int a4)] [] h (R23 a4 h)) (a4 : Int32) (h : Hst) : G γ RL cL_law 9 (some .boolean) [] vI 10 B 746 [(0, .ref (gscr γ)), (1, .ref (gad γ 0)), (2, .ref (gad γ 17)), (3, .ref (gad γ 25)), (4, .int a4)] [] h (jb_L_law_746 (gxs γ) (gLx γ) R23 a4 h) := by
  unfold jb_L_law_746
  refine g_goto (pc := 746) (tgt := 1879) dL_law_746 (by decide) ?_
  exact g_weak (by omega) (g_sub [0, 1, 2, 3, 4] rfl (gjb_L_law_1879 γ B R23 hR23 a4 h))
set_option maxRecDepth 20000 in
theorem gjb_L_law_854 (γ : Gv) (B : Nat) (R23 : Int32 → Hst → Option (Int32 × Hst)) (hR23 : ∀ (a4 : Int32) (h : Hst), G γ RL cL_law 9 (some .boolean) [] vI 10 B 23 [(0, .ref (gscr γ)), (1, .ref (gad γ 0)), (2, .ref (gad γ 17)), (3, .ref (gad γ 25)), (4, .int a4)] [] h (R23 a4 h)) (a4 : Int32) (h : Hst) : G γ RL cL_law 9 (some .boolean) [] vI 10 B 854 [(0, .ref (gscr γ)), (1, .ref (gad γ 0)), (2, .ref (gad γ 17)), (3, .ref (gad γ 25)), (4, .int a4)] [] h (jb_L_law_854 (gxs γ) (gLx γ) R23 a4 h) := by
  unfold jb_L_law_854
  refine g_goto (pc := 854) (tgt := 1879) dL_law_854 (by decide) ?_
  exact g_weak (by omega) (g_sub [0, 1, 2, 3, 4] rfl (gjb_L_law_1879 γ B R23 hR23 a4 h))
set_option maxRecDepth 20000 in
theorem gjb_L_law_821 (γ : Gv) (B : Nat) (R23 : Int32 → Hst → Option (Int32 × Hst)) (hR23 : ∀ (a4 : Int32) (h : Hst), G γ RL cL_law 9 (some .boolean) [] vI 10 B 23 [(0, .ref (gscr γ)), (1, .ref (gad γ 0)), (2, .ref (gad γ 17)), (3, .ref (gad γ 25)), (4, .int a4)] [] h (R23 a4 h)) (a4 : Int32) (a5 : Int32) (s0 : Int32) (s1 : Int32) (s2 : Int32) (s3 : Int32) (h : Hst) : G γ RL cL_law 9 (some .boolean) [] vI 10 B 821 [(0, .ref (gscr γ)), (1, .ref (gad γ 0)), (2, .ref (gad γ 17)), (3, .ref (gad γ 25)), (4, .int a4), (5, .int a5)] [.int s0, .int s1, .int s2, .int s3, .ref (gad γ 17)] h (jb_L_law_821 (gxs γ) (gLx γ) R23 a4 a5 s0 s1 s2 s3 h) := by
  unfold jb_L_law_821
  refine g_cI (pc := 821) (st := []) (fun r hr => gRunV (As := [.int s3, .int s2, .int s1, .int s0]) 17 (ge_X7_move γ s3 s2 s1 s0 h) hr wv_RL_140 rfl (Nat.le_of_ble_eq_true rfl) (gat_17 _ _) rfl rfl (Nat.le_of_ble_eq_true rfl) (Nat.le_of_ble_eq_true rfl) dL_law_821) (fun x2 h1 => ?_)
  refine g_istore (pc := 824) (lv' := [(6, .int x2), (0, .ref (gscr γ)), (1, .ref (gad γ 0)), (2, .ref (gad γ 17)), (3, .ref (gad γ 25)), (4, .int a4), (5, .int a5)]) dL_law_824 (by decide) rfl ?_
  refine g_aload_n (pc := 826) dL_law_826 rfl 3 rfl ?_
  refine g_cI (pc := 827) (st := []) (fun r hr => gRunV (As := []) 17 (ge_X7_thrown γ h1) hr wv_RL_104 rfl (Nat.le_of_ble_eq_true rfl) (gat_17 _ _) rfl rfl (Nat.le_of_ble_eq_true rfl) (Nat.le_of_ble_eq_true rfl) dL_law_827) (fun x4 h3 => ?_)
  refine g_iload (pc := 830) dL_law_830 6 rfl ?_
  refine g_icmp_eq (pc := 832) (tgt := 837) dL_law_832 (by decide) ?_ ?_
  · refine g_iload (pc := 837) dL_law_837 6 rfl ?_
    refine g_if_ne (pc := 839) (tgt := 854) dL_law_839 (by decide) ?_ ?_
    · exact g_weak (by omega) (g_sub [1, 2, 3, 4, 5] rfl (gjb_L_law_854 γ B R23 hR23 a4 h3))
    · refine g_aload_n (pc := 842) dL_law_842 rfl 4 rfl ?_
      refine g_iconst (pc := 843) (v := 0) dL_law_843 (by decide) ?_
      refine g_lald (pc := 844) 25 (gat_25 _ _) dL_law_844 ?_
      refine g_iload (pc := 845) dL_law_845 0 rfl ?_
      refine g_i2l (pc := 847) dL_law_847 ?_
      refine g_lcmp (pc := 848) dL_law_848 ?_
      refine g_if_eq (pc := 849) (tgt := 854) dL_law_849 (by decide) ?_ ?_
      · exact g_weak (by omega) (g_sub [1, 2, 3, 4, 5] rfl (gjb_L_law_854 γ B R23 hR23 a4 h3))
      · refine g_iconst (pc := 852) (v := 0) dL_law_852 (by decide) ?_
        exact g_zreturn (pc := 853) dL_law_853 rfl rfl
  · refine g_iconst (pc := 835) (v := 0) dL_law_835 (by decide) ?_
    exact g_zreturn (pc := 836) dL_law_836 rfl rfl
set_option maxRecDepth 20000 in
theorem gjb_L_law_782 (γ : Gv) (B : Nat) (R23 : Int32 → Hst → Option (Int32 × Hst)) (hR23 : ∀ (a4 : Int32) (h : Hst), G γ RL cL_law 9 (some .boolean) [] vI 10 B 23 [(0, .ref (gscr γ)), (1, .ref (gad γ 0)), (2, .ref (gad γ 17)), (3, .ref (gad γ 25)), (4, .int a4)] [] h (R23 a4 h)) (a4 : Int32) (s0 : Int32) (s1 : Int32) (s2 : Int32) (s3 : Int32) (h : Hst) : G γ RL cL_law 9 (some .boolean) [] vI 10 (B + 1) 782 [(0, .ref (gscr γ)), (1, .ref (gad γ 0)), (2, .ref (gad γ 17)), (3, .ref (gad γ 25)), (4, .int a4)] [.int s0, .int s1, .int s2, .int s3, .ref (gad γ 0)] h (jb_L_law_782 (gxs γ) (gLx γ) R23 a4 s0 s1 s2 s3 h) := by
  unfold jb_L_law_782
  refine g_aload_n (pc := 782) dL_law_782 rfl 3 rfl ?_
  refine g_cH (pc := 783) (st := []) (fun r hr => gRunSX (As := [.ref (gad γ 0), .int s3, .int s2, .int s1, .int s0, .ref (gad γ 25)]) (ge_L_move γ s3 s2 s1 s0 h) hr wv_RL_137 rfl (Nat.le_of_ble_eq_true rfl) rfl (Nat.le_of_ble_eq_true rfl) (Nat.le_of_ble_eq_true rfl) dL_law_783) (fun x2 h1 => ?_)
  refine g_istore (pc := 786) (lv' := [(5, .int x2), (0, .ref (gscr γ)), (1, .ref (gad γ 0)), (2, .ref (gad γ 17)), (3, .ref (gad γ 25)), (4, .int a4)]) dL_law_786 (by decide) rfl ?_
  refine g_aload_n (pc := 788) dL_law_788 rfl 3 rfl ?_
  refine g_aload_n (pc := 789) dL_law_789 rfl 1 rfl ?_
  refine g_iload (pc := 790) dL_law_790 5 rfl ?_
  refine g_iconst (pc := 792) (v := 1) dL_law_792 (by decide) ?_
  refine g_iadd (pc := 793) dL_law_793 ?_
  refine g_sld (pc := 794) dL_law_794 ?_
  refine g_aload_n (pc := 795) dL_law_795 rfl 1 rfl ?_
  refine g_iload (pc := 796) dL_law_796 5 rfl ?_
  refine g_iconst (pc := 798) (v := 2) dL_law_798 (by decide) ?_
  refine g_iadd (pc := 799) dL_law_799 ?_
  refine g_sld (pc := 800) dL_law_800 ?_
  refine g_aload_n (pc := 801) dL_law_801 rfl 1 rfl ?_
  refine g_iload (pc := 802) dL_law_802 5 rfl ?_
  refine g_iconst (pc := 804) (v := 3) dL_law_804 (by decide) ?_
  refine g_iadd (pc := 805) dL_law_805 ?_
  refine g_sld (pc := 806) dL_law_806 ?_
  refine g_aload_n (pc := 807) dL_law_807 rfl 1 rfl ?_
  refine g_iload (pc := 808) dL_law_808 5 rfl ?_
  refine g_iconst (pc := 810) (v := 4) dL_law_810 (by decide) ?_
  refine g_iadd (pc := 811) dL_law_811 ?_
  refine g_sld (pc := 812) dL_law_812 ?_
  refine g_if_eq (pc := 813) (tgt := 820) dL_law_813 (by decide) ?_ ?_
  · refine g_iconst (pc := 820) (v := 0) dL_law_820 (by decide) ?_
    exact g_weak (by omega) (g_sub [1, 2, 3, 4, 5, 0] rfl (gjb_L_law_821 γ B R23 hR23 a4 x2 0 ((gxs γ) (a4 + 3).toNatClampNeg) ((gxs γ) (a4 + 2).toNatClampNeg) ((gxs γ) (a4 + 1).toNatClampNeg) h1))
  · refine g_iconst (pc := 816) (v := 1) dL_law_816 (by decide) ?_
    refine g_goto (pc := 817) (tgt := 821) dL_law_817 (by decide) ?_
    exact g_weak (by omega) (g_sub [1, 2, 3, 4, 5, 0] rfl (gjb_L_law_821 γ B R23 hR23 a4 x2 1 ((gxs γ) (a4 + 3).toNatClampNeg) ((gxs γ) (a4 + 2).toNatClampNeg) ((gxs γ) (a4 + 1).toNatClampNeg) h1))
set_option maxRecDepth 20000 in
theorem gjb_L_law_910 (γ : Gv) (B : Nat) (R23 : Int32 → Hst → Option (Int32 × Hst)) (hR23 : ∀ (a4 : Int32) (h : Hst), G γ RL cL_law 9 (some .boolean) [] vI 10 B 23 [(0, .ref (gscr γ)), (1, .ref (gad γ 0)), (2, .ref (gad γ 17)), (3, .ref (gad γ 25)), (4, .int a4)] [] h (R23 a4 h)) (a4 : Int32) (h : Hst) : G γ RL cL_law 9 (some .boolean) [] vI 10 B 910 [(0, .ref (gscr γ)), (1, .ref (gad γ 0)), (2, .ref (gad γ 17)), (3, .ref (gad γ 25)), (4, .int a4)] [] h (jb_L_law_910 (gxs γ) (gLx γ) R23 a4 h) := by
  unfold jb_L_law_910
  refine g_goto (pc := 910) (tgt := 1879) dL_law_910 (by decide) ?_
  exact g_weak (by omega) (g_sub [0, 1, 2, 3, 4] rfl (gjb_L_law_1879 γ B R23 hR23 a4 h))
set_option maxRecDepth 20000 in
theorem gjb_L_law_966 (γ : Gv) (B : Nat) (R23 : Int32 → Hst → Option (Int32 × Hst)) (hR23 : ∀ (a4 : Int32) (h : Hst), G γ RL cL_law 9 (some .boolean) [] vI 10 B 23 [(0, .ref (gscr γ)), (1, .ref (gad γ 0)), (2, .ref (gad γ 17)), (3, .ref (gad γ 25)), (4, .int a4)] [] h (R23 a4 h)) (a4 : Int32) (h : Hst) : G γ RL cL_law 9 (some .boolean) [] vI 10 B 966 [(0, .ref (gscr γ)), (1, .ref (gad γ 0)), (2, .ref (gad γ 17)), (3, .ref (gad γ 25)), (4, .int a4)] [] h (jb_L_law_966 (gxs γ) (gLx γ) R23 a4 h) := by
  unfold jb_L_law_966
  refine g_goto (pc := 966) (tgt := 1879) dL_law_966 (by decide) ?_
  exact g_weak (by omega) (g_sub [0, 1, 2, 3, 4] rfl (gjb_L_law_1879 γ B R23 hR23 a4 h))
set_option maxRecDepth 20000 in
theorem gjb_L_law_1036 (γ : Gv) (B : Nat) (R23 : Int32 → Hst → Option (Int32 × Hst)) (hR23 : ∀ (a4 : Int32) (h : Hst), G γ RL cL_law 9 (some .boolean) [] vI 10 B 23 [(0, .ref (gscr γ)), (1, .ref (gad γ 0)), (2, .ref (gad γ 17)), (3, .ref (gad γ 25)), (4, .int a4)] [] h (R23 a4 h)) (a4 : Int32) (h : Hst) : G γ RL cL_law 9 (some .boolean) [] vI 10 B 1036 [(0, .ref (gscr γ)), (1, .ref (gad γ 0)), (2, .ref (gad γ 17)), (3, .ref (gad γ 25)), (4, .int a4)] [] h (jb_L_law_1036 (gxs γ) (gLx γ) R23 a4 h) := by
  unfold jb_L_law_1036
  refine g_goto (pc := 1036) (tgt := 1879) dL_law_1036 (by decide) ?_
  exact g_weak (by omega) (g_sub [0, 1, 2, 3, 4] rfl (gjb_L_law_1879 γ B R23 hR23 a4 h))
set_option maxRecDepth 20000 in
theorem gjb_L_law_1080 (γ : Gv) (B : Nat) (R23 : Int32 → Hst → Option (Int32 × Hst)) (hR23 : ∀ (a4 : Int32) (h : Hst), G γ RL cL_law 9 (some .boolean) [] vI 10 B 23 [(0, .ref (gscr γ)), (1, .ref (gad γ 0)), (2, .ref (gad γ 17)), (3, .ref (gad γ 25)), (4, .int a4)] [] h (R23 a4 h)) (a4 : Int32) (h : Hst) : G γ RL cL_law 9 (some .boolean) [] vI 10 B 1080 [(0, .ref (gscr γ)), (1, .ref (gad γ 0)), (2, .ref (gad γ 17)), (3, .ref (gad γ 25)), (4, .int a4)] [] h (jb_L_law_1080 (gxs γ) (gLx γ) R23 a4 h) := by
  unfold jb_L_law_1080
  refine g_goto (pc := 1080) (tgt := 1879) dL_law_1080 (by decide) ?_
  exact g_weak (by omega) (g_sub [0, 1, 2, 3, 4] rfl (gjb_L_law_1879 γ B R23 hR23 a4 h))
set_option maxRecDepth 20000 in
theorem gjb_L_law_1148 (γ : Gv) (B : Nat) (R23 : Int32 → Hst → Option (Int32 × Hst)) (hR23 : ∀ (a4 : Int32) (h : Hst), G γ RL cL_law 9 (some .boolean) [] vI 10 B 23 [(0, .ref (gscr γ)), (1, .ref (gad γ 0)), (2, .ref (gad γ 17)), (3, .ref (gad γ 25)), (4, .int a4)] [] h (R23 a4 h)) (a4 : Int32) (h : Hst) : G γ RL cL_law 9 (some .boolean) [] vI 10 B 1148 [(0, .ref (gscr γ)), (1, .ref (gad γ 0)), (2, .ref (gad γ 17)), (3, .ref (gad γ 25)), (4, .int a4)] [] h (jb_L_law_1148 (gxs γ) (gLx γ) R23 a4 h) := by
  unfold jb_L_law_1148
  refine g_goto (pc := 1148) (tgt := 1879) dL_law_1148 (by decide) ?_
  exact g_weak (by omega) (g_sub [0, 1, 2, 3, 4] rfl (gjb_L_law_1879 γ B R23 hR23 a4 h))
set_option maxRecDepth 20000 in
theorem gjb_L_law_1216 (γ : Gv) (B : Nat) (R23 : Int32 → Hst → Option (Int32 × Hst)) (hR23 : ∀ (a4 : Int32) (h : Hst), G γ RL cL_law 9 (some .boolean) [] vI 10 B 23 [(0, .ref (gscr γ)), (1, .ref (gad γ 0)), (2, .ref (gad γ 17)), (3, .ref (gad γ 25)), (4, .int a4)] [] h (R23 a4 h)) (a4 : Int32) (h : Hst) : G γ RL cL_law 9 (some .boolean) [] vI 10 B 1216 [(0, .ref (gscr γ)), (1, .ref (gad γ 0)), (2, .ref (gad γ 17)), (3, .ref (gad γ 25)), (4, .int a4)] [] h (jb_L_law_1216 (gxs γ) (gLx γ) R23 a4 h) := by
  unfold jb_L_law_1216
  refine g_goto (pc := 1216) (tgt := 1879) dL_law_1216 (by decide) ?_
  exact g_weak (by omega) (g_sub [0, 1, 2, 3, 4] rfl (gjb_L_law_1879 γ B R23 hR23 a4 h))
set_option maxRecDepth 20000 in
theorem gjb_L_law_1284 (γ : Gv) (B : Nat) (R23 : Int32 → Hst → Option (Int32 × Hst)) (hR23 : ∀ (a4 : Int32) (h : Hst), G γ RL cL_law 9 (some .boolean) [] vI 10 B 23 [(0, .ref (gscr γ)), (1, .ref (gad γ 0)), (2, .ref (gad γ 17)), (3, .ref (gad γ 25)), (4, .int a4)] [] h (R23 a4 h)) (a4 : Int32) (h : Hst) : G γ RL cL_law 9 (some .boolean) [] vI 10 B 1284 [(0, .ref (gscr γ)), (1, .ref (gad γ 0)), (2, .ref (gad γ 17)), (3, .ref (gad γ 25)), (4, .int a4)] [] h (jb_L_law_1284 (gxs γ) (gLx γ) R23 a4 h) := by
  unfold jb_L_law_1284
  refine g_goto (pc := 1284) (tgt := 1879) dL_law_1284 (by decide) ?_
  exact g_weak (by omega) (g_sub [0, 1, 2, 3, 4] rfl (gjb_L_law_1879 γ B R23 hR23 a4 h))
set_option maxRecDepth 20000 in
theorem gjb_L_law_1352 (γ : Gv) (B : Nat) (R23 : Int32 → Hst → Option (Int32 × Hst)) (hR23 : ∀ (a4 : Int32) (h : Hst), G γ RL cL_law 9 (some .boolean) [] vI 10 B 23 [(0, .ref (gscr γ)), (1, .ref (gad γ 0)), (2, .ref (gad γ 17)), (3, .ref (gad γ 25)), (4, .int a4)] [] h (R23 a4 h)) (a4 : Int32) (h : Hst) : G γ RL cL_law 9 (some .boolean) [] vI 10 B 1352 [(0, .ref (gscr γ)), (1, .ref (gad γ 0)), (2, .ref (gad γ 17)), (3, .ref (gad γ 25)), (4, .int a4)] [] h (jb_L_law_1352 (gxs γ) (gLx γ) R23 a4 h) := by
  unfold jb_L_law_1352
  refine g_goto (pc := 1352) (tgt := 1879) dL_law_1352 (by decide) ?_
  exact g_weak (by omega) (g_sub [0, 1, 2, 3, 4] rfl (gjb_L_law_1879 γ B R23 hR23 a4 h))
set_option maxRecDepth 20000 in
theorem gjb_L_law_1408 (γ : Gv) (B : Nat) (R23 : Int32 → Hst → Option (Int32 × Hst)) (hR23 : ∀ (a4 : Int32) (h : Hst), G γ RL cL_law 9 (some .boolean) [] vI 10 B 23 [(0, .ref (gscr γ)), (1, .ref (gad γ 0)), (2, .ref (gad γ 17)), (3, .ref (gad γ 25)), (4, .int a4)] [] h (R23 a4 h)) (a4 : Int32) (h : Hst) : G γ RL cL_law 9 (some .boolean) [] vI 10 B 1408 [(0, .ref (gscr γ)), (1, .ref (gad γ 0)), (2, .ref (gad γ 17)), (3, .ref (gad γ 25)), (4, .int a4)] [] h (jb_L_law_1408 (gxs γ) (gLx γ) R23 a4 h) := by
  unfold jb_L_law_1408
  refine g_goto (pc := 1408) (tgt := 1879) dL_law_1408 (by decide) ?_
  exact g_weak (by omega) (g_sub [0, 1, 2, 3, 4] rfl (gjb_L_law_1879 γ B R23 hR23 a4 h))
set_option maxRecDepth 20000 in
theorem gjb_L_law_1464 (γ : Gv) (B : Nat) (R23 : Int32 → Hst → Option (Int32 × Hst)) (hR23 : ∀ (a4 : Int32) (h : Hst), G γ RL cL_law 9 (some .boolean) [] vI 10 B 23 [(0, .ref (gscr γ)), (1, .ref (gad γ 0)), (2, .ref (gad γ 17)), (3, .ref (gad γ 25)), (4, .int a4)] [] h (R23 a4 h)) (a4 : Int32) (h : Hst) : G γ RL cL_law 9 (some .boolean) [] vI 10 B 1464 [(0, .ref (gscr γ)), (1, .ref (gad γ 0)), (2, .ref (gad γ 17)), (3, .ref (gad γ 25)), (4, .int a4)] [] h (jb_L_law_1464 (gxs γ) (gLx γ) R23 a4 h) := by
  unfold jb_L_law_1464
  refine g_goto (pc := 1464) (tgt := 1879) dL_law_1464 (by decide) ?_
  exact g_weak (by omega) (g_sub [0, 1, 2, 3, 4] rfl (gjb_L_law_1879 γ B R23 hR23 a4 h))
set_option maxRecDepth 20000 in
theorem gjb_L_law_1548 (γ : Gv) (B : Nat) (R23 : Int32 → Hst → Option (Int32 × Hst)) (hR23 : ∀ (a4 : Int32) (h : Hst), G γ RL cL_law 9 (some .boolean) [] vI 10 B 23 [(0, .ref (gscr γ)), (1, .ref (gad γ 0)), (2, .ref (gad γ 17)), (3, .ref (gad γ 25)), (4, .int a4)] [] h (R23 a4 h)) (a4 : Int32) (h : Hst) : G γ RL cL_law 9 (some .boolean) [] vI 10 B 1548 [(0, .ref (gscr γ)), (1, .ref (gad γ 0)), (2, .ref (gad γ 17)), (3, .ref (gad γ 25)), (4, .int a4)] [] h (jb_L_law_1548 (gxs γ) (gLx γ) R23 a4 h) := by
  unfold jb_L_law_1548
  refine g_goto (pc := 1548) (tgt := 1879) dL_law_1548 (by decide) ?_
  exact g_weak (by omega) (g_sub [0, 1, 2, 3, 4] rfl (gjb_L_law_1879 γ B R23 hR23 a4 h))
set_option maxRecDepth 20000 in
theorem gjb_L_law_1515 (γ : Gv) (B : Nat) (R23 : Int32 → Hst → Option (Int32 × Hst)) (hR23 : ∀ (a4 : Int32) (h : Hst), G γ RL cL_law 9 (some .boolean) [] vI 10 B 23 [(0, .ref (gscr γ)), (1, .ref (gad γ 0)), (2, .ref (gad γ 17)), (3, .ref (gad γ 25)), (4, .int a4)] [] h (R23 a4 h)) (a4 : Int32) (a5 : Int32) (s0 : Int32) (s1 : Int32) (h : Hst) : G γ RL cL_law 9 (some .boolean) [] vI 10 B 1515 [(0, .ref (gscr γ)), (1, .ref (gad γ 0)), (2, .ref (gad γ 17)), (3, .ref (gad γ 25)), (4, .int a4), (5, .int a5)] [.int s0, .int s1, .ref (gad γ 17)] h (jb_L_law_1515 (gxs γ) (gLx γ) R23 a4 a5 s0 s1 h) := by
  unfold jb_L_law_1515
  refine g_cI (pc := 1515) (st := []) (fun r hr => gRunV (As := [.int s1, .int s0]) 17 (ge_X7_whyNot γ s1 s0 h) hr wv_RL_181 rfl (Nat.le_of_ble_eq_true rfl) (gat_17 _ _) rfl rfl (Nat.le_of_ble_eq_true rfl) (Nat.le_of_ble_eq_true rfl) dL_law_1515) (fun x2 h1 => ?_)
  refine g_istore (pc := 1518) (lv' := [(6, .int x2), (0, .ref (gscr γ)), (1, .ref (gad γ 0)), (2, .ref (gad γ 17)), (3, .ref (gad γ 25)), (4, .int a4), (5, .int a5)]) dL_law_1518 (by decide) rfl ?_
  refine g_aload_n (pc := 1520) dL_law_1520 rfl 3 rfl ?_
  refine g_cI (pc := 1521) (st := []) (fun r hr => gRunV (As := []) 17 (ge_X7_thrown γ h1) hr wv_RL_104 rfl (Nat.le_of_ble_eq_true rfl) (gat_17 _ _) rfl rfl (Nat.le_of_ble_eq_true rfl) (Nat.le_of_ble_eq_true rfl) dL_law_1521) (fun x4 h3 => ?_)
  refine g_iload (pc := 1524) dL_law_1524 6 rfl ?_
  refine g_icmp_eq (pc := 1526) (tgt := 1531) dL_law_1526 (by decide) ?_ ?_
  · refine g_iload (pc := 1531) dL_law_1531 6 rfl ?_
    refine g_if_ne (pc := 1533) (tgt := 1548) dL_law_1533 (by decide) ?_ ?_
    · exact g_weak (by omega) (g_sub [1, 2, 3, 4, 5] rfl (gjb_L_law_1548 γ B R23 hR23 a4 h3))
    · refine g_aload_n (pc := 1536) dL_law_1536 rfl 4 rfl ?_
      refine g_iconst (pc := 1537) (v := 0) dL_law_1537 (by decide) ?_
      refine g_lald (pc := 1538) 25 (gat_25 _ _) dL_law_1538 ?_
      refine g_iload (pc := 1539) dL_law_1539 0 rfl ?_
      refine g_i2l (pc := 1541) dL_law_1541 ?_
      refine g_lcmp (pc := 1542) dL_law_1542 ?_
      refine g_if_eq (pc := 1543) (tgt := 1548) dL_law_1543 (by decide) ?_ ?_
      · exact g_weak (by omega) (g_sub [1, 2, 3, 4, 5] rfl (gjb_L_law_1548 γ B R23 hR23 a4 h3))
      · refine g_iconst (pc := 1546) (v := 0) dL_law_1546 (by decide) ?_
        exact g_zreturn (pc := 1547) dL_law_1547 rfl rfl
  · refine g_iconst (pc := 1529) (v := 0) dL_law_1529 (by decide) ?_
    exact g_zreturn (pc := 1530) dL_law_1530 rfl rfl
set_option maxRecDepth 20000 in
theorem gjb_L_law_1488 (γ : Gv) (B : Nat) (R23 : Int32 → Hst → Option (Int32 × Hst)) (hR23 : ∀ (a4 : Int32) (h : Hst), G γ RL cL_law 9 (some .boolean) [] vI 10 B 23 [(0, .ref (gscr γ)), (1, .ref (gad γ 0)), (2, .ref (gad γ 17)), (3, .ref (gad γ 25)), (4, .int a4)] [] h (R23 a4 h)) (a4 : Int32) (s0 : Int32) (s1 : Int32) (h : Hst) : G γ RL cL_law 9 (some .boolean) [] vI 10 (B + 1) 1488 [(0, .ref (gscr γ)), (1, .ref (gad γ 0)), (2, .ref (gad γ 17)), (3, .ref (gad γ 25)), (4, .int a4)] [.int s0, .int s1, .ref (gad γ 0)] h (jb_L_law_1488 (gxs γ) (gLx γ) R23 a4 s0 s1 h) := by
  unfold jb_L_law_1488
  refine g_aload_n (pc := 1488) dL_law_1488 rfl 3 rfl ?_
  refine g_cH (pc := 1489) (st := []) (fun r hr => gRunSX (As := [.ref (gad γ 0), .int s1, .int s0, .ref (gad γ 25)]) (ge_L_whyNot γ s1 s0 h) hr wv_RL_179 rfl (Nat.le_of_ble_eq_true rfl) rfl (Nat.le_of_ble_eq_true rfl) (Nat.le_of_ble_eq_true rfl) dL_law_1489) (fun x2 h1 => ?_)
  refine g_istore (pc := 1492) (lv' := [(5, .int x2), (0, .ref (gscr γ)), (1, .ref (gad γ 0)), (2, .ref (gad γ 17)), (3, .ref (gad γ 25)), (4, .int a4)]) dL_law_1492 (by decide) rfl ?_
  refine g_aload_n (pc := 1494) dL_law_1494 rfl 3 rfl ?_
  refine g_aload_n (pc := 1495) dL_law_1495 rfl 1 rfl ?_
  refine g_iload (pc := 1496) dL_law_1496 5 rfl ?_
  refine g_iconst (pc := 1498) (v := 1) dL_law_1498 (by decide) ?_
  refine g_iadd (pc := 1499) dL_law_1499 ?_
  refine g_sld (pc := 1500) dL_law_1500 ?_
  refine g_aload_n (pc := 1501) dL_law_1501 rfl 1 rfl ?_
  refine g_iload (pc := 1502) dL_law_1502 5 rfl ?_
  refine g_iconst (pc := 1504) (v := 2) dL_law_1504 (by decide) ?_
  refine g_iadd (pc := 1505) dL_law_1505 ?_
  refine g_sld (pc := 1506) dL_law_1506 ?_
  refine g_if_eq (pc := 1507) (tgt := 1514) dL_law_1507 (by decide) ?_ ?_
  · refine g_iconst (pc := 1514) (v := 0) dL_law_1514 (by decide) ?_
    exact g_weak (by omega) (g_sub [1, 2, 3, 4, 5, 0] rfl (gjb_L_law_1515 γ B R23 hR23 a4 x2 0 ((gxs γ) (a4 + 1).toNatClampNeg) h1))
  · refine g_iconst (pc := 1510) (v := 1) dL_law_1510 (by decide) ?_
    refine g_goto (pc := 1511) (tgt := 1515) dL_law_1511 (by decide) ?_
    exact g_weak (by omega) (g_sub [1, 2, 3, 4, 5, 0] rfl (gjb_L_law_1515 γ B R23 hR23 a4 x2 1 ((gxs γ) (a4 + 1).toNatClampNeg) h1))
set_option maxRecDepth 20000 in
theorem gjb_L_law_1604 (γ : Gv) (B : Nat) (R23 : Int32 → Hst → Option (Int32 × Hst)) (hR23 : ∀ (a4 : Int32) (h : Hst), G γ RL cL_law 9 (some .boolean) [] vI 10 B 23 [(0, .ref (gscr γ)), (1, .ref (gad γ 0)), (2, .ref (gad γ 17)), (3, .ref (gad γ 25)), (4, .int a4)] [] h (R23 a4 h)) (a4 : Int32) (h : Hst) : G γ RL cL_law 9 (some .boolean) [] vI 10 B 1604 [(0, .ref (gscr γ)), (1, .ref (gad γ 0)), (2, .ref (gad γ 17)), (3, .ref (gad γ 25)), (4, .int a4)] [] h (jb_L_law_1604 (gxs γ) (gLx γ) R23 a4 h) := by
  unfold jb_L_law_1604
  refine g_goto (pc := 1604) (tgt := 1879) dL_law_1604 (by decide) ?_
  exact g_weak (by omega) (g_sub [0, 1, 2, 3, 4] rfl (gjb_L_law_1879 γ B R23 hR23 a4 h))
set_option maxRecDepth 20000 in
theorem gjb_L_law_1684 (γ : Gv) (B : Nat) (R23 : Int32 → Hst → Option (Int32 × Hst)) (hR23 : ∀ (a4 : Int32) (h : Hst), G γ RL cL_law 9 (some .boolean) [] vI 10 B 23 [(0, .ref (gscr γ)), (1, .ref (gad γ 0)), (2, .ref (gad γ 17)), (3, .ref (gad γ 25)), (4, .int a4)] [] h (R23 a4 h)) (a4 : Int32) (h : Hst) : G γ RL cL_law 9 (some .boolean) [] vI 10 B 1684 [(0, .ref (gscr γ)), (1, .ref (gad γ 0)), (2, .ref (gad γ 17)), (3, .ref (gad γ 25)), (4, .int a4)] [] h (jb_L_law_1684 (gxs γ) (gLx γ) R23 a4 h) := by
  unfold jb_L_law_1684
  refine g_goto (pc := 1684) (tgt := 1879) dL_law_1684 (by decide) ?_
  exact g_weak (by omega) (g_sub [0, 1, 2, 3, 4] rfl (gjb_L_law_1879 γ B R23 hR23 a4 h))
set_option maxRecDepth 20000 in
theorem gjb_L_law_1752 (γ : Gv) (B : Nat) (R23 : Int32 → Hst → Option (Int32 × Hst)) (hR23 : ∀ (a4 : Int32) (h : Hst), G γ RL cL_law 9 (some .boolean) [] vI 10 B 23 [(0, .ref (gscr γ)), (1, .ref (gad γ 0)), (2, .ref (gad γ 17)), (3, .ref (gad γ 25)), (4, .int a4)] [] h (R23 a4 h)) (a4 : Int32) (h : Hst) : G γ RL cL_law 9 (some .boolean) [] vI 10 B 1752 [(0, .ref (gscr γ)), (1, .ref (gad γ 0)), (2, .ref (gad γ 17)), (3, .ref (gad γ 25)), (4, .int a4)] [] h (jb_L_law_1752 (gxs γ) (gLx γ) R23 a4 h) := by
  unfold jb_L_law_1752
  refine g_goto (pc := 1752) (tgt := 1879) dL_law_1752 (by decide) ?_
  exact g_weak (by omega) (g_sub [0, 1, 2, 3, 4] rfl (gjb_L_law_1879 γ B R23 hR23 a4 h))
set_option maxRecDepth 20000 in
theorem gjb_L_law_1808 (γ : Gv) (B : Nat) (R23 : Int32 → Hst → Option (Int32 × Hst)) (hR23 : ∀ (a4 : Int32) (h : Hst), G γ RL cL_law 9 (some .boolean) [] vI 10 B 23 [(0, .ref (gscr γ)), (1, .ref (gad γ 0)), (2, .ref (gad γ 17)), (3, .ref (gad γ 25)), (4, .int a4)] [] h (R23 a4 h)) (a4 : Int32) (h : Hst) : G γ RL cL_law 9 (some .boolean) [] vI 10 B 1808 [(0, .ref (gscr γ)), (1, .ref (gad γ 0)), (2, .ref (gad γ 17)), (3, .ref (gad γ 25)), (4, .int a4)] [] h (jb_L_law_1808 (gxs γ) (gLx γ) R23 a4 h) := by
  unfold jb_L_law_1808
  refine g_goto (pc := 1808) (tgt := 1879) dL_law_1808 (by decide) ?_
  exact g_weak (by omega) (g_sub [0, 1, 2, 3, 4] rfl (gjb_L_law_1879 γ B R23 hR23 a4 h))
set_option maxRecDepth 20000 in
theorem gjb_L_law_1862 (γ : Gv) (B : Nat) (R23 : Int32 → Hst → Option (Int32 × Hst)) (hR23 : ∀ (a4 : Int32) (h : Hst), G γ RL cL_law 9 (some .boolean) [] vI 10 B 23 [(0, .ref (gscr γ)), (1, .ref (gad γ 0)), (2, .ref (gad γ 17)), (3, .ref (gad γ 25)), (4, .int a4)] [] h (R23 a4 h)) (a4 : Int32) (h : Hst) : G γ RL cL_law 9 (some .boolean) [] vI 10 B 1862 [(0, .ref (gscr γ)), (1, .ref (gad γ 0)), (2, .ref (gad γ 17)), (3, .ref (gad γ 25)), (4, .int a4)] [] h (jb_L_law_1862 (gxs γ) (gLx γ) R23 a4 h) := by
  unfold jb_L_law_1862
  refine g_goto (pc := 1862) (tgt := 1879) dL_law_1862 (by decide) ?_
  exact g_weak (by omega) (g_sub [0, 1, 2, 3, 4] rfl (gjb_L_law_1879 γ B R23 hR23 a4 h))
set_option maxRecDepth 20000 in
theorem gjb_L_law_1860 (γ : Gv) (B : Nat)   (h : Hst) : G γ RL cL_law 9 (some .boolean) [] vI 10 B 1860 [] [] h (jb_L_law_1860 (gxs γ) (gLx γ) h) := by
  unfold jb_L_law_1860
  refine g_iconst (pc := 1860) (v := 0) dL_law_1860 (by decide) ?_
  exact g_zreturn (pc := 1861) dL_law_1861 rfl rfl
set_option maxRecDepth 20000 in
theorem glp_L_law_23 (γ : Gv)  : ∀ (n : Nat) (a4 : Int32) (h : Hst), G γ RL cL_law 9 (some .boolean) [] vI 10 n 23 [(0, .ref (gscr γ)), (1, .ref (gad γ 0)), (2, .ref (gad γ 17)), (3, .ref (gad γ 25)), (4, .int a4)] [] h (lp_L_law_23 (gxs γ) (gLx γ) n a4 h) := by
  intro n
  induction n with
  | zero => intro a4 h; exact g_none
  | succ n ih =>
    intro a4 h
    rw [lp_L_law_23]
    refine g_iload (pc := 23) dL_law_23 4 rfl ?_
    refine g_aload_n (pc := 25) dL_law_25 rfl 0 rfl ?_
    refine g_slen (pc := 26) dL_law_26 ?_
    refine g_bipush (pc := 27) (v := 6) dL_law_27 (by decide) ?_
    refine g_isub (pc := 29) dL_law_29 ?_
    refine g_icmp_gt (pc := 30) (tgt := 1885) dL_law_30 (by decide) ?_ ?_
    · refine g_iconst (pc := 1885) (v := 1) dL_law_1885 (by decide) ?_
      exact g_zreturn (pc := 1886) dL_law_1886 rfl rfl
    · refine g_aload_n (pc := 33) dL_law_33 rfl 0 rfl ?_
      refine g_iload (pc := 34) dL_law_34 4 rfl ?_
      refine g_sld (pc := 36) dL_law_36 ?_
      refine g_bipush (pc := 37) (v := 31) dL_law_37 (by decide) ?_
      refine g_iand (pc := 39) dL_law_39 ?_
      refine g_nmi (fun x1 => ?_)
      refine g_case (c := x1 = 0) (fun c0 => ?_) (fun c0 => ?_)
      · refine g_tswI (pc := 40) (tgt := 176) (off := 136) dL_law_40 (by rw [c0]; decide) (by rw [c0]; decide) (by rw [c0]; decide) (by decide) ?_
        refine g_aload_n (pc := 176) dL_law_176 rfl 1 rfl ?_
        refine g_aload_n (pc := 177) dL_law_177 rfl 3 rfl ?_
        refine g_cH (pc := 178) (st := []) (fun r hr => gRunSX (As := [.ref (gad γ 0), .ref (gad γ 25)]) (ge_L_addGrower γ h) hr wv_RL_98 rfl (Nat.le_of_ble_eq_true rfl) rfl (Nat.le_of_ble_eq_true rfl) (Nat.le_of_ble_eq_true rfl) dL_law_178) (fun x3 h2 => ?_)
        refine g_istore (pc := 181) (lv' := [(5, .int x3), (0, .ref (gscr γ)), (1, .ref (gad γ 0)), (2, .ref (gad γ 17)), (3, .ref (gad γ 25)), (4, .int a4)]) dL_law_181 (by decide) rfl ?_
        refine g_aload_n (pc := 183) dL_law_183 rfl 3 rfl ?_
        refine g_cI (pc := 184) (st := []) (fun r hr => gRunV (As := []) 17 (ge_X7_addGrower γ h2) hr wv_RL_103 rfl (Nat.le_of_ble_eq_true rfl) (gat_17 _ _) rfl rfl (Nat.le_of_ble_eq_true rfl) (Nat.le_of_ble_eq_true rfl) dL_law_184) (fun x5 h4 => ?_)
        refine g_istore (pc := 187) (lv' := [(6, .int x5), (5, .int x3), (0, .ref (gscr γ)), (1, .ref (gad γ 0)), (2, .ref (gad γ 17)), (3, .ref (gad γ 25)), (4, .int a4)]) dL_law_187 (by decide) rfl ?_
        refine g_aload_n (pc := 189) dL_law_189 rfl 4 rfl ?_
        refine g_cI (pc := 190) (st := []) (fun r hr => gRunV (As := []) 17 (ge_X7_thrown γ h4) hr wv_RL_104 rfl (Nat.le_of_ble_eq_true rfl) (gat_17 _ _) rfl rfl (Nat.le_of_ble_eq_true rfl) (Nat.le_of_ble_eq_true rfl) dL_law_190) (fun x7 h6 => ?_)
        refine g_iload (pc := 193) dL_law_193 1 rfl ?_
        refine g_icmp_eq (pc := 195) (tgt := 200) dL_law_195 (by decide) ?_ ?_
        · refine g_iload (pc := 200) dL_law_200 1 rfl ?_
          refine g_if_ne (pc := 202) (tgt := 217) dL_law_202 (by decide) ?_ ?_
          · exact g_weak (by omega) (g_sub [2, 3, 4, 5, 6] rfl (gjb_L_law_217 γ n (lp_L_law_23 (gxs γ) (gLx γ) n) ih a4 h6))
          · refine g_aload_n (pc := 205) dL_law_205 rfl 5 rfl ?_
            refine g_iconst (pc := 206) (v := 0) dL_law_206 (by decide) ?_
            refine g_lald (pc := 207) 25 (gat_25 _ _) dL_law_207 ?_
            refine g_iload (pc := 208) dL_law_208 0 rfl ?_
            refine g_i2l (pc := 210) dL_law_210 ?_
            refine g_lcmp (pc := 211) dL_law_211 ?_
            refine g_if_eq (pc := 212) (tgt := 217) dL_law_212 (by decide) ?_ ?_
            · exact g_weak (by omega) (g_sub [2, 3, 4, 5, 6] rfl (gjb_L_law_217 γ n (lp_L_law_23 (gxs γ) (gLx γ) n) ih a4 h6))
            · refine g_iconst (pc := 215) (v := 0) dL_law_215 (by decide) ?_
              exact g_zreturn (pc := 216) dL_law_216 rfl rfl
        · refine g_iconst (pc := 198) (v := 0) dL_law_198 (by decide) ?_
          exact g_zreturn (pc := 199) dL_law_199 rfl rfl
      refine g_case (c := x1 = 1) (fun c1 => ?_) (fun c1 => ?_)
      · refine g_tswI (pc := 40) (tgt := 220) (off := 180) dL_law_40 (by rw [c1]; decide) (by rw [c1]; decide) (by rw [c1]; decide) (by decide) ?_
        refine g_aload_n (pc := 220) dL_law_220 rfl 1 rfl ?_
        refine g_aload_n (pc := 221) dL_law_221 rfl 0 rfl ?_
        refine g_iload (pc := 222) dL_law_222 4 rfl ?_
        refine g_iconst (pc := 224) (v := 1) dL_law_224 (by decide) ?_
        refine g_iadd (pc := 225) dL_law_225 ?_
        refine g_sld (pc := 226) dL_law_226 ?_
        refine g_aload_n (pc := 227) dL_law_227 rfl 0 rfl ?_
        refine g_iload (pc := 228) dL_law_228 4 rfl ?_
        refine g_iconst (pc := 230) (v := 2) dL_law_230 (by decide) ?_
        refine g_iadd (pc := 231) dL_law_231 ?_
        refine g_sld (pc := 232) dL_law_232 ?_
        refine g_aload_n (pc := 233) dL_law_233 rfl 0 rfl ?_
        refine g_iload (pc := 234) dL_law_234 4 rfl ?_
        refine g_iconst (pc := 236) (v := 3) dL_law_236 (by decide) ?_
        refine g_iadd (pc := 237) dL_law_237 ?_
        refine g_sld (pc := 238) dL_law_238 ?_
        refine g_aload_n (pc := 239) dL_law_239 rfl 0 rfl ?_
        refine g_iload (pc := 240) dL_law_240 4 rfl ?_
        refine g_iconst (pc := 242) (v := 4) dL_law_242 (by decide) ?_
        refine g_iadd (pc := 243) dL_law_243 ?_
        refine g_sld (pc := 244) dL_law_244 ?_
        refine g_aload_n (pc := 245) dL_law_245 rfl 0 rfl ?_
        refine g_iload (pc := 246) dL_law_246 4 rfl ?_
        refine g_iconst (pc := 248) (v := 5) dL_law_248 (by decide) ?_
        refine g_iadd (pc := 249) dL_law_249 ?_
        refine g_sld (pc := 250) dL_law_250 ?_
        refine g_aload_n (pc := 251) dL_law_251 rfl 3 rfl ?_
        refine g_cH (pc := 252) (st := []) (fun r hr => gRunSX (As := [.ref (gad γ 0), .int ((gxs γ) (a4 + 1).toNatClampNeg), .int ((gxs γ) (a4 + 2).toNatClampNeg), .int ((gxs γ) (a4 + 3).toNatClampNeg), .int ((gxs γ) (a4 + 4).toNatClampNeg), .int ((gxs γ) (a4 + 5).toNatClampNeg), .ref (gad γ 25)]) (ge_L_addLot γ ((gxs γ) (a4 + 1).toNatClampNeg) ((gxs γ) (a4 + 2).toNatClampNeg) ((gxs γ) (a4 + 3).toNatClampNeg) ((gxs γ) (a4 + 4).toNatClampNeg) ((gxs γ) (a4 + 5).toNatClampNeg) h) hr wv_RL_107 rfl (Nat.le_of_ble_eq_true rfl) rfl (Nat.le_of_ble_eq_true rfl) (Nat.le_of_ble_eq_true rfl) dL_law_252) (fun x9 h8 => ?_)
        refine g_istore (pc := 255) (lv' := [(5, .int x9), (0, .ref (gscr γ)), (1, .ref (gad γ 0)), (2, .ref (gad γ 17)), (3, .ref (gad γ 25)), (4, .int a4)]) dL_law_255 (by decide) rfl ?_
        refine g_aload_n (pc := 257) dL_law_257 rfl 3 rfl ?_
        refine g_aload_n (pc := 258) dL_law_258 rfl 1 rfl ?_
        refine g_iload (pc := 259) dL_law_259 5 rfl ?_
        refine g_iconst (pc := 261) (v := 1) dL_law_261 (by decide) ?_
        refine g_iadd (pc := 262) dL_law_262 ?_
        refine g_sld (pc := 263) dL_law_263 ?_
        refine g_aload_n (pc := 264) dL_law_264 rfl 1 rfl ?_
        refine g_iload (pc := 265) dL_law_265 5 rfl ?_
        refine g_iconst (pc := 267) (v := 2) dL_law_267 (by decide) ?_
        refine g_iadd (pc := 268) dL_law_268 ?_
        refine g_sld (pc := 269) dL_law_269 ?_
        refine g_aload_n (pc := 270) dL_law_270 rfl 1 rfl ?_
        refine g_iload (pc := 271) dL_law_271 5 rfl ?_
        refine g_iconst (pc := 273) (v := 3) dL_law_273 (by decide) ?_
        refine g_iadd (pc := 274) dL_law_274 ?_
        refine g_sld (pc := 275) dL_law_275 ?_
        refine g_aload_n (pc := 276) dL_law_276 rfl 1 rfl ?_
        refine g_iload (pc := 277) dL_law_277 5 rfl ?_
        refine g_iconst (pc := 279) (v := 4) dL_law_279 (by decide) ?_
        refine g_iadd (pc := 280) dL_law_280 ?_
        refine g_sld (pc := 281) dL_law_281 ?_
        refine g_aload_n (pc := 282) dL_law_282 rfl 1 rfl ?_
        refine g_iload (pc := 283) dL_law_283 5 rfl ?_
        refine g_iconst (pc := 285) (v := 5) dL_law_285 (by decide) ?_
        refine g_iadd (pc := 286) dL_law_286 ?_
        refine g_sld (pc := 287) dL_law_287 ?_
        refine g_cI (pc := 288) (st := []) (fun r hr => gRunV (As := [.int ((gxs γ) (a4 + 1).toNatClampNeg), .int ((gxs γ) (a4 + 2).toNatClampNeg), .int ((gxs γ) (a4 + 3).toNatClampNeg), .int ((gxs γ) (a4 + 4).toNatClampNeg), .int ((gxs γ) (a4 + 5).toNatClampNeg)]) 17 (ge_X7_addLot γ ((gxs γ) (a4 + 1).toNatClampNeg) ((gxs γ) (a4 + 2).toNatClampNeg) ((gxs γ) (a4 + 3).toNatClampNeg) ((gxs γ) (a4 + 4).toNatClampNeg) ((gxs γ) (a4 + 5).toNatClampNeg) h8) hr wv_RL_110 rfl (Nat.le_of_ble_eq_true rfl) (gat_17 _ _) rfl rfl (Nat.le_of_ble_eq_true rfl) (Nat.le_of_ble_eq_true rfl) dL_law_288) (fun x11 h10 => ?_)
        refine g_istore (pc := 291) (lv' := [(6, .int x11), (5, .int x9), (0, .ref (gscr γ)), (1, .ref (gad γ 0)), (2, .ref (gad γ 17)), (3, .ref (gad γ 25)), (4, .int a4)]) dL_law_291 (by decide) rfl ?_
        refine g_aload_n (pc := 293) dL_law_293 rfl 4 rfl ?_
        refine g_cI (pc := 294) (st := []) (fun r hr => gRunV (As := []) 17 (ge_X7_thrown γ h10) hr wv_RL_104 rfl (Nat.le_of_ble_eq_true rfl) (gat_17 _ _) rfl rfl (Nat.le_of_ble_eq_true rfl) (Nat.le_of_ble_eq_true rfl) dL_law_294) (fun x13 h12 => ?_)
        refine g_iload (pc := 297) dL_law_297 1 rfl ?_
        refine g_icmp_eq (pc := 299) (tgt := 304) dL_law_299 (by decide) ?_ ?_
        · refine g_iload (pc := 304) dL_law_304 1 rfl ?_
          refine g_if_ne (pc := 306) (tgt := 321) dL_law_306 (by decide) ?_ ?_
          · exact g_weak (by omega) (g_sub [2, 3, 4, 5, 6] rfl (gjb_L_law_321 γ n (lp_L_law_23 (gxs γ) (gLx γ) n) ih a4 h12))
          · refine g_aload_n (pc := 309) dL_law_309 rfl 5 rfl ?_
            refine g_iconst (pc := 310) (v := 0) dL_law_310 (by decide) ?_
            refine g_lald (pc := 311) 25 (gat_25 _ _) dL_law_311 ?_
            refine g_iload (pc := 312) dL_law_312 0 rfl ?_
            refine g_i2l (pc := 314) dL_law_314 ?_
            refine g_lcmp (pc := 315) dL_law_315 ?_
            refine g_if_eq (pc := 316) (tgt := 321) dL_law_316 (by decide) ?_ ?_
            · exact g_weak (by omega) (g_sub [2, 3, 4, 5, 6] rfl (gjb_L_law_321 γ n (lp_L_law_23 (gxs γ) (gLx γ) n) ih a4 h12))
            · refine g_iconst (pc := 319) (v := 0) dL_law_319 (by decide) ?_
              exact g_zreturn (pc := 320) dL_law_320 rfl rfl
        · refine g_iconst (pc := 302) (v := 0) dL_law_302 (by decide) ?_
          exact g_zreturn (pc := 303) dL_law_303 rfl rfl
      refine g_case (c := x1 = 2) (fun c2 => ?_) (fun c2 => ?_)
      · refine g_tswI (pc := 40) (tgt := 324) (off := 284) dL_law_40 (by rw [c2]; decide) (by rw [c2]; decide) (by rw [c2]; decide) (by decide) ?_
        refine g_aload_n (pc := 324) dL_law_324 rfl 1 rfl ?_
        refine g_aload_n (pc := 325) dL_law_325 rfl 0 rfl ?_
        refine g_iload (pc := 326) dL_law_326 4 rfl ?_
        refine g_iconst (pc := 328) (v := 1) dL_law_328 (by decide) ?_
        refine g_iadd (pc := 329) dL_law_329 ?_
        refine g_sld (pc := 330) dL_law_330 ?_
        refine g_aload_n (pc := 331) dL_law_331 rfl 3 rfl ?_
        refine g_cH (pc := 332) (st := []) (fun r hr => gRunSX (As := [.ref (gad γ 0), .int ((gxs γ) (a4 + 1).toNatClampNeg), .ref (gad γ 25)]) (ge_L_addTank γ ((gxs γ) (a4 + 1).toNatClampNeg) h) hr wv_RL_111 rfl (Nat.le_of_ble_eq_true rfl) rfl (Nat.le_of_ble_eq_true rfl) (Nat.le_of_ble_eq_true rfl) dL_law_332) (fun x15 h14 => ?_)
        refine g_istore (pc := 335) (lv' := [(5, .int x15), (0, .ref (gscr γ)), (1, .ref (gad γ 0)), (2, .ref (gad γ 17)), (3, .ref (gad γ 25)), (4, .int a4)]) dL_law_335 (by decide) rfl ?_
        refine g_aload_n (pc := 337) dL_law_337 rfl 3 rfl ?_
        refine g_aload_n (pc := 338) dL_law_338 rfl 1 rfl ?_
        refine g_iload (pc := 339) dL_law_339 5 rfl ?_
        refine g_iconst (pc := 341) (v := 1) dL_law_341 (by decide) ?_
        refine g_iadd (pc := 342) dL_law_342 ?_
        refine g_sld (pc := 343) dL_law_343 ?_
        refine g_cI (pc := 344) (st := []) (fun r hr => gRunV (As := [.int ((gxs γ) (a4 + 1).toNatClampNeg)]) 17 (ge_X7_addTank γ ((gxs γ) (a4 + 1).toNatClampNeg) h14) hr wv_RL_114 rfl (Nat.le_of_ble_eq_true rfl) (gat_17 _ _) rfl rfl (Nat.le_of_ble_eq_true rfl) (Nat.le_of_ble_eq_true rfl) dL_law_344) (fun x17 h16 => ?_)
        refine g_istore (pc := 347) (lv' := [(6, .int x17), (5, .int x15), (0, .ref (gscr γ)), (1, .ref (gad γ 0)), (2, .ref (gad γ 17)), (3, .ref (gad γ 25)), (4, .int a4)]) dL_law_347 (by decide) rfl ?_
        refine g_aload_n (pc := 349) dL_law_349 rfl 4 rfl ?_
        refine g_cI (pc := 350) (st := []) (fun r hr => gRunV (As := []) 17 (ge_X7_thrown γ h16) hr wv_RL_104 rfl (Nat.le_of_ble_eq_true rfl) (gat_17 _ _) rfl rfl (Nat.le_of_ble_eq_true rfl) (Nat.le_of_ble_eq_true rfl) dL_law_350) (fun x19 h18 => ?_)
        refine g_iload (pc := 353) dL_law_353 1 rfl ?_
        refine g_icmp_eq (pc := 355) (tgt := 360) dL_law_355 (by decide) ?_ ?_
        · refine g_iload (pc := 360) dL_law_360 1 rfl ?_
          refine g_if_ne (pc := 362) (tgt := 377) dL_law_362 (by decide) ?_ ?_
          · exact g_weak (by omega) (g_sub [2, 3, 4, 5, 6] rfl (gjb_L_law_377 γ n (lp_L_law_23 (gxs γ) (gLx γ) n) ih a4 h18))
          · refine g_aload_n (pc := 365) dL_law_365 rfl 5 rfl ?_
            refine g_iconst (pc := 366) (v := 0) dL_law_366 (by decide) ?_
            refine g_lald (pc := 367) 25 (gat_25 _ _) dL_law_367 ?_
            refine g_iload (pc := 368) dL_law_368 0 rfl ?_
            refine g_i2l (pc := 370) dL_law_370 ?_
            refine g_lcmp (pc := 371) dL_law_371 ?_
            refine g_if_eq (pc := 372) (tgt := 377) dL_law_372 (by decide) ?_ ?_
            · exact g_weak (by omega) (g_sub [2, 3, 4, 5, 6] rfl (gjb_L_law_377 γ n (lp_L_law_23 (gxs γ) (gLx γ) n) ih a4 h18))
            · refine g_iconst (pc := 375) (v := 0) dL_law_375 (by decide) ?_
              exact g_zreturn (pc := 376) dL_law_376 rfl rfl
        · refine g_iconst (pc := 358) (v := 0) dL_law_358 (by decide) ?_
          exact g_zreturn (pc := 359) dL_law_359 rfl rfl
      refine g_case (c := x1 = 3) (fun c3 => ?_) (fun c3 => ?_)
      · refine g_tswI (pc := 40) (tgt := 380) (off := 340) dL_law_40 (by rw [c3]; decide) (by rw [c3]; decide) (by rw [c3]; decide) (by decide) ?_
        refine g_aload_n (pc := 380) dL_law_380 rfl 1 rfl ?_
        refine g_aload_n (pc := 381) dL_law_381 rfl 0 rfl ?_
        refine g_iload (pc := 382) dL_law_382 4 rfl ?_
        refine g_iconst (pc := 384) (v := 1) dL_law_384 (by decide) ?_
        refine g_iadd (pc := 385) dL_law_385 ?_
        refine g_sld (pc := 386) dL_law_386 ?_
        refine g_aload_n (pc := 387) dL_law_387 rfl 0 rfl ?_
        refine g_iload (pc := 388) dL_law_388 4 rfl ?_
        refine g_iconst (pc := 390) (v := 2) dL_law_390 (by decide) ?_
        refine g_iadd (pc := 391) dL_law_391 ?_
        refine g_sld (pc := 392) dL_law_392 ?_
        refine g_aload_n (pc := 393) dL_law_393 rfl 3 rfl ?_
        refine g_cH (pc := 394) (st := []) (fun r hr => gRunSX (As := [.ref (gad γ 0), .int ((gxs γ) (a4 + 1).toNatClampNeg), .int ((gxs γ) (a4 + 2).toNatClampNeg), .ref (gad γ 25)]) (ge_L_setYield γ ((gxs γ) (a4 + 1).toNatClampNeg) ((gxs γ) (a4 + 2).toNatClampNeg) h) hr wv_RL_115 rfl (Nat.le_of_ble_eq_true rfl) rfl (Nat.le_of_ble_eq_true rfl) (Nat.le_of_ble_eq_true rfl) dL_law_394) (fun x21 h20 => ?_)
        refine g_istore (pc := 397) (lv' := [(5, .int x21), (0, .ref (gscr γ)), (1, .ref (gad γ 0)), (2, .ref (gad γ 17)), (3, .ref (gad γ 25)), (4, .int a4)]) dL_law_397 (by decide) rfl ?_
        refine g_aload_n (pc := 399) dL_law_399 rfl 3 rfl ?_
        refine g_aload_n (pc := 400) dL_law_400 rfl 1 rfl ?_
        refine g_iload (pc := 401) dL_law_401 5 rfl ?_
        refine g_iconst (pc := 403) (v := 1) dL_law_403 (by decide) ?_
        refine g_iadd (pc := 404) dL_law_404 ?_
        refine g_sld (pc := 405) dL_law_405 ?_
        refine g_aload_n (pc := 406) dL_law_406 rfl 1 rfl ?_
        refine g_iload (pc := 407) dL_law_407 5 rfl ?_
        refine g_iconst (pc := 409) (v := 2) dL_law_409 (by decide) ?_
        refine g_iadd (pc := 410) dL_law_410 ?_
        refine g_sld (pc := 411) dL_law_411 ?_
        refine g_cI (pc := 412) (st := []) (fun r hr => gRunV (As := [.int ((gxs γ) (a4 + 1).toNatClampNeg), .int ((gxs γ) (a4 + 2).toNatClampNeg)]) 17 (ge_X7_setYield γ ((gxs γ) (a4 + 1).toNatClampNeg) ((gxs γ) (a4 + 2).toNatClampNeg) h20) hr wv_RL_118 rfl (Nat.le_of_ble_eq_true rfl) (gat_17 _ _) rfl rfl (Nat.le_of_ble_eq_true rfl) (Nat.le_of_ble_eq_true rfl) dL_law_412) (fun x23 h22 => ?_)
        refine g_istore (pc := 415) (lv' := [(6, .int x23), (5, .int x21), (0, .ref (gscr γ)), (1, .ref (gad γ 0)), (2, .ref (gad γ 17)), (3, .ref (gad γ 25)), (4, .int a4)]) dL_law_415 (by decide) rfl ?_
        refine g_aload_n (pc := 417) dL_law_417 rfl 4 rfl ?_
        refine g_cI (pc := 418) (st := []) (fun r hr => gRunV (As := []) 17 (ge_X7_thrown γ h22) hr wv_RL_104 rfl (Nat.le_of_ble_eq_true rfl) (gat_17 _ _) rfl rfl (Nat.le_of_ble_eq_true rfl) (Nat.le_of_ble_eq_true rfl) dL_law_418) (fun x25 h24 => ?_)
        refine g_iload (pc := 421) dL_law_421 1 rfl ?_
        refine g_icmp_eq (pc := 423) (tgt := 428) dL_law_423 (by decide) ?_ ?_
        · refine g_iload (pc := 428) dL_law_428 1 rfl ?_
          refine g_if_ne (pc := 430) (tgt := 445) dL_law_430 (by decide) ?_ ?_
          · exact g_weak (by omega) (g_sub [2, 3, 4, 5, 6] rfl (gjb_L_law_445 γ n (lp_L_law_23 (gxs γ) (gLx γ) n) ih a4 h24))
          · refine g_aload_n (pc := 433) dL_law_433 rfl 5 rfl ?_
            refine g_iconst (pc := 434) (v := 0) dL_law_434 (by decide) ?_
            refine g_lald (pc := 435) 25 (gat_25 _ _) dL_law_435 ?_
            refine g_iload (pc := 436) dL_law_436 0 rfl ?_
            refine g_i2l (pc := 438) dL_law_438 ?_
            refine g_lcmp (pc := 439) dL_law_439 ?_
            refine g_if_eq (pc := 440) (tgt := 445) dL_law_440 (by decide) ?_ ?_
            · exact g_weak (by omega) (g_sub [2, 3, 4, 5, 6] rfl (gjb_L_law_445 γ n (lp_L_law_23 (gxs γ) (gLx γ) n) ih a4 h24))
            · refine g_iconst (pc := 443) (v := 0) dL_law_443 (by decide) ?_
              exact g_zreturn (pc := 444) dL_law_444 rfl rfl
        · refine g_iconst (pc := 426) (v := 0) dL_law_426 (by decide) ?_
          exact g_zreturn (pc := 427) dL_law_427 rfl rfl
      refine g_case (c := x1 = 4) (fun c4 => ?_) (fun c4 => ?_)
      · refine g_tswI (pc := 40) (tgt := 448) (off := 408) dL_law_40 (by rw [c4]; decide) (by rw [c4]; decide) (by rw [c4]; decide) (by decide) ?_
        refine g_aload_n (pc := 448) dL_law_448 rfl 1 rfl ?_
        refine g_aload_n (pc := 449) dL_law_449 rfl 0 rfl ?_
        refine g_iload (pc := 450) dL_law_450 4 rfl ?_
        refine g_iconst (pc := 452) (v := 1) dL_law_452 (by decide) ?_
        refine g_iadd (pc := 453) dL_law_453 ?_
        refine g_sld (pc := 454) dL_law_454 ?_
        refine g_aload_n (pc := 455) dL_law_455 rfl 0 rfl ?_
        refine g_iload (pc := 456) dL_law_456 4 rfl ?_
        refine g_iconst (pc := 458) (v := 2) dL_law_458 (by decide) ?_
        refine g_iadd (pc := 459) dL_law_459 ?_
        refine g_sld (pc := 460) dL_law_460 ?_
        refine g_aload_n (pc := 461) dL_law_461 rfl 3 rfl ?_
        refine g_cH (pc := 462) (st := []) (fun r hr => gRunSX (As := [.ref (gad γ 0), .int ((gxs γ) (a4 + 1).toNatClampNeg), .int ((gxs γ) (a4 + 2).toNatClampNeg), .ref (gad γ 25)]) (ge_L_set γ ((gxs γ) (a4 + 1).toNatClampNeg) ((gxs γ) (a4 + 2).toNatClampNeg) h) hr wv_RL_119 rfl (Nat.le_of_ble_eq_true rfl) rfl (Nat.le_of_ble_eq_true rfl) (Nat.le_of_ble_eq_true rfl) dL_law_462) (fun x27 h26 => ?_)
        refine g_istore (pc := 465) (lv' := [(5, .int x27), (0, .ref (gscr γ)), (1, .ref (gad γ 0)), (2, .ref (gad γ 17)), (3, .ref (gad γ 25)), (4, .int a4)]) dL_law_465 (by decide) rfl ?_
        refine g_aload_n (pc := 467) dL_law_467 rfl 3 rfl ?_
        refine g_aload_n (pc := 468) dL_law_468 rfl 1 rfl ?_
        refine g_iload (pc := 469) dL_law_469 5 rfl ?_
        refine g_iconst (pc := 471) (v := 1) dL_law_471 (by decide) ?_
        refine g_iadd (pc := 472) dL_law_472 ?_
        refine g_sld (pc := 473) dL_law_473 ?_
        refine g_aload_n (pc := 474) dL_law_474 rfl 1 rfl ?_
        refine g_iload (pc := 475) dL_law_475 5 rfl ?_
        refine g_iconst (pc := 477) (v := 2) dL_law_477 (by decide) ?_
        refine g_iadd (pc := 478) dL_law_478 ?_
        refine g_sld (pc := 479) dL_law_479 ?_
        refine g_cI (pc := 480) (st := []) (fun r hr => gRunV (As := [.int ((gxs γ) (a4 + 1).toNatClampNeg), .int ((gxs γ) (a4 + 2).toNatClampNeg)]) 17 (ge_X7_set γ ((gxs γ) (a4 + 1).toNatClampNeg) ((gxs γ) (a4 + 2).toNatClampNeg) h26) hr wv_RL_121 rfl (Nat.le_of_ble_eq_true rfl) (gat_17 _ _) rfl rfl (Nat.le_of_ble_eq_true rfl) (Nat.le_of_ble_eq_true rfl) dL_law_480) (fun x29 h28 => ?_)
        refine g_istore (pc := 483) (lv' := [(6, .int x29), (5, .int x27), (0, .ref (gscr γ)), (1, .ref (gad γ 0)), (2, .ref (gad γ 17)), (3, .ref (gad γ 25)), (4, .int a4)]) dL_law_483 (by decide) rfl ?_
        refine g_aload_n (pc := 485) dL_law_485 rfl 4 rfl ?_
        refine g_cI (pc := 486) (st := []) (fun r hr => gRunV (As := []) 17 (ge_X7_thrown γ h28) hr wv_RL_104 rfl (Nat.le_of_ble_eq_true rfl) (gat_17 _ _) rfl rfl (Nat.le_of_ble_eq_true rfl) (Nat.le_of_ble_eq_true rfl) dL_law_486) (fun x31 h30 => ?_)
        refine g_iload (pc := 489) dL_law_489 1 rfl ?_
        refine g_icmp_eq (pc := 491) (tgt := 496) dL_law_491 (by decide) ?_ ?_
        · refine g_iload (pc := 496) dL_law_496 1 rfl ?_
          refine g_if_ne (pc := 498) (tgt := 513) dL_law_498 (by decide) ?_ ?_
          · exact g_weak (by omega) (g_sub [2, 3, 4, 5, 6] rfl (gjb_L_law_513 γ n (lp_L_law_23 (gxs γ) (gLx γ) n) ih a4 h30))
          · refine g_aload_n (pc := 501) dL_law_501 rfl 5 rfl ?_
            refine g_iconst (pc := 502) (v := 0) dL_law_502 (by decide) ?_
            refine g_lald (pc := 503) 25 (gat_25 _ _) dL_law_503 ?_
            refine g_iload (pc := 504) dL_law_504 0 rfl ?_
            refine g_i2l (pc := 506) dL_law_506 ?_
            refine g_lcmp (pc := 507) dL_law_507 ?_
            refine g_if_eq (pc := 508) (tgt := 513) dL_law_508 (by decide) ?_ ?_
            · exact g_weak (by omega) (g_sub [2, 3, 4, 5, 6] rfl (gjb_L_law_513 γ n (lp_L_law_23 (gxs γ) (gLx γ) n) ih a4 h30))
            · refine g_iconst (pc := 511) (v := 0) dL_law_511 (by decide) ?_
              exact g_zreturn (pc := 512) dL_law_512 rfl rfl
        · refine g_iconst (pc := 494) (v := 0) dL_law_494 (by decide) ?_
          exact g_zreturn (pc := 495) dL_law_495 rfl rfl
      refine g_case (c := x1 = 5) (fun c5 => ?_) (fun c5 => ?_)
      · refine g_tswI (pc := 40) (tgt := 516) (off := 476) dL_law_40 (by rw [c5]; decide) (by rw [c5]; decide) (by rw [c5]; decide) (by decide) ?_
        refine g_aload_n (pc := 516) dL_law_516 rfl 1 rfl ?_
        refine g_aload_n (pc := 517) dL_law_517 rfl 0 rfl ?_
        refine g_iload (pc := 518) dL_law_518 4 rfl ?_
        refine g_iconst (pc := 520) (v := 1) dL_law_520 (by decide) ?_
        refine g_iadd (pc := 521) dL_law_521 ?_
        refine g_sld (pc := 522) dL_law_522 ?_
        refine g_aload_n (pc := 523) dL_law_523 rfl 0 rfl ?_
        refine g_iload (pc := 524) dL_law_524 4 rfl ?_
        refine g_iconst (pc := 526) (v := 2) dL_law_526 (by decide) ?_
        refine g_iadd (pc := 527) dL_law_527 ?_
        refine g_sld (pc := 528) dL_law_528 ?_
        refine g_if_eq (pc := 529) (tgt := 536) dL_law_529 (by decide) ?_ ?_
        · refine g_iconst (pc := 536) (v := 0) dL_law_536 (by decide) ?_
          exact g_weak (by omega) (g_sub [0, 1, 2, 3, 4] rfl (gjb_L_law_537 γ n (lp_L_law_23 (gxs γ) (gLx γ) n) ih a4 0 ((gxs γ) (a4 + 1).toNatClampNeg) h))
        · refine g_iconst (pc := 532) (v := 1) dL_law_532 (by decide) ?_
          refine g_goto (pc := 533) (tgt := 537) dL_law_533 (by decide) ?_
          exact g_weak (by omega) (g_sub [0, 1, 2, 3, 4] rfl (gjb_L_law_537 γ n (lp_L_law_23 (gxs γ) (gLx γ) n) ih a4 1 ((gxs γ) (a4 + 1).toNatClampNeg) h))
      refine g_case (c := x1 = 6) (fun c6 => ?_) (fun c6 => ?_)
      · refine g_tswI (pc := 40) (tgt := 600) (off := 560) dL_law_40 (by rw [c6]; decide) (by rw [c6]; decide) (by rw [c6]; decide) (by decide) ?_
        refine g_aload_n (pc := 600) dL_law_600 rfl 1 rfl ?_
        refine g_cI (pc := 601) (st := []) (fun r hr => gRunV (As := []) 0 (ge_X6_clean γ h) hr wv_RL_126 rfl (Nat.le_of_ble_eq_true rfl) (gat_0 _ _) rfl rfl (Nat.le_of_ble_eq_true rfl) (Nat.le_of_ble_eq_true rfl) dL_law_601) (fun x33 h32 => ?_)
        refine g_aload_n (pc := 604) dL_law_604 rfl 2 rfl ?_
        refine g_cI (pc := 605) (st := [.int x33]) (fun r hr => gRunV (As := []) 17 (ge_X7_clean γ h32) hr wv_RL_129 rfl (Nat.le_of_ble_eq_true rfl) (gat_17 _ _) rfl rfl (Nat.le_of_ble_eq_true rfl) (Nat.le_of_ble_eq_true rfl) dL_law_605) (fun x35 h34 => ?_)
        refine g_icmp_eq (pc := 608) (tgt := 1879) dL_law_608 (by decide) ?_ ?_
        · exact g_weak (by omega) (g_sub [0, 1, 2, 3, 4] rfl (gjb_L_law_1879 γ n (lp_L_law_23 (gxs γ) (gLx γ) n) ih a4 h34))
        · refine g_iconst (pc := 611) (v := 0) dL_law_611 (by decide) ?_
          exact g_zreturn (pc := 612) dL_law_612 rfl rfl
      refine g_case (c := x1 = 7) (fun c7 => ?_) (fun c7 => ?_)
      · refine g_tswI (pc := 40) (tgt := 613) (off := 573) dL_law_40 (by rw [c7]; decide) (by rw [c7]; decide) (by rw [c7]; decide) (by decide) ?_
        refine g_aload_n (pc := 613) dL_law_613 rfl 1 rfl ?_
        refine g_aload_n (pc := 614) dL_law_614 rfl 0 rfl ?_
        refine g_iload (pc := 615) dL_law_615 4 rfl ?_
        refine g_iconst (pc := 617) (v := 1) dL_law_617 (by decide) ?_
        refine g_iadd (pc := 618) dL_law_618 ?_
        refine g_sld (pc := 619) dL_law_619 ?_
        refine g_aload_n (pc := 620) dL_law_620 rfl 3 rfl ?_
        refine g_cH (pc := 621) (st := []) (fun r hr => gRunSX (As := [.ref (gad γ 0), .int ((gxs γ) (a4 + 1).toNatClampNeg), .ref (gad γ 25)]) (ge_L_appeal γ ((gxs γ) (a4 + 1).toNatClampNeg) h) hr wv_RL_130 rfl (Nat.le_of_ble_eq_true rfl) rfl (Nat.le_of_ble_eq_true rfl) (Nat.le_of_ble_eq_true rfl) dL_law_621) (fun x37 h36 => ?_)
        refine g_istore (pc := 624) (lv' := [(5, .int x37), (0, .ref (gscr γ)), (1, .ref (gad γ 0)), (2, .ref (gad γ 17)), (3, .ref (gad γ 25)), (4, .int a4)]) dL_law_624 (by decide) rfl ?_
        refine g_aload_n (pc := 626) dL_law_626 rfl 3 rfl ?_
        refine g_aload_n (pc := 627) dL_law_627 rfl 1 rfl ?_
        refine g_iload (pc := 628) dL_law_628 5 rfl ?_
        refine g_iconst (pc := 630) (v := 1) dL_law_630 (by decide) ?_
        refine g_iadd (pc := 631) dL_law_631 ?_
        refine g_sld (pc := 632) dL_law_632 ?_
        refine g_cI (pc := 633) (st := []) (fun r hr => gRunV (As := [.int ((gxs γ) (a4 + 1).toNatClampNeg)]) 17 (ge_X7_appeal γ ((gxs γ) (a4 + 1).toNatClampNeg) h36) hr wv_RL_132 rfl (Nat.le_of_ble_eq_true rfl) (gat_17 _ _) rfl rfl (Nat.le_of_ble_eq_true rfl) (Nat.le_of_ble_eq_true rfl) dL_law_633) (fun x39 h38 => ?_)
        refine g_istore (pc := 636) (lv' := [(6, .int x39), (5, .int x37), (0, .ref (gscr γ)), (1, .ref (gad γ 0)), (2, .ref (gad γ 17)), (3, .ref (gad γ 25)), (4, .int a4)]) dL_law_636 (by decide) rfl ?_
        refine g_aload_n (pc := 638) dL_law_638 rfl 4 rfl ?_
        refine g_cI (pc := 639) (st := []) (fun r hr => gRunV (As := []) 17 (ge_X7_thrown γ h38) hr wv_RL_104 rfl (Nat.le_of_ble_eq_true rfl) (gat_17 _ _) rfl rfl (Nat.le_of_ble_eq_true rfl) (Nat.le_of_ble_eq_true rfl) dL_law_639) (fun x41 h40 => ?_)
        refine g_iload (pc := 642) dL_law_642 1 rfl ?_
        refine g_icmp_eq (pc := 644) (tgt := 649) dL_law_644 (by decide) ?_ ?_
        · refine g_iload (pc := 649) dL_law_649 1 rfl ?_
          refine g_if_ne (pc := 651) (tgt := 666) dL_law_651 (by decide) ?_ ?_
          · exact g_weak (by omega) (g_sub [2, 3, 4, 5, 6] rfl (gjb_L_law_666 γ n (lp_L_law_23 (gxs γ) (gLx γ) n) ih a4 h40))
          · refine g_aload_n (pc := 654) dL_law_654 rfl 5 rfl ?_
            refine g_iconst (pc := 655) (v := 0) dL_law_655 (by decide) ?_
            refine g_lald (pc := 656) 25 (gat_25 _ _) dL_law_656 ?_
            refine g_iload (pc := 657) dL_law_657 0 rfl ?_
            refine g_i2l (pc := 659) dL_law_659 ?_
            refine g_lcmp (pc := 660) dL_law_660 ?_
            refine g_if_eq (pc := 661) (tgt := 666) dL_law_661 (by decide) ?_ ?_
            · exact g_weak (by omega) (g_sub [2, 3, 4, 5, 6] rfl (gjb_L_law_666 γ n (lp_L_law_23 (gxs γ) (gLx γ) n) ih a4 h40))
            · refine g_iconst (pc := 664) (v := 0) dL_law_664 (by decide) ?_
              exact g_zreturn (pc := 665) dL_law_665 rfl rfl
        · refine g_iconst (pc := 647) (v := 0) dL_law_647 (by decide) ?_
          exact g_zreturn (pc := 648) dL_law_648 rfl rfl
      refine g_case (c := x1 = 8) (fun c8 => ?_) (fun c8 => ?_)
      · refine g_tswI (pc := 40) (tgt := 669) (off := 629) dL_law_40 (by rw [c8]; decide) (by rw [c8]; decide) (by rw [c8]; decide) (by decide) ?_
        refine g_aload_n (pc := 669) dL_law_669 rfl 1 rfl ?_
        refine g_aload_n (pc := 670) dL_law_670 rfl 0 rfl ?_
        refine g_iload (pc := 671) dL_law_671 4 rfl ?_
        refine g_iconst (pc := 673) (v := 1) dL_law_673 (by decide) ?_
        refine g_iadd (pc := 674) dL_law_674 ?_
        refine g_sld (pc := 675) dL_law_675 ?_
        refine g_aload_n (pc := 676) dL_law_676 rfl 0 rfl ?_
        refine g_iload (pc := 677) dL_law_677 4 rfl ?_
        refine g_iconst (pc := 679) (v := 2) dL_law_679 (by decide) ?_
        refine g_iadd (pc := 680) dL_law_680 ?_
        refine g_sld (pc := 681) dL_law_681 ?_
        refine g_aload_n (pc := 682) dL_law_682 rfl 0 rfl ?_
        refine g_iload (pc := 683) dL_law_683 4 rfl ?_
        refine g_iconst (pc := 685) (v := 3) dL_law_685 (by decide) ?_
        refine g_iadd (pc := 686) dL_law_686 ?_
        refine g_sld (pc := 687) dL_law_687 ?_
        refine g_aload_n (pc := 688) dL_law_688 rfl 3 rfl ?_
        refine g_cH (pc := 689) (st := []) (fun r hr => gRunSX (As := [.ref (gad γ 0), .int ((gxs γ) (a4 + 1).toNatClampNeg), .int ((gxs γ) (a4 + 2).toNatClampNeg), .int ((gxs γ) (a4 + 3).toNatClampNeg), .ref (gad γ 25)]) (ge_L_draw γ ((gxs γ) (a4 + 1).toNatClampNeg) ((gxs γ) (a4 + 2).toNatClampNeg) ((gxs γ) (a4 + 3).toNatClampNeg) h) hr wv_RL_133 rfl (Nat.le_of_ble_eq_true rfl) rfl (Nat.le_of_ble_eq_true rfl) (Nat.le_of_ble_eq_true rfl) dL_law_689) (fun x43 h42 => ?_)
        refine g_istore (pc := 692) (lv' := [(5, .int x43), (0, .ref (gscr γ)), (1, .ref (gad γ 0)), (2, .ref (gad γ 17)), (3, .ref (gad γ 25)), (4, .int a4)]) dL_law_692 (by decide) rfl ?_
        refine g_aload_n (pc := 694) dL_law_694 rfl 3 rfl ?_
        refine g_aload_n (pc := 695) dL_law_695 rfl 1 rfl ?_
        refine g_iload (pc := 696) dL_law_696 5 rfl ?_
        refine g_iconst (pc := 698) (v := 1) dL_law_698 (by decide) ?_
        refine g_iadd (pc := 699) dL_law_699 ?_
        refine g_sld (pc := 700) dL_law_700 ?_
        refine g_aload_n (pc := 701) dL_law_701 rfl 1 rfl ?_
        refine g_iload (pc := 702) dL_law_702 5 rfl ?_
        refine g_iconst (pc := 704) (v := 2) dL_law_704 (by decide) ?_
        refine g_iadd (pc := 705) dL_law_705 ?_
        refine g_sld (pc := 706) dL_law_706 ?_
        refine g_aload_n (pc := 707) dL_law_707 rfl 1 rfl ?_
        refine g_iload (pc := 708) dL_law_708 5 rfl ?_
        refine g_iconst (pc := 710) (v := 3) dL_law_710 (by decide) ?_
        refine g_iadd (pc := 711) dL_law_711 ?_
        refine g_sld (pc := 712) dL_law_712 ?_
        refine g_cI (pc := 713) (st := []) (fun r hr => gRunV (As := [.int ((gxs γ) (a4 + 1).toNatClampNeg), .int ((gxs γ) (a4 + 2).toNatClampNeg), .int ((gxs γ) (a4 + 3).toNatClampNeg)]) 17 (ge_X7_draw γ ((gxs γ) (a4 + 1).toNatClampNeg) ((gxs γ) (a4 + 2).toNatClampNeg) ((gxs γ) (a4 + 3).toNatClampNeg) h42) hr wv_RL_136 rfl (Nat.le_of_ble_eq_true rfl) (gat_17 _ _) rfl rfl (Nat.le_of_ble_eq_true rfl) (Nat.le_of_ble_eq_true rfl) dL_law_713) (fun x45 h44 => ?_)
        refine g_istore (pc := 716) (lv' := [(6, .int x45), (5, .int x43), (0, .ref (gscr γ)), (1, .ref (gad γ 0)), (2, .ref (gad γ 17)), (3, .ref (gad γ 25)), (4, .int a4)]) dL_law_716 (by decide) rfl ?_
        refine g_aload_n (pc := 718) dL_law_718 rfl 4 rfl ?_
        refine g_cI (pc := 719) (st := []) (fun r hr => gRunV (As := []) 17 (ge_X7_thrown γ h44) hr wv_RL_104 rfl (Nat.le_of_ble_eq_true rfl) (gat_17 _ _) rfl rfl (Nat.le_of_ble_eq_true rfl) (Nat.le_of_ble_eq_true rfl) dL_law_719) (fun x47 h46 => ?_)
        refine g_iload (pc := 722) dL_law_722 1 rfl ?_
        refine g_icmp_eq (pc := 724) (tgt := 729) dL_law_724 (by decide) ?_ ?_
        · refine g_iload (pc := 729) dL_law_729 1 rfl ?_
          refine g_if_ne (pc := 731) (tgt := 746) dL_law_731 (by decide) ?_ ?_
          · exact g_weak (by omega) (g_sub [2, 3, 4, 5, 6] rfl (gjb_L_law_746 γ n (lp_L_law_23 (gxs γ) (gLx γ) n) ih a4 h46))
          · refine g_aload_n (pc := 734) dL_law_734 rfl 5 rfl ?_
            refine g_iconst (pc := 735) (v := 0) dL_law_735 (by decide) ?_
            refine g_lald (pc := 736) 25 (gat_25 _ _) dL_law_736 ?_
            refine g_iload (pc := 737) dL_law_737 0 rfl ?_
            refine g_i2l (pc := 739) dL_law_739 ?_
            refine g_lcmp (pc := 740) dL_law_740 ?_
            refine g_if_eq (pc := 741) (tgt := 746) dL_law_741 (by decide) ?_ ?_
            · exact g_weak (by omega) (g_sub [2, 3, 4, 5, 6] rfl (gjb_L_law_746 γ n (lp_L_law_23 (gxs γ) (gLx γ) n) ih a4 h46))
            · refine g_iconst (pc := 744) (v := 0) dL_law_744 (by decide) ?_
              exact g_zreturn (pc := 745) dL_law_745 rfl rfl
        · refine g_iconst (pc := 727) (v := 0) dL_law_727 (by decide) ?_
          exact g_zreturn (pc := 728) dL_law_728 rfl rfl
      refine g_case (c := x1 = 9) (fun c9 => ?_) (fun c9 => ?_)
      · refine g_tswI (pc := 40) (tgt := 749) (off := 709) dL_law_40 (by rw [c9]; decide) (by rw [c9]; decide) (by rw [c9]; decide) (by decide) ?_
        refine g_aload_n (pc := 749) dL_law_749 rfl 1 rfl ?_
        refine g_aload_n (pc := 750) dL_law_750 rfl 0 rfl ?_
        refine g_iload (pc := 751) dL_law_751 4 rfl ?_
        refine g_iconst (pc := 753) (v := 1) dL_law_753 (by decide) ?_
        refine g_iadd (pc := 754) dL_law_754 ?_
        refine g_sld (pc := 755) dL_law_755 ?_
        refine g_aload_n (pc := 756) dL_law_756 rfl 0 rfl ?_
        refine g_iload (pc := 757) dL_law_757 4 rfl ?_
        refine g_iconst (pc := 759) (v := 2) dL_law_759 (by decide) ?_
        refine g_iadd (pc := 760) dL_law_760 ?_
        refine g_sld (pc := 761) dL_law_761 ?_
        refine g_aload_n (pc := 762) dL_law_762 rfl 0 rfl ?_
        refine g_iload (pc := 763) dL_law_763 4 rfl ?_
        refine g_iconst (pc := 765) (v := 3) dL_law_765 (by decide) ?_
        refine g_iadd (pc := 766) dL_law_766 ?_
        refine g_sld (pc := 767) dL_law_767 ?_
        refine g_aload_n (pc := 768) dL_law_768 rfl 0 rfl ?_
        refine g_iload (pc := 769) dL_law_769 4 rfl ?_
        refine g_iconst (pc := 771) (v := 4) dL_law_771 (by decide) ?_
        refine g_iadd (pc := 772) dL_law_772 ?_
        refine g_sld (pc := 773) dL_law_773 ?_
        refine g_if_eq (pc := 774) (tgt := 781) dL_law_774 (by decide) ?_ ?_
        · refine g_iconst (pc := 781) (v := 0) dL_law_781 (by decide) ?_
          exact g_weak (by omega) (g_sub [0, 1, 2, 3, 4] rfl (gjb_L_law_782 γ n (lp_L_law_23 (gxs γ) (gLx γ) n) ih a4 0 ((gxs γ) (a4 + 3).toNatClampNeg) ((gxs γ) (a4 + 2).toNatClampNeg) ((gxs γ) (a4 + 1).toNatClampNeg) h))
        · refine g_iconst (pc := 777) (v := 1) dL_law_777 (by decide) ?_
          refine g_goto (pc := 778) (tgt := 782) dL_law_778 (by decide) ?_
          exact g_weak (by omega) (g_sub [0, 1, 2, 3, 4] rfl (gjb_L_law_782 γ n (lp_L_law_23 (gxs γ) (gLx γ) n) ih a4 1 ((gxs γ) (a4 + 3).toNatClampNeg) ((gxs γ) (a4 + 2).toNatClampNeg) ((gxs γ) (a4 + 1).toNatClampNeg) h))
      refine g_case (c := x1 = 10) (fun c10 => ?_) (fun c10 => ?_)
      · refine g_tswI (pc := 40) (tgt := 857) (off := 817) dL_law_40 (by rw [c10]; decide) (by rw [c10]; decide) (by rw [c10]; decide) (by decide) ?_
        refine g_aload_n (pc := 857) dL_law_857 rfl 1 rfl ?_
        refine g_aload_n (pc := 858) dL_law_858 rfl 0 rfl ?_
        refine g_iload (pc := 859) dL_law_859 4 rfl ?_
        refine g_iconst (pc := 861) (v := 1) dL_law_861 (by decide) ?_
        refine g_iadd (pc := 862) dL_law_862 ?_
        refine g_sld (pc := 863) dL_law_863 ?_
        refine g_aload_n (pc := 864) dL_law_864 rfl 3 rfl ?_
        refine g_cH (pc := 865) (st := []) (fun r hr => gRunSX (As := [.ref (gad γ 0), .int ((gxs γ) (a4 + 1).toNatClampNeg), .ref (gad γ 25)]) (ge_L_pass γ ((gxs γ) (a4 + 1).toNatClampNeg) h) hr wv_RL_141 rfl (Nat.le_of_ble_eq_true rfl) rfl (Nat.le_of_ble_eq_true rfl) (Nat.le_of_ble_eq_true rfl) dL_law_865) (fun x49 h48 => ?_)
        refine g_istore (pc := 868) (lv' := [(5, .int x49), (0, .ref (gscr γ)), (1, .ref (gad γ 0)), (2, .ref (gad γ 17)), (3, .ref (gad γ 25)), (4, .int a4)]) dL_law_868 (by decide) rfl ?_
        refine g_aload_n (pc := 870) dL_law_870 rfl 3 rfl ?_
        refine g_aload_n (pc := 871) dL_law_871 rfl 1 rfl ?_
        refine g_iload (pc := 872) dL_law_872 5 rfl ?_
        refine g_iconst (pc := 874) (v := 1) dL_law_874 (by decide) ?_
        refine g_iadd (pc := 875) dL_law_875 ?_
        refine g_sld (pc := 876) dL_law_876 ?_
        refine g_cI (pc := 877) (st := []) (fun r hr => gRunV (As := [.int ((gxs γ) (a4 + 1).toNatClampNeg)]) 17 (ge_X7_pass γ ((gxs γ) (a4 + 1).toNatClampNeg) h48) hr wv_RL_143 rfl (Nat.le_of_ble_eq_true rfl) (gat_17 _ _) rfl rfl (Nat.le_of_ble_eq_true rfl) (Nat.le_of_ble_eq_true rfl) dL_law_877) (fun x51 h50 => ?_)
        refine g_istore (pc := 880) (lv' := [(6, .int x51), (5, .int x49), (0, .ref (gscr γ)), (1, .ref (gad γ 0)), (2, .ref (gad γ 17)), (3, .ref (gad γ 25)), (4, .int a4)]) dL_law_880 (by decide) rfl ?_
        refine g_aload_n (pc := 882) dL_law_882 rfl 4 rfl ?_
        refine g_cI (pc := 883) (st := []) (fun r hr => gRunV (As := []) 17 (ge_X7_thrown γ h50) hr wv_RL_104 rfl (Nat.le_of_ble_eq_true rfl) (gat_17 _ _) rfl rfl (Nat.le_of_ble_eq_true rfl) (Nat.le_of_ble_eq_true rfl) dL_law_883) (fun x53 h52 => ?_)
        refine g_iload (pc := 886) dL_law_886 1 rfl ?_
        refine g_icmp_eq (pc := 888) (tgt := 893) dL_law_888 (by decide) ?_ ?_
        · refine g_iload (pc := 893) dL_law_893 1 rfl ?_
          refine g_if_ne (pc := 895) (tgt := 910) dL_law_895 (by decide) ?_ ?_
          · exact g_weak (by omega) (g_sub [2, 3, 4, 5, 6] rfl (gjb_L_law_910 γ n (lp_L_law_23 (gxs γ) (gLx γ) n) ih a4 h52))
          · refine g_aload_n (pc := 898) dL_law_898 rfl 5 rfl ?_
            refine g_iconst (pc := 899) (v := 0) dL_law_899 (by decide) ?_
            refine g_lald (pc := 900) 25 (gat_25 _ _) dL_law_900 ?_
            refine g_iload (pc := 901) dL_law_901 0 rfl ?_
            refine g_i2l (pc := 903) dL_law_903 ?_
            refine g_lcmp (pc := 904) dL_law_904 ?_
            refine g_if_eq (pc := 905) (tgt := 910) dL_law_905 (by decide) ?_ ?_
            · exact g_weak (by omega) (g_sub [2, 3, 4, 5, 6] rfl (gjb_L_law_910 γ n (lp_L_law_23 (gxs γ) (gLx γ) n) ih a4 h52))
            · refine g_iconst (pc := 908) (v := 0) dL_law_908 (by decide) ?_
              exact g_zreturn (pc := 909) dL_law_909 rfl rfl
        · refine g_iconst (pc := 891) (v := 0) dL_law_891 (by decide) ?_
          exact g_zreturn (pc := 892) dL_law_892 rfl rfl
      refine g_case (c := x1 = 11) (fun c11 => ?_) (fun c11 => ?_)
      · refine g_tswI (pc := 40) (tgt := 913) (off := 873) dL_law_40 (by rw [c11]; decide) (by rw [c11]; decide) (by rw [c11]; decide) (by decide) ?_
        refine g_aload_n (pc := 913) dL_law_913 rfl 1 rfl ?_
        refine g_aload_n (pc := 914) dL_law_914 rfl 0 rfl ?_
        refine g_iload (pc := 915) dL_law_915 4 rfl ?_
        refine g_iconst (pc := 917) (v := 1) dL_law_917 (by decide) ?_
        refine g_iadd (pc := 918) dL_law_918 ?_
        refine g_sld (pc := 919) dL_law_919 ?_
        refine g_aload_n (pc := 920) dL_law_920 rfl 3 rfl ?_
        refine g_cH (pc := 921) (st := []) (fun r hr => gRunSX (As := [.ref (gad γ 0), .int ((gxs γ) (a4 + 1).toNatClampNeg), .ref (gad γ 25)]) (ge_L_append γ ((gxs γ) (a4 + 1).toNatClampNeg) h) hr wv_RL_144 rfl (Nat.le_of_ble_eq_true rfl) rfl (Nat.le_of_ble_eq_true rfl) (Nat.le_of_ble_eq_true rfl) dL_law_921) (fun x55 h54 => ?_)
        refine g_istore (pc := 924) (lv' := [(5, .int x55), (0, .ref (gscr γ)), (1, .ref (gad γ 0)), (2, .ref (gad γ 17)), (3, .ref (gad γ 25)), (4, .int a4)]) dL_law_924 (by decide) rfl ?_
        refine g_aload_n (pc := 926) dL_law_926 rfl 3 rfl ?_
        refine g_aload_n (pc := 927) dL_law_927 rfl 1 rfl ?_
        refine g_iload (pc := 928) dL_law_928 5 rfl ?_
        refine g_iconst (pc := 930) (v := 1) dL_law_930 (by decide) ?_
        refine g_iadd (pc := 931) dL_law_931 ?_
        refine g_sld (pc := 932) dL_law_932 ?_
        refine g_cI (pc := 933) (st := []) (fun r hr => gRunV (As := [.int ((gxs γ) (a4 + 1).toNatClampNeg)]) 17 (ge_X7_append γ ((gxs γ) (a4 + 1).toNatClampNeg) h54) hr wv_RL_146 rfl (Nat.le_of_ble_eq_true rfl) (gat_17 _ _) rfl rfl (Nat.le_of_ble_eq_true rfl) (Nat.le_of_ble_eq_true rfl) dL_law_933) (fun x57 h56 => ?_)
        refine g_istore (pc := 936) (lv' := [(6, .int x57), (5, .int x55), (0, .ref (gscr γ)), (1, .ref (gad γ 0)), (2, .ref (gad γ 17)), (3, .ref (gad γ 25)), (4, .int a4)]) dL_law_936 (by decide) rfl ?_
        refine g_aload_n (pc := 938) dL_law_938 rfl 4 rfl ?_
        refine g_cI (pc := 939) (st := []) (fun r hr => gRunV (As := []) 17 (ge_X7_thrown γ h56) hr wv_RL_104 rfl (Nat.le_of_ble_eq_true rfl) (gat_17 _ _) rfl rfl (Nat.le_of_ble_eq_true rfl) (Nat.le_of_ble_eq_true rfl) dL_law_939) (fun x59 h58 => ?_)
        refine g_iload (pc := 942) dL_law_942 1 rfl ?_
        refine g_icmp_eq (pc := 944) (tgt := 949) dL_law_944 (by decide) ?_ ?_
        · refine g_iload (pc := 949) dL_law_949 1 rfl ?_
          refine g_if_ne (pc := 951) (tgt := 966) dL_law_951 (by decide) ?_ ?_
          · exact g_weak (by omega) (g_sub [2, 3, 4, 5, 6] rfl (gjb_L_law_966 γ n (lp_L_law_23 (gxs γ) (gLx γ) n) ih a4 h58))
          · refine g_aload_n (pc := 954) dL_law_954 rfl 5 rfl ?_
            refine g_iconst (pc := 955) (v := 0) dL_law_955 (by decide) ?_
            refine g_lald (pc := 956) 25 (gat_25 _ _) dL_law_956 ?_
            refine g_iload (pc := 957) dL_law_957 0 rfl ?_
            refine g_i2l (pc := 959) dL_law_959 ?_
            refine g_lcmp (pc := 960) dL_law_960 ?_
            refine g_if_eq (pc := 961) (tgt := 966) dL_law_961 (by decide) ?_ ?_
            · exact g_weak (by omega) (g_sub [2, 3, 4, 5, 6] rfl (gjb_L_law_966 γ n (lp_L_law_23 (gxs γ) (gLx γ) n) ih a4 h58))
            · refine g_iconst (pc := 964) (v := 0) dL_law_964 (by decide) ?_
              exact g_zreturn (pc := 965) dL_law_965 rfl rfl
        · refine g_iconst (pc := 947) (v := 0) dL_law_947 (by decide) ?_
          exact g_zreturn (pc := 948) dL_law_948 rfl rfl
      refine g_case (c := x1 = 12) (fun c12 => ?_) (fun c12 => ?_)
      · refine g_tswI (pc := 40) (tgt := 969) (off := 929) dL_law_40 (by rw [c12]; decide) (by rw [c12]; decide) (by rw [c12]; decide) (by decide) ?_
        refine g_aload_n (pc := 969) dL_law_969 rfl 1 rfl ?_
        refine g_cI (pc := 970) (st := []) (fun r hr => gRunV (As := []) 0 (ge_X6_clearBuffer γ h) hr wv_RL_147 rfl (Nat.le_of_ble_eq_true rfl) (gat_0 _ _) rfl rfl (Nat.le_of_ble_eq_true rfl) (Nat.le_of_ble_eq_true rfl) dL_law_970) (fun x61 h60 => ?_)
        refine g_aload_n (pc := 973) dL_law_973 rfl 2 rfl ?_
        refine g_cI (pc := 974) (st := [.int x61]) (fun r hr => gRunV (As := []) 17 (ge_X7_clearBuffer γ h60) hr wv_RL_150 rfl (Nat.le_of_ble_eq_true rfl) (gat_17 _ _) rfl rfl (Nat.le_of_ble_eq_true rfl) (Nat.le_of_ble_eq_true rfl) dL_law_974) (fun x63 h62 => ?_)
        refine g_icmp_eq (pc := 977) (tgt := 1879) dL_law_977 (by decide) ?_ ?_
        · exact g_weak (by omega) (g_sub [0, 1, 2, 3, 4] rfl (gjb_L_law_1879 γ n (lp_L_law_23 (gxs γ) (gLx γ) n) ih a4 h62))
        · refine g_iconst (pc := 980) (v := 0) dL_law_980 (by decide) ?_
          exact g_zreturn (pc := 981) dL_law_981 rfl rfl
      refine g_case (c := x1 = 13) (fun c13 => ?_) (fun c13 => ?_)
      · refine g_tswI (pc := 40) (tgt := 982) (off := 942) dL_law_40 (by rw [c13]; decide) (by rw [c13]; decide) (by rw [c13]; decide) (by decide) ?_
        refine g_aload_n (pc := 982) dL_law_982 rfl 1 rfl ?_
        refine g_cI (pc := 983) (st := []) (fun r hr => gRunV (As := []) 0 (ge_X6_firstError γ h) hr wv_RL_151 rfl (Nat.le_of_ble_eq_true rfl) (gat_0 _ _) rfl rfl (Nat.le_of_ble_eq_true rfl) (Nat.le_of_ble_eq_true rfl) dL_law_983) (fun x65 h64 => ?_)
        refine g_aload_n (pc := 986) dL_law_986 rfl 2 rfl ?_
        refine g_cI (pc := 987) (st := [.int x65]) (fun r hr => gRunV (As := []) 17 (ge_X7_firstError γ h64) hr wv_RL_154 rfl (Nat.le_of_ble_eq_true rfl) (gat_17 _ _) rfl rfl (Nat.le_of_ble_eq_true rfl) (Nat.le_of_ble_eq_true rfl) dL_law_987) (fun x67 h66 => ?_)
        refine g_icmp_eq (pc := 990) (tgt := 1879) dL_law_990 (by decide) ?_ ?_
        · exact g_weak (by omega) (g_sub [0, 1, 2, 3, 4] rfl (gjb_L_law_1879 γ n (lp_L_law_23 (gxs γ) (gLx γ) n) ih a4 h66))
        · refine g_iconst (pc := 993) (v := 0) dL_law_993 (by decide) ?_
          exact g_zreturn (pc := 994) dL_law_994 rfl rfl
      refine g_case (c := x1 = 14) (fun c14 => ?_) (fun c14 => ?_)
      · refine g_tswI (pc := 40) (tgt := 995) (off := 955) dL_law_40 (by rw [c14]; decide) (by rw [c14]; decide) (by rw [c14]; decide) (by decide) ?_
        refine g_aload_n (pc := 995) dL_law_995 rfl 1 rfl ?_
        refine g_aload_n (pc := 996) dL_law_996 rfl 3 rfl ?_
        refine g_cH (pc := 997) (st := []) (fun r hr => gRunSX (As := [.ref (gad γ 0), .ref (gad γ 25)]) (ge_L_addSlips γ h) hr wv_RL_155 rfl (Nat.le_of_ble_eq_true rfl) rfl (Nat.le_of_ble_eq_true rfl) (Nat.le_of_ble_eq_true rfl) dL_law_997) (fun x69 h68 => ?_)
        refine g_istore (pc := 1000) (lv' := [(5, .int x69), (0, .ref (gscr γ)), (1, .ref (gad γ 0)), (2, .ref (gad γ 17)), (3, .ref (gad γ 25)), (4, .int a4)]) dL_law_1000 (by decide) rfl ?_
        refine g_aload_n (pc := 1002) dL_law_1002 rfl 3 rfl ?_
        refine g_cI (pc := 1003) (st := []) (fun r hr => gRunV (As := []) 17 (ge_X7_addSlips γ h68) hr wv_RL_157 rfl (Nat.le_of_ble_eq_true rfl) (gat_17 _ _) rfl rfl (Nat.le_of_ble_eq_true rfl) (Nat.le_of_ble_eq_true rfl) dL_law_1003) (fun x71 h70 => ?_)
        refine g_istore (pc := 1006) (lv' := [(6, .int x71), (5, .int x69), (0, .ref (gscr γ)), (1, .ref (gad γ 0)), (2, .ref (gad γ 17)), (3, .ref (gad γ 25)), (4, .int a4)]) dL_law_1006 (by decide) rfl ?_
        refine g_aload_n (pc := 1008) dL_law_1008 rfl 4 rfl ?_
        refine g_cI (pc := 1009) (st := []) (fun r hr => gRunV (As := []) 17 (ge_X7_thrown γ h70) hr wv_RL_104 rfl (Nat.le_of_ble_eq_true rfl) (gat_17 _ _) rfl rfl (Nat.le_of_ble_eq_true rfl) (Nat.le_of_ble_eq_true rfl) dL_law_1009) (fun x73 h72 => ?_)
        refine g_iload (pc := 1012) dL_law_1012 1 rfl ?_
        refine g_icmp_eq (pc := 1014) (tgt := 1019) dL_law_1014 (by decide) ?_ ?_
        · refine g_iload (pc := 1019) dL_law_1019 1 rfl ?_
          refine g_if_ne (pc := 1021) (tgt := 1036) dL_law_1021 (by decide) ?_ ?_
          · exact g_weak (by omega) (g_sub [2, 3, 4, 5, 6] rfl (gjb_L_law_1036 γ n (lp_L_law_23 (gxs γ) (gLx γ) n) ih a4 h72))
          · refine g_aload_n (pc := 1024) dL_law_1024 rfl 5 rfl ?_
            refine g_iconst (pc := 1025) (v := 0) dL_law_1025 (by decide) ?_
            refine g_lald (pc := 1026) 25 (gat_25 _ _) dL_law_1026 ?_
            refine g_iload (pc := 1027) dL_law_1027 0 rfl ?_
            refine g_i2l (pc := 1029) dL_law_1029 ?_
            refine g_lcmp (pc := 1030) dL_law_1030 ?_
            refine g_if_eq (pc := 1031) (tgt := 1036) dL_law_1031 (by decide) ?_ ?_
            · exact g_weak (by omega) (g_sub [2, 3, 4, 5, 6] rfl (gjb_L_law_1036 γ n (lp_L_law_23 (gxs γ) (gLx γ) n) ih a4 h72))
            · refine g_iconst (pc := 1034) (v := 0) dL_law_1034 (by decide) ?_
              exact g_zreturn (pc := 1035) dL_law_1035 rfl rfl
        · refine g_iconst (pc := 1017) (v := 0) dL_law_1017 (by decide) ?_
          exact g_zreturn (pc := 1018) dL_law_1018 rfl rfl
      refine g_case (c := x1 = 15) (fun c15 => ?_) (fun c15 => ?_)
      · refine g_tswI (pc := 40) (tgt := 1039) (off := 999) dL_law_40 (by rw [c15]; decide) (by rw [c15]; decide) (by rw [c15]; decide) (by decide) ?_
        refine g_aload_n (pc := 1039) dL_law_1039 rfl 1 rfl ?_
        refine g_aload_n (pc := 1040) dL_law_1040 rfl 3 rfl ?_
        refine g_cH (pc := 1041) (st := []) (fun r hr => gRunSX (As := [.ref (gad γ 0), .ref (gad γ 25)]) (ge_L_undo γ h) hr wv_RL_158 rfl (Nat.le_of_ble_eq_true rfl) rfl (Nat.le_of_ble_eq_true rfl) (Nat.le_of_ble_eq_true rfl) dL_law_1041) (fun x75 h74 => ?_)
        refine g_istore (pc := 1044) (lv' := [(5, .int x75), (0, .ref (gscr γ)), (1, .ref (gad γ 0)), (2, .ref (gad γ 17)), (3, .ref (gad γ 25)), (4, .int a4)]) dL_law_1044 (by decide) rfl ?_
        refine g_aload_n (pc := 1046) dL_law_1046 rfl 3 rfl ?_
        refine g_cI (pc := 1047) (st := []) (fun r hr => gRunV (As := []) 17 (ge_X7_undo γ h74) hr wv_RL_160 rfl (Nat.le_of_ble_eq_true rfl) (gat_17 _ _) rfl rfl (Nat.le_of_ble_eq_true rfl) (Nat.le_of_ble_eq_true rfl) dL_law_1047) (fun x77 h76 => ?_)
        refine g_istore (pc := 1050) (lv' := [(6, .int x77), (5, .int x75), (0, .ref (gscr γ)), (1, .ref (gad γ 0)), (2, .ref (gad γ 17)), (3, .ref (gad γ 25)), (4, .int a4)]) dL_law_1050 (by decide) rfl ?_
        refine g_aload_n (pc := 1052) dL_law_1052 rfl 4 rfl ?_
        refine g_cI (pc := 1053) (st := []) (fun r hr => gRunV (As := []) 17 (ge_X7_thrown γ h76) hr wv_RL_104 rfl (Nat.le_of_ble_eq_true rfl) (gat_17 _ _) rfl rfl (Nat.le_of_ble_eq_true rfl) (Nat.le_of_ble_eq_true rfl) dL_law_1053) (fun x79 h78 => ?_)
        refine g_iload (pc := 1056) dL_law_1056 1 rfl ?_
        refine g_icmp_eq (pc := 1058) (tgt := 1063) dL_law_1058 (by decide) ?_ ?_
        · refine g_iload (pc := 1063) dL_law_1063 1 rfl ?_
          refine g_if_ne (pc := 1065) (tgt := 1080) dL_law_1065 (by decide) ?_ ?_
          · exact g_weak (by omega) (g_sub [2, 3, 4, 5, 6] rfl (gjb_L_law_1080 γ n (lp_L_law_23 (gxs γ) (gLx γ) n) ih a4 h78))
          · refine g_aload_n (pc := 1068) dL_law_1068 rfl 5 rfl ?_
            refine g_iconst (pc := 1069) (v := 0) dL_law_1069 (by decide) ?_
            refine g_lald (pc := 1070) 25 (gat_25 _ _) dL_law_1070 ?_
            refine g_iload (pc := 1071) dL_law_1071 0 rfl ?_
            refine g_i2l (pc := 1073) dL_law_1073 ?_
            refine g_lcmp (pc := 1074) dL_law_1074 ?_
            refine g_if_eq (pc := 1075) (tgt := 1080) dL_law_1075 (by decide) ?_ ?_
            · exact g_weak (by omega) (g_sub [2, 3, 4, 5, 6] rfl (gjb_L_law_1080 γ n (lp_L_law_23 (gxs γ) (gLx γ) n) ih a4 h78))
            · refine g_iconst (pc := 1078) (v := 0) dL_law_1078 (by decide) ?_
              exact g_zreturn (pc := 1079) dL_law_1079 rfl rfl
        · refine g_iconst (pc := 1061) (v := 0) dL_law_1061 (by decide) ?_
          exact g_zreturn (pc := 1062) dL_law_1062 rfl rfl
      refine g_case (c := x1 = 16) (fun c16 => ?_) (fun c16 => ?_)
      · refine g_tswI (pc := 40) (tgt := 1083) (off := 1043) dL_law_40 (by rw [c16]; decide) (by rw [c16]; decide) (by rw [c16]; decide) (by decide) ?_
        refine g_aload_n (pc := 1083) dL_law_1083 rfl 1 rfl ?_
        refine g_aload_n (pc := 1084) dL_law_1084 rfl 0 rfl ?_
        refine g_iload (pc := 1085) dL_law_1085 4 rfl ?_
        refine g_iconst (pc := 1087) (v := 1) dL_law_1087 (by decide) ?_
        refine g_iadd (pc := 1088) dL_law_1088 ?_
        refine g_sld (pc := 1089) dL_law_1089 ?_
        refine g_aload_n (pc := 1090) dL_law_1090 rfl 0 rfl ?_
        refine g_iload (pc := 1091) dL_law_1091 4 rfl ?_
        refine g_iconst (pc := 1093) (v := 2) dL_law_1093 (by decide) ?_
        refine g_iadd (pc := 1094) dL_law_1094 ?_
        refine g_sld (pc := 1095) dL_law_1095 ?_
        refine g_aload_n (pc := 1096) dL_law_1096 rfl 3 rfl ?_
        refine g_cH (pc := 1097) (st := []) (fun r hr => gRunSX (As := [.ref (gad γ 0), .int ((gxs γ) (a4 + 1).toNatClampNeg), .int ((gxs γ) (a4 + 2).toNatClampNeg), .ref (gad γ 25)]) (ge_L_grower γ ((gxs γ) (a4 + 1).toNatClampNeg) ((gxs γ) (a4 + 2).toNatClampNeg) h) hr wv_RL_161 rfl (Nat.le_of_ble_eq_true rfl) rfl (Nat.le_of_ble_eq_true rfl) (Nat.le_of_ble_eq_true rfl) dL_law_1097) (fun x81 h80 => ?_)
        refine g_istore (pc := 1100) (lv' := [(5, .int x81), (0, .ref (gscr γ)), (1, .ref (gad γ 0)), (2, .ref (gad γ 17)), (3, .ref (gad γ 25)), (4, .int a4)]) dL_law_1100 (by decide) rfl ?_
        refine g_aload_n (pc := 1102) dL_law_1102 rfl 3 rfl ?_
        refine g_aload_n (pc := 1103) dL_law_1103 rfl 1 rfl ?_
        refine g_iload (pc := 1104) dL_law_1104 5 rfl ?_
        refine g_iconst (pc := 1106) (v := 1) dL_law_1106 (by decide) ?_
        refine g_iadd (pc := 1107) dL_law_1107 ?_
        refine g_sld (pc := 1108) dL_law_1108 ?_
        refine g_aload_n (pc := 1109) dL_law_1109 rfl 1 rfl ?_
        refine g_iload (pc := 1110) dL_law_1110 5 rfl ?_
        refine g_iconst (pc := 1112) (v := 2) dL_law_1112 (by decide) ?_
        refine g_iadd (pc := 1113) dL_law_1113 ?_
        refine g_sld (pc := 1114) dL_law_1114 ?_
        refine g_cI (pc := 1115) (st := []) (fun r hr => gRunV (As := [.int ((gxs γ) (a4 + 1).toNatClampNeg), .int ((gxs γ) (a4 + 2).toNatClampNeg)]) 17 (ge_X7_grower γ ((gxs γ) (a4 + 1).toNatClampNeg) ((gxs γ) (a4 + 2).toNatClampNeg) h80) hr wv_RL_163 rfl (Nat.le_of_ble_eq_true rfl) (gat_17 _ _) rfl rfl (Nat.le_of_ble_eq_true rfl) (Nat.le_of_ble_eq_true rfl) dL_law_1115) (fun x83 h82 => ?_)
        refine g_istore (pc := 1118) (lv' := [(6, .int x83), (5, .int x81), (0, .ref (gscr γ)), (1, .ref (gad γ 0)), (2, .ref (gad γ 17)), (3, .ref (gad γ 25)), (4, .int a4)]) dL_law_1118 (by decide) rfl ?_
        refine g_aload_n (pc := 1120) dL_law_1120 rfl 4 rfl ?_
        refine g_cI (pc := 1121) (st := []) (fun r hr => gRunV (As := []) 17 (ge_X7_thrown γ h82) hr wv_RL_104 rfl (Nat.le_of_ble_eq_true rfl) (gat_17 _ _) rfl rfl (Nat.le_of_ble_eq_true rfl) (Nat.le_of_ble_eq_true rfl) dL_law_1121) (fun x85 h84 => ?_)
        refine g_iload (pc := 1124) dL_law_1124 1 rfl ?_
        refine g_icmp_eq (pc := 1126) (tgt := 1131) dL_law_1126 (by decide) ?_ ?_
        · refine g_iload (pc := 1131) dL_law_1131 1 rfl ?_
          refine g_if_ne (pc := 1133) (tgt := 1148) dL_law_1133 (by decide) ?_ ?_
          · exact g_weak (by omega) (g_sub [2, 3, 4, 5, 6] rfl (gjb_L_law_1148 γ n (lp_L_law_23 (gxs γ) (gLx γ) n) ih a4 h84))
          · refine g_aload_n (pc := 1136) dL_law_1136 rfl 5 rfl ?_
            refine g_iconst (pc := 1137) (v := 0) dL_law_1137 (by decide) ?_
            refine g_lald (pc := 1138) 25 (gat_25 _ _) dL_law_1138 ?_
            refine g_iload (pc := 1139) dL_law_1139 0 rfl ?_
            refine g_i2l (pc := 1141) dL_law_1141 ?_
            refine g_lcmp (pc := 1142) dL_law_1142 ?_
            refine g_if_eq (pc := 1143) (tgt := 1148) dL_law_1143 (by decide) ?_ ?_
            · exact g_weak (by omega) (g_sub [2, 3, 4, 5, 6] rfl (gjb_L_law_1148 γ n (lp_L_law_23 (gxs γ) (gLx γ) n) ih a4 h84))
            · refine g_iconst (pc := 1146) (v := 0) dL_law_1146 (by decide) ?_
              exact g_zreturn (pc := 1147) dL_law_1147 rfl rfl
        · refine g_iconst (pc := 1129) (v := 0) dL_law_1129 (by decide) ?_
          exact g_zreturn (pc := 1130) dL_law_1130 rfl rfl
      refine g_case (c := x1 = 17) (fun c17 => ?_) (fun c17 => ?_)
      · refine g_tswI (pc := 40) (tgt := 1151) (off := 1111) dL_law_40 (by rw [c17]; decide) (by rw [c17]; decide) (by rw [c17]; decide) (by decide) ?_
        refine g_aload_n (pc := 1151) dL_law_1151 rfl 1 rfl ?_
        refine g_aload_n (pc := 1152) dL_law_1152 rfl 0 rfl ?_
        refine g_iload (pc := 1153) dL_law_1153 4 rfl ?_
        refine g_iconst (pc := 1155) (v := 1) dL_law_1155 (by decide) ?_
        refine g_iadd (pc := 1156) dL_law_1156 ?_
        refine g_sld (pc := 1157) dL_law_1157 ?_
        refine g_aload_n (pc := 1158) dL_law_1158 rfl 0 rfl ?_
        refine g_iload (pc := 1159) dL_law_1159 4 rfl ?_
        refine g_iconst (pc := 1161) (v := 2) dL_law_1161 (by decide) ?_
        refine g_iadd (pc := 1162) dL_law_1162 ?_
        refine g_sld (pc := 1163) dL_law_1163 ?_
        refine g_aload_n (pc := 1164) dL_law_1164 rfl 3 rfl ?_
        refine g_cH (pc := 1165) (st := []) (fun r hr => gRunSX (As := [.ref (gad γ 0), .int ((gxs γ) (a4 + 1).toNatClampNeg), .int ((gxs γ) (a4 + 2).toNatClampNeg), .ref (gad γ 25)]) (ge_L_lot γ ((gxs γ) (a4 + 1).toNatClampNeg) ((gxs γ) (a4 + 2).toNatClampNeg) h) hr wv_RL_164 rfl (Nat.le_of_ble_eq_true rfl) rfl (Nat.le_of_ble_eq_true rfl) (Nat.le_of_ble_eq_true rfl) dL_law_1165) (fun x87 h86 => ?_)
        refine g_istore (pc := 1168) (lv' := [(5, .int x87), (0, .ref (gscr γ)), (1, .ref (gad γ 0)), (2, .ref (gad γ 17)), (3, .ref (gad γ 25)), (4, .int a4)]) dL_law_1168 (by decide) rfl ?_
        refine g_aload_n (pc := 1170) dL_law_1170 rfl 3 rfl ?_
        refine g_aload_n (pc := 1171) dL_law_1171 rfl 1 rfl ?_
        refine g_iload (pc := 1172) dL_law_1172 5 rfl ?_
        refine g_iconst (pc := 1174) (v := 1) dL_law_1174 (by decide) ?_
        refine g_iadd (pc := 1175) dL_law_1175 ?_
        refine g_sld (pc := 1176) dL_law_1176 ?_
        refine g_aload_n (pc := 1177) dL_law_1177 rfl 1 rfl ?_
        refine g_iload (pc := 1178) dL_law_1178 5 rfl ?_
        refine g_iconst (pc := 1180) (v := 2) dL_law_1180 (by decide) ?_
        refine g_iadd (pc := 1181) dL_law_1181 ?_
        refine g_sld (pc := 1182) dL_law_1182 ?_
        refine g_cI (pc := 1183) (st := []) (fun r hr => gRunV (As := [.int ((gxs γ) (a4 + 1).toNatClampNeg), .int ((gxs γ) (a4 + 2).toNatClampNeg)]) 17 (ge_X7_lot γ ((gxs γ) (a4 + 1).toNatClampNeg) ((gxs γ) (a4 + 2).toNatClampNeg) h86) hr wv_RL_166 rfl (Nat.le_of_ble_eq_true rfl) (gat_17 _ _) rfl rfl (Nat.le_of_ble_eq_true rfl) (Nat.le_of_ble_eq_true rfl) dL_law_1183) (fun x89 h88 => ?_)
        refine g_istore (pc := 1186) (lv' := [(6, .int x89), (5, .int x87), (0, .ref (gscr γ)), (1, .ref (gad γ 0)), (2, .ref (gad γ 17)), (3, .ref (gad γ 25)), (4, .int a4)]) dL_law_1186 (by decide) rfl ?_
        refine g_aload_n (pc := 1188) dL_law_1188 rfl 4 rfl ?_
        refine g_cI (pc := 1189) (st := []) (fun r hr => gRunV (As := []) 17 (ge_X7_thrown γ h88) hr wv_RL_104 rfl (Nat.le_of_ble_eq_true rfl) (gat_17 _ _) rfl rfl (Nat.le_of_ble_eq_true rfl) (Nat.le_of_ble_eq_true rfl) dL_law_1189) (fun x91 h90 => ?_)
        refine g_iload (pc := 1192) dL_law_1192 1 rfl ?_
        refine g_icmp_eq (pc := 1194) (tgt := 1199) dL_law_1194 (by decide) ?_ ?_
        · refine g_iload (pc := 1199) dL_law_1199 1 rfl ?_
          refine g_if_ne (pc := 1201) (tgt := 1216) dL_law_1201 (by decide) ?_ ?_
          · exact g_weak (by omega) (g_sub [2, 3, 4, 5, 6] rfl (gjb_L_law_1216 γ n (lp_L_law_23 (gxs γ) (gLx γ) n) ih a4 h90))
          · refine g_aload_n (pc := 1204) dL_law_1204 rfl 5 rfl ?_
            refine g_iconst (pc := 1205) (v := 0) dL_law_1205 (by decide) ?_
            refine g_lald (pc := 1206) 25 (gat_25 _ _) dL_law_1206 ?_
            refine g_iload (pc := 1207) dL_law_1207 0 rfl ?_
            refine g_i2l (pc := 1209) dL_law_1209 ?_
            refine g_lcmp (pc := 1210) dL_law_1210 ?_
            refine g_if_eq (pc := 1211) (tgt := 1216) dL_law_1211 (by decide) ?_ ?_
            · exact g_weak (by omega) (g_sub [2, 3, 4, 5, 6] rfl (gjb_L_law_1216 γ n (lp_L_law_23 (gxs γ) (gLx γ) n) ih a4 h90))
            · refine g_iconst (pc := 1214) (v := 0) dL_law_1214 (by decide) ?_
              exact g_zreturn (pc := 1215) dL_law_1215 rfl rfl
        · refine g_iconst (pc := 1197) (v := 0) dL_law_1197 (by decide) ?_
          exact g_zreturn (pc := 1198) dL_law_1198 rfl rfl
      refine g_case (c := x1 = 18) (fun c18 => ?_) (fun c18 => ?_)
      · refine g_tswI (pc := 40) (tgt := 1219) (off := 1179) dL_law_40 (by rw [c18]; decide) (by rw [c18]; decide) (by rw [c18]; decide) (by decide) ?_
        refine g_aload_n (pc := 1219) dL_law_1219 rfl 1 rfl ?_
        refine g_aload_n (pc := 1220) dL_law_1220 rfl 0 rfl ?_
        refine g_iload (pc := 1221) dL_law_1221 4 rfl ?_
        refine g_iconst (pc := 1223) (v := 1) dL_law_1223 (by decide) ?_
        refine g_iadd (pc := 1224) dL_law_1224 ?_
        refine g_sld (pc := 1225) dL_law_1225 ?_
        refine g_aload_n (pc := 1226) dL_law_1226 rfl 0 rfl ?_
        refine g_iload (pc := 1227) dL_law_1227 4 rfl ?_
        refine g_iconst (pc := 1229) (v := 2) dL_law_1229 (by decide) ?_
        refine g_iadd (pc := 1230) dL_law_1230 ?_
        refine g_sld (pc := 1231) dL_law_1231 ?_
        refine g_aload_n (pc := 1232) dL_law_1232 rfl 3 rfl ?_
        refine g_cH (pc := 1233) (st := []) (fun r hr => gRunSX (As := [.ref (gad γ 0), .int ((gxs γ) (a4 + 1).toNatClampNeg), .int ((gxs γ) (a4 + 2).toNatClampNeg), .ref (gad γ 25)]) (ge_L_tank γ ((gxs γ) (a4 + 1).toNatClampNeg) ((gxs γ) (a4 + 2).toNatClampNeg) h) hr wv_RL_167 rfl (Nat.le_of_ble_eq_true rfl) rfl (Nat.le_of_ble_eq_true rfl) (Nat.le_of_ble_eq_true rfl) dL_law_1233) (fun x93 h92 => ?_)
        refine g_istore (pc := 1236) (lv' := [(5, .int x93), (0, .ref (gscr γ)), (1, .ref (gad γ 0)), (2, .ref (gad γ 17)), (3, .ref (gad γ 25)), (4, .int a4)]) dL_law_1236 (by decide) rfl ?_
        refine g_aload_n (pc := 1238) dL_law_1238 rfl 3 rfl ?_
        refine g_aload_n (pc := 1239) dL_law_1239 rfl 1 rfl ?_
        refine g_iload (pc := 1240) dL_law_1240 5 rfl ?_
        refine g_iconst (pc := 1242) (v := 1) dL_law_1242 (by decide) ?_
        refine g_iadd (pc := 1243) dL_law_1243 ?_
        refine g_sld (pc := 1244) dL_law_1244 ?_
        refine g_aload_n (pc := 1245) dL_law_1245 rfl 1 rfl ?_
        refine g_iload (pc := 1246) dL_law_1246 5 rfl ?_
        refine g_iconst (pc := 1248) (v := 2) dL_law_1248 (by decide) ?_
        refine g_iadd (pc := 1249) dL_law_1249 ?_
        refine g_sld (pc := 1250) dL_law_1250 ?_
        refine g_cI (pc := 1251) (st := []) (fun r hr => gRunV (As := [.int ((gxs γ) (a4 + 1).toNatClampNeg), .int ((gxs γ) (a4 + 2).toNatClampNeg)]) 17 (ge_X7_tank γ ((gxs γ) (a4 + 1).toNatClampNeg) ((gxs γ) (a4 + 2).toNatClampNeg) h92) hr wv_RL_169 rfl (Nat.le_of_ble_eq_true rfl) (gat_17 _ _) rfl rfl (Nat.le_of_ble_eq_true rfl) (Nat.le_of_ble_eq_true rfl) dL_law_1251) (fun x95 h94 => ?_)
        refine g_istore (pc := 1254) (lv' := [(6, .int x95), (5, .int x93), (0, .ref (gscr γ)), (1, .ref (gad γ 0)), (2, .ref (gad γ 17)), (3, .ref (gad γ 25)), (4, .int a4)]) dL_law_1254 (by decide) rfl ?_
        refine g_aload_n (pc := 1256) dL_law_1256 rfl 4 rfl ?_
        refine g_cI (pc := 1257) (st := []) (fun r hr => gRunV (As := []) 17 (ge_X7_thrown γ h94) hr wv_RL_104 rfl (Nat.le_of_ble_eq_true rfl) (gat_17 _ _) rfl rfl (Nat.le_of_ble_eq_true rfl) (Nat.le_of_ble_eq_true rfl) dL_law_1257) (fun x97 h96 => ?_)
        refine g_iload (pc := 1260) dL_law_1260 1 rfl ?_
        refine g_icmp_eq (pc := 1262) (tgt := 1267) dL_law_1262 (by decide) ?_ ?_
        · refine g_iload (pc := 1267) dL_law_1267 1 rfl ?_
          refine g_if_ne (pc := 1269) (tgt := 1284) dL_law_1269 (by decide) ?_ ?_
          · exact g_weak (by omega) (g_sub [2, 3, 4, 5, 6] rfl (gjb_L_law_1284 γ n (lp_L_law_23 (gxs γ) (gLx γ) n) ih a4 h96))
          · refine g_aload_n (pc := 1272) dL_law_1272 rfl 5 rfl ?_
            refine g_iconst (pc := 1273) (v := 0) dL_law_1273 (by decide) ?_
            refine g_lald (pc := 1274) 25 (gat_25 _ _) dL_law_1274 ?_
            refine g_iload (pc := 1275) dL_law_1275 0 rfl ?_
            refine g_i2l (pc := 1277) dL_law_1277 ?_
            refine g_lcmp (pc := 1278) dL_law_1278 ?_
            refine g_if_eq (pc := 1279) (tgt := 1284) dL_law_1279 (by decide) ?_ ?_
            · exact g_weak (by omega) (g_sub [2, 3, 4, 5, 6] rfl (gjb_L_law_1284 γ n (lp_L_law_23 (gxs γ) (gLx γ) n) ih a4 h96))
            · refine g_iconst (pc := 1282) (v := 0) dL_law_1282 (by decide) ?_
              exact g_zreturn (pc := 1283) dL_law_1283 rfl rfl
        · refine g_iconst (pc := 1265) (v := 0) dL_law_1265 (by decide) ?_
          exact g_zreturn (pc := 1266) dL_law_1266 rfl rfl
      refine g_case (c := x1 = 19) (fun c19 => ?_) (fun c19 => ?_)
      · refine g_tswI (pc := 40) (tgt := 1287) (off := 1247) dL_law_40 (by rw [c19]; decide) (by rw [c19]; decide) (by rw [c19]; decide) (by decide) ?_
        refine g_aload_n (pc := 1287) dL_law_1287 rfl 1 rfl ?_
        refine g_aload_n (pc := 1288) dL_law_1288 rfl 0 rfl ?_
        refine g_iload (pc := 1289) dL_law_1289 4 rfl ?_
        refine g_iconst (pc := 1291) (v := 1) dL_law_1291 (by decide) ?_
        refine g_iadd (pc := 1292) dL_law_1292 ?_
        refine g_sld (pc := 1293) dL_law_1293 ?_
        refine g_aload_n (pc := 1294) dL_law_1294 rfl 0 rfl ?_
        refine g_iload (pc := 1295) dL_law_1295 4 rfl ?_
        refine g_iconst (pc := 1297) (v := 2) dL_law_1297 (by decide) ?_
        refine g_iadd (pc := 1298) dL_law_1298 ?_
        refine g_sld (pc := 1299) dL_law_1299 ?_
        refine g_aload_n (pc := 1300) dL_law_1300 rfl 3 rfl ?_
        refine g_cH (pc := 1301) (st := []) (fun r hr => gRunSX (As := [.ref (gad γ 0), .int ((gxs γ) (a4 + 1).toNatClampNeg), .int ((gxs γ) (a4 + 2).toNatClampNeg), .ref (gad γ 25)]) (ge_L_variety γ ((gxs γ) (a4 + 1).toNatClampNeg) ((gxs γ) (a4 + 2).toNatClampNeg) h) hr wv_RL_170 rfl (Nat.le_of_ble_eq_true rfl) rfl (Nat.le_of_ble_eq_true rfl) (Nat.le_of_ble_eq_true rfl) dL_law_1301) (fun x99 h98 => ?_)
        refine g_istore (pc := 1304) (lv' := [(5, .int x99), (0, .ref (gscr γ)), (1, .ref (gad γ 0)), (2, .ref (gad γ 17)), (3, .ref (gad γ 25)), (4, .int a4)]) dL_law_1304 (by decide) rfl ?_
        refine g_aload_n (pc := 1306) dL_law_1306 rfl 3 rfl ?_
        refine g_aload_n (pc := 1307) dL_law_1307 rfl 1 rfl ?_
        refine g_iload (pc := 1308) dL_law_1308 5 rfl ?_
        refine g_iconst (pc := 1310) (v := 1) dL_law_1310 (by decide) ?_
        refine g_iadd (pc := 1311) dL_law_1311 ?_
        refine g_sld (pc := 1312) dL_law_1312 ?_
        refine g_aload_n (pc := 1313) dL_law_1313 rfl 1 rfl ?_
        refine g_iload (pc := 1314) dL_law_1314 5 rfl ?_
        refine g_iconst (pc := 1316) (v := 2) dL_law_1316 (by decide) ?_
        refine g_iadd (pc := 1317) dL_law_1317 ?_
        refine g_sld (pc := 1318) dL_law_1318 ?_
        refine g_cI (pc := 1319) (st := []) (fun r hr => gRunV (As := [.int ((gxs γ) (a4 + 1).toNatClampNeg), .int ((gxs γ) (a4 + 2).toNatClampNeg)]) 17 (ge_X7_variety γ ((gxs γ) (a4 + 1).toNatClampNeg) ((gxs γ) (a4 + 2).toNatClampNeg) h98) hr wv_RL_172 rfl (Nat.le_of_ble_eq_true rfl) (gat_17 _ _) rfl rfl (Nat.le_of_ble_eq_true rfl) (Nat.le_of_ble_eq_true rfl) dL_law_1319) (fun x101 h100 => ?_)
        refine g_istore (pc := 1322) (lv' := [(6, .int x101), (5, .int x99), (0, .ref (gscr γ)), (1, .ref (gad γ 0)), (2, .ref (gad γ 17)), (3, .ref (gad γ 25)), (4, .int a4)]) dL_law_1322 (by decide) rfl ?_
        refine g_aload_n (pc := 1324) dL_law_1324 rfl 4 rfl ?_
        refine g_cI (pc := 1325) (st := []) (fun r hr => gRunV (As := []) 17 (ge_X7_thrown γ h100) hr wv_RL_104 rfl (Nat.le_of_ble_eq_true rfl) (gat_17 _ _) rfl rfl (Nat.le_of_ble_eq_true rfl) (Nat.le_of_ble_eq_true rfl) dL_law_1325) (fun x103 h102 => ?_)
        refine g_iload (pc := 1328) dL_law_1328 1 rfl ?_
        refine g_icmp_eq (pc := 1330) (tgt := 1335) dL_law_1330 (by decide) ?_ ?_
        · refine g_iload (pc := 1335) dL_law_1335 1 rfl ?_
          refine g_if_ne (pc := 1337) (tgt := 1352) dL_law_1337 (by decide) ?_ ?_
          · exact g_weak (by omega) (g_sub [2, 3, 4, 5, 6] rfl (gjb_L_law_1352 γ n (lp_L_law_23 (gxs γ) (gLx γ) n) ih a4 h102))
          · refine g_aload_n (pc := 1340) dL_law_1340 rfl 5 rfl ?_
            refine g_iconst (pc := 1341) (v := 0) dL_law_1341 (by decide) ?_
            refine g_lald (pc := 1342) 25 (gat_25 _ _) dL_law_1342 ?_
            refine g_iload (pc := 1343) dL_law_1343 0 rfl ?_
            refine g_i2l (pc := 1345) dL_law_1345 ?_
            refine g_lcmp (pc := 1346) dL_law_1346 ?_
            refine g_if_eq (pc := 1347) (tgt := 1352) dL_law_1347 (by decide) ?_ ?_
            · exact g_weak (by omega) (g_sub [2, 3, 4, 5, 6] rfl (gjb_L_law_1352 γ n (lp_L_law_23 (gxs γ) (gLx γ) n) ih a4 h102))
            · refine g_iconst (pc := 1350) (v := 0) dL_law_1350 (by decide) ?_
              exact g_zreturn (pc := 1351) dL_law_1351 rfl rfl
        · refine g_iconst (pc := 1333) (v := 0) dL_law_1333 (by decide) ?_
          exact g_zreturn (pc := 1334) dL_law_1334 rfl rfl
      refine g_case (c := x1 = 20) (fun c20 => ?_) (fun c20 => ?_)
      · refine g_tswI (pc := 40) (tgt := 1355) (off := 1315) dL_law_40 (by rw [c20]; decide) (by rw [c20]; decide) (by rw [c20]; decide) (by decide) ?_
        refine g_aload_n (pc := 1355) dL_law_1355 rfl 1 rfl ?_
        refine g_aload_n (pc := 1356) dL_law_1356 rfl 0 rfl ?_
        refine g_iload (pc := 1357) dL_law_1357 4 rfl ?_
        refine g_iconst (pc := 1359) (v := 1) dL_law_1359 (by decide) ?_
        refine g_iadd (pc := 1360) dL_law_1360 ?_
        refine g_sld (pc := 1361) dL_law_1361 ?_
        refine g_aload_n (pc := 1362) dL_law_1362 rfl 3 rfl ?_
        refine g_cH (pc := 1363) (st := []) (fun r hr => gRunSX (As := [.ref (gad γ 0), .int ((gxs γ) (a4 + 1).toNatClampNeg), .ref (gad γ 25)]) (ge_L_count γ ((gxs γ) (a4 + 1).toNatClampNeg) h) hr wv_RL_173 rfl (Nat.le_of_ble_eq_true rfl) rfl (Nat.le_of_ble_eq_true rfl) (Nat.le_of_ble_eq_true rfl) dL_law_1363) (fun x105 h104 => ?_)
        refine g_istore (pc := 1366) (lv' := [(5, .int x105), (0, .ref (gscr γ)), (1, .ref (gad γ 0)), (2, .ref (gad γ 17)), (3, .ref (gad γ 25)), (4, .int a4)]) dL_law_1366 (by decide) rfl ?_
        refine g_aload_n (pc := 1368) dL_law_1368 rfl 3 rfl ?_
        refine g_aload_n (pc := 1369) dL_law_1369 rfl 1 rfl ?_
        refine g_iload (pc := 1370) dL_law_1370 5 rfl ?_
        refine g_iconst (pc := 1372) (v := 1) dL_law_1372 (by decide) ?_
        refine g_iadd (pc := 1373) dL_law_1373 ?_
        refine g_sld (pc := 1374) dL_law_1374 ?_
        refine g_cI (pc := 1375) (st := []) (fun r hr => gRunV (As := [.int ((gxs γ) (a4 + 1).toNatClampNeg)]) 17 (ge_X7_count γ ((gxs γ) (a4 + 1).toNatClampNeg) h104) hr wv_RL_175 rfl (Nat.le_of_ble_eq_true rfl) (gat_17 _ _) rfl rfl (Nat.le_of_ble_eq_true rfl) (Nat.le_of_ble_eq_true rfl) dL_law_1375) (fun x107 h106 => ?_)
        refine g_istore (pc := 1378) (lv' := [(6, .int x107), (5, .int x105), (0, .ref (gscr γ)), (1, .ref (gad γ 0)), (2, .ref (gad γ 17)), (3, .ref (gad γ 25)), (4, .int a4)]) dL_law_1378 (by decide) rfl ?_
        refine g_aload_n (pc := 1380) dL_law_1380 rfl 4 rfl ?_
        refine g_cI (pc := 1381) (st := []) (fun r hr => gRunV (As := []) 17 (ge_X7_thrown γ h106) hr wv_RL_104 rfl (Nat.le_of_ble_eq_true rfl) (gat_17 _ _) rfl rfl (Nat.le_of_ble_eq_true rfl) (Nat.le_of_ble_eq_true rfl) dL_law_1381) (fun x109 h108 => ?_)
        refine g_iload (pc := 1384) dL_law_1384 1 rfl ?_
        refine g_icmp_eq (pc := 1386) (tgt := 1391) dL_law_1386 (by decide) ?_ ?_
        · refine g_iload (pc := 1391) dL_law_1391 1 rfl ?_
          refine g_if_ne (pc := 1393) (tgt := 1408) dL_law_1393 (by decide) ?_ ?_
          · exact g_weak (by omega) (g_sub [2, 3, 4, 5, 6] rfl (gjb_L_law_1408 γ n (lp_L_law_23 (gxs γ) (gLx γ) n) ih a4 h108))
          · refine g_aload_n (pc := 1396) dL_law_1396 rfl 5 rfl ?_
            refine g_iconst (pc := 1397) (v := 0) dL_law_1397 (by decide) ?_
            refine g_lald (pc := 1398) 25 (gat_25 _ _) dL_law_1398 ?_
            refine g_iload (pc := 1399) dL_law_1399 0 rfl ?_
            refine g_i2l (pc := 1401) dL_law_1401 ?_
            refine g_lcmp (pc := 1402) dL_law_1402 ?_
            refine g_if_eq (pc := 1403) (tgt := 1408) dL_law_1403 (by decide) ?_ ?_
            · exact g_weak (by omega) (g_sub [2, 3, 4, 5, 6] rfl (gjb_L_law_1408 γ n (lp_L_law_23 (gxs γ) (gLx γ) n) ih a4 h108))
            · refine g_iconst (pc := 1406) (v := 0) dL_law_1406 (by decide) ?_
              exact g_zreturn (pc := 1407) dL_law_1407 rfl rfl
        · refine g_iconst (pc := 1389) (v := 0) dL_law_1389 (by decide) ?_
          exact g_zreturn (pc := 1390) dL_law_1390 rfl rfl
      refine g_case (c := x1 = 21) (fun c21 => ?_) (fun c21 => ?_)
      · refine g_tswI (pc := 40) (tgt := 1411) (off := 1371) dL_law_40 (by rw [c21]; decide) (by rw [c21]; decide) (by rw [c21]; decide) (by decide) ?_
        refine g_aload_n (pc := 1411) dL_law_1411 rfl 1 rfl ?_
        refine g_aload_n (pc := 1412) dL_law_1412 rfl 0 rfl ?_
        refine g_iload (pc := 1413) dL_law_1413 4 rfl ?_
        refine g_iconst (pc := 1415) (v := 1) dL_law_1415 (by decide) ?_
        refine g_iadd (pc := 1416) dL_law_1416 ?_
        refine g_sld (pc := 1417) dL_law_1417 ?_
        refine g_aload_n (pc := 1418) dL_law_1418 rfl 3 rfl ?_
        refine g_cH (pc := 1419) (st := []) (fun r hr => gRunSX (As := [.ref (gad γ 0), .int ((gxs γ) (a4 + 1).toNatClampNeg), .ref (gad γ 25)]) (ge_L_setting γ ((gxs γ) (a4 + 1).toNatClampNeg) h) hr wv_RL_176 rfl (Nat.le_of_ble_eq_true rfl) rfl (Nat.le_of_ble_eq_true rfl) (Nat.le_of_ble_eq_true rfl) dL_law_1419) (fun x111 h110 => ?_)
        refine g_istore (pc := 1422) (lv' := [(5, .int x111), (0, .ref (gscr γ)), (1, .ref (gad γ 0)), (2, .ref (gad γ 17)), (3, .ref (gad γ 25)), (4, .int a4)]) dL_law_1422 (by decide) rfl ?_
        refine g_aload_n (pc := 1424) dL_law_1424 rfl 3 rfl ?_
        refine g_aload_n (pc := 1425) dL_law_1425 rfl 1 rfl ?_
        refine g_iload (pc := 1426) dL_law_1426 5 rfl ?_
        refine g_iconst (pc := 1428) (v := 1) dL_law_1428 (by decide) ?_
        refine g_iadd (pc := 1429) dL_law_1429 ?_
        refine g_sld (pc := 1430) dL_law_1430 ?_
        refine g_cI (pc := 1431) (st := []) (fun r hr => gRunV (As := [.int ((gxs γ) (a4 + 1).toNatClampNeg)]) 17 (ge_X7_setting γ ((gxs γ) (a4 + 1).toNatClampNeg) h110) hr wv_RL_178 rfl (Nat.le_of_ble_eq_true rfl) (gat_17 _ _) rfl rfl (Nat.le_of_ble_eq_true rfl) (Nat.le_of_ble_eq_true rfl) dL_law_1431) (fun x113 h112 => ?_)
        refine g_istore (pc := 1434) (lv' := [(6, .int x113), (5, .int x111), (0, .ref (gscr γ)), (1, .ref (gad γ 0)), (2, .ref (gad γ 17)), (3, .ref (gad γ 25)), (4, .int a4)]) dL_law_1434 (by decide) rfl ?_
        refine g_aload_n (pc := 1436) dL_law_1436 rfl 4 rfl ?_
        refine g_cI (pc := 1437) (st := []) (fun r hr => gRunV (As := []) 17 (ge_X7_thrown γ h112) hr wv_RL_104 rfl (Nat.le_of_ble_eq_true rfl) (gat_17 _ _) rfl rfl (Nat.le_of_ble_eq_true rfl) (Nat.le_of_ble_eq_true rfl) dL_law_1437) (fun x115 h114 => ?_)
        refine g_iload (pc := 1440) dL_law_1440 1 rfl ?_
        refine g_icmp_eq (pc := 1442) (tgt := 1447) dL_law_1442 (by decide) ?_ ?_
        · refine g_iload (pc := 1447) dL_law_1447 1 rfl ?_
          refine g_if_ne (pc := 1449) (tgt := 1464) dL_law_1449 (by decide) ?_ ?_
          · exact g_weak (by omega) (g_sub [2, 3, 4, 5, 6] rfl (gjb_L_law_1464 γ n (lp_L_law_23 (gxs γ) (gLx γ) n) ih a4 h114))
          · refine g_aload_n (pc := 1452) dL_law_1452 rfl 5 rfl ?_
            refine g_iconst (pc := 1453) (v := 0) dL_law_1453 (by decide) ?_
            refine g_lald (pc := 1454) 25 (gat_25 _ _) dL_law_1454 ?_
            refine g_iload (pc := 1455) dL_law_1455 0 rfl ?_
            refine g_i2l (pc := 1457) dL_law_1457 ?_
            refine g_lcmp (pc := 1458) dL_law_1458 ?_
            refine g_if_eq (pc := 1459) (tgt := 1464) dL_law_1459 (by decide) ?_ ?_
            · exact g_weak (by omega) (g_sub [2, 3, 4, 5, 6] rfl (gjb_L_law_1464 γ n (lp_L_law_23 (gxs γ) (gLx γ) n) ih a4 h114))
            · refine g_iconst (pc := 1462) (v := 0) dL_law_1462 (by decide) ?_
              exact g_zreturn (pc := 1463) dL_law_1463 rfl rfl
        · refine g_iconst (pc := 1445) (v := 0) dL_law_1445 (by decide) ?_
          exact g_zreturn (pc := 1446) dL_law_1446 rfl rfl
      refine g_case (c := x1 = 22) (fun c22 => ?_) (fun c22 => ?_)
      · refine g_tswI (pc := 40) (tgt := 1467) (off := 1427) dL_law_40 (by rw [c22]; decide) (by rw [c22]; decide) (by rw [c22]; decide) (by decide) ?_
        refine g_aload_n (pc := 1467) dL_law_1467 rfl 1 rfl ?_
        refine g_aload_n (pc := 1468) dL_law_1468 rfl 0 rfl ?_
        refine g_iload (pc := 1469) dL_law_1469 4 rfl ?_
        refine g_iconst (pc := 1471) (v := 1) dL_law_1471 (by decide) ?_
        refine g_iadd (pc := 1472) dL_law_1472 ?_
        refine g_sld (pc := 1473) dL_law_1473 ?_
        refine g_aload_n (pc := 1474) dL_law_1474 rfl 0 rfl ?_
        refine g_iload (pc := 1475) dL_law_1475 4 rfl ?_
        refine g_iconst (pc := 1477) (v := 2) dL_law_1477 (by decide) ?_
        refine g_iadd (pc := 1478) dL_law_1478 ?_
        refine g_sld (pc := 1479) dL_law_1479 ?_
        refine g_if_eq (pc := 1480) (tgt := 1487) dL_law_1480 (by decide) ?_ ?_
        · refine g_iconst (pc := 1487) (v := 0) dL_law_1487 (by decide) ?_
          exact g_weak (by omega) (g_sub [0, 1, 2, 3, 4] rfl (gjb_L_law_1488 γ n (lp_L_law_23 (gxs γ) (gLx γ) n) ih a4 0 ((gxs γ) (a4 + 1).toNatClampNeg) h))
        · refine g_iconst (pc := 1483) (v := 1) dL_law_1483 (by decide) ?_
          refine g_goto (pc := 1484) (tgt := 1488) dL_law_1484 (by decide) ?_
          exact g_weak (by omega) (g_sub [0, 1, 2, 3, 4] rfl (gjb_L_law_1488 γ n (lp_L_law_23 (gxs γ) (gLx γ) n) ih a4 1 ((gxs γ) (a4 + 1).toNatClampNeg) h))
      refine g_case (c := x1 = 23) (fun c23 => ?_) (fun c23 => ?_)
      · refine g_tswI (pc := 40) (tgt := 1551) (off := 1511) dL_law_40 (by rw [c23]; decide) (by rw [c23]; decide) (by rw [c23]; decide) (by decide) ?_
        refine g_aload_n (pc := 1551) dL_law_1551 rfl 1 rfl ?_
        refine g_aload_n (pc := 1552) dL_law_1552 rfl 0 rfl ?_
        refine g_iload (pc := 1553) dL_law_1553 4 rfl ?_
        refine g_iconst (pc := 1555) (v := 1) dL_law_1555 (by decide) ?_
        refine g_iadd (pc := 1556) dL_law_1556 ?_
        refine g_sld (pc := 1557) dL_law_1557 ?_
        refine g_aload_n (pc := 1558) dL_law_1558 rfl 3 rfl ?_
        refine g_cH (pc := 1559) (st := []) (fun r hr => gRunSX (As := [.ref (gad γ 0), .int ((gxs γ) (a4 + 1).toNatClampNeg), .ref (gad γ 25)]) (ge_L_next γ ((gxs γ) (a4 + 1).toNatClampNeg) h) hr wv_RL_182 rfl (Nat.le_of_ble_eq_true rfl) rfl (Nat.le_of_ble_eq_true rfl) (Nat.le_of_ble_eq_true rfl) dL_law_1559) (fun x117 h116 => ?_)
        refine g_istore (pc := 1562) (lv' := [(5, .int x117), (0, .ref (gscr γ)), (1, .ref (gad γ 0)), (2, .ref (gad γ 17)), (3, .ref (gad γ 25)), (4, .int a4)]) dL_law_1562 (by decide) rfl ?_
        refine g_aload_n (pc := 1564) dL_law_1564 rfl 3 rfl ?_
        refine g_aload_n (pc := 1565) dL_law_1565 rfl 1 rfl ?_
        refine g_iload (pc := 1566) dL_law_1566 5 rfl ?_
        refine g_iconst (pc := 1568) (v := 1) dL_law_1568 (by decide) ?_
        refine g_iadd (pc := 1569) dL_law_1569 ?_
        refine g_sld (pc := 1570) dL_law_1570 ?_
        refine g_cI (pc := 1571) (st := []) (fun r hr => gRunV (As := [.int ((gxs γ) (a4 + 1).toNatClampNeg)]) 17 (ge_X7_next γ ((gxs γ) (a4 + 1).toNatClampNeg) h116) hr wv_RL_184 rfl (Nat.le_of_ble_eq_true rfl) (gat_17 _ _) rfl rfl (Nat.le_of_ble_eq_true rfl) (Nat.le_of_ble_eq_true rfl) dL_law_1571) (fun x119 h118 => ?_)
        refine g_istore (pc := 1574) (lv' := [(6, .int x119), (5, .int x117), (0, .ref (gscr γ)), (1, .ref (gad γ 0)), (2, .ref (gad γ 17)), (3, .ref (gad γ 25)), (4, .int a4)]) dL_law_1574 (by decide) rfl ?_
        refine g_aload_n (pc := 1576) dL_law_1576 rfl 4 rfl ?_
        refine g_cI (pc := 1577) (st := []) (fun r hr => gRunV (As := []) 17 (ge_X7_thrown γ h118) hr wv_RL_104 rfl (Nat.le_of_ble_eq_true rfl) (gat_17 _ _) rfl rfl (Nat.le_of_ble_eq_true rfl) (Nat.le_of_ble_eq_true rfl) dL_law_1577) (fun x121 h120 => ?_)
        refine g_iload (pc := 1580) dL_law_1580 1 rfl ?_
        refine g_icmp_eq (pc := 1582) (tgt := 1587) dL_law_1582 (by decide) ?_ ?_
        · refine g_iload (pc := 1587) dL_law_1587 1 rfl ?_
          refine g_if_ne (pc := 1589) (tgt := 1604) dL_law_1589 (by decide) ?_ ?_
          · exact g_weak (by omega) (g_sub [2, 3, 4, 5, 6] rfl (gjb_L_law_1604 γ n (lp_L_law_23 (gxs γ) (gLx γ) n) ih a4 h120))
          · refine g_aload_n (pc := 1592) dL_law_1592 rfl 5 rfl ?_
            refine g_iconst (pc := 1593) (v := 0) dL_law_1593 (by decide) ?_
            refine g_lald (pc := 1594) 25 (gat_25 _ _) dL_law_1594 ?_
            refine g_iload (pc := 1595) dL_law_1595 0 rfl ?_
            refine g_i2l (pc := 1597) dL_law_1597 ?_
            refine g_lcmp (pc := 1598) dL_law_1598 ?_
            refine g_if_eq (pc := 1599) (tgt := 1604) dL_law_1599 (by decide) ?_ ?_
            · exact g_weak (by omega) (g_sub [2, 3, 4, 5, 6] rfl (gjb_L_law_1604 γ n (lp_L_law_23 (gxs γ) (gLx γ) n) ih a4 h120))
            · refine g_iconst (pc := 1602) (v := 0) dL_law_1602 (by decide) ?_
              exact g_zreturn (pc := 1603) dL_law_1603 rfl rfl
        · refine g_iconst (pc := 1585) (v := 0) dL_law_1585 (by decide) ?_
          exact g_zreturn (pc := 1586) dL_law_1586 rfl rfl
      refine g_case (c := x1 = 24) (fun c24 => ?_) (fun c24 => ?_)
      · refine g_tswI (pc := 40) (tgt := 1607) (off := 1567) dL_law_40 (by rw [c24]; decide) (by rw [c24]; decide) (by rw [c24]; decide) (by decide) ?_
        refine g_aload_n (pc := 1607) dL_law_1607 rfl 1 rfl ?_
        refine g_aload_n (pc := 1608) dL_law_1608 rfl 0 rfl ?_
        refine g_iload (pc := 1609) dL_law_1609 4 rfl ?_
        refine g_iconst (pc := 1611) (v := 1) dL_law_1611 (by decide) ?_
        refine g_iadd (pc := 1612) dL_law_1612 ?_
        refine g_sld (pc := 1613) dL_law_1613 ?_
        refine g_aload_n (pc := 1614) dL_law_1614 rfl 0 rfl ?_
        refine g_iload (pc := 1615) dL_law_1615 4 rfl ?_
        refine g_iconst (pc := 1617) (v := 2) dL_law_1617 (by decide) ?_
        refine g_iadd (pc := 1618) dL_law_1618 ?_
        refine g_sld (pc := 1619) dL_law_1619 ?_
        refine g_aload_n (pc := 1620) dL_law_1620 rfl 0 rfl ?_
        refine g_iload (pc := 1621) dL_law_1621 4 rfl ?_
        refine g_iconst (pc := 1623) (v := 3) dL_law_1623 (by decide) ?_
        refine g_iadd (pc := 1624) dL_law_1624 ?_
        refine g_sld (pc := 1625) dL_law_1625 ?_
        refine g_aload_n (pc := 1626) dL_law_1626 rfl 3 rfl ?_
        refine g_cH (pc := 1627) (st := []) (fun r hr => gRunSX (As := [.ref (gad γ 0), .int ((gxs γ) (a4 + 1).toNatClampNeg), .int ((gxs γ) (a4 + 2).toNatClampNeg), .int ((gxs γ) (a4 + 3).toNatClampNeg), .ref (gad γ 25)]) (ge_L_taken γ ((gxs γ) (a4 + 1).toNatClampNeg) ((gxs γ) (a4 + 2).toNatClampNeg) ((gxs γ) (a4 + 3).toNatClampNeg) h) hr wv_RL_185 rfl (Nat.le_of_ble_eq_true rfl) rfl (Nat.le_of_ble_eq_true rfl) (Nat.le_of_ble_eq_true rfl) dL_law_1627) (fun x123 h122 => ?_)
        refine g_istore (pc := 1630) (lv' := [(5, .int x123), (0, .ref (gscr γ)), (1, .ref (gad γ 0)), (2, .ref (gad γ 17)), (3, .ref (gad γ 25)), (4, .int a4)]) dL_law_1630 (by decide) rfl ?_
        refine g_aload_n (pc := 1632) dL_law_1632 rfl 3 rfl ?_
        refine g_aload_n (pc := 1633) dL_law_1633 rfl 1 rfl ?_
        refine g_iload (pc := 1634) dL_law_1634 5 rfl ?_
        refine g_iconst (pc := 1636) (v := 1) dL_law_1636 (by decide) ?_
        refine g_iadd (pc := 1637) dL_law_1637 ?_
        refine g_sld (pc := 1638) dL_law_1638 ?_
        refine g_aload_n (pc := 1639) dL_law_1639 rfl 1 rfl ?_
        refine g_iload (pc := 1640) dL_law_1640 5 rfl ?_
        refine g_iconst (pc := 1642) (v := 2) dL_law_1642 (by decide) ?_
        refine g_iadd (pc := 1643) dL_law_1643 ?_
        refine g_sld (pc := 1644) dL_law_1644 ?_
        refine g_aload_n (pc := 1645) dL_law_1645 rfl 1 rfl ?_
        refine g_iload (pc := 1646) dL_law_1646 5 rfl ?_
        refine g_iconst (pc := 1648) (v := 3) dL_law_1648 (by decide) ?_
        refine g_iadd (pc := 1649) dL_law_1649 ?_
        refine g_sld (pc := 1650) dL_law_1650 ?_
        refine g_cI (pc := 1651) (st := []) (fun r hr => gRunV (As := [.int ((gxs γ) (a4 + 1).toNatClampNeg), .int ((gxs γ) (a4 + 2).toNatClampNeg), .int ((gxs γ) (a4 + 3).toNatClampNeg)]) 17 (ge_X7_taken γ ((gxs γ) (a4 + 1).toNatClampNeg) ((gxs γ) (a4 + 2).toNatClampNeg) ((gxs γ) (a4 + 3).toNatClampNeg) h122) hr wv_RL_187 rfl (Nat.le_of_ble_eq_true rfl) (gat_17 _ _) rfl rfl (Nat.le_of_ble_eq_true rfl) (Nat.le_of_ble_eq_true rfl) dL_law_1651) (fun x125 h124 => ?_)
        refine g_istore (pc := 1654) (lv' := [(6, .int x125), (5, .int x123), (0, .ref (gscr γ)), (1, .ref (gad γ 0)), (2, .ref (gad γ 17)), (3, .ref (gad γ 25)), (4, .int a4)]) dL_law_1654 (by decide) rfl ?_
        refine g_aload_n (pc := 1656) dL_law_1656 rfl 4 rfl ?_
        refine g_cI (pc := 1657) (st := []) (fun r hr => gRunV (As := []) 17 (ge_X7_thrown γ h124) hr wv_RL_104 rfl (Nat.le_of_ble_eq_true rfl) (gat_17 _ _) rfl rfl (Nat.le_of_ble_eq_true rfl) (Nat.le_of_ble_eq_true rfl) dL_law_1657) (fun x127 h126 => ?_)
        refine g_iload (pc := 1660) dL_law_1660 1 rfl ?_
        refine g_icmp_eq (pc := 1662) (tgt := 1667) dL_law_1662 (by decide) ?_ ?_
        · refine g_iload (pc := 1667) dL_law_1667 1 rfl ?_
          refine g_if_ne (pc := 1669) (tgt := 1684) dL_law_1669 (by decide) ?_ ?_
          · exact g_weak (by omega) (g_sub [2, 3, 4, 5, 6] rfl (gjb_L_law_1684 γ n (lp_L_law_23 (gxs γ) (gLx γ) n) ih a4 h126))
          · refine g_aload_n (pc := 1672) dL_law_1672 rfl 5 rfl ?_
            refine g_iconst (pc := 1673) (v := 0) dL_law_1673 (by decide) ?_
            refine g_lald (pc := 1674) 25 (gat_25 _ _) dL_law_1674 ?_
            refine g_iload (pc := 1675) dL_law_1675 0 rfl ?_
            refine g_i2l (pc := 1677) dL_law_1677 ?_
            refine g_lcmp (pc := 1678) dL_law_1678 ?_
            refine g_if_eq (pc := 1679) (tgt := 1684) dL_law_1679 (by decide) ?_ ?_
            · exact g_weak (by omega) (g_sub [2, 3, 4, 5, 6] rfl (gjb_L_law_1684 γ n (lp_L_law_23 (gxs γ) (gLx γ) n) ih a4 h126))
            · refine g_iconst (pc := 1682) (v := 0) dL_law_1682 (by decide) ?_
              exact g_zreturn (pc := 1683) dL_law_1683 rfl rfl
        · refine g_iconst (pc := 1665) (v := 0) dL_law_1665 (by decide) ?_
          exact g_zreturn (pc := 1666) dL_law_1666 rfl rfl
      refine g_case (c := x1 = 25) (fun c25 => ?_) (fun c25 => ?_)
      · refine g_tswI (pc := 40) (tgt := 1687) (off := 1647) dL_law_40 (by rw [c25]; decide) (by rw [c25]; decide) (by rw [c25]; decide) (by decide) ?_
        refine g_aload_n (pc := 1687) dL_law_1687 rfl 1 rfl ?_
        refine g_aload_n (pc := 1688) dL_law_1688 rfl 0 rfl ?_
        refine g_iload (pc := 1689) dL_law_1689 4 rfl ?_
        refine g_iconst (pc := 1691) (v := 1) dL_law_1691 (by decide) ?_
        refine g_iadd (pc := 1692) dL_law_1692 ?_
        refine g_sld (pc := 1693) dL_law_1693 ?_
        refine g_aload_n (pc := 1694) dL_law_1694 rfl 0 rfl ?_
        refine g_iload (pc := 1695) dL_law_1695 4 rfl ?_
        refine g_iconst (pc := 1697) (v := 2) dL_law_1697 (by decide) ?_
        refine g_iadd (pc := 1698) dL_law_1698 ?_
        refine g_sld (pc := 1699) dL_law_1699 ?_
        refine g_aload_n (pc := 1700) dL_law_1700 rfl 3 rfl ?_
        refine g_cH (pc := 1701) (st := []) (fun r hr => gRunSX (As := [.ref (gad γ 0), .int ((gxs γ) (a4 + 1).toNatClampNeg), .int ((gxs γ) (a4 + 2).toNatClampNeg), .ref (gad γ 25)]) (ge_L_oilIn γ ((gxs γ) (a4 + 1).toNatClampNeg) ((gxs γ) (a4 + 2).toNatClampNeg) h) hr wv_RL_188 rfl (Nat.le_of_ble_eq_true rfl) rfl (Nat.le_of_ble_eq_true rfl) (Nat.le_of_ble_eq_true rfl) dL_law_1701) (fun x129 h128 => ?_)
        refine g_istore (pc := 1704) (lv' := [(5, .int x129), (0, .ref (gscr γ)), (1, .ref (gad γ 0)), (2, .ref (gad γ 17)), (3, .ref (gad γ 25)), (4, .int a4)]) dL_law_1704 (by decide) rfl ?_
        refine g_aload_n (pc := 1706) dL_law_1706 rfl 3 rfl ?_
        refine g_aload_n (pc := 1707) dL_law_1707 rfl 1 rfl ?_
        refine g_iload (pc := 1708) dL_law_1708 5 rfl ?_
        refine g_iconst (pc := 1710) (v := 1) dL_law_1710 (by decide) ?_
        refine g_iadd (pc := 1711) dL_law_1711 ?_
        refine g_sld (pc := 1712) dL_law_1712 ?_
        refine g_aload_n (pc := 1713) dL_law_1713 rfl 1 rfl ?_
        refine g_iload (pc := 1714) dL_law_1714 5 rfl ?_
        refine g_iconst (pc := 1716) (v := 2) dL_law_1716 (by decide) ?_
        refine g_iadd (pc := 1717) dL_law_1717 ?_
        refine g_sld (pc := 1718) dL_law_1718 ?_
        refine g_cI (pc := 1719) (st := []) (fun r hr => gRunV (As := [.int ((gxs γ) (a4 + 1).toNatClampNeg), .int ((gxs γ) (a4 + 2).toNatClampNeg)]) 17 (ge_X7_oilIn γ ((gxs γ) (a4 + 1).toNatClampNeg) ((gxs γ) (a4 + 2).toNatClampNeg) h128) hr wv_RL_190 rfl (Nat.le_of_ble_eq_true rfl) (gat_17 _ _) rfl rfl (Nat.le_of_ble_eq_true rfl) (Nat.le_of_ble_eq_true rfl) dL_law_1719) (fun x131 h130 => ?_)
        refine g_istore (pc := 1722) (lv' := [(6, .int x131), (5, .int x129), (0, .ref (gscr γ)), (1, .ref (gad γ 0)), (2, .ref (gad γ 17)), (3, .ref (gad γ 25)), (4, .int a4)]) dL_law_1722 (by decide) rfl ?_
        refine g_aload_n (pc := 1724) dL_law_1724 rfl 4 rfl ?_
        refine g_cI (pc := 1725) (st := []) (fun r hr => gRunV (As := []) 17 (ge_X7_thrown γ h130) hr wv_RL_104 rfl (Nat.le_of_ble_eq_true rfl) (gat_17 _ _) rfl rfl (Nat.le_of_ble_eq_true rfl) (Nat.le_of_ble_eq_true rfl) dL_law_1725) (fun x133 h132 => ?_)
        refine g_iload (pc := 1728) dL_law_1728 1 rfl ?_
        refine g_icmp_eq (pc := 1730) (tgt := 1735) dL_law_1730 (by decide) ?_ ?_
        · refine g_iload (pc := 1735) dL_law_1735 1 rfl ?_
          refine g_if_ne (pc := 1737) (tgt := 1752) dL_law_1737 (by decide) ?_ ?_
          · exact g_weak (by omega) (g_sub [2, 3, 4, 5, 6] rfl (gjb_L_law_1752 γ n (lp_L_law_23 (gxs γ) (gLx γ) n) ih a4 h132))
          · refine g_aload_n (pc := 1740) dL_law_1740 rfl 5 rfl ?_
            refine g_iconst (pc := 1741) (v := 0) dL_law_1741 (by decide) ?_
            refine g_lald (pc := 1742) 25 (gat_25 _ _) dL_law_1742 ?_
            refine g_iload (pc := 1743) dL_law_1743 0 rfl ?_
            refine g_i2l (pc := 1745) dL_law_1745 ?_
            refine g_lcmp (pc := 1746) dL_law_1746 ?_
            refine g_if_eq (pc := 1747) (tgt := 1752) dL_law_1747 (by decide) ?_ ?_
            · exact g_weak (by omega) (g_sub [2, 3, 4, 5, 6] rfl (gjb_L_law_1752 γ n (lp_L_law_23 (gxs γ) (gLx γ) n) ih a4 h132))
            · refine g_iconst (pc := 1750) (v := 0) dL_law_1750 (by decide) ?_
              exact g_zreturn (pc := 1751) dL_law_1751 rfl rfl
        · refine g_iconst (pc := 1733) (v := 0) dL_law_1733 (by decide) ?_
          exact g_zreturn (pc := 1734) dL_law_1734 rfl rfl
      refine g_case (c := x1 = 26) (fun c26 => ?_) (fun c26 => ?_)
      · refine g_tswI (pc := 40) (tgt := 1755) (off := 1715) dL_law_40 (by rw [c26]; decide) (by rw [c26]; decide) (by rw [c26]; decide) (by decide) ?_
        refine g_aload_n (pc := 1755) dL_law_1755 rfl 1 rfl ?_
        refine g_aload_n (pc := 1756) dL_law_1756 rfl 0 rfl ?_
        refine g_iload (pc := 1757) dL_law_1757 4 rfl ?_
        refine g_iconst (pc := 1759) (v := 1) dL_law_1759 (by decide) ?_
        refine g_iadd (pc := 1760) dL_law_1760 ?_
        refine g_sld (pc := 1761) dL_law_1761 ?_
        refine g_aload_n (pc := 1762) dL_law_1762 rfl 3 rfl ?_
        refine g_cH (pc := 1763) (st := []) (fun r hr => gRunSX (As := [.ref (gad γ 0), .int ((gxs γ) (a4 + 1).toNatClampNeg), .ref (gad γ 25)]) (ge_L_lossBy γ ((gxs γ) (a4 + 1).toNatClampNeg) h) hr wv_RL_191 rfl (Nat.le_of_ble_eq_true rfl) rfl (Nat.le_of_ble_eq_true rfl) (Nat.le_of_ble_eq_true rfl) dL_law_1763) (fun x135 h134 => ?_)
        refine g_istore (pc := 1766) (lv' := [(5, .int x135), (0, .ref (gscr γ)), (1, .ref (gad γ 0)), (2, .ref (gad γ 17)), (3, .ref (gad γ 25)), (4, .int a4)]) dL_law_1766 (by decide) rfl ?_
        refine g_aload_n (pc := 1768) dL_law_1768 rfl 3 rfl ?_
        refine g_aload_n (pc := 1769) dL_law_1769 rfl 1 rfl ?_
        refine g_iload (pc := 1770) dL_law_1770 5 rfl ?_
        refine g_iconst (pc := 1772) (v := 1) dL_law_1772 (by decide) ?_
        refine g_iadd (pc := 1773) dL_law_1773 ?_
        refine g_sld (pc := 1774) dL_law_1774 ?_
        refine g_cI (pc := 1775) (st := []) (fun r hr => gRunV (As := [.int ((gxs γ) (a4 + 1).toNatClampNeg)]) 17 (ge_X7_lossBy γ ((gxs γ) (a4 + 1).toNatClampNeg) h134) hr wv_RL_193 rfl (Nat.le_of_ble_eq_true rfl) (gat_17 _ _) rfl rfl (Nat.le_of_ble_eq_true rfl) (Nat.le_of_ble_eq_true rfl) dL_law_1775) (fun x137 h136 => ?_)
        refine g_istore (pc := 1778) (lv' := [(6, .int x137), (5, .int x135), (0, .ref (gscr γ)), (1, .ref (gad γ 0)), (2, .ref (gad γ 17)), (3, .ref (gad γ 25)), (4, .int a4)]) dL_law_1778 (by decide) rfl ?_
        refine g_aload_n (pc := 1780) dL_law_1780 rfl 4 rfl ?_
        refine g_cI (pc := 1781) (st := []) (fun r hr => gRunV (As := []) 17 (ge_X7_thrown γ h136) hr wv_RL_104 rfl (Nat.le_of_ble_eq_true rfl) (gat_17 _ _) rfl rfl (Nat.le_of_ble_eq_true rfl) (Nat.le_of_ble_eq_true rfl) dL_law_1781) (fun x139 h138 => ?_)
        refine g_iload (pc := 1784) dL_law_1784 1 rfl ?_
        refine g_icmp_eq (pc := 1786) (tgt := 1791) dL_law_1786 (by decide) ?_ ?_
        · refine g_iload (pc := 1791) dL_law_1791 1 rfl ?_
          refine g_if_ne (pc := 1793) (tgt := 1808) dL_law_1793 (by decide) ?_ ?_
          · exact g_weak (by omega) (g_sub [2, 3, 4, 5, 6] rfl (gjb_L_law_1808 γ n (lp_L_law_23 (gxs γ) (gLx γ) n) ih a4 h138))
          · refine g_aload_n (pc := 1796) dL_law_1796 rfl 5 rfl ?_
            refine g_iconst (pc := 1797) (v := 0) dL_law_1797 (by decide) ?_
            refine g_lald (pc := 1798) 25 (gat_25 _ _) dL_law_1798 ?_
            refine g_iload (pc := 1799) dL_law_1799 0 rfl ?_
            refine g_i2l (pc := 1801) dL_law_1801 ?_
            refine g_lcmp (pc := 1802) dL_law_1802 ?_
            refine g_if_eq (pc := 1803) (tgt := 1808) dL_law_1803 (by decide) ?_ ?_
            · exact g_weak (by omega) (g_sub [2, 3, 4, 5, 6] rfl (gjb_L_law_1808 γ n (lp_L_law_23 (gxs γ) (gLx γ) n) ih a4 h138))
            · refine g_iconst (pc := 1806) (v := 0) dL_law_1806 (by decide) ?_
              exact g_zreturn (pc := 1807) dL_law_1807 rfl rfl
        · refine g_iconst (pc := 1789) (v := 0) dL_law_1789 (by decide) ?_
          exact g_zreturn (pc := 1790) dL_law_1790 rfl rfl
      refine g_case (c := x1 = 27) (fun c27 => ?_) (fun c27 => ?_)
      · refine g_tswI (pc := 40) (tgt := 1811) (off := 1771) dL_law_40 (by rw [c27]; decide) (by rw [c27]; decide) (by rw [c27]; decide) (by decide) ?_
        refine g_aload_n (pc := 1811) dL_law_1811 rfl 1 rfl ?_
        refine g_cI (pc := 1812) (st := []) (fun r hr => gRunV (As := []) 0 (ge_X6_bestTank γ h) hr wv_RL_194 rfl (Nat.le_of_ble_eq_true rfl) (gat_0 _ _) rfl rfl (Nat.le_of_ble_eq_true rfl) (Nat.le_of_ble_eq_true rfl) dL_law_1812) (fun x141 h140 => ?_)
        refine g_aload_n (pc := 1815) dL_law_1815 rfl 2 rfl ?_
        refine g_cI (pc := 1816) (st := [.int x141]) (fun r hr => gRunV (As := []) 17 (ge_X7_bestTank γ h140) hr wv_RL_197 rfl (Nat.le_of_ble_eq_true rfl) (gat_17 _ _) rfl rfl (Nat.le_of_ble_eq_true rfl) (Nat.le_of_ble_eq_true rfl) dL_law_1816) (fun x143 h142 => ?_)
        refine g_icmp_eq (pc := 1819) (tgt := 1879) dL_law_1819 (by decide) ?_ ?_
        · exact g_weak (by omega) (g_sub [0, 1, 2, 3, 4] rfl (gjb_L_law_1879 γ n (lp_L_law_23 (gxs γ) (gLx γ) n) ih a4 h142))
        · refine g_iconst (pc := 1822) (v := 0) dL_law_1822 (by decide) ?_
          exact g_zreturn (pc := 1823) dL_law_1823 rfl rfl
      refine g_case (c := x1 = 28) (fun c28 => ?_) (fun c28 => ?_)
      · refine g_tswI (pc := 40) (tgt := 1824) (off := 1784) dL_law_40 (by rw [c28]; decide) (by rw [c28]; decide) (by rw [c28]; decide) (by decide) ?_
        refine g_aload_n (pc := 1824) dL_law_1824 rfl 1 rfl ?_
        refine g_cD (pc := 1825) (st := []) (fun r hr => gRunV (As := []) 0 (ge_X6_goodShare γ h) hr wv_RL_198 rfl (Nat.le_of_ble_eq_true rfl) (gat_0 _ _) rfl rfl (Nat.le_of_ble_eq_true rfl) (Nat.le_of_ble_eq_true rfl) dL_law_1825) (fun x145 h144 => ?_)
        refine g_dstore (pc := 1828) (lv' := [(5, .double x145), (0, .ref (gscr γ)), (1, .ref (gad γ 0)), (2, .ref (gad γ 17)), (3, .ref (gad γ 25)), (4, .int a4)]) dL_law_1828 (by decide) rfl ?_
        refine g_aload_n (pc := 1830) dL_law_1830 rfl 3 rfl ?_
        refine g_cD (pc := 1831) (st := []) (fun r hr => gRunV (As := []) 17 (ge_X7_goodShare γ h144) hr wv_RL_202 rfl (Nat.le_of_ble_eq_true rfl) (gat_17 _ _) rfl rfl (Nat.le_of_ble_eq_true rfl) (Nat.le_of_ble_eq_true rfl) dL_law_1831) (fun x147 h146 => ?_)
        refine g_dstore (pc := 1834) (lv' := [(7, .double x147), (5, .double x145), (0, .ref (gscr γ)), (1, .ref (gad γ 0)), (2, .ref (gad γ 17)), (3, .ref (gad γ 25)), (4, .int a4)]) dL_law_1834 (by decide) rfl ?_
        refine g_dload (pc := 1836) dL_law_1836 1 rfl ?_
        refine g_dload (pc := 1838) dL_law_1838 0 rfl ?_
        refine g_dcmp (pc := 1840) dL_law_1840 ?_
        refine g_if_eq (pc := 1841) (tgt := 1862) dL_law_1841 (by decide) ?_ ?_
        · exact g_weak (by omega) (g_sub [2, 3, 4, 5, 6] rfl (gjb_L_law_1862 γ n (lp_L_law_23 (gxs γ) (gLx γ) n) ih a4 h146))
        · refine g_dload (pc := 1844) dL_law_1844 1 rfl ?_
          refine g_dload (pc := 1846) dL_law_1846 1 rfl ?_
          refine g_dcmp (pc := 1848) dL_law_1848 ?_
          refine g_if_eq (pc := 1849) (tgt := 1860) dL_law_1849 (by decide) ?_ ?_
          · exact g_weak (by omega) (g_sub [] rfl (gjb_L_law_1860 γ n h146))
          · refine g_dload (pc := 1852) dL_law_1852 0 rfl ?_
            refine g_dload (pc := 1854) dL_law_1854 0 rfl ?_
            refine g_dcmp (pc := 1856) dL_law_1856 ?_
            refine g_if_ne (pc := 1857) (tgt := 1862) dL_law_1857 (by decide) ?_ ?_
            · exact g_weak (by omega) (g_sub [2, 3, 4, 5, 6] rfl (gjb_L_law_1862 γ n (lp_L_law_23 (gxs γ) (gLx γ) n) ih a4 h146))
            · exact g_weak (by omega) (g_sub [] rfl (gjb_L_law_1860 γ n h146))
      refine g_case (c := x1 = 29) (fun c29 => ?_) (fun c29 => ?_)
      · refine g_tswI (pc := 40) (tgt := 1865) (off := 1825) dL_law_40 (by rw [c29]; decide) (by rw [c29]; decide) (by rw [c29]; decide) (by decide) ?_
        refine g_aload_n (pc := 1865) dL_law_1865 rfl 1 rfl ?_
        refine g_cL (pc := 1866) (st := []) (fun r hr => gRunV (As := []) 0 (ge_X6_digest γ h) hr wv_RL_203 rfl (Nat.le_of_ble_eq_true rfl) (gat_0 _ _) rfl rfl (Nat.le_of_ble_eq_true rfl) (Nat.le_of_ble_eq_true rfl) dL_law_1866) (fun x149 h148 => ?_)
        refine g_aload_n (pc := 1869) dL_law_1869 rfl 2 rfl ?_
        refine g_cL (pc := 1870) (st := [.long x149]) (fun r hr => gRunV (As := []) 17 (ge_X7_digest γ h148) hr wv_RL_207 rfl (Nat.le_of_ble_eq_true rfl) (gat_17 _ _) rfl rfl (Nat.le_of_ble_eq_true rfl) (Nat.le_of_ble_eq_true rfl) dL_law_1870) (fun x151 h150 => ?_)
        refine g_lcmp (pc := 1873) dL_law_1873 ?_
        refine g_if_eq (pc := 1874) (tgt := 1879) dL_law_1874 (by decide) ?_ ?_
        · exact g_weak (by omega) (g_sub [0, 1, 2, 3, 4] rfl (gjb_L_law_1879 γ n (lp_L_law_23 (gxs γ) (gLx γ) n) ih a4 h150))
        · refine g_iconst (pc := 1877) (v := 0) dL_law_1877 (by decide) ?_
          exact g_zreturn (pc := 1878) dL_law_1878 rfl rfl
      refine g_tswO (pc := 40) (tgt := 1879) dL_law_40 (by have k := fun (v : Int32) (n : Int) (e : v.toInt = n) (c : ¬ x1 = v) => gne e c; have k0 := k 0 0 (by decide) c0; have k1 := k 1 1 (by decide) c1; have k2 := k 2 2 (by decide) c2; have k3 := k 3 3 (by decide) c3; have k4 := k 4 4 (by decide) c4; have k5 := k 5 5 (by decide) c5; have k6 := k 6 6 (by decide) c6; have k7 := k 7 7 (by decide) c7; have k8 := k 8 8 (by decide) c8; have k9 := k 9 9 (by decide) c9; have k10 := k 10 10 (by decide) c10; have k11 := k 11 11 (by decide) c11; have k12 := k 12 12 (by decide) c12; have k13 := k 13 13 (by decide) c13; have k14 := k 14 14 (by decide) c14; have k15 := k 15 15 (by decide) c15; have k16 := k 16 16 (by decide) c16; have k17 := k 17 17 (by decide) c17; have k18 := k 18 18 (by decide) c18; have k19 := k 19 19 (by decide) c19; have k20 := k 20 20 (by decide) c20; have k21 := k 21 21 (by decide) c21; have k22 := k 22 22 (by decide) c22; have k23 := k 23 23 (by decide) c23; have k24 := k 24 24 (by decide) c24; have k25 := k 25 25 (by decide) c25; have k26 := k 26 26 (by decide) c26; have k27 := k 27 27 (by decide) c27; have k28 := k 28 28 (by decide) c28; have k29 := k 29 29 (by decide) c29; omega) (by decide) ?_
      exact g_weak (by omega) (g_sub [0, 1, 2, 3, 4] rfl (gjb_L_law_1879 γ n (lp_L_law_23 (gxs γ) (gLx γ) n) ih a4 h))
