def jb_L_act_668  (s0 : Int32) (h : Hst) : Option (Int32 × Hst) :=
  (gzr s0 (some (s0, h)))
def jb_L_act_613  (s0 : Int32) (h : Hst) : Option (Int32 × Hst) :=
  (gzr s0 (some (s0, h)))
def jb_L_act_591  (a14 : Int32) (h : Hst) : Option (Int32 × Hst) :=
  gck 3 15 (gl (hst h 17 (3 : Int32).toNatClampNeg (-1)) fun h1 =>
  gck 4 15 (gl (hst h1 17 (4 : Int32).toNatClampNeg 0) fun h2 =>
  gb (f_X6_clean h2) fun x4 h3 =>
  (if x4 = a14 then
    (jb_L_act_613 1 h3)
  else
    (jb_L_act_613 0 h3))))
def jb_L_act_565  (s0 : Int32) (h : Hst) : Option (Int32 × Hst) :=
  (gzr s0 (some (s0, h)))
def jb_L_act_541  (a14 : Int32) (a15 : Int32) (s0 : Int32) (s1 : Int32) (h : Hst) : Option (Int32 × Hst) :=
  gck s1 15 (gl (hst h 17 s1.toNatClampNeg s0) fun h1 =>
  gck (8 + a14) 15 (gb (f_X6_set a14 (h1.1 17 (8 + a14).toNatClampNeg) h1) fun x3 h2 =>
  (if x3 = a15 then
    (jb_L_act_565 1 h2)
  else
    (jb_L_act_565 0 h2))))
def jb_L_act_465  (a2 : Int32) (a14 : Int32) (a15 : Int32) (s0 : Int32) (h : Hst) : Option (Int32 × Hst) :=
  gb (f_L_at (a2 >>> (3 &&& 31)) 51 h) fun x2 h1 =>
  (jb_L_act_541 a14 a15 x2 s0 h1)
def jb_L_act_423  (s0 : Int32) (h : Hst) : Option (Int32 × Hst) :=
  (gzr s0 (some (s0, h)))
def lp_L_act_334 (R313 : Int32 → Int32 → Int32 → Hst → Option (Int32 × Hst)) (R323 : Int32 → Int32 → Int32 → Int32 → Hst → Option (Int32 × Hst)) : Nat → Int32 → Int32 → Int32 → Int32 → Int32 → Hst → Option (Int32 × Hst)
  | 0, _, _, _, _, _, _ => none
  | n + 1, a14, a15, a16, a17, a18, h =>
    (if 5 ≤ a18 then
      (R323 a14 a15 a16 (a17 + 1) h)
    else
      gck (((7 * a17) + 2) + a18) 28 (gck 11 15 (gdz 1000 (gl (((h.1 24 (((7 * a17) + 2) + a18).toNatClampNeg) * (h.1 17 (11 : Int32).toNatClampNeg)) / 1000) fun x1 =>
      gl (((7 * a17) + 2) + a18) fun x2 =>
      gck x2 28 (gck x2 28 (gl (hst h 24 x2.toNatClampNeg ((h.1 24 x2.toNatClampNeg) - x1)) fun h3 =>
      gl (a15 + x1) fun x4 =>
      ((lp_L_act_334 R313 R323 n) a14 x4 a16 a17 (a18 + 1) h3)))))))
def lp_L_act_323 (R313 : Int32 → Int32 → Int32 → Hst → Option (Int32 × Hst)) : Nat → Int32 → Int32 → Int32 → Int32 → Hst → Option (Int32 × Hst)
  | 0, _, _, _, _, _ => none
  | n + 1, a14, a15, a16, a17, h =>
    gck 2 15 ((if (h.1 17 (2 : Int32).toNatClampNeg) ≤ a17 then
      (R313 a14 a15 (a16 + 1) h)
    else
      (lp_L_act_334 R313 (lp_L_act_323 R313 n) FU a14 a15 a16 a17 0 h)))
def lp_L_act_313 : Nat → Int32 → Int32 → Int32 → Hst → Option (Int32 × Hst)
  | 0, _, _, _, _ => none
  | n + 1, a14, a15, a16, h =>
    (if a14 ≤ a16 then
      gb (f_X6_pass a14 h) fun x2 h1 =>
      (if x2 = a15 then
        (jb_L_act_423 1 h1)
      else
        (jb_L_act_423 0 h1))
    else
      (lp_L_act_323 (lp_L_act_313 n) FU a14 a15 a16 0 h))
def jb_L_act_203  (a1 : Int32) (a2 : Int32) (a13 : Int32) (h : Hst) : Option (Int32 × Hst) :=
  (if 8 ≤ a13 then
    (if a13 = 8 then
      gb (f_L_appeals a2 h) fun x31 h30 =>
      (gzr x31 (some (x31, h30)))
    else
      (if 11 ≤ a13 then
        (if a13 = 11 then
          gb (f_L_at a2 9 h) fun x25 h24 =>
          gl (1 + x25) fun x26 =>
          gck 6 15 (gck 6 15 (gl (hst h24 17 (6 : Int32).toNatClampNeg ((h24.1 17 (6 : Int32).toNatClampNeg) + x26)) fun h27 =>
          (lp_L_act_313 FU x26 0 0 h27)))
        else
          (if a13 = 12 then
            gb (f_L_at a2 7 h) fun x14 h13 =>
            gck (8 + x14) 15 (gl (h13.1 17 (8 + x14).toNatClampNeg) fun x15 =>
            (if x14 = 0 then
              (jb_L_act_465 a2 x14 x15 (8 + x14) h13)
            else
              (if x14 = 3 then
                (jb_L_act_465 a2 x14 x15 (8 + x14) h13)
              else
                (if x14 = 1 then
                  gb (f_L_at (a2 >>> (3 &&& 31)) 501 h13) fun x23 h22 =>
                  (jb_L_act_541 x14 x15 (500 + x23) (8 + x14) h22)
                else
                  (if x14 = 2 then
                    gb (f_L_at (a2 >>> (3 &&& 31)) 1001 h13) fun x21 h20 =>
                    (jb_L_act_541 x14 x15 x21 (8 + x14) h20)
                  else
                    (if x14 = 5 then
                      gb (f_L_at (a2 >>> (3 &&& 31)) 3 h13) fun x19 h18 =>
                      (jb_L_act_541 x14 x15 x19 (8 + x14) h18)
                    else
                      gb (f_L_at (a2 >>> (3 &&& 31)) 501 h13) fun x17 h16 =>
                      (jb_L_act_541 x14 x15 x17 (8 + x14) h16)))))))
          else
            gb (f_L_at a2 2 h) fun x2 h1 =>
            (if x2 = 0 then
              gck 4 15 (gl (h1.1 17 (4 : Int32).toNatClampNeg) fun x11 =>
              (if x11 ≤ 0 then
                (jb_L_act_591 x11 h1)
              else
                gck 5 15 (gck 5 15 (gl (hst h1 17 (5 : Int32).toNatClampNeg ((h1.1 17 (5 : Int32).toNatClampNeg) + 1)) fun h12 =>
                (jb_L_act_591 x11 h12)))))
            else
              gb (f_L_at (a2 >>> (2 &&& 31)) 5 h1) fun x4 h3 =>
              gck x4 5 (gl (h3.1 18 x4.toNatClampNeg) fun x5 =>
              gb (f_L_at (a2 >>> (5 &&& 31)) 351 h3) fun x7 h6 =>
              gck x4 5 (gl (hst h6 18 x4.toNatClampNeg (50 + x7)) fun h8 =>
              gck x4 5 (gb (f_X6_setYield x4 (h8.1 18 x4.toNatClampNeg) h8) fun x10 h9 =>
              (if x10 = x5 then
                (jb_L_act_668 1 h9)
              else
                (jb_L_act_668 0 h9))))))))
      else
        gb (f_L_takes a1 a2 h) fun x29 h28 =>
        (gzr x29 (some (x29, h28)))))
  else
    gb (f_L_presses a1 a2 h) fun x33 h32 =>
    (gzr x33 (some (x33, h32))))
def jb_L_act_202  (s0 : Int32) (h : Hst) : Option (Int32 × Hst) :=
  (gzr s0 (some (s0, h)))
def f_L_act (p1 : Int32) (p2 : Int32) (h : Hst) : Option (Int32 × Hst) :=
  gb (f_L_at (p1 >>> (20 &&& 31)) 14 h) fun x2 h1 =>
  (if 4 ≤ x2 then
    (jb_L_act_203 p1 p2 x2 h1)
  else
    gck 1 15 ((if 10 ≤ (h1.1 17 (1 : Int32).toNatClampNeg) then
      (jb_L_act_203 p1 p2 x2 h1)
    else
      gck 1 15 (gl (h1.1 17 (1 : Int32).toNatClampNeg) fun x3 =>
      gck 1 15 (gl (hst h1 17 (1 : Int32).toNatClampNeg (x3 + 1)) fun h4 =>
      gck 0 15 (gb (f_L_at p2 (h4.1 17 (0 : Int32).toNatClampNeg) h4) fun x6 h5 =>
      gck (6 * x3) 60 (gl (hst h5 19 (6 * x3).toNatClampNeg x6) fun h7 =>
      gb (f_L_at (p2 >>> (3 &&& 31)) 5 h7) fun x9 h8 =>
      gck ((6 * x3) + 1) 60 (gl (hst h8 19 ((6 * x3) + 1).toNatClampNeg x9) fun h10 =>
      gb (f_L_at (p2 >>> (6 &&& 31)) 2000 h10) fun x12 h11 =>
      gck ((6 * x3) + 2) 60 (gl (hst h11 19 ((6 * x3) + 2).toNatClampNeg (1 + x12)) fun h13 =>
      gb (f_L_at p1 30 h13) fun x15 h14 =>
      gck ((6 * x3) + 3) 60 (gl (hst h14 19 ((6 * x3) + 3).toNatClampNeg x15) fun h16 =>
      gb (f_L_at (p1 >>> (6 &&& 31)) 1001 h16) fun x18 h17 =>
      gck ((6 * x3) + 4) 60 (gl (hst h17 19 ((6 * x3) + 4).toNatClampNeg (500 + x18)) fun h19 =>
      gck ((6 * x3) + 5) 60 (gl (hst h19 19 ((6 * x3) + 5).toNatClampNeg 0) fun h20 =>
      gck (6 * x3) 60 (gck ((6 * x3) + 1) 60 (gck ((6 * x3) + 2) 60 (gck ((6 * x3) + 3) 60 (gck ((6 * x3) + 4) 60 (gb (f_X6_addLot (h20.1 19 (6 * x3).toNatClampNeg) (h20.1 19 ((6 * x3) + 1).toNatClampNeg) (h20.1 19 ((6 * x3) + 2).toNatClampNeg) (h20.1 19 ((6 * x3) + 3).toNatClampNeg) (h20.1 19 ((6 * x3) + 4).toNatClampNeg) h20) fun x22 h21 =>
      (if x22 = x3 then
        (jb_L_act_202 1 h21)
      else
        (jb_L_act_202 0 h21)))))))))))))))))))
set_option maxRecDepth 20000 in
theorem gjb_L_act_668 (γ : Gv)  (s0 : Int32) (h : Hst) : G γ RL cL_act 20 (some .boolean) [] vI 7 0 668 [] [.int s0] h (jb_L_act_668 s0 h) := by
  unfold jb_L_act_668
  exact g_zreturn (pc := 668) dL_act_668 rfl rfl
set_option maxRecDepth 20000 in
theorem gjb_L_act_613 (γ : Gv)  (s0 : Int32) (h : Hst) : G γ RL cL_act 20 (some .boolean) [] vI 7 0 613 [] [.int s0] h (jb_L_act_613 s0 h) := by
  unfold jb_L_act_613
  exact g_zreturn (pc := 613) dL_act_613 rfl rfl
set_option maxRecDepth 20000 in
theorem gjb_L_act_591 (γ : Gv)  (a14 : Int32) (h : Hst) : G γ RL cL_act 20 (some .boolean) [] vI 7 0 591 [(0, .ref (gad γ 0)), (3, .ref (gad γ 17)), (14, .int a14)] [] h (jb_L_act_591 a14 h) := by
  unfold jb_L_act_591
  refine g_aload_n (pc := 591) dL_act_591 rfl 1 rfl ?_
  refine g_iconst (pc := 592) (v := 3) dL_act_592 (by decide) ?_
  refine g_iconst (pc := 593) (v := (-1)) dL_act_593 (by decide) ?_
  refine g_iast (pc := 594) 17 (gat_17 _ _) (gset_17 _ _ _) dL_act_594 ?_
  refine g_nmh (fun h1 => ?_)
  refine g_aload_n (pc := 595) dL_act_595 rfl 1 rfl ?_
  refine g_iconst (pc := 596) (v := 4) dL_act_596 (by decide) ?_
  refine g_iconst (pc := 597) (v := 0) dL_act_597 (by decide) ?_
  refine g_iast (pc := 598) 17 (gat_17 _ _) (gset_17 _ _ _) dL_act_598 ?_
  refine g_nmh (fun h2 => ?_)
  refine g_aload_n (pc := 599) dL_act_599 rfl 0 rfl ?_
  refine g_cI (pc := 600) (st := []) (fun r hr => gRunV (As := []) 0 (ge_X6_clean γ h2) hr wv_RL_84 rfl (Nat.le_of_ble_eq_true rfl) (gat_0 _ _) rfl rfl (Nat.le_of_ble_eq_true rfl) (Nat.le_of_ble_eq_true rfl) dL_act_600) (fun x4 h3 => ?_)
  refine g_iload (pc := 603) dL_act_603 2 rfl ?_
  refine g_icmp_ne (pc := 605) (tgt := 612) dL_act_605 (by decide) ?_ ?_
  · refine g_iconst (pc := 612) (v := 0) dL_act_612 (by decide) ?_
    exact g_sub [] rfl (gjb_L_act_613 γ 0 h3)
  · refine g_iconst (pc := 608) (v := 1) dL_act_608 (by decide) ?_
    refine g_goto (pc := 609) (tgt := 613) dL_act_609 (by decide) ?_
    exact g_sub [] rfl (gjb_L_act_613 γ 1 h3)
set_option maxRecDepth 20000 in
theorem gjb_L_act_565 (γ : Gv)  (s0 : Int32) (h : Hst) : G γ RL cL_act 20 (some .boolean) [] vI 7 0 565 [] [.int s0] h (jb_L_act_565 s0 h) := by
  unfold jb_L_act_565
  exact g_zreturn (pc := 565) dL_act_565 rfl rfl
set_option maxRecDepth 20000 in
theorem gjb_L_act_541 (γ : Gv)  (a14 : Int32) (a15 : Int32) (s0 : Int32) (s1 : Int32) (h : Hst) : G γ RL cL_act 20 (some .boolean) [] vI 7 0 541 [(0, .ref (gad γ 0)), (3, .ref (gad γ 17)), (14, .int a14), (15, .int a15)] [.int s0, .int s1, .ref (gad γ 17)] h (jb_L_act_541 a14 a15 s0 s1 h) := by
  unfold jb_L_act_541
  refine g_iast (pc := 541) 17 (gat_17 _ _) (gset_17 _ _ _) dL_act_541 ?_
  refine g_nmh (fun h1 => ?_)
  refine g_aload_n (pc := 542) dL_act_542 rfl 0 rfl ?_
  refine g_iload (pc := 543) dL_act_543 2 rfl ?_
  refine g_aload_n (pc := 545) dL_act_545 rfl 1 rfl ?_
  refine g_bipush (pc := 546) (v := 8) dL_act_546 (by decide) ?_
  refine g_iload (pc := 548) dL_act_548 2 rfl ?_
  refine g_iadd (pc := 550) dL_act_550 ?_
  refine g_iald (pc := 551) 17 (gat_17 _ _) dL_act_551 ?_
  refine g_cI (pc := 552) (st := []) (fun r hr => gRunV (As := [.int a14, .int (h1.1 17 (8 + a14).toNatClampNeg)]) 0 (ge_X6_set γ a14 (h1.1 17 (8 + a14).toNatClampNeg) h1) hr wv_RL_81 rfl (Nat.le_of_ble_eq_true rfl) (gat_0 _ _) rfl rfl (Nat.le_of_ble_eq_true rfl) (Nat.le_of_ble_eq_true rfl) dL_act_552) (fun x3 h2 => ?_)
  refine g_iload (pc := 555) dL_act_555 3 rfl ?_
  refine g_icmp_ne (pc := 557) (tgt := 564) dL_act_557 (by decide) ?_ ?_
  · refine g_iconst (pc := 564) (v := 0) dL_act_564 (by decide) ?_
    exact g_sub [] rfl (gjb_L_act_565 γ 0 h2)
  · refine g_iconst (pc := 560) (v := 1) dL_act_560 (by decide) ?_
    refine g_goto (pc := 561) (tgt := 565) dL_act_561 (by decide) ?_
    exact g_sub [] rfl (gjb_L_act_565 γ 1 h2)
set_option maxRecDepth 20000 in
theorem gjb_L_act_465 (γ : Gv)  (a2 : Int32) (a14 : Int32) (a15 : Int32) (s0 : Int32) (h : Hst) : G γ RL cL_act 20 (some .boolean) [] vI 7 0 465 [(0, .ref (gad γ 0)), (2, .int a2), (3, .ref (gad γ 17)), (14, .int a14), (15, .int a15)] [.int s0, .ref (gad γ 17)] h (jb_L_act_465 a2 a14 a15 s0 h) := by
  unfold jb_L_act_465
  refine g_iload_n (pc := 465) dL_act_465 rfl 1 rfl ?_
  refine g_iconst (pc := 466) (v := 3) dL_act_466 (by decide) ?_
  refine g_ishr (pc := 467) dL_act_467 ?_
  refine g_bipush (pc := 468) (v := 51) dL_act_468 (by decide) ?_
  refine g_cI (pc := 470) (st := [.int s0, .ref (gad γ 17)]) (fun r hr => gRunS (As := [.int (a2 >>> (3 &&& 31)), .int 51]) (ge_L_at γ (a2 >>> (3 &&& 31)) 51 h) hr wv_RL_14 rfl (Nat.le_of_ble_eq_true rfl) rfl (Nat.le_of_ble_eq_true rfl) (Nat.le_of_ble_eq_true rfl) dL_act_470) (fun x2 h1 => ?_)
  refine g_goto (pc := 473) (tgt := 541) dL_act_473 (by decide) ?_
  exact g_sub [0, 2, 3, 4] rfl (gjb_L_act_541 γ a14 a15 x2 s0 h1)
set_option maxRecDepth 20000 in
theorem gjb_L_act_423 (γ : Gv)  (s0 : Int32) (h : Hst) : G γ RL cL_act 20 (some .boolean) [] vI 7 0 423 [] [.int s0] h (jb_L_act_423 s0 h) := by
  unfold jb_L_act_423
  exact g_zreturn (pc := 423) dL_act_423 rfl rfl
set_option maxRecDepth 20000 in
theorem glp_L_act_334 (γ : Gv) (R313 : Int32 → Int32 → Int32 → Hst → Option (Int32 × Hst)) (R323 : Int32 → Int32 → Int32 → Int32 → Hst → Option (Int32 × Hst)) (hR313 : ∀ (a14 : Int32) (a15 : Int32) (a16 : Int32) (h : Hst), G γ RL cL_act 20 (some .boolean) [] vI 7 0 313 [(0, .ref (gad γ 0)), (3, .ref (gad γ 17)), (10, .ref (gad γ 24)), (14, .int a14), (15, .int a15), (16, .int a16)] [] h (R313 a14 a15 a16 h)) (hR323 : ∀ (a14 : Int32) (a15 : Int32) (a16 : Int32) (a17 : Int32) (h : Hst), G γ RL cL_act 20 (some .boolean) [] vI 7 0 323 [(0, .ref (gad γ 0)), (3, .ref (gad γ 17)), (10, .ref (gad γ 24)), (14, .int a14), (15, .int a15), (16, .int a16), (17, .int a17)] [] h (R323 a14 a15 a16 a17 h)) : ∀ (n : Nat) (a14 : Int32) (a15 : Int32) (a16 : Int32) (a17 : Int32) (a18 : Int32) (h : Hst), G γ RL cL_act 20 (some .boolean) [] vI 7 0 334 [(0, .ref (gad γ 0)), (3, .ref (gad γ 17)), (10, .ref (gad γ 24)), (14, .int a14), (15, .int a15), (16, .int a16), (17, .int a17), (18, .int a18)] [] h (lp_L_act_334 R313 R323 n a14 a15 a16 a17 a18 h) := by
  intro n
  induction n with
  | zero => intro a14 a15 a16 a17 a18 h; exact g_none
  | succ n ih =>
    intro a14 a15 a16 a17 a18 h
    rw [lp_L_act_334]
    refine g_iload (pc := 334) dL_act_334 7 rfl ?_
    refine g_iconst (pc := 336) (v := 5) dL_act_336 (by decide) ?_
    refine g_icmp_ge (pc := 337) (tgt := 395) dL_act_337 (by decide) ?_ ?_
    · refine g_iinc (pc := 395) (q := 6) (v := a17 + 1) (lv' := [(17, .int (a17 + 1)), (0, .ref (gad γ 0)), (3, .ref (gad γ 17)), (10, .ref (gad γ 24)), (14, .int a14), (15, .int a15), (16, .int a16), (18, .int a18)]) dL_act_395 rfl rfl (by decide) rfl ?_
      refine g_goto (pc := 398) (tgt := 323) dL_act_398 (by decide) ?_
      exact g_sub [1, 2, 3, 4, 5, 6, 0] rfl (hR323 a14 a15 a16 (a17 + 1) h)
    · refine g_aload (pc := 340) dL_act_340 2 rfl ?_
      refine g_bipush (pc := 342) (v := 7) dL_act_342 (by decide) ?_
      refine g_iload (pc := 344) dL_act_344 6 rfl ?_
      refine g_imul (pc := 346) dL_act_346 ?_
      refine g_iconst (pc := 347) (v := 2) dL_act_347 (by decide) ?_
      refine g_iadd (pc := 348) dL_act_348 ?_
      refine g_iload (pc := 349) dL_act_349 7 rfl ?_
      refine g_iadd (pc := 351) dL_act_351 ?_
      refine g_iald (pc := 352) 24 (gat_24 _ _) dL_act_352 ?_
      refine g_aload_n (pc := 353) dL_act_353 rfl 1 rfl ?_
      refine g_bipush (pc := 354) (v := 11) dL_act_354 (by decide) ?_
      refine g_iald (pc := 356) 17 (gat_17 _ _) dL_act_356 ?_
      refine g_imul (pc := 357) dL_act_357 ?_
      refine g_sipush (pc := 358) (v := 1000) dL_act_358 (by decide) ?_
      refine g_idiv (pc := 361) dL_act_361 ?_
      refine g_nmi (fun x1 => ?_)
      refine g_istore (pc := 362) (lv' := [(19, .int x1), (0, .ref (gad γ 0)), (3, .ref (gad γ 17)), (10, .ref (gad γ 24)), (14, .int a14), (15, .int a15), (16, .int a16), (17, .int a17), (18, .int a18)]) dL_act_362 (by decide) rfl ?_
      refine g_aload (pc := 364) dL_act_364 3 rfl ?_
      refine g_bipush (pc := 366) (v := 7) dL_act_366 (by decide) ?_
      refine g_iload (pc := 368) dL_act_368 7 rfl ?_
      refine g_imul (pc := 370) dL_act_370 ?_
      refine g_iconst (pc := 371) (v := 2) dL_act_371 (by decide) ?_
      refine g_iadd (pc := 372) dL_act_372 ?_
      refine g_iload (pc := 373) dL_act_373 8 rfl ?_
      refine g_iadd (pc := 375) dL_act_375 ?_
      refine g_nmi (fun x2 => ?_)
      refine g_dup2 (pc := 376) dL_act_376 rfl rfl ?_
      refine g_iald (pc := 377) 24 (gat_24 _ _) dL_act_377 ?_
      refine g_iload (pc := 378) dL_act_378 0 rfl ?_
      refine g_isub (pc := 380) dL_act_380 ?_
      refine g_iast (pc := 381) 24 (gat_24 _ _) (gset_24 _ _ _) dL_act_381 ?_
      refine g_nmh (fun h3 => ?_)
      refine g_iload (pc := 382) dL_act_382 5 rfl ?_
      refine g_iload (pc := 384) dL_act_384 0 rfl ?_
      refine g_iadd (pc := 386) dL_act_386 ?_
      refine g_nmi (fun x4 => ?_)
      refine g_istore (pc := 387) (lv' := [(15, .int x4), (19, .int x1), (0, .ref (gad γ 0)), (3, .ref (gad γ 17)), (10, .ref (gad γ 24)), (14, .int a14), (16, .int a16), (17, .int a17), (18, .int a18)]) dL_act_387 (by decide) rfl ?_
      refine g_iinc (pc := 389) (q := 8) (v := a18 + 1) (lv' := [(18, .int (a18 + 1)), (15, .int x4), (19, .int x1), (0, .ref (gad γ 0)), (3, .ref (gad γ 17)), (10, .ref (gad γ 24)), (14, .int a14), (16, .int a16), (17, .int a17)]) dL_act_389 rfl rfl (by decide) rfl ?_
      refine g_goto (pc := 392) (tgt := 334) dL_act_392 (by decide) ?_
      exact g_sub [3, 4, 5, 6, 1, 7, 8, 0] rfl (ih a14 x4 a16 a17 (a18 + 1) h3)
set_option maxRecDepth 20000 in
theorem glp_L_act_323 (γ : Gv) (R313 : Int32 → Int32 → Int32 → Hst → Option (Int32 × Hst)) (hR313 : ∀ (a14 : Int32) (a15 : Int32) (a16 : Int32) (h : Hst), G γ RL cL_act 20 (some .boolean) [] vI 7 0 313 [(0, .ref (gad γ 0)), (3, .ref (gad γ 17)), (10, .ref (gad γ 24)), (14, .int a14), (15, .int a15), (16, .int a16)] [] h (R313 a14 a15 a16 h)) : ∀ (n : Nat) (a14 : Int32) (a15 : Int32) (a16 : Int32) (a17 : Int32) (h : Hst), G γ RL cL_act 20 (some .boolean) [] vI 7 0 323 [(0, .ref (gad γ 0)), (3, .ref (gad γ 17)), (10, .ref (gad γ 24)), (14, .int a14), (15, .int a15), (16, .int a16), (17, .int a17)] [] h (lp_L_act_323 R313 n a14 a15 a16 a17 h) := by
  intro n
  induction n with
  | zero => intro a14 a15 a16 a17 h; exact g_none
  | succ n ih =>
    intro a14 a15 a16 a17 h
    rw [lp_L_act_323]
    refine g_iload (pc := 323) dL_act_323 6 rfl ?_
    refine g_aload_n (pc := 325) dL_act_325 rfl 1 rfl ?_
    refine g_iconst (pc := 326) (v := 2) dL_act_326 (by decide) ?_
    refine g_iald (pc := 327) 17 (gat_17 _ _) dL_act_327 ?_
    refine g_icmp_ge (pc := 328) (tgt := 401) dL_act_328 (by decide) ?_ ?_
    · refine g_iinc (pc := 401) (q := 5) (v := a16 + 1) (lv' := [(16, .int (a16 + 1)), (0, .ref (gad γ 0)), (3, .ref (gad γ 17)), (10, .ref (gad γ 24)), (14, .int a14), (15, .int a15), (17, .int a17)]) dL_act_401 rfl rfl (by decide) rfl ?_
      refine g_goto (pc := 404) (tgt := 313) dL_act_404 (by decide) ?_
      exact g_sub [1, 2, 3, 4, 5, 0] rfl (hR313 a14 a15 (a16 + 1) h)
    · refine g_iconst (pc := 331) (v := 0) dL_act_331 (by decide) ?_
      refine g_istore (pc := 332) (lv' := [(18, .int 0), (0, .ref (gad γ 0)), (3, .ref (gad γ 17)), (10, .ref (gad γ 24)), (14, .int a14), (15, .int a15), (16, .int a16), (17, .int a17)]) dL_act_332 (by decide) rfl ?_
      exact g_sub [1, 2, 3, 4, 5, 6, 7, 0] rfl (glp_L_act_334 γ R313 (lp_L_act_323 R313 n) hR313 ih FU a14 a15 a16 a17 0 h)
set_option maxRecDepth 20000 in
theorem glp_L_act_313 (γ : Gv)  : ∀ (n : Nat) (a14 : Int32) (a15 : Int32) (a16 : Int32) (h : Hst), G γ RL cL_act 20 (some .boolean) [] vI 7 0 313 [(0, .ref (gad γ 0)), (3, .ref (gad γ 17)), (10, .ref (gad γ 24)), (14, .int a14), (15, .int a15), (16, .int a16)] [] h (lp_L_act_313 n a14 a15 a16 h) := by
  intro n
  induction n with
  | zero => intro a14 a15 a16 h; exact g_none
  | succ n ih =>
    intro a14 a15 a16 h
    rw [lp_L_act_313]
    refine g_iload (pc := 313) dL_act_313 5 rfl ?_
    refine g_iload (pc := 315) dL_act_315 3 rfl ?_
    refine g_icmp_ge (pc := 317) (tgt := 407) dL_act_317 (by decide) ?_ ?_
    · refine g_aload_n (pc := 407) dL_act_407 rfl 0 rfl ?_
      refine g_iload (pc := 408) dL_act_408 3 rfl ?_
      refine g_cI (pc := 410) (st := []) (fun r hr => gRunV (As := [.int a14]) 0 (ge_X6_pass γ a14 h) hr wv_RL_78 rfl (Nat.le_of_ble_eq_true rfl) (gat_0 _ _) rfl rfl (Nat.le_of_ble_eq_true rfl) (Nat.le_of_ble_eq_true rfl) dL_act_410) (fun x2 h1 => ?_)
      refine g_iload (pc := 413) dL_act_413 4 rfl ?_
      refine g_icmp_ne (pc := 415) (tgt := 422) dL_act_415 (by decide) ?_ ?_
      · refine g_iconst (pc := 422) (v := 0) dL_act_422 (by decide) ?_
        exact g_sub [] rfl (gjb_L_act_423 γ 0 h1)
      · refine g_iconst (pc := 418) (v := 1) dL_act_418 (by decide) ?_
        refine g_goto (pc := 419) (tgt := 423) dL_act_419 (by decide) ?_
        exact g_sub [] rfl (gjb_L_act_423 γ 1 h1)
    · refine g_iconst (pc := 320) (v := 0) dL_act_320 (by decide) ?_
      refine g_istore (pc := 321) (lv' := [(17, .int 0), (0, .ref (gad γ 0)), (3, .ref (gad γ 17)), (10, .ref (gad γ 24)), (14, .int a14), (15, .int a15), (16, .int a16)]) dL_act_321 (by decide) rfl ?_
      exact g_sub [1, 2, 3, 4, 5, 6, 0] rfl (glp_L_act_323 γ (lp_L_act_313 n) ih FU a14 a15 a16 0 h)
set_option maxRecDepth 20000 in
theorem gjb_L_act_203 (γ : Gv)  (a1 : Int32) (a2 : Int32) (a13 : Int32) (h : Hst) : G γ RL cL_act 20 (some .boolean) [] vI 7 0 203 [(0, .ref (gad γ 0)), (1, .int a1), (2, .int a2), (3, .ref (gad γ 17)), (4, .ref (gad γ 18)), (5, .ref (gad γ 19)), (6, .ref (gad γ 20)), (7, .ref (gad γ 21)), (8, .ref (gad γ 22)), (9, .ref (gad γ 23)), (10, .ref (gad γ 24)), (11, .ref (gad γ 25)), (12, .ref (gad γ 26)), (13, .int a13)] [] h (jb_L_act_203 a1 a2 a13 h) := by
  unfold jb_L_act_203
  refine g_iload (pc := 203) dL_act_203 13 rfl ?_
  refine g_bipush (pc := 205) (v := 8) dL_act_205 (by decide) ?_
  refine g_icmp_ge (pc := 207) (tgt := 232) dL_act_207 (by decide) ?_ ?_
  · refine g_iload (pc := 232) dL_act_232 13 rfl ?_
    refine g_bipush (pc := 234) (v := 8) dL_act_234 (by decide) ?_
    refine g_icmp_ne (pc := 236) (tgt := 260) dL_act_236 (by decide) ?_ ?_
    · refine g_iload (pc := 260) dL_act_260 13 rfl ?_
      refine g_bipush (pc := 262) (v := 11) dL_act_262 (by decide) ?_
      refine g_icmp_ge (pc := 264) (tgt := 281) dL_act_264 (by decide) ?_ ?_
      · refine g_iload (pc := 281) dL_act_281 13 rfl ?_
        refine g_bipush (pc := 283) (v := 11) dL_act_283 (by decide) ?_
        refine g_icmp_ne (pc := 285) (tgt := 424) dL_act_285 (by decide) ?_ ?_
        · refine g_iload (pc := 424) dL_act_424 13 rfl ?_
          refine g_bipush (pc := 426) (v := 12) dL_act_426 (by decide) ?_
          refine g_icmp_ne (pc := 428) (tgt := 566) dL_act_428 (by decide) ?_ ?_
          · refine g_iload_n (pc := 566) dL_act_566 rfl 2 rfl ?_
            refine g_iconst (pc := 567) (v := 2) dL_act_567 (by decide) ?_
            refine g_cI (pc := 568) (st := []) (fun r hr => gRunS (As := [.int a2, .int 2]) (ge_L_at γ a2 2 h) hr wv_RL_14 rfl (Nat.le_of_ble_eq_true rfl) rfl (Nat.le_of_ble_eq_true rfl) (Nat.le_of_ble_eq_true rfl) dL_act_568) (fun x2 h1 => ?_)
            refine g_if_ne (pc := 571) (tgt := 614) dL_act_571 (by decide) ?_ ?_
            · refine g_iload_n (pc := 614) dL_act_614 rfl 2 rfl ?_
              refine g_iconst (pc := 615) (v := 2) dL_act_615 (by decide) ?_
              refine g_ishr (pc := 616) dL_act_616 ?_
              refine g_iconst (pc := 617) (v := 5) dL_act_617 (by decide) ?_
              refine g_cI (pc := 618) (st := []) (fun r hr => gRunS (As := [.int (a2 >>> (2 &&& 31)), .int 5]) (ge_L_at γ (a2 >>> (2 &&& 31)) 5 h1) hr wv_RL_14 rfl (Nat.le_of_ble_eq_true rfl) rfl (Nat.le_of_ble_eq_true rfl) (Nat.le_of_ble_eq_true rfl) dL_act_618) (fun x4 h3 => ?_)
              refine g_istore (pc := 621) (lv' := [(14, .int x4), (0, .ref (gad γ 0)), (1, .int a1), (2, .int a2), (3, .ref (gad γ 17)), (4, .ref (gad γ 18)), (5, .ref (gad γ 19)), (6, .ref (gad γ 20)), (7, .ref (gad γ 21)), (8, .ref (gad γ 22)), (9, .ref (gad γ 23)), (10, .ref (gad γ 24)), (11, .ref (gad γ 25)), (12, .ref (gad γ 26)), (13, .int a13)]) dL_act_621 (by decide) rfl ?_
              refine g_aload (pc := 623) dL_act_623 5 rfl ?_
              refine g_iload (pc := 625) dL_act_625 0 rfl ?_
              refine g_iald (pc := 627) 18 (gat_18 _ _) dL_act_627 ?_
              refine g_nmi (fun x5 => ?_)
              refine g_istore (pc := 628) (lv' := [(15, .int x5), (14, .int x4), (0, .ref (gad γ 0)), (1, .int a1), (2, .int a2), (3, .ref (gad γ 17)), (4, .ref (gad γ 18)), (5, .ref (gad γ 19)), (6, .ref (gad γ 20)), (7, .ref (gad γ 21)), (8, .ref (gad γ 22)), (9, .ref (gad γ 23)), (10, .ref (gad γ 24)), (11, .ref (gad γ 25)), (12, .ref (gad γ 26)), (13, .int a13)]) dL_act_628 (by decide) rfl ?_
              refine g_aload (pc := 630) dL_act_630 6 rfl ?_
              refine g_iload (pc := 632) dL_act_632 1 rfl ?_
              refine g_bipush (pc := 634) (v := 50) dL_act_634 (by decide) ?_
              refine g_iload_n (pc := 636) dL_act_636 rfl 4 rfl ?_
              refine g_iconst (pc := 637) (v := 5) dL_act_637 (by decide) ?_
              refine g_ishr (pc := 638) dL_act_638 ?_
              refine g_sipush (pc := 639) (v := 351) dL_act_639 (by decide) ?_
              refine g_cI (pc := 642) (st := [.int 50, .int x4, .ref (gad γ 18)]) (fun r hr => gRunS (As := [.int (a2 >>> (5 &&& 31)), .int 351]) (ge_L_at γ (a2 >>> (5 &&& 31)) 351 h3) hr wv_RL_14 rfl (Nat.le_of_ble_eq_true rfl) rfl (Nat.le_of_ble_eq_true rfl) (Nat.le_of_ble_eq_true rfl) dL_act_642) (fun x7 h6 => ?_)
              refine g_iadd (pc := 645) dL_act_645 ?_
              refine g_iast (pc := 646) 18 (gat_18 _ _) (gset_18 _ _ _) dL_act_646 ?_
              refine g_nmh (fun h8 => ?_)
              refine g_aload_n (pc := 647) dL_act_647 rfl 2 rfl ?_
              refine g_iload (pc := 648) dL_act_648 1 rfl ?_
              refine g_aload (pc := 650) dL_act_650 6 rfl ?_
              refine g_iload (pc := 652) dL_act_652 1 rfl ?_
              refine g_iald (pc := 654) 18 (gat_18 _ _) dL_act_654 ?_
              refine g_cI (pc := 655) (st := []) (fun r hr => gRunV (As := [.int x4, .int (h8.1 18 x4.toNatClampNeg)]) 0 (ge_X6_setYield γ x4 (h8.1 18 x4.toNatClampNeg) h8) hr wv_RL_88 rfl (Nat.le_of_ble_eq_true rfl) (gat_0 _ _) rfl rfl (Nat.le_of_ble_eq_true rfl) (Nat.le_of_ble_eq_true rfl) dL_act_655) (fun x10 h9 => ?_)
              refine g_iload (pc := 658) dL_act_658 0 rfl ?_
              refine g_icmp_ne (pc := 660) (tgt := 667) dL_act_660 (by decide) ?_ ?_
              · refine g_iconst (pc := 667) (v := 0) dL_act_667 (by decide) ?_
                exact g_sub [] rfl (gjb_L_act_668 γ 0 h9)
              · refine g_iconst (pc := 663) (v := 1) dL_act_663 (by decide) ?_
                refine g_goto (pc := 664) (tgt := 668) dL_act_664 (by decide) ?_
                exact g_sub [] rfl (gjb_L_act_668 γ 1 h9)
            · refine g_aload_n (pc := 574) dL_act_574 rfl 3 rfl ?_
              refine g_iconst (pc := 575) (v := 4) dL_act_575 (by decide) ?_
              refine g_iald (pc := 576) 17 (gat_17 _ _) dL_act_576 ?_
              refine g_nmi (fun x11 => ?_)
              refine g_istore (pc := 577) (lv' := [(14, .int x11), (0, .ref (gad γ 0)), (1, .int a1), (2, .int a2), (3, .ref (gad γ 17)), (4, .ref (gad γ 18)), (5, .ref (gad γ 19)), (6, .ref (gad γ 20)), (7, .ref (gad γ 21)), (8, .ref (gad γ 22)), (9, .ref (gad γ 23)), (10, .ref (gad γ 24)), (11, .ref (gad γ 25)), (12, .ref (gad γ 26)), (13, .int a13)]) dL_act_577 (by decide) rfl ?_
              refine g_iload (pc := 579) dL_act_579 0 rfl ?_
              refine g_if_le (pc := 581) (tgt := 591) dL_act_581 (by decide) ?_ ?_
              · exact g_sub [1, 4, 0] rfl (gjb_L_act_591 γ x11 h1)
              · refine g_aload_n (pc := 584) dL_act_584 rfl 4 rfl ?_
                refine g_iconst (pc := 585) (v := 5) dL_act_585 (by decide) ?_
                refine g_dup2 (pc := 586) dL_act_586 rfl rfl ?_
                refine g_iald (pc := 587) 17 (gat_17 _ _) dL_act_587 ?_
                refine g_iconst (pc := 588) (v := 1) dL_act_588 (by decide) ?_
                refine g_iadd (pc := 589) dL_act_589 ?_
                refine g_iast (pc := 590) 17 (gat_17 _ _) (gset_17 _ _ _) dL_act_590 ?_
                refine g_nmh (fun h12 => ?_)
                exact g_sub [1, 4, 0] rfl (gjb_L_act_591 γ x11 h12)
          · refine g_iload_n (pc := 431) dL_act_431 rfl 2 rfl ?_
            refine g_bipush (pc := 432) (v := 7) dL_act_432 (by decide) ?_
            refine g_cI (pc := 434) (st := []) (fun r hr => gRunS (As := [.int a2, .int 7]) (ge_L_at γ a2 7 h) hr wv_RL_14 rfl (Nat.le_of_ble_eq_true rfl) rfl (Nat.le_of_ble_eq_true rfl) (Nat.le_of_ble_eq_true rfl) dL_act_434) (fun x14 h13 => ?_)
            refine g_istore (pc := 437) (lv' := [(14, .int x14), (0, .ref (gad γ 0)), (1, .int a1), (2, .int a2), (3, .ref (gad γ 17)), (4, .ref (gad γ 18)), (5, .ref (gad γ 19)), (6, .ref (gad γ 20)), (7, .ref (gad γ 21)), (8, .ref (gad γ 22)), (9, .ref (gad γ 23)), (10, .ref (gad γ 24)), (11, .ref (gad γ 25)), (12, .ref (gad γ 26)), (13, .int a13)]) dL_act_437 (by decide) rfl ?_
            refine g_aload_n (pc := 439) dL_act_439 rfl 4 rfl ?_
            refine g_bipush (pc := 440) (v := 8) dL_act_440 (by decide) ?_
            refine g_iload (pc := 442) dL_act_442 0 rfl ?_
            refine g_iadd (pc := 444) dL_act_444 ?_
            refine g_iald (pc := 445) 17 (gat_17 _ _) dL_act_445 ?_
            refine g_nmi (fun x15 => ?_)
            refine g_istore (pc := 446) (lv' := [(15, .int x15), (14, .int x14), (0, .ref (gad γ 0)), (1, .int a1), (2, .int a2), (3, .ref (gad γ 17)), (4, .ref (gad γ 18)), (5, .ref (gad γ 19)), (6, .ref (gad γ 20)), (7, .ref (gad γ 21)), (8, .ref (gad γ 22)), (9, .ref (gad γ 23)), (10, .ref (gad γ 24)), (11, .ref (gad γ 25)), (12, .ref (gad γ 26)), (13, .int a13)]) dL_act_446 (by decide) rfl ?_
            refine g_aload_n (pc := 448) dL_act_448 rfl 5 rfl ?_
            refine g_bipush (pc := 449) (v := 8) dL_act_449 (by decide) ?_
            refine g_iload (pc := 451) dL_act_451 1 rfl ?_
            refine g_iadd (pc := 453) dL_act_453 ?_
            refine g_iload (pc := 454) dL_act_454 1 rfl ?_
            refine g_if_eq (pc := 456) (tgt := 465) dL_act_456 (by decide) ?_ ?_
            · exact g_sub [2, 4, 5, 1, 0] rfl (gjb_L_act_465 γ a2 x14 x15 (8 + x14) h13)
            · refine g_iload (pc := 459) dL_act_459 1 rfl ?_
              refine g_iconst (pc := 461) (v := 3) dL_act_461 (by decide) ?_
              refine g_icmp_ne (pc := 462) (tgt := 476) dL_act_462 (by decide) ?_ ?_
              · refine g_iload (pc := 476) dL_act_476 1 rfl ?_
                refine g_iconst (pc := 478) (v := 1) dL_act_478 (by decide) ?_
                refine g_icmp_ne (pc := 479) (tgt := 498) dL_act_479 (by decide) ?_ ?_
                · refine g_iload (pc := 498) dL_act_498 1 rfl ?_
                  refine g_iconst (pc := 500) (v := 2) dL_act_500 (by decide) ?_
                  refine g_icmp_ne (pc := 501) (tgt := 516) dL_act_501 (by decide) ?_ ?_
                  · refine g_iload (pc := 516) dL_act_516 1 rfl ?_
                    refine g_iconst (pc := 518) (v := 5) dL_act_518 (by decide) ?_
                    refine g_icmp_ne (pc := 519) (tgt := 532) dL_act_519 (by decide) ?_ ?_
                    · refine g_iload_n (pc := 532) dL_act_532 rfl 4 rfl ?_
                      refine g_iconst (pc := 533) (v := 3) dL_act_533 (by decide) ?_
                      refine g_ishr (pc := 534) dL_act_534 ?_
                      refine g_sipush (pc := 535) (v := 501) dL_act_535 (by decide) ?_
                      refine g_cI (pc := 538) (st := [.int (8 + x14), .ref (gad γ 17)]) (fun r hr => gRunS (As := [.int (a2 >>> (3 &&& 31)), .int 501]) (ge_L_at γ (a2 >>> (3 &&& 31)) 501 h13) hr wv_RL_14 rfl (Nat.le_of_ble_eq_true rfl) rfl (Nat.le_of_ble_eq_true rfl) (Nat.le_of_ble_eq_true rfl) dL_act_538) (fun x17 h16 => ?_)
                      exact g_sub [2, 5, 1, 0] rfl (gjb_L_act_541 γ x14 x15 x17 (8 + x14) h16)
                    · refine g_iload_n (pc := 522) dL_act_522 rfl 4 rfl ?_
                      refine g_iconst (pc := 523) (v := 3) dL_act_523 (by decide) ?_
                      refine g_ishr (pc := 524) dL_act_524 ?_
                      refine g_iconst (pc := 525) (v := 3) dL_act_525 (by decide) ?_
                      refine g_cI (pc := 526) (st := [.int (8 + x14), .ref (gad γ 17)]) (fun r hr => gRunS (As := [.int (a2 >>> (3 &&& 31)), .int 3]) (ge_L_at γ (a2 >>> (3 &&& 31)) 3 h13) hr wv_RL_14 rfl (Nat.le_of_ble_eq_true rfl) rfl (Nat.le_of_ble_eq_true rfl) (Nat.le_of_ble_eq_true rfl) dL_act_526) (fun x19 h18 => ?_)
                      refine g_goto (pc := 529) (tgt := 541) dL_act_529 (by decide) ?_
                      exact g_sub [2, 5, 1, 0] rfl (gjb_L_act_541 γ x14 x15 x19 (8 + x14) h18)
                  · refine g_iload_n (pc := 504) dL_act_504 rfl 4 rfl ?_
                    refine g_iconst (pc := 505) (v := 3) dL_act_505 (by decide) ?_
                    refine g_ishr (pc := 506) dL_act_506 ?_
                    refine g_sipush (pc := 507) (v := 1001) dL_act_507 (by decide) ?_
                    refine g_cI (pc := 510) (st := [.int (8 + x14), .ref (gad γ 17)]) (fun r hr => gRunS (As := [.int (a2 >>> (3 &&& 31)), .int 1001]) (ge_L_at γ (a2 >>> (3 &&& 31)) 1001 h13) hr wv_RL_14 rfl (Nat.le_of_ble_eq_true rfl) rfl (Nat.le_of_ble_eq_true rfl) (Nat.le_of_ble_eq_true rfl) dL_act_510) (fun x21 h20 => ?_)
                    refine g_goto (pc := 513) (tgt := 541) dL_act_513 (by decide) ?_
                    exact g_sub [2, 5, 1, 0] rfl (gjb_L_act_541 γ x14 x15 x21 (8 + x14) h20)
                · refine g_sipush (pc := 482) (v := 500) dL_act_482 (by decide) ?_
                  refine g_iload_n (pc := 485) dL_act_485 rfl 4 rfl ?_
                  refine g_iconst (pc := 486) (v := 3) dL_act_486 (by decide) ?_
                  refine g_ishr (pc := 487) dL_act_487 ?_
                  refine g_sipush (pc := 488) (v := 501) dL_act_488 (by decide) ?_
                  refine g_cI (pc := 491) (st := [.int 500, .int (8 + x14), .ref (gad γ 17)]) (fun r hr => gRunS (As := [.int (a2 >>> (3 &&& 31)), .int 501]) (ge_L_at γ (a2 >>> (3 &&& 31)) 501 h13) hr wv_RL_14 rfl (Nat.le_of_ble_eq_true rfl) rfl (Nat.le_of_ble_eq_true rfl) (Nat.le_of_ble_eq_true rfl) dL_act_491) (fun x23 h22 => ?_)
                  refine g_iadd (pc := 494) dL_act_494 ?_
                  refine g_goto (pc := 495) (tgt := 541) dL_act_495 (by decide) ?_
                  exact g_sub [2, 5, 1, 0] rfl (gjb_L_act_541 γ x14 x15 (500 + x23) (8 + x14) h22)
              · exact g_sub [2, 4, 5, 1, 0] rfl (gjb_L_act_465 γ a2 x14 x15 (8 + x14) h13)
        · refine g_iconst (pc := 288) (v := 1) dL_act_288 (by decide) ?_
          refine g_iload_n (pc := 289) dL_act_289 rfl 2 rfl ?_
          refine g_bipush (pc := 290) (v := 9) dL_act_290 (by decide) ?_
          refine g_cI (pc := 292) (st := [.int 1]) (fun r hr => gRunS (As := [.int a2, .int 9]) (ge_L_at γ a2 9 h) hr wv_RL_14 rfl (Nat.le_of_ble_eq_true rfl) rfl (Nat.le_of_ble_eq_true rfl) (Nat.le_of_ble_eq_true rfl) dL_act_292) (fun x25 h24 => ?_)
          refine g_iadd (pc := 295) dL_act_295 ?_
          refine g_nmi (fun x26 => ?_)
          refine g_istore (pc := 296) (lv' := [(14, .int x26), (0, .ref (gad γ 0)), (1, .int a1), (2, .int a2), (3, .ref (gad γ 17)), (4, .ref (gad γ 18)), (5, .ref (gad γ 19)), (6, .ref (gad γ 20)), (7, .ref (gad γ 21)), (8, .ref (gad γ 22)), (9, .ref (gad γ 23)), (10, .ref (gad γ 24)), (11, .ref (gad γ 25)), (12, .ref (gad γ 26)), (13, .int a13)]) dL_act_296 (by decide) rfl ?_
          refine g_iconst (pc := 298) (v := 0) dL_act_298 (by decide) ?_
          refine g_istore (pc := 299) (lv' := [(15, .int 0), (14, .int x26), (0, .ref (gad γ 0)), (1, .int a1), (2, .int a2), (3, .ref (gad γ 17)), (4, .ref (gad γ 18)), (5, .ref (gad γ 19)), (6, .ref (gad γ 20)), (7, .ref (gad γ 21)), (8, .ref (gad γ 22)), (9, .ref (gad γ 23)), (10, .ref (gad γ 24)), (11, .ref (gad γ 25)), (12, .ref (gad γ 26)), (13, .int a13)]) dL_act_299 (by decide) rfl ?_
          refine g_aload_n (pc := 301) dL_act_301 rfl 5 rfl ?_
          refine g_bipush (pc := 302) (v := 6) dL_act_302 (by decide) ?_
          refine g_dup2 (pc := 304) dL_act_304 rfl rfl ?_
          refine g_iald (pc := 305) 17 (gat_17 _ _) dL_act_305 ?_
          refine g_iload (pc := 306) dL_act_306 1 rfl ?_
          refine g_iadd (pc := 308) dL_act_308 ?_
          refine g_iast (pc := 309) 17 (gat_17 _ _) (gset_17 _ _ _) dL_act_309 ?_
          refine g_nmh (fun h27 => ?_)
          refine g_iconst (pc := 310) (v := 0) dL_act_310 (by decide) ?_
          refine g_istore (pc := 311) (lv' := [(16, .int 0), (15, .int 0), (14, .int x26), (0, .ref (gad γ 0)), (1, .int a1), (2, .int a2), (3, .ref (gad γ 17)), (4, .ref (gad γ 18)), (5, .ref (gad γ 19)), (6, .ref (gad γ 20)), (7, .ref (gad γ 21)), (8, .ref (gad γ 22)), (9, .ref (gad γ 23)), (10, .ref (gad γ 24)), (11, .ref (gad γ 25)), (12, .ref (gad γ 26)), (13, .int a13)]) dL_act_311 (by decide) rfl ?_
          exact g_sub [3, 6, 13, 2, 1, 0] rfl (glp_L_act_313 γ FU x26 0 0 h27)
      · refine g_aload_n (pc := 267) dL_act_267 rfl 0 rfl ?_
        refine g_iload_n (pc := 268) dL_act_268 rfl 1 rfl ?_
        refine g_iload_n (pc := 269) dL_act_269 rfl 2 rfl ?_
        refine g_aload_n (pc := 270) dL_act_270 rfl 3 rfl ?_
        refine g_aload (pc := 271) dL_act_271 10 rfl ?_
        refine g_aload (pc := 273) dL_act_273 11 rfl ?_
        refine g_aload (pc := 275) dL_act_275 12 rfl ?_
        refine g_cI (pc := 277) (st := []) (fun r hr => gRunS (As := [.ref (gad γ 0), .int a1, .int a2, .ref (gad γ 17), .ref (gad γ 24), .ref (gad γ 25), .ref (gad γ 26)]) (ge_L_takes γ a1 a2 h) hr wv_RL_74 rfl (Nat.le_of_ble_eq_true rfl) rfl (Nat.le_of_ble_eq_true rfl) (Nat.le_of_ble_eq_true rfl) dL_act_277) (fun x29 h28 => ?_)
        exact g_zreturn (pc := 280) dL_act_280 rfl rfl
    · refine g_aload_n (pc := 239) dL_act_239 rfl 0 rfl ?_
      refine g_iload_n (pc := 240) dL_act_240 rfl 2 rfl ?_
      refine g_aload_n (pc := 241) dL_act_241 rfl 3 rfl ?_
      refine g_aload (pc := 242) dL_act_242 5 rfl ?_
      refine g_aload (pc := 244) dL_act_244 6 rfl ?_
      refine g_aload (pc := 246) dL_act_246 7 rfl ?_
      refine g_aload (pc := 248) dL_act_248 8 rfl ?_
      refine g_aload (pc := 250) dL_act_250 9 rfl ?_
      refine g_aload (pc := 252) dL_act_252 10 rfl ?_
      refine g_aload (pc := 254) dL_act_254 11 rfl ?_
      refine g_cI (pc := 256) (st := []) (fun r hr => gRunS (As := [.ref (gad γ 0), .int a2, .ref (gad γ 17), .ref (gad γ 19), .ref (gad γ 20), .ref (gad γ 21), .ref (gad γ 22), .ref (gad γ 23), .ref (gad γ 24), .ref (gad γ 25)]) (ge_L_appeals γ a2 h) hr wv_RL_70 rfl (Nat.le_of_ble_eq_true rfl) rfl (Nat.le_of_ble_eq_true rfl) (Nat.le_of_ble_eq_true rfl) dL_act_256) (fun x31 h30 => ?_)
      exact g_zreturn (pc := 259) dL_act_259 rfl rfl
  · refine g_aload_n (pc := 210) dL_act_210 rfl 0 rfl ?_
    refine g_iload_n (pc := 211) dL_act_211 rfl 1 rfl ?_
    refine g_iload_n (pc := 212) dL_act_212 rfl 2 rfl ?_
    refine g_aload_n (pc := 213) dL_act_213 rfl 3 rfl ?_
    refine g_aload (pc := 214) dL_act_214 4 rfl ?_
    refine g_aload (pc := 216) dL_act_216 5 rfl ?_
    refine g_aload (pc := 218) dL_act_218 6 rfl ?_
    refine g_aload (pc := 220) dL_act_220 7 rfl ?_
    refine g_aload (pc := 222) dL_act_222 9 rfl ?_
    refine g_aload (pc := 224) dL_act_224 10 rfl ?_
    refine g_aload (pc := 226) dL_act_226 11 rfl ?_
    refine g_cI (pc := 228) (st := []) (fun r hr => gRunS (As := [.ref (gad γ 0), .int a1, .int a2, .ref (gad γ 17), .ref (gad γ 18), .ref (gad γ 19), .ref (gad γ 20), .ref (gad γ 21), .ref (gad γ 23), .ref (gad γ 24), .ref (gad γ 25)]) (ge_L_presses γ a1 a2 h) hr wv_RL_66 rfl (Nat.le_of_ble_eq_true rfl) rfl (Nat.le_of_ble_eq_true rfl) (Nat.le_of_ble_eq_true rfl) dL_act_228) (fun x33 h32 => ?_)
    exact g_zreturn (pc := 231) dL_act_231 rfl rfl
set_option maxRecDepth 20000 in
theorem gjb_L_act_202 (γ : Gv)  (s0 : Int32) (h : Hst) : G γ RL cL_act 20 (some .boolean) [] vI 7 0 202 [] [.int s0] h (jb_L_act_202 s0 h) := by
  unfold jb_L_act_202
  exact g_zreturn (pc := 202) dL_act_202 rfl rfl
set_option maxRecDepth 20000 in
theorem ge_L_act (γ : Gv) (p1 : Int32) (p2 : Int32) (h : Hst) : G γ RL cL_act 20 (some .boolean) [] vI 7 0 0 (lv_args 0 [.ref (gad γ 0), .int p1, .int p2, .ref (gad γ 17), .ref (gad γ 18), .ref (gad γ 19), .ref (gad γ 20), .ref (gad γ 21), .ref (gad γ 22), .ref (gad γ 23), .ref (gad γ 24), .ref (gad γ 25), .ref (gad γ 26)]) [] h (f_L_act p1 p2 h) := by
  show G γ RL cL_act 20 (some .boolean) [] vI 7 0 0 [(0, .ref (gad γ 0)), (1, .int p1), (2, .int p2), (3, .ref (gad γ 17)), (4, .ref (gad γ 18)), (5, .ref (gad γ 19)), (6, .ref (gad γ 20)), (7, .ref (gad γ 21)), (8, .ref (gad γ 22)), (9, .ref (gad γ 23)), (10, .ref (gad γ 24)), (11, .ref (gad γ 25)), (12, .ref (gad γ 26))] [] h (f_L_act p1 p2 h)
  unfold f_L_act
  refine g_iload_n (pc := 0) dL_act_0 rfl 1 rfl ?_
  refine g_bipush (pc := 1) (v := 20) dL_act_1 (by decide) ?_
  refine g_ishr (pc := 3) dL_act_3 ?_
  refine g_bipush (pc := 4) (v := 14) dL_act_4 (by decide) ?_
  refine g_cI (pc := 6) (st := []) (fun r hr => gRunS (As := [.int (p1 >>> (20 &&& 31)), .int 14]) (ge_L_at γ (p1 >>> (20 &&& 31)) 14 h) hr wv_RL_14 rfl (Nat.le_of_ble_eq_true rfl) rfl (Nat.le_of_ble_eq_true rfl) (Nat.le_of_ble_eq_true rfl) dL_act_6) (fun x2 h1 => ?_)
  refine g_istore (pc := 9) (lv' := [(13, .int x2), (0, .ref (gad γ 0)), (1, .int p1), (2, .int p2), (3, .ref (gad γ 17)), (4, .ref (gad γ 18)), (5, .ref (gad γ 19)), (6, .ref (gad γ 20)), (7, .ref (gad γ 21)), (8, .ref (gad γ 22)), (9, .ref (gad γ 23)), (10, .ref (gad γ 24)), (11, .ref (gad γ 25)), (12, .ref (gad γ 26))]) dL_act_9 (by decide) rfl ?_
  refine g_iload (pc := 11) dL_act_11 0 rfl ?_
  refine g_iconst (pc := 13) (v := 4) dL_act_13 (by decide) ?_
  refine g_icmp_ge (pc := 14) (tgt := 203) dL_act_14 (by decide) ?_ ?_
  · exact g_sub [1, 2, 3, 4, 5, 6, 7, 8, 9, 10, 11, 12, 13, 0] rfl (gjb_L_act_203 γ p1 p2 x2 h1)
  · refine g_aload_n (pc := 17) dL_act_17 rfl 4 rfl ?_
    refine g_iconst (pc := 18) (v := 1) dL_act_18 (by decide) ?_
    refine g_iald (pc := 19) 17 (gat_17 _ _) dL_act_19 ?_
    refine g_bipush (pc := 20) (v := 10) dL_act_20 (by decide) ?_
    refine g_icmp_ge (pc := 22) (tgt := 203) dL_act_22 (by decide) ?_ ?_
    · exact g_sub [1, 2, 3, 4, 5, 6, 7, 8, 9, 10, 11, 12, 13, 0] rfl (gjb_L_act_203 γ p1 p2 x2 h1)
    · refine g_aload_n (pc := 25) dL_act_25 rfl 4 rfl ?_
      refine g_iconst (pc := 26) (v := 1) dL_act_26 (by decide) ?_
      refine g_dup2 (pc := 27) dL_act_27 rfl rfl ?_
      refine g_iald (pc := 28) 17 (gat_17 _ _) dL_act_28 ?_
      refine g_nmi (fun x3 => ?_)
      refine g_dup_x2 (pc := 29) dL_act_29 rfl rfl rfl ?_
      refine g_iconst (pc := 30) (v := 1) dL_act_30 (by decide) ?_
      refine g_iadd (pc := 31) dL_act_31 ?_
      refine g_iast (pc := 32) 17 (gat_17 _ _) (gset_17 _ _ _) dL_act_32 ?_
      refine g_nmh (fun h4 => ?_)
      refine g_istore (pc := 33) (lv' := [(14, .int x3), (13, .int x2), (0, .ref (gad γ 0)), (1, .int p1), (2, .int p2), (3, .ref (gad γ 17)), (4, .ref (gad γ 18)), (5, .ref (gad γ 19)), (6, .ref (gad γ 20)), (7, .ref (gad γ 21)), (8, .ref (gad γ 22)), (9, .ref (gad γ 23)), (10, .ref (gad γ 24)), (11, .ref (gad γ 25)), (12, .ref (gad γ 26))]) dL_act_33 (by decide) rfl ?_
      refine g_aload (pc := 35) dL_act_35 7 rfl ?_
      refine g_bipush (pc := 37) (v := 6) dL_act_37 (by decide) ?_
      refine g_iload (pc := 39) dL_act_39 0 rfl ?_
      refine g_imul (pc := 41) dL_act_41 ?_
      refine g_iload_n (pc := 42) dL_act_42 rfl 4 rfl ?_
      refine g_aload_n (pc := 43) dL_act_43 rfl 5 rfl ?_
      refine g_iconst (pc := 44) (v := 0) dL_act_44 (by decide) ?_
      refine g_iald (pc := 45) 17 (gat_17 _ _) dL_act_45 ?_
      refine g_cI (pc := 46) (st := [.int (6 * x3), .ref (gad γ 19)]) (fun r hr => gRunS (As := [.int p2, .int (h4.1 17 (0 : Int32).toNatClampNeg)]) (ge_L_at γ p2 (h4.1 17 (0 : Int32).toNatClampNeg) h4) hr wv_RL_14 rfl (Nat.le_of_ble_eq_true rfl) rfl (Nat.le_of_ble_eq_true rfl) (Nat.le_of_ble_eq_true rfl) dL_act_46) (fun x6 h5 => ?_)
      refine g_iast (pc := 49) 19 (gat_19 _ _) (gset_19 _ _ _) dL_act_49 ?_
      refine g_nmh (fun h7 => ?_)
      refine g_aload (pc := 50) dL_act_50 7 rfl ?_
      refine g_bipush (pc := 52) (v := 6) dL_act_52 (by decide) ?_
      refine g_iload (pc := 54) dL_act_54 0 rfl ?_
      refine g_imul (pc := 56) dL_act_56 ?_
      refine g_iconst (pc := 57) (v := 1) dL_act_57 (by decide) ?_
      refine g_iadd (pc := 58) dL_act_58 ?_
      refine g_iload_n (pc := 59) dL_act_59 rfl 4 rfl ?_
      refine g_iconst (pc := 60) (v := 3) dL_act_60 (by decide) ?_
      refine g_ishr (pc := 61) dL_act_61 ?_
      refine g_iconst (pc := 62) (v := 5) dL_act_62 (by decide) ?_
      refine g_cI (pc := 63) (st := [.int ((6 * x3) + 1), .ref (gad γ 19)]) (fun r hr => gRunS (As := [.int (p2 >>> (3 &&& 31)), .int 5]) (ge_L_at γ (p2 >>> (3 &&& 31)) 5 h7) hr wv_RL_14 rfl (Nat.le_of_ble_eq_true rfl) rfl (Nat.le_of_ble_eq_true rfl) (Nat.le_of_ble_eq_true rfl) dL_act_63) (fun x9 h8 => ?_)
      refine g_iast (pc := 66) 19 (gat_19 _ _) (gset_19 _ _ _) dL_act_66 ?_
      refine g_nmh (fun h10 => ?_)
      refine g_aload (pc := 67) dL_act_67 7 rfl ?_
      refine g_bipush (pc := 69) (v := 6) dL_act_69 (by decide) ?_
      refine g_iload (pc := 71) dL_act_71 0 rfl ?_
      refine g_imul (pc := 73) dL_act_73 ?_
      refine g_iconst (pc := 74) (v := 2) dL_act_74 (by decide) ?_
      refine g_iadd (pc := 75) dL_act_75 ?_
      refine g_iconst (pc := 76) (v := 1) dL_act_76 (by decide) ?_
      refine g_iload_n (pc := 77) dL_act_77 rfl 4 rfl ?_
      refine g_bipush (pc := 78) (v := 6) dL_act_78 (by decide) ?_
      refine g_ishr (pc := 80) dL_act_80 ?_
      refine g_sipush (pc := 81) (v := 2000) dL_act_81 (by decide) ?_
      refine g_cI (pc := 84) (st := [.int 1, .int ((6 * x3) + 2), .ref (gad γ 19)]) (fun r hr => gRunS (As := [.int (p2 >>> (6 &&& 31)), .int 2000]) (ge_L_at γ (p2 >>> (6 &&& 31)) 2000 h10) hr wv_RL_14 rfl (Nat.le_of_ble_eq_true rfl) rfl (Nat.le_of_ble_eq_true rfl) (Nat.le_of_ble_eq_true rfl) dL_act_84) (fun x12 h11 => ?_)
      refine g_iadd (pc := 87) dL_act_87 ?_
      refine g_iast (pc := 88) 19 (gat_19 _ _) (gset_19 _ _ _) dL_act_88 ?_
      refine g_nmh (fun h13 => ?_)
      refine g_aload (pc := 89) dL_act_89 7 rfl ?_
      refine g_bipush (pc := 91) (v := 6) dL_act_91 (by decide) ?_
      refine g_iload (pc := 93) dL_act_93 0 rfl ?_
      refine g_imul (pc := 95) dL_act_95 ?_
      refine g_iconst (pc := 96) (v := 3) dL_act_96 (by decide) ?_
      refine g_iadd (pc := 97) dL_act_97 ?_
      refine g_iload_n (pc := 98) dL_act_98 rfl 3 rfl ?_
      refine g_bipush (pc := 99) (v := 30) dL_act_99 (by decide) ?_
      refine g_cI (pc := 101) (st := [.int ((6 * x3) + 3), .ref (gad γ 19)]) (fun r hr => gRunS (As := [.int p1, .int 30]) (ge_L_at γ p1 30 h13) hr wv_RL_14 rfl (Nat.le_of_ble_eq_true rfl) rfl (Nat.le_of_ble_eq_true rfl) (Nat.le_of_ble_eq_true rfl) dL_act_101) (fun x15 h14 => ?_)
      refine g_iast (pc := 104) 19 (gat_19 _ _) (gset_19 _ _ _) dL_act_104 ?_
      refine g_nmh (fun h16 => ?_)
      refine g_aload (pc := 105) dL_act_105 7 rfl ?_
      refine g_bipush (pc := 107) (v := 6) dL_act_107 (by decide) ?_
      refine g_iload (pc := 109) dL_act_109 0 rfl ?_
      refine g_imul (pc := 111) dL_act_111 ?_
      refine g_iconst (pc := 112) (v := 4) dL_act_112 (by decide) ?_
      refine g_iadd (pc := 113) dL_act_113 ?_
      refine g_sipush (pc := 114) (v := 500) dL_act_114 (by decide) ?_
      refine g_iload_n (pc := 117) dL_act_117 rfl 3 rfl ?_
      refine g_bipush (pc := 118) (v := 6) dL_act_118 (by decide) ?_
      refine g_ishr (pc := 120) dL_act_120 ?_
      refine g_sipush (pc := 121) (v := 1001) dL_act_121 (by decide) ?_
      refine g_cI (pc := 124) (st := [.int 500, .int ((6 * x3) + 4), .ref (gad γ 19)]) (fun r hr => gRunS (As := [.int (p1 >>> (6 &&& 31)), .int 1001]) (ge_L_at γ (p1 >>> (6 &&& 31)) 1001 h16) hr wv_RL_14 rfl (Nat.le_of_ble_eq_true rfl) rfl (Nat.le_of_ble_eq_true rfl) (Nat.le_of_ble_eq_true rfl) dL_act_124) (fun x18 h17 => ?_)
      refine g_iadd (pc := 127) dL_act_127 ?_
      refine g_iast (pc := 128) 19 (gat_19 _ _) (gset_19 _ _ _) dL_act_128 ?_
      refine g_nmh (fun h19 => ?_)
      refine g_aload (pc := 129) dL_act_129 7 rfl ?_
      refine g_bipush (pc := 131) (v := 6) dL_act_131 (by decide) ?_
      refine g_iload (pc := 133) dL_act_133 0 rfl ?_
      refine g_imul (pc := 135) dL_act_135 ?_
      refine g_iconst (pc := 136) (v := 5) dL_act_136 (by decide) ?_
      refine g_iadd (pc := 137) dL_act_137 ?_
      refine g_iconst (pc := 138) (v := 0) dL_act_138 (by decide) ?_
      refine g_iast (pc := 139) 19 (gat_19 _ _) (gset_19 _ _ _) dL_act_139 ?_
      refine g_nmh (fun h20 => ?_)
      refine g_aload_n (pc := 140) dL_act_140 rfl 2 rfl ?_
      refine g_aload (pc := 141) dL_act_141 7 rfl ?_
      refine g_bipush (pc := 143) (v := 6) dL_act_143 (by decide) ?_
      refine g_iload (pc := 145) dL_act_145 0 rfl ?_
      refine g_imul (pc := 147) dL_act_147 ?_
      refine g_iald (pc := 148) 19 (gat_19 _ _) dL_act_148 ?_
      refine g_aload (pc := 149) dL_act_149 7 rfl ?_
      refine g_bipush (pc := 151) (v := 6) dL_act_151 (by decide) ?_
      refine g_iload (pc := 153) dL_act_153 0 rfl ?_
      refine g_imul (pc := 155) dL_act_155 ?_
      refine g_iconst (pc := 156) (v := 1) dL_act_156 (by decide) ?_
      refine g_iadd (pc := 157) dL_act_157 ?_
      refine g_iald (pc := 158) 19 (gat_19 _ _) dL_act_158 ?_
      refine g_aload (pc := 159) dL_act_159 7 rfl ?_
      refine g_bipush (pc := 161) (v := 6) dL_act_161 (by decide) ?_
      refine g_iload (pc := 163) dL_act_163 0 rfl ?_
      refine g_imul (pc := 165) dL_act_165 ?_
      refine g_iconst (pc := 166) (v := 2) dL_act_166 (by decide) ?_
      refine g_iadd (pc := 167) dL_act_167 ?_
      refine g_iald (pc := 168) 19 (gat_19 _ _) dL_act_168 ?_
      refine g_aload (pc := 169) dL_act_169 7 rfl ?_
      refine g_bipush (pc := 171) (v := 6) dL_act_171 (by decide) ?_
      refine g_iload (pc := 173) dL_act_173 0 rfl ?_
      refine g_imul (pc := 175) dL_act_175 ?_
      refine g_iconst (pc := 176) (v := 3) dL_act_176 (by decide) ?_
      refine g_iadd (pc := 177) dL_act_177 ?_
      refine g_iald (pc := 178) 19 (gat_19 _ _) dL_act_178 ?_
      refine g_aload (pc := 179) dL_act_179 7 rfl ?_
      refine g_bipush (pc := 181) (v := 6) dL_act_181 (by decide) ?_
      refine g_iload (pc := 183) dL_act_183 0 rfl ?_
      refine g_imul (pc := 185) dL_act_185 ?_
      refine g_iconst (pc := 186) (v := 4) dL_act_186 (by decide) ?_
      refine g_iadd (pc := 187) dL_act_187 ?_
      refine g_iald (pc := 188) 19 (gat_19 _ _) dL_act_188 ?_
      refine g_cI (pc := 189) (st := []) (fun r hr => gRunV (As := [.int (h20.1 19 (6 * x3).toNatClampNeg), .int (h20.1 19 ((6 * x3) + 1).toNatClampNeg), .int (h20.1 19 ((6 * x3) + 2).toNatClampNeg), .int (h20.1 19 ((6 * x3) + 3).toNatClampNeg), .int (h20.1 19 ((6 * x3) + 4).toNatClampNeg)]) 0 (ge_X6_addLot γ (h20.1 19 (6 * x3).toNatClampNeg) (h20.1 19 ((6 * x3) + 1).toNatClampNeg) (h20.1 19 ((6 * x3) + 2).toNatClampNeg) (h20.1 19 ((6 * x3) + 3).toNatClampNeg) (h20.1 19 ((6 * x3) + 4).toNatClampNeg) h20) hr wv_RL_62 rfl (Nat.le_of_ble_eq_true rfl) (gat_0 _ _) rfl rfl (Nat.le_of_ble_eq_true rfl) (Nat.le_of_ble_eq_true rfl) dL_act_189) (fun x22 h21 => ?_)
      refine g_iload (pc := 192) dL_act_192 0 rfl ?_
      refine g_icmp_ne (pc := 194) (tgt := 201) dL_act_194 (by decide) ?_ ?_
      · refine g_iconst (pc := 201) (v := 0) dL_act_201 (by decide) ?_
        exact g_sub [] rfl (gjb_L_act_202 γ 0 h21)
      · refine g_iconst (pc := 197) (v := 1) dL_act_197 (by decide) ?_
        refine g_goto (pc := 198) (tgt := 202) dL_act_198 (by decide) ?_
        exact g_sub [] rfl (gjb_L_act_202 γ 1 h21)
def jb_L_agree_481  (s0 : Int32) (h : Hst) : Option (Int32 × Hst) :=
  (gzr s0 (some (s0, h)))
def jb_L_agree_480   (h : Hst) : Option (Int32 × Hst) :=
  (jb_L_agree_481 0 h)
def lp_L_agree_332 : Nat → Int32 → Int32 → Int32 → Int32 → Int32 → Hst → Option (Int32 × Hst)
  | 0, _, _, _, _, _, _ => none
  | n + 1, a9, a10, a11, a12, a13, h =>
    gck 0 15 ((if (h.1 17 (0 : Int32).toNatClampNeg) ≤ a13 then
      gb (f_X6_count 2 h) fun x2 h1 =>
      (if x2 = a9 then
        gb (f_X6_count 4 h1) fun x4 h3 =>
        gck 3 15 ((if x4 = (h3.1 17 (3 : Int32).toNatClampNeg) then
          gb (f_X6_count 5 h3) fun x6 h5 =>
          gck 4 15 ((if x6 = (h5.1 17 (4 : Int32).toNatClampNeg) then
            gb (f_X6_count 6 h5) fun x8 h7 =>
            gck 5 15 ((if x8 = (h7.1 17 (5 : Int32).toNatClampNeg) then
              gb (f_X6_count 7 h7) fun x10 h9 =>
              gck 6 15 ((if x10 = (h9.1 17 (6 : Int32).toNatClampNeg) then
                gb (f_X6_count 8 h9) fun x12 h11 =>
                (if x12 = a10 then
                  gb (f_X6_count 9 h11) fun x14 h13 =>
                  (if x14 = a12 then
                    gb (f_X6_count 10 h13) fun x16 h15 =>
                    (if x16 = a11 then
                      gb (f_X6_count 11 h15) fun x18 h17 =>
                      gck 7 15 ((if x18 = (h17.1 17 (7 : Int32).toNatClampNeg) then
                        (jb_L_agree_481 1 h17)
                      else
                        (jb_L_agree_480 h17)))
                    else
                      (jb_L_agree_480 h15))
                  else
                    (jb_L_agree_480 h13))
                else
                  (jb_L_agree_480 h11))
              else
                (jb_L_agree_480 h9)))
            else
              (jb_L_agree_480 h7)))
          else
            (jb_L_agree_480 h5)))
        else
          (jb_L_agree_480 h3)))
      else
        (jb_L_agree_480 h1))
    else
      gck a13 4 (gl (a12 + (h.1 25 a13.toNatClampNeg)) fun x19 =>
      gb (f_X6_grower a13 0 h) fun x21 h20 =>
      gck a13 4 ((if x21 = (h20.1 25 a13.toNatClampNeg) then
        ((lp_L_agree_332 n) a9 a10 a11 x19 (a13 + 1) h20)
      else
        (gzr 0 (some (0, h20))))))))
def jb_L_agree_274   (h : Hst) : Option (Int32 × Hst) :=
  (gzr 0 (some (0, h)))
def lp_L_agree_279 (R184 : Int32 → Int32 → Int32 → Int32 → Hst → Option (Int32 × Hst)) : Nat → Int32 → Int32 → Int32 → Int32 → Int32 → Hst → Option (Int32 × Hst)
  | 0, _, _, _, _, _, _ => none
  | n + 1, a9, a10, a11, a12, a14, h =>
    (if 5 ≤ a14 then
      (R184 a9 a10 a11 (a12 + 1) h)
    else
      gb (f_X6_tank a12 (10 + a14) h) fun x2 h1 =>
      gck (((7 * a12) + 2) + a14) 28 ((if x2 = (h1.1 24 (((7 * a12) + 2) + a14).toNatClampNeg) then
        ((lp_L_agree_279 R184 n) a9 a10 a11 a12 (a14 + 1) h1)
      else
        (gzr 0 (some (0, h1))))))
def jb_L_agree_271 (R184 : Int32 → Int32 → Int32 → Int32 → Hst → Option (Int32 × Hst)) (a9 : Int32) (a10 : Int32) (a11 : Int32) (a12 : Int32) (s0 : Int32) (s1 : Int32) (h : Hst) : Option (Int32 × Hst) :=
  (if s1 = s0 then
    (lp_L_agree_279 R184 FU a9 a10 a11 a12 0 h)
  else
    (jb_L_agree_274 h))
def jb_L_agree_233 (R184 : Int32 → Int32 → Int32 → Int32 → Hst → Option (Int32 × Hst)) (a9 : Int32) (a10 : Int32) (a11 : Int32) (a12 : Int32) (a13 : Int32) (h : Hst) : Option (Int32 × Hst) :=
  gb (f_X6_tank a12 1 h) fun x2 h1 =>
  (if x2 = a13 then
    gb (f_X6_tank a12 2 h1) fun x4 h3 =>
    (if a13 = 0 then
      (jb_L_agree_271 R184 a9 a10 a11 a12 (-1) x4 h3)
    else
      gck ((7 * a12) + 1) 28 ((jb_L_agree_271 R184 a9 a10 a11 a12 (h3.1 24 ((7 * a12) + 1).toNatClampNeg) x4 h3)))
  else
    (jb_L_agree_274 h1))
def lp_L_agree_184 : Nat → Int32 → Int32 → Int32 → Int32 → Hst → Option (Int32 × Hst)
  | 0, _, _, _, _, _ => none
  | n + 1, a9, a10, a11, a12, h =>
    gck 2 15 ((if (h.1 17 (2 : Int32).toNatClampNeg) ≤ a12 then
      (lp_L_agree_332 FU a9 a10 a11 0 0 h)
    else
      gb (f_L_oil a12 h) fun x2 h1 =>
      gl (a10 + x2) fun x3 =>
      (if x2 ≤ 0 then
        (jb_L_agree_233 (lp_L_agree_184 n) a9 x3 a11 a12 x2 h1)
      else
        gck ((7 * a12) + 1) 28 ((if (h1.1 24 ((7 * a12) + 1).toNatClampNeg) = 0 then
          gl (a11 + x2) fun x4 =>
          (jb_L_agree_233 (lp_L_agree_184 n) a9 x3 x4 a12 x2 h1)
        else
          (jb_L_agree_233 (lp_L_agree_184 n) a9 x3 a11 a12 x2 h1))))))
def jb_L_agree_167   (h : Hst) : Option (Int32 × Hst) :=
  (gzr 0 (some (0, h)))
def jb_L_agree_164 (R6 : Int32 → Int32 → Hst → Option (Int32 × Hst)) (a9 : Int32) (a10 : Int32) (s0 : Int32) (s1 : Int32) (h : Hst) : Option (Int32 × Hst) :=
  (if s1 = s0 then
    (R6 a9 (a10 + 1) h)
  else
    (jb_L_agree_167 h))
def jb_L_agree_139 (R6 : Int32 → Int32 → Hst → Option (Int32 × Hst)) (a9 : Int32) (a10 : Int32) (a11 : Int32) (s0 : Int32) (s1 : Int32) (h : Hst) : Option (Int32 × Hst) :=
  (if s1 = s0 then
    gb (f_X6_lot a10 9 h) fun x2 h1 =>
    (if a11 = 0 then
      (jb_L_agree_164 R6 a9 a10 (-1) x2 h1)
    else
      gck a10 10 ((jb_L_agree_164 R6 a9 a10 (h1.1 23 a10.toNatClampNeg) x2 h1)))
  else
    (jb_L_agree_167 h))
def jb_L_agree_113 (R6 : Int32 → Int32 → Hst → Option (Int32 × Hst)) (a9 : Int32) (a10 : Int32) (a11 : Int32) (s0 : Int32) (s1 : Int32) (h : Hst) : Option (Int32 × Hst) :=
  (if s1 = s0 then
    gb (f_X6_lot a10 8 h) fun x2 h1 =>
    (if 2 ≤ a11 then
      gck a10 10 ((jb_L_agree_139 R6 a9 a10 a11 (h1.1 22 a10.toNatClampNeg) x2 h1))
    else
      (jb_L_agree_139 R6 a9 a10 a11 (-1) x2 h1))
  else
    (jb_L_agree_167 h))
def jb_L_agree_88 (R6 : Int32 → Int32 → Hst → Option (Int32 × Hst)) (a9 : Int32) (a10 : Int32) (a11 : Int32) (s0 : Int32) (s1 : Int32) (h : Hst) : Option (Int32 × Hst) :=
  (if s1 = s0 then
    gb (f_X6_lot a10 7 h) fun x2 h1 =>
    (if a11 = 0 then
      (jb_L_agree_113 R6 a9 a10 a11 (-1) x2 h1)
    else
      gck a10 10 ((jb_L_agree_113 R6 a9 a10 a11 (h1.1 21 a10.toNatClampNeg) x2 h1)))
  else
    (jb_L_agree_167 h))
def jb_L_agree_33 (R6 : Int32 → Int32 → Hst → Option (Int32 × Hst)) (a9 : Int32) (a10 : Int32) (a11 : Int32) (h : Hst) : Option (Int32 × Hst) :=
  gb (f_X6_lot a10 4 h) fun x2 h1 =>
  gck ((6 * a10) + 3) 60 (gb (f_L_grade (h1.1 19 ((6 * a10) + 3).toNatClampNeg) h1) fun x4 h3 =>
  (if x2 = x4 then
    gb (f_X6_lot a10 5 h3) fun x6 h5 =>
    (if x6 = a11 then
      gb (f_X6_lot a10 6 h5) fun x8 h7 =>
      (if a11 = 0 then
        (jb_L_agree_88 R6 a9 a10 a11 (-1) x8 h7)
      else
        gck a10 10 ((jb_L_agree_88 R6 a9 a10 a11 (h7.1 20 a10.toNatClampNeg) x8 h7)))
    else
      (jb_L_agree_167 h5))
  else
    (jb_L_agree_167 h3)))
def lp_L_agree_6 : Nat → Int32 → Int32 → Hst → Option (Int32 × Hst)
  | 0, _, _, _ => none
  | n + 1, a9, a10, h =>
    gck 1 15 ((if (h.1 17 (1 : Int32).toNatClampNeg) ≤ a10 then
      (lp_L_agree_184 FU a9 0 0 0 h)
    else
      gck ((6 * a10) + 5) 60 (gl (h.1 19 ((6 * a10) + 5).toNatClampNeg) fun x1 =>
      (if x1 = 0 then
        (jb_L_agree_33 (lp_L_agree_6 n) (a9 + 1) a10 x1 h)
      else
        (jb_L_agree_33 (lp_L_agree_6 n) a9 a10 x1 h)))))
def f_L_agree  (h : Hst) : Option (Int32 × Hst) :=
  (lp_L_agree_6 FU 0 0 h)
set_option maxRecDepth 20000 in
theorem gjb_L_agree_481 (γ : Gv)  (s0 : Int32) (h : Hst) : G γ RL cL_agree 15 (some .boolean) [] vI 5 0 481 [] [.int s0] h (jb_L_agree_481 s0 h) := by
  unfold jb_L_agree_481
  exact g_zreturn (pc := 481) dL_agree_481 rfl rfl
set_option maxRecDepth 20000 in
theorem gjb_L_agree_480 (γ : Gv)   (h : Hst) : G γ RL cL_agree 15 (some .boolean) [] vI 5 0 480 [] [] h (jb_L_agree_480 h) := by
  unfold jb_L_agree_480
  refine g_iconst (pc := 480) (v := 0) dL_agree_480 (by decide) ?_
  exact gjb_L_agree_481 γ 0 h
set_option maxRecDepth 20000 in
theorem glp_L_agree_332 (γ : Gv)  : ∀ (n : Nat) (a9 : Int32) (a10 : Int32) (a11 : Int32) (a12 : Int32) (a13 : Int32) (h : Hst), G γ RL cL_agree 15 (some .boolean) [] vI 5 0 332 [(0, .ref (gad γ 0)), (1, .ref (gad γ 17)), (8, .ref (gad γ 25)), (9, .int a9), (10, .int a10), (11, .int a11), (12, .int a12), (13, .int a13)] [] h (lp_L_agree_332 n a9 a10 a11 a12 a13 h) := by
  intro n
  induction n with
  | zero => intro a9 a10 a11 a12 a13 h; exact g_none
  | succ n ih =>
    intro a9 a10 a11 a12 a13 h
    rw [lp_L_agree_332]
    refine g_iload (pc := 332) dL_agree_332 7 rfl ?_
    refine g_aload_n (pc := 334) dL_agree_334 rfl 1 rfl ?_
    refine g_iconst (pc := 335) (v := 0) dL_agree_335 (by decide) ?_
    refine g_iald (pc := 336) 17 (gat_17 _ _) dL_agree_336 ?_
    refine g_icmp_ge (pc := 337) (tgt := 373) dL_agree_337 (by decide) ?_ ?_
    · refine g_aload_n (pc := 373) dL_agree_373 rfl 0 rfl ?_
      refine g_iconst (pc := 374) (v := 2) dL_agree_374 (by decide) ?_
      refine g_cI (pc := 375) (st := []) (fun r hr => gRunV (As := [.int 2]) 0 (ge_X6_count γ 2 h) hr wv_RL_97 rfl (Nat.le_of_ble_eq_true rfl) (gat_0 _ _) rfl rfl (Nat.le_of_ble_eq_true rfl) (Nat.le_of_ble_eq_true rfl) dL_agree_375) (fun x2 h1 => ?_)
      refine g_iload (pc := 378) dL_agree_378 3 rfl ?_
      refine g_icmp_ne (pc := 380) (tgt := 480) dL_agree_380 (by decide) ?_ ?_
      · exact g_sub [] rfl (gjb_L_agree_480 γ h1)
      · refine g_aload_n (pc := 383) dL_agree_383 rfl 0 rfl ?_
        refine g_iconst (pc := 384) (v := 4) dL_agree_384 (by decide) ?_
        refine g_cI (pc := 385) (st := []) (fun r hr => gRunV (As := [.int 4]) 0 (ge_X6_count γ 4 h1) hr wv_RL_97 rfl (Nat.le_of_ble_eq_true rfl) (gat_0 _ _) rfl rfl (Nat.le_of_ble_eq_true rfl) (Nat.le_of_ble_eq_true rfl) dL_agree_385) (fun x4 h3 => ?_)
        refine g_aload_n (pc := 388) dL_agree_388 rfl 1 rfl ?_
        refine g_iconst (pc := 389) (v := 3) dL_agree_389 (by decide) ?_
        refine g_iald (pc := 390) 17 (gat_17 _ _) dL_agree_390 ?_
        refine g_icmp_ne (pc := 391) (tgt := 480) dL_agree_391 (by decide) ?_ ?_
        · exact g_sub [] rfl (gjb_L_agree_480 γ h3)
        · refine g_aload_n (pc := 394) dL_agree_394 rfl 0 rfl ?_
          refine g_iconst (pc := 395) (v := 5) dL_agree_395 (by decide) ?_
          refine g_cI (pc := 396) (st := []) (fun r hr => gRunV (As := [.int 5]) 0 (ge_X6_count γ 5 h3) hr wv_RL_97 rfl (Nat.le_of_ble_eq_true rfl) (gat_0 _ _) rfl rfl (Nat.le_of_ble_eq_true rfl) (Nat.le_of_ble_eq_true rfl) dL_agree_396) (fun x6 h5 => ?_)
          refine g_aload_n (pc := 399) dL_agree_399 rfl 1 rfl ?_
          refine g_iconst (pc := 400) (v := 4) dL_agree_400 (by decide) ?_
          refine g_iald (pc := 401) 17 (gat_17 _ _) dL_agree_401 ?_
          refine g_icmp_ne (pc := 402) (tgt := 480) dL_agree_402 (by decide) ?_ ?_
          · exact g_sub [] rfl (gjb_L_agree_480 γ h5)
          · refine g_aload_n (pc := 405) dL_agree_405 rfl 0 rfl ?_
            refine g_bipush (pc := 406) (v := 6) dL_agree_406 (by decide) ?_
            refine g_cI (pc := 408) (st := []) (fun r hr => gRunV (As := [.int 6]) 0 (ge_X6_count γ 6 h5) hr wv_RL_97 rfl (Nat.le_of_ble_eq_true rfl) (gat_0 _ _) rfl rfl (Nat.le_of_ble_eq_true rfl) (Nat.le_of_ble_eq_true rfl) dL_agree_408) (fun x8 h7 => ?_)
            refine g_aload_n (pc := 411) dL_agree_411 rfl 1 rfl ?_
            refine g_iconst (pc := 412) (v := 5) dL_agree_412 (by decide) ?_
            refine g_iald (pc := 413) 17 (gat_17 _ _) dL_agree_413 ?_
            refine g_icmp_ne (pc := 414) (tgt := 480) dL_agree_414 (by decide) ?_ ?_
            · exact g_sub [] rfl (gjb_L_agree_480 γ h7)
            · refine g_aload_n (pc := 417) dL_agree_417 rfl 0 rfl ?_
              refine g_bipush (pc := 418) (v := 7) dL_agree_418 (by decide) ?_
              refine g_cI (pc := 420) (st := []) (fun r hr => gRunV (As := [.int 7]) 0 (ge_X6_count γ 7 h7) hr wv_RL_97 rfl (Nat.le_of_ble_eq_true rfl) (gat_0 _ _) rfl rfl (Nat.le_of_ble_eq_true rfl) (Nat.le_of_ble_eq_true rfl) dL_agree_420) (fun x10 h9 => ?_)
              refine g_aload_n (pc := 423) dL_agree_423 rfl 1 rfl ?_
              refine g_bipush (pc := 424) (v := 6) dL_agree_424 (by decide) ?_
              refine g_iald (pc := 426) 17 (gat_17 _ _) dL_agree_426 ?_
              refine g_icmp_ne (pc := 427) (tgt := 480) dL_agree_427 (by decide) ?_ ?_
              · exact g_sub [] rfl (gjb_L_agree_480 γ h9)
              · refine g_aload_n (pc := 430) dL_agree_430 rfl 0 rfl ?_
                refine g_bipush (pc := 431) (v := 8) dL_agree_431 (by decide) ?_
                refine g_cI (pc := 433) (st := []) (fun r hr => gRunV (As := [.int 8]) 0 (ge_X6_count γ 8 h9) hr wv_RL_97 rfl (Nat.le_of_ble_eq_true rfl) (gat_0 _ _) rfl rfl (Nat.le_of_ble_eq_true rfl) (Nat.le_of_ble_eq_true rfl) dL_agree_433) (fun x12 h11 => ?_)
                refine g_iload (pc := 436) dL_agree_436 4 rfl ?_
                refine g_icmp_ne (pc := 438) (tgt := 480) dL_agree_438 (by decide) ?_ ?_
                · exact g_sub [] rfl (gjb_L_agree_480 γ h11)
                · refine g_aload_n (pc := 441) dL_agree_441 rfl 0 rfl ?_
                  refine g_bipush (pc := 442) (v := 9) dL_agree_442 (by decide) ?_
                  refine g_cI (pc := 444) (st := []) (fun r hr => gRunV (As := [.int 9]) 0 (ge_X6_count γ 9 h11) hr wv_RL_97 rfl (Nat.le_of_ble_eq_true rfl) (gat_0 _ _) rfl rfl (Nat.le_of_ble_eq_true rfl) (Nat.le_of_ble_eq_true rfl) dL_agree_444) (fun x14 h13 => ?_)
                  refine g_iload (pc := 447) dL_agree_447 6 rfl ?_
                  refine g_icmp_ne (pc := 449) (tgt := 480) dL_agree_449 (by decide) ?_ ?_
                  · exact g_sub [] rfl (gjb_L_agree_480 γ h13)
                  · refine g_aload_n (pc := 452) dL_agree_452 rfl 0 rfl ?_
                    refine g_bipush (pc := 453) (v := 10) dL_agree_453 (by decide) ?_
                    refine g_cI (pc := 455) (st := []) (fun r hr => gRunV (As := [.int 10]) 0 (ge_X6_count γ 10 h13) hr wv_RL_97 rfl (Nat.le_of_ble_eq_true rfl) (gat_0 _ _) rfl rfl (Nat.le_of_ble_eq_true rfl) (Nat.le_of_ble_eq_true rfl) dL_agree_455) (fun x16 h15 => ?_)
                    refine g_iload (pc := 458) dL_agree_458 5 rfl ?_
                    refine g_icmp_ne (pc := 460) (tgt := 480) dL_agree_460 (by decide) ?_ ?_
                    · exact g_sub [] rfl (gjb_L_agree_480 γ h15)
                    · refine g_aload_n (pc := 463) dL_agree_463 rfl 0 rfl ?_
                      refine g_bipush (pc := 464) (v := 11) dL_agree_464 (by decide) ?_
                      refine g_cI (pc := 466) (st := []) (fun r hr => gRunV (As := [.int 11]) 0 (ge_X6_count γ 11 h15) hr wv_RL_97 rfl (Nat.le_of_ble_eq_true rfl) (gat_0 _ _) rfl rfl (Nat.le_of_ble_eq_true rfl) (Nat.le_of_ble_eq_true rfl) dL_agree_466) (fun x18 h17 => ?_)
                      refine g_aload_n (pc := 469) dL_agree_469 rfl 1 rfl ?_
                      refine g_bipush (pc := 470) (v := 7) dL_agree_470 (by decide) ?_
                      refine g_iald (pc := 472) 17 (gat_17 _ _) dL_agree_472 ?_
                      refine g_icmp_ne (pc := 473) (tgt := 480) dL_agree_473 (by decide) ?_ ?_
                      · exact g_sub [] rfl (gjb_L_agree_480 γ h17)
                      · refine g_iconst (pc := 476) (v := 1) dL_agree_476 (by decide) ?_
                        refine g_goto (pc := 477) (tgt := 481) dL_agree_477 (by decide) ?_
                        exact g_sub [] rfl (gjb_L_agree_481 γ 1 h17)
    · refine g_iload (pc := 340) dL_agree_340 6 rfl ?_
      refine g_aload (pc := 342) dL_agree_342 2 rfl ?_
      refine g_iload (pc := 344) dL_agree_344 7 rfl ?_
      refine g_iald (pc := 346) 25 (gat_25 _ _) dL_agree_346 ?_
      refine g_iadd (pc := 347) dL_agree_347 ?_
      refine g_nmi (fun x19 => ?_)
      refine g_istore (pc := 348) (lv' := [(12, .int x19), (0, .ref (gad γ 0)), (1, .ref (gad γ 17)), (8, .ref (gad γ 25)), (9, .int a9), (10, .int a10), (11, .int a11), (13, .int a13)]) dL_agree_348 (by decide) rfl ?_
      refine g_aload_n (pc := 350) dL_agree_350 rfl 1 rfl ?_
      refine g_iload (pc := 351) dL_agree_351 7 rfl ?_
      refine g_iconst (pc := 353) (v := 0) dL_agree_353 (by decide) ?_
      refine g_cI (pc := 354) (st := []) (fun r hr => gRunV (As := [.int a13, .int 0]) 0 (ge_X6_grower γ a13 0 h) hr wv_RL_94 rfl (Nat.le_of_ble_eq_true rfl) (gat_0 _ _) rfl rfl (Nat.le_of_ble_eq_true rfl) (Nat.le_of_ble_eq_true rfl) dL_agree_354) (fun x21 h20 => ?_)
      refine g_aload (pc := 357) dL_agree_357 3 rfl ?_
      refine g_iload (pc := 359) dL_agree_359 7 rfl ?_
      refine g_iald (pc := 361) 25 (gat_25 _ _) dL_agree_361 ?_
      refine g_icmp_eq (pc := 362) (tgt := 367) dL_agree_362 (by decide) ?_ ?_
      · refine g_iinc (pc := 367) (q := 7) (v := a13 + 1) (lv' := [(13, .int (a13 + 1)), (12, .int x19), (0, .ref (gad γ 0)), (1, .ref (gad γ 17)), (8, .ref (gad γ 25)), (9, .int a9), (10, .int a10), (11, .int a11)]) dL_agree_367 rfl rfl (by decide) rfl ?_
        refine g_goto (pc := 370) (tgt := 332) dL_agree_370 (by decide) ?_
        exact g_sub [2, 3, 4, 5, 6, 7, 1, 0] rfl (ih a9 a10 a11 x19 (a13 + 1) h20)
      · refine g_iconst (pc := 365) (v := 0) dL_agree_365 (by decide) ?_
        exact g_zreturn (pc := 366) dL_agree_366 rfl rfl
set_option maxRecDepth 20000 in
theorem gjb_L_agree_274 (γ : Gv)   (h : Hst) : G γ RL cL_agree 15 (some .boolean) [] vI 5 0 274 [] [] h (jb_L_agree_274 h) := by
  unfold jb_L_agree_274
  refine g_iconst (pc := 274) (v := 0) dL_agree_274 (by decide) ?_
  exact g_zreturn (pc := 275) dL_agree_275 rfl rfl
set_option maxRecDepth 20000 in
theorem glp_L_agree_279 (γ : Gv) (R184 : Int32 → Int32 → Int32 → Int32 → Hst → Option (Int32 × Hst)) (hR184 : ∀ (a9 : Int32) (a10 : Int32) (a11 : Int32) (a12 : Int32) (h : Hst), G γ RL cL_agree 15 (some .boolean) [] vI 5 0 184 [(0, .ref (gad γ 0)), (1, .ref (gad γ 17)), (7, .ref (gad γ 24)), (8, .ref (gad γ 25)), (9, .int a9), (10, .int a10), (11, .int a11), (12, .int a12)] [] h (R184 a9 a10 a11 a12 h)) : ∀ (n : Nat) (a9 : Int32) (a10 : Int32) (a11 : Int32) (a12 : Int32) (a14 : Int32) (h : Hst), G γ RL cL_agree 15 (some .boolean) [] vI 5 0 279 [(0, .ref (gad γ 0)), (1, .ref (gad γ 17)), (7, .ref (gad γ 24)), (8, .ref (gad γ 25)), (9, .int a9), (10, .int a10), (11, .int a11), (12, .int a12), (14, .int a14)] [] h (lp_L_agree_279 R184 n a9 a10 a11 a12 a14 h) := by
  intro n
  induction n with
  | zero => intro a9 a10 a11 a12 a14 h; exact g_none
  | succ n ih =>
    intro a9 a10 a11 a12 a14 h
    rw [lp_L_agree_279]
    refine g_iload (pc := 279) dL_agree_279 8 rfl ?_
    refine g_iconst (pc := 281) (v := 5) dL_agree_281 (by decide) ?_
    refine g_icmp_ge (pc := 282) (tgt := 320) dL_agree_282 (by decide) ?_ ?_
    · refine g_iinc (pc := 320) (q := 7) (v := a12 + 1) (lv' := [(12, .int (a12 + 1)), (0, .ref (gad γ 0)), (1, .ref (gad γ 17)), (7, .ref (gad γ 24)), (8, .ref (gad γ 25)), (9, .int a9), (10, .int a10), (11, .int a11), (14, .int a14)]) dL_agree_320 rfl rfl (by decide) rfl ?_
      refine g_goto (pc := 323) (tgt := 184) dL_agree_323 (by decide) ?_
      exact g_sub [1, 2, 3, 4, 5, 6, 7, 0] rfl (hR184 a9 a10 a11 (a12 + 1) h)
    · refine g_aload_n (pc := 285) dL_agree_285 rfl 0 rfl ?_
      refine g_iload (pc := 286) dL_agree_286 7 rfl ?_
      refine g_bipush (pc := 288) (v := 10) dL_agree_288 (by decide) ?_
      refine g_iload (pc := 290) dL_agree_290 8 rfl ?_
      refine g_iadd (pc := 292) dL_agree_292 ?_
      refine g_cI (pc := 293) (st := []) (fun r hr => gRunV (As := [.int a12, .int (10 + a14)]) 0 (ge_X6_tank γ a12 (10 + a14) h) hr wv_RL_91 rfl (Nat.le_of_ble_eq_true rfl) (gat_0 _ _) rfl rfl (Nat.le_of_ble_eq_true rfl) (Nat.le_of_ble_eq_true rfl) dL_agree_293) (fun x2 h1 => ?_)
      refine g_aload (pc := 296) dL_agree_296 2 rfl ?_
      refine g_bipush (pc := 298) (v := 7) dL_agree_298 (by decide) ?_
      refine g_iload (pc := 300) dL_agree_300 7 rfl ?_
      refine g_imul (pc := 302) dL_agree_302 ?_
      refine g_iconst (pc := 303) (v := 2) dL_agree_303 (by decide) ?_
      refine g_iadd (pc := 304) dL_agree_304 ?_
      refine g_iload (pc := 305) dL_agree_305 8 rfl ?_
      refine g_iadd (pc := 307) dL_agree_307 ?_
      refine g_iald (pc := 308) 24 (gat_24 _ _) dL_agree_308 ?_
      refine g_icmp_eq (pc := 309) (tgt := 314) dL_agree_309 (by decide) ?_ ?_
      · refine g_iinc (pc := 314) (q := 8) (v := a14 + 1) (lv' := [(14, .int (a14 + 1)), (0, .ref (gad γ 0)), (1, .ref (gad γ 17)), (7, .ref (gad γ 24)), (8, .ref (gad γ 25)), (9, .int a9), (10, .int a10), (11, .int a11), (12, .int a12)]) dL_agree_314 rfl rfl (by decide) rfl ?_
        refine g_goto (pc := 317) (tgt := 279) dL_agree_317 (by decide) ?_
        exact g_sub [1, 2, 3, 4, 5, 6, 7, 8, 0] rfl (ih a9 a10 a11 a12 (a14 + 1) h1)
      · refine g_iconst (pc := 312) (v := 0) dL_agree_312 (by decide) ?_
        exact g_zreturn (pc := 313) dL_agree_313 rfl rfl
set_option maxRecDepth 20000 in
theorem gjb_L_agree_271 (γ : Gv) (R184 : Int32 → Int32 → Int32 → Int32 → Hst → Option (Int32 × Hst)) (hR184 : ∀ (a9 : Int32) (a10 : Int32) (a11 : Int32) (a12 : Int32) (h : Hst), G γ RL cL_agree 15 (some .boolean) [] vI 5 0 184 [(0, .ref (gad γ 0)), (1, .ref (gad γ 17)), (7, .ref (gad γ 24)), (8, .ref (gad γ 25)), (9, .int a9), (10, .int a10), (11, .int a11), (12, .int a12)] [] h (R184 a9 a10 a11 a12 h)) (a9 : Int32) (a10 : Int32) (a11 : Int32) (a12 : Int32) (s0 : Int32) (s1 : Int32) (h : Hst) : G γ RL cL_agree 15 (some .boolean) [] vI 5 0 271 [(0, .ref (gad γ 0)), (1, .ref (gad γ 17)), (7, .ref (gad γ 24)), (8, .ref (gad γ 25)), (9, .int a9), (10, .int a10), (11, .int a11), (12, .int a12)] [.int s0, .int s1] h (jb_L_agree_271 R184 a9 a10 a11 a12 s0 s1 h) := by
  unfold jb_L_agree_271
  refine g_icmp_eq (pc := 271) (tgt := 276) dL_agree_271 (by decide) ?_ ?_
  · refine g_iconst (pc := 276) (v := 0) dL_agree_276 (by decide) ?_
    refine g_istore (pc := 277) (lv' := [(14, .int 0), (0, .ref (gad γ 0)), (1, .ref (gad γ 17)), (7, .ref (gad γ 24)), (8, .ref (gad γ 25)), (9, .int a9), (10, .int a10), (11, .int a11), (12, .int a12)]) dL_agree_277 (by decide) rfl ?_
    exact g_sub [1, 2, 3, 4, 5, 6, 7, 8, 0] rfl (glp_L_agree_279 γ R184 hR184 FU a9 a10 a11 a12 0 h)
  · exact g_sub [] rfl (gjb_L_agree_274 γ h)
set_option maxRecDepth 20000 in
theorem gjb_L_agree_233 (γ : Gv) (R184 : Int32 → Int32 → Int32 → Int32 → Hst → Option (Int32 × Hst)) (hR184 : ∀ (a9 : Int32) (a10 : Int32) (a11 : Int32) (a12 : Int32) (h : Hst), G γ RL cL_agree 15 (some .boolean) [] vI 5 0 184 [(0, .ref (gad γ 0)), (1, .ref (gad γ 17)), (7, .ref (gad γ 24)), (8, .ref (gad γ 25)), (9, .int a9), (10, .int a10), (11, .int a11), (12, .int a12)] [] h (R184 a9 a10 a11 a12 h)) (a9 : Int32) (a10 : Int32) (a11 : Int32) (a12 : Int32) (a13 : Int32) (h : Hst) : G γ RL cL_agree 15 (some .boolean) [] vI 5 0 233 [(0, .ref (gad γ 0)), (1, .ref (gad γ 17)), (7, .ref (gad γ 24)), (8, .ref (gad γ 25)), (9, .int a9), (10, .int a10), (11, .int a11), (12, .int a12), (13, .int a13)] [] h (jb_L_agree_233 R184 a9 a10 a11 a12 a13 h) := by
  unfold jb_L_agree_233
  refine g_aload_n (pc := 233) dL_agree_233 rfl 0 rfl ?_
  refine g_iload (pc := 234) dL_agree_234 7 rfl ?_
  refine g_iconst (pc := 236) (v := 1) dL_agree_236 (by decide) ?_
  refine g_cI (pc := 237) (st := []) (fun r hr => gRunV (As := [.int a12, .int 1]) 0 (ge_X6_tank γ a12 1 h) hr wv_RL_91 rfl (Nat.le_of_ble_eq_true rfl) (gat_0 _ _) rfl rfl (Nat.le_of_ble_eq_true rfl) (Nat.le_of_ble_eq_true rfl) dL_agree_237) (fun x2 h1 => ?_)
  refine g_iload (pc := 240) dL_agree_240 8 rfl ?_
  refine g_icmp_ne (pc := 242) (tgt := 274) dL_agree_242 (by decide) ?_ ?_
  · exact g_sub [] rfl (gjb_L_agree_274 γ h1)
  · refine g_aload_n (pc := 245) dL_agree_245 rfl 0 rfl ?_
    refine g_iload (pc := 246) dL_agree_246 7 rfl ?_
    refine g_iconst (pc := 248) (v := 2) dL_agree_248 (by decide) ?_
    refine g_cI (pc := 249) (st := []) (fun r hr => gRunV (As := [.int a12, .int 2]) 0 (ge_X6_tank γ a12 2 h1) hr wv_RL_91 rfl (Nat.le_of_ble_eq_true rfl) (gat_0 _ _) rfl rfl (Nat.le_of_ble_eq_true rfl) (Nat.le_of_ble_eq_true rfl) dL_agree_249) (fun x4 h3 => ?_)
    refine g_iload (pc := 252) dL_agree_252 8 rfl ?_
    refine g_if_ne (pc := 254) (tgt := 261) dL_agree_254 (by decide) ?_ ?_
    · refine g_aload (pc := 261) dL_agree_261 2 rfl ?_
      refine g_bipush (pc := 263) (v := 7) dL_agree_263 (by decide) ?_
      refine g_iload (pc := 265) dL_agree_265 7 rfl ?_
      refine g_imul (pc := 267) dL_agree_267 ?_
      refine g_iconst (pc := 268) (v := 1) dL_agree_268 (by decide) ?_
      refine g_iadd (pc := 269) dL_agree_269 ?_
      refine g_iald (pc := 270) 24 (gat_24 _ _) dL_agree_270 ?_
      exact g_sub [0, 1, 2, 3, 4, 5, 6, 7] rfl (gjb_L_agree_271 γ R184 hR184 a9 a10 a11 a12 (h3.1 24 ((7 * a12) + 1).toNatClampNeg) x4 h3)
    · refine g_iconst (pc := 257) (v := (-1)) dL_agree_257 (by decide) ?_
      refine g_goto (pc := 258) (tgt := 271) dL_agree_258 (by decide) ?_
      exact g_sub [0, 1, 2, 3, 4, 5, 6, 7] rfl (gjb_L_agree_271 γ R184 hR184 a9 a10 a11 a12 (-1) x4 h3)
set_option maxRecDepth 20000 in
theorem glp_L_agree_184 (γ : Gv)  : ∀ (n : Nat) (a9 : Int32) (a10 : Int32) (a11 : Int32) (a12 : Int32) (h : Hst), G γ RL cL_agree 15 (some .boolean) [] vI 5 0 184 [(0, .ref (gad γ 0)), (1, .ref (gad γ 17)), (7, .ref (gad γ 24)), (8, .ref (gad γ 25)), (9, .int a9), (10, .int a10), (11, .int a11), (12, .int a12)] [] h (lp_L_agree_184 n a9 a10 a11 a12 h) := by
  intro n
  induction n with
  | zero => intro a9 a10 a11 a12 h; exact g_none
  | succ n ih =>
    intro a9 a10 a11 a12 h
    rw [lp_L_agree_184]
    refine g_iload (pc := 184) dL_agree_184 7 rfl ?_
    refine g_aload_n (pc := 186) dL_agree_186 rfl 1 rfl ?_
    refine g_iconst (pc := 187) (v := 2) dL_agree_187 (by decide) ?_
    refine g_iald (pc := 188) 17 (gat_17 _ _) dL_agree_188 ?_
    refine g_icmp_ge (pc := 189) (tgt := 326) dL_agree_189 (by decide) ?_ ?_
    · refine g_iconst (pc := 326) (v := 0) dL_agree_326 (by decide) ?_
      refine g_istore (pc := 327) (lv' := [(12, .int 0), (0, .ref (gad γ 0)), (1, .ref (gad γ 17)), (7, .ref (gad γ 24)), (8, .ref (gad γ 25)), (9, .int a9), (10, .int a10), (11, .int a11)]) dL_agree_327 (by decide) rfl ?_
      refine g_iconst (pc := 329) (v := 0) dL_agree_329 (by decide) ?_
      refine g_istore (pc := 330) (lv' := [(13, .int 0), (12, .int 0), (0, .ref (gad γ 0)), (1, .ref (gad γ 17)), (7, .ref (gad γ 24)), (8, .ref (gad γ 25)), (9, .int a9), (10, .int a10), (11, .int a11)]) dL_agree_330 (by decide) rfl ?_
      exact g_sub [2, 3, 5, 6, 7, 8, 1, 0] rfl (glp_L_agree_332 γ FU a9 a10 a11 0 0 h)
    · refine g_aload (pc := 192) dL_agree_192 2 rfl ?_
      refine g_iload (pc := 194) dL_agree_194 7 rfl ?_
      refine g_cI (pc := 196) (st := []) (fun r hr => gRunS (As := [.ref (gad γ 24), .int a12]) (ge_L_oil γ a12 h) hr wv_RL_8 rfl (Nat.le_of_ble_eq_true rfl) rfl (Nat.le_of_ble_eq_true rfl) (Nat.le_of_ble_eq_true rfl) dL_agree_196) (fun x2 h1 => ?_)
      refine g_istore (pc := 199) (lv' := [(13, .int x2), (0, .ref (gad γ 0)), (1, .ref (gad γ 17)), (7, .ref (gad γ 24)), (8, .ref (gad γ 25)), (9, .int a9), (10, .int a10), (11, .int a11), (12, .int a12)]) dL_agree_199 (by decide) rfl ?_
      refine g_iload (pc := 201) dL_agree_201 6 rfl ?_
      refine g_iload (pc := 203) dL_agree_203 0 rfl ?_
      refine g_iadd (pc := 205) dL_agree_205 ?_
      refine g_nmi (fun x3 => ?_)
      refine g_istore (pc := 206) (lv' := [(10, .int x3), (13, .int x2), (0, .ref (gad γ 0)), (1, .ref (gad γ 17)), (7, .ref (gad γ 24)), (8, .ref (gad γ 25)), (9, .int a9), (11, .int a11), (12, .int a12)]) dL_agree_206 (by decide) rfl ?_
      refine g_iload (pc := 208) dL_agree_208 1 rfl ?_
      refine g_if_le (pc := 210) (tgt := 233) dL_agree_210 (by decide) ?_ ?_
      · exact g_sub [2, 3, 4, 5, 6, 0, 7, 8, 1] rfl (gjb_L_agree_233 γ (lp_L_agree_184 n) ih a9 x3 a11 a12 x2 h1)
      · refine g_aload (pc := 213) dL_agree_213 4 rfl ?_
        refine g_bipush (pc := 215) (v := 7) dL_agree_215 (by decide) ?_
        refine g_iload (pc := 217) dL_agree_217 8 rfl ?_
        refine g_imul (pc := 219) dL_agree_219 ?_
        refine g_iconst (pc := 220) (v := 1) dL_agree_220 (by decide) ?_
        refine g_iadd (pc := 221) dL_agree_221 ?_
        refine g_iald (pc := 222) 24 (gat_24 _ _) dL_agree_222 ?_
        refine g_if_ne (pc := 223) (tgt := 233) dL_agree_223 (by decide) ?_ ?_
        · exact g_sub [2, 3, 4, 5, 6, 0, 7, 8, 1] rfl (gjb_L_agree_233 γ (lp_L_agree_184 n) ih a9 x3 a11 a12 x2 h1)
        · refine g_iload (pc := 226) dL_agree_226 7 rfl ?_
          refine g_iload (pc := 228) dL_agree_228 1 rfl ?_
          refine g_iadd (pc := 230) dL_agree_230 ?_
          refine g_nmi (fun x4 => ?_)
          refine g_istore (pc := 231) (lv' := [(11, .int x4), (10, .int x3), (13, .int x2), (0, .ref (gad γ 0)), (1, .ref (gad γ 17)), (7, .ref (gad γ 24)), (8, .ref (gad γ 25)), (9, .int a9), (12, .int a12)]) dL_agree_231 (by decide) rfl ?_
          exact g_sub [3, 4, 5, 6, 7, 1, 0, 8, 2] rfl (gjb_L_agree_233 γ (lp_L_agree_184 n) ih a9 x3 x4 a12 x2 h1)
set_option maxRecDepth 20000 in
theorem gjb_L_agree_167 (γ : Gv)   (h : Hst) : G γ RL cL_agree 15 (some .boolean) [] vI 5 0 167 [] [] h (jb_L_agree_167 h) := by
  unfold jb_L_agree_167
  refine g_iconst (pc := 167) (v := 0) dL_agree_167 (by decide) ?_
  exact g_zreturn (pc := 168) dL_agree_168 rfl rfl
set_option maxRecDepth 20000 in
theorem gjb_L_agree_164 (γ : Gv) (R6 : Int32 → Int32 → Hst → Option (Int32 × Hst)) (hR6 : ∀ (a9 : Int32) (a10 : Int32) (h : Hst), G γ RL cL_agree 15 (some .boolean) [] vI 5 0 6 [(0, .ref (gad γ 0)), (1, .ref (gad γ 17)), (2, .ref (gad γ 19)), (3, .ref (gad γ 20)), (4, .ref (gad γ 21)), (5, .ref (gad γ 22)), (6, .ref (gad γ 23)), (7, .ref (gad γ 24)), (8, .ref (gad γ 25)), (9, .int a9), (10, .int a10)] [] h (R6 a9 a10 h)) (a9 : Int32) (a10 : Int32) (s0 : Int32) (s1 : Int32) (h : Hst) : G γ RL cL_agree 15 (some .boolean) [] vI 5 0 164 [(0, .ref (gad γ 0)), (1, .ref (gad γ 17)), (2, .ref (gad γ 19)), (3, .ref (gad γ 20)), (4, .ref (gad γ 21)), (5, .ref (gad γ 22)), (6, .ref (gad γ 23)), (7, .ref (gad γ 24)), (8, .ref (gad γ 25)), (9, .int a9), (10, .int a10)] [.int s0, .int s1] h (jb_L_agree_164 R6 a9 a10 s0 s1 h) := by
  unfold jb_L_agree_164
  refine g_icmp_eq (pc := 164) (tgt := 169) dL_agree_164 (by decide) ?_ ?_
  · refine g_iinc (pc := 169) (q := 10) (v := a10 + 1) (lv' := [(10, .int (a10 + 1)), (0, .ref (gad γ 0)), (1, .ref (gad γ 17)), (2, .ref (gad γ 19)), (3, .ref (gad γ 20)), (4, .ref (gad γ 21)), (5, .ref (gad γ 22)), (6, .ref (gad γ 23)), (7, .ref (gad γ 24)), (8, .ref (gad γ 25)), (9, .int a9)]) dL_agree_169 rfl rfl (by decide) rfl ?_
    refine g_goto (pc := 172) (tgt := 6) dL_agree_172 (by decide) ?_
    exact g_sub [1, 2, 3, 4, 5, 6, 7, 8, 9, 10, 0] rfl (hR6 a9 (a10 + 1) h)
  · exact g_sub [] rfl (gjb_L_agree_167 γ h)
set_option maxRecDepth 20000 in
theorem gjb_L_agree_139 (γ : Gv) (R6 : Int32 → Int32 → Hst → Option (Int32 × Hst)) (hR6 : ∀ (a9 : Int32) (a10 : Int32) (h : Hst), G γ RL cL_agree 15 (some .boolean) [] vI 5 0 6 [(0, .ref (gad γ 0)), (1, .ref (gad γ 17)), (2, .ref (gad γ 19)), (3, .ref (gad γ 20)), (4, .ref (gad γ 21)), (5, .ref (gad γ 22)), (6, .ref (gad γ 23)), (7, .ref (gad γ 24)), (8, .ref (gad γ 25)), (9, .int a9), (10, .int a10)] [] h (R6 a9 a10 h)) (a9 : Int32) (a10 : Int32) (a11 : Int32) (s0 : Int32) (s1 : Int32) (h : Hst) : G γ RL cL_agree 15 (some .boolean) [] vI 5 0 139 [(0, .ref (gad γ 0)), (1, .ref (gad γ 17)), (2, .ref (gad γ 19)), (3, .ref (gad γ 20)), (4, .ref (gad γ 21)), (5, .ref (gad γ 22)), (6, .ref (gad γ 23)), (7, .ref (gad γ 24)), (8, .ref (gad γ 25)), (9, .int a9), (10, .int a10), (11, .int a11)] [.int s0, .int s1] h (jb_L_agree_139 R6 a9 a10 a11 s0 s1 h) := by
  unfold jb_L_agree_139
  refine g_icmp_ne (pc := 139) (tgt := 167) dL_agree_139 (by decide) ?_ ?_
  · exact g_sub [] rfl (gjb_L_agree_167 γ h)
  · refine g_aload_n (pc := 142) dL_agree_142 rfl 0 rfl ?_
    refine g_iload (pc := 143) dL_agree_143 10 rfl ?_
    refine g_bipush (pc := 145) (v := 9) dL_agree_145 (by decide) ?_
    refine g_cI (pc := 147) (st := []) (fun r hr => gRunV (As := [.int a10, .int 9]) 0 (ge_X6_lot γ a10 9 h) hr wv_RL_41 rfl (Nat.le_of_ble_eq_true rfl) (gat_0 _ _) rfl rfl (Nat.le_of_ble_eq_true rfl) (Nat.le_of_ble_eq_true rfl) dL_agree_147) (fun x2 h1 => ?_)
    refine g_iload (pc := 150) dL_agree_150 11 rfl ?_
    refine g_if_ne (pc := 152) (tgt := 159) dL_agree_152 (by decide) ?_ ?_
    · refine g_aload (pc := 159) dL_agree_159 6 rfl ?_
      refine g_iload (pc := 161) dL_agree_161 10 rfl ?_
      refine g_iald (pc := 163) 23 (gat_23 _ _) dL_agree_163 ?_
      exact g_sub [0, 1, 2, 3, 4, 5, 6, 7, 8, 9, 10] rfl (gjb_L_agree_164 γ R6 hR6 a9 a10 (h1.1 23 a10.toNatClampNeg) x2 h1)
    · refine g_iconst (pc := 155) (v := (-1)) dL_agree_155 (by decide) ?_
      refine g_goto (pc := 156) (tgt := 164) dL_agree_156 (by decide) ?_
      exact g_sub [0, 1, 2, 3, 4, 5, 6, 7, 8, 9, 10] rfl (gjb_L_agree_164 γ R6 hR6 a9 a10 (-1) x2 h1)
set_option maxRecDepth 20000 in
theorem gjb_L_agree_113 (γ : Gv) (R6 : Int32 → Int32 → Hst → Option (Int32 × Hst)) (hR6 : ∀ (a9 : Int32) (a10 : Int32) (h : Hst), G γ RL cL_agree 15 (some .boolean) [] vI 5 0 6 [(0, .ref (gad γ 0)), (1, .ref (gad γ 17)), (2, .ref (gad γ 19)), (3, .ref (gad γ 20)), (4, .ref (gad γ 21)), (5, .ref (gad γ 22)), (6, .ref (gad γ 23)), (7, .ref (gad γ 24)), (8, .ref (gad γ 25)), (9, .int a9), (10, .int a10)] [] h (R6 a9 a10 h)) (a9 : Int32) (a10 : Int32) (a11 : Int32) (s0 : Int32) (s1 : Int32) (h : Hst) : G γ RL cL_agree 15 (some .boolean) [] vI 5 0 113 [(0, .ref (gad γ 0)), (1, .ref (gad γ 17)), (2, .ref (gad γ 19)), (3, .ref (gad γ 20)), (4, .ref (gad γ 21)), (5, .ref (gad γ 22)), (6, .ref (gad γ 23)), (7, .ref (gad γ 24)), (8, .ref (gad γ 25)), (9, .int a9), (10, .int a10), (11, .int a11)] [.int s0, .int s1] h (jb_L_agree_113 R6 a9 a10 a11 s0 s1 h) := by
  unfold jb_L_agree_113
  refine g_icmp_ne (pc := 113) (tgt := 167) dL_agree_113 (by decide) ?_ ?_
  · exact g_sub [] rfl (gjb_L_agree_167 γ h)
  · refine g_aload_n (pc := 116) dL_agree_116 rfl 0 rfl ?_
    refine g_iload (pc := 117) dL_agree_117 10 rfl ?_
    refine g_bipush (pc := 119) (v := 8) dL_agree_119 (by decide) ?_
    refine g_cI (pc := 121) (st := []) (fun r hr => gRunV (As := [.int a10, .int 8]) 0 (ge_X6_lot γ a10 8 h) hr wv_RL_41 rfl (Nat.le_of_ble_eq_true rfl) (gat_0 _ _) rfl rfl (Nat.le_of_ble_eq_true rfl) (Nat.le_of_ble_eq_true rfl) dL_agree_121) (fun x2 h1 => ?_)
    refine g_iload (pc := 124) dL_agree_124 11 rfl ?_
    refine g_iconst (pc := 126) (v := 2) dL_agree_126 (by decide) ?_
    refine g_icmp_ge (pc := 127) (tgt := 134) dL_agree_127 (by decide) ?_ ?_
    · refine g_aload (pc := 134) dL_agree_134 5 rfl ?_
      refine g_iload (pc := 136) dL_agree_136 10 rfl ?_
      refine g_iald (pc := 138) 22 (gat_22 _ _) dL_agree_138 ?_
      exact gjb_L_agree_139 γ R6 hR6 a9 a10 a11 (h1.1 22 a10.toNatClampNeg) x2 h1
    · refine g_iconst (pc := 130) (v := (-1)) dL_agree_130 (by decide) ?_
      refine g_goto (pc := 131) (tgt := 139) dL_agree_131 (by decide) ?_
      exact gjb_L_agree_139 γ R6 hR6 a9 a10 a11 (-1) x2 h1
set_option maxRecDepth 20000 in
theorem gjb_L_agree_88 (γ : Gv) (R6 : Int32 → Int32 → Hst → Option (Int32 × Hst)) (hR6 : ∀ (a9 : Int32) (a10 : Int32) (h : Hst), G γ RL cL_agree 15 (some .boolean) [] vI 5 0 6 [(0, .ref (gad γ 0)), (1, .ref (gad γ 17)), (2, .ref (gad γ 19)), (3, .ref (gad γ 20)), (4, .ref (gad γ 21)), (5, .ref (gad γ 22)), (6, .ref (gad γ 23)), (7, .ref (gad γ 24)), (8, .ref (gad γ 25)), (9, .int a9), (10, .int a10)] [] h (R6 a9 a10 h)) (a9 : Int32) (a10 : Int32) (a11 : Int32) (s0 : Int32) (s1 : Int32) (h : Hst) : G γ RL cL_agree 15 (some .boolean) [] vI 5 0 88 [(0, .ref (gad γ 0)), (1, .ref (gad γ 17)), (2, .ref (gad γ 19)), (3, .ref (gad γ 20)), (4, .ref (gad γ 21)), (5, .ref (gad γ 22)), (6, .ref (gad γ 23)), (7, .ref (gad γ 24)), (8, .ref (gad γ 25)), (9, .int a9), (10, .int a10), (11, .int a11)] [.int s0, .int s1] h (jb_L_agree_88 R6 a9 a10 a11 s0 s1 h) := by
  unfold jb_L_agree_88
  refine g_icmp_ne (pc := 88) (tgt := 167) dL_agree_88 (by decide) ?_ ?_
  · exact g_sub [] rfl (gjb_L_agree_167 γ h)
  · refine g_aload_n (pc := 91) dL_agree_91 rfl 0 rfl ?_
    refine g_iload (pc := 92) dL_agree_92 10 rfl ?_
    refine g_bipush (pc := 94) (v := 7) dL_agree_94 (by decide) ?_
    refine g_cI (pc := 96) (st := []) (fun r hr => gRunV (As := [.int a10, .int 7]) 0 (ge_X6_lot γ a10 7 h) hr wv_RL_41 rfl (Nat.le_of_ble_eq_true rfl) (gat_0 _ _) rfl rfl (Nat.le_of_ble_eq_true rfl) (Nat.le_of_ble_eq_true rfl) dL_agree_96) (fun x2 h1 => ?_)
    refine g_iload (pc := 99) dL_agree_99 11 rfl ?_
    refine g_if_ne (pc := 101) (tgt := 108) dL_agree_101 (by decide) ?_ ?_
    · refine g_aload (pc := 108) dL_agree_108 4 rfl ?_
      refine g_iload (pc := 110) dL_agree_110 10 rfl ?_
      refine g_iald (pc := 112) 21 (gat_21 _ _) dL_agree_112 ?_
      exact gjb_L_agree_113 γ R6 hR6 a9 a10 a11 (h1.1 21 a10.toNatClampNeg) x2 h1
    · refine g_iconst (pc := 104) (v := (-1)) dL_agree_104 (by decide) ?_
      refine g_goto (pc := 105) (tgt := 113) dL_agree_105 (by decide) ?_
      exact gjb_L_agree_113 γ R6 hR6 a9 a10 a11 (-1) x2 h1
set_option maxRecDepth 20000 in
theorem gjb_L_agree_33 (γ : Gv) (R6 : Int32 → Int32 → Hst → Option (Int32 × Hst)) (hR6 : ∀ (a9 : Int32) (a10 : Int32) (h : Hst), G γ RL cL_agree 15 (some .boolean) [] vI 5 0 6 [(0, .ref (gad γ 0)), (1, .ref (gad γ 17)), (2, .ref (gad γ 19)), (3, .ref (gad γ 20)), (4, .ref (gad γ 21)), (5, .ref (gad γ 22)), (6, .ref (gad γ 23)), (7, .ref (gad γ 24)), (8, .ref (gad γ 25)), (9, .int a9), (10, .int a10)] [] h (R6 a9 a10 h)) (a9 : Int32) (a10 : Int32) (a11 : Int32) (h : Hst) : G γ RL cL_agree 15 (some .boolean) [] vI 5 0 33 [(0, .ref (gad γ 0)), (1, .ref (gad γ 17)), (2, .ref (gad γ 19)), (3, .ref (gad γ 20)), (4, .ref (gad γ 21)), (5, .ref (gad γ 22)), (6, .ref (gad γ 23)), (7, .ref (gad γ 24)), (8, .ref (gad γ 25)), (9, .int a9), (10, .int a10), (11, .int a11)] [] h (jb_L_agree_33 R6 a9 a10 a11 h) := by
  unfold jb_L_agree_33
  refine g_aload_n (pc := 33) dL_agree_33 rfl 0 rfl ?_
  refine g_iload (pc := 34) dL_agree_34 10 rfl ?_
  refine g_iconst (pc := 36) (v := 4) dL_agree_36 (by decide) ?_
  refine g_cI (pc := 37) (st := []) (fun r hr => gRunV (As := [.int a10, .int 4]) 0 (ge_X6_lot γ a10 4 h) hr wv_RL_41 rfl (Nat.le_of_ble_eq_true rfl) (gat_0 _ _) rfl rfl (Nat.le_of_ble_eq_true rfl) (Nat.le_of_ble_eq_true rfl) dL_agree_37) (fun x2 h1 => ?_)
  refine g_aload_n (pc := 40) dL_agree_40 rfl 2 rfl ?_
  refine g_bipush (pc := 41) (v := 6) dL_agree_41 (by decide) ?_
  refine g_iload (pc := 43) dL_agree_43 10 rfl ?_
  refine g_imul (pc := 45) dL_agree_45 ?_
  refine g_iconst (pc := 46) (v := 3) dL_agree_46 (by decide) ?_
  refine g_iadd (pc := 47) dL_agree_47 ?_
  refine g_iald (pc := 48) 19 (gat_19 _ _) dL_agree_48 ?_
  refine g_cI (pc := 49) (st := [.int x2]) (fun r hr => gRunS (As := [.int (h1.1 19 ((6 * a10) + 3).toNatClampNeg)]) (ge_L_grade γ (h1.1 19 ((6 * a10) + 3).toNatClampNeg) h1) hr wv_RL_31 rfl (Nat.le_of_ble_eq_true rfl) rfl (Nat.le_of_ble_eq_true rfl) (Nat.le_of_ble_eq_true rfl) dL_agree_49) (fun x4 h3 => ?_)
  refine g_icmp_ne (pc := 52) (tgt := 167) dL_agree_52 (by decide) ?_ ?_
  · exact g_sub [] rfl (gjb_L_agree_167 γ h3)
  · refine g_aload_n (pc := 55) dL_agree_55 rfl 0 rfl ?_
    refine g_iload (pc := 56) dL_agree_56 10 rfl ?_
    refine g_iconst (pc := 58) (v := 5) dL_agree_58 (by decide) ?_
    refine g_cI (pc := 59) (st := []) (fun r hr => gRunV (As := [.int a10, .int 5]) 0 (ge_X6_lot γ a10 5 h3) hr wv_RL_41 rfl (Nat.le_of_ble_eq_true rfl) (gat_0 _ _) rfl rfl (Nat.le_of_ble_eq_true rfl) (Nat.le_of_ble_eq_true rfl) dL_agree_59) (fun x6 h5 => ?_)
    refine g_iload (pc := 62) dL_agree_62 11 rfl ?_
    refine g_icmp_ne (pc := 64) (tgt := 167) dL_agree_64 (by decide) ?_ ?_
    · exact g_sub [] rfl (gjb_L_agree_167 γ h5)
    · refine g_aload_n (pc := 67) dL_agree_67 rfl 0 rfl ?_
      refine g_iload (pc := 68) dL_agree_68 10 rfl ?_
      refine g_bipush (pc := 70) (v := 6) dL_agree_70 (by decide) ?_
      refine g_cI (pc := 72) (st := []) (fun r hr => gRunV (As := [.int a10, .int 6]) 0 (ge_X6_lot γ a10 6 h5) hr wv_RL_41 rfl (Nat.le_of_ble_eq_true rfl) (gat_0 _ _) rfl rfl (Nat.le_of_ble_eq_true rfl) (Nat.le_of_ble_eq_true rfl) dL_agree_72) (fun x8 h7 => ?_)
      refine g_iload (pc := 75) dL_agree_75 11 rfl ?_
      refine g_if_ne (pc := 77) (tgt := 84) dL_agree_77 (by decide) ?_ ?_
      · refine g_aload_n (pc := 84) dL_agree_84 rfl 3 rfl ?_
        refine g_iload (pc := 85) dL_agree_85 10 rfl ?_
        refine g_iald (pc := 87) 20 (gat_20 _ _) dL_agree_87 ?_
        exact gjb_L_agree_88 γ R6 hR6 a9 a10 a11 (h7.1 20 a10.toNatClampNeg) x8 h7
      · refine g_iconst (pc := 80) (v := (-1)) dL_agree_80 (by decide) ?_
        refine g_goto (pc := 81) (tgt := 88) dL_agree_81 (by decide) ?_
        exact gjb_L_agree_88 γ R6 hR6 a9 a10 a11 (-1) x8 h7
set_option maxRecDepth 20000 in
theorem glp_L_agree_6 (γ : Gv)  : ∀ (n : Nat) (a9 : Int32) (a10 : Int32) (h : Hst), G γ RL cL_agree 15 (some .boolean) [] vI 5 0 6 [(0, .ref (gad γ 0)), (1, .ref (gad γ 17)), (2, .ref (gad γ 19)), (3, .ref (gad γ 20)), (4, .ref (gad γ 21)), (5, .ref (gad γ 22)), (6, .ref (gad γ 23)), (7, .ref (gad γ 24)), (8, .ref (gad γ 25)), (9, .int a9), (10, .int a10)] [] h (lp_L_agree_6 n a9 a10 h) := by
  intro n
  induction n with
  | zero => intro a9 a10 h; exact g_none
  | succ n ih =>
    intro a9 a10 h
    rw [lp_L_agree_6]
    refine g_iload (pc := 6) dL_agree_6 10 rfl ?_
    refine g_aload_n (pc := 8) dL_agree_8 rfl 1 rfl ?_
    refine g_iconst (pc := 9) (v := 1) dL_agree_9 (by decide) ?_
    refine g_iald (pc := 10) 17 (gat_17 _ _) dL_agree_10 ?_
    refine g_icmp_ge (pc := 11) (tgt := 175) dL_agree_11 (by decide) ?_ ?_
    · refine g_iconst (pc := 175) (v := 0) dL_agree_175 (by decide) ?_
      refine g_istore (pc := 176) (lv' := [(10, .int 0), (0, .ref (gad γ 0)), (1, .ref (gad γ 17)), (2, .ref (gad γ 19)), (3, .ref (gad γ 20)), (4, .ref (gad γ 21)), (5, .ref (gad γ 22)), (6, .ref (gad γ 23)), (7, .ref (gad γ 24)), (8, .ref (gad γ 25)), (9, .int a9)]) dL_agree_176 (by decide) rfl ?_
      refine g_iconst (pc := 178) (v := 0) dL_agree_178 (by decide) ?_
      refine g_istore (pc := 179) (lv' := [(11, .int 0), (10, .int 0), (0, .ref (gad γ 0)), (1, .ref (gad γ 17)), (2, .ref (gad γ 19)), (3, .ref (gad γ 20)), (4, .ref (gad γ 21)), (5, .ref (gad γ 22)), (6, .ref (gad γ 23)), (7, .ref (gad γ 24)), (8, .ref (gad γ 25)), (9, .int a9)]) dL_agree_179 (by decide) rfl ?_
      refine g_iconst (pc := 181) (v := 0) dL_agree_181 (by decide) ?_
      refine g_istore (pc := 182) (lv' := [(12, .int 0), (11, .int 0), (10, .int 0), (0, .ref (gad γ 0)), (1, .ref (gad γ 17)), (2, .ref (gad γ 19)), (3, .ref (gad γ 20)), (4, .ref (gad γ 21)), (5, .ref (gad γ 22)), (6, .ref (gad γ 23)), (7, .ref (gad γ 24)), (8, .ref (gad γ 25)), (9, .int a9)]) dL_agree_182 (by decide) rfl ?_
      exact g_sub [3, 4, 10, 11, 12, 2, 1, 0] rfl (glp_L_agree_184 γ FU a9 0 0 0 h)
    · refine g_aload_n (pc := 14) dL_agree_14 rfl 2 rfl ?_
      refine g_bipush (pc := 15) (v := 6) dL_agree_15 (by decide) ?_
      refine g_iload (pc := 17) dL_agree_17 10 rfl ?_
      refine g_imul (pc := 19) dL_agree_19 ?_
      refine g_iconst (pc := 20) (v := 5) dL_agree_20 (by decide) ?_
      refine g_iadd (pc := 21) dL_agree_21 ?_
      refine g_iald (pc := 22) 19 (gat_19 _ _) dL_agree_22 ?_
      refine g_nmi (fun x1 => ?_)
      refine g_istore (pc := 23) (lv' := [(11, .int x1), (0, .ref (gad γ 0)), (1, .ref (gad γ 17)), (2, .ref (gad γ 19)), (3, .ref (gad γ 20)), (4, .ref (gad γ 21)), (5, .ref (gad γ 22)), (6, .ref (gad γ 23)), (7, .ref (gad γ 24)), (8, .ref (gad γ 25)), (9, .int a9), (10, .int a10)]) dL_agree_23 (by decide) rfl ?_
      refine g_iload (pc := 25) dL_agree_25 0 rfl ?_
      refine g_if_ne (pc := 27) (tgt := 33) dL_agree_27 (by decide) ?_ ?_
      · exact g_sub [1, 2, 3, 4, 5, 6, 7, 8, 9, 10, 11, 0] rfl (gjb_L_agree_33 γ (lp_L_agree_6 n) ih a9 a10 x1 h)
      · refine g_iinc (pc := 30) (q := 10) (v := a9 + 1) (lv' := [(9, .int (a9 + 1)), (11, .int x1), (0, .ref (gad γ 0)), (1, .ref (gad γ 17)), (2, .ref (gad γ 19)), (3, .ref (gad γ 20)), (4, .ref (gad γ 21)), (5, .ref (gad γ 22)), (6, .ref (gad γ 23)), (7, .ref (gad γ 24)), (8, .ref (gad γ 25)), (10, .int a10)]) dL_agree_30 rfl rfl (by decide) rfl ?_
        exact g_sub [2, 3, 4, 5, 6, 7, 8, 9, 10, 0, 11, 1] rfl (gjb_L_agree_33 γ (lp_L_agree_6 n) ih (a9 + 1) a10 x1 h)
set_option maxRecDepth 20000 in
theorem ge_L_agree (γ : Gv)  (h : Hst) : G γ RL cL_agree 15 (some .boolean) [] vI 5 0 0 (lv_args 0 [.ref (gad γ 0), .ref (gad γ 17), .ref (gad γ 19), .ref (gad γ 20), .ref (gad γ 21), .ref (gad γ 22), .ref (gad γ 23), .ref (gad γ 24), .ref (gad γ 25)]) [] h (f_L_agree h) := by
  show G γ RL cL_agree 15 (some .boolean) [] vI 5 0 0 [(0, .ref (gad γ 0)), (1, .ref (gad γ 17)), (2, .ref (gad γ 19)), (3, .ref (gad γ 20)), (4, .ref (gad γ 21)), (5, .ref (gad γ 22)), (6, .ref (gad γ 23)), (7, .ref (gad γ 24)), (8, .ref (gad γ 25))] [] h (f_L_agree h)
  unfold f_L_agree
  refine g_iconst (pc := 0) (v := 0) dL_agree_0 (by decide) ?_
  refine g_istore (pc := 1) (lv' := [(9, .int 0), (0, .ref (gad γ 0)), (1, .ref (gad γ 17)), (2, .ref (gad γ 19)), (3, .ref (gad γ 20)), (4, .ref (gad γ 21)), (5, .ref (gad γ 22)), (6, .ref (gad γ 23)), (7, .ref (gad γ 24)), (8, .ref (gad γ 25))]) dL_agree_1 (by decide) rfl ?_
  refine g_iconst (pc := 3) (v := 0) dL_agree_3 (by decide) ?_
  refine g_istore (pc := 4) (lv' := [(10, .int 0), (9, .int 0), (0, .ref (gad γ 0)), (1, .ref (gad γ 17)), (2, .ref (gad γ 19)), (3, .ref (gad γ 20)), (4, .ref (gad γ 21)), (5, .ref (gad γ 22)), (6, .ref (gad γ 23)), (7, .ref (gad γ 24)), (8, .ref (gad γ 25))]) dL_agree_4 (by decide) rfl ?_
  exact g_sub [2, 3, 4, 5, 6, 7, 8, 9, 10, 1, 0] rfl (glp_L_agree_6 γ FU 0 0 h)
def jb_L_law_292 (xs : Nat → Int32) (Lx : Nat)   (h : Hst) : Option (Int32 × Hst) :=
  (gzr 0 (some (0, h)))
def lp_L_law_220 (xs : Nat → Int32) (Lx : Nat) : Nat → Int32 → Hst → Option (Int32 × Hst)
  | 0, _, _ => none
  | n + 1, a12, h =>
    (if 50 ≤ a12 then
      (gzr 1 (some (1, h)))
    else
      gb (f_L_cell xs Lx (2 * a12) h) fun x2 h1 =>
      gb (f_L_cell xs Lx ((2 * a12) + 1) h1) fun x4 h3 =>
      gb (f_L_act x2 x4 h3) fun x6 h5 =>
      (if x6 = 0 then
        (jb_L_law_292 xs Lx h5)
      else
        gb (f_L_agree h5) fun x8 h7 =>
        (if x8 = 0 then
          (jb_L_law_292 xs Lx h7)
        else
          ((lp_L_law_220 xs Lx n) (a12 + 1) h7))))
def jb_L_law_179 (xs : Nat → Int32) (Lx : Nat) (R133 : Int32 → Hst → Option (Int32 × Hst)) (a12 : Int32) (s0 : Int32) (s1 : Int32) (s2 : Int32) (s3 : Int32) (h : Hst) : Option (Int32 × Hst) :=
  gb (f_L_at s1 s0 h) fun x2 h1 =>
  gck s3 28 (gl (hst h1 24 s3.toNatClampNeg (s2 + x2)) fun h3 =>
  gck (7 * a12) 28 (gb (f_X6_addTank (h3.1 24 (7 * a12).toNatClampNeg) h3) fun x5 h4 =>
  (if x5 = a12 then
    (R133 (a12 + 1) h4)
  else
    (gzr 0 (some (0, h4))))))
def lp_L_law_133 (xs : Nat → Int32) (Lx : Nat) : Nat → Int32 → Hst → Option (Int32 × Hst)
  | 0, _, _ => none
  | n + 1, a12, h =>
    (if 3 ≤ a12 then
      gck 0 15 (gl (hst h 17 (0 : Int32).toNatClampNeg 3) fun h1 =>
      gck 2 15 (gl (hst h1 17 (2 : Int32).toNatClampNeg 3) fun h2 =>
      (lp_L_law_220 xs Lx FU 2 h2)))
    else
      gb (f_X6_addGrower h) fun x4 h3 =>
      (if x4 = a12 then
        gb (f_L_cell xs Lx a12 h3) fun x6 h5 =>
        (if a12 = 0 then
          (jb_L_law_179 xs Lx (lp_L_law_133 xs Lx n) a12 900 x6 100 (7 * a12) h5)
        else
          (jb_L_law_179 xs Lx (lp_L_law_133 xs Lx n) a12 19901 x6 100 (7 * a12) h5))
      else
        (gzr 0 (some (0, h3)))))
def lp_L_law_107 (xs : Nat → Int32) (Lx : Nat) : Nat → Int32 → Hst → Option (Int32 × Hst)
  | 0, _, _ => none
  | n + 1, a12, h =>
    (if 5 ≤ a12 then
      (lp_L_law_133 xs Lx FU 0 h)
    else
      gb (f_X6_variety a12 0 h) fun x2 h1 =>
      gck a12 5 (gl (hst h1 18 a12.toNatClampNeg x2) fun h3 =>
      ((lp_L_law_107 xs Lx n) (a12 + 1) h3)))
set_option maxRecDepth 20000 in
theorem gjb_L_law_292 (γ : Gv)   (h : Hst) : G γ RL cL_law 13 (some .boolean) [] vI 8 0 292 [] [] h (jb_L_law_292 (gxs γ) (gLx γ) h) := by
  unfold jb_L_law_292
  refine g_iconst (pc := 292) (v := 0) dL_law_292 (by decide) ?_
  exact g_zreturn (pc := 293) dL_law_293 rfl rfl
set_option maxRecDepth 20000 in
theorem glp_L_law_220 (γ : Gv)  : ∀ (n : Nat) (a12 : Int32) (h : Hst), G γ RL cL_law 13 (some .boolean) [] vI 8 0 220 [(0, .ref (gscr γ)), (1, .ref (gad γ 0)), (2, .ref (gad γ 17)), (3, .ref (gad γ 18)), (4, .ref (gad γ 19)), (5, .ref (gad γ 20)), (6, .ref (gad γ 21)), (7, .ref (gad γ 22)), (8, .ref (gad γ 23)), (9, .ref (gad γ 24)), (10, .ref (gad γ 25)), (11, .ref (gad γ 26)), (12, .int a12)] [] h (lp_L_law_220 (gxs γ) (gLx γ) n a12 h) := by
  intro n
  induction n with
  | zero => intro a12 h; exact g_none
  | succ n ih =>
    intro a12 h
    rw [lp_L_law_220]
    refine g_iload (pc := 220) dL_law_220 12 rfl ?_
    refine g_bipush (pc := 222) (v := 50) dL_law_222 (by decide) ?_
    refine g_icmp_ge (pc := 224) (tgt := 300) dL_law_224 (by decide) ?_ ?_
    · refine g_iconst (pc := 300) (v := 1) dL_law_300 (by decide) ?_
      exact g_zreturn (pc := 301) dL_law_301 rfl rfl
    · refine g_aload_n (pc := 227) dL_law_227 rfl 1 rfl ?_
      refine g_aload_n (pc := 228) dL_law_228 rfl 0 rfl ?_
      refine g_iconst (pc := 229) (v := 2) dL_law_229 (by decide) ?_
      refine g_iload (pc := 230) dL_law_230 12 rfl ?_
      refine g_imul (pc := 232) dL_law_232 ?_
      refine g_cI (pc := 233) (st := [.ref (gad γ 0)]) (fun r hr => gRunS (As := [.ref (gscr γ), .int (2 * a12)]) (ge_L_cell γ (2 * a12) h) hr wv_RL_107 rfl (Nat.le_of_ble_eq_true rfl) rfl (Nat.le_of_ble_eq_true rfl) (Nat.le_of_ble_eq_true rfl) dL_law_233) (fun x2 h1 => ?_)
      refine g_aload_n (pc := 236) dL_law_236 rfl 0 rfl ?_
      refine g_iconst (pc := 237) (v := 2) dL_law_237 (by decide) ?_
      refine g_iload (pc := 238) dL_law_238 12 rfl ?_
      refine g_imul (pc := 240) dL_law_240 ?_
      refine g_iconst (pc := 241) (v := 1) dL_law_241 (by decide) ?_
      refine g_iadd (pc := 242) dL_law_242 ?_
      refine g_cI (pc := 243) (st := [.int x2, .ref (gad γ 0)]) (fun r hr => gRunS (As := [.ref (gscr γ), .int ((2 * a12) + 1)]) (ge_L_cell γ ((2 * a12) + 1) h1) hr wv_RL_107 rfl (Nat.le_of_ble_eq_true rfl) rfl (Nat.le_of_ble_eq_true rfl) (Nat.le_of_ble_eq_true rfl) dL_law_243) (fun x4 h3 => ?_)
      refine g_aload_n (pc := 246) dL_law_246 rfl 2 rfl ?_
      refine g_aload_n (pc := 247) dL_law_247 rfl 3 rfl ?_
      refine g_aload (pc := 248) dL_law_248 4 rfl ?_
      refine g_aload (pc := 250) dL_law_250 5 rfl ?_
      refine g_aload (pc := 252) dL_law_252 6 rfl ?_
      refine g_aload (pc := 254) dL_law_254 7 rfl ?_
      refine g_aload (pc := 256) dL_law_256 8 rfl ?_
      refine g_aload (pc := 258) dL_law_258 9 rfl ?_
      refine g_aload (pc := 260) dL_law_260 10 rfl ?_
      refine g_aload (pc := 262) dL_law_262 11 rfl ?_
      refine g_cI (pc := 264) (st := []) (fun r hr => gRunS (As := [.ref (gad γ 0), .int x2, .int x4, .ref (gad γ 17), .ref (gad γ 18), .ref (gad γ 19), .ref (gad γ 20), .ref (gad γ 21), .ref (gad γ 22), .ref (gad γ 23), .ref (gad γ 24), .ref (gad γ 25), .ref (gad γ 26)]) (ge_L_act γ x2 x4 h3) hr wv_RL_113 rfl (Nat.le_of_ble_eq_true rfl) rfl (Nat.le_of_ble_eq_true rfl) (Nat.le_of_ble_eq_true rfl) dL_law_264) (fun x6 h5 => ?_)
      refine g_if_eq (pc := 267) (tgt := 292) dL_law_267 (by decide) ?_ ?_
      · exact g_sub [] rfl (gjb_L_law_292 γ h5)
      · refine g_aload_n (pc := 270) dL_law_270 rfl 1 rfl ?_
        refine g_aload_n (pc := 271) dL_law_271 rfl 2 rfl ?_
        refine g_aload (pc := 272) dL_law_272 4 rfl ?_
        refine g_aload (pc := 274) dL_law_274 5 rfl ?_
        refine g_aload (pc := 276) dL_law_276 6 rfl ?_
        refine g_aload (pc := 278) dL_law_278 7 rfl ?_
        refine g_aload (pc := 280) dL_law_280 8 rfl ?_
        refine g_aload (pc := 282) dL_law_282 9 rfl ?_
        refine g_aload (pc := 284) dL_law_284 10 rfl ?_
        refine g_cI (pc := 286) (st := []) (fun r hr => gRunS (As := [.ref (gad γ 0), .ref (gad γ 17), .ref (gad γ 19), .ref (gad γ 20), .ref (gad γ 21), .ref (gad γ 22), .ref (gad γ 23), .ref (gad γ 24), .ref (gad γ 25)]) (ge_L_agree γ h5) hr wv_RL_117 rfl (Nat.le_of_ble_eq_true rfl) rfl (Nat.le_of_ble_eq_true rfl) (Nat.le_of_ble_eq_true rfl) dL_law_286) (fun x8 h7 => ?_)
        refine g_if_ne (pc := 289) (tgt := 294) dL_law_289 (by decide) ?_ ?_
        · refine g_iinc (pc := 294) (q := 12) (v := a12 + 1) (lv' := [(12, .int (a12 + 1)), (0, .ref (gscr γ)), (1, .ref (gad γ 0)), (2, .ref (gad γ 17)), (3, .ref (gad γ 18)), (4, .ref (gad γ 19)), (5, .ref (gad γ 20)), (6, .ref (gad γ 21)), (7, .ref (gad γ 22)), (8, .ref (gad γ 23)), (9, .ref (gad γ 24)), (10, .ref (gad γ 25)), (11, .ref (gad γ 26))]) dL_law_294 rfl rfl (by decide) rfl ?_
          refine g_goto (pc := 297) (tgt := 220) dL_law_297 (by decide) ?_
          exact g_sub [1, 2, 3, 4, 5, 6, 7, 8, 9, 10, 11, 12, 0] rfl (ih (a12 + 1) h7)
        · exact g_sub [] rfl (gjb_L_law_292 γ h7)
set_option maxRecDepth 20000 in
theorem gjb_L_law_179 (γ : Gv) (R133 : Int32 → Hst → Option (Int32 × Hst)) (hR133 : ∀ (a12 : Int32) (h : Hst), G γ RL cL_law 13 (some .boolean) [] vI 8 0 133 [(0, .ref (gscr γ)), (1, .ref (gad γ 0)), (2, .ref (gad γ 17)), (3, .ref (gad γ 18)), (4, .ref (gad γ 19)), (5, .ref (gad γ 20)), (6, .ref (gad γ 21)), (7, .ref (gad γ 22)), (8, .ref (gad γ 23)), (9, .ref (gad γ 24)), (10, .ref (gad γ 25)), (11, .ref (gad γ 26)), (12, .int a12)] [] h (R133 a12 h)) (a12 : Int32) (s0 : Int32) (s1 : Int32) (s2 : Int32) (s3 : Int32) (h : Hst) : G γ RL cL_law 13 (some .boolean) [] vI 8 0 179 [(0, .ref (gscr γ)), (1, .ref (gad γ 0)), (2, .ref (gad γ 17)), (3, .ref (gad γ 18)), (4, .ref (gad γ 19)), (5, .ref (gad γ 20)), (6, .ref (gad γ 21)), (7, .ref (gad γ 22)), (8, .ref (gad γ 23)), (9, .ref (gad γ 24)), (10, .ref (gad γ 25)), (11, .ref (gad γ 26)), (12, .int a12)] [.int s0, .int s1, .int s2, .int s3, .ref (gad γ 24)] h (jb_L_law_179 (gxs γ) (gLx γ) R133 a12 s0 s1 s2 s3 h) := by
  unfold jb_L_law_179
  refine g_cI (pc := 179) (st := [.int s2, .int s3, .ref (gad γ 24)]) (fun r hr => gRunS (As := [.int s1, .int s0]) (ge_L_at γ s1 s0 h) hr wv_RL_14 rfl (Nat.le_of_ble_eq_true rfl) rfl (Nat.le_of_ble_eq_true rfl) (Nat.le_of_ble_eq_true rfl) dL_law_179) (fun x2 h1 => ?_)
  refine g_iadd (pc := 182) dL_law_182 ?_
  refine g_iast (pc := 183) 24 (gat_24 _ _) (gset_24 _ _ _) dL_law_183 ?_
  refine g_nmh (fun h3 => ?_)
  refine g_aload_n (pc := 184) dL_law_184 rfl 1 rfl ?_
  refine g_aload (pc := 185) dL_law_185 9 rfl ?_
  refine g_bipush (pc := 187) (v := 7) dL_law_187 (by decide) ?_
  refine g_iload (pc := 189) dL_law_189 12 rfl ?_
  refine g_imul (pc := 191) dL_law_191 ?_
  refine g_iald (pc := 192) 24 (gat_24 _ _) dL_law_192 ?_
  refine g_cI (pc := 193) (st := []) (fun r hr => gRunV (As := [.int (h3.1 24 (7 * a12).toNatClampNeg)]) 0 (ge_X6_addTank γ (h3.1 24 (7 * a12).toNatClampNeg) h3) hr wv_RL_110 rfl (Nat.le_of_ble_eq_true rfl) (gat_0 _ _) rfl rfl (Nat.le_of_ble_eq_true rfl) (Nat.le_of_ble_eq_true rfl) dL_law_193) (fun x5 h4 => ?_)
  refine g_iload (pc := 196) dL_law_196 12 rfl ?_
  refine g_icmp_eq (pc := 198) (tgt := 203) dL_law_198 (by decide) ?_ ?_
  · refine g_iinc (pc := 203) (q := 12) (v := a12 + 1) (lv' := [(12, .int (a12 + 1)), (0, .ref (gscr γ)), (1, .ref (gad γ 0)), (2, .ref (gad γ 17)), (3, .ref (gad γ 18)), (4, .ref (gad γ 19)), (5, .ref (gad γ 20)), (6, .ref (gad γ 21)), (7, .ref (gad γ 22)), (8, .ref (gad γ 23)), (9, .ref (gad γ 24)), (10, .ref (gad γ 25)), (11, .ref (gad γ 26))]) dL_law_203 rfl rfl (by decide) rfl ?_
    refine g_goto (pc := 206) (tgt := 133) dL_law_206 (by decide) ?_
    exact g_sub [1, 2, 3, 4, 5, 6, 7, 8, 9, 10, 11, 12, 0] rfl (hR133 (a12 + 1) h4)
  · refine g_iconst (pc := 201) (v := 0) dL_law_201 (by decide) ?_
    exact g_zreturn (pc := 202) dL_law_202 rfl rfl
set_option maxRecDepth 20000 in
theorem glp_L_law_133 (γ : Gv)  : ∀ (n : Nat) (a12 : Int32) (h : Hst), G γ RL cL_law 13 (some .boolean) [] vI 8 0 133 [(0, .ref (gscr γ)), (1, .ref (gad γ 0)), (2, .ref (gad γ 17)), (3, .ref (gad γ 18)), (4, .ref (gad γ 19)), (5, .ref (gad γ 20)), (6, .ref (gad γ 21)), (7, .ref (gad γ 22)), (8, .ref (gad γ 23)), (9, .ref (gad γ 24)), (10, .ref (gad γ 25)), (11, .ref (gad γ 26)), (12, .int a12)] [] h (lp_L_law_133 (gxs γ) (gLx γ) n a12 h) := by
  intro n
  induction n with
  | zero => intro a12 h; exact g_none
  | succ n ih =>
    intro a12 h
    rw [lp_L_law_133]
    refine g_iload (pc := 133) dL_law_133 12 rfl ?_
    refine g_iconst (pc := 135) (v := 3) dL_law_135 (by decide) ?_
    refine g_icmp_ge (pc := 136) (tgt := 209) dL_law_136 (by decide) ?_ ?_
    · refine g_aload_n (pc := 209) dL_law_209 rfl 2 rfl ?_
      refine g_iconst (pc := 210) (v := 0) dL_law_210 (by decide) ?_
      refine g_iconst (pc := 211) (v := 3) dL_law_211 (by decide) ?_
      refine g_iast (pc := 212) 17 (gat_17 _ _) (gset_17 _ _ _) dL_law_212 ?_
      refine g_nmh (fun h1 => ?_)
      refine g_aload_n (pc := 213) dL_law_213 rfl 2 rfl ?_
      refine g_iconst (pc := 214) (v := 2) dL_law_214 (by decide) ?_
      refine g_iconst (pc := 215) (v := 3) dL_law_215 (by decide) ?_
      refine g_iast (pc := 216) 17 (gat_17 _ _) (gset_17 _ _ _) dL_law_216 ?_
      refine g_nmh (fun h2 => ?_)
      refine g_iconst (pc := 217) (v := 2) dL_law_217 (by decide) ?_
      refine g_istore (pc := 218) (lv' := [(12, .int 2), (0, .ref (gscr γ)), (1, .ref (gad γ 0)), (2, .ref (gad γ 17)), (3, .ref (gad γ 18)), (4, .ref (gad γ 19)), (5, .ref (gad γ 20)), (6, .ref (gad γ 21)), (7, .ref (gad γ 22)), (8, .ref (gad γ 23)), (9, .ref (gad γ 24)), (10, .ref (gad γ 25)), (11, .ref (gad γ 26))]) dL_law_218 (by decide) rfl ?_
      exact g_sub [1, 2, 3, 4, 5, 6, 7, 8, 9, 10, 11, 12, 0] rfl (glp_L_law_220 γ FU 2 h2)
    · refine g_aload_n (pc := 139) dL_law_139 rfl 1 rfl ?_
      refine g_cI (pc := 140) (st := []) (fun r hr => gRunV (As := []) 0 (ge_X6_addGrower γ h) hr wv_RL_104 rfl (Nat.le_of_ble_eq_true rfl) (gat_0 _ _) rfl rfl (Nat.le_of_ble_eq_true rfl) (Nat.le_of_ble_eq_true rfl) dL_law_140) (fun x4 h3 => ?_)
      refine g_iload (pc := 143) dL_law_143 12 rfl ?_
      refine g_icmp_eq (pc := 145) (tgt := 150) dL_law_145 (by decide) ?_ ?_
      · refine g_aload (pc := 150) dL_law_150 9 rfl ?_
        refine g_bipush (pc := 152) (v := 7) dL_law_152 (by decide) ?_
        refine g_iload (pc := 154) dL_law_154 12 rfl ?_
        refine g_imul (pc := 156) dL_law_156 ?_
        refine g_bipush (pc := 157) (v := 100) dL_law_157 (by decide) ?_
        refine g_aload_n (pc := 159) dL_law_159 rfl 0 rfl ?_
        refine g_iload (pc := 160) dL_law_160 12 rfl ?_
        refine g_cI (pc := 162) (st := [.int 100, .int (7 * a12), .ref (gad γ 24)]) (fun r hr => gRunS (As := [.ref (gscr γ), .int a12]) (ge_L_cell γ a12 h3) hr wv_RL_107 rfl (Nat.le_of_ble_eq_true rfl) rfl (Nat.le_of_ble_eq_true rfl) (Nat.le_of_ble_eq_true rfl) dL_law_162) (fun x6 h5 => ?_)
        refine g_iload (pc := 165) dL_law_165 12 rfl ?_
        refine g_if_ne (pc := 167) (tgt := 176) dL_law_167 (by decide) ?_ ?_
        · refine g_sipush (pc := 176) (v := 19901) dL_law_176 (by decide) ?_
          exact gjb_L_law_179 γ (lp_L_law_133 (gxs γ) (gLx γ) n) ih a12 19901 x6 100 (7 * a12) h5
        · refine g_sipush (pc := 170) (v := 900) dL_law_170 (by decide) ?_
          refine g_goto (pc := 173) (tgt := 179) dL_law_173 (by decide) ?_
          exact gjb_L_law_179 γ (lp_L_law_133 (gxs γ) (gLx γ) n) ih a12 900 x6 100 (7 * a12) h5
      · refine g_iconst (pc := 148) (v := 0) dL_law_148 (by decide) ?_
        exact g_zreturn (pc := 149) dL_law_149 rfl rfl
set_option maxRecDepth 20000 in
theorem glp_L_law_107 (γ : Gv)  : ∀ (n : Nat) (a12 : Int32) (h : Hst), G γ RL cL_law 13 (some .boolean) [] vI 8 0 107 [(0, .ref (gscr γ)), (1, .ref (gad γ 0)), (2, .ref (gad γ 17)), (3, .ref (gad γ 18)), (4, .ref (gad γ 19)), (5, .ref (gad γ 20)), (6, .ref (gad γ 21)), (7, .ref (gad γ 22)), (8, .ref (gad γ 23)), (9, .ref (gad γ 24)), (10, .ref (gad γ 25)), (11, .ref (gad γ 26)), (12, .int a12)] [] h (lp_L_law_107 (gxs γ) (gLx γ) n a12 h) := by
  intro n
  induction n with
  | zero => intro a12 h; exact g_none
  | succ n ih =>
    intro a12 h
    rw [lp_L_law_107]
    refine g_iload (pc := 107) dL_law_107 12 rfl ?_
    refine g_iconst (pc := 109) (v := 5) dL_law_109 (by decide) ?_
    refine g_icmp_ge (pc := 110) (tgt := 130) dL_law_110 (by decide) ?_ ?_
    · refine g_iconst (pc := 130) (v := 0) dL_law_130 (by decide) ?_
      refine g_istore (pc := 131) (lv' := [(12, .int 0), (0, .ref (gscr γ)), (1, .ref (gad γ 0)), (2, .ref (gad γ 17)), (3, .ref (gad γ 18)), (4, .ref (gad γ 19)), (5, .ref (gad γ 20)), (6, .ref (gad γ 21)), (7, .ref (gad γ 22)), (8, .ref (gad γ 23)), (9, .ref (gad γ 24)), (10, .ref (gad γ 25)), (11, .ref (gad γ 26))]) dL_law_131 (by decide) rfl ?_
      exact g_sub [1, 2, 3, 4, 5, 6, 7, 8, 9, 10, 11, 12, 0] rfl (glp_L_law_133 γ FU 0 h)
    · refine g_aload_n (pc := 113) dL_law_113 rfl 3 rfl ?_
      refine g_iload (pc := 114) dL_law_114 12 rfl ?_
      refine g_aload_n (pc := 116) dL_law_116 rfl 1 rfl ?_
      refine g_iload (pc := 117) dL_law_117 12 rfl ?_
      refine g_iconst (pc := 119) (v := 0) dL_law_119 (by decide) ?_
      refine g_cI (pc := 120) (st := [.int a12, .ref (gad γ 18)]) (fun r hr => gRunV (As := [.int a12, .int 0]) 0 (ge_X6_variety γ a12 0 h) hr wv_RL_101 rfl (Nat.le_of_ble_eq_true rfl) (gat_0 _ _) rfl rfl (Nat.le_of_ble_eq_true rfl) (Nat.le_of_ble_eq_true rfl) dL_law_120) (fun x2 h1 => ?_)
      refine g_iast (pc := 123) 18 (gat_18 _ _) (gset_18 _ _ _) dL_law_123 ?_
      refine g_nmh (fun h3 => ?_)
      refine g_iinc (pc := 124) (q := 12) (v := a12 + 1) (lv' := [(12, .int (a12 + 1)), (0, .ref (gscr γ)), (1, .ref (gad γ 0)), (2, .ref (gad γ 17)), (3, .ref (gad γ 18)), (4, .ref (gad γ 19)), (5, .ref (gad γ 20)), (6, .ref (gad γ 21)), (7, .ref (gad γ 22)), (8, .ref (gad γ 23)), (9, .ref (gad γ 24)), (10, .ref (gad γ 25)), (11, .ref (gad γ 26))]) dL_law_124 rfl rfl (by decide) rfl ?_
      refine g_goto (pc := 127) (tgt := 107) dL_law_127 (by decide) ?_
      exact g_sub [1, 2, 3, 4, 5, 6, 7, 8, 9, 10, 11, 12, 0] rfl (ih (a12 + 1) h3)
