def jb_L_takes_274   (h : Hst) : Option (Int32 × Hst) :=
  (gzr 1 (some (1, h)))
def jb_L_takes_365  (s0 : Int32) (h : Hst) : Option (Int32 × Hst) :=
  (gzr s0 (some (s0, h)))
def lp_L_takes_290 : Nat → Int32 → Int32 → Int32 → Int32 → Int32 → Hst → Option (Int32 × Hst)
  | 0, _, _, _, _, _, _ => none
  | n + 1, a7, a8, a9, a10, a11, h =>
    (if 5 ≤ a11 then
      gb (f_X6_move a7 a9 a8 1 h) fun x2 h1 =>
      gb (f_L_oil a9 h1) fun x4 h3 =>
      (if x2 = x4 then
        (jb_L_takes_365 1 h3)
      else
        (jb_L_takes_365 0 h3))
    else
      gl (((7 * a7) + 2) + a11) fun x5 =>
      gck x5 28 (gck a11 5 (gck x5 28 (gl (hst h 24 x5.toNatClampNeg ((h.1 24 x5.toNatClampNeg) - (h.1 26 a11.toNatClampNeg))) fun h6 =>
      gck a11 5 (gbv (f_L_pour a9 a11 (h6.1 26 a11.toNatClampNeg) a10 h6) fun h7 =>
      ((lp_L_takes_290 n) a7 a8 a9 a10 (a11 + 1) h7))))))
def jb_L_takes_221  (s0 : Int32) (h : Hst) : Option (Int32 × Hst) :=
  (gzr s0 (some (s0, h)))
def lp_L_takes_155 : Nat → Int32 → Int32 → Int32 → Int32 → Hst → Option (Int32 × Hst)
  | 0, _, _, _, _, _ => none
  | n + 1, a7, a8, a9, a10, h =>
    (if 5 ≤ a10 then
      gck a9 4 (gck a9 4 (gl (hst h 25 a9.toNatClampNeg ((h.1 25 a9.toNatClampNeg) - a8)) fun h1 =>
      gb (f_X6_draw a9 a7 a8 h1) fun x3 h2 =>
      gck a9 4 ((if x3 = (h2.1 25 a9.toNatClampNeg) then
        (jb_L_takes_221 1 h2)
      else
        (jb_L_takes_221 0 h2)))))
    else
      gl (((7 * a7) + 2) + a10) fun x4 =>
      gck x4 28 (gck a10 5 (gck x4 28 (gl (hst h 24 x4.toNatClampNeg ((h.1 24 x4.toNatClampNeg) - (h.1 26 a10.toNatClampNeg))) fun h5 =>
      ((lp_L_takes_155 n) a7 a8 a9 (a10 + 1) h5)))))
def lp_L_takes_120 : Nat → Int32 → Int32 → Int32 → Int32 → Hst → Option (Int32 × Hst)
  | 0, _, _, _, _, _ => none
  | n + 1, a7, a8, a9, a10, h =>
    (if 5 ≤ a10 then
      (lp_L_takes_155 FU a7 a8 a9 0 h)
    else
      gb (f_X6_taken a7 a8 a10 h) fun x2 h1 =>
      gck a10 5 ((if x2 = (h1.1 26 a10.toNatClampNeg) then
        ((lp_L_takes_120 n) a7 a8 a9 (a10 + 1) h1)
      else
        (gzr 0 (some (0, h1))))))
def jb_L_takes_104  (a7 : Int32) (a9 : Int32) (s0 : Int32) (h : Hst) : Option (Int32 × Hst) :=
  gbv (f_L_shares a7 s0 h) fun h1 =>
  (lp_L_takes_120 FU a7 s0 a9 0 h1)
def jb_L_takes_36  (s0 : Int32) (h : Hst) : Option (Int32 × Hst) :=
  (gzr s0 (some (s0, h)))
def f_L_takes (p1 : Int32) (p2 : Int32) (h : Hst) : Option (Int32 × Hst) :=
  gck 2 15 (gb (f_L_at p1 (h.1 17 (2 : Int32).toNatClampNeg) h) fun x2 h1 =>
  gb (f_L_oil x2 h1) fun x4 h3 =>
  (if x4 = 0 then
    gb (f_X6_taken x2 1 0 h3) fun x21 h20 =>
    (if x21 = (-1) then
      (jb_L_takes_36 1 h20)
    else
      (jb_L_takes_36 0 h20))
  else
    gb (f_L_oil x2 h3) fun x6 h5 =>
    gb (f_L_at p2 x6 h5) fun x8 h7 =>
    gl (1 + x8) fun x9 =>
    gb (f_L_at (p1 >>> (4 &&& 31)) 2 h7) fun x11 h10 =>
    (if x11 = 0 then
      gck 0 15 (gb (f_L_at (p1 >>> (6 &&& 31)) (h10.1 17 (0 : Int32).toNatClampNeg) h10) fun x19 h18 =>
      gck x19 4 ((if (h18.1 25 x19.toNatClampNeg) = 0 then
        (gzr 1 (some (1, h18)))
      else
        gck x19 4 ((if x9 ≤ (h18.1 25 x19.toNatClampNeg) then
          (jb_L_takes_104 x2 x19 x9 h18)
        else
          gck x19 4 ((jb_L_takes_104 x2 x19 (h18.1 25 x19.toNatClampNeg) h18)))))))
    else
      gck 2 15 (gb (f_L_at (p1 >>> (6 &&& 31)) (h10.1 17 (2 : Int32).toNatClampNeg) h10) fun x13 h12 =>
      gck ((7 * x2) + 1) 28 (gl (h12.1 24 ((7 * x2) + 1).toNatClampNeg) fun x14 =>
      (if x13 = x2 then
        (jb_L_takes_274 h12)
      else
        gck (7 * x13) 28 (gb (f_L_oil x13 h12) fun x16 h15 =>
        (if x9 ≤ ((h12.1 24 (7 * x13).toNatClampNeg) - x16) then
          gbv (f_L_shares x2 x9 h15) fun h17 =>
          (lp_L_takes_290 FU x2 x9 x13 x14 0 h17)
        else
          (jb_L_takes_274 h15)))))))))
set_option maxRecDepth 20000 in
theorem gjb_L_takes_274 (γ : Gv)   (h : Hst) : G γ RL cL_takes 12 (some .boolean) [] vI 5 0 274 [] [] h (jb_L_takes_274 h) := by
  unfold jb_L_takes_274
  refine g_iconst (pc := 274) (v := 1) dL_takes_274 (by decide) ?_
  exact g_zreturn (pc := 275) dL_takes_275 rfl rfl
set_option maxRecDepth 20000 in
theorem gjb_L_takes_365 (γ : Gv)  (s0 : Int32) (h : Hst) : G γ RL cL_takes 12 (some .boolean) [] vI 5 0 365 [] [.int s0] h (jb_L_takes_365 s0 h) := by
  unfold jb_L_takes_365
  exact g_zreturn (pc := 365) dL_takes_365 rfl rfl
set_option maxRecDepth 20000 in
theorem glp_L_takes_290 (γ : Gv)  : ∀ (n : Nat) (a7 : Int32) (a8 : Int32) (a9 : Int32) (a10 : Int32) (a11 : Int32) (h : Hst), G γ RL cL_takes 12 (some .boolean) [] vI 5 0 290 [(0, .ref (gad γ 0)), (4, .ref (gad γ 24)), (6, .ref (gad γ 26)), (7, .int a7), (8, .int a8), (9, .int a9), (10, .int a10), (11, .int a11)] [] h (lp_L_takes_290 n a7 a8 a9 a10 a11 h) := by
  intro n
  induction n with
  | zero => intro a7 a8 a9 a10 a11 h; exact g_none
  | succ n ih =>
    intro a7 a8 a9 a10 a11 h
    rw [lp_L_takes_290]
    refine g_iload (pc := 290) dL_takes_290 7 rfl ?_
    refine g_iconst (pc := 292) (v := 5) dL_takes_292 (by decide) ?_
    refine g_icmp_ge (pc := 293) (tgt := 339) dL_takes_293 (by decide) ?_ ?_
    · refine g_aload_n (pc := 339) dL_takes_339 rfl 0 rfl ?_
      refine g_iload (pc := 340) dL_takes_340 3 rfl ?_
      refine g_iload (pc := 342) dL_takes_342 5 rfl ?_
      refine g_iload (pc := 344) dL_takes_344 4 rfl ?_
      refine g_iconst (pc := 346) (v := 1) dL_takes_346 (by decide) ?_
      refine g_cI (pc := 347) (st := []) (fun r hr => gRunV (As := [.int a7, .int a9, .int a8, .int 1]) 0 (ge_X6_move γ a7 a9 a8 1 h) hr wv_RL_58 rfl (Nat.le_of_ble_eq_true rfl) (gat_0 _ _) rfl rfl (Nat.le_of_ble_eq_true rfl) (Nat.le_of_ble_eq_true rfl) dL_takes_347) (fun x2 h1 => ?_)
      refine g_aload (pc := 350) dL_takes_350 1 rfl ?_
      refine g_iload (pc := 352) dL_takes_352 5 rfl ?_
      refine g_cI (pc := 354) (st := [.int x2]) (fun r hr => gRunS (As := [.ref (gad γ 24), .int a9]) (ge_L_oil γ a9 h1) hr wv_RL_8 rfl (Nat.le_of_ble_eq_true rfl) rfl (Nat.le_of_ble_eq_true rfl) (Nat.le_of_ble_eq_true rfl) dL_takes_354) (fun x4 h3 => ?_)
      refine g_icmp_ne (pc := 357) (tgt := 364) dL_takes_357 (by decide) ?_ ?_
      · refine g_iconst (pc := 364) (v := 0) dL_takes_364 (by decide) ?_
        exact g_sub [] rfl (gjb_L_takes_365 γ 0 h3)
      · refine g_iconst (pc := 360) (v := 1) dL_takes_360 (by decide) ?_
        refine g_goto (pc := 361) (tgt := 365) dL_takes_361 (by decide) ?_
        exact g_sub [] rfl (gjb_L_takes_365 γ 1 h3)
    · refine g_aload (pc := 296) dL_takes_296 1 rfl ?_
      refine g_bipush (pc := 298) (v := 7) dL_takes_298 (by decide) ?_
      refine g_iload (pc := 300) dL_takes_300 3 rfl ?_
      refine g_imul (pc := 302) dL_takes_302 ?_
      refine g_iconst (pc := 303) (v := 2) dL_takes_303 (by decide) ?_
      refine g_iadd (pc := 304) dL_takes_304 ?_
      refine g_iload (pc := 305) dL_takes_305 7 rfl ?_
      refine g_iadd (pc := 307) dL_takes_307 ?_
      refine g_nmi (fun x5 => ?_)
      refine g_dup2 (pc := 308) dL_takes_308 rfl rfl ?_
      refine g_iald (pc := 309) 24 (gat_24 _ _) dL_takes_309 ?_
      refine g_aload (pc := 310) dL_takes_310 2 rfl ?_
      refine g_iload (pc := 312) dL_takes_312 7 rfl ?_
      refine g_iald (pc := 314) 26 (gat_26 _ _) dL_takes_314 ?_
      refine g_isub (pc := 315) dL_takes_315 ?_
      refine g_iast (pc := 316) 24 (gat_24 _ _) (gset_24 _ _ _) dL_takes_316 ?_
      refine g_nmh (fun h6 => ?_)
      refine g_aload (pc := 317) dL_takes_317 1 rfl ?_
      refine g_iload (pc := 319) dL_takes_319 5 rfl ?_
      refine g_iload (pc := 321) dL_takes_321 7 rfl ?_
      refine g_aload (pc := 323) dL_takes_323 2 rfl ?_
      refine g_iload (pc := 325) dL_takes_325 7 rfl ?_
      refine g_iald (pc := 327) 26 (gat_26 _ _) dL_takes_327 ?_
      refine g_iload (pc := 328) dL_takes_328 6 rfl ?_
      refine g_cV (pc := 330) (st := []) (fun r hr => gRunS (As := [.ref (gad γ 24), .int a9, .int a11, .int (h6.1 26 a11.toNatClampNeg), .int a10]) (ge_L_pour γ a9 a11 (h6.1 26 a11.toNatClampNeg) a10 h6) hr wv_RL_34 rfl (Nat.le_of_ble_eq_true rfl) rfl (Nat.le_of_ble_eq_true rfl) (Nat.le_of_ble_eq_true rfl) dL_takes_330) (fun h7 => ?_)
      refine g_iinc (pc := 333) (q := 7) (v := a11 + 1) (lv' := [(11, .int (a11 + 1)), (0, .ref (gad γ 0)), (4, .ref (gad γ 24)), (6, .ref (gad γ 26)), (7, .int a7), (8, .int a8), (9, .int a9), (10, .int a10)]) dL_takes_333 rfl rfl (by decide) rfl ?_
      refine g_goto (pc := 336) (tgt := 290) dL_takes_336 (by decide) ?_
      exact g_sub [1, 2, 3, 4, 5, 6, 7, 0] rfl (ih a7 a8 a9 a10 (a11 + 1) h7)
set_option maxRecDepth 20000 in
theorem gjb_L_takes_221 (γ : Gv)  (s0 : Int32) (h : Hst) : G γ RL cL_takes 12 (some .boolean) [] vI 5 0 221 [] [.int s0] h (jb_L_takes_221 s0 h) := by
  unfold jb_L_takes_221
  exact g_zreturn (pc := 221) dL_takes_221 rfl rfl
set_option maxRecDepth 20000 in
theorem glp_L_takes_155 (γ : Gv)  : ∀ (n : Nat) (a7 : Int32) (a8 : Int32) (a9 : Int32) (a10 : Int32) (h : Hst), G γ RL cL_takes 12 (some .boolean) [] vI 5 0 155 [(0, .ref (gad γ 0)), (4, .ref (gad γ 24)), (5, .ref (gad γ 25)), (6, .ref (gad γ 26)), (7, .int a7), (8, .int a8), (9, .int a9), (10, .int a10)] [] h (lp_L_takes_155 n a7 a8 a9 a10 h) := by
  intro n
  induction n with
  | zero => intro a7 a8 a9 a10 h; exact g_none
  | succ n ih =>
    intro a7 a8 a9 a10 h
    rw [lp_L_takes_155]
    refine g_iload (pc := 155) dL_takes_155 7 rfl ?_
    refine g_iconst (pc := 157) (v := 5) dL_takes_157 (by decide) ?_
    refine g_icmp_ge (pc := 158) (tgt := 188) dL_takes_158 (by decide) ?_ ?_
    · refine g_aload (pc := 188) dL_takes_188 2 rfl ?_
      refine g_iload (pc := 190) dL_takes_190 6 rfl ?_
      refine g_dup2 (pc := 192) dL_takes_192 rfl rfl ?_
      refine g_iald (pc := 193) 25 (gat_25 _ _) dL_takes_193 ?_
      refine g_iload (pc := 194) dL_takes_194 5 rfl ?_
      refine g_isub (pc := 196) dL_takes_196 ?_
      refine g_iast (pc := 197) 25 (gat_25 _ _) (gset_25 _ _ _) dL_takes_197 ?_
      refine g_nmh (fun h1 => ?_)
      refine g_aload_n (pc := 198) dL_takes_198 rfl 0 rfl ?_
      refine g_iload (pc := 199) dL_takes_199 6 rfl ?_
      refine g_iload (pc := 201) dL_takes_201 4 rfl ?_
      refine g_iload (pc := 203) dL_takes_203 5 rfl ?_
      refine g_cI (pc := 205) (st := []) (fun r hr => gRunV (As := [.int a9, .int a7, .int a8]) 0 (ge_X6_draw γ a9 a7 a8 h1) hr wv_RL_55 rfl (Nat.le_of_ble_eq_true rfl) (gat_0 _ _) rfl rfl (Nat.le_of_ble_eq_true rfl) (Nat.le_of_ble_eq_true rfl) dL_takes_205) (fun x3 h2 => ?_)
      refine g_aload (pc := 208) dL_takes_208 2 rfl ?_
      refine g_iload (pc := 210) dL_takes_210 6 rfl ?_
      refine g_iald (pc := 212) 25 (gat_25 _ _) dL_takes_212 ?_
      refine g_icmp_ne (pc := 213) (tgt := 220) dL_takes_213 (by decide) ?_ ?_
      · refine g_iconst (pc := 220) (v := 0) dL_takes_220 (by decide) ?_
        exact g_sub [] rfl (gjb_L_takes_221 γ 0 h2)
      · refine g_iconst (pc := 216) (v := 1) dL_takes_216 (by decide) ?_
        refine g_goto (pc := 217) (tgt := 221) dL_takes_217 (by decide) ?_
        exact g_sub [] rfl (gjb_L_takes_221 γ 1 h2)
    · refine g_aload (pc := 161) dL_takes_161 1 rfl ?_
      refine g_bipush (pc := 163) (v := 7) dL_takes_163 (by decide) ?_
      refine g_iload (pc := 165) dL_takes_165 4 rfl ?_
      refine g_imul (pc := 167) dL_takes_167 ?_
      refine g_iconst (pc := 168) (v := 2) dL_takes_168 (by decide) ?_
      refine g_iadd (pc := 169) dL_takes_169 ?_
      refine g_iload (pc := 170) dL_takes_170 7 rfl ?_
      refine g_iadd (pc := 172) dL_takes_172 ?_
      refine g_nmi (fun x4 => ?_)
      refine g_dup2 (pc := 173) dL_takes_173 rfl rfl ?_
      refine g_iald (pc := 174) 24 (gat_24 _ _) dL_takes_174 ?_
      refine g_aload (pc := 175) dL_takes_175 3 rfl ?_
      refine g_iload (pc := 177) dL_takes_177 7 rfl ?_
      refine g_iald (pc := 179) 26 (gat_26 _ _) dL_takes_179 ?_
      refine g_isub (pc := 180) dL_takes_180 ?_
      refine g_iast (pc := 181) 24 (gat_24 _ _) (gset_24 _ _ _) dL_takes_181 ?_
      refine g_nmh (fun h5 => ?_)
      refine g_iinc (pc := 182) (q := 7) (v := a10 + 1) (lv' := [(10, .int (a10 + 1)), (0, .ref (gad γ 0)), (4, .ref (gad γ 24)), (5, .ref (gad γ 25)), (6, .ref (gad γ 26)), (7, .int a7), (8, .int a8), (9, .int a9)]) dL_takes_182 rfl rfl (by decide) rfl ?_
      refine g_goto (pc := 185) (tgt := 155) dL_takes_185 (by decide) ?_
      exact g_sub [1, 2, 3, 4, 5, 6, 7, 0] rfl (ih a7 a8 a9 (a10 + 1) h5)
set_option maxRecDepth 20000 in
theorem glp_L_takes_120 (γ : Gv)  : ∀ (n : Nat) (a7 : Int32) (a8 : Int32) (a9 : Int32) (a10 : Int32) (h : Hst), G γ RL cL_takes 12 (some .boolean) [] vI 5 0 120 [(0, .ref (gad γ 0)), (4, .ref (gad γ 24)), (5, .ref (gad γ 25)), (6, .ref (gad γ 26)), (7, .int a7), (8, .int a8), (9, .int a9), (10, .int a10)] [] h (lp_L_takes_120 n a7 a8 a9 a10 h) := by
  intro n
  induction n with
  | zero => intro a7 a8 a9 a10 h; exact g_none
  | succ n ih =>
    intro a7 a8 a9 a10 h
    rw [lp_L_takes_120]
    refine g_iload (pc := 120) dL_takes_120 7 rfl ?_
    refine g_iconst (pc := 122) (v := 5) dL_takes_122 (by decide) ?_
    refine g_icmp_ge (pc := 123) (tgt := 152) dL_takes_123 (by decide) ?_ ?_
    · refine g_iconst (pc := 152) (v := 0) dL_takes_152 (by decide) ?_
      refine g_istore (pc := 153) (lv' := [(10, .int 0), (0, .ref (gad γ 0)), (4, .ref (gad γ 24)), (5, .ref (gad γ 25)), (6, .ref (gad γ 26)), (7, .int a7), (8, .int a8), (9, .int a9)]) dL_takes_153 (by decide) rfl ?_
      exact g_sub [1, 2, 3, 4, 5, 6, 7, 0] rfl (glp_L_takes_155 γ FU a7 a8 a9 0 h)
    · refine g_aload_n (pc := 126) dL_takes_126 rfl 0 rfl ?_
      refine g_iload (pc := 127) dL_takes_127 4 rfl ?_
      refine g_iload (pc := 129) dL_takes_129 5 rfl ?_
      refine g_iload (pc := 131) dL_takes_131 7 rfl ?_
      refine g_cI (pc := 133) (st := []) (fun r hr => gRunV (As := [.int a7, .int a8, .int a10]) 0 (ge_X6_taken γ a7 a8 a10 h) hr wv_RL_47 rfl (Nat.le_of_ble_eq_true rfl) (gat_0 _ _) rfl rfl (Nat.le_of_ble_eq_true rfl) (Nat.le_of_ble_eq_true rfl) dL_takes_133) (fun x2 h1 => ?_)
      refine g_aload (pc := 136) dL_takes_136 3 rfl ?_
      refine g_iload (pc := 138) dL_takes_138 7 rfl ?_
      refine g_iald (pc := 140) 26 (gat_26 _ _) dL_takes_140 ?_
      refine g_icmp_eq (pc := 141) (tgt := 146) dL_takes_141 (by decide) ?_ ?_
      · refine g_iinc (pc := 146) (q := 7) (v := a10 + 1) (lv' := [(10, .int (a10 + 1)), (0, .ref (gad γ 0)), (4, .ref (gad γ 24)), (5, .ref (gad γ 25)), (6, .ref (gad γ 26)), (7, .int a7), (8, .int a8), (9, .int a9)]) dL_takes_146 rfl rfl (by decide) rfl ?_
        refine g_goto (pc := 149) (tgt := 120) dL_takes_149 (by decide) ?_
        exact g_sub [1, 2, 3, 4, 5, 6, 7, 0] rfl (ih a7 a8 a9 (a10 + 1) h1)
      · refine g_iconst (pc := 144) (v := 0) dL_takes_144 (by decide) ?_
        exact g_zreturn (pc := 145) dL_takes_145 rfl rfl
set_option maxRecDepth 20000 in
theorem gjb_L_takes_104 (γ : Gv)  (a7 : Int32) (a9 : Int32) (s0 : Int32) (h : Hst) : G γ RL cL_takes 12 (some .boolean) [] vI 5 0 104 [(0, .ref (gad γ 0)), (4, .ref (gad γ 24)), (5, .ref (gad γ 25)), (6, .ref (gad γ 26)), (7, .int a7), (9, .int a9)] [.int s0] h (jb_L_takes_104 a7 a9 s0 h) := by
  unfold jb_L_takes_104
  refine g_istore (pc := 104) (lv' := [(8, .int s0), (0, .ref (gad γ 0)), (4, .ref (gad γ 24)), (5, .ref (gad γ 25)), (6, .ref (gad γ 26)), (7, .int a7), (9, .int a9)]) dL_takes_104 (by decide) rfl ?_
  refine g_aload (pc := 106) dL_takes_106 2 rfl ?_
  refine g_iload (pc := 108) dL_takes_108 5 rfl ?_
  refine g_iload (pc := 110) dL_takes_110 0 rfl ?_
  refine g_aload (pc := 112) dL_takes_112 4 rfl ?_
  refine g_cV (pc := 114) (st := []) (fun r hr => gRunS (As := [.ref (gad γ 24), .int a7, .int s0, .ref (gad γ 26)]) (ge_L_shares γ a7 s0 h) hr wv_RL_51 rfl (Nat.le_of_ble_eq_true rfl) rfl (Nat.le_of_ble_eq_true rfl) (Nat.le_of_ble_eq_true rfl) dL_takes_114) (fun h1 => ?_)
  refine g_iconst (pc := 117) (v := 0) dL_takes_117 (by decide) ?_
  refine g_istore (pc := 118) (lv' := [(10, .int 0), (8, .int s0), (0, .ref (gad γ 0)), (4, .ref (gad γ 24)), (5, .ref (gad γ 25)), (6, .ref (gad γ 26)), (7, .int a7), (9, .int a9)]) dL_takes_118 (by decide) rfl ?_
  exact g_sub [2, 3, 4, 5, 6, 1, 7, 0] rfl (glp_L_takes_120 γ FU a7 s0 a9 0 h1)
set_option maxRecDepth 20000 in
theorem gjb_L_takes_36 (γ : Gv)  (s0 : Int32) (h : Hst) : G γ RL cL_takes 12 (some .boolean) [] vI 5 0 36 [] [.int s0] h (jb_L_takes_36 s0 h) := by
  unfold jb_L_takes_36
  exact g_zreturn (pc := 36) dL_takes_36 rfl rfl
set_option maxRecDepth 20000 in
theorem ge_L_takes (γ : Gv) (p1 : Int32) (p2 : Int32) (h : Hst) : G γ RL cL_takes 12 (some .boolean) [] vI 5 0 0 (lv_args 0 [.ref (gad γ 0), .int p1, .int p2, .ref (gad γ 17), .ref (gad γ 24), .ref (gad γ 25), .ref (gad γ 26)]) [] h (f_L_takes p1 p2 h) := by
  show G γ RL cL_takes 12 (some .boolean) [] vI 5 0 0 [(0, .ref (gad γ 0)), (1, .int p1), (2, .int p2), (3, .ref (gad γ 17)), (4, .ref (gad γ 24)), (5, .ref (gad γ 25)), (6, .ref (gad γ 26))] [] h (f_L_takes p1 p2 h)
  unfold f_L_takes
  refine g_iload_n (pc := 0) dL_takes_0 rfl 1 rfl ?_
  refine g_aload_n (pc := 1) dL_takes_1 rfl 3 rfl ?_
  refine g_iconst (pc := 2) (v := 2) dL_takes_2 (by decide) ?_
  refine g_iald (pc := 3) 17 (gat_17 _ _) dL_takes_3 ?_
  refine g_cI (pc := 4) (st := []) (fun r hr => gRunS (As := [.int p1, .int (h.1 17 (2 : Int32).toNatClampNeg)]) (ge_L_at γ p1 (h.1 17 (2 : Int32).toNatClampNeg) h) hr wv_RL_14 rfl (Nat.le_of_ble_eq_true rfl) rfl (Nat.le_of_ble_eq_true rfl) (Nat.le_of_ble_eq_true rfl) dL_takes_4) (fun x2 h1 => ?_)
  refine g_istore (pc := 7) (lv' := [(7, .int x2), (0, .ref (gad γ 0)), (1, .int p1), (2, .int p2), (3, .ref (gad γ 17)), (4, .ref (gad γ 24)), (5, .ref (gad γ 25)), (6, .ref (gad γ 26))]) dL_takes_7 (by decide) rfl ?_
  refine g_aload (pc := 9) dL_takes_9 5 rfl ?_
  refine g_iload (pc := 11) dL_takes_11 0 rfl ?_
  refine g_cI (pc := 13) (st := []) (fun r hr => gRunS (As := [.ref (gad γ 24), .int x2]) (ge_L_oil γ x2 h1) hr wv_RL_8 rfl (Nat.le_of_ble_eq_true rfl) rfl (Nat.le_of_ble_eq_true rfl) (Nat.le_of_ble_eq_true rfl) dL_takes_13) (fun x4 h3 => ?_)
  refine g_if_ne (pc := 16) (tgt := 37) dL_takes_16 (by decide) ?_ ?_
  · refine g_iconst (pc := 37) (v := 1) dL_takes_37 (by decide) ?_
    refine g_iload_n (pc := 38) dL_takes_38 rfl 3 rfl ?_
    refine g_aload (pc := 39) dL_takes_39 5 rfl ?_
    refine g_iload (pc := 41) dL_takes_41 0 rfl ?_
    refine g_cI (pc := 43) (st := [.int p2, .int 1]) (fun r hr => gRunS (As := [.ref (gad γ 24), .int x2]) (ge_L_oil γ x2 h3) hr wv_RL_8 rfl (Nat.le_of_ble_eq_true rfl) rfl (Nat.le_of_ble_eq_true rfl) (Nat.le_of_ble_eq_true rfl) dL_takes_43) (fun x6 h5 => ?_)
    refine g_cI (pc := 46) (st := [.int 1]) (fun r hr => gRunS (As := [.int p2, .int x6]) (ge_L_at γ p2 x6 h5) hr wv_RL_14 rfl (Nat.le_of_ble_eq_true rfl) rfl (Nat.le_of_ble_eq_true rfl) (Nat.le_of_ble_eq_true rfl) dL_takes_46) (fun x8 h7 => ?_)
    refine g_iadd (pc := 49) dL_takes_49 ?_
    refine g_nmi (fun x9 => ?_)
    refine g_istore (pc := 50) (lv' := [(8, .int x9), (7, .int x2), (0, .ref (gad γ 0)), (1, .int p1), (2, .int p2), (3, .ref (gad γ 17)), (4, .ref (gad γ 24)), (5, .ref (gad γ 25)), (6, .ref (gad γ 26))]) dL_takes_50 (by decide) rfl ?_
    refine g_iload_n (pc := 52) dL_takes_52 rfl 3 rfl ?_
    refine g_iconst (pc := 53) (v := 4) dL_takes_53 (by decide) ?_
    refine g_ishr (pc := 54) dL_takes_54 ?_
    refine g_iconst (pc := 55) (v := 2) dL_takes_55 (by decide) ?_
    refine g_cI (pc := 56) (st := []) (fun r hr => gRunS (As := [.int (p1 >>> (4 &&& 31)), .int 2]) (ge_L_at γ (p1 >>> (4 &&& 31)) 2 h7) hr wv_RL_14 rfl (Nat.le_of_ble_eq_true rfl) rfl (Nat.le_of_ble_eq_true rfl) (Nat.le_of_ble_eq_true rfl) dL_takes_56) (fun x11 h10 => ?_)
    refine g_if_ne (pc := 59) (tgt := 222) dL_takes_59 (by decide) ?_ ?_
    · refine g_iload_n (pc := 222) dL_takes_222 rfl 3 rfl ?_
      refine g_bipush (pc := 223) (v := 6) dL_takes_223 (by decide) ?_
      refine g_ishr (pc := 225) dL_takes_225 ?_
      refine g_aload_n (pc := 226) dL_takes_226 rfl 5 rfl ?_
      refine g_iconst (pc := 227) (v := 2) dL_takes_227 (by decide) ?_
      refine g_iald (pc := 228) 17 (gat_17 _ _) dL_takes_228 ?_
      refine g_cI (pc := 229) (st := []) (fun r hr => gRunS (As := [.int (p1 >>> (6 &&& 31)), .int (h10.1 17 (2 : Int32).toNatClampNeg)]) (ge_L_at γ (p1 >>> (6 &&& 31)) (h10.1 17 (2 : Int32).toNatClampNeg) h10) hr wv_RL_14 rfl (Nat.le_of_ble_eq_true rfl) rfl (Nat.le_of_ble_eq_true rfl) (Nat.le_of_ble_eq_true rfl) dL_takes_229) (fun x13 h12 => ?_)
      refine g_istore (pc := 232) (lv' := [(9, .int x13), (8, .int x9), (7, .int x2), (0, .ref (gad γ 0)), (1, .int p1), (2, .int p2), (3, .ref (gad γ 17)), (4, .ref (gad γ 24)), (5, .ref (gad γ 25)), (6, .ref (gad γ 26))]) dL_takes_232 (by decide) rfl ?_
      refine g_aload (pc := 234) dL_takes_234 7 rfl ?_
      refine g_bipush (pc := 236) (v := 7) dL_takes_236 (by decide) ?_
      refine g_iload (pc := 238) dL_takes_238 2 rfl ?_
      refine g_imul (pc := 240) dL_takes_240 ?_
      refine g_iconst (pc := 241) (v := 1) dL_takes_241 (by decide) ?_
      refine g_iadd (pc := 242) dL_takes_242 ?_
      refine g_iald (pc := 243) 24 (gat_24 _ _) dL_takes_243 ?_
      refine g_nmi (fun x14 => ?_)
      refine g_istore (pc := 244) (lv' := [(10, .int x14), (9, .int x13), (8, .int x9), (7, .int x2), (0, .ref (gad γ 0)), (1, .int p1), (2, .int p2), (3, .ref (gad γ 17)), (4, .ref (gad γ 24)), (5, .ref (gad γ 25)), (6, .ref (gad γ 26))]) dL_takes_244 (by decide) rfl ?_
      refine g_iload (pc := 246) dL_takes_246 1 rfl ?_
      refine g_iload (pc := 248) dL_takes_248 3 rfl ?_
      refine g_icmp_eq (pc := 250) (tgt := 274) dL_takes_250 (by decide) ?_ ?_
      · exact g_sub [] rfl (gjb_L_takes_274 γ h12)
      · refine g_aload (pc := 253) dL_takes_253 8 rfl ?_
        refine g_bipush (pc := 255) (v := 7) dL_takes_255 (by decide) ?_
        refine g_iload (pc := 257) dL_takes_257 1 rfl ?_
        refine g_imul (pc := 259) dL_takes_259 ?_
        refine g_iald (pc := 260) 24 (gat_24 _ _) dL_takes_260 ?_
        refine g_aload (pc := 261) dL_takes_261 8 rfl ?_
        refine g_iload (pc := 263) dL_takes_263 1 rfl ?_
        refine g_cI (pc := 265) (st := [.int (h12.1 24 (7 * x13).toNatClampNeg)]) (fun r hr => gRunS (As := [.ref (gad γ 24), .int x13]) (ge_L_oil γ x13 h12) hr wv_RL_8 rfl (Nat.le_of_ble_eq_true rfl) rfl (Nat.le_of_ble_eq_true rfl) (Nat.le_of_ble_eq_true rfl) dL_takes_265) (fun x16 h15 => ?_)
        refine g_isub (pc := 268) dL_takes_268 ?_
        refine g_iload (pc := 269) dL_takes_269 2 rfl ?_
        refine g_icmp_ge (pc := 271) (tgt := 276) dL_takes_271 (by decide) ?_ ?_
        · refine g_aload (pc := 276) dL_takes_276 8 rfl ?_
          refine g_iload (pc := 278) dL_takes_278 3 rfl ?_
          refine g_iload (pc := 280) dL_takes_280 2 rfl ?_
          refine g_aload (pc := 282) dL_takes_282 10 rfl ?_
          refine g_cV (pc := 284) (st := []) (fun r hr => gRunS (As := [.ref (gad γ 24), .int x2, .int x9, .ref (gad γ 26)]) (ge_L_shares γ x2 x9 h15) hr wv_RL_51 rfl (Nat.le_of_ble_eq_true rfl) rfl (Nat.le_of_ble_eq_true rfl) (Nat.le_of_ble_eq_true rfl) dL_takes_284) (fun h17 => ?_)
          refine g_iconst (pc := 287) (v := 0) dL_takes_287 (by decide) ?_
          refine g_istore (pc := 288) (lv' := [(11, .int 0), (10, .int x14), (9, .int x13), (8, .int x9), (7, .int x2), (0, .ref (gad γ 0)), (1, .int p1), (2, .int p2), (3, .ref (gad γ 17)), (4, .ref (gad γ 24)), (5, .ref (gad γ 25)), (6, .ref (gad γ 26))]) dL_takes_288 (by decide) rfl ?_
          exact g_sub [5, 9, 11, 4, 3, 2, 1, 0] rfl (glp_L_takes_290 γ FU x2 x9 x13 x14 0 h17)
        · exact g_sub [] rfl (gjb_L_takes_274 γ h15)
    · refine g_iload_n (pc := 62) dL_takes_62 rfl 3 rfl ?_
      refine g_bipush (pc := 63) (v := 6) dL_takes_63 (by decide) ?_
      refine g_ishr (pc := 65) dL_takes_65 ?_
      refine g_aload_n (pc := 66) dL_takes_66 rfl 5 rfl ?_
      refine g_iconst (pc := 67) (v := 0) dL_takes_67 (by decide) ?_
      refine g_iald (pc := 68) 17 (gat_17 _ _) dL_takes_68 ?_
      refine g_cI (pc := 69) (st := []) (fun r hr => gRunS (As := [.int (p1 >>> (6 &&& 31)), .int (h10.1 17 (0 : Int32).toNatClampNeg)]) (ge_L_at γ (p1 >>> (6 &&& 31)) (h10.1 17 (0 : Int32).toNatClampNeg) h10) hr wv_RL_14 rfl (Nat.le_of_ble_eq_true rfl) rfl (Nat.le_of_ble_eq_true rfl) (Nat.le_of_ble_eq_true rfl) dL_takes_69) (fun x19 h18 => ?_)
      refine g_istore (pc := 72) (lv' := [(9, .int x19), (8, .int x9), (7, .int x2), (0, .ref (gad γ 0)), (1, .int p1), (2, .int p2), (3, .ref (gad γ 17)), (4, .ref (gad γ 24)), (5, .ref (gad γ 25)), (6, .ref (gad γ 26))]) dL_takes_72 (by decide) rfl ?_
      refine g_aload (pc := 74) dL_takes_74 8 rfl ?_
      refine g_iload (pc := 76) dL_takes_76 0 rfl ?_
      refine g_iald (pc := 78) 25 (gat_25 _ _) dL_takes_78 ?_
      refine g_if_ne (pc := 79) (tgt := 84) dL_takes_79 (by decide) ?_ ?_
      · refine g_iload (pc := 84) dL_takes_84 1 rfl ?_
        refine g_aload (pc := 86) dL_takes_86 8 rfl ?_
        refine g_iload (pc := 88) dL_takes_88 0 rfl ?_
        refine g_iald (pc := 90) 25 (gat_25 _ _) dL_takes_90 ?_
        refine g_icmp_le (pc := 91) (tgt := 102) dL_takes_91 (by decide) ?_ ?_
        · refine g_iload (pc := 102) dL_takes_102 1 rfl ?_
          exact g_sub [3, 7, 8, 9, 2, 0] rfl (gjb_L_takes_104 γ x2 x19 x9 h18)
        · refine g_aload (pc := 94) dL_takes_94 8 rfl ?_
          refine g_iload (pc := 96) dL_takes_96 0 rfl ?_
          refine g_iald (pc := 98) 25 (gat_25 _ _) dL_takes_98 ?_
          refine g_goto (pc := 99) (tgt := 104) dL_takes_99 (by decide) ?_
          exact g_sub [3, 7, 8, 9, 2, 0] rfl (gjb_L_takes_104 γ x2 x19 (h18.1 25 x19.toNatClampNeg) h18)
      · refine g_iconst (pc := 82) (v := 1) dL_takes_82 (by decide) ?_
        exact g_zreturn (pc := 83) dL_takes_83 rfl rfl
  · refine g_aload_n (pc := 19) dL_takes_19 rfl 1 rfl ?_
    refine g_iload (pc := 20) dL_takes_20 0 rfl ?_
    refine g_iconst (pc := 22) (v := 1) dL_takes_22 (by decide) ?_
    refine g_iconst (pc := 23) (v := 0) dL_takes_23 (by decide) ?_
    refine g_cI (pc := 24) (st := []) (fun r hr => gRunV (As := [.int x2, .int 1, .int 0]) 0 (ge_X6_taken γ x2 1 0 h3) hr wv_RL_47 rfl (Nat.le_of_ble_eq_true rfl) (gat_0 _ _) rfl rfl (Nat.le_of_ble_eq_true rfl) (Nat.le_of_ble_eq_true rfl) dL_takes_24) (fun x21 h20 => ?_)
    refine g_iconst (pc := 27) (v := (-1)) dL_takes_27 (by decide) ?_
    refine g_icmp_ne (pc := 28) (tgt := 35) dL_takes_28 (by decide) ?_ ?_
    · refine g_iconst (pc := 35) (v := 0) dL_takes_35 (by decide) ?_
      exact g_sub [] rfl (gjb_L_takes_36 γ 0 h20)
    · refine g_iconst (pc := 31) (v := 1) dL_takes_31 (by decide) ?_
      refine g_goto (pc := 32) (tgt := 36) dL_takes_32 (by decide) ?_
      exact g_sub [] rfl (gjb_L_takes_36 γ 1 h20)
def jb_L_appeals_314  (s0 : Int32) (h : Hst) : Option (Int32 × Hst) :=
  (gzr s0 (some (s0, h)))
def jb_L_appeals_273  (a10 : Int32) (a11 : Int32) (h : Hst) : Option (Int32 × Hst) :=
  gck ((6 * a10) + 5) 60 (gl (hst h 19 ((6 * a10) + 5).toNatClampNeg 2) fun h1 =>
  gck a10 10 (gl (hst h1 22 a10.toNatClampNeg a11) fun h2 =>
  gck 7 15 (gck 7 15 (gl (hst h2 17 (7 : Int32).toNatClampNeg ((h2.1 17 (7 : Int32).toNatClampNeg) + 1)) fun h3 =>
  gb (f_X6_appeal a10 h3) fun x5 h4 =>
  (if x5 = a11 then
    (jb_L_appeals_314 1 h4)
  else
    (jb_L_appeals_314 0 h4))))))
def jb_L_appeals_272  (a10 : Int32) (a11 : Int32) (s0 : Int32) (s1 : Int32) (h : Hst) : Option (Int32 × Hst) :=
  gck s1 4 (gl (hst h 25 s1.toNatClampNeg s0) fun h1 =>
  (jb_L_appeals_273 a10 a11 h1))
def jb_L_appeals_157  (a10 : Int32) (a11 : Int32) (s0 : Int32) (h : Hst) : Option (Int32 × Hst) :=
  gb (f_X6_lot a10 10 h) fun x2 h1 =>
  (if x2 = s0 then
    (if s0 ≤ 0 then
      gck (6 * a10) 60 (gl (h1.1 19 (6 * a10).toNatClampNeg) fun x3 =>
      gck a10 10 (gck ((6 * a10) + 1) 60 (gck ((6 * a10) + 3) 60 (gb (f_L_grade (h1.1 19 ((6 * a10) + 3).toNatClampNeg) h1) fun x5 h4 =>
      gbv (f_L_pour (h1.1 23 a10.toNatClampNeg) (h1.1 19 ((6 * a10) + 1).toNatClampNeg) a11 x5 h4) fun h6 =>
      gck x3 4 (gck x3 4 (gl (hst h6 25 x3.toNatClampNeg ((h6.1 25 x3.toNatClampNeg) + a11)) fun h7 =>
      gck 12 15 ((if (h7.1 17 (12 : Int32).toNatClampNeg) ≤ a11 then
        (jb_L_appeals_273 a10 a11 h7)
      else
        gck x3 4 (gck 12 15 ((if (h7.1 17 (12 : Int32).toNatClampNeg) ≤ (h7.1 25 x3.toNatClampNeg) then
          gck x3 4 (gck 12 15 ((jb_L_appeals_272 a10 a11 ((h7.1 25 x3.toNatClampNeg) - (h7.1 17 (12 : Int32).toNatClampNeg)) x3 h7)))
        else
          (jb_L_appeals_272 a10 a11 0 x3 h7))))))))))))
    else
      (gzr 1 (some (1, h1))))
  else
    (gzr 0 (some (0, h1))))
def jb_L_appeals_67  (a10 : Int32) (s0 : Int32) (h : Hst) : Option (Int32 × Hst) :=
  gck ((6 * a10) + 5) 60 ((if (h.1 19 ((6 * a10) + 5).toNatClampNeg) = 1 then
    gck a10 10 (gck a10 10 (gck 9 15 (gdz 1000 (gck 14 15 (gdz 1000 ((if (h.1 21 a10.toNatClampNeg) < (((((h.1 20 a10.toNatClampNeg) * (h.1 17 (9 : Int32).toNatClampNeg)) / 1000) * (1000 - (h.1 17 (14 : Int32).toNatClampNeg))) / 1000) then
      gck a10 10 (gck (7 * (h.1 23 a10.toNatClampNeg)) 28 (gck a10 10 (gb (f_L_oil (h.1 23 a10.toNatClampNeg) h) fun x2 h1 =>
      (if s0 ≤ ((h.1 24 (7 * (h.1 23 a10.toNatClampNeg)).toNatClampNeg) - x2) then
        (jb_L_appeals_157 a10 s0 0 h1)
      else
        (jb_L_appeals_157 a10 s0 3 h1)))))
    else
      (jb_L_appeals_157 a10 s0 2 h))))))))
  else
    (jb_L_appeals_157 a10 s0 1 h)))
def f_L_appeals (p1 : Int32) (h : Hst) : Option (Int32 × Hst) :=
  gck 1 15 ((if (h.1 17 (1 : Int32).toNatClampNeg) = 0 then
    (gzr 1 (some (1, h)))
  else
    gck 1 15 (gb (f_L_at p1 (h.1 17 (1 : Int32).toNatClampNeg) h) fun x2 h1 =>
    gck ((6 * x2) + 5) 60 ((if (h1.1 19 ((6 * x2) + 5).toNatClampNeg) = 0 then
      (jb_L_appeals_67 x2 0 h1)
    else
      gck x2 10 (gck ((6 * x2) + 4) 60 (gdz 1000 (gck x2 10 (gck 10 15 (gdz 1000 ((jb_L_appeals_67 x2 ((((((h1.1 20 x2.toNatClampNeg) * (h1.1 19 ((6 * x2) + 4).toNatClampNeg)) / 1000) - (h1.1 21 x2.toNatClampNeg)) * (h1.1 17 (10 : Int32).toNatClampNeg)) / 1000) h1))))))))))))
set_option maxRecDepth 20000 in
theorem gjb_L_appeals_314 (γ : Gv)  (s0 : Int32) (h : Hst) : G γ RL cL_appeals 14 (some .boolean) [] vI 5 0 314 [] [.int s0] h (jb_L_appeals_314 s0 h) := by
  unfold jb_L_appeals_314
  exact g_zreturn (pc := 314) dL_appeals_314 rfl rfl
set_option maxRecDepth 20000 in
theorem gjb_L_appeals_273 (γ : Gv)  (a10 : Int32) (a11 : Int32) (h : Hst) : G γ RL cL_appeals 14 (some .boolean) [] vI 5 0 273 [(0, .ref (gad γ 0)), (2, .ref (gad γ 17)), (3, .ref (gad γ 19)), (6, .ref (gad γ 22)), (10, .int a10), (11, .int a11)] [] h (jb_L_appeals_273 a10 a11 h) := by
  unfold jb_L_appeals_273
  refine g_aload_n (pc := 273) dL_appeals_273 rfl 2 rfl ?_
  refine g_bipush (pc := 274) (v := 6) dL_appeals_274 (by decide) ?_
  refine g_iload (pc := 276) dL_appeals_276 4 rfl ?_
  refine g_imul (pc := 278) dL_appeals_278 ?_
  refine g_iconst (pc := 279) (v := 5) dL_appeals_279 (by decide) ?_
  refine g_iadd (pc := 280) dL_appeals_280 ?_
  refine g_iconst (pc := 281) (v := 2) dL_appeals_281 (by decide) ?_
  refine g_iast (pc := 282) 19 (gat_19 _ _) (gset_19 _ _ _) dL_appeals_282 ?_
  refine g_nmh (fun h1 => ?_)
  refine g_aload (pc := 283) dL_appeals_283 3 rfl ?_
  refine g_iload (pc := 285) dL_appeals_285 4 rfl ?_
  refine g_iload (pc := 287) dL_appeals_287 5 rfl ?_
  refine g_iast (pc := 289) 22 (gat_22 _ _) (gset_22 _ _ _) dL_appeals_289 ?_
  refine g_nmh (fun h2 => ?_)
  refine g_aload_n (pc := 290) dL_appeals_290 rfl 1 rfl ?_
  refine g_bipush (pc := 291) (v := 7) dL_appeals_291 (by decide) ?_
  refine g_dup2 (pc := 293) dL_appeals_293 rfl rfl ?_
  refine g_iald (pc := 294) 17 (gat_17 _ _) dL_appeals_294 ?_
  refine g_iconst (pc := 295) (v := 1) dL_appeals_295 (by decide) ?_
  refine g_iadd (pc := 296) dL_appeals_296 ?_
  refine g_iast (pc := 297) 17 (gat_17 _ _) (gset_17 _ _ _) dL_appeals_297 ?_
  refine g_nmh (fun h3 => ?_)
  refine g_aload_n (pc := 298) dL_appeals_298 rfl 0 rfl ?_
  refine g_iload (pc := 299) dL_appeals_299 4 rfl ?_
  refine g_cI (pc := 301) (st := []) (fun r hr => gRunV (As := [.int a10]) 0 (ge_X6_appeal γ a10 h3) hr wv_RL_44 rfl (Nat.le_of_ble_eq_true rfl) (gat_0 _ _) rfl rfl (Nat.le_of_ble_eq_true rfl) (Nat.le_of_ble_eq_true rfl) dL_appeals_301) (fun x5 h4 => ?_)
  refine g_iload (pc := 304) dL_appeals_304 5 rfl ?_
  refine g_icmp_ne (pc := 306) (tgt := 313) dL_appeals_306 (by decide) ?_ ?_
  · refine g_iconst (pc := 313) (v := 0) dL_appeals_313 (by decide) ?_
    exact g_sub [] rfl (gjb_L_appeals_314 γ 0 h4)
  · refine g_iconst (pc := 309) (v := 1) dL_appeals_309 (by decide) ?_
    refine g_goto (pc := 310) (tgt := 314) dL_appeals_310 (by decide) ?_
    exact g_sub [] rfl (gjb_L_appeals_314 γ 1 h4)
set_option maxRecDepth 20000 in
theorem gjb_L_appeals_272 (γ : Gv)  (a10 : Int32) (a11 : Int32) (s0 : Int32) (s1 : Int32) (h : Hst) : G γ RL cL_appeals 14 (some .boolean) [] vI 5 0 272 [(0, .ref (gad γ 0)), (2, .ref (gad γ 17)), (3, .ref (gad γ 19)), (6, .ref (gad γ 22)), (10, .int a10), (11, .int a11)] [.int s0, .int s1, .ref (gad γ 25)] h (jb_L_appeals_272 a10 a11 s0 s1 h) := by
  unfold jb_L_appeals_272
  refine g_iast (pc := 272) 25 (gat_25 _ _) (gset_25 _ _ _) dL_appeals_272 ?_
  refine g_nmh (fun h1 => ?_)
  exact gjb_L_appeals_273 γ a10 a11 h1
set_option maxRecDepth 20000 in
theorem gjb_L_appeals_157 (γ : Gv)  (a10 : Int32) (a11 : Int32) (s0 : Int32) (h : Hst) : G γ RL cL_appeals 14 (some .boolean) [] vI 5 0 157 [(0, .ref (gad γ 0)), (2, .ref (gad γ 17)), (3, .ref (gad γ 19)), (6, .ref (gad γ 22)), (7, .ref (gad γ 23)), (8, .ref (gad γ 24)), (9, .ref (gad γ 25)), (10, .int a10), (11, .int a11)] [.int s0] h (jb_L_appeals_157 a10 a11 s0 h) := by
  unfold jb_L_appeals_157
  refine g_istore (pc := 157) (lv' := [(12, .int s0), (0, .ref (gad γ 0)), (2, .ref (gad γ 17)), (3, .ref (gad γ 19)), (6, .ref (gad γ 22)), (7, .ref (gad γ 23)), (8, .ref (gad γ 24)), (9, .ref (gad γ 25)), (10, .int a10), (11, .int a11)]) dL_appeals_157 (by decide) rfl ?_
  refine g_aload_n (pc := 159) dL_appeals_159 rfl 1 rfl ?_
  refine g_iload (pc := 160) dL_appeals_160 8 rfl ?_
  refine g_bipush (pc := 162) (v := 10) dL_appeals_162 (by decide) ?_
  refine g_cI (pc := 164) (st := []) (fun r hr => gRunV (As := [.int a10, .int 10]) 0 (ge_X6_lot γ a10 10 h) hr wv_RL_41 rfl (Nat.le_of_ble_eq_true rfl) (gat_0 _ _) rfl rfl (Nat.le_of_ble_eq_true rfl) (Nat.le_of_ble_eq_true rfl) dL_appeals_164) (fun x2 h1 => ?_)
  refine g_iload (pc := 167) dL_appeals_167 0 rfl ?_
  refine g_icmp_eq (pc := 169) (tgt := 174) dL_appeals_169 (by decide) ?_ ?_
  · refine g_iload (pc := 174) dL_appeals_174 0 rfl ?_
    refine g_if_le (pc := 176) (tgt := 181) dL_appeals_176 (by decide) ?_ ?_
    · refine g_aload_n (pc := 181) dL_appeals_181 rfl 3 rfl ?_
      refine g_bipush (pc := 182) (v := 6) dL_appeals_182 (by decide) ?_
      refine g_iload (pc := 184) dL_appeals_184 8 rfl ?_
      refine g_imul (pc := 186) dL_appeals_186 ?_
      refine g_iald (pc := 187) 19 (gat_19 _ _) dL_appeals_187 ?_
      refine g_nmi (fun x3 => ?_)
      refine g_istore (pc := 188) (lv' := [(13, .int x3), (12, .int s0), (0, .ref (gad γ 0)), (2, .ref (gad γ 17)), (3, .ref (gad γ 19)), (6, .ref (gad γ 22)), (7, .ref (gad γ 23)), (8, .ref (gad γ 24)), (9, .ref (gad γ 25)), (10, .int a10), (11, .int a11)]) dL_appeals_188 (by decide) rfl ?_
      refine g_aload (pc := 190) dL_appeals_190 7 rfl ?_
      refine g_aload (pc := 192) dL_appeals_192 6 rfl ?_
      refine g_iload (pc := 194) dL_appeals_194 9 rfl ?_
      refine g_iald (pc := 196) 23 (gat_23 _ _) dL_appeals_196 ?_
      refine g_aload_n (pc := 197) dL_appeals_197 rfl 4 rfl ?_
      refine g_bipush (pc := 198) (v := 6) dL_appeals_198 (by decide) ?_
      refine g_iload (pc := 200) dL_appeals_200 9 rfl ?_
      refine g_imul (pc := 202) dL_appeals_202 ?_
      refine g_iconst (pc := 203) (v := 1) dL_appeals_203 (by decide) ?_
      refine g_iadd (pc := 204) dL_appeals_204 ?_
      refine g_iald (pc := 205) 19 (gat_19 _ _) dL_appeals_205 ?_
      refine g_iload (pc := 206) dL_appeals_206 10 rfl ?_
      refine g_aload_n (pc := 208) dL_appeals_208 rfl 4 rfl ?_
      refine g_bipush (pc := 209) (v := 6) dL_appeals_209 (by decide) ?_
      refine g_iload (pc := 211) dL_appeals_211 9 rfl ?_
      refine g_imul (pc := 213) dL_appeals_213 ?_
      refine g_iconst (pc := 214) (v := 3) dL_appeals_214 (by decide) ?_
      refine g_iadd (pc := 215) dL_appeals_215 ?_
      refine g_iald (pc := 216) 19 (gat_19 _ _) dL_appeals_216 ?_
      refine g_cI (pc := 217) (st := [.int a11, .int (h1.1 19 ((6 * a10) + 1).toNatClampNeg), .int (h1.1 23 a10.toNatClampNeg), .ref (gad γ 24)]) (fun r hr => gRunS (As := [.int (h1.1 19 ((6 * a10) + 3).toNatClampNeg)]) (ge_L_grade γ (h1.1 19 ((6 * a10) + 3).toNatClampNeg) h1) hr wv_RL_31 rfl (Nat.le_of_ble_eq_true rfl) rfl (Nat.le_of_ble_eq_true rfl) (Nat.le_of_ble_eq_true rfl) dL_appeals_217) (fun x5 h4 => ?_)
      refine g_cV (pc := 220) (st := []) (fun r hr => gRunS (As := [.ref (gad γ 24), .int (h1.1 23 a10.toNatClampNeg), .int (h1.1 19 ((6 * a10) + 1).toNatClampNeg), .int a11, .int x5]) (ge_L_pour γ (h1.1 23 a10.toNatClampNeg) (h1.1 19 ((6 * a10) + 1).toNatClampNeg) a11 x5 h4) hr wv_RL_34 rfl (Nat.le_of_ble_eq_true rfl) rfl (Nat.le_of_ble_eq_true rfl) (Nat.le_of_ble_eq_true rfl) dL_appeals_220) (fun h6 => ?_)
      refine g_aload (pc := 223) dL_appeals_223 8 rfl ?_
      refine g_iload (pc := 225) dL_appeals_225 0 rfl ?_
      refine g_dup2 (pc := 227) dL_appeals_227 rfl rfl ?_
      refine g_iald (pc := 228) 25 (gat_25 _ _) dL_appeals_228 ?_
      refine g_iload (pc := 229) dL_appeals_229 10 rfl ?_
      refine g_iadd (pc := 231) dL_appeals_231 ?_
      refine g_iast (pc := 232) 25 (gat_25 _ _) (gset_25 _ _ _) dL_appeals_232 ?_
      refine g_nmh (fun h7 => ?_)
      refine g_iload (pc := 233) dL_appeals_233 10 rfl ?_
      refine g_aload_n (pc := 235) dL_appeals_235 rfl 3 rfl ?_
      refine g_bipush (pc := 236) (v := 12) dL_appeals_236 (by decide) ?_
      refine g_iald (pc := 238) 17 (gat_17 _ _) dL_appeals_238 ?_
      refine g_icmp_ge (pc := 239) (tgt := 273) dL_appeals_239 (by decide) ?_ ?_
      · exact g_sub [2, 3, 4, 5, 9, 10] rfl (gjb_L_appeals_273 γ a10 a11 h7)
      · refine g_aload (pc := 242) dL_appeals_242 8 rfl ?_
        refine g_iload (pc := 244) dL_appeals_244 0 rfl ?_
        refine g_aload (pc := 246) dL_appeals_246 8 rfl ?_
        refine g_iload (pc := 248) dL_appeals_248 0 rfl ?_
        refine g_iald (pc := 250) 25 (gat_25 _ _) dL_appeals_250 ?_
        refine g_aload_n (pc := 251) dL_appeals_251 rfl 3 rfl ?_
        refine g_bipush (pc := 252) (v := 12) dL_appeals_252 (by decide) ?_
        refine g_iald (pc := 254) 17 (gat_17 _ _) dL_appeals_254 ?_
        refine g_icmp_ge (pc := 255) (tgt := 262) dL_appeals_255 (by decide) ?_ ?_
        · refine g_aload (pc := 262) dL_appeals_262 8 rfl ?_
          refine g_iload (pc := 264) dL_appeals_264 0 rfl ?_
          refine g_iald (pc := 266) 25 (gat_25 _ _) dL_appeals_266 ?_
          refine g_aload_n (pc := 267) dL_appeals_267 rfl 3 rfl ?_
          refine g_bipush (pc := 268) (v := 12) dL_appeals_268 (by decide) ?_
          refine g_iald (pc := 270) 17 (gat_17 _ _) dL_appeals_270 ?_
          refine g_isub (pc := 271) dL_appeals_271 ?_
          exact g_sub [2, 3, 4, 5, 9, 10] rfl (gjb_L_appeals_272 γ a10 a11 ((h7.1 25 x3.toNatClampNeg) - (h7.1 17 (12 : Int32).toNatClampNeg)) x3 h7)
        · refine g_iconst (pc := 258) (v := 0) dL_appeals_258 (by decide) ?_
          refine g_goto (pc := 259) (tgt := 272) dL_appeals_259 (by decide) ?_
          exact g_sub [2, 3, 4, 5, 9, 10] rfl (gjb_L_appeals_272 γ a10 a11 0 x3 h7)
    · refine g_iconst (pc := 179) (v := 1) dL_appeals_179 (by decide) ?_
      exact g_zreturn (pc := 180) dL_appeals_180 rfl rfl
  · refine g_iconst (pc := 172) (v := 0) dL_appeals_172 (by decide) ?_
    exact g_zreturn (pc := 173) dL_appeals_173 rfl rfl
set_option maxRecDepth 20000 in
theorem gjb_L_appeals_67 (γ : Gv)  (a10 : Int32) (s0 : Int32) (h : Hst) : G γ RL cL_appeals 14 (some .boolean) [] vI 5 0 67 [(0, .ref (gad γ 0)), (2, .ref (gad γ 17)), (3, .ref (gad γ 19)), (4, .ref (gad γ 20)), (5, .ref (gad γ 21)), (6, .ref (gad γ 22)), (7, .ref (gad γ 23)), (8, .ref (gad γ 24)), (9, .ref (gad γ 25)), (10, .int a10)] [.int s0] h (jb_L_appeals_67 a10 s0 h) := by
  unfold jb_L_appeals_67
  refine g_istore (pc := 67) (lv' := [(11, .int s0), (0, .ref (gad γ 0)), (2, .ref (gad γ 17)), (3, .ref (gad γ 19)), (4, .ref (gad γ 20)), (5, .ref (gad γ 21)), (6, .ref (gad γ 22)), (7, .ref (gad γ 23)), (8, .ref (gad γ 24)), (9, .ref (gad γ 25)), (10, .int a10)]) dL_appeals_67 (by decide) rfl ?_
  refine g_aload_n (pc := 69) dL_appeals_69 rfl 3 rfl ?_
  refine g_bipush (pc := 70) (v := 6) dL_appeals_70 (by decide) ?_
  refine g_iload (pc := 72) dL_appeals_72 10 rfl ?_
  refine g_imul (pc := 74) dL_appeals_74 ?_
  refine g_iconst (pc := 75) (v := 5) dL_appeals_75 (by decide) ?_
  refine g_iadd (pc := 76) dL_appeals_76 ?_
  refine g_iald (pc := 77) 19 (gat_19 _ _) dL_appeals_77 ?_
  refine g_iconst (pc := 78) (v := 1) dL_appeals_78 (by decide) ?_
  refine g_icmp_eq (pc := 79) (tgt := 86) dL_appeals_79 (by decide) ?_ ?_
  · refine g_aload (pc := 86) dL_appeals_86 5 rfl ?_
    refine g_iload (pc := 88) dL_appeals_88 10 rfl ?_
    refine g_iald (pc := 90) 21 (gat_21 _ _) dL_appeals_90 ?_
    refine g_aload (pc := 91) dL_appeals_91 4 rfl ?_
    refine g_iload (pc := 93) dL_appeals_93 10 rfl ?_
    refine g_iald (pc := 95) 20 (gat_20 _ _) dL_appeals_95 ?_
    refine g_aload_n (pc := 96) dL_appeals_96 rfl 2 rfl ?_
    refine g_bipush (pc := 97) (v := 9) dL_appeals_97 (by decide) ?_
    refine g_iald (pc := 99) 17 (gat_17 _ _) dL_appeals_99 ?_
    refine g_imul (pc := 100) dL_appeals_100 ?_
    refine g_sipush (pc := 101) (v := 1000) dL_appeals_101 (by decide) ?_
    refine g_idiv (pc := 104) dL_appeals_104 ?_
    refine g_sipush (pc := 105) (v := 1000) dL_appeals_105 (by decide) ?_
    refine g_aload_n (pc := 108) dL_appeals_108 rfl 2 rfl ?_
    refine g_bipush (pc := 109) (v := 14) dL_appeals_109 (by decide) ?_
    refine g_iald (pc := 111) 17 (gat_17 _ _) dL_appeals_111 ?_
    refine g_isub (pc := 112) dL_appeals_112 ?_
    refine g_imul (pc := 113) dL_appeals_113 ?_
    refine g_sipush (pc := 114) (v := 1000) dL_appeals_114 (by decide) ?_
    refine g_idiv (pc := 117) dL_appeals_117 ?_
    refine g_icmp_lt (pc := 118) (tgt := 125) dL_appeals_118 (by decide) ?_ ?_
    · refine g_iload (pc := 125) dL_appeals_125 0 rfl ?_
      refine g_aload (pc := 127) dL_appeals_127 8 rfl ?_
      refine g_bipush (pc := 129) (v := 7) dL_appeals_129 (by decide) ?_
      refine g_aload (pc := 131) dL_appeals_131 7 rfl ?_
      refine g_iload (pc := 133) dL_appeals_133 10 rfl ?_
      refine g_iald (pc := 135) 23 (gat_23 _ _) dL_appeals_135 ?_
      refine g_imul (pc := 136) dL_appeals_136 ?_
      refine g_iald (pc := 137) 24 (gat_24 _ _) dL_appeals_137 ?_
      refine g_aload (pc := 138) dL_appeals_138 8 rfl ?_
      refine g_aload (pc := 140) dL_appeals_140 7 rfl ?_
      refine g_iload (pc := 142) dL_appeals_142 10 rfl ?_
      refine g_iald (pc := 144) 23 (gat_23 _ _) dL_appeals_144 ?_
      refine g_cI (pc := 145) (st := [.int (h.1 24 (7 * (h.1 23 a10.toNatClampNeg)).toNatClampNeg), .int s0]) (fun r hr => gRunS (As := [.ref (gad γ 24), .int (h.1 23 a10.toNatClampNeg)]) (ge_L_oil γ (h.1 23 a10.toNatClampNeg) h) hr wv_RL_8 rfl (Nat.le_of_ble_eq_true rfl) rfl (Nat.le_of_ble_eq_true rfl) (Nat.le_of_ble_eq_true rfl) dL_appeals_145) (fun x2 h1 => ?_)
      refine g_isub (pc := 148) dL_appeals_148 ?_
      refine g_icmp_le (pc := 149) (tgt := 156) dL_appeals_149 (by decide) ?_ ?_
      · refine g_iconst (pc := 156) (v := 0) dL_appeals_156 (by decide) ?_
        exact g_sub [1, 2, 3, 6, 7, 8, 9, 10, 0] rfl (gjb_L_appeals_157 γ a10 s0 0 h1)
      · refine g_iconst (pc := 152) (v := 3) dL_appeals_152 (by decide) ?_
        refine g_goto (pc := 153) (tgt := 157) dL_appeals_153 (by decide) ?_
        exact g_sub [1, 2, 3, 6, 7, 8, 9, 10, 0] rfl (gjb_L_appeals_157 γ a10 s0 3 h1)
    · refine g_iconst (pc := 121) (v := 2) dL_appeals_121 (by decide) ?_
      refine g_goto (pc := 122) (tgt := 157) dL_appeals_122 (by decide) ?_
      exact g_sub [1, 2, 3, 6, 7, 8, 9, 10, 0] rfl (gjb_L_appeals_157 γ a10 s0 2 h)
  · refine g_iconst (pc := 82) (v := 1) dL_appeals_82 (by decide) ?_
    refine g_goto (pc := 83) (tgt := 157) dL_appeals_83 (by decide) ?_
    exact g_sub [1, 2, 3, 6, 7, 8, 9, 10, 0] rfl (gjb_L_appeals_157 γ a10 s0 1 h)
set_option maxRecDepth 20000 in
theorem ge_L_appeals (γ : Gv) (p1 : Int32) (h : Hst) : G γ RL cL_appeals 14 (some .boolean) [] vI 5 0 0 (lv_args 0 [.ref (gad γ 0), .int p1, .ref (gad γ 17), .ref (gad γ 19), .ref (gad γ 20), .ref (gad γ 21), .ref (gad γ 22), .ref (gad γ 23), .ref (gad γ 24), .ref (gad γ 25)]) [] h (f_L_appeals p1 h) := by
  show G γ RL cL_appeals 14 (some .boolean) [] vI 5 0 0 [(0, .ref (gad γ 0)), (1, .int p1), (2, .ref (gad γ 17)), (3, .ref (gad γ 19)), (4, .ref (gad γ 20)), (5, .ref (gad γ 21)), (6, .ref (gad γ 22)), (7, .ref (gad γ 23)), (8, .ref (gad γ 24)), (9, .ref (gad γ 25))] [] h (f_L_appeals p1 h)
  unfold f_L_appeals
  refine g_aload_n (pc := 0) dL_appeals_0 rfl 2 rfl ?_
  refine g_iconst (pc := 1) (v := 1) dL_appeals_1 (by decide) ?_
  refine g_iald (pc := 2) 17 (gat_17 _ _) dL_appeals_2 ?_
  refine g_if_ne (pc := 3) (tgt := 8) dL_appeals_3 (by decide) ?_ ?_
  · refine g_iload_n (pc := 8) dL_appeals_8 rfl 1 rfl ?_
    refine g_aload_n (pc := 9) dL_appeals_9 rfl 2 rfl ?_
    refine g_iconst (pc := 10) (v := 1) dL_appeals_10 (by decide) ?_
    refine g_iald (pc := 11) 17 (gat_17 _ _) dL_appeals_11 ?_
    refine g_cI (pc := 12) (st := []) (fun r hr => gRunS (As := [.int p1, .int (h.1 17 (1 : Int32).toNatClampNeg)]) (ge_L_at γ p1 (h.1 17 (1 : Int32).toNatClampNeg) h) hr wv_RL_14 rfl (Nat.le_of_ble_eq_true rfl) rfl (Nat.le_of_ble_eq_true rfl) (Nat.le_of_ble_eq_true rfl) dL_appeals_12) (fun x2 h1 => ?_)
    refine g_istore (pc := 15) (lv' := [(10, .int x2), (0, .ref (gad γ 0)), (1, .int p1), (2, .ref (gad γ 17)), (3, .ref (gad γ 19)), (4, .ref (gad γ 20)), (5, .ref (gad γ 21)), (6, .ref (gad γ 22)), (7, .ref (gad γ 23)), (8, .ref (gad γ 24)), (9, .ref (gad γ 25))]) dL_appeals_15 (by decide) rfl ?_
    refine g_aload_n (pc := 17) dL_appeals_17 rfl 4 rfl ?_
    refine g_bipush (pc := 18) (v := 6) dL_appeals_18 (by decide) ?_
    refine g_iload (pc := 20) dL_appeals_20 0 rfl ?_
    refine g_imul (pc := 22) dL_appeals_22 ?_
    refine g_iconst (pc := 23) (v := 5) dL_appeals_23 (by decide) ?_
    refine g_iadd (pc := 24) dL_appeals_24 ?_
    refine g_iald (pc := 25) 19 (gat_19 _ _) dL_appeals_25 ?_
    refine g_if_ne (pc := 26) (tgt := 33) dL_appeals_26 (by decide) ?_ ?_
    · refine g_aload (pc := 33) dL_appeals_33 5 rfl ?_
      refine g_iload (pc := 35) dL_appeals_35 0 rfl ?_
      refine g_iald (pc := 37) 20 (gat_20 _ _) dL_appeals_37 ?_
      refine g_aload_n (pc := 38) dL_appeals_38 rfl 4 rfl ?_
      refine g_bipush (pc := 39) (v := 6) dL_appeals_39 (by decide) ?_
      refine g_iload (pc := 41) dL_appeals_41 0 rfl ?_
      refine g_imul (pc := 43) dL_appeals_43 ?_
      refine g_iconst (pc := 44) (v := 4) dL_appeals_44 (by decide) ?_
      refine g_iadd (pc := 45) dL_appeals_45 ?_
      refine g_iald (pc := 46) 19 (gat_19 _ _) dL_appeals_46 ?_
      refine g_imul (pc := 47) dL_appeals_47 ?_
      refine g_sipush (pc := 48) (v := 1000) dL_appeals_48 (by decide) ?_
      refine g_idiv (pc := 51) dL_appeals_51 ?_
      refine g_aload (pc := 52) dL_appeals_52 6 rfl ?_
      refine g_iload (pc := 54) dL_appeals_54 0 rfl ?_
      refine g_iald (pc := 56) 21 (gat_21 _ _) dL_appeals_56 ?_
      refine g_isub (pc := 57) dL_appeals_57 ?_
      refine g_aload_n (pc := 58) dL_appeals_58 rfl 3 rfl ?_
      refine g_bipush (pc := 59) (v := 10) dL_appeals_59 (by decide) ?_
      refine g_iald (pc := 61) 17 (gat_17 _ _) dL_appeals_61 ?_
      refine g_imul (pc := 62) dL_appeals_62 ?_
      refine g_sipush (pc := 63) (v := 1000) dL_appeals_63 (by decide) ?_
      refine g_idiv (pc := 66) dL_appeals_66 ?_
      exact g_sub [1, 3, 4, 5, 6, 7, 8, 9, 10, 0] rfl (gjb_L_appeals_67 γ x2 ((((((h1.1 20 x2.toNatClampNeg) * (h1.1 19 ((6 * x2) + 4).toNatClampNeg)) / 1000) - (h1.1 21 x2.toNatClampNeg)) * (h1.1 17 (10 : Int32).toNatClampNeg)) / 1000) h1)
    · refine g_iconst (pc := 29) (v := 0) dL_appeals_29 (by decide) ?_
      refine g_goto (pc := 30) (tgt := 67) dL_appeals_30 (by decide) ?_
      exact g_sub [1, 3, 4, 5, 6, 7, 8, 9, 10, 0] rfl (gjb_L_appeals_67 γ x2 0 h1)
  · refine g_iconst (pc := 6) (v := 1) dL_appeals_6 (by decide) ?_
    exact g_zreturn (pc := 7) dL_appeals_7 rfl rfl
def jb_L_presses_387   (h : Hst) : Option (Int32 × Hst) :=
  (gzr 0 (some (0, h)))
def jb_L_presses_528  (s0 : Int32) (h : Hst) : Option (Int32 × Hst) :=
  (gzr s0 (some (s0, h)))
def jb_L_presses_456  (a11 : Int32) (a12 : Int32) (a13 : Int32) (a15 : Int32) (a16 : Int32) (a21 : Int32) (s0 : Int32) (s1 : Int32) (h : Hst) : Option (Int32 × Hst) :=
  gck s1 15 (gl (hst h 17 s1.toNatClampNeg s0) fun h1 =>
  gck 4 15 (gl (hst h1 17 (4 : Int32).toNatClampNeg a21) fun h2 =>
  gck ((6 * a13) + 5) 60 (gl (hst h2 19 ((6 * a13) + 5).toNatClampNeg 1) fun h3 =>
  gck a13 10 (gl (hst h3 20 a13.toNatClampNeg a15) fun h4 =>
  gck a13 10 (gl (hst h4 21 a13.toNatClampNeg a16) fun h5 =>
  gck a13 10 (gl (hst h5 23 a13.toNatClampNeg a11) fun h6 =>
  gck (6 * a13) 60 (gl (h6.1 19 (6 * a13).toNatClampNeg) fun x7 =>
  gck x7 4 (gck x7 4 (gl (hst h6 25 x7.toNatClampNeg ((h6.1 25 x7.toNatClampNeg) + a16)) fun h8 =>
  gb (f_X6_press a11 a12 h8) fun x10 h9 =>
  (if x10 = a13 then
    (jb_L_presses_528 1 h9)
  else
    (jb_L_presses_528 0 h9)))))))))))
def jb_L_presses_427  (a11 : Int32) (a12 : Int32) (a13 : Int32) (a14 : Int32) (a15 : Int32) (a16 : Int32) (a20 : Int32) (a21 : Int32) (a23 : Int32) (h : Hst) : Option (Int32 × Hst) :=
  gbv (f_L_pour a11 a14 (a20 - a21) a23 h) fun h1 =>
  (if a21 ≤ 0 then
    (jb_L_presses_456 a11 a12 a13 a15 a16 a21 (-1) 3 h1)
  else
    (jb_L_presses_456 a11 a12 a13 a15 a16 a21 a14 3 h1))
def jb_L_presses_408  (a11 : Int32) (a12 : Int32) (a13 : Int32) (a14 : Int32) (a15 : Int32) (a16 : Int32) (a18 : Int32) (a20 : Int32) (a21 : Int32) (a23 : Int32) (h : Hst) : Option (Int32 × Hst) :=
  (if a18 ≤ 0 then
    (jb_L_presses_427 a11 a12 a13 a14 a15 a16 a20 a21 a23 h)
  else
    gck 3 15 (gbv (f_L_pour a11 (h.1 17 (3 : Int32).toNatClampNeg) a18 a23 h) fun h1 =>
    (jb_L_presses_427 a11 a12 a13 a14 a15 a16 a20 a21 a23 h1)))
def jb_L_presses_322  (a11 : Int32) (a12 : Int32) (a13 : Int32) (a14 : Int32) (a15 : Int32) (a16 : Int32) (a18 : Int32) (a19 : Int32) (a20 : Int32) (a21 : Int32) (a22 : Int32) (a23 : Int32) (s0 : Int32) (h : Hst) : Option (Int32 × Hst) :=
  gb (f_X6_whyNot a11 a12 h) fun x2 h1 =>
  (if x2 = s0 then
    gb (f_X6_next 0 h1) fun x4 h3 =>
    (if x4 = a13 then
      gb (f_X6_next 1 h3) fun x6 h5 =>
      (if x6 = a16 then
        gb (f_X6_next 2 h5) fun x8 h7 =>
        (if x8 = a22 then
          gb (f_X6_next 3 h7) fun x10 h9 =>
          (if x10 = a19 then
            gb (f_X6_next 4 h9) fun x12 h11 =>
            (if x12 = a21 then
              (if s0 ≤ 0 then
                (if a19 ≤ 0 then
                  (jb_L_presses_408 a11 a12 a13 a14 a15 a16 a18 a20 a21 a23 h11)
                else
                  gck 5 15 (gck 5 15 (gl (hst h11 17 (5 : Int32).toNatClampNeg ((h11.1 17 (5 : Int32).toNatClampNeg) + 1)) fun h13 =>
                  (jb_L_presses_408 a11 a12 a13 a14 a15 a16 a18 a20 a21 a23 h13))))
              else
                (gzr 1 (some (1, h11))))
            else
              (jb_L_presses_387 h11))
          else
            (jb_L_presses_387 h9))
        else
          (jb_L_presses_387 h7))
      else
        (jb_L_presses_387 h5))
    else
      (jb_L_presses_387 h3))
  else
    (jb_L_presses_387 h1))
def jb_L_presses_321  (a11 : Int32) (a12 : Int32) (a13 : Int32) (a14 : Int32) (a15 : Int32) (a16 : Int32) (a18 : Int32) (a19 : Int32) (a20 : Int32) (a21 : Int32) (a22 : Int32) (a23 : Int32) (h : Hst) : Option (Int32 × Hst) :=
  (jb_L_presses_322 a11 a12 a13 a14 a15 a16 a18 a19 a20 a21 a22 a23 0 h)
def jb_L_presses_230  (a11 : Int32) (a12 : Int32) (a13 : Int32) (a14 : Int32) (a15 : Int32) (a16 : Int32) (a18 : Int32) (a19 : Int32) (a20 : Int32) (s0 : Int32) (h : Hst) : Option (Int32 × Hst) :=
  gl ((a18 + a20) - s0) fun x1 =>
  gck ((6 * a13) + 3) 60 (gb (f_L_grade (h.1 19 ((6 * a13) + 3).toNatClampNeg) h) fun x3 h2 =>
  gck (7 * a11) 28 (gb (f_L_oil a11 h2) fun x5 h4 =>
  (if x1 ≤ ((h2.1 24 (7 * a11).toNatClampNeg) - x5) then
    (if x1 ≤ 0 then
      (jb_L_presses_321 a11 a12 a13 a14 a15 a16 a18 a19 a20 s0 x1 x3 h4)
    else
      (if a12 = 0 then
        gb (f_L_oil a11 h4) fun x7 h6 =>
        (if x7 ≤ 0 then
          (jb_L_presses_321 a11 a12 a13 a14 a15 a16 a18 a19 a20 s0 x1 x3 h6)
        else
          gck ((7 * a11) + 1) 28 ((if (h6.1 24 ((7 * a11) + 1).toNatClampNeg) = x3 then
            (jb_L_presses_321 a11 a12 a13 a14 a15 a16 a18 a19 a20 s0 x1 x3 h6)
          else
            (jb_L_presses_322 a11 a12 a13 a14 a15 a16 a18 a19 a20 s0 x1 x3 3 h6))))
      else
        (jb_L_presses_321 a11 a12 a13 a14 a15 a16 a18 a19 a20 s0 x1 x3 h4)))
  else
    (jb_L_presses_322 a11 a12 a13 a14 a15 a16 a18 a19 a20 s0 x1 x3 2 h4))))
def jb_L_presses_209  (a11 : Int32) (a12 : Int32) (a13 : Int32) (a14 : Int32) (a15 : Int32) (a16 : Int32) (a18 : Int32) (a19 : Int32) (s0 : Int32) (s1 : Int32) (h : Hst) : Option (Int32 × Hst) :=
  gl (s1 + s0) fun x1 =>
  gck 8 15 ((if (h.1 17 (8 : Int32).toNatClampNeg) ≤ x1 then
    gck 8 15 ((jb_L_presses_230 a11 a12 a13 a14 a15 a16 a18 a19 x1 (h.1 17 (8 : Int32).toNatClampNeg) h))
  else
    (jb_L_presses_230 a11 a12 a13 a14 a15 a16 a18 a19 x1 x1 h)))
def jb_L_presses_190  (a11 : Int32) (a12 : Int32) (a13 : Int32) (a14 : Int32) (a15 : Int32) (a16 : Int32) (a18 : Int32) (s0 : Int32) (h : Hst) : Option (Int32 × Hst) :=
  gck 3 15 ((if (h.1 17 (3 : Int32).toNatClampNeg) = a14 then
    gck 4 15 ((jb_L_presses_209 a11 a12 a13 a14 a15 a16 a18 s0 (h.1 17 (4 : Int32).toNatClampNeg) a16 h))
  else
    (jb_L_presses_209 a11 a12 a13 a14 a15 a16 a18 s0 0 a16 h)))
def jb_L_presses_189  (a11 : Int32) (a12 : Int32) (a13 : Int32) (a14 : Int32) (a15 : Int32) (a16 : Int32) (a18 : Int32) (h : Hst) : Option (Int32 × Hst) :=
  (jb_L_presses_190 a11 a12 a13 a14 a15 a16 a18 0 h)
def jb_L_presses_168  (a11 : Int32) (a12 : Int32) (a13 : Int32) (a14 : Int32) (a15 : Int32) (a16 : Int32) (a17 : Int32) (s0 : Int32) (h : Hst) : Option (Int32 × Hst) :=
  (if a17 = 0 then
    (jb_L_presses_189 a11 a12 a13 a14 a15 a16 s0 h)
  else
    gck 13 15 ((if 2 ≤ (h.1 17 (13 : Int32).toNatClampNeg) then
      (jb_L_presses_189 a11 a12 a13 a14 a15 a16 s0 h)
    else
      gck 4 15 ((jb_L_presses_190 a11 a12 a13 a14 a15 a16 s0 (h.1 17 (4 : Int32).toNatClampNeg) h)))))
def jb_L_presses_167  (a11 : Int32) (a12 : Int32) (a13 : Int32) (a14 : Int32) (a15 : Int32) (a16 : Int32) (a17 : Int32) (h : Hst) : Option (Int32 × Hst) :=
  (jb_L_presses_168 a11 a12 a13 a14 a15 a16 a17 0 h)
def jb_L_presses_146  (a11 : Int32) (a12 : Int32) (a13 : Int32) (a14 : Int32) (a15 : Int32) (a16 : Int32) (s0 : Int32) (h : Hst) : Option (Int32 × Hst) :=
  (if s0 = 0 then
    (jb_L_presses_167 a11 a12 a13 a14 a15 a16 s0 h)
  else
    gck 13 15 ((if (h.1 17 (13 : Int32).toNatClampNeg) = 2 then
      gck 4 15 ((jb_L_presses_168 a11 a12 a13 a14 a15 a16 s0 (h.1 17 (4 : Int32).toNatClampNeg) h))
    else
      (jb_L_presses_167 a11 a12 a13 a14 a15 a16 s0 h))))
def jb_L_presses_145  (a11 : Int32) (a12 : Int32) (a13 : Int32) (a14 : Int32) (a15 : Int32) (a16 : Int32) (h : Hst) : Option (Int32 × Hst) :=
  (jb_L_presses_146 a11 a12 a13 a14 a15 a16 0 h)
def jb_L_presses_65  (s0 : Int32) (h : Hst) : Option (Int32 × Hst) :=
  (gzr s0 (some (s0, h)))
def jb_L_presses_64   (h : Hst) : Option (Int32 × Hst) :=
  (jb_L_presses_65 0 h)
def jb_L_presses_24  (a11 : Int32) (s0 : Int32) (h : Hst) : Option (Int32 × Hst) :=
  gb (f_L_next h) fun x2 h1 =>
  (if 0 ≤ x2 then
    gck ((6 * x2) + 1) 60 (gl (h1.1 19 ((6 * x2) + 1).toNatClampNeg) fun x3 =>
    gck ((6 * x2) + 2) 60 (gck x3 5 (gdz 100 (gl (((h1.1 19 ((6 * x2) + 2).toNatClampNeg) * (h1.1 18 x3.toNatClampNeg)) / 100) fun x4 =>
    gck ((6 * x2) + 4) 60 (gdz 1000 (gck 9 15 (gdz 1000 (gl ((((x4 * (h1.1 19 ((6 * x2) + 4).toNatClampNeg)) / 1000) * (h1.1 17 (9 : Int32).toNatClampNeg)) / 1000) fun x5 =>
    gck 3 15 ((if (h1.1 17 (3 : Int32).toNatClampNeg) < 0 then
      (jb_L_presses_145 a11 s0 x2 x3 x4 x5 h1)
    else
      gck 3 15 ((if (h1.1 17 (3 : Int32).toNatClampNeg) = x3 then
        (jb_L_presses_145 a11 s0 x2 x3 x4 x5 h1)
      else
        (jb_L_presses_146 a11 s0 x2 x3 x4 x5 1 h1)))))))))))))
  else
    gb (f_X6_whyNot a11 s0 h1) fun x7 h6 =>
    (if x7 = 1 then
      gb (f_X6_next 2 h6) fun x9 h8 =>
      (if x9 = (-1) then
        (jb_L_presses_65 1 h8)
      else
        (jb_L_presses_64 h8))
    else
      (jb_L_presses_64 h6)))
def f_L_presses (p1 : Int32) (p2 : Int32) (h : Hst) : Option (Int32 × Hst) :=
  gck 2 15 (gb (f_L_at p1 (h.1 17 (2 : Int32).toNatClampNeg) h) fun x2 h1 =>
  gb (f_L_at (p1 >>> (3 &&& 31)) 2 h1) fun x4 h3 =>
  (if x4 = 0 then
    (jb_L_presses_24 x2 1 h3)
  else
    (jb_L_presses_24 x2 0 h3)))
set_option maxRecDepth 20000 in
theorem gjb_L_presses_387 (γ : Gv)   (h : Hst) : G γ RL cL_presses 25 (some .boolean) [] vI 6 0 387 [] [] h (jb_L_presses_387 h) := by
  unfold jb_L_presses_387
  refine g_iconst (pc := 387) (v := 0) dL_presses_387 (by decide) ?_
  exact g_zreturn (pc := 388) dL_presses_388 rfl rfl
set_option maxRecDepth 20000 in
theorem gjb_L_presses_528 (γ : Gv)  (s0 : Int32) (h : Hst) : G γ RL cL_presses 25 (some .boolean) [] vI 6 0 528 [] [.int s0] h (jb_L_presses_528 s0 h) := by
  unfold jb_L_presses_528
  exact g_zreturn (pc := 528) dL_presses_528 rfl rfl
set_option maxRecDepth 20000 in
theorem gjb_L_presses_456 (γ : Gv)  (a11 : Int32) (a12 : Int32) (a13 : Int32) (a15 : Int32) (a16 : Int32) (a21 : Int32) (s0 : Int32) (s1 : Int32) (h : Hst) : G γ RL cL_presses 25 (some .boolean) [] vI 6 0 456 [(0, .ref (gad γ 0)), (3, .ref (gad γ 17)), (5, .ref (gad γ 19)), (6, .ref (gad γ 20)), (7, .ref (gad γ 21)), (8, .ref (gad γ 23)), (10, .ref (gad γ 25)), (11, .int a11), (12, .int a12), (13, .int a13), (15, .int a15), (16, .int a16), (21, .int a21)] [.int s0, .int s1, .ref (gad γ 17)] h (jb_L_presses_456 a11 a12 a13 a15 a16 a21 s0 s1 h) := by
  unfold jb_L_presses_456
  refine g_iast (pc := 456) 17 (gat_17 _ _) (gset_17 _ _ _) dL_presses_456 ?_
  refine g_nmh (fun h1 => ?_)
  refine g_aload_n (pc := 457) dL_presses_457 rfl 1 rfl ?_
  refine g_iconst (pc := 458) (v := 4) dL_presses_458 (by decide) ?_
  refine g_iload (pc := 459) dL_presses_459 12 rfl ?_
  refine g_iast (pc := 461) 17 (gat_17 _ _) (gset_17 _ _ _) dL_presses_461 ?_
  refine g_nmh (fun h2 => ?_)
  refine g_aload (pc := 462) dL_presses_462 2 rfl ?_
  refine g_bipush (pc := 464) (v := 6) dL_presses_464 (by decide) ?_
  refine g_iload (pc := 466) dL_presses_466 9 rfl ?_
  refine g_imul (pc := 468) dL_presses_468 ?_
  refine g_iconst (pc := 469) (v := 5) dL_presses_469 (by decide) ?_
  refine g_iadd (pc := 470) dL_presses_470 ?_
  refine g_iconst (pc := 471) (v := 1) dL_presses_471 (by decide) ?_
  refine g_iast (pc := 472) 19 (gat_19 _ _) (gset_19 _ _ _) dL_presses_472 ?_
  refine g_nmh (fun h3 => ?_)
  refine g_aload (pc := 473) dL_presses_473 3 rfl ?_
  refine g_iload (pc := 475) dL_presses_475 9 rfl ?_
  refine g_iload (pc := 477) dL_presses_477 10 rfl ?_
  refine g_iast (pc := 479) 20 (gat_20 _ _) (gset_20 _ _ _) dL_presses_479 ?_
  refine g_nmh (fun h4 => ?_)
  refine g_aload (pc := 480) dL_presses_480 4 rfl ?_
  refine g_iload (pc := 482) dL_presses_482 9 rfl ?_
  refine g_iload (pc := 484) dL_presses_484 11 rfl ?_
  refine g_iast (pc := 486) 21 (gat_21 _ _) (gset_21 _ _ _) dL_presses_486 ?_
  refine g_nmh (fun h5 => ?_)
  refine g_aload (pc := 487) dL_presses_487 5 rfl ?_
  refine g_iload (pc := 489) dL_presses_489 9 rfl ?_
  refine g_iload (pc := 491) dL_presses_491 7 rfl ?_
  refine g_iast (pc := 493) 23 (gat_23 _ _) (gset_23 _ _ _) dL_presses_493 ?_
  refine g_nmh (fun h6 => ?_)
  refine g_aload (pc := 494) dL_presses_494 6 rfl ?_
  refine g_aload (pc := 496) dL_presses_496 2 rfl ?_
  refine g_bipush (pc := 498) (v := 6) dL_presses_498 (by decide) ?_
  refine g_iload (pc := 500) dL_presses_500 9 rfl ?_
  refine g_imul (pc := 502) dL_presses_502 ?_
  refine g_iald (pc := 503) 19 (gat_19 _ _) dL_presses_503 ?_
  refine g_nmi (fun x7 => ?_)
  refine g_dup2 (pc := 504) dL_presses_504 rfl rfl ?_
  refine g_iald (pc := 505) 25 (gat_25 _ _) dL_presses_505 ?_
  refine g_iload (pc := 506) dL_presses_506 11 rfl ?_
  refine g_iadd (pc := 508) dL_presses_508 ?_
  refine g_iast (pc := 509) 25 (gat_25 _ _) (gset_25 _ _ _) dL_presses_509 ?_
  refine g_nmh (fun h8 => ?_)
  refine g_aload_n (pc := 510) dL_presses_510 rfl 0 rfl ?_
  refine g_iload (pc := 511) dL_presses_511 7 rfl ?_
  refine g_iload (pc := 513) dL_presses_513 8 rfl ?_
  refine g_cI (pc := 515) (st := []) (fun r hr => gRunV (As := [.int a11, .int a12]) 0 (ge_X6_press γ a11 a12 h8) hr wv_RL_38 rfl (Nat.le_of_ble_eq_true rfl) (gat_0 _ _) rfl rfl (Nat.le_of_ble_eq_true rfl) (Nat.le_of_ble_eq_true rfl) dL_presses_515) (fun x10 h9 => ?_)
  refine g_iload (pc := 518) dL_presses_518 9 rfl ?_
  refine g_icmp_ne (pc := 520) (tgt := 527) dL_presses_520 (by decide) ?_ ?_
  · refine g_iconst (pc := 527) (v := 0) dL_presses_527 (by decide) ?_
    exact g_sub [] rfl (gjb_L_presses_528 γ 0 h9)
  · refine g_iconst (pc := 523) (v := 1) dL_presses_523 (by decide) ?_
    refine g_goto (pc := 524) (tgt := 528) dL_presses_524 (by decide) ?_
    exact g_sub [] rfl (gjb_L_presses_528 γ 1 h9)
set_option maxRecDepth 20000 in
theorem gjb_L_presses_427 (γ : Gv)  (a11 : Int32) (a12 : Int32) (a13 : Int32) (a14 : Int32) (a15 : Int32) (a16 : Int32) (a20 : Int32) (a21 : Int32) (a23 : Int32) (h : Hst) : G γ RL cL_presses 25 (some .boolean) [] vI 6 0 427 [(0, .ref (gad γ 0)), (3, .ref (gad γ 17)), (5, .ref (gad γ 19)), (6, .ref (gad γ 20)), (7, .ref (gad γ 21)), (8, .ref (gad γ 23)), (9, .ref (gad γ 24)), (10, .ref (gad γ 25)), (11, .int a11), (12, .int a12), (13, .int a13), (14, .int a14), (15, .int a15), (16, .int a16), (20, .int a20), (21, .int a21), (23, .int a23)] [] h (jb_L_presses_427 a11 a12 a13 a14 a15 a16 a20 a21 a23 h) := by
  unfold jb_L_presses_427
  refine g_aload (pc := 427) dL_presses_427 6 rfl ?_
  refine g_iload (pc := 429) dL_presses_429 8 rfl ?_
  refine g_iload (pc := 431) dL_presses_431 11 rfl ?_
  refine g_iload (pc := 433) dL_presses_433 14 rfl ?_
  refine g_iload (pc := 435) dL_presses_435 15 rfl ?_
  refine g_isub (pc := 437) dL_presses_437 ?_
  refine g_iload (pc := 438) dL_presses_438 16 rfl ?_
  refine g_cV (pc := 440) (st := []) (fun r hr => gRunS (As := [.ref (gad γ 24), .int a11, .int a14, .int (a20 - a21), .int a23]) (ge_L_pour γ a11 a14 (a20 - a21) a23 h) hr wv_RL_34 rfl (Nat.le_of_ble_eq_true rfl) rfl (Nat.le_of_ble_eq_true rfl) (Nat.le_of_ble_eq_true rfl) dL_presses_440) (fun h1 => ?_)
  refine g_aload_n (pc := 443) dL_presses_443 rfl 1 rfl ?_
  refine g_iconst (pc := 444) (v := 3) dL_presses_444 (by decide) ?_
  refine g_iload (pc := 445) dL_presses_445 15 rfl ?_
  refine g_if_le (pc := 447) (tgt := 455) dL_presses_447 (by decide) ?_ ?_
  · refine g_iconst (pc := 455) (v := (-1)) dL_presses_455 (by decide) ?_
    exact g_sub [0, 1, 2, 3, 4, 5, 7, 8, 9, 10, 12, 13, 15] rfl (gjb_L_presses_456 γ a11 a12 a13 a15 a16 a21 (-1) 3 h1)
  · refine g_iload (pc := 450) dL_presses_450 11 rfl ?_
    refine g_goto (pc := 452) (tgt := 456) dL_presses_452 (by decide) ?_
    exact g_sub [0, 1, 2, 3, 4, 5, 7, 8, 9, 10, 12, 13, 15] rfl (gjb_L_presses_456 γ a11 a12 a13 a15 a16 a21 a14 3 h1)
set_option maxRecDepth 20000 in
theorem gjb_L_presses_408 (γ : Gv)  (a11 : Int32) (a12 : Int32) (a13 : Int32) (a14 : Int32) (a15 : Int32) (a16 : Int32) (a18 : Int32) (a20 : Int32) (a21 : Int32) (a23 : Int32) (h : Hst) : G γ RL cL_presses 25 (some .boolean) [] vI 6 0 408 [(0, .ref (gad γ 0)), (3, .ref (gad γ 17)), (5, .ref (gad γ 19)), (6, .ref (gad γ 20)), (7, .ref (gad γ 21)), (8, .ref (gad γ 23)), (9, .ref (gad γ 24)), (10, .ref (gad γ 25)), (11, .int a11), (12, .int a12), (13, .int a13), (14, .int a14), (15, .int a15), (16, .int a16), (18, .int a18), (20, .int a20), (21, .int a21), (23, .int a23)] [] h (jb_L_presses_408 a11 a12 a13 a14 a15 a16 a18 a20 a21 a23 h) := by
  unfold jb_L_presses_408
  refine g_iload (pc := 408) dL_presses_408 14 rfl ?_
  refine g_if_le (pc := 410) (tgt := 427) dL_presses_410 (by decide) ?_ ?_
  · exact g_sub [0, 1, 2, 3, 4, 5, 6, 7, 8, 9, 10, 11, 12, 13, 15, 16, 17] rfl (gjb_L_presses_427 γ a11 a12 a13 a14 a15 a16 a20 a21 a23 h)
  · refine g_aload (pc := 413) dL_presses_413 6 rfl ?_
    refine g_iload (pc := 415) dL_presses_415 8 rfl ?_
    refine g_aload_n (pc := 417) dL_presses_417 rfl 1 rfl ?_
    refine g_iconst (pc := 418) (v := 3) dL_presses_418 (by decide) ?_
    refine g_iald (pc := 419) 17 (gat_17 _ _) dL_presses_419 ?_
    refine g_iload (pc := 420) dL_presses_420 14 rfl ?_
    refine g_iload (pc := 422) dL_presses_422 17 rfl ?_
    refine g_cV (pc := 424) (st := []) (fun r hr => gRunS (As := [.ref (gad γ 24), .int a11, .int (h.1 17 (3 : Int32).toNatClampNeg), .int a18, .int a23]) (ge_L_pour γ a11 (h.1 17 (3 : Int32).toNatClampNeg) a18 a23 h) hr wv_RL_34 rfl (Nat.le_of_ble_eq_true rfl) rfl (Nat.le_of_ble_eq_true rfl) (Nat.le_of_ble_eq_true rfl) dL_presses_424) (fun h1 => ?_)
    exact g_sub [0, 1, 2, 3, 4, 5, 6, 7, 8, 9, 10, 11, 12, 13, 15, 16, 17] rfl (gjb_L_presses_427 γ a11 a12 a13 a14 a15 a16 a20 a21 a23 h1)
set_option maxRecDepth 20000 in
theorem gjb_L_presses_322 (γ : Gv)  (a11 : Int32) (a12 : Int32) (a13 : Int32) (a14 : Int32) (a15 : Int32) (a16 : Int32) (a18 : Int32) (a19 : Int32) (a20 : Int32) (a21 : Int32) (a22 : Int32) (a23 : Int32) (s0 : Int32) (h : Hst) : G γ RL cL_presses 25 (some .boolean) [] vI 6 0 322 [(0, .ref (gad γ 0)), (3, .ref (gad γ 17)), (5, .ref (gad γ 19)), (6, .ref (gad γ 20)), (7, .ref (gad γ 21)), (8, .ref (gad γ 23)), (9, .ref (gad γ 24)), (10, .ref (gad γ 25)), (11, .int a11), (12, .int a12), (13, .int a13), (14, .int a14), (15, .int a15), (16, .int a16), (18, .int a18), (19, .int a19), (20, .int a20), (21, .int a21), (22, .int a22), (23, .int a23)] [.int s0] h (jb_L_presses_322 a11 a12 a13 a14 a15 a16 a18 a19 a20 a21 a22 a23 s0 h) := by
  unfold jb_L_presses_322
  refine g_istore (pc := 322) (lv' := [(24, .int s0), (0, .ref (gad γ 0)), (3, .ref (gad γ 17)), (5, .ref (gad γ 19)), (6, .ref (gad γ 20)), (7, .ref (gad γ 21)), (8, .ref (gad γ 23)), (9, .ref (gad γ 24)), (10, .ref (gad γ 25)), (11, .int a11), (12, .int a12), (13, .int a13), (14, .int a14), (15, .int a15), (16, .int a16), (18, .int a18), (19, .int a19), (20, .int a20), (21, .int a21), (22, .int a22), (23, .int a23)]) dL_presses_322 (by decide) rfl ?_
  refine g_aload_n (pc := 324) dL_presses_324 rfl 1 rfl ?_
  refine g_iload (pc := 325) dL_presses_325 9 rfl ?_
  refine g_iload (pc := 327) dL_presses_327 10 rfl ?_
  refine g_cI (pc := 329) (st := []) (fun r hr => gRunV (As := [.int a11, .int a12]) 0 (ge_X6_whyNot γ a11 a12 h) hr wv_RL_22 rfl (Nat.le_of_ble_eq_true rfl) (gat_0 _ _) rfl rfl (Nat.le_of_ble_eq_true rfl) (Nat.le_of_ble_eq_true rfl) dL_presses_329) (fun x2 h1 => ?_)
  refine g_iload (pc := 332) dL_presses_332 0 rfl ?_
  refine g_icmp_ne (pc := 334) (tgt := 387) dL_presses_334 (by decide) ?_ ?_
  · exact g_sub [] rfl (gjb_L_presses_387 γ h1)
  · refine g_aload_n (pc := 337) dL_presses_337 rfl 1 rfl ?_
    refine g_iconst (pc := 338) (v := 0) dL_presses_338 (by decide) ?_
    refine g_cI (pc := 339) (st := []) (fun r hr => gRunV (As := [.int 0]) 0 (ge_X6_next γ 0 h1) hr wv_RL_28 rfl (Nat.le_of_ble_eq_true rfl) (gat_0 _ _) rfl rfl (Nat.le_of_ble_eq_true rfl) (Nat.le_of_ble_eq_true rfl) dL_presses_339) (fun x4 h3 => ?_)
    refine g_iload (pc := 342) dL_presses_342 11 rfl ?_
    refine g_icmp_ne (pc := 344) (tgt := 387) dL_presses_344 (by decide) ?_ ?_
    · exact g_sub [] rfl (gjb_L_presses_387 γ h3)
    · refine g_aload_n (pc := 347) dL_presses_347 rfl 1 rfl ?_
      refine g_iconst (pc := 348) (v := 1) dL_presses_348 (by decide) ?_
      refine g_cI (pc := 349) (st := []) (fun r hr => gRunV (As := [.int 1]) 0 (ge_X6_next γ 1 h3) hr wv_RL_28 rfl (Nat.le_of_ble_eq_true rfl) (gat_0 _ _) rfl rfl (Nat.le_of_ble_eq_true rfl) (Nat.le_of_ble_eq_true rfl) dL_presses_349) (fun x6 h5 => ?_)
      refine g_iload (pc := 352) dL_presses_352 14 rfl ?_
      refine g_icmp_ne (pc := 354) (tgt := 387) dL_presses_354 (by decide) ?_ ?_
      · exact g_sub [] rfl (gjb_L_presses_387 γ h5)
      · refine g_aload_n (pc := 357) dL_presses_357 rfl 1 rfl ?_
        refine g_iconst (pc := 358) (v := 2) dL_presses_358 (by decide) ?_
        refine g_cI (pc := 359) (st := []) (fun r hr => gRunV (As := [.int 2]) 0 (ge_X6_next γ 2 h5) hr wv_RL_28 rfl (Nat.le_of_ble_eq_true rfl) (gat_0 _ _) rfl rfl (Nat.le_of_ble_eq_true rfl) (Nat.le_of_ble_eq_true rfl) dL_presses_359) (fun x8 h7 => ?_)
        refine g_iload (pc := 362) dL_presses_362 19 rfl ?_
        refine g_icmp_ne (pc := 364) (tgt := 387) dL_presses_364 (by decide) ?_ ?_
        · exact g_sub [] rfl (gjb_L_presses_387 γ h7)
        · refine g_aload_n (pc := 367) dL_presses_367 rfl 1 rfl ?_
          refine g_iconst (pc := 368) (v := 3) dL_presses_368 (by decide) ?_
          refine g_cI (pc := 369) (st := []) (fun r hr => gRunV (As := [.int 3]) 0 (ge_X6_next γ 3 h7) hr wv_RL_28 rfl (Nat.le_of_ble_eq_true rfl) (gat_0 _ _) rfl rfl (Nat.le_of_ble_eq_true rfl) (Nat.le_of_ble_eq_true rfl) dL_presses_369) (fun x10 h9 => ?_)
          refine g_iload (pc := 372) dL_presses_372 16 rfl ?_
          refine g_icmp_ne (pc := 374) (tgt := 387) dL_presses_374 (by decide) ?_ ?_
          · exact g_sub [] rfl (gjb_L_presses_387 γ h9)
          · refine g_aload_n (pc := 377) dL_presses_377 rfl 1 rfl ?_
            refine g_iconst (pc := 378) (v := 4) dL_presses_378 (by decide) ?_
            refine g_cI (pc := 379) (st := []) (fun r hr => gRunV (As := [.int 4]) 0 (ge_X6_next γ 4 h9) hr wv_RL_28 rfl (Nat.le_of_ble_eq_true rfl) (gat_0 _ _) rfl rfl (Nat.le_of_ble_eq_true rfl) (Nat.le_of_ble_eq_true rfl) dL_presses_379) (fun x12 h11 => ?_)
            refine g_iload (pc := 382) dL_presses_382 18 rfl ?_
            refine g_icmp_eq (pc := 384) (tgt := 389) dL_presses_384 (by decide) ?_ ?_
            · refine g_iload (pc := 389) dL_presses_389 0 rfl ?_
              refine g_if_le (pc := 391) (tgt := 396) dL_presses_391 (by decide) ?_ ?_
              · refine g_iload (pc := 396) dL_presses_396 16 rfl ?_
                refine g_if_le (pc := 398) (tgt := 408) dL_presses_398 (by decide) ?_ ?_
                · exact g_sub [1, 2, 3, 4, 5, 6, 7, 8, 9, 10, 11, 12, 13, 14, 15, 17, 18, 20] rfl (gjb_L_presses_408 γ a11 a12 a13 a14 a15 a16 a18 a20 a21 a23 h11)
                · refine g_aload_n (pc := 401) dL_presses_401 rfl 2 rfl ?_
                  refine g_iconst (pc := 402) (v := 5) dL_presses_402 (by decide) ?_
                  refine g_dup2 (pc := 403) dL_presses_403 rfl rfl ?_
                  refine g_iald (pc := 404) 17 (gat_17 _ _) dL_presses_404 ?_
                  refine g_iconst (pc := 405) (v := 1) dL_presses_405 (by decide) ?_
                  refine g_iadd (pc := 406) dL_presses_406 ?_
                  refine g_iast (pc := 407) 17 (gat_17 _ _) (gset_17 _ _ _) dL_presses_407 ?_
                  refine g_nmh (fun h13 => ?_)
                  exact g_sub [1, 2, 3, 4, 5, 6, 7, 8, 9, 10, 11, 12, 13, 14, 15, 17, 18, 20] rfl (gjb_L_presses_408 γ a11 a12 a13 a14 a15 a16 a18 a20 a21 a23 h13)
              · refine g_iconst (pc := 394) (v := 1) dL_presses_394 (by decide) ?_
                exact g_zreturn (pc := 395) dL_presses_395 rfl rfl
            · exact g_sub [] rfl (gjb_L_presses_387 γ h11)
set_option maxRecDepth 20000 in
theorem gjb_L_presses_321 (γ : Gv)  (a11 : Int32) (a12 : Int32) (a13 : Int32) (a14 : Int32) (a15 : Int32) (a16 : Int32) (a18 : Int32) (a19 : Int32) (a20 : Int32) (a21 : Int32) (a22 : Int32) (a23 : Int32) (h : Hst) : G γ RL cL_presses 25 (some .boolean) [] vI 6 0 321 [(0, .ref (gad γ 0)), (3, .ref (gad γ 17)), (5, .ref (gad γ 19)), (6, .ref (gad γ 20)), (7, .ref (gad γ 21)), (8, .ref (gad γ 23)), (9, .ref (gad γ 24)), (10, .ref (gad γ 25)), (11, .int a11), (12, .int a12), (13, .int a13), (14, .int a14), (15, .int a15), (16, .int a16), (18, .int a18), (19, .int a19), (20, .int a20), (21, .int a21), (22, .int a22), (23, .int a23)] [] h (jb_L_presses_321 a11 a12 a13 a14 a15 a16 a18 a19 a20 a21 a22 a23 h) := by
  unfold jb_L_presses_321
  refine g_iconst (pc := 321) (v := 0) dL_presses_321 (by decide) ?_
  exact gjb_L_presses_322 γ a11 a12 a13 a14 a15 a16 a18 a19 a20 a21 a22 a23 0 h
set_option maxRecDepth 20000 in
theorem gjb_L_presses_230 (γ : Gv)  (a11 : Int32) (a12 : Int32) (a13 : Int32) (a14 : Int32) (a15 : Int32) (a16 : Int32) (a18 : Int32) (a19 : Int32) (a20 : Int32) (s0 : Int32) (h : Hst) : G γ RL cL_presses 25 (some .boolean) [] vI 6 0 230 [(0, .ref (gad γ 0)), (3, .ref (gad γ 17)), (5, .ref (gad γ 19)), (6, .ref (gad γ 20)), (7, .ref (gad γ 21)), (8, .ref (gad γ 23)), (9, .ref (gad γ 24)), (10, .ref (gad γ 25)), (11, .int a11), (12, .int a12), (13, .int a13), (14, .int a14), (15, .int a15), (16, .int a16), (18, .int a18), (19, .int a19), (20, .int a20)] [.int s0] h (jb_L_presses_230 a11 a12 a13 a14 a15 a16 a18 a19 a20 s0 h) := by
  unfold jb_L_presses_230
  refine g_istore (pc := 230) (lv' := [(21, .int s0), (0, .ref (gad γ 0)), (3, .ref (gad γ 17)), (5, .ref (gad γ 19)), (6, .ref (gad γ 20)), (7, .ref (gad γ 21)), (8, .ref (gad γ 23)), (9, .ref (gad γ 24)), (10, .ref (gad γ 25)), (11, .int a11), (12, .int a12), (13, .int a13), (14, .int a14), (15, .int a15), (16, .int a16), (18, .int a18), (19, .int a19), (20, .int a20)]) dL_presses_230 (by decide) rfl ?_
  refine g_iload (pc := 232) dL_presses_232 15 rfl ?_
  refine g_iload (pc := 234) dL_presses_234 17 rfl ?_
  refine g_iadd (pc := 236) dL_presses_236 ?_
  refine g_iload (pc := 237) dL_presses_237 0 rfl ?_
  refine g_isub (pc := 239) dL_presses_239 ?_
  refine g_nmi (fun x1 => ?_)
  refine g_istore (pc := 240) (lv' := [(22, .int x1), (21, .int s0), (0, .ref (gad γ 0)), (3, .ref (gad γ 17)), (5, .ref (gad γ 19)), (6, .ref (gad γ 20)), (7, .ref (gad γ 21)), (8, .ref (gad γ 23)), (9, .ref (gad γ 24)), (10, .ref (gad γ 25)), (11, .int a11), (12, .int a12), (13, .int a13), (14, .int a14), (15, .int a15), (16, .int a16), (18, .int a18), (19, .int a19), (20, .int a20)]) dL_presses_240 (by decide) rfl ?_
  refine g_aload (pc := 242) dL_presses_242 4 rfl ?_
  refine g_bipush (pc := 244) (v := 6) dL_presses_244 (by decide) ?_
  refine g_iload (pc := 246) dL_presses_246 12 rfl ?_
  refine g_imul (pc := 248) dL_presses_248 ?_
  refine g_iconst (pc := 249) (v := 3) dL_presses_249 (by decide) ?_
  refine g_iadd (pc := 250) dL_presses_250 ?_
  refine g_iald (pc := 251) 19 (gat_19 _ _) dL_presses_251 ?_
  refine g_cI (pc := 252) (st := []) (fun r hr => gRunS (As := [.int (h.1 19 ((6 * a13) + 3).toNatClampNeg)]) (ge_L_grade γ (h.1 19 ((6 * a13) + 3).toNatClampNeg) h) hr wv_RL_31 rfl (Nat.le_of_ble_eq_true rfl) rfl (Nat.le_of_ble_eq_true rfl) (Nat.le_of_ble_eq_true rfl) dL_presses_252) (fun x3 h2 => ?_)
  refine g_istore (pc := 255) (lv' := [(23, .int x3), (22, .int x1), (21, .int s0), (0, .ref (gad γ 0)), (3, .ref (gad γ 17)), (5, .ref (gad γ 19)), (6, .ref (gad γ 20)), (7, .ref (gad γ 21)), (8, .ref (gad γ 23)), (9, .ref (gad γ 24)), (10, .ref (gad γ 25)), (11, .int a11), (12, .int a12), (13, .int a13), (14, .int a14), (15, .int a15), (16, .int a16), (18, .int a18), (19, .int a19), (20, .int a20)]) dL_presses_255 (by decide) rfl ?_
  refine g_iload (pc := 257) dL_presses_257 1 rfl ?_
  refine g_aload (pc := 259) dL_presses_259 9 rfl ?_
  refine g_bipush (pc := 261) (v := 7) dL_presses_261 (by decide) ?_
  refine g_iload (pc := 263) dL_presses_263 11 rfl ?_
  refine g_imul (pc := 265) dL_presses_265 ?_
  refine g_iald (pc := 266) 24 (gat_24 _ _) dL_presses_266 ?_
  refine g_aload (pc := 267) dL_presses_267 9 rfl ?_
  refine g_iload (pc := 269) dL_presses_269 11 rfl ?_
  refine g_cI (pc := 271) (st := [.int (h2.1 24 (7 * a11).toNatClampNeg), .int x1]) (fun r hr => gRunS (As := [.ref (gad γ 24), .int a11]) (ge_L_oil γ a11 h2) hr wv_RL_8 rfl (Nat.le_of_ble_eq_true rfl) rfl (Nat.le_of_ble_eq_true rfl) (Nat.le_of_ble_eq_true rfl) dL_presses_271) (fun x5 h4 => ?_)
  refine g_isub (pc := 274) dL_presses_274 ?_
  refine g_icmp_le (pc := 275) (tgt := 282) dL_presses_275 (by decide) ?_ ?_
  · refine g_iload (pc := 282) dL_presses_282 1 rfl ?_
    refine g_if_le (pc := 284) (tgt := 321) dL_presses_284 (by decide) ?_ ?_
    · exact g_sub [3, 4, 5, 6, 7, 8, 9, 10, 11, 12, 13, 14, 15, 16, 17, 18, 19, 2, 1, 0] rfl (gjb_L_presses_321 γ a11 a12 a13 a14 a15 a16 a18 a19 a20 s0 x1 x3 h4)
    · refine g_iload (pc := 287) dL_presses_287 12 rfl ?_
      refine g_if_ne (pc := 289) (tgt := 321) dL_presses_289 (by decide) ?_ ?_
      · exact g_sub [3, 4, 5, 6, 7, 8, 9, 10, 11, 12, 13, 14, 15, 16, 17, 18, 19, 2, 1, 0] rfl (gjb_L_presses_321 γ a11 a12 a13 a14 a15 a16 a18 a19 a20 s0 x1 x3 h4)
      · refine g_aload (pc := 292) dL_presses_292 9 rfl ?_
        refine g_iload (pc := 294) dL_presses_294 11 rfl ?_
        refine g_cI (pc := 296) (st := []) (fun r hr => gRunS (As := [.ref (gad γ 24), .int a11]) (ge_L_oil γ a11 h4) hr wv_RL_8 rfl (Nat.le_of_ble_eq_true rfl) rfl (Nat.le_of_ble_eq_true rfl) (Nat.le_of_ble_eq_true rfl) dL_presses_296) (fun x7 h6 => ?_)
        refine g_if_le (pc := 299) (tgt := 321) dL_presses_299 (by decide) ?_ ?_
        · exact g_sub [3, 4, 5, 6, 7, 8, 9, 10, 11, 12, 13, 14, 15, 16, 17, 18, 19, 2, 1, 0] rfl (gjb_L_presses_321 γ a11 a12 a13 a14 a15 a16 a18 a19 a20 s0 x1 x3 h6)
        · refine g_aload (pc := 302) dL_presses_302 9 rfl ?_
          refine g_bipush (pc := 304) (v := 7) dL_presses_304 (by decide) ?_
          refine g_iload (pc := 306) dL_presses_306 11 rfl ?_
          refine g_imul (pc := 308) dL_presses_308 ?_
          refine g_iconst (pc := 309) (v := 1) dL_presses_309 (by decide) ?_
          refine g_iadd (pc := 310) dL_presses_310 ?_
          refine g_iald (pc := 311) 24 (gat_24 _ _) dL_presses_311 ?_
          refine g_iload (pc := 312) dL_presses_312 0 rfl ?_
          refine g_icmp_eq (pc := 314) (tgt := 321) dL_presses_314 (by decide) ?_ ?_
          · exact g_sub [3, 4, 5, 6, 7, 8, 9, 10, 11, 12, 13, 14, 15, 16, 17, 18, 19, 2, 1, 0] rfl (gjb_L_presses_321 γ a11 a12 a13 a14 a15 a16 a18 a19 a20 s0 x1 x3 h6)
          · refine g_iconst (pc := 317) (v := 3) dL_presses_317 (by decide) ?_
            refine g_goto (pc := 318) (tgt := 322) dL_presses_318 (by decide) ?_
            exact g_sub [3, 4, 5, 6, 7, 8, 9, 10, 11, 12, 13, 14, 15, 16, 17, 18, 19, 2, 1, 0] rfl (gjb_L_presses_322 γ a11 a12 a13 a14 a15 a16 a18 a19 a20 s0 x1 x3 3 h6)
  · refine g_iconst (pc := 278) (v := 2) dL_presses_278 (by decide) ?_
    refine g_goto (pc := 279) (tgt := 322) dL_presses_279 (by decide) ?_
    exact g_sub [3, 4, 5, 6, 7, 8, 9, 10, 11, 12, 13, 14, 15, 16, 17, 18, 19, 2, 1, 0] rfl (gjb_L_presses_322 γ a11 a12 a13 a14 a15 a16 a18 a19 a20 s0 x1 x3 2 h4)
set_option maxRecDepth 20000 in
theorem gjb_L_presses_209 (γ : Gv)  (a11 : Int32) (a12 : Int32) (a13 : Int32) (a14 : Int32) (a15 : Int32) (a16 : Int32) (a18 : Int32) (a19 : Int32) (s0 : Int32) (s1 : Int32) (h : Hst) : G γ RL cL_presses 25 (some .boolean) [] vI 6 0 209 [(0, .ref (gad γ 0)), (3, .ref (gad γ 17)), (5, .ref (gad γ 19)), (6, .ref (gad γ 20)), (7, .ref (gad γ 21)), (8, .ref (gad γ 23)), (9, .ref (gad γ 24)), (10, .ref (gad γ 25)), (11, .int a11), (12, .int a12), (13, .int a13), (14, .int a14), (15, .int a15), (16, .int a16), (18, .int a18), (19, .int a19)] [.int s0, .int s1] h (jb_L_presses_209 a11 a12 a13 a14 a15 a16 a18 a19 s0 s1 h) := by
  unfold jb_L_presses_209
  refine g_iadd (pc := 209) dL_presses_209 ?_
  refine g_nmi (fun x1 => ?_)
  refine g_istore (pc := 210) (lv' := [(20, .int x1), (0, .ref (gad γ 0)), (3, .ref (gad γ 17)), (5, .ref (gad γ 19)), (6, .ref (gad γ 20)), (7, .ref (gad γ 21)), (8, .ref (gad γ 23)), (9, .ref (gad γ 24)), (10, .ref (gad γ 25)), (11, .int a11), (12, .int a12), (13, .int a13), (14, .int a14), (15, .int a15), (16, .int a16), (18, .int a18), (19, .int a19)]) dL_presses_210 (by decide) rfl ?_
  refine g_iload (pc := 212) dL_presses_212 0 rfl ?_
  refine g_aload_n (pc := 214) dL_presses_214 rfl 2 rfl ?_
  refine g_bipush (pc := 215) (v := 8) dL_presses_215 (by decide) ?_
  refine g_iald (pc := 217) 17 (gat_17 _ _) dL_presses_217 ?_
  refine g_icmp_ge (pc := 218) (tgt := 226) dL_presses_218 (by decide) ?_ ?_
  · refine g_aload_n (pc := 226) dL_presses_226 rfl 2 rfl ?_
    refine g_bipush (pc := 227) (v := 8) dL_presses_227 (by decide) ?_
    refine g_iald (pc := 229) 17 (gat_17 _ _) dL_presses_229 ?_
    exact g_sub [1, 2, 3, 4, 5, 6, 7, 8, 9, 10, 11, 12, 13, 14, 15, 16, 0] rfl (gjb_L_presses_230 γ a11 a12 a13 a14 a15 a16 a18 a19 x1 (h.1 17 (8 : Int32).toNatClampNeg) h)
  · refine g_iload (pc := 221) dL_presses_221 0 rfl ?_
    refine g_goto (pc := 223) (tgt := 230) dL_presses_223 (by decide) ?_
    exact g_sub [1, 2, 3, 4, 5, 6, 7, 8, 9, 10, 11, 12, 13, 14, 15, 16, 0] rfl (gjb_L_presses_230 γ a11 a12 a13 a14 a15 a16 a18 a19 x1 x1 h)
set_option maxRecDepth 20000 in
theorem gjb_L_presses_190 (γ : Gv)  (a11 : Int32) (a12 : Int32) (a13 : Int32) (a14 : Int32) (a15 : Int32) (a16 : Int32) (a18 : Int32) (s0 : Int32) (h : Hst) : G γ RL cL_presses 25 (some .boolean) [] vI 6 0 190 [(0, .ref (gad γ 0)), (3, .ref (gad γ 17)), (5, .ref (gad γ 19)), (6, .ref (gad γ 20)), (7, .ref (gad γ 21)), (8, .ref (gad γ 23)), (9, .ref (gad γ 24)), (10, .ref (gad γ 25)), (11, .int a11), (12, .int a12), (13, .int a13), (14, .int a14), (15, .int a15), (16, .int a16), (18, .int a18)] [.int s0] h (jb_L_presses_190 a11 a12 a13 a14 a15 a16 a18 s0 h) := by
  unfold jb_L_presses_190
  refine g_istore (pc := 190) (lv' := [(19, .int s0), (0, .ref (gad γ 0)), (3, .ref (gad γ 17)), (5, .ref (gad γ 19)), (6, .ref (gad γ 20)), (7, .ref (gad γ 21)), (8, .ref (gad γ 23)), (9, .ref (gad γ 24)), (10, .ref (gad γ 25)), (11, .int a11), (12, .int a12), (13, .int a13), (14, .int a14), (15, .int a15), (16, .int a16), (18, .int a18)]) dL_presses_190 (by decide) rfl ?_
  refine g_iload (pc := 192) dL_presses_192 14 rfl ?_
  refine g_aload_n (pc := 194) dL_presses_194 rfl 2 rfl ?_
  refine g_iconst (pc := 195) (v := 3) dL_presses_195 (by decide) ?_
  refine g_iald (pc := 196) 17 (gat_17 _ _) dL_presses_196 ?_
  refine g_iload (pc := 197) dL_presses_197 12 rfl ?_
  refine g_icmp_ne (pc := 199) (tgt := 208) dL_presses_199 (by decide) ?_ ?_
  · refine g_iconst (pc := 208) (v := 0) dL_presses_208 (by decide) ?_
    exact g_sub [1, 2, 3, 4, 5, 6, 7, 8, 9, 10, 11, 12, 13, 14, 15, 0] rfl (gjb_L_presses_209 γ a11 a12 a13 a14 a15 a16 a18 s0 0 a16 h)
  · refine g_aload_n (pc := 202) dL_presses_202 rfl 2 rfl ?_
    refine g_iconst (pc := 203) (v := 4) dL_presses_203 (by decide) ?_
    refine g_iald (pc := 204) 17 (gat_17 _ _) dL_presses_204 ?_
    refine g_goto (pc := 205) (tgt := 209) dL_presses_205 (by decide) ?_
    exact g_sub [1, 2, 3, 4, 5, 6, 7, 8, 9, 10, 11, 12, 13, 14, 15, 0] rfl (gjb_L_presses_209 γ a11 a12 a13 a14 a15 a16 a18 s0 (h.1 17 (4 : Int32).toNatClampNeg) a16 h)
set_option maxRecDepth 20000 in
theorem gjb_L_presses_189 (γ : Gv)  (a11 : Int32) (a12 : Int32) (a13 : Int32) (a14 : Int32) (a15 : Int32) (a16 : Int32) (a18 : Int32) (h : Hst) : G γ RL cL_presses 25 (some .boolean) [] vI 6 0 189 [(0, .ref (gad γ 0)), (3, .ref (gad γ 17)), (5, .ref (gad γ 19)), (6, .ref (gad γ 20)), (7, .ref (gad γ 21)), (8, .ref (gad γ 23)), (9, .ref (gad γ 24)), (10, .ref (gad γ 25)), (11, .int a11), (12, .int a12), (13, .int a13), (14, .int a14), (15, .int a15), (16, .int a16), (18, .int a18)] [] h (jb_L_presses_189 a11 a12 a13 a14 a15 a16 a18 h) := by
  unfold jb_L_presses_189
  refine g_iconst (pc := 189) (v := 0) dL_presses_189 (by decide) ?_
  exact gjb_L_presses_190 γ a11 a12 a13 a14 a15 a16 a18 0 h
set_option maxRecDepth 20000 in
theorem gjb_L_presses_168 (γ : Gv)  (a11 : Int32) (a12 : Int32) (a13 : Int32) (a14 : Int32) (a15 : Int32) (a16 : Int32) (a17 : Int32) (s0 : Int32) (h : Hst) : G γ RL cL_presses 25 (some .boolean) [] vI 6 0 168 [(0, .ref (gad γ 0)), (3, .ref (gad γ 17)), (5, .ref (gad γ 19)), (6, .ref (gad γ 20)), (7, .ref (gad γ 21)), (8, .ref (gad γ 23)), (9, .ref (gad γ 24)), (10, .ref (gad γ 25)), (11, .int a11), (12, .int a12), (13, .int a13), (14, .int a14), (15, .int a15), (16, .int a16), (17, .int a17)] [.int s0] h (jb_L_presses_168 a11 a12 a13 a14 a15 a16 a17 s0 h) := by
  unfold jb_L_presses_168
  refine g_istore (pc := 168) (lv' := [(18, .int s0), (0, .ref (gad γ 0)), (3, .ref (gad γ 17)), (5, .ref (gad γ 19)), (6, .ref (gad γ 20)), (7, .ref (gad γ 21)), (8, .ref (gad γ 23)), (9, .ref (gad γ 24)), (10, .ref (gad γ 25)), (11, .int a11), (12, .int a12), (13, .int a13), (14, .int a14), (15, .int a15), (16, .int a16), (17, .int a17)]) dL_presses_168 (by decide) rfl ?_
  refine g_iload (pc := 170) dL_presses_170 15 rfl ?_
  refine g_if_eq (pc := 172) (tgt := 189) dL_presses_172 (by decide) ?_ ?_
  · exact g_sub [1, 2, 3, 4, 5, 6, 7, 8, 9, 10, 11, 12, 13, 14, 0] rfl (gjb_L_presses_189 γ a11 a12 a13 a14 a15 a16 s0 h)
  · refine g_aload_n (pc := 175) dL_presses_175 rfl 2 rfl ?_
    refine g_bipush (pc := 176) (v := 13) dL_presses_176 (by decide) ?_
    refine g_iald (pc := 178) 17 (gat_17 _ _) dL_presses_178 ?_
    refine g_iconst (pc := 179) (v := 2) dL_presses_179 (by decide) ?_
    refine g_icmp_ge (pc := 180) (tgt := 189) dL_presses_180 (by decide) ?_ ?_
    · exact g_sub [1, 2, 3, 4, 5, 6, 7, 8, 9, 10, 11, 12, 13, 14, 0] rfl (gjb_L_presses_189 γ a11 a12 a13 a14 a15 a16 s0 h)
    · refine g_aload_n (pc := 183) dL_presses_183 rfl 2 rfl ?_
      refine g_iconst (pc := 184) (v := 4) dL_presses_184 (by decide) ?_
      refine g_iald (pc := 185) 17 (gat_17 _ _) dL_presses_185 ?_
      refine g_goto (pc := 186) (tgt := 190) dL_presses_186 (by decide) ?_
      exact g_sub [1, 2, 3, 4, 5, 6, 7, 8, 9, 10, 11, 12, 13, 14, 0] rfl (gjb_L_presses_190 γ a11 a12 a13 a14 a15 a16 s0 (h.1 17 (4 : Int32).toNatClampNeg) h)
set_option maxRecDepth 20000 in
theorem gjb_L_presses_167 (γ : Gv)  (a11 : Int32) (a12 : Int32) (a13 : Int32) (a14 : Int32) (a15 : Int32) (a16 : Int32) (a17 : Int32) (h : Hst) : G γ RL cL_presses 25 (some .boolean) [] vI 6 0 167 [(0, .ref (gad γ 0)), (3, .ref (gad γ 17)), (5, .ref (gad γ 19)), (6, .ref (gad γ 20)), (7, .ref (gad γ 21)), (8, .ref (gad γ 23)), (9, .ref (gad γ 24)), (10, .ref (gad γ 25)), (11, .int a11), (12, .int a12), (13, .int a13), (14, .int a14), (15, .int a15), (16, .int a16), (17, .int a17)] [] h (jb_L_presses_167 a11 a12 a13 a14 a15 a16 a17 h) := by
  unfold jb_L_presses_167
  refine g_iconst (pc := 167) (v := 0) dL_presses_167 (by decide) ?_
  exact gjb_L_presses_168 γ a11 a12 a13 a14 a15 a16 a17 0 h
set_option maxRecDepth 20000 in
theorem gjb_L_presses_146 (γ : Gv)  (a11 : Int32) (a12 : Int32) (a13 : Int32) (a14 : Int32) (a15 : Int32) (a16 : Int32) (s0 : Int32) (h : Hst) : G γ RL cL_presses 25 (some .boolean) [] vI 6 0 146 [(0, .ref (gad γ 0)), (3, .ref (gad γ 17)), (5, .ref (gad γ 19)), (6, .ref (gad γ 20)), (7, .ref (gad γ 21)), (8, .ref (gad γ 23)), (9, .ref (gad γ 24)), (10, .ref (gad γ 25)), (11, .int a11), (12, .int a12), (13, .int a13), (14, .int a14), (15, .int a15), (16, .int a16)] [.int s0] h (jb_L_presses_146 a11 a12 a13 a14 a15 a16 s0 h) := by
  unfold jb_L_presses_146
  refine g_istore (pc := 146) (lv' := [(17, .int s0), (0, .ref (gad γ 0)), (3, .ref (gad γ 17)), (5, .ref (gad γ 19)), (6, .ref (gad γ 20)), (7, .ref (gad γ 21)), (8, .ref (gad γ 23)), (9, .ref (gad γ 24)), (10, .ref (gad γ 25)), (11, .int a11), (12, .int a12), (13, .int a13), (14, .int a14), (15, .int a15), (16, .int a16)]) dL_presses_146 (by decide) rfl ?_
  refine g_iload (pc := 148) dL_presses_148 0 rfl ?_
  refine g_if_eq (pc := 150) (tgt := 167) dL_presses_150 (by decide) ?_ ?_
  · exact g_sub [1, 2, 3, 4, 5, 6, 7, 8, 9, 10, 11, 12, 13, 14, 0] rfl (gjb_L_presses_167 γ a11 a12 a13 a14 a15 a16 s0 h)
  · refine g_aload_n (pc := 153) dL_presses_153 rfl 2 rfl ?_
    refine g_bipush (pc := 154) (v := 13) dL_presses_154 (by decide) ?_
    refine g_iald (pc := 156) 17 (gat_17 _ _) dL_presses_156 ?_
    refine g_iconst (pc := 157) (v := 2) dL_presses_157 (by decide) ?_
    refine g_icmp_ne (pc := 158) (tgt := 167) dL_presses_158 (by decide) ?_ ?_
    · exact g_sub [1, 2, 3, 4, 5, 6, 7, 8, 9, 10, 11, 12, 13, 14, 0] rfl (gjb_L_presses_167 γ a11 a12 a13 a14 a15 a16 s0 h)
    · refine g_aload_n (pc := 161) dL_presses_161 rfl 2 rfl ?_
      refine g_iconst (pc := 162) (v := 4) dL_presses_162 (by decide) ?_
      refine g_iald (pc := 163) 17 (gat_17 _ _) dL_presses_163 ?_
      refine g_goto (pc := 164) (tgt := 168) dL_presses_164 (by decide) ?_
      exact g_sub [1, 2, 3, 4, 5, 6, 7, 8, 9, 10, 11, 12, 13, 14, 0] rfl (gjb_L_presses_168 γ a11 a12 a13 a14 a15 a16 s0 (h.1 17 (4 : Int32).toNatClampNeg) h)
set_option maxRecDepth 20000 in
theorem gjb_L_presses_145 (γ : Gv)  (a11 : Int32) (a12 : Int32) (a13 : Int32) (a14 : Int32) (a15 : Int32) (a16 : Int32) (h : Hst) : G γ RL cL_presses 25 (some .boolean) [] vI 6 0 145 [(0, .ref (gad γ 0)), (3, .ref (gad γ 17)), (5, .ref (gad γ 19)), (6, .ref (gad γ 20)), (7, .ref (gad γ 21)), (8, .ref (gad γ 23)), (9, .ref (gad γ 24)), (10, .ref (gad γ 25)), (11, .int a11), (12, .int a12), (13, .int a13), (14, .int a14), (15, .int a15), (16, .int a16)] [] h (jb_L_presses_145 a11 a12 a13 a14 a15 a16 h) := by
  unfold jb_L_presses_145
  refine g_iconst (pc := 145) (v := 0) dL_presses_145 (by decide) ?_
  exact gjb_L_presses_146 γ a11 a12 a13 a14 a15 a16 0 h
set_option maxRecDepth 20000 in
theorem gjb_L_presses_65 (γ : Gv)  (s0 : Int32) (h : Hst) : G γ RL cL_presses 25 (some .boolean) [] vI 6 0 65 [] [.int s0] h (jb_L_presses_65 s0 h) := by
  unfold jb_L_presses_65
  exact g_zreturn (pc := 65) dL_presses_65 rfl rfl
set_option maxRecDepth 20000 in
theorem gjb_L_presses_64 (γ : Gv)   (h : Hst) : G γ RL cL_presses 25 (some .boolean) [] vI 6 0 64 [] [] h (jb_L_presses_64 h) := by
  unfold jb_L_presses_64
  refine g_iconst (pc := 64) (v := 0) dL_presses_64 (by decide) ?_
  exact gjb_L_presses_65 γ 0 h
set_option maxRecDepth 20000 in
theorem gjb_L_presses_24 (γ : Gv)  (a11 : Int32) (s0 : Int32) (h : Hst) : G γ RL cL_presses 25 (some .boolean) [] vI 6 0 24 [(0, .ref (gad γ 0)), (3, .ref (gad γ 17)), (4, .ref (gad γ 18)), (5, .ref (gad γ 19)), (6, .ref (gad γ 20)), (7, .ref (gad γ 21)), (8, .ref (gad γ 23)), (9, .ref (gad γ 24)), (10, .ref (gad γ 25)), (11, .int a11)] [.int s0] h (jb_L_presses_24 a11 s0 h) := by
  unfold jb_L_presses_24
  refine g_istore (pc := 24) (lv' := [(12, .int s0), (0, .ref (gad γ 0)), (3, .ref (gad γ 17)), (4, .ref (gad γ 18)), (5, .ref (gad γ 19)), (6, .ref (gad γ 20)), (7, .ref (gad γ 21)), (8, .ref (gad γ 23)), (9, .ref (gad γ 24)), (10, .ref (gad γ 25)), (11, .int a11)]) dL_presses_24 (by decide) rfl ?_
  refine g_aload_n (pc := 26) dL_presses_26 rfl 2 rfl ?_
  refine g_aload (pc := 27) dL_presses_27 4 rfl ?_
  refine g_cI (pc := 29) (st := []) (fun r hr => gRunS (As := [.ref (gad γ 17), .ref (gad γ 19)]) (ge_L_next γ h) hr wv_RL_18 rfl (Nat.le_of_ble_eq_true rfl) rfl (Nat.le_of_ble_eq_true rfl) (Nat.le_of_ble_eq_true rfl) dL_presses_29) (fun x2 h1 => ?_)
  refine g_istore (pc := 32) (lv' := [(13, .int x2), (12, .int s0), (0, .ref (gad γ 0)), (3, .ref (gad γ 17)), (4, .ref (gad γ 18)), (5, .ref (gad γ 19)), (6, .ref (gad γ 20)), (7, .ref (gad γ 21)), (8, .ref (gad γ 23)), (9, .ref (gad γ 24)), (10, .ref (gad γ 25)), (11, .int a11)]) dL_presses_32 (by decide) rfl ?_
  refine g_iload (pc := 34) dL_presses_34 0 rfl ?_
  refine g_if_ge (pc := 36) (tgt := 66) dL_presses_36 (by decide) ?_ ?_
  · refine g_aload (pc := 66) dL_presses_66 5 rfl ?_
    refine g_bipush (pc := 68) (v := 6) dL_presses_68 (by decide) ?_
    refine g_iload (pc := 70) dL_presses_70 0 rfl ?_
    refine g_imul (pc := 72) dL_presses_72 ?_
    refine g_iconst (pc := 73) (v := 1) dL_presses_73 (by decide) ?_
    refine g_iadd (pc := 74) dL_presses_74 ?_
    refine g_iald (pc := 75) 19 (gat_19 _ _) dL_presses_75 ?_
    refine g_nmi (fun x3 => ?_)
    refine g_istore (pc := 76) (lv' := [(14, .int x3), (13, .int x2), (12, .int s0), (0, .ref (gad γ 0)), (3, .ref (gad γ 17)), (4, .ref (gad γ 18)), (5, .ref (gad γ 19)), (6, .ref (gad γ 20)), (7, .ref (gad γ 21)), (8, .ref (gad γ 23)), (9, .ref (gad γ 24)), (10, .ref (gad γ 25)), (11, .int a11)]) dL_presses_76 (by decide) rfl ?_
    refine g_aload (pc := 78) dL_presses_78 6 rfl ?_
    refine g_bipush (pc := 80) (v := 6) dL_presses_80 (by decide) ?_
    refine g_iload (pc := 82) dL_presses_82 1 rfl ?_
    refine g_imul (pc := 84) dL_presses_84 ?_
    refine g_iconst (pc := 85) (v := 2) dL_presses_85 (by decide) ?_
    refine g_iadd (pc := 86) dL_presses_86 ?_
    refine g_iald (pc := 87) 19 (gat_19 _ _) dL_presses_87 ?_
    refine g_aload (pc := 88) dL_presses_88 5 rfl ?_
    refine g_iload (pc := 90) dL_presses_90 0 rfl ?_
    refine g_iald (pc := 92) 18 (gat_18 _ _) dL_presses_92 ?_
    refine g_imul (pc := 93) dL_presses_93 ?_
    refine g_bipush (pc := 94) (v := 100) dL_presses_94 (by decide) ?_
    refine g_idiv (pc := 96) dL_presses_96 ?_
    refine g_nmi (fun x4 => ?_)
    refine g_istore (pc := 97) (lv' := [(15, .int x4), (14, .int x3), (13, .int x2), (12, .int s0), (0, .ref (gad γ 0)), (3, .ref (gad γ 17)), (4, .ref (gad γ 18)), (5, .ref (gad γ 19)), (6, .ref (gad γ 20)), (7, .ref (gad γ 21)), (8, .ref (gad γ 23)), (9, .ref (gad γ 24)), (10, .ref (gad γ 25)), (11, .int a11)]) dL_presses_97 (by decide) rfl ?_
    refine g_iload (pc := 99) dL_presses_99 0 rfl ?_
    refine g_aload (pc := 101) dL_presses_101 7 rfl ?_
    refine g_bipush (pc := 103) (v := 6) dL_presses_103 (by decide) ?_
    refine g_iload (pc := 105) dL_presses_105 2 rfl ?_
    refine g_imul (pc := 107) dL_presses_107 ?_
    refine g_iconst (pc := 108) (v := 4) dL_presses_108 (by decide) ?_
    refine g_iadd (pc := 109) dL_presses_109 ?_
    refine g_iald (pc := 110) 19 (gat_19 _ _) dL_presses_110 ?_
    refine g_imul (pc := 111) dL_presses_111 ?_
    refine g_sipush (pc := 112) (v := 1000) dL_presses_112 (by decide) ?_
    refine g_idiv (pc := 115) dL_presses_115 ?_
    refine g_aload_n (pc := 116) dL_presses_116 rfl 5 rfl ?_
    refine g_bipush (pc := 117) (v := 9) dL_presses_117 (by decide) ?_
    refine g_iald (pc := 119) 17 (gat_17 _ _) dL_presses_119 ?_
    refine g_imul (pc := 120) dL_presses_120 ?_
    refine g_sipush (pc := 121) (v := 1000) dL_presses_121 (by decide) ?_
    refine g_idiv (pc := 124) dL_presses_124 ?_
    refine g_nmi (fun x5 => ?_)
    refine g_istore (pc := 125) (lv' := [(16, .int x5), (15, .int x4), (14, .int x3), (13, .int x2), (12, .int s0), (0, .ref (gad γ 0)), (3, .ref (gad γ 17)), (4, .ref (gad γ 18)), (5, .ref (gad γ 19)), (6, .ref (gad γ 20)), (7, .ref (gad γ 21)), (8, .ref (gad γ 23)), (9, .ref (gad γ 24)), (10, .ref (gad γ 25)), (11, .int a11)]) dL_presses_125 (by decide) rfl ?_
    refine g_aload_n (pc := 127) dL_presses_127 rfl 6 rfl ?_
    refine g_iconst (pc := 128) (v := 3) dL_presses_128 (by decide) ?_
    refine g_iald (pc := 129) 17 (gat_17 _ _) dL_presses_129 ?_
    refine g_if_lt (pc := 130) (tgt := 145) dL_presses_130 (by decide) ?_ ?_
    · exact g_sub [5, 6, 8, 9, 10, 11, 12, 13, 14, 4, 3, 2, 1, 0] rfl (gjb_L_presses_145 γ a11 s0 x2 x3 x4 x5 h1)
    · refine g_aload_n (pc := 133) dL_presses_133 rfl 6 rfl ?_
      refine g_iconst (pc := 134) (v := 3) dL_presses_134 (by decide) ?_
      refine g_iald (pc := 135) 17 (gat_17 _ _) dL_presses_135 ?_
      refine g_iload (pc := 136) dL_presses_136 2 rfl ?_
      refine g_icmp_eq (pc := 138) (tgt := 145) dL_presses_138 (by decide) ?_ ?_
      · exact g_sub [5, 6, 8, 9, 10, 11, 12, 13, 14, 4, 3, 2, 1, 0] rfl (gjb_L_presses_145 γ a11 s0 x2 x3 x4 x5 h1)
      · refine g_iconst (pc := 141) (v := 1) dL_presses_141 (by decide) ?_
        refine g_goto (pc := 142) (tgt := 146) dL_presses_142 (by decide) ?_
        exact g_sub [5, 6, 8, 9, 10, 11, 12, 13, 14, 4, 3, 2, 1, 0] rfl (gjb_L_presses_146 γ a11 s0 x2 x3 x4 x5 1 h1)
  · refine g_aload_n (pc := 39) dL_presses_39 rfl 2 rfl ?_
    refine g_iload (pc := 40) dL_presses_40 11 rfl ?_
    refine g_iload (pc := 42) dL_presses_42 1 rfl ?_
    refine g_cI (pc := 44) (st := []) (fun r hr => gRunV (As := [.int a11, .int s0]) 0 (ge_X6_whyNot γ a11 s0 h1) hr wv_RL_22 rfl (Nat.le_of_ble_eq_true rfl) (gat_0 _ _) rfl rfl (Nat.le_of_ble_eq_true rfl) (Nat.le_of_ble_eq_true rfl) dL_presses_44) (fun x7 h6 => ?_)
    refine g_iconst (pc := 47) (v := 1) dL_presses_47 (by decide) ?_
    refine g_icmp_ne (pc := 48) (tgt := 64) dL_presses_48 (by decide) ?_ ?_
    · exact g_sub [] rfl (gjb_L_presses_64 γ h6)
    · refine g_aload_n (pc := 51) dL_presses_51 rfl 2 rfl ?_
      refine g_iconst (pc := 52) (v := 2) dL_presses_52 (by decide) ?_
      refine g_cI (pc := 53) (st := []) (fun r hr => gRunV (As := [.int 2]) 0 (ge_X6_next γ 2 h6) hr wv_RL_28 rfl (Nat.le_of_ble_eq_true rfl) (gat_0 _ _) rfl rfl (Nat.le_of_ble_eq_true rfl) (Nat.le_of_ble_eq_true rfl) dL_presses_53) (fun x9 h8 => ?_)
      refine g_iconst (pc := 56) (v := (-1)) dL_presses_56 (by decide) ?_
      refine g_icmp_ne (pc := 57) (tgt := 64) dL_presses_57 (by decide) ?_ ?_
      · exact g_sub [] rfl (gjb_L_presses_64 γ h8)
      · refine g_iconst (pc := 60) (v := 1) dL_presses_60 (by decide) ?_
        refine g_goto (pc := 61) (tgt := 65) dL_presses_61 (by decide) ?_
        exact g_sub [] rfl (gjb_L_presses_65 γ 1 h8)
set_option maxRecDepth 20000 in
theorem ge_L_presses (γ : Gv) (p1 : Int32) (p2 : Int32) (h : Hst) : G γ RL cL_presses 25 (some .boolean) [] vI 6 0 0 (lv_args 0 [.ref (gad γ 0), .int p1, .int p2, .ref (gad γ 17), .ref (gad γ 18), .ref (gad γ 19), .ref (gad γ 20), .ref (gad γ 21), .ref (gad γ 23), .ref (gad γ 24), .ref (gad γ 25)]) [] h (f_L_presses p1 p2 h) := by
  show G γ RL cL_presses 25 (some .boolean) [] vI 6 0 0 [(0, .ref (gad γ 0)), (1, .int p1), (2, .int p2), (3, .ref (gad γ 17)), (4, .ref (gad γ 18)), (5, .ref (gad γ 19)), (6, .ref (gad γ 20)), (7, .ref (gad γ 21)), (8, .ref (gad γ 23)), (9, .ref (gad γ 24)), (10, .ref (gad γ 25))] [] h (f_L_presses p1 p2 h)
  unfold f_L_presses
  refine g_iload_n (pc := 0) dL_presses_0 rfl 1 rfl ?_
  refine g_aload_n (pc := 1) dL_presses_1 rfl 3 rfl ?_
  refine g_iconst (pc := 2) (v := 2) dL_presses_2 (by decide) ?_
  refine g_iald (pc := 3) 17 (gat_17 _ _) dL_presses_3 ?_
  refine g_cI (pc := 4) (st := []) (fun r hr => gRunS (As := [.int p1, .int (h.1 17 (2 : Int32).toNatClampNeg)]) (ge_L_at γ p1 (h.1 17 (2 : Int32).toNatClampNeg) h) hr wv_RL_14 rfl (Nat.le_of_ble_eq_true rfl) rfl (Nat.le_of_ble_eq_true rfl) (Nat.le_of_ble_eq_true rfl) dL_presses_4) (fun x2 h1 => ?_)
  refine g_istore (pc := 7) (lv' := [(11, .int x2), (0, .ref (gad γ 0)), (1, .int p1), (2, .int p2), (3, .ref (gad γ 17)), (4, .ref (gad γ 18)), (5, .ref (gad γ 19)), (6, .ref (gad γ 20)), (7, .ref (gad γ 21)), (8, .ref (gad γ 23)), (9, .ref (gad γ 24)), (10, .ref (gad γ 25))]) dL_presses_7 (by decide) rfl ?_
  refine g_iload_n (pc := 9) dL_presses_9 rfl 2 rfl ?_
  refine g_iconst (pc := 10) (v := 3) dL_presses_10 (by decide) ?_
  refine g_ishr (pc := 11) dL_presses_11 ?_
  refine g_iconst (pc := 12) (v := 2) dL_presses_12 (by decide) ?_
  refine g_cI (pc := 13) (st := []) (fun r hr => gRunS (As := [.int (p1 >>> (3 &&& 31)), .int 2]) (ge_L_at γ (p1 >>> (3 &&& 31)) 2 h1) hr wv_RL_14 rfl (Nat.le_of_ble_eq_true rfl) rfl (Nat.le_of_ble_eq_true rfl) (Nat.le_of_ble_eq_true rfl) dL_presses_13) (fun x4 h3 => ?_)
  refine g_if_ne (pc := 16) (tgt := 23) dL_presses_16 (by decide) ?_ ?_
  · refine g_iconst (pc := 23) (v := 0) dL_presses_23 (by decide) ?_
    exact g_sub [1, 4, 5, 6, 7, 8, 9, 10, 11, 0] rfl (gjb_L_presses_24 γ x2 0 h3)
  · refine g_iconst (pc := 19) (v := 1) dL_presses_19 (by decide) ?_
    refine g_goto (pc := 20) (tgt := 24) dL_presses_20 (by decide) ?_
    exact g_sub [1, 4, 5, 6, 7, 8, 9, 10, 11, 0] rfl (gjb_L_presses_24 γ x2 1 h3)
