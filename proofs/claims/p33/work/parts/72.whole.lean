/-! THE CLAIM OUT OF ONE WALK OF THE LAW'S BODY. Your part is whole_start (and what it stands on); all else here is the same for every law, but numbers. -/
def R_law : String := "OliveMillLaw"
def lw_P (b : Addr) (xs : List Int32) (args : Array Value) (s : State) : Prop := args = #[.ref b] ∧ s.IntsAt b xs ∧ xs.length ≤ 260 ∧ (Jvm.Cond.and given_1 narrow_1).before args s = true
def lw_Q (_ : Array Value) (s : State) (o : Outcome) (t : State) : Prop := o = .returned (some (.int 1)) ∧ Framed s o t [] 139 5038
def lw_Z (below : List Frame) (a : Array Value) (s : State) : State → Prop := fun t => ∃ o, t.status = .running ∧ Ended t below o ∧ lw_Q a s o t
/-- the law's own end, with 1 on the stack, nothing written that was there before, its room as the claim has it -/
theorem lw_ret {p : Program} {l : Launch} {e : Env} {s : State} {m : MethodId} {below : List Frame} {meth : Method} {c : Code} {b : Nat} (hx : p.tables.exec = Jvm.exec) (hb : c.code = code) (hr : meth.sig.returnType = ret) (hlocks : meth.locks = false) {pc : Nat} {H : Heap} {ls : Array Slot} (hdg : decode code pc = .ok (.ireturn, 1)) : W p l e room_1 s m #[Value.ref b] below meth c H [] 139 5038 (lw_Z below #[Value.ref b] s) (F0 m pc ls [.int 1]) := by
  intro T hT X
  obtain ⟨fs, hret, hrun, hended, hW, hframe⟩ := X.leave (v := some (.int 1)) (hlocks := hlocks) (fun h => by rw [hr] at h; cases h)
  have hmeth' : T.vm.method? m = some meth := X.method'
  refine ⟨T.setFrames fs, ?_, .returned (some (.int 1)), hrun, hended, rfl, ⟨_, rfl⟩, hW, hframe⟩
  jvm_step X.here [X.here.top, hx, hb, hdg, hmeth', hr, ret, narrow_b1]
  (try refine ⟨rfl, ?_⟩); (try refine ⟨rfl, ?_⟩)
  first | (intro acts; rw [hret _ acts rfl rfl rfl]) | rw [hret _ _ rfl rfl rfl]
  exact Steps.refl _
/-- what holds at the law's entry: the machine, the code, the tables' words (any of lw_tbl by 'hts w (by decide +kernel)'), the script of L ints xs at the cell b, what the Statement gives of the start (any of its parts by flat_of_before) -/
def lw_At (p : Program) (s : State) (m : MethodId) (meth : Method) (c : Code) (b L : Nat) (xs : Nat → Int32) : Prop :=
  p.tables.exec = Jvm.exec ∧ c.code = code ∧ meth.sig.returnType = ret ∧ c.maxLocals = 13 ∧ s.vm.findClass R_law = some m.cls ∧ (∀ w ∈ lw_tbl, w.before #[Value.ref b] s = true) ∧ va_X b L xs s s.heap ∧ b < s.heap.size ∧ meth.locks = false ∧ (Jvm.Cond.and given_1 narrow_1).before #[Value.ref b] s = true ∧ c.exceptionTable.toList = tableOf []
set_option maxRecDepth 20000 in
set_option maxHeartbeats 4000000 in
theorem whole_start {p : Program} {e : Env} {s : State} {m : MethodId} {below : List Frame} {meth : Method} {c : Code} (l : Launch) (hflags : l.flags = flags0) {b L : Nat} {xs : Nat → Int32} (hL : L ≤ 260) (C0 : lw_At p s m meth c b L xs) : W p l e room_1 s m #[Value.ref b] below meth c s.heap [] 0 0 (lw_Z below #[Value.ref b] s) (entryFrame m ([Value.ref b] : List Value).toArray 13) := by
  obtain ⟨hx, hbc, hr, hml, hown, hts, hX, hbl, hlocks, hgv, htab⟩ := C0
  have hs := flat_of_before _ hgv
  have hg : ∀ w ∈ lw_good, w.before #[Value.ref b] s = true := fun w hw => hts w (List.mem_filter.mp hw).1
  obtain ⟨D, cI, cZ, hK⟩ := st_K hg
  have hini := hg _ (gm1 1 rfl rfl)
  obtain ⟨aS, zS, tS⟩ := st_tab "NEW_SETTINGS" 7 (fun j => (([10, 850, 600, 2, 20, 0, 100] : List Int32).getD j 0)) (by decide) (hts _ st_NEW_SETTINGS_l.2.2) hini (hs _ st_NEW_SETTINGS_l.2.1) (hs _ st_NEW_SETTINGS_l.1) (fun j hj => hs _ (st_NEW_SETTINGS j hj))
  obtain ⟨aY, zY, tY⟩ := st_tab "NEW_YIELDS" 5 (fun j => (([150, 180, 200, 220, 160] : List Int32).getD j 0)) (by decide) (hts _ st_NEW_YIELDS_l.2.2) hini (hs _ st_NEW_YIELDS_l.2.1) (hs _ st_NEW_YIELDS_l.1) (fun j hj => hs _ (st_NEW_YIELDS j hj))
  obtain ⟨aL, zL, tL⟩ := st_tab "LEAST_SETTINGS" 7 (fun j => (([0, 500, 0, 0, 0, 0, 0] : List Int32).getD j 0)) (by decide) (hts _ st_LEAST_SETTINGS_l.2.2) hini (hs _ st_LEAST_SETTINGS_l.2.1) (hs _ st_LEAST_SETTINGS_l.1) (fun j hj => hs _ (st_LEAST_SETTINGS j hj))
  obtain ⟨aM, zM, tM⟩ := st_tab "MOST_SETTINGS" 7 (fun j => (([50, 1000, 1000, 50, 500, 2, 500] : List Int32).getD j 0)) (by decide) (hts _ st_MOST_SETTINGS_l.2.2) hini (hs _ st_MOST_SETTINGS_l.2.1) (hs _ st_MOST_SETTINGS_l.1) (fun j hj => hs _ (st_MOST_SETTINGS j hj))
  have hnest : ∀ w ∈ gnest, va_Nw w s := fun w hw => va_Nw.of (gnest_on w hw) (hts w (st_nest w hw))
  have hst : l.stackTraces = false := by rw [Launch.stackTraces, hflags]; rfl
  have cn : Cn (D, (cI, cZ, cI), s.heap.size, (aS, aY)) RL cL_law 13 meth.name p s m #[Value.ref b] meth c :=
    ⟨hx, hbc, hml, trivial, hown, hg, hlocks, rfl, hK, Nat.le_refl _, ⟨zS, tS⟩, ⟨zY, tY⟩, hnest⟩
  rw [lg_entry_eq]
  refine law_entry (δ := (D, (cI, cZ, cI), s.heap.size, (aS, aY))) () cn (by decide) (by decide) (by decide) (by decide) va_S.rf (fun k q hq => by simp at hq) ⟨fun i j p q hi => by simp at hi, fun k q hq => by simp at hq⟩ (lv_entry [.ref b] (show 1 ≤ 13 by decide)) (fun pc lv ls' H' locs' cells' slots' ws' hE hlv hS hP hD h5 h6 => ?_)
  obtain ⟨qL_0, p4_0, p4_1, p4_2, p4_3, p4_4, p4_5, p4_6, p4_7, p4_8, p4_9, p4_10, p4_11, p4_12, p4_13, p4_14, p4_15, qL_10, qL_14, qL_19, qL_25, qL_31, qL_37, qL_43, qL_49, qL_54, qL_59, rfl, rfl, rfl⟩ := hE
  let gg : Gv := (D, (fun k => match k with | 0 => qL_0 | 1 => p4_0 | 2 => p4_3 | 3 => p4_4 | 4 => p4_5 | 5 => p4_6 | 6 => p4_7 | 7 => p4_8 | 8 => p4_1 | 9 => p4_2 | 10 => p4_9 | 11 => p4_10 | 12 => p4_11 | 13 => p4_12 | 14 => p4_13 | 15 => p4_14 | 16 => p4_15 | 17 => qL_10 | 18 => qL_14 | 19 => qL_19 | 20 => qL_25 | 21 => qL_31 | 22 => qL_37 | 23 => qL_43 | 24 => qL_49 | 25 => qL_54 | _ => qL_59), (cI, cZ, cI), s.heap.size, (b, L, xs), (aL, aM))
  have hP2 : va_P (gD gg) vwCl (gws gg st_h) H' := hP.sub [0, 1, 4, 5, 6, 7, 8, 9, 2, 3, 10, 11, 12, 13, 14, 15, 16, 17, 18, 19, 20, 21, 22, 23, 24, 25, 26] rfl
  have hD2 : va_D (gA gg) (gws gg st_h) := hD.sub [0, 1, 4, 5, 6, 7, 8, 9, 2, 3, 10, 11, 12, 13, 14, 15, 16, 17, 18, 19, 20, 21, 22, 23, 24, 25, 26] (by decide) rfl
  have key : ∀ k : Nat, k < 27 → ∃ q, (gws gg st_h)[k]? = some q ∧ q.1 = gad gg k := by
    intro k hk
    have e1 := gws_ad gg st_h k
    rw [if_pos hk] at e1
    cases hq : (gws gg st_h)[k]? with
    | none => rw [hq] at e1; cases e1
    | some q => rw [hq] at e1; exact ⟨q, rfl, Option.some.inj e1⟩
  have gl : gGl gg s s.heap := by
    refine ⟨hK, Nat.le_refl _, fun k hk => ?_, fun i j hi hj he => ?_, trivial, trivial, ⟨zL, tL⟩, ⟨zM, tM⟩, ⟨hX, hbl, Nat.not_le.mpr hbl, hL⟩, trivial, hnest, trivial⟩
    · obtain ⟨q, e1, e2⟩ := key k hk
      rw [← e2]; exact hD2.2 k q e1
    · obtain ⟨q1, e1, e2⟩ := key i hi
      obtain ⟨q2, e3, e4⟩ := key j hj
      exact hD2.1 i j q1 q2 e1 e3 (by rw [e2, e4, he])
  have cx : Cx gg RL cL_law 13 (some .boolean) [] p l s m #[Value.ref b] meth c := ⟨hx, hbc, hml, hr, hown, hg, hlocks, htab, hst, gl⟩
  obtain ⟨h', e1⟩ := law_all xs L hL st_h st_P0
  refine glp_L_law_107 gg FU 0 st_h (1, h') e1 cx (by decide) (by decide) ?_ ?_ hS hP2 (lv_sub hlv [12, 11, 10, 9, 8, 7, 6, 5, 4, 3, 2, 1, 0] rfl) ?_
  · show cells' + (0 + 0) ≤ 139
    omega
  · show slots' + 6 * (0 + 0) ≤ 5038
    omega
  · intro pc2 ls2 H2 locs2 cells2 slots2 hret hS2 hP2' h7 h8
    have hdg : decode code pc2 = .ok (.ireturn, 1) := by
      rcases hret with ⟨e2, -⟩ | ⟨y, ty, -, -, -, e2⟩ | ⟨y, e2, -⟩ | ⟨y, e2, -⟩
      · cases e2
      · exact e2
      · cases e2
      · cases e2
    refine va_forget (fun q hq => hS2.2.2 q hq) ?_
    refine W.widen (k := 139) (n := 5038) (by omega) (by omega) ?_
    exact lw_ret hx hbc hr hlocks hdg
-- ===== YOUR PART ENDS =====
set_option maxHeartbeats 4000000 in
theorem lw_walk (l : Launch) (hflags : l.flags = flags0) (b : Addr) (xs : List Int32) : MetFree l x (headSpec (Jvm.Cond.code x code maxLocals ret :: tables_1) room_1) (lw_P b xs) (fun _ _ _ _ _ => True) lw_Q := by
  refine MetFree.of_bodyS (code := code) (maxLocals := maxLocals) (ret := ret) (by decide) ?_ ?_
  · intro args s m h hn
    obtain ⟨meth, c, h1, h2, h3, h4, h5, h6, -, -⟩ := Cond.code_spec hn (atoms_spec (ws := Jvm.Cond.code x code maxLocals ret :: tables_1) h _ List.mem_cons_self)
    exact ⟨meth, c, h1, h2, h3, h4, h5, h6⟩
  · intro p e s m args below meth c s₁ B hml0 hP _
    obtain ⟨rfl, hx, hbd, hgv⟩ := hP
    obtain ⟨scr, harrAt, hlist, hof, hsmall⟩ := hx
    obtain ⟨hcb, hkn, -, -⟩ := State.arrayAt?_spec harrAt
    have hown : s.vm.findClass R_law = some m.cls := findClass_of_methodNamed B.named
    have hts0 : ∀ c ∈ (Jvm.Cond.code x code maxLocals ret :: tables_1), c.before #[Value.ref b] s = true := atoms_spec (ws := Jvm.Cond.code x code maxLocals ret :: tables_1) B.pre
    have hts : ∀ w ∈ lw_tbl, w.before #[Value.ref b] s = true := k2_hts_sels lw_privs (fun w hw => hts0 w (List.mem_cons_of_mem _ hw)) lw_privs_ok
    have hml : c.maxLocals = 13 := B.maxLocals_eq (hts0 _ List.mem_cons_self)
    have X₀ : Stand p l e room_1 s m #[Value.ref b] below meth c s₁ [] 0 0 := Stand.of_body B
    have hh0 : s₁.heap = s.heap := by rw [B.state]; rfl
    have htab : c.exceptionTable.toList = tableOf [] := by
      obtain ⟨meth9, c9, h1, h2, -, -, -, -, h7, -⟩ := Cond.code_spec B.named (hts0 _ List.mem_cons_self)
      cases Option.some.inj (h1.symm.trans B.method)
      cases Option.some.inj (h2.symm.trans X₀.code)
      rw [Array.isEmpty_iff.mp h7]
      rfl
    have hsz : scr.slots.size = xs.length := by rw [← Array.length_toList, hlist, List.length_map]
    have hval : ∀ j : Nat, j < xs.length → scr.slots[j]? = some (.int (xs.getD j 0)) := fun j hj => by
      rw [← Array.getElem?_toList, hlist]
      simp [hj]
    have hbl : b < s.heap.size := (Array.getElem?_eq_some_iff.mp hcb).1
    have hX : va_X b xs.length (fun j => xs.getD j 0) s s.heap := ⟨scr, hcb, hof, hkn, hsz, hval⟩
    have K : W p l e room_1 s m #[Value.ref b] below meth c s₁.heap [] 0 0 (lw_Z below #[Value.ref b] s) (entryFrame m ([Value.ref b] : List Value).toArray 13) := by
      rw [hh0]
      exact whole_start l hflags hbd ⟨B.exec, B.bytes, B.returns, hml, hown, hts, hX, hbl, B.notSynchronized, hgv, htab⟩
    obtain ⟨t, a1, o, b1, b2, b3⟩ := K s₁ rfl X₀
    exact ⟨t, o, a1, b1, b2, b3⟩
theorem lw_pre_spec {args : Array Value} {s : State} (h : (Jvm.Cond.and given_1 narrow_1).before args s = true) (hr : rest_1_c.before args s = true) : ∃ (b : Addr) (xs : List Int32), lw_P b xs args s := by
  have hs := flat_of_before _ h
  have hq := flat_of_before _ hr
  have hc : (Cond.count 1).before args s = true := hs _ (by decide +kernel)
  have harr : (Cond.arrayOf (.arg 0) .int).before args s = true := hs _ (by decide +kernel)
  have hle : (Cond.le (.length (.arg 0)) (.int 260)).before args s = true := hs _ (by decide +kernel)
  have hlen : (Cond.isInt (.length (.arg 0))).before args s = true := hq _ (by decide +kernel)
  have hall : (Cond.all (.arg 0) (.isInt (.elem (.arg 0) (.index 0)))).before args s = true := hq _ (by decide +kernel)
  obtain ⟨b, xs, hb, hx⟩ := State.ints_of_pre rfl harr hlen hall
  have hsm : xs.length < 2 ^ 31 := hx.choose_spec.2.2.2
  have hev : (Term.length (.arg 0)).eval args s none [] s = some (.int xs.length.toInt32) := hx.length_eval hb
  have hv := Cond.le_ints hev (show (Term.int 260).eval args s none [] s = some (.int 260) from rfl)
  have hd : xs.length.toInt32 ≤ 260 := by
    simpa [Cond.before, Cond.holds, hv] using hle
  have hN : xs.length ≤ 260 := (Int32.ofNat_le_ofNat hsm (by decide)).mp (show Int32.ofNat xs.length ≤ Int32.ofNat 260 from hd)
  exact ⟨b, xs, Cond.one_arg hc (show args[0]? = some (.ref b) from hb), hx, hN, h⟩
theorem lw_comes (l : Launch) (hflags : l.flags = flags0) : Comes l x (Jvm.Cond.code x code maxLocals ret :: tables_1) room_1 (fun tb e args s => Calls_1 tb e args s ∧ rest_1 tb e args s ∧ Pre_1 tb e args s)
    (fun _ _ args s o t => lw_Q args s o t) := by
  intro p e ha hc hk s m args below hf hfit hheap happ hpre
  obtain ⟨b, xs, hP⟩ := lw_pre_spec hpre.2.2 hpre.2.1
  obtain ⟨k, o, h1, h2, h3, hQ⟩ := lw_walk l hflags b xs p e ha hc hk s m args below hf ((Spec.applies_iff_loose hf).mp happ).1 hP trivial
  exact ⟨k, o, h1, h2, h3, hQ⟩
theorem lw_frame {s t : State} {o : Outcome} {args : Array Value} (h : Framed s o t [] 139 5038) :
    Framed s o t (fieldLocs frame_1_writes args s ++ arrayLocs frame_1_arrays args s ++ staticLocs frame_1_statics s) 139 5038 := h
theorem lw_limb (L : Cond) (hL : ∀ (args : Array Value) (s t : State), L.after args s (.returned (some (.int 1))) t = true) :
    ArmFor flags0 classFile x code maxLocals ret World_1 tables_1 room_1 Calls_1 rest_1 Pre_1
      (fun tb e a s o t => postC L tb e a s o t ∧ Framed s o t (fieldLocs frame_1_writes a s ++ arrayLocs frame_1_arrays a s ++ staticLocs frame_1_statics s) 139 5038) := by
  intro l hflags _ _ p e ha hc hk s m args below hf hfit hheap happ hpre
  obtain ⟨k, o, h1, h2, h3, rfl, hF⟩ := lw_comes l hflags p e ha hc hk s m args below hf hfit hheap happ hpre
  exact ⟨k, _, h1, h2, h3, hL args s _, lw_frame hF⟩
theorem i_vc : Claimed_1_1 ∧ Claimed_1_2 := ⟨lw_limb limb_1_1 (fun args s t => by simp [limb_1_1, Cond.after, Cond.holds, Cond.value]), lw_limb limb_1_2 (fun args s t => Cond.after_iff.mpr (by
  first | (rw [show limb_1_2 = Cond.eq .result (.int 1) from rfl, Cond.eq_ints (x := 1) (y := 1) rfl rfl]; simp; done) | (simp [limb_1_2, Cond.value, Term.eval]; done)))⟩
