-- calls among constructors
def nPc (δ : Nv) (args : List Value) (ws : va_W) : Array Value → State → Prop := va_Pc args (fun U => nGl δ U U.heap ∧ va_P (nD δ) vwCl ws U.heap ∧ va_D (nA δ) ws)
def nQc (δ : Nv) (Z : va_W → Prop) : Array Value → State → Outcome → State → Prop := va_Qv (S := va_W) Z (fun ws' t => va_P (nD δ) vwCl ws' t.heap ∧ va_D (nA δ) ws') (nA δ)
theorem nPc.blind {δ : Nv} {args : List Value} {ws : va_W} : FrameBlind (nPc δ args ws) := fun a U g mk q => ⟨q.1, nGl.same (u := U) rfl q.2.1, q.2.2⟩
section NC
variable {δ : Nv} {own : String} {cc : ByteArray} {nL : Nat} {nm : String} {Z : va_W → Prop} {Ex : Nat → List (Nat × Value) → va_W → Prop} {d kc ks pc : Nat} {lv : List (Nat × Value)} {st st0 : List Value} {ws : va_W}
theorem N.met {l : Launch} {y : MethodName} {args : List Value} (hy : plainName y.cls = true) (hown : y.cls = own) (hnm : y.name = nm) (hnl : (lg_sl args).length ≤ nL) (hN : N δ own cc nL nm Z d kc ks 0 (lv_args 0 args) [] ws) :
    Met l y (Cond.code y cc nL none :: lw_good) { frames := d, cells := kc, slots := ks, locals := 48 * d } (nPc δ args ws) (nQc δ Z) kc ks (nA δ) := by
  refine Met.ofW (cc := cc) (maxL := nL) (ret := none) hy rfl ?_
  intro p e s m a below meth c s₁ B hml hv
  obtain ⟨rfl, hgl, hP, hD⟩ := hv
  have hts := atoms_spec (ws := Cond.code y cc nL none :: lw_good) B.pre
  have cn : Cn δ own cc nL nm p s m args.toArray meth c := ⟨B.exec, B.bytes, hml, trivial, by rw [← hown]; exact findClass_of_methodNamed B.named, fun w hw => hts w (List.mem_cons_of_mem _ hw), B.notSynchronized, (name_of_methodNamed B.named B.method).1.trans hnm, hgl⟩
  have hx := B.exec
  have hb := B.bytes
  have hr := B.returns
  have hlocks := B.notSynchronized
  rw [lg_entry_eq]
  refine hN () cn (Nat.le_refl _) (Nat.le_refl _) (by show 0 + kc ≤ kc; omega) (by show 0 + ks ≤ ks; omega) va_S.rf hP hD (lv_entry args hnl) (fun pc' lv' ls' H' locs' c' s' ws' hE hlv hS hP hD h5 h6 => ?_)
  refine W.widen (k := kc) (n := ks) (by omega) (by omega) ?_
  exact W.vret hx hb hr (fun t ht hW => ⟨⟨ws', rfl, hE.2, by rw [ht]; exact hP, hD⟩, hS.F ht⟩) hS.2.2 hE.1
/-- the words of a constructor's call -/
def nV (own : String) (idx : Nat) (y : MethodName) (bytes : ByteArray) (maxL n : Nat) : Prop :=
  (y.cls ≠ "java/lang/invoke/MethodHandle" ∧ y.cls ≠ "java/lang/invoke/VarHandle" ∧ (parseMethodDescriptor y.desc).map (fun d => d.parameters.length) = some n) ∧ plainName y.cls = true ∧ maxL ≤ 25 ∧
  Cond.methodLink own idx y ∈ lw_good ∧ Cond.instanceMethod y ∈ lw_good ∧ Cond.initialized y.cls ∈ lw_good ∧ Cond.code y bytes maxL none ∈ lw_good
theorem n_callI {y : MethodName} {idx maxL n b d' kc' ks' : Nat} {bytes : ByteArray} {As : List Value} {Z' : va_W → Prop} (hN : N δ y.cls bytes maxL "<init>" Z' d' kc' ks' 0 (lv_args 0 (.ref b :: As)) [] ws) (hg : nV own idx y bytes maxL n) (hi : y.name = "<init>") (hn : As.length = n) (hnl : (lg_sl (.ref b :: As)).length ≤ maxL) (hstk : st0 = As.reverse ++ .ref b :: st) (hcat : (st.map fun v => v.category).sum ≤ 8) (hd : d' + 1 ≤ d) (hdg : decode cc pc = .ok (.invokespecial idx, 3))
    (kk : ∀ ws', Z' ws' → N0 δ own cc nL nm Ex d kc ks (pc + 3) lv st ws') : N0 δ own cc nL nm Ex d (kc + kc') (ks + ks') pc lv st0 ws := by
  intro u' p l e R s m args below meth c H locs cells slots Q ls C h1 h2 h3 h4 hS hP hD hls K
  obtain ⟨hy, hpl, hml, w1, w2, w3, w4⟩ := hg
  refine va_callv (va_runI (As := As) (rest := st) ⟨C.1, C.2.1, C.2.2.1, C.2.2.2.2.1, C.2.2.2.2.2.1⟩ (N.met (l := l) hpl rfl hi hnl hN) (cwI n C.2.2.2.2.2.1 (gGood (gGood.cons w4 (fun _ h => h))) rfl rfl rfl (C.2.2.2.2.2.1 _ w3) (C.2.2.2.2.2.1 _ w1) (C.2.2.2.2.2.1 _ w2) hi hy ⟨?_, ?_⟩)
    ⟨nPc.blind, fun U hU hW => ⟨rfl, ?_, by rw [hU]; exact hP, hD⟩⟩ rfl hn hls.1 hstk (lv_room hcat) hdg ⟨?_, ?_⟩) hS (fun q _ h => h) (fun q h => h) (fun u t H1 locs1 ht hvm hZ hB hz1 hk1 hS1 => ?_)
  · show d' + 1 ≤ R.frames; omega
  · show 8 + (maxL + 11) + 48 * d' ≤ R.locals; omega
  · rw [hU]; exact nGl.warm hW (nGl.kept hS C.2.2.2.2.2.2.2.2)
  · omega
  · omega
  · exact kk u hZ () C h1 h2 (by omega) (by omega) hS1 (by rw [← ht]; exact hB.1) hB.2 hls (fun pc' lv' ls' H' locs' c' s' ws' a b f g i j jj => K pc' lv' ls' H' locs' c' s' ws' a b f g i (by omega) (by omega))
/-- the words of a nest mate's constructor -/
def nVN (own : String) (idx : Nat) (host : String) (y : MethodName) (bytes : ByteArray) (maxL n : Nat) : Prop :=
  (y.cls ≠ "java/lang/invoke/MethodHandle" ∧ y.cls ≠ "java/lang/invoke/VarHandle" ∧ (parseMethodDescriptor y.desc).map (fun d => d.parameters.length) = some n) ∧ plainName y.cls = true ∧ maxL ≤ 25 ∧
  Cond.methodLinkNest own idx y host ∈ gnest ∧ Cond.instanceMethod y ∈ lw_good ∧ Cond.initialized y.cls ∈ lw_good ∧ Cond.code y bytes maxL none ∈ lw_good
theorem n_callIN {y : MethodName} {idx maxL n b d' kc' ks' : Nat} {host : String} {bytes : ByteArray} {As : List Value} {Z' : va_W → Prop} (hN : N δ y.cls bytes maxL "<init>" Z' d' kc' ks' 0 (lv_args 0 (.ref b :: As)) [] ws) (hg : nVN own idx host y bytes maxL n) (hi : y.name = "<init>") (hn : As.length = n) (hnl : (lg_sl (.ref b :: As)).length ≤ maxL) (hstk : st0 = As.reverse ++ .ref b :: st) (hcat : (st.map fun v => v.category).sum ≤ 8) (hd : d' + 1 ≤ d) (hdg : decode cc pc = .ok (.invokespecial idx, 3))
    (kk : ∀ ws', Z' ws' → N0 δ own cc nL nm Ex d kc ks (pc + 3) lv st ws') : N0 δ own cc nL nm Ex d (kc + kc') (ks + ks') pc lv st0 ws := by
  intro u' p l e R s m args below meth c H locs cells slots Q ls C h1 h2 h3 h4 hS hP hD hls K
  obtain ⟨hy, hpl, hml, w1, w2, w3, w4⟩ := hg
  refine va_callv (va_runIN (As := As) (rest := st) ⟨C.1, C.2.1, C.2.2.1, C.2.2.2.2.1, C.2.2.2.2.2.1⟩ (N.met (l := l) hpl rfl hi hnl hN) ⟨va_cnB n C.2.2.2.2.2.1 (gGood (gGood.cons w4 (fun _ h => h))) rfl rfl rfl (C.2.2.2.2.2.2.2.2.2.2.2.2 _ w1) (C.2.2.2.2.2.1 _ w3) hy ⟨?_, ?_⟩, hi, C.2.2.2.2.2.1 _ w2⟩
    ⟨nPc.blind, fun U hU hW => ⟨rfl, ?_, by rw [hU]; exact hP, hD⟩⟩ rfl hn hls.1 hstk (lv_room hcat) hdg ⟨?_, ?_⟩) hS (fun q _ h => h) (fun q h => h) (fun u t H1 locs1 ht hvm hZ hB hz1 hk1 hS1 => ?_)
  · show d' + 1 ≤ R.frames; omega
  · show 8 + (maxL + 11) + 48 * d' ≤ R.locals; omega
  · rw [hU]; exact nGl.warm hW (nGl.kept hS C.2.2.2.2.2.2.2.2)
  · omega
  · omega
  · exact kk u hZ () C h1 h2 (by omega) (by omega) hS1 (by rw [← ht]; exact hB.1) hB.2 hls (fun pc' lv' ls' H' locs' c' s' ws' a b f g i j jj => K pc' lv' ls' H' locs' c' s' ws' a b f g i (by omega) (by omega))
theorem n_callV {y : MethodName} {idx maxL n b d' kc' ks' ci nn : Nat} {C0 : String} {T : u_T} {bytes : ByteArray} {As : List Value} {fs : List Value} {Z' : va_W → Prop} (q0 : Nat) (hN : N δ C0 bytes maxL y.name Z' d' kc' ks' 0 (lv_args 0 (.ref b :: As)) [] ws) (hg : gV own idx C0 y bytes maxL none n) (hq : ws[q0]? = some (b, .inr (ci, fs))) (hc : vwCl[ci]? = some (C0, T, nn)) (hn : As.length = n) (hnl : (lg_sl (.ref b :: As)).length ≤ maxL) (hstk : st0 = As.reverse ++ .ref b :: st) (hcat : (st.map fun v => v.category).sum ≤ 8) (hd : d' + 1 ≤ d) (hdg : decode cc pc = .ok (.invokevirtual idx, 3))
    (kk : ∀ ws', Z' ws' → N0 δ own cc nL nm Ex d kc ks (pc + 3) lv st ws') : N0 δ own cc nL nm Ex d (kc + kc') (ks + ks') pc lv st0 ws := by
  intro u' p l e R s m args below meth c H locs cells slots Q ls C h1 h2 h3 h4 hS hP hD hls K
  obtain ⟨hy, hpl, hml, w1, w2, w3, w4, w5⟩ := hg
  refine va_callv (va_runV (As := As) (rest := st) ⟨C.1, C.2.1, C.2.2.1, C.2.2.2.2.1, C.2.2.2.2.2.1⟩ (N.met (l := l) hpl hy.1 rfl hnl hN) (cwV n C.2.2.2.2.2.1 (gGood (gGood.cons w1 (gGood.cons w2 (gGood.cons w3 (gGood.cons w4 (gGood.cons w5 (fun _ h => h))))))) rfl rfl rfl hy ⟨?_, ?_⟩)
    ⟨nPc.blind, va_recv C.2.2.2.2.2.2.2.2.1 hP hc hq, fun U hU hW => ⟨rfl, ?_, by rw [hU]; exact hP, hD⟩⟩ rfl hn hls.1 hstk (lv_room hcat) hdg ⟨?_, ?_⟩) hS (fun q _ h => h) (fun q h => h) (fun u t H1 locs1 ht hvm hZ hB hz1 hk1 hS1 => ?_)
  · show d' + 1 ≤ R.frames; omega
  · show 8 + (maxL + 11) + 48 * d' ≤ R.locals; omega
  · rw [hU]; exact nGl.warm hW (nGl.kept hS C.2.2.2.2.2.2.2.2)
  · omega
  · omega
  · exact kk u hZ () C h1 h2 (by omega) (by omega) hS1 (by rw [← ht]; exact hB.1) hB.2 hls (fun pc' lv' ls' H' locs' c' s' ws' a b f g i j jj => K pc' lv' ls' H' locs' c' s' ws' a b f g i (by omega) (by omega))
end NC
