-- constructors: a judgement over any world
abbrev Nv : Type := va_G × (ClassId × ClassId × ClassId) × Nat × (Nat × Nat)
def nD (δ : Nv) : va_G := δ.1
def ncI (δ : Nv) : ClassId := δ.2.1.1
def ncZ (δ : Nv) : ClassId := δ.2.1.2.1
def ncJ (δ : Nv) : ClassId := δ.2.1.2.2
def nB (δ : Nv) : Nat := δ.2.2.1
def naS (δ : Nv) : Nat := δ.2.2.2.1
def naY (δ : Nv) : Nat := δ.2.2.2.2
def nA (δ : Nv) : Nat → Prop := fun q => nB δ ≤ q
def ntys (δ : Nv) : List (ClassId × FieldType) := [(ncI δ, .int), (ncZ δ, .boolean)]
abbrev fNS : Nat → Value := fun i => .int (([10, 850, 600, 2, 20, 0, 100] : List Int32).getD i 0)
abbrev fNY : Nat → Value := fun i => .int (([150, 180, 200, 220, 160] : List Int32).getD i 0)
def nGl (δ : Nv) (U : State) (H : Heap) : Prop :=
  va_K (nD δ) vwCl (ntys δ) U ∧ nB δ ≤ H.size ∧ (va_Z "OliveMill" "NEW_SETTINGS" "[I" (.ref (naS δ)) (nA δ) U H ∧ va_T .int (naS δ) 7 fNS (nA δ) U H) ∧
  (va_Z "OliveMill" "NEW_YIELDS" "[I" (.ref (naY δ)) (nA δ) U H ∧ va_T .int (naY δ) 5 fNY (nA δ) U H) ∧ (∀ w ∈ gnest, va_Nw w U)
theorem nGl.same {δ : Nv} {u U : State} {H : Heap} (hv : u.vm = U.vm) (g : nGl δ u H) : nGl δ U H := by
  have ha : u.vm.Alike U.vm := by rw [hv]; exact Vm.Alike.refl U.vm
  obtain ⟨g1, g2, ⟨g7, g8⟩, ⟨g9, g10⟩, g14⟩ := g
  exact ⟨g1.moved ha, g2, ⟨g7.moved ha, g8.moved ha⟩, ⟨g9.moved ha, g10.moved ha⟩, fun w hw => va_Nw.same (gnest_on w hw) hv (g14 w hw)⟩
theorem nGl.warm {δ : Nv} {s U : State} {H : Heap} (hW : s.WarmedH U.vm) (g : nGl δ s H) : nGl δ U H := by
  have ha : s.vm.Alike U.vm := hW.alike
  obtain ⟨g1, g2, ⟨g7, g8⟩, ⟨g9, g10⟩, g14⟩ := g
  exact ⟨g1.moved ha, g2, ⟨g7.moved ha, g8.moved ha⟩, ⟨g9.moved ha, g10.moved ha⟩, gnest_warm hW g14⟩
theorem nGl.kept {δ : Nv} {U : State} {H0 H : Heap} {locs : List Loc} (hS : va_S (nA δ) H0 H locs) (g : nGl δ U H0) : nGl δ U H := by
  obtain ⟨g1, g2, ⟨g7, g8⟩, ⟨g9, g10⟩, g14⟩ := g
  have hk := hS.2.1
  exact ⟨g1, Nat.le_trans g2 hS.1, ⟨g7.kept hk, g8.kept hk⟩, ⟨g9.kept hk, g10.kept hk⟩, g14⟩
def Cn (δ : Nv) (own : String) (cc : ByteArray) (nL : Nat) (nm : String) (p : Program) (s : State) (m : MethodId) (args : Array Value) (meth : Method) (c : Code) : Prop :=
  p.tables.exec = Jvm.exec ∧ c.code = cc ∧ c.maxLocals = nL ∧ True ∧ s.vm.findClass own = some m.cls ∧ (∀ w ∈ lw_good, w.before args s = true) ∧ meth.locks = false ∧ meth.name = nm ∧ nGl δ s s.heap
/-- from here the method ends, with a world that Z knows; kc new cells of ks slots at most -/
def N0 (δ : Nv) (own : String) (cc : ByteArray) (nL : Nat) (nm : String) (Ex : Nat → List (Nat × Value) → va_W → Prop) (d kc ks pc : Nat) (lv : List (Nat × Value)) (st : List Value) (ws : va_W) : Prop :=
  ∀ (_ : Unit) {p : Program} {l : Launch} {e : Env} {R : Room} {s : State} {m : MethodId} {args : Array Value} {below : List Frame} {meth : Method} {c : Code} {H : Heap} {locs : List Loc} {cells slots : Nat} {Q : State → Prop} {ls : Array Slot},
    Cn δ own cc nL nm p s m args meth c → d ≤ R.frames → 48 * d ≤ R.locals → cells + kc ≤ R.cells → slots + ks ≤ R.slots → va_S (nA δ) s.heap H locs → va_P (nD δ) vwCl ws H → va_D (nA δ) ws → lv_has ls nL lv →
    (∀ (pc' : Nat) (lv' : List (Nat × Value)) (ls' : Array Slot) (H' : Heap) (locs' : List Loc) (cells' slots' : Nat) (ws' : va_W), Ex pc' lv' ws' → lv_has ls' nL lv' → va_S (nA δ) s.heap H' locs' → va_P (nD δ) vwCl ws' H' → va_D (nA δ) ws' → cells' ≤ cells + kc → slots' ≤ slots + ks → W p l e R s m args below meth c H' locs' cells' slots' Q (F0 m pc' ls' [])) →
    W p l e R s m args below meth c H locs cells slots Q (F0 m pc ls st)
/-- the end of a method that answers nothing -/
abbrev rZ (cc : ByteArray) (Z : va_W → Prop) : Nat → List (Nat × Value) → va_W → Prop := fun pc _ ws => decode cc pc = .ok (.return_, 1) ∧ Z ws
abbrev N (δ : Nv) (own : String) (cc : ByteArray) (nL : Nat) (nm : String) (Z : va_W → Prop) (d kc ks pc : Nat) (lv : List (Nat × Value)) (st : List Value) (ws : va_W) : Prop := N0 δ own cc nL nm (rZ cc Z) d kc ks pc lv st ws
theorem ra_inj {U : State} {cA cB : ClassId} {ty : FieldType} (ht : ty = .int ∨ ty = .boolean ∨ ty = .long) (h1 : va_RA U cA ty) (h2 : va_RA U cB ty) : cB = cA := by
  rcases ht with rfl | rfl | rfl
  · exact Option.some.inj ((show U.vm.findClass ("[" ++ FieldType.int.toString) = some cB from h2).symm.trans h1)
  · exact Option.some.inj ((show U.vm.findClass ("[" ++ FieldType.boolean.toString) = some cB from h2).symm.trans h1)
  · exact Option.some.inj ((show U.vm.findClass ("[" ++ FieldType.long.toString) = some cB from h2).symm.trans h1)
section NN
variable {δ : Nv} {own : String} {cc : ByteArray} {nL : Nat} {nm : String} {Ex : Nat → List (Nat × Value) → va_W → Prop} {d kc ks pc : Nat} {lv lv' : List (Nat × Value)} {st : List Value} {ws : va_W}
theorem n_iconst {n : Int} {v : Int32} (hdg : decode cc pc = .ok (.iconst n, 1)) (hv : Int32.ofInt n = v) (k : N0 δ own cc nL nm Ex d kc ks (pc + 1) lv (.int v :: st) ws) : N0 δ own cc nL nm Ex d kc ks pc lv st ws := by
  intro u p l e R s m args below meth c H locs cells slots Q ls C h1 h2 h3 h4 hS hP hD hls K
  exact lv_iconst C.1 C.2.1 hdg hv (k u C h1 h2 h3 h4 hS hP hD hls K)
theorem n_bipush {n : Int} {v : Int32} (hdg : decode cc pc = .ok (.bipush n, 2)) (hv : (Int8.ofInt n).toInt32 = v) (k : N0 δ own cc nL nm Ex d kc ks (pc + 2) lv (.int v :: st) ws) : N0 δ own cc nL nm Ex d kc ks pc lv st ws := by
  intro u p l e R s m args below meth c H locs cells slots Q ls C h1 h2 h3 h4 hS hP hD hls K
  exact lv_bipush C.1 C.2.1 hdg hv (k u C h1 h2 h3 h4 hS hP hD hls K)
theorem n_sipush {n : Int} {v : Int32} (hdg : decode cc pc = .ok (.sipush n, 3)) (hv : (Int16.ofInt n).toInt32 = v) (k : N0 δ own cc nL nm Ex d kc ks (pc + 3) lv (.int v :: st) ws) : N0 δ own cc nL nm Ex d kc ks pc lv st ws := by
  intro u p l e R s m args below meth c H locs cells slots Q ls C h1 h2 h3 h4 hS hP hD hls K
  exact lv_sipush C.1 C.2.1 hdg hv (k u C h1 h2 h3 h4 hS hP hD hls K)
theorem n_iload_n {k : Fin 4} {i : Nat} {x : Int32} (hdg : decode cc pc = .ok (.iload_n k, 1)) (hi : (k : Nat) = i) (q : Nat) (hq : lv[q]? = some (i, .int x)) (k : N0 δ own cc nL nm Ex d kc ks (pc + 1) lv (.int x :: st) ws) : N0 δ own cc nL nm Ex d kc ks pc lv st ws := by
  intro u p l e R s m args below meth c H locs cells slots Q ls C h1 h2 h3 h4 hS hP hD hls K
  exact lv_iload_n C.1 C.2.1 hdg hi (lv_at hls q hq) (k u C h1 h2 h3 h4 hS hP hD hls K)
theorem n_iload {i : Nat} {x : Int32} (hdg : decode cc pc = .ok (.iload i, 2)) (q : Nat) (hq : lv[q]? = some (i, .int x)) (k : N0 δ own cc nL nm Ex d kc ks (pc + 2) lv (.int x :: st) ws) : N0 δ own cc nL nm Ex d kc ks pc lv st ws := by
  intro u p l e R s m args below meth c H locs cells slots Q ls C h1 h2 h3 h4 hS hP hD hls K
  exact lv_iload C.1 C.2.1 hdg (lv_at hls q hq) (k u C h1 h2 h3 h4 hS hP hD hls K)
theorem n_aload_n {k : Fin 4} {i : Nat} {x : Nat} (hdg : decode cc pc = .ok (.aload_n k, 1)) (hi : (k : Nat) = i) (q : Nat) (hq : lv[q]? = some (i, .ref x)) (k : N0 δ own cc nL nm Ex d kc ks (pc + 1) lv (.ref x :: st) ws) : N0 δ own cc nL nm Ex d kc ks pc lv st ws := by
  intro u p l e R s m args below meth c H locs cells slots Q ls C h1 h2 h3 h4 hS hP hD hls K
  exact lv_aload_n C.1 C.2.1 hdg hi (lv_at hls q hq) (k u C h1 h2 h3 h4 hS hP hD hls K)
theorem n_aload {i : Nat} {x : Nat} (hdg : decode cc pc = .ok (.aload i, 2)) (q : Nat) (hq : lv[q]? = some (i, .ref x)) (k : N0 δ own cc nL nm Ex d kc ks (pc + 2) lv (.ref x :: st) ws) : N0 δ own cc nL nm Ex d kc ks pc lv st ws := by
  intro u p l e R s m args below meth c H locs cells slots Q ls C h1 h2 h3 h4 hS hP hD hls K
  exact lv_aload C.1 C.2.1 hdg (lv_at hls q hq) (k u C h1 h2 h3 h4 hS hP hD hls K)
theorem n_istore_n {k : Fin 4} {i : Nat} {x : Int32} (hdg : decode cc pc = .ok (.istore_n k, 1)) (hi : (k : Nat) = i) (hn : i < nL) (hl : (i, Value.int x) :: lv.filter (fun q => !(q.1 == i) && !(q.1 + 1 == i && q.2.category == 2)) = lv') (k : N0 δ own cc nL nm Ex d kc ks (pc + 1) lv' st ws) : N0 δ own cc nL nm Ex d kc ks pc lv (.int x :: st) ws := by
  intro u p l e R s m args below meth c H locs cells slots Q ls C h1 h2 h3 h4 hS hP hD hls K
  exact lv_istore_n C.1 C.2.1 hdg hi hls hn hl (fun ls' hls' => k u C h1 h2 h3 h4 hS hP hD hls' K)
theorem n_istore {i : Nat} {x : Int32} (hdg : decode cc pc = .ok (.istore i, 2)) (hn : i < nL) (hl : (i, Value.int x) :: lv.filter (fun q => !(q.1 == i) && !(q.1 + 1 == i && q.2.category == 2)) = lv') (k : N0 δ own cc nL nm Ex d kc ks (pc + 2) lv' st ws) : N0 δ own cc nL nm Ex d kc ks pc lv (.int x :: st) ws := by
  intro u p l e R s m args below meth c H locs cells slots Q ls C h1 h2 h3 h4 hS hP hD hls K
  exact lv_istore C.1 C.2.1 hdg hls hn hl (fun ls' hls' => k u C h1 h2 h3 h4 hS hP hD hls' K)
theorem n_astore_n {k : Fin 4} {i : Nat} {x : Nat} (hdg : decode cc pc = .ok (.astore_n k, 1)) (hi : (k : Nat) = i) (hn : i < nL) (hl : (i, Value.ref x) :: lv.filter (fun q => !(q.1 == i) && !(q.1 + 1 == i && q.2.category == 2)) = lv') (k : N0 δ own cc nL nm Ex d kc ks (pc + 1) lv' st ws) : N0 δ own cc nL nm Ex d kc ks pc lv (.ref x :: st) ws := by
  intro u p l e R s m args below meth c H locs cells slots Q ls C h1 h2 h3 h4 hS hP hD hls K
  exact lv_astore_n C.1 C.2.1 hdg hi hls hn hl (fun ls' hls' => k u C h1 h2 h3 h4 hS hP hD hls' K)
theorem n_astore {i : Nat} {x : Nat} (hdg : decode cc pc = .ok (.astore i, 2)) (hn : i < nL) (hl : (i, Value.ref x) :: lv.filter (fun q => !(q.1 == i) && !(q.1 + 1 == i && q.2.category == 2)) = lv') (k : N0 δ own cc nL nm Ex d kc ks (pc + 2) lv' st ws) : N0 δ own cc nL nm Ex d kc ks pc lv (.ref x :: st) ws := by
  intro u p l e R s m args below meth c H locs cells slots Q ls C h1 h2 h3 h4 hS hP hD hls K
  exact lv_astore C.1 C.2.1 hdg hls hn hl (fun ls' hls' => k u C h1 h2 h3 h4 hS hP hD hls' K)
theorem n_iinc {i q : Nat} {n : Int} {x v : Int32} (hdg : decode cc pc = .ok (.iinc i n, 3)) (hk : lv[q]? = some (i, .int x)) (hv : x + Int32.ofInt n = v) (hn : i < nL) (hl : (i, Value.int v) :: lv.filter (fun q => !(q.1 == i) && !(q.1 + 1 == i && q.2.category == 2)) = lv') (k : N0 δ own cc nL nm Ex d kc ks (pc + 3) lv' st ws) : N0 δ own cc nL nm Ex d kc ks pc lv st ws := by
  intro u p l e R s m args below meth c H locs cells slots Q ls C h1 h2 h3 h4 hS hP hD hls K
  exact lv_iinc C.1 C.2.1 hdg hls hk hv hn hl (fun ls' hls' => k u C h1 h2 h3 h4 hS hP hD hls' K)
theorem n_iadd {x y : Int32} (hdg : decode cc pc = .ok (.iadd, 1)) (k : N0 δ own cc nL nm Ex d kc ks (pc + 1) lv (.int (x + y) :: st) ws) : N0 δ own cc nL nm Ex d kc ks pc lv (.int y :: .int x :: st) ws := by
  intro u p l e R s m args below meth c H locs cells slots Q ls C h1 h2 h3 h4 hS hP hD hls K
  exact lv_iadd C.1 C.2.1 hdg (k u C h1 h2 h3 h4 hS hP hD hls K)
theorem n_imul {x y : Int32} (hdg : decode cc pc = .ok (.imul, 1)) (k : N0 δ own cc nL nm Ex d kc ks (pc + 1) lv (.int (x * y) :: st) ws) : N0 δ own cc nL nm Ex d kc ks pc lv (.int y :: .int x :: st) ws := by
  intro u p l e R s m args below meth c H locs cells slots Q ls C h1 h2 h3 h4 hS hP hD hls K
  exact lv_imul C.1 C.2.1 hdg (k u C h1 h2 h3 h4 hS hP hD hls K)
theorem n_dup {va : Value} (hdg : decode cc pc = .ok (.dup, 1)) (hva : va.category = 1) (k : N0 δ own cc nL nm Ex d kc ks (pc + 1) lv (va :: va :: st) ws) : N0 δ own cc nL nm Ex d kc ks pc lv (va :: st) ws := by
  intro u p l e R s m args below meth c H locs cells slots Q ls C h1 h2 h3 h4 hS hP hD hls K
  exact lv_dup C.1 C.2.1 hdg hva (k u C h1 h2 h3 h4 hS hP hD hls K)
theorem n_goto {off : Int} {tgt : Nat} (hdg : decode cc pc = .ok (.goto off, 3)) (ht : (pc : Int) + off = (tgt : Int)) (k : N0 δ own cc nL nm Ex d kc ks tgt lv st ws) : N0 δ own cc nL nm Ex d kc ks pc lv st ws := by
  intro u p l e R s m args below meth c H locs cells slots Q ls C h1 h2 h3 h4 hS hP hD hls K
  exact lv_goto C.1 C.2.1 hdg ht (k u C h1 h2 h3 h4 hS hP hD hls K)
theorem n_if_lt {x : Int32} {off : Int} {tgt : Nat} (hdg : decode cc pc = .ok (.ifCond .lt off, 3)) (ht : (pc : Int) + off = (tgt : Int)) (kt : x < 0 → N0 δ own cc nL nm Ex d kc ks tgt lv st ws) (kf : ¬ x < 0 → N0 δ own cc nL nm Ex d kc ks (pc + 3) lv st ws) : N0 δ own cc nL nm Ex d kc ks pc lv (.int x :: st) ws := by
  intro u p l e R s m args below meth c H locs cells slots Q ls C h1 h2 h3 h4 hS hP hD hls K
  exact lv_if_lt C.1 C.2.1 hdg ht (fun hc => kt hc u C h1 h2 h3 h4 hS hP hD hls K) (fun hc => kf hc u C h1 h2 h3 h4 hS hP hD hls K)
theorem n_icmp_ge {x y : Int32} {off : Int} {tgt : Nat} (hdg : decode cc pc = .ok (.if_icmp .ge off, 3)) (ht : (pc : Int) + off = (tgt : Int)) (kt : y ≤ x → N0 δ own cc nL nm Ex d kc ks tgt lv st ws) (kf : ¬ y ≤ x → N0 δ own cc nL nm Ex d kc ks (pc + 3) lv st ws) : N0 δ own cc nL nm Ex d kc ks pc lv (.int y :: .int x :: st) ws := by
  intro u p l e R s m args below meth c H locs cells slots Q ls C h1 h2 h3 h4 hS hP hD hls K
  exact lv_icmp_ge C.1 C.2.1 hdg ht (fun hc => kt hc u C h1 h2 h3 h4 hS hP hD hls K) (fun hc => kf hc u C h1 h2 h3 h4 hS hP hD hls K)
theorem n_exit (hE : Ex pc lv ws) : N0 δ own cc nL nm Ex d kc ks pc lv [] ws := by
  intro u p l e R s m args below meth c H locs cells slots Q ls C h1 h2 h3 h4 hS hP hD hls K
  exact K pc lv ls H locs cells slots ws hE hls hS hP hD (Nat.le_add_right _ _) (Nat.le_add_right _ _)
theorem n_ret {Z : va_W → Prop} (hdg : decode cc pc = .ok (.return_, 1)) (hZ : Z ws) : N δ own cc nL nm Z d kc ks pc lv [] ws := n_exit ⟨hdg, hZ⟩
theorem n_sub (qs : List Nat) (hl : lv_pick lv qs = lv') (k : N0 δ own cc nL nm Ex d kc ks pc lv' st ws) : N0 δ own cc nL nm Ex d kc ks pc lv st ws := by
  intro u p l e R s m args below meth c H locs cells slots Q ls C h1 h2 h3 h4 hS hP hD hls K
  exact k u C h1 h2 h3 h4 hS hP hD (lv_sub hls qs hl) K
theorem n_weak {kc' ks' : Nat} (h5 : kc' ≤ kc) (h6 : ks' ≤ ks) (k : N0 δ own cc nL nm Ex d kc' ks' pc lv st ws) : N0 δ own cc nL nm Ex d kc ks pc lv st ws := by
  intro u p l e R s m args below meth c H locs cells slots Q ls C h1 h2 h3 h4 hS hP hD hls K
  exact k u C h1 h2 (by omega) (by omega) hS hP hD hls (fun pc' lv' ls' H' locs' c' s' ws' a b f g i j jj => K pc' lv' ls' H' locs' c' s' ws' a b f g i (by omega) (by omega))
theorem n_ws {ws' : va_W} (h : ws = ws') (k : N0 δ own cc nL nm Ex d kc ks pc lv st ws') : N0 δ own cc nL nm Ex d kc ks pc lv st ws := by rw [h]; exact k
theorem n_objInit {idx a : Nat} (hw1 : Cond.methodLink own idx objectInit ∈ lw_good) (hw2 : Cond.instanceMethod objectInit ∈ lw_good) (hw3 : Cond.code objectInit object_method_1_code 1 none ∈ lw_good) (hd : 1 ≤ d) (hst : (st.map fun v => v.category).sum ≤ 8) (hdg : decode cc pc = .ok (.invokespecial idx, 3)) (k : N0 δ own cc nL nm Ex d kc ks (pc + 3) lv st ws) : N0 δ own cc nL nm Ex d kc ks pc lv (.ref a :: st) ws := by
  intro u p l e R s m args below meth c H locs cells slots Q ls C h1 h2 h3 h4 hS hP hD hls K
  refine W.objInit C.1 C.2.1 C.2.2.2.2.1 (C.2.2.2.2.2.1 _ hw1) (C.2.2.2.2.2.1 _ hw2) (C.2.2.2.2.2.1 _ hw3) rfl (by rw [C.2.2.1]; exact hls.1) rfl hdg (by omega) (by show 2 * 0 + (st.map fun v => v.category).sum + 12 ≤ R.locals; omega) ?_
  exact k u C h1 h2 h3 h4 hS hP hD hls K
theorem n_getf {ref C0 : String} {T : u_T} {n ci index a : Nat} {fs : List Value} {v : Value} (q0 k : Nat) (hin : ∀ w ∈ u_ws C0 T n, w ∈ lw_good) (he : ws[q0]? = some (a, .inr (ci, fs))) (hc : vwCl[ci]? = some (C0, T, n)) (hk : k < n) (hw : Cond.fieldLink own index ref (T k).2.1 (T k).2.2.1 ∈ lw_good) (href : ref = (T k).1) (hv : fs[k]? = some v) (hdg : decode cc pc = .ok (.getfield index, 3))
    (kk : N0 δ own cc nL nm Ex d kc ks (pc + 3) lv (v :: st) ws) : N0 δ own cc nL nm Ex d kc ks pc lv (.ref a :: st) ws := by
  intro u p l e R s m args below meth c H locs cells slots Q ls C h1 h2 h3 h4 hS hP hD hls K
  exact va_get C.1 C.2.1 C.2.2.2.2.2.1 hin C.2.2.2.2.1 C.2.2.2.2.2.2.2.2.1 hP q0 he hc k hk (C.2.2.2.2.2.1 _ hw) (fun x hx => by rw [href]; exact hx) hv hdg (kk u C h1 h2 h3 h4 hS hP hD hls K)
theorem n_putf {ref C0 : String} {T : u_T} {n ci index a : Nat} {fs : List Value} {v : Value} {ty : FieldType} (q0 k : Nat) (hin : ∀ w ∈ u_ws C0 T n, w ∈ lw_good) (ty0 : Nat → FieldType) (hty : ∀ k, k < n → parseFieldDescriptor (T k).2.2.1 = some (ty0 k)) (hnm : ∀ a, a < n → ∀ b, b < n → a ≠ b → (T a).2.1 ≠ (T b).2.1) (he : ws[q0]? = some (a, .inr (ci, fs))) (hc : vwCl[ci]? = some (C0, T, n)) (hk : k < n) (hw : Cond.fieldLink own index ref (T k).2.1 (T k).2.2.1 ∈ lw_good) (href : ref = (T k).1) (hfin : (T k).2.2.2 = false) (hd : parseFieldDescriptor (T k).2.2.1 = some ty) (hn : narrow ty v = v) (hfit : fits ty v = true) (hl : k < fs.length) (hdg : decode cc pc = .ok (.putfield index, 3))
    (kk : N0 δ own cc nL nm Ex d kc ks (pc + 3) lv st (ws.set q0 (a, .inr (ci, fs.set k v)))) : N0 δ own cc nL nm Ex d kc ks pc lv (v :: .ref a :: st) ws := by
  intro u p l e R s m args below meth c H locs cells slots Q ls C h1 h2 h3 h4 hS hP hD hls K
  exact va_put C.1 C.2.1 C.2.2.2.2.2.1 hin ty0 hty hnm C.2.2.2.2.1 C.2.2.2.2.2.2.2.2.1 hP hD hS q0 he hc k hk (C.2.2.2.2.2.1 _ hw) (fun x hx => by rw [href]; exact hx) hfin hd hn hfit hl hdg (fun H1 locs1 hP1 hD1 hS1 => kk u C h1 h2 h3 h4 hS1 hP1 hD1 hls K)
theorem n_putF {ref C0 : String} {T : u_T} {n ci index a : Nat} {fs : List Value} {v : Value} {ty : FieldType} (q0 k : Nat) (hin : ∀ w ∈ u_ws C0 T n, w ∈ lw_good) (ty0 : Nat → FieldType) (hty : ∀ k, k < n → parseFieldDescriptor (T k).2.2.1 = some (ty0 k)) (hnm : ∀ a, a < n → ∀ b, b < n → a ≠ b → (T a).2.1 ≠ (T b).2.1) (he : ws[q0]? = some (a, .inr (ci, fs))) (hc : vwCl[ci]? = some (C0, T, n)) (hk : k < n) (hw : Cond.fieldLink own index ref (T k).2.1 (T k).2.2.1 ∈ lw_good) (href : ref = (T k).1) (hfin : (T k).2.2.2 = true) (hi : nm = "<init>") (hdecl : (T k).1 = own) (hd : parseFieldDescriptor (T k).2.2.1 = some ty) (hn : narrow ty v = v) (hfit : fits ty v = true) (hl : k < fs.length) (hdg : decode cc pc = .ok (.putfield index, 3))
    (kk : N0 δ own cc nL nm Ex d kc ks (pc + 3) lv st (ws.set q0 (a, .inr (ci, fs.set k v)))) : N0 δ own cc nL nm Ex d kc ks pc lv (v :: .ref a :: st) ws := by
  intro u p l e R s m args below meth c H locs cells slots Q ls C h1 h2 h3 h4 hS hP hD hls K
  exact va_putF C.1 C.2.1 C.2.2.2.2.2.1 hin ty0 hty hnm C.2.2.2.2.1 C.2.2.2.2.2.2.2.2.1 hP hD hS q0 he hc k hk (C.2.2.2.2.2.1 _ hw) (fun x hx => by rw [href]; exact hx) hfin (C.2.2.2.2.2.2.2.1.trans hi) hdecl hd hn hfit hl hdg (fun H1 locs1 hP1 hD1 hS1 => kk u C h1 h2 h3 h4 hS1 hP1 hD1 hls K)
theorem n_newa {atype : ArrayType} {ty : FieldType} (hw : Cond.arrayClass (newarray.typeOf atype) ∈ lw_good) (hty : newarray.typeOf atype = ty) (hp : ty = .int ∨ ty = .boolean ∨ ty = .long) (t0 : Nat) {cA : ClassId} (ht : (ntys δ)[t0]? = some (cA, ty)) {n : Int32} {N' : Nat} {a0 : vp_A} (ha : ∀ cA : ClassId, vp_cell cA a0 = arrV cA N' (fun _ => defaultValue ty)) (hn : ¬ n < 0) (hN : n.toNatClampNeg = N') (hbytes : N' * componentBytes ty ≤ 536870912) (hdg : decode cc pc = .ok (.newarray atype, 2))
    (kk : ∀ q : Nat, N0 δ own cc nL nm Ex d kc ks (pc + 2) lv (.ref q :: st) (ws ++ [(q, .inl (cA, a0))])) : N0 δ own cc nL nm Ex d (kc + 1) (ks + N') pc lv (.int n :: st) ws := by
  intro u p l e R s m args below meth c H locs cells slots Q ls C h1 h2 h3 h4 hS hP hD hls K
  have hK := C.2.2.2.2.2.2.2.2.1
  have hB := C.2.2.2.2.2.2.2.2.2.1
  refine va_newa C.1 C.2.1 (C.2.2.2.2.2.1 _ hw) hty hK hP hD hS (fun q hq => Nat.le_trans hB hq) ha hn hN hbytes (by omega) (by omega) hdg (fun q cB H1 hK1 hP1 hD1 hS1 => ?_)
  have e1 : va_RA s cA ty := (hK.2 t0 _ ht).2
  have e2 : va_RA s cB ty := (hK1.2 (ntys δ).length (cB, ty) (by rw [List.getElem?_append_right (Nat.le_refl _), Nat.sub_self]; rfl)).2
  have e := ra_inj hp e1 e2
  subst e
  exact kk q u C h1 h2 (by omega) (by omega) hS1 hP1 hD1 hls (fun pc' lv' ls' H' locs' c' s' ws' a b f g i j jj => K pc' lv' ls' H' locs' c' s' ws' a b f g i (by omega) (by omega))
theorem n_new {C0 : String} {T : u_T} {n ci index : Nat} (hin : ∀ w ∈ u_ws C0 T n, w ∈ lw_good) (ty : Nat → FieldType) (hty : ∀ k, k < n → parseFieldDescriptor (T k).2.2.1 = some (ty k)) (hw1 : Cond.classLink own index C0 ∈ lw_good) (hw2 : Cond.instantiable C0 n ∈ lw_good) (hw3 : Cond.initialized C0 ∈ lw_good) (hc : vwCl[ci]? = some (C0, T, n)) {fs : List Value} (hfs : ∀ j, j < n → defaultValue (ty j) = vp_V fs j) (hdg : decode cc pc = .ok (.new index, 3))
    (kk : ∀ q : Nat, N0 δ own cc nL nm Ex d kc ks (pc + 3) lv (.ref q :: st) (ws ++ [(q, .inr (ci, fs))])) : N0 δ own cc nL nm Ex d (kc + 1) (ks + n) pc lv st ws := by
  intro u p l e R s m args below meth c H locs cells slots Q ls C h1 h2 h3 h4 hS hP hD hls K
  have hK := C.2.2.2.2.2.2.2.2.1
  have hB := C.2.2.2.2.2.2.2.2.2.1
  refine va_new C.1 C.2.1 C.2.2.2.2.2.1 hin ty hty C.2.2.2.2.1 (C.2.2.2.2.2.1 _ hw1) (C.2.2.2.2.2.1 _ hw2) (C.2.2.2.2.2.1 _ hw3) hK hP hD hS (fun q hq => Nat.le_trans hB hq) hc hfs (by omega) (by omega) hdg (fun q H1 hP1 hD1 hS1 => ?_)
  exact kk q u C h1 h2 (by omega) (by omega) hS1 hP1 hD1 hls (fun pc' lv' ls' H' locs' c' s' ws' a b f g i j jj => K pc' lv' ls' H' locs' c' s' ws' a b f g i (by omega) (by omega))
theorem n_iast {a n : Nat} {f : Nat → Int32} {i : Int32} {x : Int32} (q0 : Nat) (he : ws[q0]? = some (a, .inl (ncI δ, n, .inl f))) (hi : vp_in i n) (hdg : decode cc pc = .ok (.iastore, 1))
    (kk : N0 δ own cc nL nm Ex d kc ks (pc + 1) lv st (ws.set q0 (a, .inl (ncI δ, n, .inl (upd f i.toNatClampNeg x))))) : N0 δ own cc nL nm Ex d kc ks pc lv (.int x :: .int i :: .ref a :: st) ws := by
  intro u p l e R s m args below meth c H locs cells slots Q ls C h1 h2 h3 h4 hS hP hD hls K
  exact va_iast C.1 C.2.1 C.2.2.2.2.2.2.2.2.1 hP hD hS q0 0 he rfl hi hdg (fun H1 locs1 hP1 hD1 hS1 => kk u C h1 h2 h3 h4 hS1 hP1 hD1 hls K)
theorem n_alen {a : Nat} {cA : ClassId} {x : vp_A} {ty : FieldType} {v : Int32} (q0 t0 : Nat) (he : ws[q0]? = some (a, .inl (cA, x))) (ht : (ntys δ)[t0]? = some (cA, ty)) (hv : Int32.ofNat x.1 = v) (hdg : decode cc pc = .ok (.arraylength, 1))
    (kk : N0 δ own cc nL nm Ex d kc ks (pc + 1) lv (.int v :: st) ws) : N0 δ own cc nL nm Ex d kc ks pc lv (.ref a :: st) ws := by
  intro u p l e R s m args below meth c H locs cells slots Q ls C h1 h2 h3 h4 hS hP hD hls K
  exact va_alen C.1 C.2.1 C.2.2.2.2.2.2.2.2.1 hP q0 t0 he ht hv hdg (kk u C h1 h2 h3 h4 hS hP hD hls K)
theorem n_getsS {index : Nat} (hw : Cond.fieldLinkNest own index "OliveMill" "NEW_SETTINGS" "[I" "OliveMill" ∈ gnest) (hdg : decode cc pc = .ok (.getstatic index, 3)) (kk : N0 δ own cc nL nm Ex d kc ks (pc + 3) lv (.ref (naS δ) :: st) ws) : N0 δ own cc nL nm Ex d kc ks pc lv st ws := by
  intro u p l e R s m args below meth c H locs cells slots Q ls C h1 h2 h3 h4 hS hP hD hls K
  exact va_getsN C.1 C.2.1 C.2.2.2.2.2.2.2.2.2.2.1.1 hS C.2.2.2.2.1 (va_Nw.use rfl (C.2.2.2.2.2.2.2.2.2.2.2.2 _ hw)) (fun _ h9 => h9) hdg (kk u C h1 h2 h3 h4 hS hP hD hls K)
theorem n_tiS {i x : Int32} (hi : vp_in i 7) (hx : fNS i.toNatClampNeg = .int x) (hdg : decode cc pc = .ok (.iaload, 1)) (kk : N0 δ own cc nL nm Ex d kc ks (pc + 1) lv (.int x :: st) ws) : N0 δ own cc nL nm Ex d kc ks pc lv (.int i :: .ref (naS δ) :: st) ws := by
  intro u p l e R s m args below meth c H locs cells slots Q ls C h1 h2 h3 h4 hS hP hD hls K
  exact va_ti C.1 C.2.1 C.2.2.2.2.2.2.2.2.2.2.1.2 hS hi hx hdg (kk u C h1 h2 h3 h4 hS hP hD hls K)
theorem n_tlenS (hdg : decode cc pc = .ok (.arraylength, 1)) (kk : N0 δ own cc nL nm Ex d kc ks (pc + 1) lv (.int 7 :: st) ws) : N0 δ own cc nL nm Ex d kc ks pc lv (.ref (naS δ) :: st) ws := by
  intro u p l e R s m args below meth c H locs cells slots Q ls C h1 h2 h3 h4 hS hP hD hls K
  exact va_tlen C.1 C.2.1 C.2.2.2.2.2.2.2.2.2.2.1.2 hS rfl hdg (kk u C h1 h2 h3 h4 hS hP hD hls K)
theorem n_getsY {index : Nat} (hw : Cond.fieldLinkNest own index "OliveMill" "NEW_YIELDS" "[I" "OliveMill" ∈ gnest) (hdg : decode cc pc = .ok (.getstatic index, 3)) (kk : N0 δ own cc nL nm Ex d kc ks (pc + 3) lv (.ref (naY δ) :: st) ws) : N0 δ own cc nL nm Ex d kc ks pc lv st ws := by
  intro u p l e R s m args below meth c H locs cells slots Q ls C h1 h2 h3 h4 hS hP hD hls K
  exact va_getsN C.1 C.2.1 C.2.2.2.2.2.2.2.2.2.2.2.1.1 hS C.2.2.2.2.1 (va_Nw.use rfl (C.2.2.2.2.2.2.2.2.2.2.2.2 _ hw)) (fun _ h9 => h9) hdg (kk u C h1 h2 h3 h4 hS hP hD hls K)
theorem n_tiY {i x : Int32} (hi : vp_in i 5) (hx : fNY i.toNatClampNeg = .int x) (hdg : decode cc pc = .ok (.iaload, 1)) (kk : N0 δ own cc nL nm Ex d kc ks (pc + 1) lv (.int x :: st) ws) : N0 δ own cc nL nm Ex d kc ks pc lv (.int i :: .ref (naY δ) :: st) ws := by
  intro u p l e R s m args below meth c H locs cells slots Q ls C h1 h2 h3 h4 hS hP hD hls K
  exact va_ti C.1 C.2.1 C.2.2.2.2.2.2.2.2.2.2.2.1.2 hS hi hx hdg (kk u C h1 h2 h3 h4 hS hP hD hls K)
theorem n_tlenY (hdg : decode cc pc = .ok (.arraylength, 1)) (kk : N0 δ own cc nL nm Ex d kc ks (pc + 1) lv (.int 5 :: st) ws) : N0 δ own cc nL nm Ex d kc ks pc lv (.ref (naY δ) :: st) ws := by
  intro u p l e R s m args below meth c H locs cells slots Q ls C h1 h2 h3 h4 hS hP hD hls K
  exact va_tlen C.1 C.2.1 C.2.2.2.2.2.2.2.2.2.2.2.1.2 hS rfl hdg (kk u C h1 h2 h3 h4 hS hP hD hls K)
end NN
