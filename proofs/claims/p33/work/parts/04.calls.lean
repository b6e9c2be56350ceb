section GF
variable {γ : Gv} {own : String} {cc : ByteArray} {nL : Nat} {ret : Option FieldType} {hh : List (Nat × Nat × Nat × Nat)} {α : Type} {val : α → GR} {d b pc : Nat} {lv lv' : List (Nat × Value)} {st : List Value} {h h' : Hst} {res : Option α}

theorem g_getf {ref C0 : String} {T : u_T} {N ci index a : Nat} {fs : List Value} {v : Value} (q0 k : Nat) (hin : ∀ w ∈ u_ws C0 T N, w ∈ lw_good) (he : (gws γ h)[q0]? = some (a, .inr (ci, fs))) (hc : vwCl[ci]? = some (C0, T, N)) (hk : k < N) (hw : Cond.fieldLink own index ref (T k).2.1 (T k).2.2.1 ∈ lw_good) (href : ref = (T k).1) (hv : fs[k]? = some v) (hdg : decode cc pc = .ok (.getfield index, 3))
    (kk : G γ own cc nL ret hh val d b (pc + 3) lv (v :: st) h res) : G γ own cc nL ret hh val d b pc lv (.ref a :: st) h res := by
  intro r hr p l e R s m args below meth c H locs cells slots Q ls C h1 h2 h3 h4 hS hP hls K
  exact va_get C.1 C.2.1 C.2.2.2.2.2.1 hin C.2.2.2.2.1 C.2.2.2.2.2.2.2.2.2.1 hP q0 he hc k hk (C.2.2.2.2.2.1 _ hw) (fun x hx => by rw [href]; exact hx) hv hdg (kk r hr C h1 h2 h3 h4 hS hP hls K)
theorem g_getfN {ref C0 host : String} {T : u_T} {N ci index a : Nat} {fs : List Value} {v : Value} (q0 k : Nat) (hin : ∀ w ∈ u_ws C0 T N, w ∈ lw_good) (he : (gws γ h)[q0]? = some (a, .inr (ci, fs))) (hc : vwCl[ci]? = some (C0, T, N)) (hk : k < N) (hw : Cond.fieldLinkNest own index ref (T k).2.1 (T k).2.2.1 host ∈ gnest) (href : ref = (T k).1) (hv : fs[k]? = some v) (hdg : decode cc pc = .ok (.getfield index, 3))
    (kk : G γ own cc nL ret hh val d b (pc + 3) lv (v :: st) h res) : G γ own cc nL ret hh val d b pc lv (.ref a :: st) h res := by
  intro r hr p l e R s m args below meth c H locs cells slots Q ls C h1 h2 h3 h4 hS hP hls K
  exact va_getN C.1 C.2.1 C.2.2.2.2.2.1 hin C.2.2.2.2.1 C.2.2.2.2.2.2.2.2.2.1 hP q0 he hc k hk (va_Nw.use rfl (C.2.2.2.2.2.2.2.2.2.2.2.2.2.2.2.2.2.2.2.1 _ hw)) (fun x hx => by rw [href]; exact hx) hv hdg (kk r hr C h1 h2 h3 h4 hS hP hls K)
theorem g_putf {ref C0 host : String} {T : u_T} {N ci index a : Nat} {fs : List Value} {v : Value} {ty : FieldType} (q0 k : Nat) (hin : ∀ w ∈ u_ws C0 T N, w ∈ lw_good) (ty0 : Nat → FieldType) (hty : ∀ k, k < N → parseFieldDescriptor (T k).2.2.1 = some (ty0 k)) (hnm : ∀ a, a < N → ∀ b, b < N → a ≠ b → (T a).2.1 ≠ (T b).2.1) (he : (gws γ h)[q0]? = some (a, .inr (ci, fs))) (hc : vwCl[ci]? = some (C0, T, N)) (hk : k < N) (hw : Cond.fieldLink own index ref (T k).2.1 (T k).2.2.1 ∈ lw_good) (href : ref = (T k).1) (hfin : (T k).2.2.2 = false) (hd : parseFieldDescriptor (T k).2.2.1 = some ty) (hn : narrow ty v = v) (hfit : fits ty v = true) (hl : k < fs.length) (hset : (gws γ h).set q0 (a, .inr (ci, fs.set k v)) = gws γ h') (hdg : decode cc pc = .ok (.putfield index, 3))
    (kk : G γ own cc nL ret hh val d b (pc + 3) lv st h' res) : G γ own cc nL ret hh val d b pc lv (v :: .ref a :: st) h res := by
  intro r hr p l e R s m args below meth c H locs cells slots Q ls C h1 h2 h3 h4 hS hP hls K
  refine va_put C.1 C.2.1 C.2.2.2.2.2.1 hin ty0 hty hnm C.2.2.2.2.1 C.2.2.2.2.2.2.2.2.2.1 hP (gDis C.2.2.2.2.2.2.2.2.2 h) hS q0 he hc k hk (C.2.2.2.2.2.1 _ hw) (fun x hx => by rw [href]; exact hx) hfin hd hn hfit hl hdg (fun H1 locs1 hP1 _ hS1 => ?_)
  rw [hset] at hP1
  exact kk r hr C h1 h2 h3 h4 hS1 hP1 hls K
theorem g_putfN {ref C0 host : String} {T : u_T} {N ci index a : Nat} {fs : List Value} {v : Value} {ty : FieldType} (q0 k : Nat) (hin : ∀ w ∈ u_ws C0 T N, w ∈ lw_good) (ty0 : Nat → FieldType) (hty : ∀ k, k < N → parseFieldDescriptor (T k).2.2.1 = some (ty0 k)) (hnm : ∀ a, a < N → ∀ b, b < N → a ≠ b → (T a).2.1 ≠ (T b).2.1) (he : (gws γ h)[q0]? = some (a, .inr (ci, fs))) (hc : vwCl[ci]? = some (C0, T, N)) (hk : k < N) (hw : Cond.fieldLinkNest own index ref (T k).2.1 (T k).2.2.1 host ∈ gnest) (href : ref = (T k).1) (hfin : (T k).2.2.2 = false) (hd : parseFieldDescriptor (T k).2.2.1 = some ty) (hn : narrow ty v = v) (hfit : fits ty v = true) (hl : k < fs.length) (hset : (gws γ h).set q0 (a, .inr (ci, fs.set k v)) = gws γ h') (hdg : decode cc pc = .ok (.putfield index, 3))
    (kk : G γ own cc nL ret hh val d b (pc + 3) lv st h' res) : G γ own cc nL ret hh val d b pc lv (v :: .ref a :: st) h res := by
  intro r hr p l e R s m args below meth c H locs cells slots Q ls C h1 h2 h3 h4 hS hP hls K
  refine va_putN C.1 C.2.1 C.2.2.2.2.2.1 hin ty0 hty hnm C.2.2.2.2.1 C.2.2.2.2.2.2.2.2.2.1 hP (gDis C.2.2.2.2.2.2.2.2.2 h) hS q0 he hc k hk (va_Nw.use rfl (C.2.2.2.2.2.2.2.2.2.2.2.2.2.2.2.2.2.2.2.1 _ hw)) (fun x hx => by rw [href]; exact hx) hfin hd hn hfit hl hdg (fun H1 locs1 hP1 _ hS1 => ?_)
  rw [hset] at hP1
  exact kk r hr C h1 h2 h3 h4 hS1 hP1 hls K
theorem g_iald {a n : Nat} {f : Nat → Int32} {i : Int32} (q0 : Nat) (he : (gws γ h)[q0]? = some (a, .inl (gcI γ, n, .inl f))) (hdg : decode cc pc = .ok (.iaload, 1))
    (kk : G γ own cc nL ret hh val d b (pc + 1) lv (.int (f i.toNatClampNeg) :: st) h res) : G γ own cc nL ret hh val d b pc lv (.int i :: .ref a :: st) h (gck i n res) := by
  intro r hr p l e R s m args below meth c H locs cells slots Q ls C h1 h2 h3 h4 hS hP hls K
  obtain ⟨hi, hr⟩ := gck_in hr
  exact va_iald C.1 C.2.1 C.2.2.2.2.2.2.2.2.2.1 hP q0 0 he rfl hi hdg (kk r hr C h1 h2 h3 h4 hS hP hls K)
theorem g_iast {a n : Nat} {f : Nat → Int32} {i : Int32} {x : Int32} (q0 : Nat) (he : (gws γ h)[q0]? = some (a, .inl (gcI γ, n, .inl f))) (hset : (gws γ h).set q0 (a, .inl (gcI γ, n, .inl (upd f i.toNatClampNeg x))) = gws γ h') (hdg : decode cc pc = .ok (.iastore, 1))
    (kk : G γ own cc nL ret hh val d b (pc + 1) lv st h' res) : G γ own cc nL ret hh val d b pc lv (.int x :: .int i :: .ref a :: st) h (gck i n res) := by
  intro r hr p l e R s m args below meth c H locs cells slots Q ls C h1 h2 h3 h4 hS hP hls K
  obtain ⟨hi, hr⟩ := gck_in hr
  refine va_iast C.1 C.2.1 C.2.2.2.2.2.2.2.2.2.1 hP (gDis C.2.2.2.2.2.2.2.2.2 h) hS q0 0 he rfl hi hdg (fun H1 locs1 hP1 _ hS1 => ?_)
  rw [hset] at hP1
  exact kk r hr C h1 h2 h3 h4 hS1 hP1 hls K
theorem g_zald {a n : Nat} {f : Nat → Int32} {i : Int32} (q0 : Nat) (he : (gws γ h)[q0]? = some (a, .inl (gcZ γ, n, .inl f))) (hdg : decode cc pc = .ok (.baload, 1))
    (kk : G γ own cc nL ret hh val d b (pc + 1) lv (.int (f i.toNatClampNeg) :: st) h res) : G γ own cc nL ret hh val d b pc lv (.int i :: .ref a :: st) h (gck i n res) := by
  intro r hr p l e R s m args below meth c H locs cells slots Q ls C h1 h2 h3 h4 hS hP hls K
  obtain ⟨hi, hr⟩ := gck_in hr
  exact va_zald C.1 C.2.1 C.2.2.2.2.2.2.2.2.2.1 hP q0 1 he rfl hi hdg (kk r hr C h1 h2 h3 h4 hS hP hls K)
theorem g_zast {a n : Nat} {f : Nat → Int32} {i : Int32} {x : Int32} (q0 : Nat) (he : (gws γ h)[q0]? = some (a, .inl (gcZ γ, n, .inl f))) (hset : (gws γ h).set q0 (a, .inl (gcZ γ, n, .inl (upd f i.toNatClampNeg (vp_nar .boolean x)))) = gws γ h') (hdg : decode cc pc = .ok (.bastore, 1))
    (kk : G γ own cc nL ret hh val d b (pc + 1) lv st h' res) : G γ own cc nL ret hh val d b pc lv (.int x :: .int i :: .ref a :: st) h (gck i n res) := by
  intro r hr p l e R s m args below meth c H locs cells slots Q ls C h1 h2 h3 h4 hS hP hls K
  obtain ⟨hi, hr⟩ := gck_in hr
  refine va_zast C.1 C.2.1 C.2.2.2.2.2.2.2.2.2.1 hP (gDis C.2.2.2.2.2.2.2.2.2 h) hS q0 1 he rfl hi hdg (fun H1 locs1 hP1 _ hS1 => ?_)
  rw [hset] at hP1
  exact kk r hr C h1 h2 h3 h4 hS1 hP1 hls K
theorem g_alen {a n : Nat} {cA : ClassId} {x : vp_A} {ty : FieldType} {v : Int32} (q0 t0 : Nat) (he : (gws γ h)[q0]? = some (a, .inl (cA, x))) (ht : (gtys γ)[t0]? = some (cA, ty)) (hv : Int32.ofNat x.1 = v) (hdg : decode cc pc = .ok (.arraylength, 1))
    (kk : G γ own cc nL ret hh val d b (pc + 1) lv (.int v :: st) h res) : G γ own cc nL ret hh val d b pc lv (.ref a :: st) h res := by
  intro r hr p l e R s m args below meth c H locs cells slots Q ls C h1 h2 h3 h4 hS hP hls K
  exact va_alen C.1 C.2.1 C.2.2.2.2.2.2.2.2.2.1 hP q0 t0 he ht hv hdg (kk r hr C h1 h2 h3 h4 hS hP hls K)
theorem g_sld {i : Int32} (hdg : decode cc pc = .ok (.iaload, 1)) (kk : G γ own cc nL ret hh val d b (pc + 1) lv (.int (gxs γ i.toNatClampNeg) :: st) h res) : G γ own cc nL ret hh val d b pc lv (.int i :: .ref (gscr γ) :: st) h (gck i (gLx γ) res) := by
  intro r hr p l e R s m args below meth c H locs cells slots Q ls C h1 h2 h3 h4 hS hP hls K
  obtain ⟨hi, hr⟩ := gck_in hr
  exact va_sld C.1 C.2.1 C.2.2.2.2.2.2.2.2.2.2.2.2.2.2.2.2.2.1.1 C.2.2.2.2.2.2.2.2.2.2.2.2.2.2.2.2.2.1.2.1 C.2.2.2.2.2.2.2.2.2.2.2.2.2.2.2.2.2.1.2.2.1 hS hi hdg (kk r hr C h1 h2 h3 h4 hS hP hls K)
theorem g_slen (hdg : decode cc pc = .ok (.arraylength, 1)) (kk : G γ own cc nL ret hh val d b (pc + 1) lv (.int (Int32.ofNat (gLx γ)) :: st) h res) : G γ own cc nL ret hh val d b pc lv (.ref (gscr γ) :: st) h res := by
  intro r hr p l e R s m args below meth c H locs cells slots Q ls C h1 h2 h3 h4 hS hP hls K
  exact va_slen C.1 C.2.1 C.2.2.2.2.2.2.2.2.2.2.2.2.2.2.2.2.2.1.1 C.2.2.2.2.2.2.2.2.2.2.2.2.2.2.2.2.2.1.2.1 C.2.2.2.2.2.2.2.2.2.2.2.2.2.2.2.2.2.1.2.2.1 hS hdg (kk r hr C h1 h2 h3 h4 hS hP hls K)
theorem g_gets_LEAST {index : Nat} (hw : Cond.fieldLink own index "OliveMill" "LEAST_SETTINGS" "[I" ∈ lw_good) (hdg : decode cc pc = .ok (.getstatic index, 3)) (kk : G γ own cc nL ret hh val d b (pc + 3) lv (.ref (gaL γ) :: st) h res) : G γ own cc nL ret hh val d b pc lv st h res := by
  intro r hr p l e R s m args below meth c H locs cells slots Q ls C h1 h2 h3 h4 hS hP hls K
  exact va_gets C.1 C.2.1 C.2.2.2.2.2.2.2.2.2.2.2.2.2.2.2.1.1 hS C.2.2.2.2.1 (C.2.2.2.2.2.1 _ hw) (fun _ h9 => h9) hdg (kk r hr C h1 h2 h3 h4 hS hP hls K)
theorem g_ti_LEAST {i : Int32} (hdg : decode cc pc = .ok (.iaload, 1)) (kk : G γ own cc nL ret hh val d b (pc + 1) lv (fLEAST i.toNatClampNeg :: st) h res) : G γ own cc nL ret hh val d b pc lv (.int i :: .ref (gaL γ) :: st) h (gck i 7 res) := by
  intro r hr p l e R s m args below meth c H locs cells slots Q ls C h1 h2 h3 h4 hS hP hls K
  obtain ⟨hi, hr⟩ := gck_in hr
  exact va_ti C.1 C.2.1 C.2.2.2.2.2.2.2.2.2.2.2.2.2.2.2.1.2 hS hi rfl hdg (kk r hr C h1 h2 h3 h4 hS hP hls K)
theorem g_tlen_LEAST (hdg : decode cc pc = .ok (.arraylength, 1)) (kk : G γ own cc nL ret hh val d b (pc + 1) lv (.int 7 :: st) h res) : G γ own cc nL ret hh val d b pc lv (.ref (gaL γ) :: st) h res := by
  intro r hr p l e R s m args below meth c H locs cells slots Q ls C h1 h2 h3 h4 hS hP hls K
  exact va_tlen C.1 C.2.1 C.2.2.2.2.2.2.2.2.2.2.2.2.2.2.2.1.2 hS rfl hdg (kk r hr C h1 h2 h3 h4 hS hP hls K)
theorem g_gets_MOST {index : Nat} (hw : Cond.fieldLink own index "OliveMill" "MOST_SETTINGS" "[I" ∈ lw_good) (hdg : decode cc pc = .ok (.getstatic index, 3)) (kk : G γ own cc nL ret hh val d b (pc + 3) lv (.ref (gaM γ) :: st) h res) : G γ own cc nL ret hh val d b pc lv st h res := by
  intro r hr p l e R s m args below meth c H locs cells slots Q ls C h1 h2 h3 h4 hS hP hls K
  exact va_gets C.1 C.2.1 C.2.2.2.2.2.2.2.2.2.2.2.2.2.2.2.2.1.1 hS C.2.2.2.2.1 (C.2.2.2.2.2.1 _ hw) (fun _ h9 => h9) hdg (kk r hr C h1 h2 h3 h4 hS hP hls K)
theorem g_ti_MOST {i : Int32} (hdg : decode cc pc = .ok (.iaload, 1)) (kk : G γ own cc nL ret hh val d b (pc + 1) lv (fMOST i.toNatClampNeg :: st) h res) : G γ own cc nL ret hh val d b pc lv (.int i :: .ref (gaM γ) :: st) h (gck i 7 res) := by
  intro r hr p l e R s m args below meth c H locs cells slots Q ls C h1 h2 h3 h4 hS hP hls K
  obtain ⟨hi, hr⟩ := gck_in hr
  exact va_ti C.1 C.2.1 C.2.2.2.2.2.2.2.2.2.2.2.2.2.2.2.2.1.2 hS hi rfl hdg (kk r hr C h1 h2 h3 h4 hS hP hls K)
theorem g_tlen_MOST (hdg : decode cc pc = .ok (.arraylength, 1)) (kk : G γ own cc nL ret hh val d b (pc + 1) lv (.int 7 :: st) h res) : G γ own cc nL ret hh val d b pc lv (.ref (gaM γ) :: st) h res := by
  intro r hr p l e R s m args below meth c H locs cells slots Q ls C h1 h2 h3 h4 hS hP hls K
  exact va_tlen C.1 C.2.1 C.2.2.2.2.2.2.2.2.2.2.2.2.2.2.2.2.1.2 hS rfl hdg (kk r hr C h1 h2 h3 h4 hS hP hls K)
theorem g_mmax {index : Nat} {x y : Int32} (hw1 : Cond.methodLink own index Lib.Math.max.name ∈ lw_good) (hw2 : Cond.static Lib.Math.max.name ∈ lw_good) (hw3 : Cond.initialized "java/lang/Math" ∈ lw_good) (hw4 : Cond.code Lib.Math.max.name Lib.Math.max.code 2 (some .int) ∈ lw_good) (hd : 1 ≤ d) (hcat : (st.map fun v => v.category).sum ≤ 8) (hdg : decode cc pc = .ok (.invokestatic index, 3))
    (kk : G γ own cc nL ret hh val d b (pc + 3) lv (.int (if x < y then y else x) :: st) h res) : G γ own cc nL ret hh val d b pc lv (.int y :: .int x :: st) h res := by
  intro r hr p l e R s m args below meth c H locs cells slots Q ls C h1 h2 h3 h4 hS hP hls K
  exact va_mmax C.1 C.2.1 (by rw [C.2.2.1]; exact hls.1.symm) C.2.2.2.2.1 (C.2.2.2.2.2.1 _ hw1) (C.2.2.2.2.2.1 _ hw2) (C.2.2.2.2.2.1 _ hw3) (C.2.2.2.2.2.1 _ hw4) (by omega) (by omega) (by omega) (by omega) hdg (kk r hr C h1 h2 h3 h4 hS hP hls K)
theorem g_mmin {index : Nat} {x y : Int32} (hw1 : Cond.methodLink own index Lib.Math.min.name ∈ lw_good) (hw2 : Cond.static Lib.Math.min.name ∈ lw_good) (hw3 : Cond.initialized "java/lang/Math" ∈ lw_good) (hw4 : Cond.code Lib.Math.min.name Lib.Math.min.code 2 (some .int) ∈ lw_good) (hd : 1 ≤ d) (hcat : (st.map fun v => v.category).sum ≤ 8) (hdg : decode cc pc = .ok (.invokestatic index, 3))
    (kk : G γ own cc nL ret hh val d b (pc + 3) lv (.int (if y < x then y else x) :: st) h res) : G γ own cc nL ret hh val d b pc lv (.int y :: .int x :: st) h res := by
  intro r hr p l e R s m args below meth c H locs cells slots Q ls C h1 h2 h3 h4 hS hP hls K
  exact va_mmin C.1 C.2.1 (by rw [C.2.2.1]; exact hls.1.symm) C.2.2.2.2.1 (C.2.2.2.2.2.1 _ hw1) (C.2.2.2.2.2.1 _ hw2) (C.2.2.2.2.2.1 _ hw3) (C.2.2.2.2.2.1 _ hw4) (by omega) (by omega) (by omega) (by omega) hdg (kk r hr C h1 h2 h3 h4 hS hP hls K)
def gcp {β : Type} (sp dp n : Int32) (n0 n1 : Nat) (x : Option β) : Option β := if sp < 0 then none else if dp < 0 then none else if n < 0 then none else if n0 < sp.toNatClampNeg + n.toNatClampNeg then none else if n1 < dp.toNatClampNeg + n.toNatClampNeg then none else x
theorem gcp_in {β : Type} {sp dp n : Int32} {n0 n1 : Nat} {x : Option β} {r : β} (h : gcp sp dp n n0 n1 x = some r) : ¬ sp < 0 ∧ ¬ dp < 0 ∧ ¬ n < 0 ∧ sp.toNatClampNeg + n.toNatClampNeg ≤ n0 ∧ dp.toNatClampNeg + n.toNatClampNeg ≤ n1 ∧ x = some r := by
  unfold gcp at h
  by_cases h1 : sp < 0
  · rw [if_pos h1] at h; cases h
  rw [if_neg h1] at h
  by_cases h2 : dp < 0
  · rw [if_pos h2] at h; cases h
  rw [if_neg h2] at h
  by_cases h3 : n < 0
  · rw [if_pos h3] at h; cases h
  rw [if_neg h3] at h
  by_cases h4 : n0 < sp.toNatClampNeg + n.toNatClampNeg
  · rw [if_pos h4] at h; cases h
  rw [if_neg h4] at h
  by_cases h5 : n1 < dp.toNatClampNeg + n.toNatClampNeg
  · rw [if_pos h5] at h; cases h
  rw [if_neg h5] at h
  exact ⟨h1, h2, h3, by omega, by omega, h⟩
theorem g_copyi {index a0 a n0 n1 : Nat} {f g : Nat → Int32} {sp dp n : Int32} (q0 q1 : Nat) (hw1 : Cond.methodLink own index arraycopyName ∈ lw_good) (hw2 : Cond.native arraycopyName ∈ lw_good) (hw3 : Cond.static arraycopyName ∈ lw_good) (hw4 : Cond.initialized "java/lang/System" ∈ lw_good) (he0 : (gws γ h)[q0]? = some (a0, .inl (gcI γ, n0, .inl f))) (he1 : (gws γ h)[q1]? = some (a, .inl (gcI γ, n1, .inl g)))
    (hset : (gws γ h).set q1 (a, .inl (gcI γ, n1, .inl (va_cpy f g sp.toNatClampNeg dp.toNatClampNeg n.toNatClampNeg))) = gws γ h') (hd : 1 ≤ d) (hroom : (st.map fun v => v.category).sum + (nativeFrameWords "java/lang/System" "arraycopy" 5 + 11) ≤ 48) (hdg : decode cc pc = .ok (.invokestatic index, 3))
    (kk : G γ own cc nL ret hh val d b (pc + 3) lv st h' res) : G γ own cc nL ret hh val d b pc lv (.int n :: .int dp :: .ref a :: .int sp :: .ref a0 :: st) h (gcp sp dp n n0 n1 res) := by
  intro r hr p l e R s m args below meth c H locs cells slots Q ls C h1 h2 h3 h4 hS hP hls K
  obtain ⟨k1, k2, k3, k4, k5, hr⟩ := gcp_in hr
  refine va_copyi C.1 C.2.1 (by rw [C.2.2.1]; exact hls.1.symm) C.2.2.2.2.1 (C.2.2.2.2.2.1 _ hw1) (C.2.2.2.2.2.1 _ hw2) (C.2.2.2.2.2.1 _ hw3) (C.2.2.2.2.2.1 _ hw4) C.2.2.2.2.2.2.2.2.2.1 hP (gDis C.2.2.2.2.2.2.2.2.2 h) hS q0 q1 0 0 he0 he1 rfl rfl rfl k1 k2 k3 k4 k5 (fun _ _ => rfl) (by omega) (by omega) hdg (fun H1 locs1 hP1 _ hS1 => ?_)
  rw [hset] at hP1
  exact kk r hr C h1 h2 h3 h4 hS1 hP1 hls K
end GF

theorem gx_inl (q : Option Value × Hst) : gx (.inl q) = 0 := rfl
theorem gx_inr (q : Nat × Hst) : gx (.inr q) = 1 := rfl
def gRm (d n : Nat) : Room := { frames := d, cells := n, slots := 6 * n, locals := 48 * d }
def gPc (γ : Gv) (args : List Value) (h : Hst) : Array Value → State → Prop := va_Pc args (fun U => gGl γ U U.heap ∧ va_P (gD γ) vwCl (gws γ h) U.heap)
def gQc (γ : Gv) (z : GR) : Array Value → State → Outcome → State → Prop := fun _ s0 o t => match z with
  | .inl q => o = .returned q.1 ∧ va_P (gD γ) vwCl (gws γ q.2) t.heap ∧ va_F (gA γ) s0 t
  | .inr _ => False
def gXC (γ : Gv) (z : GR) : String → State → State → Prop := fun E s0 t => match z with
  | .inl _ => False
  | .inr q => E = gexc q.1 ∧ va_P (gD γ) vwCl (gws γ q.2) t.heap ∧ va_F (gA γ) s0 t
theorem gPc.blind {γ : Gv} {args : List Value} {h : Hst} : FrameBlind (gPc γ args h) := fun a U g mk q => ⟨q.1, gGl.same (u := U) rfl q.2.1, q.2.2⟩
section GM
variable {γ : Gv} {own : String} {cc : ByteArray} {nL : Nat} {ret : Option FieldType} {α : Type} {val : α → GR} {d b : Nat} {h : Hst} {res : Option α}
theorem gKend {l : Launch} {p : Program} {e : Env} {s : State} {m : MethodId} {args : Array Value} {below : List Frame} {meth : Method} {c : Code} (hx : p.tables.exec = Jvm.exec) (hb : c.code = cc) (hr : meth.sig.returnType = ret) (hlocks : meth.locks = false) (R : Room) (z : GR) :
    gK γ ret cc p l e R s m args below meth c 0 0 b (vx_MQ below (gQc γ z) (gXC γ z) args s (b + gx z) (6 * (b + gx z)) (gA γ)) z := by
  cases z with
  | inl q =>
    intro pc' ls' H' locs' cells' slots' hret hS hP hc hs
    refine vx_ret ?_
    refine W.widen (k := b + gx (.inl q)) (n := 6 * (b + gx (.inl q))) (by simp only [gx_inl, gx_inr]; omega) (by simp only [gx_inl, gx_inr]; omega) ?_
    obtain ⟨v, h'⟩ := q
    rcases hret with ⟨rfl, hz, hdg⟩ | ⟨x, ty, rfl, hz, hn, hdg⟩ | ⟨x, rfl, hz, hdg⟩ | ⟨x, rfl, hz, hdg⟩
    · exact W.vret hx hb (hr.trans hz) (fun t ht hW => ⟨rfl, by rw [ht]; exact hP, hS.F ht⟩) hS.2.2 hdg
    · exact W.zret hx hb (hr.trans hz) hn (fun t ht hW => ⟨rfl, by rw [ht]; exact hP, hS.F ht⟩) hS.2.2 hdg
    · exact W.lret hx hb (hr.trans hz) (fun t ht hW => ⟨rfl, by rw [ht]; exact hP, hS.F ht⟩) hS.2.2 hdg
    · exact W.dret hx hb (hr.trans hz) (fun t ht hW => ⟨rfl, by rw [ht]; exact hP, hS.F ht⟩) hS.2.2 hdg
  | inr q => exact ⟨_, _, _, _, _, rfl, fun z hz => hz, by simp only [gx_inl, gx_inr]; omega, by simp only [gx_inl, gx_inr]; omega, fun t ht hF hP => ⟨rfl, hP, hF⟩⟩
theorem G.met {l : Launch} (hl : l.stackTraces = false) {r : α} {y : MethodName} {args : List Value} (hy : plainName y.cls = true) (hown : y.cls = own) (hnl : (lg_sl args).length ≤ nL) (hG : G γ own cc nL ret [] val d b 0 (lv_args 0 args) [] h res) (hr : res = some r) :
    vx_Met l y (Cond.code y cc nL ret :: lw_good) (gRm d (b + gx (val r))) (gPc γ args h) (gQc γ (val r)) (gXC γ (val r)) (b + gx (val r)) (6 * (b + gx (val r))) (gA γ) := by
  refine vx_ofW (cc := cc) (maxL := nL) (ret := ret) hy rfl ?_
  intro p e s m a below meth c s₁ B hml ht hv
  obtain ⟨rfl, hgl, hP⟩ := hv
  have hts := atoms_spec (ws := Cond.code y cc nL ret :: lw_good) B.pre
  have cx : Cx γ own cc nL ret [] p l s m args.toArray meth c := ⟨B.exec, B.bytes, hml, B.returns, by rw [← hown]; exact findClass_of_methodNamed B.named, fun w hw => hts w (List.mem_cons_of_mem _ hw), B.notSynchronized, List.eq_nil_iff_forall_not_mem.mpr (fun x hx => ht x hx), hl, hgl⟩
  rw [lg_entry_eq]
  exact hG r hr cx (Nat.le_refl _) (Nat.le_refl _) (by show 0 + _ ≤ b + gx (val r); omega) (by show 0 + _ ≤ 6 * (b + gx (val r)); omega) va_S.rf hP (lv_entry args hnl) (gKend B.exec B.bytes B.returns B.notSynchronized _ (val r))
end GM
section GC
variable {γ : Gv} {own : String} {cc : ByteArray} {nL : Nat} {ret : Option FieldType} {hh : List (Nat × Nat × Nat × Nat)} {α : Type} {val : α → GR} {d b pc : Nat} {lv lv' : List (Nat × Value)} {st st0 : List Value} {h h' : Hst}
variable {β : Type} {val' : β → GR} {res' : Option β} {F : β → Option α} {b' b2 d' : Nat}
/-- what a call row of the kit gives, for an answer r of the callee -/
def gRun (γ : Gv) (own : String) (cc : ByteArray) (nL : Nat) (ret : Option FieldType) (hh : List (Nat × Nat × Nat × Nat)) (d b' pc : Nat) (lv : List (Nat × Value)) (st0 st : List Value) (h : Hst) (z : GR) : Prop :=
  ∀ {p : Program} {l : Launch} {e : Env} {R : Room} {s : State} {m : MethodId} {args : Array Value} {below : List Frame} {meth : Method} {c : Code} {H : Heap} {locs : List Loc} {cells slots : Nat} {ls : Array Slot},
    Cx γ own cc nL ret hh p l s m args meth c → d ≤ R.frames → 48 * d ≤ R.locals → cells + (b' + gx z) ≤ R.cells → slots + 6 * (b' + gx z) ≤ R.slots → va_S (gA γ) s.heap H locs → va_P (gD γ) vwCl (gws γ h) H → lv_has ls nL lv →
    ∃ a : Array Value, vx_Run p l e R s m args below meth c H locs cells slots (b' + gx z) (6 * (b' + gx z)) (F0 m pc ls st0) st (gQc γ z a) (gXC γ z) (gA γ)
theorem gRun.in {z : GR} (hrun : gRun γ own cc nL ret hh d b' pc lv st0 st h z) {q : Option Value × Hst} (hz : z = .inl q) (hb : b' + b2 ≤ b) {F0' : Option α} (hG : G γ own cc nL ret hh val d b2 (pc + 3) lv (q.1.toList ++ st) q.2 F0') : G γ own cc nL ret hh val d b pc lv st0 h F0' := by
  subst hz
  intro r hr p l e R s m args below meth c H locs cells slots Q ls C h1 h2 h3 h4 hS hP hls K
  obtain ⟨a, hrun⟩ := hrun (p := p) (l := l) (e := e) (R := R) (below := below) (cells := cells) (slots := slots) C h1 h2 (by simp only [gx_inl, gx_inr]; omega) (by simp only [gx_inl, gx_inr]; omega) hS hP hls
  intro T hT X
  rcases hrun T hT X with ⟨v, st₀, t, T', L, h0, X', hL, e1, e2, ⟨hv1, hP', hF⟩, go⟩ | ⟨q9, st₀, t, T', L, E, ce, h0, X', hL, e1, e2, hXC, -⟩
  · cases hv1
    obtain ⟨k1, k2, k3⟩ := vx_keep h0 e1 hS (fun q _ h => h) (fun q h => h) hL hF
    obtain ⟨t2, a1, b1⟩ := hG r hr C h1 h2 (by first | omega | (simp only [gx_inl, gx_inr]; omega)) (by first | omega | (simp only [gx_inl, gx_inr]; omega)) k3 (by rw [e1]; exact hP') hls (gK.mono (mc := b' + 0) K (by omega)) T' rfl X'
    exact ⟨t2, go t2 a1, b1⟩
  · exact False.elim hXC
end GC

section GI
variable {γ : Gv} {own : String} {cc : ByteArray} {nL : Nat} {ret : Option FieldType} {hh : List (Nat × Nat × Nat × Nat)} {d pc : Nat} {lv : List (Nat × Value)} {st st0 : List Value} {h : Hst}
variable {β : Type} {val' : β → GR} {res' : Option β} {b' d' : Nat}
/-- the words of a call -/
def gV (own : String) (idx : Nat) (C : String) (y : MethodName) (bytes : ByteArray) (maxL : Nat) (ret : Option FieldType) (n : Nat) : Prop :=
  (y.cls = C ∧ y.cls ≠ "java/lang/invoke/MethodHandle" ∧ y.cls ≠ "java/lang/invoke/VarHandle" ∧ (parseMethodDescriptor y.desc).map (fun d => d.parameters.length) = some n) ∧ plainName y.cls = true ∧ maxL ≤ 25 ∧
  Cond.methodLink own idx y ∈ lw_good ∧ Cond.instanceMethod y ∈ lw_good ∧ Cond.selects C y y ∈ lw_good ∧ Cond.initialized C ∈ lw_good ∧ Cond.code y bytes maxL ret ∈ lw_good
theorem gRunV {r : β} {idx : Nat} {C : String} {y : MethodName} {bytes : ByteArray} {maxL : Nat} {ret' : Option FieldType} {As : List Value} {a ci : Nat} {T : u_T} {N n : Nat} {fs : List Value} (q0 : Nat)
    (hG : G γ C bytes maxL ret' [] val' d' b' 0 (lv_args 0 (.ref a :: As)) [] h res') (hr : res' = some r) (hg : gV own idx C y bytes maxL ret' n) (hn : As.length = n) (hnl : (lg_sl (.ref a :: As)).length ≤ maxL)
    (hq : (gws γ h)[q0]? = some (a, .inr (ci, fs))) (hc : vwCl[ci]? = some (C, T, N)) (hstk : st0 = As.reverse ++ .ref a :: st) (hcat : (st.map fun v => v.category).sum ≤ 8) (hd : d' + 1 ≤ d) (hdg : decode cc pc = .ok (.invokevirtual idx, 3)) :
    gRun γ own cc nL ret hh d b' pc lv st0 st h (val' r) := by
  intro p l e R s m args below meth c H locs cells slots ls C0 h1 h2 h3 h4 hS hP hls
  obtain ⟨hy, hpl, hml, w1, w2, w3, w4, w5⟩ := hg
  refine ⟨_, vx_runV ⟨C0.1, C0.2.1, C0.2.2.1, C0.2.2.2.2.1, C0.2.2.2.2.2.1⟩ (G.met C0.2.2.2.2.2.2.2.2.1 hpl hy.1 hnl hG hr) (cwV n C0.2.2.2.2.2.1 (gGood (gGood.cons w1 (gGood.cons w2 (gGood.cons w3 (gGood.cons w4 (gGood.cons w5 (fun _ h => h))))))) rfl rfl rfl hy ⟨?_, ?_⟩)
    ⟨gPc.blind, va_recv C0.2.2.2.2.2.2.2.2.2.1 hP hc hq, fun U hU hW => ⟨rfl, ?_, by rw [hU]; exact hP⟩⟩ rfl hn hls.1 hstk (lv_room hcat) hdg ⟨h3, h4⟩⟩
  · show d' + 1 ≤ R.frames; omega
  · show 8 + (maxL + 11) + 48 * d' ≤ R.locals; omega
  · rw [hU]; exact gGl.warm hW (gGl.kept hS C0.2.2.2.2.2.2.2.2.2)
def gS (own : String) (idx : Nat) (y : MethodName) (bytes : ByteArray) (maxL : Nat) (ret : Option FieldType) (n : Nat) : Prop :=
  (y.cls ≠ "java/lang/invoke/MethodHandle" ∧ y.cls ≠ "java/lang/invoke/VarHandle" ∧ (parseMethodDescriptor y.desc).map (fun d => d.parameters.length) = some n) ∧ plainName y.cls = true ∧ maxL ≤ 25 ∧
  Cond.methodLink own idx y ∈ lw_good ∧ Cond.static y ∈ lw_good ∧ Cond.initialized y.cls ∈ lw_good ∧ Cond.code y bytes maxL ret ∈ lw_good
theorem gRunS {r : β} {idx : Nat} {y : MethodName} {bytes : ByteArray} {maxL : Nat} {ret' : Option FieldType} {As : List Value} {n : Nat}
    (hG : G γ y.cls bytes maxL ret' [] val' d' b' 0 (lv_args 0 As) [] h res') (hr : res' = some r) (hg : gS own idx y bytes maxL ret' n) (hn : As.length = n) (hnl : (lg_sl As).length ≤ maxL)
    (hstk : st0 = As.reverse ++ st) (hcat : (st.map fun v => v.category).sum ≤ 8) (hd : d' + 1 ≤ d) (hdg : decode cc pc = .ok (.invokestatic idx, 3)) :
    gRun γ own cc nL ret hh d b' pc lv st0 st h (val' r) := by
  intro p l e R s m args below meth c H locs cells slots ls C0 h1 h2 h3 h4 hS hP hls
  obtain ⟨hy, hpl, hml, w1, w2, w3, w4⟩ := hg
  refine ⟨_, vx_runS ⟨C0.1, C0.2.1, C0.2.2.1, C0.2.2.2.2.1, C0.2.2.2.2.2.1⟩ (G.met C0.2.2.2.2.2.2.2.2.1 hpl rfl hnl hG hr) (va_cwS n C0.2.2.2.2.2.1 (gGood (gGood.cons w1 (gGood.cons w2 (gGood.cons w3 (gGood.cons w4 (fun _ h => h)))))) rfl rfl rfl hy ⟨?_, ?_⟩)
    ⟨gPc.blind, fun U hU hW => ⟨rfl, ?_, by rw [hU]; exact hP⟩⟩ rfl hn hls.1 hstk (lv_room hcat) hdg ⟨h3, h4⟩⟩
  · show d' + 1 ≤ R.frames; omega
  · show 8 + (maxL + 11) + 48 * d' ≤ R.locals; omega
  · rw [hU]; exact gGl.warm hW (gGl.kept hS C0.2.2.2.2.2.2.2.2.2)
/-- a private static of a nest mate that doesn't throw -/
def gSN (own host : String) (idx : Nat) (y : MethodName) (bytes : ByteArray) (maxL : Nat) (ret : Option FieldType) (n : Nat) : Prop :=
  (y.cls ≠ "java/lang/invoke/MethodHandle" ∧ y.cls ≠ "java/lang/invoke/VarHandle" ∧ (parseMethodDescriptor y.desc).map (fun d => d.parameters.length) = some n) ∧ plainName y.cls = true ∧ maxL ≤ 25 ∧
  Cond.methodLinkNest own idx y host ∈ gnest ∧ Cond.static y ∈ lw_good ∧ Cond.initialized y.cls ∈ lw_good ∧ Cond.code y bytes maxL ret ∈ lw_good
theorem vx_plain {l : Launch} {y : MethodName} {ws : List Cond} {rm : Room} {Pc : Array Value → State → Prop} {Qc : Array Value → State → Outcome → State → Prop} {XC : String → State → State → Prop} {mc ms : Nat} {free : Addr → Prop} (h : vx_Met l y ws rm Pc Qc XC mc ms free) (hn : ∀ E s t, ¬ XC E s t) : Met l y ws rm Pc Qc mc ms free := by
  intro p e ha hc hk s m args below hf happ hpre htr
  obtain ⟨k, o, h1, h2, h3, h4⟩ := h p e ha hc hk s m args below hf happ hpre htr
  refine ⟨k, o, h1, h2, h3, ?_⟩
  rcases h4 with h4 | ⟨q, -, E, ce, L, hX, -⟩
  · exact h4
  · exact absurd hX (hn _ _ _)
theorem gRunSN {r : β} {host : String} {idx : Nat} {y : MethodName} {bytes : ByteArray} {maxL : Nat} {ret' : Option FieldType} {As : List Value} {n : Nat} {q : Option Value × Hst}
    (hG : G γ y.cls bytes maxL ret' [] val' d' b' 0 (lv_args 0 As) [] h res') (hr : res' = some r) (hv : val' r = .inl q) (hg : gSN own host idx y bytes maxL ret' n) (hn : As.length = n) (hnl : (lg_sl As).length ≤ maxL)
    (hstk : st0 = As.reverse ++ st) (hcat : (st.map fun v => v.category).sum ≤ 8) (hd : d' + 1 ≤ d) (hdg : decode cc pc = .ok (.invokestatic idx, 3)) :
    gRun γ own cc nL ret hh d b' pc lv st0 st h (val' r) := by
  intro p l e R s m args below meth c H locs cells slots ls C0 h1 h2 h3 h4 hS hP hls
  obtain ⟨hy, hpl, hml, w1, w2, w3, w4⟩ := hg
  have hM := vx_plain (G.met C0.2.2.2.2.2.2.2.2.1 hpl rfl hnl hG hr) (fun E s t hX => by rw [hv] at hX; exact hX)
  have hr2 := va_runSN (p := p) (e := e) (R := R) (below := below) (meth := meth) (H := H) (locs := locs) (cells := cells) (slots := slots) (g := F0 m pc ls st0) (rest := st) ⟨C0.1, C0.2.1, C0.2.2.1, C0.2.2.2.2.1, C0.2.2.2.2.2.1⟩ hM ⟨va_cnB (mc := b' + gx (val' r)) (ms := 6 * (b' + gx (val' r))) n C0.2.2.2.2.2.1 (gGood (gGood.cons w4 (fun _ h => h))) rfl rfl rfl (C0.2.2.2.2.2.2.2.2.2.2.2.2.2.2.2.2.2.2.2.1 _ w1) (C0.2.2.2.2.2.1 _ w3) hy ⟨by show d' + 1 ≤ R.frames; omega, by show 8 + (maxL + 11) + 48 * d' ≤ R.locals; omega⟩, C0.2.2.2.2.2.1 _ w2, trivial⟩
    ⟨gPc.blind, fun U hU hW => ⟨rfl, by rw [hU]; exact gGl.warm hW (gGl.kept hS C0.2.2.2.2.2.2.2.2.2), by rw [hU]; exact hP⟩⟩ rfl hn hls.1 hstk (lv_room hcat) hdg ⟨h3, h4⟩
  exact ⟨As.toArray, fun T hT X => Or.inl (hr2 T hT X)⟩
end GI

