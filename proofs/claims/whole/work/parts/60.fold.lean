-- the digest: folding
def foF (F : Nat → Int64 → Int64) : Nat → Nat → Int64 → Int64
  | 0, _, a => a
  | m + 1, i, a => foF F m (i + 1) (F i a)
def mv (v : Nat → Int32) (i : Nat) (a : Int64) : Int64 := 31 * a + (v i).toInt64
theorem foF_add (F : Nat → Int64 → Int64) : ∀ (m k i : Nat) (a : Int64), foF F (m + k) i a = foF F k (i + m) (foF F m i a)
  | 0, k, i, a => by rw [Nat.zero_add]; rfl
  | m + 1, k, i, a => by
    rw [show m + 1 + k = (m + k) + 1 by omega, foF, foF_add F m k (i + 1), foF, show i + 1 + m = i + (m + 1) by omega]
theorem foF_shift (F : Nat → Int64 → Int64) (d : Nat) : ∀ (m i : Nat) (a : Int64), foF (fun k => F (d + k)) m i a = foF F m (d + i) a
  | 0, _, _ => rfl
  | m + 1, i, a => by
    rw [foF, foF, foF_shift F d m (i + 1)]
    rfl
theorem foF_nest (F : Nat → Int64 → Int64) (d : Nat) : ∀ (n i : Nat) (a : Int64), foF (fun g a => foF (fun k => F (d * g + k)) d 0 a) n i a = foF F (d * n) (d * i) a
  | 0, _, _ => rfl
  | n + 1, i, a => by
    rw [foF, foF_nest F d n (i + 1), foF_shift, show d * (n + 1) = d + d * n by rw [Nat.mul_succ, Nat.add_comm], foF_add, Nat.mul_succ]
    rfl
def CC (c : Nat → Int32) (s : Int32) (len : Nat) (T : Nat → Int32) (h : Hst) : Prop := h.1 8 = c ∧ h.1 1 9 = s ∧ h.1 0 5 = nI len ∧ ∀ j, j < len → h.1 16 j = T j
theorem CC.scr {c : Nat → Int32} {s : Int32} {len : Nat} {T : Nat → Int32} {h h' : Hst} (C : CC c s len T h) (p : ScrC h h') : CC c s len T h' := by
  obtain ⟨a, b, d, e⟩ := C
  exact ⟨(p.2 8 (by decide)).trans a, (congrFun (p.2 1 (by decide)) 9).trans b, (congrFun (p.2 0 (by decide)) 5).trans d, fun j hj => (congrFun (p.2 16 (by decide)) j).trans (e j hj)⟩
/-- what the model keeps while it mixes -/
def ScrN (h h' : Hst) : Prop := (∀ k, k < 17 ∨ (17 < k ∧ k < 21) ∨ 24 < k → h'.1 k = h.1 k) ∧ h'.1 17 1 = h.1 17 1 ∧ h'.1 17 3 = h.1 17 3 ∧ h'.1 17 5 = h.1 17 5
theorem ScrN.rf {h : Hst} : ScrN h h := ⟨fun _ _ => rfl, rfl, rfl, rfl⟩
theorem ScrN.trans {a b c : Hst} (p : ScrN a b) (q : ScrN b c) : ScrN a c := ⟨fun k hk => (q.1 k hk).trans (p.1 k hk), q.2.1.trans p.2.1, q.2.2.1.trans p.2.2.1, q.2.2.2.trans p.2.2.2⟩
theorem ScrM.n {h h' : Hst} (p : ScrM h h') : ScrN h h' := p.2
def MC (z : Nat → Int32) (s : Int32) (len : Nat) (T : Nat → Int32) (x : Int64) (h : Hst) : Prop := h.1 18 = z ∧ h.1 17 1 = s ∧ h.1 17 3 = nI len ∧ (∀ j, j < len → h.1 20 j = T j) ∧ h.2 17 22 = x
theorem MC.scr {z : Nat → Int32} {s : Int32} {len : Nat} {T : Nat → Int32} {x : Int64} {h h' : Hst} (C : MC z s len T x h) (p : ScrM h h') : MC z s len T x h' := by
  obtain ⟨a, b, d, e, f⟩ := C
  exact ⟨(p.2.1 18 (by decide)).trans a, p.2.2.1.trans b, p.2.2.2.1.trans d, fun j hj => (congrFun (p.2.1 20 (by decide)) j).trans (e j hj), by rw [p.1]; exact f⟩
theorem mix_v {z : Nat → Int32} {s : Int32} {len : Nat} {T : Nat → Int32} {x : Int64} {h : Hst} (C : MC z s len T x h) (p : Int64) : ∃ h', f_X7_mix p h = some h' ∧ MC z s len T (31 * x + p) h' ∧ ScrN h h' := by
  obtain ⟨a, b, d, e, f⟩ := C
  refine ⟨hsj h 17 22 (31 * x + p), ?_, ⟨a, b, d, e, ?_⟩, ScrN.rf⟩
  · unfold f_X7_mix
    rw [f, gl_eq]
  · rw [hsj_at, if_pos rfl, if_pos rfl]
def GAt (c z : Nat → Int32) (s : Int32) (fc : Hst → Option ((Int32 × Hst) ⊕ (Nat × Hst))) (fm : Hst → Option (Int32 × Hst)) (v : Int32) : Prop :=
  (∀ h, h.1 8 = c → h.1 1 9 = s → ∃ h', fc h = some (.inl (v, h')) ∧ ScrC h h') ∧ ∀ h, h.1 18 = z → h.1 17 1 = s → ∃ h', fm h = some (v, h') ∧ ScrM h h'
def GWt (c z : Nat → Int32) (s : Int32) (fc fm : Hst → Option (Int32 × Hst)) (v : Int32) : Prop :=
  (∀ h, h.1 8 = c → h.1 1 9 = s → ∃ h', fc h = some (v, h') ∧ ScrC h h') ∧ ∀ h, h.1 18 = z → h.1 17 1 = s → ∃ h', fm h = some (v, h') ∧ ScrM h h'
theorem pickF {P : Nat → Int32 → Prop} (n : Nat) (H : ∀ i, i < n → ∃ v, P i v) : ∃ f : Nat → Int32, ∀ i, i < n → P i (f i) :=
  ⟨fun i => if h : i < n then Classical.choose (H i h) else 0, fun i h => by
    show P i (if h : i < n then Classical.choose (H i h) else 0)
    rw [dif_pos h]
    exact Classical.choose_spec (H i h)⟩
/-- a row of the class: a value is asked for and mixed -/
theorem cst {β : Type} {c z : Nat → Int32} {s : Int32} {len : Nat} {T : Nat → Int32} {fc : Hst → Option ((Int32 × Hst) ⊕ (Nat × Hst))} {fm : Hst → Option (Int32 × Hst)} {v : Int32} (G : GAt c z s fc fm v) {h : Hst} (C : CC c s len T h) (a : Int64) (K : Int64 → Hst → Option β) (X : Nat → Hst → Option β) :
    ∃ h', CC c s len T h' ∧ ScrC h h' ∧ gbx (fc h) (fun x2 h1 => gb (f_X6_mixed a (x2.toInt64) h1) fun x4 h3 => K x4 h3) X = K (31 * a + v.toInt64) h' := by
  obtain ⟨h', e, p⟩ := G.1 h C.1 C.2.1
  exact ⟨h', C.scr p, p, by rw [e]; rfl⟩
theorem cwt {β : Type} {c z : Nat → Int32} {s : Int32} {len : Nat} {T : Nat → Int32} {fc fm : Hst → Option (Int32 × Hst)} {v : Int32} (G : GWt c z s fc fm v) {h : Hst} (C : CC c s len T h) (a : Int64) (K : Int64 → Hst → Option β) :
    ∃ h', CC c s len T h' ∧ ScrC h h' ∧ (gb (fc h) fun x2 h1 => gb (f_X6_mixed a (x2.toInt64) h1) fun x4 h3 => K x4 h3) = K (31 * a + v.toInt64) h' := by
  obtain ⟨h', e, p⟩ := G.1 h C.1 C.2.1
  exact ⟨h', C.scr p, p, by rw [e]; rfl⟩
/-- a row of the model -/
theorem mst {β : Type} {z : Nat → Int32} {s : Int32} {len : Nat} {T : Nat → Int32} {x : Int64} {fm : Hst → Option (Int32 × Hst)} {v : Int32} (G : ∀ h, h.1 18 = z → h.1 17 1 = s → ∃ h', fm h = some (v, h') ∧ ScrM h h') {h : Hst} (C : MC z s len T x h) (K : Hst → Option β) :
    ∃ h', MC z s len T (31 * x + v.toInt64) h' ∧ ScrN h h' ∧ (gb (fm h) fun x2 h1 => gbv (f_X7_mix (x2.toInt64) h1) fun h3 => K h3) = K h' := by
  obtain ⟨h1, e1, p1⟩ := G h C.1 C.2.1
  obtain ⟨h2, e2, C2, p2⟩ := mix_v (C.scr p1) v.toInt64
  exact ⟨h2, C2, p1.n.trans p2, by rw [e1, gb_some, e2]; rfl⟩
theorem loopC0 {β : Type} {c : Nat → Int32} {s : Int32} {len : Nat} {T : Nat → Int32} {L : Nat → Int64 → Int32 → Hst → Option β} (F : Nat → Int64 → Int64) (i0 N : Nat) (next : Int64 → Hst → Option β)
    (hend : ∀ n a h, CC c s len T h → L (n + 1) a (nI N) h = next a h) (hstep : ∀ n a i h, i0 ≤ i → i < N → CC c s len T h → ∃ h', CC c s len T h' ∧ ScrC h h' ∧ L (n + 1) a (nI i) h = L n (F i a) (nI (i + 1)) h') :
    ∀ (m i n : Nat) (a : Int64) (h : Hst), i0 ≤ i → i + m = N → m < n → CC c s len T h → ∃ h', CC c s len T h' ∧ ScrC h h' ∧ L n a (nI i) h = next (foF F m i a) h'
  | 0, i, n + 1, a, h, _, hi, _, C => ⟨h, C, ScrC.rf, by rw [show i = N by omega, hend n a h C]; rfl⟩
  | m + 1, i, n + 1, a, h, h0, hi, hn, C => by
    obtain ⟨h1, C1, p1, e1⟩ := hstep n a i h h0 (by omega) C
    obtain ⟨h', C', p', e'⟩ := loopC0 F i0 N next hend hstep m (i + 1) n (F i a) h1 (by omega) (by omega) (by omega) C1
    exact ⟨h', C', p1.trans p', e1.trans e'⟩
theorem loopC {β : Type} {c : Nat → Int32} {s : Int32} {len : Nat} {T : Nat → Int32} {L : Nat → Int64 → Int32 → Hst → Option β} (F : Nat → Int64 → Int64) (N : Nat) (next : Int64 → Hst → Option β)
    (hend : ∀ n a h, CC c s len T h → L (n + 1) a (nI N) h = next a h) (hstep : ∀ n a i h, i < N → CC c s len T h → ∃ h', CC c s len T h' ∧ ScrC h h' ∧ L (n + 1) a (nI i) h = L n (F i a) (nI (i + 1)) h')
    (m i n : Nat) (a : Int64) (h : Hst) (h1 : i + m = N) (h2 : m < n) (C : CC c s len T h) : ∃ h', CC c s len T h' ∧ ScrC h h' ∧ L n a (nI i) h = next (foF F m i a) h' :=
  loopC0 F 0 N next hend (fun n a i h _ hi C => hstep n a i h hi C) m i n a h (Nat.zero_le _) h1 h2 C
theorem loopM {β : Type} {z : Nat → Int32} {s : Int32} {len : Nat} {T : Nat → Int32} {L : Nat → Int32 → Hst → Option β} (F : Nat → Int64 → Int64) (N : Nat) (next : Hst → Option β)
    (hend : ∀ n x h, MC z s len T x h → L (n + 1) (nI N) h = next h) (hstep : ∀ n x i h, i < N → MC z s len T x h → ∃ h', MC z s len T (F i x) h' ∧ ScrN h h' ∧ L (n + 1) (nI i) h = L n (nI (i + 1)) h') :
    ∀ (m i n : Nat) (x : Int64) (h : Hst), i + m = N → m < n → MC z s len T x h → ∃ h', MC z s len T (foF F m i x) h' ∧ ScrN h h' ∧ L n (nI i) h = next h'
  | 0, i, n + 1, x, h, hi, _, C => ⟨h, C, ScrN.rf, by rw [show i = N by omega]; exact hend n x h C⟩
  | m + 1, i, n + 1, x, h, hi, hn, C => by
    obtain ⟨h1, C1, p1, e1⟩ := hstep n x i h (by omega) C
    obtain ⟨h', C', p', e'⟩ := loopM F N next hend hstep m (i + 1) n (F i x) h1 (by omega) (by omega) C1
    exact ⟨h', C', p1.trans p', e1.trans e'⟩
theorem getW_reason {c z : Nat → Int32} {ng nl nt : Nat} (I : InvC c ng nl nt) (R : RelCZ c z nl) (s : Int32) (t : Fin 6) (m : Int32) : ∃ v, GWt c z s (f_X6_reasonAgainstPress (nI t.val) m) (f_X7_reason (nI t.val) m) v := by
  rcases ahead I R with ⟨ac, am⟩ | ⟨l, u, v, due, cont, f, k0, r, L, C, T, Re, hl, -, -, -, -, -, -, -, -, -, -, -, ac, am⟩
  · refine ⟨1, fun h e _ => ?_, fun h e _ => ?_⟩
    · obtain ⟨h', e', s'⟩ := ac h e
      refine ⟨h', ?_, s'⟩
      unfold f_X6_reasonAgainstPress
      rw [e', gb_some, if_pos rfl]
    · obtain ⟨h', e', s'⟩ := am h e
      refine ⟨h', ?_, s'⟩
      unfold f_X7_reason
      rw [e', gb_some, if_pos rfl]
  · refine ⟨rpV c t l (C + (T - Re)) m, fun h e _ => ?_, fun h e _ => ?_⟩
    · obtain ⟨h', e', s', r2, r3, r4, r5, r6, r7, r8, r9, r10, r11⟩ := ac h e
      exact ⟨h', reas_C I t e' (s'.e8.trans e) r5 r11 m, s'⟩
    · obtain ⟨h', e', s', r9, r10, r11, r12, r13, r14, r15⟩ := am h e
      exact ⟨h', reas_M I R t hl e' (s'.e18.trans e) r9 r13 r14 m, s'⟩
