-- what a getter may change: scratch
def ScrC (h h' : Hst) : Prop := h'.2 = h.2 ∧ ∀ k, k < 11 ∨ 15 < k → h'.1 k = h.1 k
def ScrM (h h' : Hst) : Prop := h'.2 = h.2 ∧ (∀ k, k < 17 ∨ (17 < k ∧ k < 21) ∨ 24 < k → h'.1 k = h.1 k) ∧ h'.1 17 1 = h.1 17 1 ∧ h'.1 17 3 = h.1 17 3 ∧ h'.1 17 5 = h.1 17 5
theorem ScrC.rf {h : Hst} : ScrC h h := ⟨rfl, fun _ _ => rfl⟩
theorem ScrM.rf {h : Hst} : ScrM h h := ⟨rfl, fun _ _ => rfl, rfl, rfl, rfl⟩
theorem ScrC.trans {a b c : Hst} (p : ScrC a b) (q : ScrC b c) : ScrC a c := ⟨q.1.trans p.1, fun k hk => (q.2 k hk).trans (p.2 k hk)⟩
theorem ScrM.trans {a b c : Hst} (p : ScrM a b) (q : ScrM b c) : ScrM a c :=
  ⟨q.1.trans p.1, fun k hk => (q.2.1 k hk).trans (p.2.1 k hk), q.2.2.1.trans p.2.2.1, q.2.2.2.1.trans p.2.2.2.1, q.2.2.2.2.trans p.2.2.2.2⟩
def GetV (c z : Nat → Int32) (s : Int32) (fc : Hst → Option ((Int32 × Hst) ⊕ (Nat × Hst))) (fm : Hst → Option (Int32 × Hst)) : Prop :=
  ∃ v, (∀ h, h.1 8 = c → h.1 1 9 = s → ∃ h', fc h = some (.inl (v, h')) ∧ ScrC h h') ∧ ∀ h, h.1 18 = z → h.1 17 1 = s → ∃ h', fm h = some (v, h') ∧ ScrM h h'
def GetW (c z : Nat → Int32) (s : Int32) (fc : Hst → Option (Int32 × Hst)) (fm : Hst → Option (Int32 × Hst)) : Prop :=
  ∃ v, (∀ h, h.1 8 = c → h.1 1 9 = s → ∃ h', fc h = some (v, h') ∧ ScrC h h') ∧ ∀ h, h.1 18 = z → h.1 17 1 = s → ∃ h', fm h = some (v, h') ∧ ScrM h h'
theorem getV_pure {c z : Nat → Int32} {s : Int32} {fc : Hst → Option ((Int32 × Hst) ⊕ (Nat × Hst))} {fm : Hst → Option (Int32 × Hst)} (v : Int32) (hc : ∀ h, h.1 8 = c → h.1 1 9 = s → fc h = some (.inl (v, h))) (hm : ∀ h, h.1 18 = z → h.1 17 1 = s → fm h = some (v, h)) : GetV c z s fc fm :=
  ⟨v, fun h a b => ⟨h, hc h a b, ScrC.rf⟩, fun h a b => ⟨h, hm h a b, ScrM.rf⟩⟩
theorem gb_eta {α : Type} (x : Option (α × Hst)) : gb x (fun a h => some (a, h)) = x := by
  cases x with
  | none => rfl
  | some p => rfl
theorem Sim.scr {h a b d : Hst} (S : Sim h) (p : ScrC h a) (q1 : b.1 = (hst a 17 5 0).1) (q : ScrM b d) : Sim d := by
  have e : ∀ k, k < 11 ∨ (15 < k ∧ k < 17) ∨ (17 < k ∧ k < 21) → d.1 k = h.1 k := fun k hk => by
    rw [q.2.1 k (by omega), q1, hst_at, if_neg (by omega), p.2 k (by omega)]
  refine S.keep ⟨e 0 (by decide), e 1 (by decide), e 9 (by decide), e 16 (by decide), e 19 (by decide), e 20 (by decide), ?_, ?_⟩ (e 8 (by decide)) (e 18 (by decide))
  · rw [q.2.2.1, q1]
    show upd (a.1 17) 5 0 1 = _
    rw [upd_at, if_neg (by decide), p.2 17 (by decide)]
  · rw [q.2.2.2.1, q1]
    show upd (a.1 17) 5 0 3 = _
    rw [upd_at, if_neg (by decide), p.2 17 (by decide)]
/-- a getter whose arguments are good, of both sides -/
theorem agree_get {h : Hst} (S : Sim h) {fc : Hst → Option ((Int32 × Hst) ⊕ (Nat × Hst))} {fm m : Hst → Option (Int32 × Hst)} {r : Option (Int32 × Hst)} {K : Nat → Hst → Option (Int32 × Hst)} (V : GetV (h.1 8) (h.1 18) (h.1 1 9) fc fm)
    (hr : r = gbx (fc h) (fun x2 h1 => gck 0 1 (gl (hsj h1 25 (0 : Int32).toNatClampNeg (x2.toInt64)) fun h3 => some (0, h3))) K)
    (hm : ∀ H : Hst, H.1 18 = h.1 18 → m H = fm (hst H 17 5 0)) : Agree r m := by
  obtain ⟨v, vc, vm⟩ := V
  obtain ⟨h', e, s⟩ := vc h rfl rfl
  have e18 : h'.1 18 = h.1 18 := s.2 18 (by decide)
  have e17 : h'.1 17 = h.1 17 := s.2 17 (by decide)
  obtain ⟨⟨o, ns, s1, s2, s3, s4, s5, s6⟩, -⟩ := id S
  obtain ⟨d, e', s'⟩ := vm (hst (hsj h' 25 0 v.toInt64) 17 5 0) (by show h'.1 18 = _; exact e18) (by
    show upd (h'.1 17) 5 0 1 = _
    rw [upd_at, if_neg (by decide), e17, s5, s4])
  refine agree_ok (v := v) (hd := h') (h2 := d) ?_ ?_ ?_ s'.1 (Sim.scr (b := hst (hsj h' 25 0 v.toInt64) 17 5 0) S s rfl s')
  · rw [hr, e, gbx_inl, gk_0_1, gl_eq, tn_0]
  · rw [hm (hsj h' 25 0 v.toInt64) e18]; exact e'
  · rw [s'.2.2.2.2]; rfl
/-- a getter whose arguments are bad -/
theorem agree_bad {h : Hst} (S : Sim h) {r : Option (Int32 × Hst)} {m : Hst → Option (Int32 × Hst)} {k : Int32} (hk : k ≠ 0) (hr : r = some (k, h)) (hm : m h = some (0, hst h 17 5 k)) : Agree r m :=
  agree_no hr hk hm rfl (S.keep ⟨rfl, rfl, rfl, rfl, rfl, rfl, rfl, rfl⟩ rfl rfl)
-- counting
def cntF (f : Nat → Bool) : Nat → Nat → Int32 → Int32
  | 0, _, acc => acc
  | m + 1, i, acc => cntF f m (i + 1) (if f i then acc + 1 else acc)
theorem lotsWith_19 {c : Nat → Int32} {nl : Nat} (hl : nl ≤ 40) (col : Fin 11) (val b : Int32) (f : Nat → Bool) (hf : ∀ l : Fin 40, l.val < nl → (f l.val = true ↔ (b = 0 ∨ cLo c l 5 = 0) ∧ cLo c l col = val)) : ∀ (m i n : Nat) (acc : Int32) (h : Hst), h.1 8 = c → i + m = nl → m < n → lp_X6_lotsWith_19 n (nI col.val) val b acc (nI nl) (nI i) h = some (cntF f m i acc, h)
  | 0, i, n + 1, acc, h, e, hi, _ => by
    rw [lp_X6_lotsWith_19, if_pos (nI_le (by omega) (by omega))]; rfl
  | m + 1, i, n + 1, acc, h, e, hi, hn => by
    have IH := fun a => lotsWith_19 hl col val b f hf m (i + 1) n a h e (by omega) (by omega)
    have q := hf ⟨i, by omega⟩ (by show i < nl; omega)
    have g5 : f_X5_get_3 (nI i) 5 h = some (cLo c ⟨i, by omega⟩ 5, h) := by rw [← e]; exact get3 ⟨i, by omega⟩ 5 h
    have gc : f_X5_get_3 (nI i) (nI col.val) h = some (cLo c ⟨i, by omega⟩ col, h) := by rw [← e]; exact get3 ⟨i, by omega⟩ col h
    have st : ∀ x : Int32, x ≠ 0 → jb_X6_lotsWith_51 (lp_X6_lotsWith_19 n) (nI col.val) val b acc (nI nl) (nI i) x h = some (cntF f m (i + 1) (if cLo c ⟨i, by omega⟩ col = val then acc + 1 else acc), h) := fun x hx => by
      unfold jb_X6_lotsWith_51 jb_X6_lotsWith_78
      rw [if_neg hx, gc, gb_some, nI_1, IH, IH]
      split <;> rfl
    rw [lp_X6_lotsWith_19, if_neg (nI_ge (show i < nl by omega) (by omega)), cntF]
    unfold jb_X6_lotsWith_46
    by_cases hb : b = 0
    · rw [if_pos hb, st 1 (by decide)]
      congr 3
      by_cases hv : cLo c ⟨i, by omega⟩ col = val
      · rw [if_pos hv, if_pos (q.mpr ⟨Or.inl hb, hv⟩)]
      · rw [if_neg hv, if_neg (fun z => hv (q.mp z).2)]
    · rw [if_neg hb, g5, gb_some]
      by_cases h5 : cLo c ⟨i, by omega⟩ 5 = 0
      · rw [if_pos h5, st 1 (by decide)]
        congr 3
        by_cases hv : cLo c ⟨i, by omega⟩ col = val
        · rw [if_pos hv, if_pos (q.mpr ⟨Or.inr h5, hv⟩)]
        · rw [if_neg hv, if_neg (fun z => hv (q.mp z).2)]
      · rw [if_neg h5, if_neg (fun z => (q.mp z).1.elim hb h5)]
        unfold jb_X6_lotsWith_51 jb_X6_lotsWith_78
        rw [if_pos rfl, nI_1, IH]
theorem lotsOf_6 {z : Nat → Int32} {nl : Nat} (hl : nl ≤ 40) (z8 : z 8 = nI nl) (p0 p1 b : Int32) (f : Nat → Bool) (hf : ∀ l : Fin 40, l.val < nl → (f l.val = true ↔ (p0 = -1 ∨ zL z l 0 = p0) ∧ (p1 = -1 ∨ zL z l 1 = p1) ∧ (b = 0 ∨ zL z l 5 = 0))) : ∀ (m i n : Nat) (acc : Int32) (h : Hst), h.1 18 = z → i + m = nl → m < n → lp_X7_lotsOf_6 n p0 p1 b acc (nI i) h = some (cntF f m i acc, h)
  | 0, i, n + 1, acc, h, e, hi, _ => by
    rw [lp_X7_lotsOf_6, gk_8_514, tn_8, e, z8, if_pos (nI_le (by omega) (by omega))]; rfl
  | m + 1, i, n + 1, acc, h, e, hi, hn => by
    have IH := fun a => lotsOf_6 hl z8 p0 p1 b f hf m (i + 1) n a h e (by omega) (by omega)
    have q := hf ⟨i, by omega⟩ (by show i < nl; omega)
    have g0 : f_X7_ofLot (nI i) 0 h = some (zL z ⟨i, by omega⟩ 0, h) := by rw [← e]; exact ofLot_0 ⟨i, by omega⟩ h
    have g1 : f_X7_ofLot (nI i) 1 h = some (zL z ⟨i, by omega⟩ 1, h) := by rw [← e]; exact ofLot_1 ⟨i, by omega⟩ h
    have g5 : f_X7_ofLot (nI i) 5 h = some (zL z ⟨i, by omega⟩ 5, h) := by rw [← e]; exact ofLot_5 ⟨i, by omega⟩ h
    have s83 : ∀ x, jb_X7_lotsOf_83 (lp_X7_lotsOf_6 n) p0 p1 b (nI i) x acc h = some (cntF f m (i + 1) (acc + x), h) := fun x => by
      unfold jb_X7_lotsOf_83
      rw [gl_eq, nI_1, IH]
    have no : ¬ (f i = true) → jb_X7_lotsOf_54 (lp_X7_lotsOf_6 n) p0 p1 b acc (nI i) h = some (cntF f (m + 1) i acc, h) := fun hf => by
      unfold jb_X7_lotsOf_54 jb_X7_lotsOf_55 jb_X7_lotsOf_82
      rw [if_pos rfl, s83, cntF, if_neg hf, Int32.add_zero]
    have yes : ((b = 0 ∨ zL z ⟨i, by omega⟩ 5 = 0) ↔ f i = true) → jb_X7_lotsOf_50 (lp_X7_lotsOf_6 n) p0 p1 b acc (nI i) h = some (cntF f (m + 1) i acc, h) := fun hf => by
      unfold jb_X7_lotsOf_50 jb_X7_lotsOf_55 jb_X7_lotsOf_78 jb_X7_lotsOf_82
      rw [if_neg (by decide), cntF]
      by_cases hb : b = 0
      · rw [if_pos hb, s83, if_pos (hf.mp (Or.inl hb))]
      · rw [if_neg hb, g5, gb_some]
        by_cases h5 : zL z ⟨i, by omega⟩ 5 = 0
        · rw [if_pos h5, s83, if_pos (hf.mp (Or.inr h5))]
        · rw [if_neg h5, s83, if_neg (fun w => (hf.mpr w).elim hb h5), Int32.add_zero]
    have s34 : ((p0 = -1 ∨ zL z ⟨i, by omega⟩ 0 = p0)) → jb_X7_lotsOf_34 (lp_X7_lotsOf_6 n) p0 p1 b acc (nI i) h = some (cntF f (m + 1) i acc, h) := fun h0 => by
      unfold jb_X7_lotsOf_34
      by_cases h1 : p1 = -1
      · rw [if_pos h1]; exact yes ⟨fun w => q.mpr ⟨h0, Or.inl h1, w⟩, fun w => (q.mp w).2.2⟩
      · rw [if_neg h1, g1, gb_some]
        by_cases h2 : zL z ⟨i, by omega⟩ 1 = p1
        · rw [if_pos h2]; exact yes ⟨fun w => q.mpr ⟨h0, Or.inr h2, w⟩, fun w => (q.mp w).2.2⟩
        · rw [if_neg h2]; exact no (fun w => (q.mp w).2.1.elim h1 h2)
    rw [lp_X7_lotsOf_6, gk_8_514, tn_8, e, z8, if_neg (nI_ge (show i < nl by omega) (by omega))]
    by_cases h0 : p0 = -1
    · rw [if_pos h0]; exact s34 (Or.inl h0)
    · rw [if_neg h0, g0, gb_some]
      by_cases h2 : zL z ⟨i, by omega⟩ 0 = p0
      · rw [if_pos h2]; exact s34 (Or.inr h2)
      · rw [if_neg h2]; exact no (fun w => (q.mp w).1.elim h0 h2)
def fLots (c : Nat → Int32) (col : Fin 11) (val b : Int32) (i : Nat) : Bool := if hi : i < 40 then decide ((b = 0 ∨ cLo c ⟨i, hi⟩ 5 = 0) ∧ cLo c ⟨i, hi⟩ col = val) else false
theorem fLots_iff (c : Nat → Int32) (col : Fin 11) (val b : Int32) (l : Fin 40) : fLots c col val b l.val = true ↔ (b = 0 ∨ cLo c l 5 = 0) ∧ cLo c l col = val := by
  unfold fLots
  rw [dif_pos l.isLt]
  exact decide_eq_true_iff
theorem lotsWith_v {c : Nat → Int32} {ng nl nt : Nat} (I : InvC c ng nl nt) (col : Fin 11) (val b : Int32) (h : Hst) (e : h.1 8 = c) : f_X6_lotsWith (nI col.val) val b h = some (cntF (fLots c col val b) nl 0 0, h) := by
  obtain ⟨⟨-, hl, -⟩, ⟨-, i8, -⟩, -⟩ := I
  unfold f_X6_lotsWith
  rw [row7_1, gb_some, e, i8]
  exact lotsWith_19 hl col val b _ (fun l _ => fLots_iff c col val b l) nl 0 FU 0 h e (by omega) (Nat.lt_of_le_of_lt hl (by decide))
theorem lotsOf_v {c z : Nat → Int32} {ng nl nt : Nat} (I : InvC c ng nl nt) (R : RelCZ c z nl) (p0 p1 b : Int32) (col : Fin 11) (val b' : Int32) (q : ∀ l : Fin 40, l.val < nl → ((b' = 0 ∨ cLo c l 5 = 0) ∧ cLo c l col = val ↔ (p0 = -1 ∨ cLo c l 0 = p0) ∧ (p1 = -1 ∨ cLo c l 1 = p1) ∧ (b = 0 ∨ cLo c l 5 = 0))) (h : Hst) (e : h.1 18 = z) : f_X7_lotsOf p0 p1 b h = some (cntF (fLots c col val b') nl 0 0, h) := by
  obtain ⟨⟨-, hl, -⟩, ⟨-, i8, -⟩, -⟩ := I
  have z8 : z 8 = nI nl := (R.1 8 (by decide)).trans i8
  have r7 := R.2.2.2.2.2.2.1
  unfold f_X7_lotsOf
  refine lotsOf_6 hl z8 p0 p1 b _ (fun l hl => ?_) nl 0 FU 0 h e (by omega) (Nat.lt_of_le_of_lt hl (by decide))
  rw [fLots_iff, q l hl, show zL z l 0 = cLo c l 0 from r7 l 0, show zL z l 1 = cLo c l 1 from r7 l 1, show zL z l 5 = cLo c l 5 from r7 l 5]
