-- the digest of the class
theorem dgr_C {c z : Nat → Int32} {ng nl nt : Nat} (I : InvC c ng nl nt) {s : Int32} {len : Nat} {T : Nat → Int32} (w : Nat → Int32) (G : ∀ g k, g < ng → k < 6 → GAt c z s (f_X6_grower (nI g) (nI k)) (f_X7_growerNow (nI g) (nI k)) (w (6 * g + k))) (a : Int64) (h : Hst) (C : CC c s len T h) :
    ∃ h', CC c s len T h' ∧ ScrC h h' ∧ f_X6_mixedWithGrowers a h = some (foF (mv w) (6 * ng) 0 a, h') := by
  have h8 := I.1.1
  obtain ⟨h', C', p', e'⟩ := loopC (c := c) (s := s) (len := len) (T := T) (L := fun n a i h => lp_X6_mixedWithGrowers_18 n a (nI ng) i h) (fun g a => foF (fun k => mv w (6 * g + k)) 6 0 a) ng (fun a h => some (a, h)) (fun n a h C => by
    show lp_X6_mixedWithGrowers_18 (n + 1) a (nI ng) (nI ng) h = _
    rw [lp_X6_mixedWithGrowers_18, if_pos (nI_le (Nat.le_refl _) (by omega))]) (fun n a i h hi C => by
    obtain ⟨h1, C1, p1, e1⟩ := loopC (c := c) (s := s) (len := len) (T := T) (L := fun n' a k h => lp_X6_mixedWithGrowers_28 (lp_X6_mixedWithGrowers_18 n) n' a (nI ng) (nI i) k h) (fun k => mv w (6 * i + k)) 6 (fun a h => lp_X6_mixedWithGrowers_18 n a (nI ng) (nI (i + 1)) h) (fun n' a h C => by
      show lp_X6_mixedWithGrowers_28 (lp_X6_mixedWithGrowers_18 n) (n' + 1) a (nI ng) (nI i) (nI 6) h = _
      rw [lp_X6_mixedWithGrowers_28, if_pos (show (5 : Int32) < nI 6 by decide), nI_1]) (fun n' a k h hk C => by
      obtain ⟨h2, C2, p2, e2⟩ := cst (G i k hi hk) C a (fun x4 h3 => lp_X6_mixedWithGrowers_28 (lp_X6_mixedWithGrowers_18 n) n' x4 (nI ng) (nI i) (nI k + 1) h3) (fun _ _ => none)
      refine ⟨h2, C2, p2, ?_⟩
      show lp_X6_mixedWithGrowers_28 (lp_X6_mixedWithGrowers_18 n) (n' + 1) a (nI ng) (nI i) (nI k) h = _
      rw [lp_X6_mixedWithGrowers_28, if_neg (show ¬ (5 : Int32) < nI k from nI_nlt (a := 5) (by omega) (by decide)), e2, nI_1]
      rfl) 6 0 FU a h rfl (by decide) C
    refine ⟨h1, C1, p1, ?_⟩
    show lp_X6_mixedWithGrowers_18 (n + 1) a (nI ng) (nI i) h = _
    rw [lp_X6_mixedWithGrowers_18, if_neg (nI_ge hi (by omega))]
    exact e1) ng 0 FU a h (by omega) (Nat.lt_of_le_of_lt h8 (by decide)) C
  refine ⟨h', C', p', ?_⟩
  unfold f_X6_mixedWithGrowers
  rw [row7_0, gb_some, C.1, I.2.1.1, ← foF_nest (mv w) 6 ng 0 a]
  exact e'
theorem dlo_C {c z : Nat → Int32} {ng nl nt : Nat} (I : InvC c ng nl nt) {s : Int32} {len : Nat} {T : Nat → Int32} (w : Nat → Int32) (G : ∀ g k, g < nl → k < 11 → GAt c z s (f_X6_lot (nI g) (nI k)) (f_X7_lotNow (nI g) (nI k)) (w (11 * g + k))) (a : Int64) (h : Hst) (C : CC c s len T h) :
    ∃ h', CC c s len T h' ∧ ScrC h h' ∧ f_X6_mixedWithLots a h = some (foF (mv w) (11 * nl) 0 a, h') := by
  have h8 := I.1.2.1
  obtain ⟨h', C', p', e'⟩ := loopC (c := c) (s := s) (len := len) (T := T) (L := fun n a i h => lp_X6_mixedWithLots_18 n a (nI nl) i h) (fun g a => foF (fun k => mv w (11 * g + k)) 11 0 a) nl (fun a h => some (a, h)) (fun n a h C => by
    show lp_X6_mixedWithLots_18 (n + 1) a (nI nl) (nI nl) h = _
    rw [lp_X6_mixedWithLots_18, if_pos (nI_le (Nat.le_refl _) (by omega))]) (fun n a i h hi C => by
    obtain ⟨h1, C1, p1, e1⟩ := loopC (c := c) (s := s) (len := len) (T := T) (L := fun n' a k h => lp_X6_mixedWithLots_28 (lp_X6_mixedWithLots_18 n) n' a (nI nl) (nI i) k h) (fun k => mv w (11 * i + k)) 11 (fun a h => lp_X6_mixedWithLots_18 n a (nI nl) (nI (i + 1)) h) (fun n' a h C => by
      show lp_X6_mixedWithLots_28 (lp_X6_mixedWithLots_18 n) (n' + 1) a (nI nl) (nI i) (nI 11) h = _
      rw [lp_X6_mixedWithLots_28, if_pos (show (10 : Int32) < nI 11 by decide), nI_1]) (fun n' a k h hk C => by
      obtain ⟨h2, C2, p2, e2⟩ := cst (G i k hi hk) C a (fun x4 h3 => lp_X6_mixedWithLots_28 (lp_X6_mixedWithLots_18 n) n' x4 (nI nl) (nI i) (nI k + 1) h3) (fun _ _ => none)
      refine ⟨h2, C2, p2, ?_⟩
      show lp_X6_mixedWithLots_28 (lp_X6_mixedWithLots_18 n) (n' + 1) a (nI nl) (nI i) (nI k) h = _
      rw [lp_X6_mixedWithLots_28, if_neg (show ¬ (10 : Int32) < nI k from nI_nlt (a := 10) (by omega) (by decide)), e2, nI_1]
      rfl) 11 0 FU a h rfl (by decide) C
    refine ⟨h1, C1, p1, ?_⟩
    show lp_X6_mixedWithLots_18 (n + 1) a (nI nl) (nI i) h = _
    rw [lp_X6_mixedWithLots_18, if_neg (nI_ge hi (by omega))]
    exact e1) nl 0 FU a h (by omega) (Nat.lt_of_le_of_lt h8 (by decide)) C
  refine ⟨h', C', p', ?_⟩
  unfold f_X6_mixedWithLots
  rw [row7_1, gb_some, C.1, I.2.1.2.1, ← foF_nest (mv w) 11 nl 0 a]
  exact e'
theorem dva_C {c z : Nat → Int32} {s : Int32} {len : Nat} {T : Nat → Int32} (w : Nat → Int32) (G : ∀ g k, g < 5 → k < 8 → GAt c z s (f_X6_variety (nI g) (nI k)) (f_X7_varietyNow (nI g) (nI k)) (w (8 * g + k))) (a : Int64) (h : Hst) (C : CC c s len T h) :
    ∃ h', CC c s len T h' ∧ ScrC h h' ∧ f_X6_mixedWithVarieties a h = some (foF (mv w) (8 * 5) 0 a, h') := by
  obtain ⟨h', C', p', e'⟩ := loopC (c := c) (s := s) (len := len) (T := T) (L := fun n a i h => lp_X6_mixedWithVarieties_5 n a i h) (fun g a => foF (fun k => mv w (8 * g + k)) 8 0 a) 5 (fun a h => some (a, h)) (fun n a h C => by
    show lp_X6_mixedWithVarieties_5 (n + 1) a (nI 5) h = _
    rw [lp_X6_mixedWithVarieties_5, if_pos (by decide)]) (fun n a i h hi C => by
    obtain ⟨h1, C1, p1, e1⟩ := loopC (c := c) (s := s) (len := len) (T := T) (L := fun n' a k h => lp_X6_mixedWithVarieties_14 (lp_X6_mixedWithVarieties_5 n) n' a (nI i) k h) (fun k => mv w (8 * i + k)) 8 (fun a h => lp_X6_mixedWithVarieties_5 n a (nI (i + 1)) h) (fun n' a h C => by
      show lp_X6_mixedWithVarieties_14 (lp_X6_mixedWithVarieties_5 n) (n' + 1) a (nI i) (nI 8) h = _
      rw [lp_X6_mixedWithVarieties_14, if_pos (show (7 : Int32) < nI 8 by decide), nI_1]) (fun n' a k h hk C => by
      obtain ⟨h2, C2, p2, e2⟩ := cst (G i k hi hk) C a (fun x4 h3 => lp_X6_mixedWithVarieties_14 (lp_X6_mixedWithVarieties_5 n) n' x4 (nI i) (nI k + 1) h3) (fun _ _ => none)
      refine ⟨h2, C2, p2, ?_⟩
      show lp_X6_mixedWithVarieties_14 (lp_X6_mixedWithVarieties_5 n) (n' + 1) a (nI i) (nI k) h = _
      rw [lp_X6_mixedWithVarieties_14, if_neg (show ¬ (7 : Int32) < nI k from nI_nlt (a := 7) (by omega) (by decide)), e2, nI_1]
      rfl) 8 0 FU a h rfl (by decide) C
    refine ⟨h1, C1, p1, ?_⟩
    show lp_X6_mixedWithVarieties_5 (n + 1) a (nI i) h = _
    rw [lp_X6_mixedWithVarieties_5, if_neg (show ¬ (5 : Int32) ≤ nI i from nI_ge (b := 5) hi (by decide))]
    exact e1) 5 0 FU a h rfl (by decide) C
  refine ⟨h', C', p', ?_⟩
  unfold f_X6_mixedWithVarieties
  rw [← foF_nest (mv w) 8 5 0 a]
  exact e'
/-- what a tank does to the digest -/
def TT (vt vk : Nat → Nat → Int32) (r0 r1 oi : Nat → Int32) (t : Nat) (a : Int64) : Int64 :=
  foF (mv (vk t)) 5 0 (31 * (31 * (31 * foF (mv (vt t)) 5 10 (foF (mv (vt t)) 3 0 a) + (r0 t).toInt64) + (r1 t).toInt64) + (oi t).toInt64)
def TkG (c z : Nat → Int32) (s : Int32) (nt : Nat) (vt vk : Nat → Nat → Int32) (r0 r1 oi : Nat → Int32) : Prop :=
  (∀ t k, t < nt → isT k → GAt c z s (f_X6_tank (nI t) (nI k)) (f_X7_tankNow (nI t) (nI k)) (vt t k)) ∧
  (∀ t, t < nt → GWt c z s (f_X6_reasonAgainstPress (nI t) 0) (f_X7_reason (nI t) 0) (r0 t)) ∧
  (∀ t, t < nt → GWt c z s (f_X6_reasonAgainstPress (nI t) 1) (f_X7_reason (nI t) 1) (r1 t)) ∧
  (∀ t, t < nt → GAt c z s (f_X6_oilIn (nI t) 30) (f_X7_oilBehind (nI t) 30) (oi t)) ∧
  (∀ t k, t < nt → k < 5 → GAt c z s (f_X6_taken (nI t) 1 (nI k)) (f_X7_takenNow (nI t) 1 (nI k)) (vk t k))
theorem dta_C {c z : Nat → Int32} {ng nl nt : Nat} (I : InvC c ng nl nt) {s : Int32} {len : Nat} {T : Nat → Int32} {vt vk : Nat → Nat → Int32} {r0 r1 oi : Nat → Int32} (G : TkG c z s nt vt vk r0 r1 oi) (a : Int64) (h : Hst) (C : CC c s len T h) :
    ∃ h', CC c s len T h' ∧ ScrC h h' ∧ f_X6_mixedWithTanks a h = some (foF (TT vt vk r0 r1 oi) nt 0 a, h') := by
  have h6 := I.1.2.2
  obtain ⟨h', C', p', e'⟩ := loopC (c := c) (s := s) (len := len) (T := T) (L := fun n a i h => lp_X6_mixedWithTanks_18 n a (nI nt) i h) (TT vt vk r0 r1 oi) nt (fun a h => some (a, h)) (fun n a h C => by
    show lp_X6_mixedWithTanks_18 (n + 1) a (nI nt) (nI nt) h = _
    rw [lp_X6_mixedWithTanks_18, if_pos (nI_le (Nat.le_refl _) (by omega))]) (fun n a i h hi C => by
    obtain ⟨h1, C1, p1, e1⟩ := loopC (c := c) (s := s) (len := len) (T := T) (L := fun n' a k h => lp_X6_mixedWithTanks_28 (lp_X6_mixedWithTanks_18 n) n' a (nI nt) (nI i) k h) (mv (vt i)) 3 (fun a h => lp_X6_mixedWithTanks_58 (lp_X6_mixedWithTanks_18 n) FU a (nI nt) (nI i) 10 h) (fun n' a h C => by
      show lp_X6_mixedWithTanks_28 (lp_X6_mixedWithTanks_18 n) (n' + 1) a (nI nt) (nI i) (nI 3) h = _
      rw [lp_X6_mixedWithTanks_28, if_pos (show (2 : Int32) < nI 3 by decide)]) (fun n' a k h hk C => by
      obtain ⟨h2, C2, p2, e2⟩ := cst (G.1 i k hi (.inl hk)) C a (fun x4 h3 => lp_X6_mixedWithTanks_28 (lp_X6_mixedWithTanks_18 n) n' x4 (nI nt) (nI i) (nI k + 1) h3) (fun _ _ => none)
      refine ⟨h2, C2, p2, ?_⟩
      show lp_X6_mixedWithTanks_28 (lp_X6_mixedWithTanks_18 n) (n' + 1) a (nI nt) (nI i) (nI k) h = _
      rw [lp_X6_mixedWithTanks_28, if_neg (show ¬ (2 : Int32) < nI k from nI_nlt (a := 2) (by omega) (by decide)), e2, nI_1]
      rfl) 3 0 FU a h rfl (by decide) C
    obtain ⟨h3, C3, p3, e3⟩ := loopC0 (c := c) (s := s) (len := len) (T := T) (L := fun n' a k h => lp_X6_mixedWithTanks_58 (lp_X6_mixedWithTanks_18 n) n' a (nI nt) (nI i) k h) (mv (vt i)) 10 15 (fun a h => gb (f_X6_reasonAgainstPress (nI i) 0 h) fun x2 h1 =>
      gb (f_X6_mixed a (x2.toInt64) h1) fun x4 h3 =>
      gb (f_X6_reasonAgainstPress (nI i) 1 h3) fun x6 h5 =>
      gb (f_X6_mixed x4 (x6.toInt64) h5) fun x8 h7 =>
      (gbx (f_X6_oilIn (nI i) 30 h7) (fun x10 h9 =>
        gb (f_X6_mixed x8 (x10.toInt64) h9) fun x12 h11 =>
        (lp_X6_mixedWithTanks_128 (lp_X6_mixedWithTanks_18 n) FU x12 (nI nt) (nI i) 0 h11)) (fun _ _ => none))) (fun n' a h C => by
      show lp_X6_mixedWithTanks_58 (lp_X6_mixedWithTanks_18 n) (n' + 1) a (nI nt) (nI i) (nI 15) h = _
      rw [lp_X6_mixedWithTanks_58, if_pos (show (14 : Int32) < nI 15 by decide)]) (fun n' a k h k10 hk C => by
      obtain ⟨h2, C2, p2, e2⟩ := cst (G.1 i k hi (.inr ⟨k10, hk⟩)) C a (fun x4 h3 => lp_X6_mixedWithTanks_58 (lp_X6_mixedWithTanks_18 n) n' x4 (nI nt) (nI i) (nI k + 1) h3) (fun _ _ => none)
      refine ⟨h2, C2, p2, ?_⟩
      show lp_X6_mixedWithTanks_58 (lp_X6_mixedWithTanks_18 n) (n' + 1) a (nI nt) (nI i) (nI k) h = _
      rw [lp_X6_mixedWithTanks_58, if_neg (show ¬ (14 : Int32) < nI k from nI_nlt (a := 14) (by omega) (by decide)), e2, nI_1]
      rfl) 5 10 FU (foF (mv (vt i)) 3 0 a) h1 (by decide) rfl (by decide) C1
    obtain ⟨h4, C4, p4, e4⟩ := cwt (G.2.1 i hi) C3 (foF (mv (vt i)) 5 10 (foF (mv (vt i)) 3 0 a)) (fun x4 h3 =>
      gb (f_X6_reasonAgainstPress (nI i) 1 h3) fun x6 h5 =>
      gb (f_X6_mixed x4 (x6.toInt64) h5) fun x8 h7 =>
      (gbx (f_X6_oilIn (nI i) 30 h7) (fun x10 h9 =>
        gb (f_X6_mixed x8 (x10.toInt64) h9) fun x12 h11 =>
        (lp_X6_mixedWithTanks_128 (lp_X6_mixedWithTanks_18 n) FU x12 (nI nt) (nI i) 0 h11)) (fun _ _ => none)))
    obtain ⟨h5, C5, p5, e5⟩ := cwt (G.2.2.1 i hi) C4 (31 * foF (mv (vt i)) 5 10 (foF (mv (vt i)) 3 0 a) + (r0 i).toInt64) (fun x8 h7 =>
      (gbx (f_X6_oilIn (nI i) 30 h7) (fun x10 h9 =>
        gb (f_X6_mixed x8 (x10.toInt64) h9) fun x12 h11 =>
        (lp_X6_mixedWithTanks_128 (lp_X6_mixedWithTanks_18 n) FU x12 (nI nt) (nI i) 0 h11)) (fun _ _ => none)))
    obtain ⟨h6', C6, p6, e6⟩ := cst (G.2.2.2.1 i hi) C5 (31 * (31 * foF (mv (vt i)) 5 10 (foF (mv (vt i)) 3 0 a) + (r0 i).toInt64) + (r1 i).toInt64) (fun x12 h11 => (lp_X6_mixedWithTanks_128 (lp_X6_mixedWithTanks_18 n) FU x12 (nI nt) (nI i) 0 h11)) (fun _ _ => none)
    obtain ⟨h7, C7, p7, e7⟩ := loopC (c := c) (s := s) (len := len) (T := T) (L := fun n' a k h => lp_X6_mixedWithTanks_128 (lp_X6_mixedWithTanks_18 n) n' a (nI nt) (nI i) k h) (mv (vk i)) 5 (fun a h => lp_X6_mixedWithTanks_18 n a (nI nt) (nI (i + 1)) h) (fun n' a h C => by
      show lp_X6_mixedWithTanks_128 (lp_X6_mixedWithTanks_18 n) (n' + 1) a (nI nt) (nI i) (nI 5) h = _
      rw [lp_X6_mixedWithTanks_128, if_pos (by decide), nI_1]) (fun n' a k h hk C => by
      obtain ⟨h2, C2, p2, e2⟩ := cst (G.2.2.2.2 i k hi hk) C a (fun x4 h3 => lp_X6_mixedWithTanks_128 (lp_X6_mixedWithTanks_18 n) n' x4 (nI nt) (nI i) (nI k + 1) h3) (fun _ _ => none)
      refine ⟨h2, C2, p2, ?_⟩
      show lp_X6_mixedWithTanks_128 (lp_X6_mixedWithTanks_18 n) (n' + 1) a (nI nt) (nI i) (nI k) h = _
      rw [lp_X6_mixedWithTanks_128, if_neg (show ¬ (5 : Int32) ≤ nI k from nI_ge (b := 5) hk (by decide)), e2, nI_1]
      rfl) 5 0 FU _ h6' rfl (by decide) C6
    refine ⟨h7, C7, p1.trans (p3.trans (p4.trans (p5.trans (p6.trans p7)))), ?_⟩
    show lp_X6_mixedWithTanks_18 (n + 1) a (nI nt) (nI i) h = _
    rw [lp_X6_mixedWithTanks_18, if_neg (nI_ge hi (by omega))]
    exact e1.trans (e3.trans (e4.trans (e5.trans (e6.trans e7))))) nt 0 FU a h (by omega) (Nat.lt_of_le_of_lt h6 (by decide)) C
  refine ⟨h', C', p', ?_⟩
  unfold f_X6_mixedWithTanks
  rw [row7_2, gb_some, C.1, I.2.1.2.2]
  exact e'
