theorem rem6 {a : Nat} (h : a < 2 ^ 31) : nI a - nI a / 6 * 6 = nI (a % 6) := pk_rem (d := 6) h (by decide) (by decide)
theorem nI_inj {a b : Nat} (ha : a < 2 ^ 31) (hb : b < 2 ^ 31) (h : nI a = nI b) : a = b := (nI_eq ha hb).mp h
-- what a state is, of the class and of its model
def isN (x : Int32) (b : Nat) : Prop := ∃ n : Nat, n ≤ b ∧ x = nI n
def LotI (c : Nat → Int32) (ng nt : Nat) (l : Fin 40) : Prop :=
  (∃ g : Fin 8, g.val < ng ∧ cLo c l 0 = nI g.val) ∧ (∃ v : Fin 5, cLo c l 1 = nI v.val) ∧ isN (cLo c l 2) 2000 ∧ isN (cLo c l 3) 50 ∧ isN (cLo c l 4) 1500 ∧ isN (cLo c l 5) 2 ∧
  (cLo c l 5 ≠ 0 → cLo c l 7 = cLo c l 6 * cLo c l 4 / 1000 ∧ ∃ t : Fin 6, t.val < nt ∧ cLo c l 10 = nI t.val)
def TankI (c : Nat → Int32) (t : Fin 6) : Prop := ∃ s o0 o1 o2 o3 o4 : Nat, s ≤ 20000 ∧ o0 + o1 + o2 + o3 + o4 ≤ s ∧ cTa c t 0 = nI s ∧ cTa c t 2 = nI o0 ∧ cTa c t 3 = nI o1 ∧ cTa c t 4 = nI o2 ∧ cTa c t 5 = nI o3 ∧ cTa c t 6 = nI o4
def InvC (c : Nat → Int32) (ng nl nt : Nat) : Prop :=
  (ng ≤ 8 ∧ nl ≤ 40 ∧ nt ≤ 6) ∧ (cS c 7 = nI ng ∧ cS c 8 = nI nl ∧ cS c 9 = nI nt) ∧
  (isN (cS c 0) 50 ∧ isN (cS c 1) 1000 ∧ isN (cS c 2) 1000 ∧ isN (cS c 3) 50 ∧ isN (cS c 4) 500 ∧ isN (cS c 5) 2 ∧ isN (cS c 6) 500) ∧
  ((∃ v : Fin 5, cS c 10 = nI v.val) ∧ isN (cS c 11) 50) ∧ (∀ v, isN (cVa c v 0) 400) ∧
  (∀ g : Fin 8, ng ≤ g.val → ∀ k, cGr c g k = 0) ∧ (∀ l : Fin 40, nl ≤ l.val → ∀ k, cLo c l k = 0) ∧ (∀ l : Fin 40, l.val < nl → LotI c ng nt l) ∧
  (∀ t : Fin 6, nt ≤ t.val → ∀ k, cTa c t k = 0) ∧ (∀ t : Fin 6, TankI c t)
def sum8 (f : Fin 8 → Int32) : Int32 := 0 + f 0 + f 1 + f 2 + f 3 + f 4 + f 5 + f 6 + f 7
def RelCZ (c z : Nat → Int32) (nl : Nat) : Prop :=
  (∀ i : Fin 14, i ≠ 10 → zS z ⟨i.val, by omega⟩ = cS c i) ∧ zS z 10 = (if cS c 11 = 0 then -1 else cS c 10) ∧ zS z 14 = sum8 (fun g => cGr c g 2) ∧
  (∀ k v, zV z k v = cVa c v k) ∧ (∀ k g, zG z k g = cGr c g k) ∧ (∀ t k, zT z t k = cTa c t k) ∧
  (∀ (l : Fin 40) (k : Fin 6), zL z l ⟨k.val, by omega⟩ = cLo c l ⟨k.val, by omega⟩) ∧ (∀ l : Fin 40, nl ≤ l.val → ∀ k, zL z l k = 0) ∧
  (∀ l : Fin 40, l.val < nl → zL z l 6 = (if cLo c l 5 = 0 then -1 else cLo c l 6) ∧ zL z l 7 = (if cLo c l 5 = 0 then -1 else cLo c l 8) ∧ zL z l 8 = (if cLo c l 5 = 2 then cLo c l 9 else -1) ∧ zL z l 9 = (if cLo c l 5 = 0 then -1 else cLo c l 10))
def SimCZ (c z : Nat → Int32) : Prop := ∃ ng nl nt : Nat, InvC c ng nl nt ∧ RelCZ c z nl
theorem SimCZ.congr {c z c' z' : Nat → Int32} (hc : ∀ i, i < 553 → c' i = c i) (hz : ∀ i, i < 514 → z' i = z i) (h : SimCZ c z) : SimCZ c' z' := by
  have e1 : ∀ i k, cGr c' i k = cGr c i k := fun i k => hc _ (by have := i.isLt; have := k.isLt; omega)
  have e2 : ∀ i k, cLo c' i k = cLo c i k := fun i k => hc _ (by have := i.isLt; have := k.isLt; omega)
  have e3 : ∀ i k, cTa c' i k = cTa c i k := fun i k => hc _ (by have := i.isLt; have := k.isLt; omega)
  have e4 : ∀ i k, cVa c' i k = cVa c i k := fun i k => hc _ (by have := i.isLt; have := k.isLt; omega)
  have e5 : ∀ i, cS c' i = cS c i := fun i => hc _ (by have := i.isLt; omega)
  have f1 : ∀ i, zS z' i = zS z i := fun i => hz _ (by have := i.isLt; omega)
  have f2 : ∀ i k, zV z' i k = zV z i k := fun i k => hz _ (by have := i.isLt; have := k.isLt; omega)
  have f3 : ∀ i k, zG z' i k = zG z i k := fun i k => hz _ (by have := i.isLt; have := k.isLt; omega)
  have f4 : ∀ i k, zL z' i k = zL z i k := fun i k => hz _ (by have := i.isLt; have := k.isLt; omega)
  have f5 : ∀ i k, zT z' i k = zT z i k := fun i k => hz _ (by have := i.isLt; have := k.isLt; omega)
  obtain ⟨ng, nl, nt, hI, hR⟩ := h
  refine ⟨ng, nl, nt, ?_, ?_⟩
  · simpa only [InvC, LotI, TankI, e1, e2, e3, e4, e5] using hI
  · simpa only [RelCZ, e1, e2, e3, e4, e5, f1, f2, f3, f4, f5] using hR
/-- the saved states: of the class a ring of six places, of the model a row -/
def SV (m : Nat → Nat → Int32) (o ns : Nat) : Prop :=
  o < 6 ∧ ns ≤ 6 ∧ m 1 8 = nI o ∧ m 1 9 = nI ns ∧ m 17 1 = nI ns ∧ ∀ k, k < ns → SimCZ (fun i => m 9 ((o + k) % 6 * 553 + i)) (fun i => m 19 (514 * k + i))
def BF (m : Nat → Nat → Int32) (len : Nat) : Prop :=
  len ≤ 60 ∧ m 0 5 = nI len ∧ m 17 3 = nI len ∧ ∀ i, i < len → m 16 i = m 20 i ∧ ∃ q : Nat, 33 ≤ q ∧ q ≤ 126 ∧ m 16 i = nI q
def Sim (h : Hst) : Prop := (∃ o ns, SV h.1 o ns) ∧ SimCZ (h.1 8) (h.1 18) ∧ ∃ len, BF h.1 len
-- saving
theorem placeOfSaved {h : Hst} {o : Nat} (ho : h.1 1 8 = nI o) {k : Nat} (hk : o + k < 2 ^ 31) : f_X0_placeOfSaved (nI k) h = some (nI ((o + k) % 6 * 553), h) := by
  unfold f_X0_placeOfSaved
  rw [gd_6, ho, nI_add, rem6 hk, show (553 : Int32) = nI 553 from rfl, pk_mul]
/-- behind a save of the class: the place p (of six) holds the cells -/
def SavC (h h' : Hst) (o' ns' p : Nat) : Prop :=
  h'.2 = h.2 ∧ (∀ k, k ≠ 1 → k ≠ 9 → h'.1 k = h.1 k) ∧ h'.1 1 8 = nI o' ∧ h'.1 1 9 = nI ns' ∧ (∀ i, i < 553 → h'.1 9 (p * 553 + i) = h.1 8 i) ∧ ∀ q i, q < 6 → q ≠ p → i < 553 → h'.1 9 (q * 553 + i) = h.1 9 (q * 553 + i)
theorem save_32 {h : Hst} {o ns : Nat} (ho : o < 6) (hn : ns ≤ 5) (h8 : h.1 1 8 = nI o) (h9 : h.1 1 9 = nI ns) : ∃ h', jb_X0_save_32 h = some h' ∧ SavC h h' o (ns + 1) ((o + ns) % 6) := by
  have hp : (o + ns) % 6 < 6 := Nat.mod_lt _ (by decide)
  refine ⟨hst (hso h 9 (va_cpy (h.1 8) (h.1 9) 0 ((o + ns) % 6 * 553) 553)) 1 9 (h.1 1 9 + 1), ?_, ?_⟩
  · unfold jb_X0_save_32 jb_X0_save_74
    rw [h9, placeOfSaved h8 (by omega), gb_some, if_neg (nI_pos (by omega)), show (3318 : Int32) - 553 = nI 2765 from rfl, if_neg (nI_nlt (by omega) (by decide))]
    unfold gcp
    rw [if_neg (by decide), if_neg (nI_pos (by omega)), if_neg (by decide), tn_0, tn_553, if_neg (by omega), nI_clamp (by omega), if_neg (by omega), gl_eq, gl_eq]
    show some (hst _ 1 9 (h.1 1 9 + 1)) = _
    rw [h9]
  · refine ⟨rfl, fun k k1 k2 => ?_, ?_, ?_, fun i hi => ?_, fun q i hq hqp hi => ?_⟩
    · simp only [hst_at, hso_at, k1, k2, if_false]
    · simp [hst_at, hso_at, upd_at, h8]
    · simp [hst_at, hso_at, upd_at, h9, nI_succ]
    · simp only [hst_at, hso_at, if_neg (show (9 : Nat) ≠ 1 by decide), if_true]
      rw [pk_cpy_in (by omega) (by omega), show 0 + ((o + ns) % 6 * 553 + i - (o + ns) % 6 * 553) = i by omega]
    · simp only [hst_at, hso_at, if_neg (show (9 : Nat) ≠ 1 by decide), if_true]
      exact pk_cpy_out (by omega)
theorem save_C {h : Hst} {o ns : Nat} (S : SV h.1 o ns) : ∃ h', f_X0_save h = some h' ∧ SavC h h' (if ns = 6 then (o + 1) % 6 else o) (if ns = 6 then 6 else ns + 1) ((o + ns) % 6) := by
  obtain ⟨ho, hn, h8, h9, -, -⟩ := S
  unfold f_X0_save
  by_cases h6 : ns = 6
  · subst h6
    rw [if_pos (by rw [h9]; rfl), gd_6, gl_eq, gl_eq, if_pos rfl, if_pos rfl]
    obtain ⟨h', e, s1, s2, s3, s4, s5, s6⟩ := save_32 (h := hst (hst h 1 8 (h.1 1 8 + 1 - (h.1 1 8 + 1) / 6 * 6)) 1 9 ((hst h 1 8 (h.1 1 8 + 1 - (h.1 1 8 + 1) / 6 * 6)).1 1 9 - 1)) (o := (o + 1) % 6) (ns := 5) (Nat.mod_lt _ (by decide)) (by decide)
      (by simp [hst_at, upd_at, h8]; rw [show nI o + 1 = nI (o + 1) from nI_1 o, rem6 (by omega)]) (by simp [hst_at, upd_at, h9]; rfl)
    refine ⟨h', e, s1, fun k k1 k2 => ?_, s3, s4, fun i hi => ?_, fun q i hq hqp hi => ?_⟩
    · rw [s2 k k1 k2]; simp only [hst_at, k1, if_false]
    · have := s5 i hi
      rw [show ((o + 1) % 6 + 5) % 6 = (o + 6) % 6 by omega] at this
      rw [this]; rfl
    · have := s6 q i hq (by omega) hi
      rw [this]; rfl
  · rw [if_neg (by rw [h9]; exact fun z => h6 (nI_inj (by omega) (by decide) z)), if_neg h6, if_neg h6]
    exact save_32 ho (by omega) h8 h9
