theorem rel_S {c z : Nat → Int32} {nl : Nat} (R : RelCZ c z nl) (k : Fin 14) (k10 : k ≠ 10) (k11 : k ≠ 11) (x : Int32) : RelCZ (uS c k x) (wS z ⟨k.val, by omega⟩ x) nl := by
  obtain ⟨r1, r2, r3, r4, r5, r6, r7, r8, r9⟩ := R
  have hk := k.isLt
  have e10 : ¬ (10 : Fin 15) = ⟨k.val, by omega⟩ := fun z => k10 (by have := congrArg Fin.val z; exact Fin.ext this.symm)
  have e14 : ¬ (14 : Fin 15) = ⟨k.val, by omega⟩ := fun z => by have := congrArg Fin.val z; simp at this; omega
  refine ⟨fun i hi => ?_, ?_, ?_, ?_, ?_, ?_, ?_, ?_, ?_⟩
  · rw [zS_wS, cS_uS]
    by_cases e : i = k
    · subst e; rw [if_pos rfl, if_pos rfl]
    · have e' : ¬ (⟨i.val, by omega⟩ : Fin 15) = ⟨k.val, by omega⟩ := fun z => e (Fin.ext (Fin.mk.inj z))
      rw [if_neg e', if_neg e]; exact r1 i hi
  · rw [zS_wS, cS_uS, cS_uS, if_neg e10, if_neg (Ne.symm k11), if_neg (Ne.symm k10)]; exact r2
  · rw [zS_wS, if_neg e14]; simp only [cGr_uS]; exact r3
  · intro k v; rw [zV_wS, cVa_uS]; exact r4 k v
  · intro k g; rw [zG_wS, cGr_uS]; exact r5 k g
  · intro t k; rw [zT_wS, cTa_uS]; exact r6 t k
  · intro l k; rw [zL_wS, cLo_uS]; exact r7 l k
  · intro l hl k; rw [zL_wS]; exact r8 l hl k
  · intro l hl; simp only [zL_wS, cLo_uS]; exact r9 l hl
theorem rel_V {c z : Nat → Int32} {nl : Nat} (R : RelCZ c z nl) (k v : Fin 5) (x : Int32) : RelCZ (uVa c v k x) (wV z k v x) nl := by
  obtain ⟨r1, r2, r3, r4, r5, r6, r7, r8, r9⟩ := R
  refine ⟨fun i hi => ?_, ?_, ?_, ?_, ?_, ?_, ?_, ?_, ?_⟩
  · rw [zS_wV, cS_uVa]; exact r1 i hi
  · rw [zS_wV, cS_uVa, cS_uVa]; exact r2
  · rw [zS_wV]; simp only [cGr_uVa]; exact r3
  · intro k' v'; rw [zV_wV, cVa_uVa, r4]
    by_cases e : k' = k ∧ v' = v
    · rw [if_pos e, if_pos ⟨e.2, e.1⟩]
    · rw [if_neg e, if_neg (fun z => e ⟨z.2, z.1⟩)]
  · intro k g; rw [zG_wV, cGr_uVa]; exact r5 k g
  · intro t k; rw [zT_wV, cTa_uVa]; exact r6 t k
  · intro l k; rw [zL_wV, cLo_uVa]; exact r7 l k
  · intro l hl k; rw [zL_wV]; exact r8 l hl k
  · intro l hl; simp only [zL_wV, cLo_uVa]; exact r9 l hl
theorem rel_T {c z : Nat → Int32} {nl : Nat} (R : RelCZ c z nl) (t : Fin 6) (k : Fin 7) (x : Int32) : RelCZ (uTa c t k x) (wT z t k x) nl := by
  obtain ⟨r1, r2, r3, r4, r5, r6, r7, r8, r9⟩ := R
  refine ⟨fun i hi => ?_, ?_, ?_, ?_, ?_, ?_, ?_, ?_, ?_⟩
  · rw [zS_wT, cS_uTa]; exact r1 i hi
  · rw [zS_wT, cS_uTa, cS_uTa]; exact r2
  · rw [zS_wT]; simp only [cGr_uTa]; exact r3
  · intro k v; rw [zV_wT, cVa_uTa]; exact r4 k v
  · intro k g; rw [zG_wT, cGr_uTa]; exact r5 k g
  · intro t' k'; rw [zT_wT, cTa_uTa, r6]
  · intro l k; rw [zL_wT, cLo_uTa]; exact r7 l k
  · intro l hl k; rw [zL_wT]; exact r8 l hl k
  · intro l hl; simp only [zL_wT, cLo_uTa]; exact r9 l hl
theorem rel_G {c z : Nat → Int32} {nl : Nat} (R : RelCZ c z nl) (g : Fin 8) (k : Fin 4) (hk : k ≠ 2) (x : Int32) : RelCZ (uGr c g k x) (wG z k g x) nl := by
  obtain ⟨r1, r2, r3, r4, r5, r6, r7, r8, r9⟩ := R
  refine ⟨fun i hi => ?_, ?_, ?_, ?_, ?_, ?_, ?_, ?_, ?_⟩
  · rw [zS_wG, cS_uGr]; exact r1 i hi
  · rw [zS_wG, cS_uGr, cS_uGr]; exact r2
  · rw [zS_wG]
    have : ∀ g', cGr (uGr c g k x) g' 2 = cGr c g' 2 := fun g' => by rw [cGr_uGr, if_neg (fun z => hk z.2.symm)]
    simp only [this]; exact r3
  · intro k v; rw [zV_wG, cVa_uGr]; exact r4 k v
  · intro k' g'; rw [zG_wG, cGr_uGr, r5]
    by_cases e : k' = k ∧ g' = g
    · rw [if_pos e, if_pos ⟨e.2, e.1⟩]
    · rw [if_neg e, if_neg (fun z => e ⟨z.2, z.1⟩)]
  · intro t k; rw [zT_wG, cTa_uGr]; exact r6 t k
  · intro l k; rw [zL_wG, cLo_uGr]; exact r7 l k
  · intro l hl k; rw [zL_wG]; exact r8 l hl k
  · intro l hl; simp only [zL_wG, cLo_uGr]; exact r9 l hl
theorem sum8_add (f f' : Fin 8 → Int32) (g : Fin 8) (x : Int32) (hg : f' g = f g + x) (ho : ∀ j, j ≠ g → f' j = f j) : sum8 f' = sum8 f + x := by
  have h8 : g = 0 ∨ g = 1 ∨ g = 2 ∨ g = 3 ∨ g = 4 ∨ g = 5 ∨ g = 6 ∨ g = 7 := by
    have := g.isLt
    have e : ∀ k : Fin 8, g.val = k.val → g = k := fun k h => Fin.ext h
    rcases (by omega : g.val = 0 ∨ g.val = 1 ∨ g.val = 2 ∨ g.val = 3 ∨ g.val = 4 ∨ g.val = 5 ∨ g.val = 6 ∨ g.val = 7) with h | h | h | h | h | h | h | h
    · exact Or.inl (e 0 h)
    · exact Or.inr (Or.inl (e 1 h))
    · exact Or.inr (Or.inr (Or.inl (e 2 h)))
    · exact Or.inr (Or.inr (Or.inr (Or.inl (e 3 h))))
    · exact Or.inr (Or.inr (Or.inr (Or.inr (Or.inl (e 4 h)))))
    · exact Or.inr (Or.inr (Or.inr (Or.inr (Or.inr (Or.inl (e 5 h))))))
    · exact Or.inr (Or.inr (Or.inr (Or.inr (Or.inr (Or.inr (Or.inl (e 6 h)))))))
    · exact Or.inr (Or.inr (Or.inr (Or.inr (Or.inr (Or.inr (Or.inr (e 7 h)))))))
  unfold sum8
  rcases h8 with rfl | rfl | rfl | rfl | rfl | rfl | rfl | rfl
  · rw [hg, ho 1 (by decide), ho 2 (by decide), ho 3 (by decide), ho 4 (by decide), ho 5 (by decide), ho 6 (by decide), ho 7 (by decide)]; ac_rfl
  · rw [hg, ho 0 (by decide), ho 2 (by decide), ho 3 (by decide), ho 4 (by decide), ho 5 (by decide), ho 6 (by decide), ho 7 (by decide)]; ac_rfl
  · rw [hg, ho 0 (by decide), ho 1 (by decide), ho 3 (by decide), ho 4 (by decide), ho 5 (by decide), ho 6 (by decide), ho 7 (by decide)]; ac_rfl
  · rw [hg, ho 0 (by decide), ho 1 (by decide), ho 2 (by decide), ho 4 (by decide), ho 5 (by decide), ho 6 (by decide), ho 7 (by decide)]; ac_rfl
  · rw [hg, ho 0 (by decide), ho 1 (by decide), ho 2 (by decide), ho 3 (by decide), ho 5 (by decide), ho 6 (by decide), ho 7 (by decide)]; ac_rfl
  · rw [hg, ho 0 (by decide), ho 1 (by decide), ho 2 (by decide), ho 3 (by decide), ho 4 (by decide), ho 6 (by decide), ho 7 (by decide)]; ac_rfl
  · rw [hg, ho 0 (by decide), ho 1 (by decide), ho 2 (by decide), ho 3 (by decide), ho 4 (by decide), ho 5 (by decide), ho 7 (by decide)]; ac_rfl
  · rw [hg, ho 0 (by decide), ho 1 (by decide), ho 2 (by decide), ho 3 (by decide), ho 4 (by decide), ho 5 (by decide), ho 6 (by decide)]; ac_rfl
/-- one appeal more: of the grower, and in all -/
theorem rel_G2 {c z : Nat → Int32} {nl : Nat} (R : RelCZ c z nl) (g : Fin 8) : RelCZ (uGr c g 2 (cGr c g 2 + 1)) (wG (wS z 14 (zS z 14 + 1)) 2 g (cGr c g 2 + 1)) nl := by
  obtain ⟨r1, r2, r3, r4, r5, r6, r7, r8, r9⟩ := R
  refine ⟨fun i hi => ?_, ?_, ?_, ?_, ?_, ?_, ?_, ?_, ?_⟩
  · rw [zS_wG, zS_wS, cS_uGr, if_neg (fun z => by have := congrArg Fin.val z; have := i.isLt; simp at *; omega)]; exact r1 i hi
  · rw [zS_wG, zS_wS, cS_uGr, cS_uGr, if_neg (by decide)]; exact r2
  · rw [zS_wG, zS_wS, if_pos rfl, r3]
    refine (sum8_add _ _ g 1 ?_ (fun j hj => ?_)).symm
    · simp only [cGr_uGr, and_self, if_true]
    · simp only [cGr_uGr]; rw [if_neg (fun z => hj z.1)]
  · intro k v; rw [zV_wG, zV_wS, cVa_uGr]; exact r4 k v
  · intro k' g'; rw [zG_wG, zG_wS, cGr_uGr, r5]
    by_cases e : k' = 2 ∧ g' = g
    · rw [if_pos e, if_pos ⟨e.2, e.1⟩]
    · rw [if_neg e, if_neg (fun z => e ⟨z.2, z.1⟩)]
  · intro t k; rw [zT_wG, zT_wS, cTa_uGr]; exact r6 t k
  · intro l k; rw [zL_wG, zL_wS, cLo_uGr]; exact r7 l k
  · intro l hl k; rw [zL_wG, zL_wS]; exact r8 l hl k
  · intro l hl; simp only [zL_wG, zL_wS, cLo_uGr]; exact r9 l hl
/-- the residue anew -/
theorem rel_R {c z : Nat → Int32} {nl : Nat} (R : RelCZ c z nl) (v r y : Int32) (hy : y = if r = 0 then -1 else v) : RelCZ (uS (uS c 10 v) 11 r) (wS (wS z 10 y) 11 r) nl := by
  obtain ⟨r1, r2, r3, r4, r5, r6, r7, r8, r9⟩ := R
  refine ⟨fun i hi => ?_, ?_, ?_, ?_, ?_, ?_, ?_, ?_, ?_⟩
  · simp only [zS_wS, cS_uS]
    by_cases e : i = 11
    · subst e; rfl
    · have e' : ¬ (⟨i.val, by omega⟩ : Fin 15) = 11 := fun z => e (by have q := congrArg Fin.val z; exact Fin.ext q)
      have e'' : ¬ (⟨i.val, by omega⟩ : Fin 15) = 10 := fun z => hi (by have q := congrArg Fin.val z; exact Fin.ext q)
      rw [if_neg e', if_neg e, if_neg e'', if_neg hi]; exact r1 i hi
  · simp [zS_wS, cS_uS]; exact hy
  · simp only [zS_wS, cGr_uS]; rw [if_neg (by decide), if_neg (by decide)]; exact r3
  · intro k v; simp only [zV_wS, cVa_uS]; exact r4 k v
  · intro k g; simp only [zG_wS, cGr_uS]; exact r5 k g
  · intro t k; simp only [zT_wS, cTa_uS]; exact r6 t k
  · intro l k; simp only [zL_wS, cLo_uS]; exact r7 l k
  · intro l hl k; simp only [zL_wS]; exact r8 l hl k
  · intro l hl; simp only [zL_wS, cLo_uS]; exact r9 l hl
-- what keeps the invariant
theorem inv_V {c : Nat → Int32} {ng nl nt : Nat} (I : InvC c ng nl nt) (v k : Fin 5) (x : Int32) (hx : k = 0 → isN x 400) : InvC (uVa c v k x) ng nl nt := by
  simp only [InvC, LotI, TankI, cS_uVa, cGr_uVa, cLo_uVa, cTa_uVa] at I ⊢
  obtain ⟨a, b, c1, d, e, f⟩ := I
  refine ⟨a, b, c1, d, fun v' => ?_, f⟩
  rw [cVa_uVa]
  by_cases e' : v' = v ∧ (0 : Fin 5) = k
  · rw [if_pos e']; exact hx e'.2.symm
  · rw [if_neg e']; exact e v'
theorem inv_G {c : Nat → Int32} {ng nl nt : Nat} (I : InvC c ng nl nt) (g : Fin 8) (k : Fin 4) (hg : g.val < ng) (x : Int32) : InvC (uGr c g k x) ng nl nt := by
  simp only [InvC, LotI, TankI, cS_uGr, cVa_uGr, cLo_uGr, cTa_uGr] at I ⊢
  obtain ⟨a, b, c1, d, e, f, r⟩ := I
  refine ⟨a, b, c1, d, e, fun g' hg' k' => ?_, r⟩
  rw [cGr_uGr, if_neg (fun z => by have := congrArg Fin.val z.1; omega)]; exact f g' hg' k'
theorem inv_T {c : Nat → Int32} {ng nl nt : Nat} (I : InvC c ng nl nt) (t : Fin 6) (k : Fin 7) (ht : t.val < nt) (x : Int32) (hT : TankI (uTa c t k x) t) : InvC (uTa c t k x) ng nl nt := by
  simp only [InvC, LotI, cS_uTa, cVa_uTa, cLo_uTa, cGr_uTa] at I ⊢
  obtain ⟨a, b, c1, d, e, f, r1, r2, r3, r4⟩ := I
  refine ⟨a, b, c1, d, e, f, r1, r2, fun t' ht' k' => ?_, fun t' => ?_⟩
  · rw [cTa_uTa, if_neg (fun z => by have := congrArg Fin.val z.1; omega)]; exact r3 t' ht' k'
  · by_cases e' : t' = t
    · subst e'; exact hT
    · have h4 := r4 t'
      simp only [TankI, cTa_uTa] at h4 ⊢
      have e2 : ∀ q : Fin 7, ¬ (t' = t ∧ q = k) := fun q z => e' z.1
      simp only [e2, if_false]; exact h4
theorem inv_S {c : Nat → Int32} {ng nl nt : Nat} (I : InvC c ng nl nt) (k : Fin 14) (hk : k = 12 ∨ k = 13) (x : Int32) : InvC (uS c k x) ng nl nt := by
  simp only [InvC, LotI, TankI, cVa_uS, cLo_uS, cGr_uS, cTa_uS] at I ⊢
  obtain ⟨a, b, c1, d, r⟩ := I
  rcases hk with rfl | rfl <;> simp only [cS_uS] <;> exact ⟨a, b, c1, d, r⟩
theorem inv_R {c : Nat → Int32} {ng nl nt : Nat} (I : InvC c ng nl nt) (v : Fin 5) (r : Int32) (hr : isN r 50) : InvC (uS (uS c 10 (nI v.val)) 11 r) ng nl nt := by
  simp only [InvC, LotI, TankI, cVa_uS, cLo_uS, cGr_uS, cTa_uS] at I ⊢
  obtain ⟨a, b, c1, d, r'⟩ := I
  simp only [cS_uS]
  exact ⟨a, b, c1, ⟨⟨v, rfl⟩, hr⟩, r'⟩
