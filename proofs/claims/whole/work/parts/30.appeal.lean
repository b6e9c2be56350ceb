theorem hst_hso (h : Hst) (o j : Nat) (f : Nat → Int32) (x : Int32) : hst (hso h o f) o j x = hso h o (upd f j x) := by
  unfold hst
  rw [hso_hso, hso_at, if_pos rfl]
theorem gl_z {β : Type} {b i : Nat} (hb : b + i < 514) (H : Hst) (x : Int32) (F : Hst → Option β) : (gl (nI b + nI i) fun y => gck y 514 (gck y 514 (gl (hst H 18 y.toNatClampNeg (H.1 18 y.toNatClampNeg + x)) F))) = F (hst H 18 (b + i) (H.1 18 (b + i) + x)) := by
  rw [gl_eq, nI_add, gck_nI hb (by decide), gck_nI hb (by decide), nI_clamp (by omega), gl_eq]
-- settling an appeal, of the class
def setC (c : Nat → Int32) (g : Fin 8) (x : Int32) : Nat → Int32 :=
  if cS c 4 ≤ x then uGr (uGr c g 2 (cGr c g 2 + 1)) g 0 (cGr c g 0 + x)
  else uGr (uGr (uGr (uGr c g 2 (cGr c g 2 + 1)) g 0 (cGr c g 0 + x)) g 3 (cGr c g 3 + 1)) g 0 (if 0 < cGr c g 0 + x - cS c 4 then cGr c g 0 + x - cS c 4 else 0)
theorem settleAppeal_v (g : Fin 8) (x : Int32) (h : Hst) : f_X6_settleAppeal (nI g.val) x h = some (hso h 8 (setC (h.1 8) g x)) := by
  have k1 : ∀ y, cGr (uGr (h.1 8) g 2 y) g 0 = cGr (h.1 8) g 0 := fun y => by rw [cGr_uGr, if_neg (fun z => absurd z.2 (by decide))]
  have k2 : ∀ y w, cGr (uGr (uGr (h.1 8) g 2 y) g 0 w) g 3 = cGr (h.1 8) g 3 := fun y w => by rw [cGr_uGr, if_neg (fun z => absurd z.2 (by decide)), cGr_uGr, if_neg (fun z => absurd z.2 (by decide))]
  have k3 : ∀ y w u, cGr (uGr (uGr (uGr (h.1 8) g 2 y) g 0 w) g 3 u) g 0 = w := fun y w u => by rw [cGr_uGr, if_neg (fun z => absurd z.2 (by decide)), cGr_uGr, if_pos ⟨rfl, rfl⟩]
  unfold f_X6_settleAppeal jb_X6_settleAppeal_86 setC
  rw [row6_4, gb_some, add2_2, gbv_some, add2_0, gbv_some, hso_hso, hso_at, if_pos rfl, k1]
  by_cases q : cS (h.1 8) 4 ≤ x
  · rw [if_pos q, if_pos q]
  · rw [if_neg q, if_neg q, add2_3, gbv_some, hso_hso, hso_at, if_pos rfl, k2, get2_0, gb_some, put2_0, gbv_some, hso_hso, hso_at, if_pos rfl, k3]
theorem i_max0 (a : Int32) : (if 0 < a then a else 0) = if 0 ≤ a then a else 0 := by
  by_cases h : 0 < a
  · rw [if_pos h, if_pos (Int32.le_of_lt h)]
  · by_cases h2 : 0 ≤ a
    · rw [if_neg h, if_pos h2]; exact Int32.le_antisymm h2 (Int32.not_lt.mp h)
    · rw [if_neg h, if_neg h2]
theorem zL_ne {f : Nat → Int32} (k : Fin 10) {i j : Fin 40} (h : ¬ i = j) {q : Fin 10} {x : Int32} : zL (wL f j q x) i k = zL f i k := by
  rw [zL_wL, if_neg (fun z => h z.1)]
theorem cLo_ne {f : Nat → Int32} (k : Fin 11) {i j : Fin 40} (h : ¬ i = j) {q : Fin 11} {x : Int32} : cLo (uLo f j q x) i k = cLo f i k := by
  rw [cLo_uLo, if_neg (fun z => h z.1)]
/-- a lot that is pressed again -/
theorem rel_app {c z : Nat → Int32} {nl : Nat} (R : RelCZ c z nl) (l : Fin 40) (hl : l.val < nl) (h1 : cLo c l 5 = 1) (x : Int32) : RelCZ (uLo (uLo c l 5 2) l 9 x) (wL (wL z l 5 2) l 8 x) nl := by
  obtain ⟨r1, r2, r3, r4, r5, r6, r7, r8, r9⟩ := R
  refine ⟨fun i hi => ?_, ?_, ?_, ?_, ?_, ?_, ?_, ?_, ?_⟩
  · simp only [zS_wL, cS_uLo]; exact r1 i hi
  · simp only [zS_wL, cS_uLo]; exact r2
  · simp only [zS_wL, cGr_uLo]; exact r3
  · intro k v; simp only [zV_wL, cVa_uLo]; exact r4 k v
  · intro k g; simp only [zG_wL, cGr_uLo]; exact r5 k g
  · intro t k; simp only [zT_wL, cTa_uLo]; exact r6 t k
  · intro l' k
    by_cases q : l' = l
    · subst q
      rcases fin6 k with rfl | rfl | rfl | rfl | rfl | rfl
      · show zL (wL (wL z l' 5 2) l' 8 x) l' 0 = cLo (uLo (uLo c l' 5 2) l' 9 x) l' 0
        simp only [zL_wL, cLo_uLo]
        exact r7 l' 0
      · show zL (wL (wL z l' 5 2) l' 8 x) l' 1 = cLo (uLo (uLo c l' 5 2) l' 9 x) l' 1
        simp only [zL_wL, cLo_uLo]
        exact r7 l' 1
      · show zL (wL (wL z l' 5 2) l' 8 x) l' 2 = cLo (uLo (uLo c l' 5 2) l' 9 x) l' 2
        simp only [zL_wL, cLo_uLo]
        exact r7 l' 2
      · show zL (wL (wL z l' 5 2) l' 8 x) l' 3 = cLo (uLo (uLo c l' 5 2) l' 9 x) l' 3
        simp only [zL_wL, cLo_uLo]
        exact r7 l' 3
      · show zL (wL (wL z l' 5 2) l' 8 x) l' 4 = cLo (uLo (uLo c l' 5 2) l' 9 x) l' 4
        simp only [zL_wL, cLo_uLo]
        exact r7 l' 4
      · show zL (wL (wL z l' 5 2) l' 8 x) l' 5 = cLo (uLo (uLo c l' 5 2) l' 9 x) l' 5
        simp only [zL_wL, cLo_uLo]
        rfl
    · rw [zL_ne _ q, zL_ne _ q, cLo_ne _ q, cLo_ne _ q]; exact r7 l' k
  · intro l' hl' k
    have ne : ¬ l' = l := fun z => by rw [z] at hl'; omega
    rw [zL_wL, if_neg (fun z => ne z.1), zL_wL, if_neg (fun z => ne z.1)]; exact r8 l' hl' k
  · intro l' hl'
    by_cases q : l' = l
    · subst q
      obtain ⟨a, b, -, d⟩ := r9 l' hl
      rw [h1, if_neg (by decide)] at a b d
      simp only [zL_wL, cLo_uLo]
      exact ⟨a, b, rfl, d⟩
    · have e1 : ∀ k, zL (wL (wL z l 5 2) l 8 x) l' k = zL z l' k := fun k => by rw [zL_ne k q, zL_ne k q]
      have e2 : ∀ k, cLo (uLo (uLo c l 5 2) l 9 x) l' k = cLo c l' k := fun k => by rw [cLo_ne k q, cLo_ne k q]
      simp only [e1, e2]
      exact r9 l' hl'
theorem inv_app {c : Nat → Int32} {ng nl nt : Nat} (I : InvC c ng nl nt) (l : Fin 40) (hl : l.val < nl) (h1 : cLo c l 5 = 1) (x : Int32) : InvC (uLo (uLo c l 5 2) l 9 x) ng nl nt := by
  simp only [InvC, TankI, cS_uLo, cVa_uLo, cGr_uLo, cTa_uLo] at I ⊢
  obtain ⟨a, b, c1, d, e, f, r1, r2, r3⟩ := I
  refine ⟨a, b, c1, d, e, f, fun l' hl' k => ?_, fun l' hl' => ?_, r3⟩
  · have ne : ¬ l' = l := fun z => by rw [z] at hl'; omega
    rw [cLo_uLo, if_neg (fun z => ne z.1), cLo_uLo, if_neg (fun z => ne z.1)]; exact r1 l' hl' k
  · by_cases q : l' = l
    · subst q
      obtain ⟨q0, q1, q2, q3, q4, q5, q6⟩ := r2 l' hl'
      have n0 : cLo c l' 5 ≠ 0 := by rw [h1]; decide
      obtain ⟨w1, w2⟩ := q6 n0
      simp only [LotI, cLo_uLo]
      exact ⟨q0, q1, q2, q3, q4, ⟨2, by decide, rfl⟩, fun _ => ⟨w1, w2⟩⟩
    · have := r2 l' hl'
      have e2 : ∀ k, cLo (uLo (uLo c l 5 2) l 9 x) l' k = cLo c l' k := fun k => by rw [cLo_ne k q, cLo_ne k q]
      simp only [LotI, e2] at this ⊢
      exact this
