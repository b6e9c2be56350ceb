-- what there is
def ScrC (h h' : Hst) : Prop := h'.2 = h.2 ∧ ∀ k, k < 11 ∨ 15 < k → h'.1 k = h.1 k
theorem ScrC.rf {h : Hst} : ScrC h h := ⟨rfl, fun _ _ => rfl⟩
theorem ScrC.trans {a b c : Hst} (p : ScrC a b) (q : ScrC b c) : ScrC a c := ⟨q.1.trans p.1, fun k hk => (q.2 k hk).trans (p.2 k hk)⟩
theorem ScrC.e8 {h h' : Hst} (s : ScrC h h') : h'.1 8 = h.1 8 := s.2 8 (by decide)
def cntF (f : Nat → Bool) : Nat → Nat → Int32 → Int32
  | 0, _, acc => acc
  | m + 1, i, acc => cntF f m (i + 1) (if f i then acc + 1 else acc)
theorem lotsWith_19 {c : Nat → Int32} {nl : Nat} (hl : nl ≤ 40) (col : Fin 11) (val b : Int32) (f : Nat → Bool) (hf : ∀ l : Fin 40, l.val < nl → (f l.val = true ↔ (b = 0 ∨ cLo c l 5 = 0) ∧ cLo c l col = val)) : ∀ (m i n : Nat) (acc : Int32) (h : Hst), h.1 8 = c → i + m = nl → m < n → lp_X6_lotsWith_19 n (nI col.val) val b acc (nI nl) (nI i) h = some (cntF f m i acc, h)
  | 0, i, n + 1, acc, h, e, hi, _ => by
    rw [lp_X6_lotsWith_19, if_pos (nI_le (by omega) (by omega))]; rfl
  | m + 1, i, n + 1, acc, h, e, hi, hn => by
    have IH := fun a => lotsWith_19 hl col val b f hf m (i + 1) n a h e (by omega) (by omega)
    have q := hf ⟨i, by omega⟩ (by show i < nl; omega)
    have g5 : f_X5_get_3 (nI i) 5 h = some (cLo c ⟨i, by omega⟩ 5, h) := by rw [← e]; exact get3 ⟨i, by omega⟩ 5 h
    have gc : f_X5_get_3 (nI i) (nI col.val) h = some (cLo c ⟨i, by omega⟩ col, h) := by rw [← e]; exact get3 ⟨i, by omega⟩ col h
    have st : ∀ x : Int32, x ≠ 0 → jb_X6_lotsWith_51 (lp_X6_lotsWith_19 n) (nI col.val) val b acc (nI nl) (nI i) x h = some (cntF f m (i + 1) (if cLo c ⟨i, by omega⟩ col = val then acc + 1 else acc), h) := fun x hx => by
      unfold jb_X6_lotsWith_51 jb_X6_lotsWith_78
      rw [if_neg hx, gc, gb_some, nI_1, IH, IH]
      split <;> rfl
    rw [lp_X6_lotsWith_19, if_neg (nI_ge (show i < nl by omega) (by omega)), cntF]
    unfold jb_X6_lotsWith_46
    by_cases hb : b = 0
    · rw [if_pos hb, st 1 (by decide)]
      congr 3
      by_cases hv : cLo c ⟨i, by omega⟩ col = val
      · rw [if_pos hv, if_pos (q.mpr ⟨Or.inl hb, hv⟩)]
      · rw [if_neg hv, if_neg (fun z => hv (q.mp z).2)]
    · rw [if_neg hb, g5, gb_some]
      by_cases h5 : cLo c ⟨i, by omega⟩ 5 = 0
      · rw [if_pos h5, st 1 (by decide)]
        congr 3
        by_cases hv : cLo c ⟨i, by omega⟩ col = val
        · rw [if_pos hv, if_pos (q.mpr ⟨Or.inr h5, hv⟩)]
        · rw [if_neg hv, if_neg (fun z => hv (q.mp z).2)]
      · rw [if_neg h5, if_neg (fun z => (q.mp z).1.elim hb h5)]
        unfold jb_X6_lotsWith_51 jb_X6_lotsWith_78
        rw [if_pos rfl, nI_1, IH]
def fLots (c : Nat → Int32) (col : Fin 11) (val b : Int32) (i : Nat) : Bool := if hi : i < 40 then decide ((b = 0 ∨ cLo c ⟨i, hi⟩ 5 = 0) ∧ cLo c ⟨i, hi⟩ col = val) else false
theorem fLots_iff (c : Nat → Int32) (col : Fin 11) (val b : Int32) (l : Fin 40) : fLots c col val b l.val = true ↔ (b = 0 ∨ cLo c l 5 = 0) ∧ cLo c l col = val := by
  unfold fLots
  rw [dif_pos l.isLt]
  exact decide_eq_true_iff
theorem lotsWith_v {c : Nat → Int32} {ng nl nt : Nat} (I : InvC c ng nl nt) (col : Fin 11) (val b : Int32) (h : Hst) (e : h.1 8 = c) : f_X6_lotsWith (nI col.val) val b h = some (cntF (fLots c col val b) nl 0 0, h) := by
  obtain ⟨⟨-, hl, -⟩, ⟨-, i8, -⟩, -⟩ := I
  unfold f_X6_lotsWith
  rw [row7_1, gb_some, e, i8]
  exact lotsWith_19 hl col val b _ (fun l _ => fLots_iff c col val b l) nl 0 FU 0 h e (by omega) (Nat.lt_of_le_of_lt hl (by decide))
def sumF (f : Nat → Int32) : Nat → Nat → Int32 → Int32
  | 0, _, acc => acc
  | m + 1, i, acc => sumF f m (i + 1) (acc + f i)
theorem sumF_zero (f : Nat → Int32) : ∀ (m i : Nat) (acc : Int32), (∀ j, i ≤ j → j < i + m → f j = 0) → sumF f m i acc = acc
  | 0, _, _, _ => rfl
  | m + 1, i, acc, h => by
    rw [sumF, sumF_zero f m (i + 1) _ (fun j a b => h j (by omega) (by omega)), h i (by omega) (by omega), Int32.add_zero]
theorem sumF_cut (f : Nat → Int32) : ∀ (a b i : Nat) (acc : Int32), (∀ j, i + a ≤ j → j < i + a + b → f j = 0) → sumF f (a + b) i acc = sumF f a i acc
  | 0, b, i, acc, h => by
    rw [Nat.zero_add, sumF]; exact sumF_zero f b i acc (fun j x y => h j (by omega) (by omega))
  | a + 1, b, i, acc, h => by
    rw [show a + 1 + b = (a + b) + 1 by omega, sumF, sumF, sumF_cut f a b (i + 1) _ (fun j x y => h j (by omega) (by omega))]
theorem sumF_cut' (f : Nat → Int32) {a N : Nat} (h : a ≤ N) (hf : ∀ j, a ≤ j → j < N → f j = 0) : sumF f N 0 0 = sumF f a 0 0 := by
  obtain ⟨b, rfl⟩ : ∃ b, N = a + b := ⟨N - a, by omega⟩
  exact sumF_cut f a b 0 0 (fun j x y => hf j (by omega) (by omega))
theorem sumF_eq (f g : Nat → Int32) : ∀ (m i : Nat) (acc : Int32), (∀ j, i ≤ j → j < i + m → f j = g j) → sumF f m i acc = sumF g m i acc
  | 0, _, _, _ => rfl
  | m + 1, i, acc, h => by
    rw [sumF, sumF, h i (by omega) (by omega)]
    exact sumF_eq f g m (i + 1) _ (fun j a b => h j (by omega) (by omega))
def lft {n : Nat} (f : Fin n → Int32) (i : Nat) : Int32 := if h : i < n then f ⟨i, h⟩ else 0
theorem lft_at {n : Nat} (f : Fin n → Int32) (i : Nat) (h : i < n) : lft f i = f ⟨i, h⟩ := dif_pos h
theorem allOil_4 {c : Nat → Int32} : ∀ (m i n : Nat) (acc : Int32) (h : Hst), h.1 8 = c → i + m = 6 → m < n → lp_X1_allOil_4 n acc (nI i) h = some (sumF (lft (oil5 c)) m i acc, h)
  | 0, i, n + 1, acc, h, e, hi, _ => by
    rw [lp_X1_allOil_4, if_pos (show (6 : Int32) ≤ nI i from nI_le (a := 6) (by omega) (by omega))]; rfl
  | m + 1, i, n + 1, acc, h, e, hi, hn => by
    have g : f_X1_oilOf (nI i) h = some (oil5 c ⟨i, by omega⟩, h) := by rw [← e]; exact oilOf ⟨i, by omega⟩ h
    rw [lp_X1_allOil_4, if_neg (show ¬ (6 : Int32) ≤ nI i from nI_ge (b := 6) (by omega) (by decide)), g, gb_some, gl_eq, nI_1, allOil_4 m (i + 1) n _ h e (by omega) (by omega), sumF, lft_at _ i (by omega)]
theorem allOil_v (h : Hst) : f_X1_allOil h = some (sumF (lft (oil5 (h.1 8))) 6 0 0, h) := allOil_4 6 0 FU 0 h rfl rfl (by decide)
theorem sumOfGrowers_4 {c : Nat → Int32} (k : Fin 4) : ∀ (m i n : Nat) (acc : Int32) (h : Hst), h.1 8 = c → i + m = 8 → m < n → lp_X6_sumOfGrowers_4 n (nI k.val) acc (nI i) h = some (sumF (lft (fun g => cGr c g k)) m i acc, h)
  | 0, i, n + 1, acc, h, e, hi, _ => by
    rw [lp_X6_sumOfGrowers_4, if_pos (show (8 : Int32) ≤ nI i from nI_le (a := 8) (by omega) (by omega))]; rfl
  | m + 1, i, n + 1, acc, h, e, hi, hn => by
    have g : f_X5_get_2 (nI i) (nI k.val) h = some (cGr c ⟨i, by omega⟩ k, h) := by rw [← e]; exact get2 ⟨i, by omega⟩ k h
    rw [lp_X6_sumOfGrowers_4, if_neg (show ¬ (8 : Int32) ≤ nI i from nI_ge (b := 8) (by omega) (by decide)), g, gb_some, gl_eq, nI_1, sumOfGrowers_4 k m (i + 1) n _ h e (by omega) (by omega), sumF, lft_at _ i (by omega)]
theorem sumOfGrowers_v (k : Fin 4) (h : Hst) : f_X6_sumOfGrowers (nI k.val) h = some (sumF (lft (fun g => cGr (h.1 8) g k)) 8 0 0, h) := sumOfGrowers_4 k 8 0 FU 0 h rfl rfl (by decide)
def og (c : Nat → Int32) (b : Int32) (t : Fin 6) : Int32 := if b = 0 then oil5 c t else if grd (oil5 c t) (cTa c t 1) = 0 then oil5 c t else 0
theorem oilOfGrade_4 {c : Nat → Int32} (hT : ∀ t, TankI c t) : ∀ (m i n : Nat) (acc : Int32) (h : Hst), h.1 8 = c → i + m = 6 → m < n → lp_X1_oilOfGrade_4 n 0 acc (nI i) h = some (sumF (lft (og c 1)) m i acc, h)
  | 0, i, n + 1, acc, h, e, hi, _ => by
    rw [lp_X1_oilOfGrade_4, if_pos (show (6 : Int32) ≤ nI i from nI_le (a := 6) (by omega) (by omega))]; rfl
  | m + 1, i, n + 1, acc, h, e, hi, hn => by
    have g : f_X1_oilOf (nI i) h = some (oil5 c ⟨i, by omega⟩, h) := by rw [← e]; exact oilOf ⟨i, by omega⟩ h
    have g2 : f_X1_gradeOf (nI i) h = some (grd (oil5 c ⟨i, by omega⟩) (cTa c ⟨i, by omega⟩ 1), h) := by rw [← e]; exact gradeOf ⟨i, by omega⟩ (by rw [e]; exact hT _)
    rw [lp_X1_oilOfGrade_4, if_neg (show ¬ (6 : Int32) ≤ nI i from nI_ge (b := 6) (by omega) (by decide)), g2, gb_some, sumF, lft_at _ i (by omega), og, if_neg (show ¬ (1 : Int32) = 0 by decide)]
    unfold jb_X1_oilOfGrade_27
    split
    · rw [g, gb_some, gl_eq, nI_1, oilOfGrade_4 hT m (i + 1) n _ h e (by omega) (by omega)]
    · rw [nI_1, oilOfGrade_4 hT m (i + 1) n _ h e (by omega) (by omega), Int32.add_zero]
theorem oil5_0 {c : Nat → Int32} {t : Fin 6} (h : ∀ k, cTa c t k = 0) : oil5 c t = 0 := by
  unfold oil5; rw [h, h, h, h, h]; rfl
def rv (c : Nat → Int32) : Int32 := if cS c 11 = 0 then -1 else cS c 10
theorem residueVariety_c {c : Nat → Int32} {ng nl nt : Nat} (I : InvC c ng nl nt) (h : Hst) (e : h.1 8 = c) : f_X6_residueVariety h = some (rv c, h) := by
  obtain ⟨-, -, -, ⟨⟨v, d1⟩, r, d2, d3⟩, -⟩ := I
  unfold f_X6_residueVariety jb_X6_residueVariety_29 rv
  rw [row7_4, gb_some, e, d3]
  by_cases r0 : r = 0
  · subst r0
    rw [if_pos (show nI 0 ≤ 0 by decide), if_pos (show nI 0 = 0 from rfl)]
  · rw [if_neg (nI_nle (by omega) (by omega)), row7_3, gb_some, e, if_neg (nI_ne0 (by omega) (by omega))]
theorem count_2 {c : Nat → Int32} {ng nl nt : Nat} (I : InvC c ng nl nt) (h : Hst) (e : h.1 8 = c) : f_X6_count 2 h = some (cntF (fLots c 5 0 0) nl 0 0, h) := by
  unfold f_X6_count
  rw [if_neg (by decide), if_neg (by decide), if_pos rfl, show f_X6_lotsWith 5 0 0 h = _ from lotsWith_v I 5 0 0 h e, gb_some]
theorem count_4 {c : Nat → Int32} {ng nl nt : Nat} (I : InvC c ng nl nt) (h : Hst) (e : h.1 8 = c) : f_X6_count 4 h = some (rv c, h) := by
  unfold f_X6_count
  rw [if_neg (by decide), if_neg (by decide), if_neg (by decide), if_neg (by decide), if_pos rfl, residueVariety_c I h e, gb_some]
theorem count_5 {c : Nat → Int32} {ng nl nt : Nat} (I : InvC c ng nl nt) (h : Hst) (e : h.1 8 = c) : f_X6_count 5 h = some (cS c 11, h) := by
  unfold f_X6_count
  rw [if_neg (by decide), if_neg (by decide), if_neg (by decide), if_neg (by decide), if_neg (by decide), if_pos rfl, row7_4, gb_some, e]
theorem count_6 {c : Nat → Int32} {ng nl nt : Nat} (I : InvC c ng nl nt) (h : Hst) (e : h.1 8 = c) : f_X6_count 6 h = some (cS c 12, h) := by
  unfold f_X6_count
  rw [if_neg (by decide), if_neg (by decide), if_neg (by decide), if_neg (by decide), if_neg (by decide), if_neg (by decide), if_pos rfl, row7_5, gb_some, e]
theorem count_7 {c : Nat → Int32} {ng nl nt : Nat} (I : InvC c ng nl nt) (h : Hst) (e : h.1 8 = c) : f_X6_count 7 h = some (cS c 13, h) := by
  unfold f_X6_count
  rw [if_neg (by decide), if_neg (by decide), if_neg (by decide), if_neg (by decide), if_neg (by decide), if_neg (by decide), if_neg (by decide), if_pos rfl, row7_6, gb_some, e]
theorem count_8 {c : Nat → Int32} {ng nl nt : Nat} (I : InvC c ng nl nt) (h : Hst) (e : h.1 8 = c) : f_X6_count 8 h = some (sumF (lft (oil5 c)) 6 0 0, h) := by
  unfold f_X6_count
  rw [if_neg (by decide), if_neg (by decide), if_neg (by decide), if_neg (by decide), if_neg (by decide), if_neg (by decide), if_neg (by decide), if_neg (by decide), if_pos rfl, allOil_v, gb_some, e]
theorem count_9 {c : Nat → Int32} {ng nl nt : Nat} (I : InvC c ng nl nt) (h : Hst) (e : h.1 8 = c) : f_X6_count 9 h = some (sumF (lft (fun g => cGr c g 0)) 8 0 0, h) := by
  unfold f_X6_count
  rw [if_neg (by decide), if_neg (by decide), if_neg (by decide), if_neg (by decide), if_neg (by decide), if_neg (by decide), if_neg (by decide), if_neg (by decide), if_neg (by decide), if_pos rfl, show f_X6_sumOfGrowers 0 h = _ from sumOfGrowers_v 0 h, gb_some, e]
theorem oilOfGrade_v {c : Nat → Int32} {ng nl nt : Nat} (I : InvC c ng nl nt) (h : Hst) (e : h.1 8 = c) : f_X1_oilOfGrade 0 h = some (sumF (lft (og c 1)) 6 0 0, h) :=
  oilOfGrade_4 I.2.2.2.2.2.2.2.2.2 6 0 FU 0 h e rfl (by decide)
theorem count_10 {c : Nat → Int32} {ng nl nt : Nat} (I : InvC c ng nl nt) (h : Hst) (e : h.1 8 = c) : f_X6_count 10 h = some (sumF (lft (og c 1)) 6 0 0, h) := by
  unfold f_X6_count
  rw [if_neg (by decide), if_neg (by decide), if_neg (by decide), if_neg (by decide), if_neg (by decide), if_neg (by decide), if_neg (by decide), if_neg (by decide), if_neg (by decide), if_neg (by decide), if_pos rfl, oilOfGrade_v I h e, gb_some]
theorem count_11 {c : Nat → Int32} {ng nl nt : Nat} (I : InvC c ng nl nt) (h : Hst) (e : h.1 8 = c) : f_X6_count 11 h = some (sumF (lft (fun g => cGr c g 2)) 8 0 0, h) := by
  unfold f_X6_count
  rw [if_neg (by decide), if_neg (by decide), if_neg (by decide), if_neg (by decide), if_neg (by decide), if_neg (by decide), if_neg (by decide), if_neg (by decide), if_neg (by decide), if_neg (by decide), if_neg (by decide), if_pos rfl, show f_X6_sumOfGrowers 2 h = _ from sumOfGrowers_v 2 h, gb_some, e]
theorem grower_0 {c : Nat → Int32} {ng nl nt : Nat} (I : InvC c ng nl nt) {g : Fin 8} (hg : g.val < ng) (h : Hst) (e : h.1 8 = c) : f_X6_grower (nI g.val) 0 h = some (cGr c g 0, h) := by
  unfold f_X6_grower
  rw [checkGrower_gd I.1.1 (by rw [e]; exact I.2.1.1) hg, gbv_some, if_pos rfl, get2_0, gb_some, e]
theorem variety_0 (v : Fin 5) (h : Hst) : f_X6_variety (nI v.val) 0 h = some (cVa (h.1 8) v 0, h) := by
  unfold f_X6_variety
  rw [checkVariety_gd v.isLt, gbv_some, if_pos rfl, get5_0, gb_some]
def isT (k : Nat) : Prop := k < 3 ∨ (10 ≤ k ∧ k < 15)
def tankOf (c : Nat → Int32) (t : Fin 6) (k : Nat) : Int32 := if k = 0 then cTa c t 0 else if k = 1 then oil5 c t else if k = 2 then grd (oil5 c t) (cTa c t 1) else if h : k - 8 < 7 then cTa c t ⟨k - 8, h⟩ else 0
theorem tank_C {c : Nat → Int32} {ng nl nt : Nat} (I : InvC c ng nl nt) (t : Fin 6) (ht : t.val < nt) {k : Nat} (hk : isT k) (h : Hst) (e : h.1 8 = c) : f_X6_tank (nI t.val) (nI k) h = some (tankOf c t k, h) := by
  obtain ⟨⟨-, -, h6⟩, ⟨-, -, i9⟩, -, -, -, -, -, -, -, hT⟩ := I
  subst e
  unfold f_X6_tank tankOf
  rw [checkTank_gd h6 i9 ht, gbv_some]
  unfold isT at hk
  rcases (by omega : k = 0 ∨ k = 1 ∨ k = 2 ∨ k = 10 ∨ k = 11 ∨ k = 12 ∨ k = 13 ∨ k = 14) with rfl | rfl | rfl | rfl | rfl | rfl | rfl | rfl
  · rw [if_pos (by decide), get4_0, gb_some, if_pos rfl]
  · rw [if_neg (by decide), if_pos (by decide), oilOf, gb_some, if_neg (by decide), if_pos rfl]
  · rw [if_neg (by decide), if_neg (by decide), if_pos (by decide), gradeOf t (hT t), gb_some, if_neg (by decide), if_neg (by decide), if_pos rfl]
  · rw [if_neg (by decide), if_neg (by decide), if_neg (by decide), if_neg (by decide), if_neg (by decide), if_neg (by decide), if_neg (by decide), if_neg (by decide), if_neg (by decide), if_neg (by decide), if_pos (by decide), show (2 : Int32) + nI 10 - 10 = 2 by decide, get4_2, gb_some, if_neg (by decide), if_neg (by decide), if_neg (by decide)]
    rfl
  · rw [if_neg (by decide), if_neg (by decide), if_neg (by decide), if_neg (by decide), if_neg (by decide), if_neg (by decide), if_neg (by decide), if_neg (by decide), if_neg (by decide), if_neg (by decide), if_neg (by decide), if_pos (by decide), show (2 : Int32) + nI 11 - 10 = 3 by decide, get4_3, gb_some, if_neg (by decide), if_neg (by decide), if_neg (by decide)]
    rfl
  · rw [if_neg (by decide), if_neg (by decide), if_neg (by decide), if_neg (by decide), if_neg (by decide), if_neg (by decide), if_neg (by decide), if_neg (by decide), if_neg (by decide), if_neg (by decide), if_neg (by decide), if_neg (by decide), if_pos (by decide), show (2 : Int32) + nI 12 - 10 = 4 by decide, get4_4, gb_some, if_neg (by decide), if_neg (by decide), if_neg (by decide)]
    rfl
  · rw [if_neg (by decide), if_neg (by decide), if_neg (by decide), if_neg (by decide), if_neg (by decide), if_neg (by decide), if_neg (by decide), if_neg (by decide), if_neg (by decide), if_neg (by decide), if_neg (by decide), if_neg (by decide), if_neg (by decide), if_pos (by decide), show (2 : Int32) + nI 13 - 10 = 5 by decide, get4_5, gb_some, if_neg (by decide), if_neg (by decide), if_neg (by decide)]
    rfl
  · rw [if_neg (by decide), if_neg (by decide), if_neg (by decide), if_neg (by decide), if_neg (by decide), if_neg (by decide), if_neg (by decide), if_neg (by decide), if_neg (by decide), if_neg (by decide), if_neg (by decide), if_neg (by decide), if_neg (by decide), if_neg (by decide), if_pos (by decide), show (2 : Int32) + nI 14 - 10 = 6 by decide, get4_6, gb_some, if_neg (by decide), if_neg (by decide), if_neg (by decide)]
    rfl
-- lots
def secV (c : Nat → Int32) (l : Fin 40) : Int32 := (cLo c l 7 - cLo c l 8) * cS c 2 / 1000
def roomV (c : Nat → Int32) (t : Fin 6) : Int32 := cTa c t 0 - oil5 c t
def dueV (c : Nat → Int32) (l : Fin 40) : Int32 := cLo c l 6 * cS c 1 / 1000 * (1000 - cS c 6) / 1000
theorem secondOilOf_v (l : Fin 40) (h : Hst) : f_X6_secondOilOf (nI l.val) h = some (secV (h.1 8) l, h) := by
  unfold f_X6_secondOilOf
  rw [get3_7, gb_some, get3_8, gb_some, gl_eq, row6_2, gb_some, gd_1000]
  rfl
theorem fin11 : ∀ k : Fin 11, k = 0 ∨ k = 1 ∨ k = 2 ∨ k = 3 ∨ k = 4 ∨ k = 5 ∨ k = 6 ∨ k = 7 ∨ k = 8 ∨ k = 9 ∨ k = 10 := by decide
theorem ifPressed_v (l : Fin 40) (t : Int32) (k : Fin 11) (h : Hst) : f_X6_ifPressed (nI l.val) t (nI k.val) h = some (if cLo (h.1 8) l 5 < t then -1 else cLo (h.1 8) l k, h) := by
  unfold f_X6_ifPressed jb_X6_ifPressed_32
  rw [get3_5, gb_some, get3, gb_some]
  split <;> rfl
def raV (c : Nat → Int32) (l : Fin 40) (t : Fin 6) : Int32 := if cLo c l 5 = 1 then (if cLo c l 8 < dueV c l then (if secV c l ≤ roomV c t then 0 else 3) else 2) else 1
theorem reasonAppeal_c {c : Nat → Int32} (l : Fin 40) (t : Fin 6) (ht : cLo c l 5 = 1 → cLo c l 10 = nI t.val) (h : Hst) (e : h.1 8 = c) : f_X6_reasonAgainstAppeal (nI l.val) h = some (raV c l t, h) := by
  unfold f_X6_reasonAgainstAppeal raV
  by_cases h1 : cLo c l 5 = 1
  · have t2 := ht h1
    rw [get3_5, gb_some, e, if_pos h1, if_pos h1, get3_6, gb_some, row6_1, gb_some, gd_1000, gl_eq, get3_8, gb_some, row6_6, gb_some, gd_1000, e]
    by_cases h2 : cLo c l 8 < dueV c l
    · have h2' : cLo c l 8 < cLo c l 6 * cS c 1 / 1000 * (1000 - cS c 6) / 1000 := h2
      rw [if_pos h2', if_pos h2, secondOilOf_v, gb_some, get3_10, gb_some, e, t2, roomOf, gb_some, e]
      show (if secV c l ≤ roomV c t then _ else _) = _
      split <;> rfl
    · have h2' : ¬ cLo c l 8 < cLo c l 6 * cS c 1 / 1000 * (1000 - cS c 6) / 1000 := h2
      rw [if_neg h2', if_neg h2]
  · rw [get3_5, gb_some, e, if_neg h1, if_neg h1]
theorem lot_4 {c : Nat → Int32} {ng nl nt : Nat} (I : InvC c ng nl nt) {l : Fin 40} (hl : l.val < nl) (h : Hst) (e : h.1 8 = c) : f_X6_lot (nI l.val) 4 h = some (gl3 (cLo c l 3), h) := by
  have cc : f_X6_checkLot (nI l.val) h = some h := checkLot_gd I.1.2.1 (by rw [e]; exact I.2.1.2.1) hl
  unfold f_X6_lot
  rw [cc, gbv_some, if_neg (by decide), if_neg (by decide), if_neg (by decide), if_neg (by decide), if_pos rfl, gradeOfLot, gb_some, e]
theorem lot_5 {c : Nat → Int32} {ng nl nt : Nat} (I : InvC c ng nl nt) {l : Fin 40} (hl : l.val < nl) (h : Hst) (e : h.1 8 = c) : f_X6_lot (nI l.val) 5 h = some (cLo c l 5, h) := by
  have cc : f_X6_checkLot (nI l.val) h = some h := checkLot_gd I.1.2.1 (by rw [e]; exact I.2.1.2.1) hl
  unfold f_X6_lot
  rw [cc, gbv_some, if_neg (by decide), if_neg (by decide), if_neg (by decide), if_neg (by decide), if_neg (by decide), if_pos rfl, get3_5, gb_some, e]
theorem lot_6 {c : Nat → Int32} {ng nl nt : Nat} (I : InvC c ng nl nt) {l : Fin 40} (hl : l.val < nl) (h : Hst) (e : h.1 8 = c) : f_X6_lot (nI l.val) 6 h = some (if cLo c l 5 < 1 then -1 else cLo c l 6, h) := by
  have cc : f_X6_checkLot (nI l.val) h = some h := checkLot_gd I.1.2.1 (by rw [e]; exact I.2.1.2.1) hl
  unfold f_X6_lot
  rw [cc, gbv_some, if_neg (by decide), if_neg (by decide), if_neg (by decide), if_neg (by decide), if_neg (by decide), if_neg (by decide), if_pos rfl, show f_X6_ifPressed (nI l.val) 1 6 h = _ from ifPressed_v l 1 6 h, gb_some, e]
theorem lot_7 {c : Nat → Int32} {ng nl nt : Nat} (I : InvC c ng nl nt) {l : Fin 40} (hl : l.val < nl) (h : Hst) (e : h.1 8 = c) : f_X6_lot (nI l.val) 7 h = some (if cLo c l 5 < 1 then -1 else cLo c l 8, h) := by
  have cc : f_X6_checkLot (nI l.val) h = some h := checkLot_gd I.1.2.1 (by rw [e]; exact I.2.1.2.1) hl
  unfold f_X6_lot
  rw [cc, gbv_some, if_neg (by decide), if_neg (by decide), if_neg (by decide), if_neg (by decide), if_neg (by decide), if_neg (by decide), if_neg (by decide), if_pos rfl, show f_X6_ifPressed (nI l.val) 1 8 h = _ from ifPressed_v l 1 8 h, gb_some, e]
theorem lot_8 {c : Nat → Int32} {ng nl nt : Nat} (I : InvC c ng nl nt) {l : Fin 40} (hl : l.val < nl) (h : Hst) (e : h.1 8 = c) : f_X6_lot (nI l.val) 8 h = some (if cLo c l 5 < 2 then -1 else cLo c l 9, h) := by
  have cc : f_X6_checkLot (nI l.val) h = some h := checkLot_gd I.1.2.1 (by rw [e]; exact I.2.1.2.1) hl
  unfold f_X6_lot
  rw [cc, gbv_some, if_neg (by decide), if_neg (by decide), if_neg (by decide), if_neg (by decide), if_neg (by decide), if_neg (by decide), if_neg (by decide), if_neg (by decide), if_pos rfl, show f_X6_ifPressed (nI l.val) 2 9 h = _ from ifPressed_v l 2 9 h, gb_some, e]
theorem lot_9 {c : Nat → Int32} {ng nl nt : Nat} (I : InvC c ng nl nt) {l : Fin 40} (hl : l.val < nl) (h : Hst) (e : h.1 8 = c) : f_X6_lot (nI l.val) 9 h = some (if cLo c l 5 < 1 then -1 else cLo c l 10, h) := by
  have cc : f_X6_checkLot (nI l.val) h = some h := checkLot_gd I.1.2.1 (by rw [e]; exact I.2.1.2.1) hl
  unfold f_X6_lot
  rw [cc, gbv_some, if_neg (by decide), if_neg (by decide), if_neg (by decide), if_neg (by decide), if_neg (by decide), if_neg (by decide), if_neg (by decide), if_neg (by decide), if_neg (by decide), if_pos rfl, show f_X6_ifPressed (nI l.val) 1 10 h = _ from ifPressed_v l 1 10 h, gb_some, e]
theorem lot_10 {c : Nat → Int32} {ng nl nt : Nat} (I : InvC c ng nl nt) {l : Fin 40} (hl : l.val < nl) (t : Fin 6) (ht : cLo c l 5 = 1 → cLo c l 10 = nI t.val) (h : Hst) (e : h.1 8 = c) : f_X6_lot (nI l.val) 10 h = some (raV c l t, h) := by
  have cc : f_X6_checkLot (nI l.val) h = some h := checkLot_gd I.1.2.1 (by rw [e]; exact I.2.1.2.1) hl
  unfold f_X6_lot
  rw [cc, gbv_some, if_neg (by decide), if_neg (by decide), if_neg (by decide), if_neg (by decide), if_neg (by decide), if_neg (by decide), if_neg (by decide), if_neg (by decide), if_neg (by decide), if_neg (by decide), if_pos rfl, reasonAppeal_c l t ht h e, gb_some]
