def sumF (f : Nat → Int32) : Nat → Nat → Int32 → Int32
  | 0, _, acc => acc
  | m + 1, i, acc => sumF f m (i + 1) (acc + f i)
theorem sumF_zero (f : Nat → Int32) : ∀ (m i : Nat) (acc : Int32), (∀ j, i ≤ j → j < i + m → f j = 0) → sumF f m i acc = acc
  | 0, _, _, _ => rfl
  | m + 1, i, acc, h => by
    rw [sumF, sumF_zero f m (i + 1) _ (fun j a b => h j (by omega) (by omega)), h i (by omega) (by omega), Int32.add_zero]
theorem sumF_cut (f : Nat → Int32) : ∀ (a b i : Nat) (acc : Int32), (∀ j, i + a ≤ j → j < i + a + b → f j = 0) → sumF f (a + b) i acc = sumF f a i acc
  | 0, b, i, acc, h => by
    rw [Nat.zero_add, sumF]; exact sumF_zero f b i acc (fun j x y => h j (by omega) (by omega))
  | a + 1, b, i, acc, h => by
    rw [show a + 1 + b = (a + b) + 1 by omega, sumF, sumF, sumF_cut f a b (i + 1) _ (fun j x y => h j (by omega) (by omega))]
theorem sumF_cut' (f : Nat → Int32) {a N : Nat} (h : a ≤ N) (hf : ∀ j, a ≤ j → j < N → f j = 0) : sumF f N 0 0 = sumF f a 0 0 := by
  obtain ⟨b, rfl⟩ : ∃ b, N = a + b := ⟨N - a, by omega⟩
  exact sumF_cut f a b 0 0 (fun j x y => hf j (by omega) (by omega))
theorem sumF_eq (f g : Nat → Int32) : ∀ (m i : Nat) (acc : Int32), (∀ j, i ≤ j → j < i + m → f j = g j) → sumF f m i acc = sumF g m i acc
  | 0, _, _, _ => rfl
  | m + 1, i, acc, h => by
    rw [sumF, sumF, h i (by omega) (by omega)]
    exact sumF_eq f g m (i + 1) _ (fun j a b => h j (by omega) (by omega))
def lft {n : Nat} (f : Fin n → Int32) (i : Nat) : Int32 := if h : i < n then f ⟨i, h⟩ else 0
theorem lft_at {n : Nat} (f : Fin n → Int32) (i : Nat) (h : i < n) : lft f i = f ⟨i, h⟩ := dif_pos h
-- the class's sums
theorem allOil_4 {c : Nat → Int32} : ∀ (m i n : Nat) (acc : Int32) (h : Hst), h.1 8 = c → i + m = 6 → m < n → lp_X1_allOil_4 n acc (nI i) h = some (sumF (lft (oil5 c)) m i acc, h)
  | 0, i, n + 1, acc, h, e, hi, _ => by
    rw [lp_X1_allOil_4, if_pos (show (6 : Int32) ≤ nI i from nI_le (a := 6) (by omega) (by omega))]; rfl
  | m + 1, i, n + 1, acc, h, e, hi, hn => by
    have g : f_X1_oilOf (nI i) h = some (oil5 c ⟨i, by omega⟩, h) := by rw [← e]; exact oilOf ⟨i, by omega⟩ h
    rw [lp_X1_allOil_4, if_neg (show ¬ (6 : Int32) ≤ nI i from nI_ge (b := 6) (by omega) (by decide)), g, gb_some, gl_eq, nI_1, allOil_4 m (i + 1) n _ h e (by omega) (by omega), sumF, lft_at _ i (by omega)]
theorem allOil_v (h : Hst) : f_X1_allOil h = some (sumF (lft (oil5 (h.1 8))) 6 0 0, h) := allOil_4 6 0 FU 0 h rfl rfl (by decide)
def tv (c : Nat → Int32) (v : Fin 5) (t : Fin 6) : Int32 := cTa c t ⟨2 + v.val, by omega⟩
theorem oilOfVariety_4 {c : Nat → Int32} (v : Fin 5) : ∀ (m i n : Nat) (acc : Int32) (h : Hst), h.1 8 = c → i + m = 6 → m < n → lp_X1_oilOfVariety_4 n (nI v.val) acc (nI i) h = some (sumF (lft (tv c v)) m i acc, h)
  | 0, i, n + 1, acc, h, e, hi, _ => by
    rw [lp_X1_oilOfVariety_4, if_pos (show (6 : Int32) ≤ nI i from nI_le (a := 6) (by omega) (by omega))]; rfl
  | m + 1, i, n + 1, acc, h, e, hi, hn => by
    have g : f_X5_get_4 (nI i) (2 + nI v.val) h = some (tv c v ⟨i, by omega⟩, h) := by
      rw [← e, show (2 : Int32) + nI v.val = nI (2 + v.val) from nI_add 2 v.val]; exact get4 ⟨i, by omega⟩ ⟨2 + v.val, by omega⟩ h
    rw [lp_X1_oilOfVariety_4, if_neg (show ¬ (6 : Int32) ≤ nI i from nI_ge (b := 6) (by omega) (by decide)), g, gb_some, gl_eq, nI_1, oilOfVariety_4 v m (i + 1) n _ h e (by omega) (by omega), sumF, lft_at _ i (by omega)]
theorem oilOfVariety_v (v : Fin 5) (h : Hst) : f_X1_oilOfVariety (nI v.val) h = some (sumF (lft (tv (h.1 8) v)) 6 0 0, h) := oilOfVariety_4 v 6 0 FU 0 h rfl rfl (by decide)
theorem sumOfGrowers_4 {c : Nat → Int32} (k : Fin 4) : ∀ (m i n : Nat) (acc : Int32) (h : Hst), h.1 8 = c → i + m = 8 → m < n → lp_X6_sumOfGrowers_4 n (nI k.val) acc (nI i) h = some (sumF (lft (fun g => cGr c g k)) m i acc, h)
  | 0, i, n + 1, acc, h, e, hi, _ => by
    rw [lp_X6_sumOfGrowers_4, if_pos (show (8 : Int32) ≤ nI i from nI_le (a := 8) (by omega) (by omega))]; rfl
  | m + 1, i, n + 1, acc, h, e, hi, hn => by
    have g : f_X5_get_2 (nI i) (nI k.val) h = some (cGr c ⟨i, by omega⟩ k, h) := by rw [← e]; exact get2 ⟨i, by omega⟩ k h
    rw [lp_X6_sumOfGrowers_4, if_neg (show ¬ (8 : Int32) ≤ nI i from nI_ge (b := 8) (by omega) (by decide)), g, gb_some, gl_eq, nI_1, sumOfGrowers_4 k m (i + 1) n _ h e (by omega) (by omega), sumF, lft_at _ i (by omega)]
theorem sumOfGrowers_v (k : Fin 4) (h : Hst) : f_X6_sumOfGrowers (nI k.val) h = some (sumF (lft (fun g => cGr (h.1 8) g k)) 8 0 0, h) := sumOfGrowers_4 k 8 0 FU 0 h rfl rfl (by decide)
def og (c : Nat → Int32) (b : Int32) (t : Fin 6) : Int32 := if b = 0 then oil5 c t else if grd (oil5 c t) (cTa c t 1) = 0 then oil5 c t else 0
theorem oilOfGrade_4 {c : Nat → Int32} (hT : ∀ t, TankI c t) : ∀ (m i n : Nat) (acc : Int32) (h : Hst), h.1 8 = c → i + m = 6 → m < n → lp_X1_oilOfGrade_4 n 0 acc (nI i) h = some (sumF (lft (og c 1)) m i acc, h)
  | 0, i, n + 1, acc, h, e, hi, _ => by
    rw [lp_X1_oilOfGrade_4, if_pos (show (6 : Int32) ≤ nI i from nI_le (a := 6) (by omega) (by omega))]; rfl
  | m + 1, i, n + 1, acc, h, e, hi, hn => by
    have g : f_X1_oilOf (nI i) h = some (oil5 c ⟨i, by omega⟩, h) := by rw [← e]; exact oilOf ⟨i, by omega⟩ h
    have g2 : f_X1_gradeOf (nI i) h = some (grd (oil5 c ⟨i, by omega⟩) (cTa c ⟨i, by omega⟩ 1), h) := by rw [← e]; exact gradeOf ⟨i, by omega⟩ (by rw [e]; exact hT _)
    rw [lp_X1_oilOfGrade_4, if_neg (show ¬ (6 : Int32) ≤ nI i from nI_ge (b := 6) (by omega) (by decide)), g2, gb_some, sumF, lft_at _ i (by omega), og, if_neg (show ¬ (1 : Int32) = 0 by decide)]
    unfold jb_X1_oilOfGrade_27
    split
    · rw [g, gb_some, gl_eq, nI_1, oilOfGrade_4 hT m (i + 1) n _ h e (by omega) (by omega)]
    · rw [nI_1, oilOfGrade_4 hT m (i + 1) n _ h e (by omega) (by omega), Int32.add_zero]
-- the model's sums
theorem sumOil_4 {z : Nat → Int32} {nt : Nat} (ht : nt ≤ 6) (z9 : z 9 = nI nt) (b : Int32) (f : Fin 6 → Int32) (hf : ∀ t, f t = if b = 0 then zoil5 z t else if grd (zoil5 z t) (zT z t 1) = 0 then zoil5 z t else 0) : ∀ (m i n : Nat) (acc : Int32) (h : Hst), h.1 18 = z → i + m = nt → m < n → lp_X7_sumOil_4 n b acc (nI i) h = some (sumF (lft f) m i acc, h)
  | 0, i, n + 1, acc, h, e, hi, _ => by
    rw [lp_X7_sumOil_4, gk_9_514, tn_9, e, z9, if_pos (nI_le (by omega) (by omega))]; rfl
  | m + 1, i, n + 1, acc, h, e, hi, hn => by
    have g : f_X7_oilOf (nI i) h = some (zoil5 z ⟨i, by omega⟩, h) := by rw [← e]; exact oilOf7 ⟨i, by omega⟩ h
    have g2 : f_X7_gradeOf (nI i) h = some (grd (zoil5 z ⟨i, by omega⟩) (zT z ⟨i, by omega⟩ 1), h) := by rw [← e]; exact gradeOf7 ⟨i, by omega⟩ h
    rw [lp_X7_sumOil_4, gk_9_514, tn_9, e, z9, if_neg (nI_ge (show i < nt by omega) (by omega)), sumF, lft_at _ i (by omega), hf]
    unfold jb_X7_sumOil_28 jb_X7_sumOil_37
    have IH := fun a => sumOil_4 ht z9 b f hf m (i + 1) n a h e (by omega) (by omega)
    by_cases hb : b = 0
    · rw [if_pos hb, if_pos hb, g, gb_some, gl_eq, nI_1, IH]
    · rw [if_neg hb, if_neg hb, g2, gb_some]
      split
      · rw [g, gb_some, gl_eq, nI_1, IH]
      · rw [gl_eq, nI_1, IH]
theorem inTanks_4 {z : Nat → Int32} {nt : Nat} (ht : nt ≤ 6) (z9 : z 9 = nI nt) (v : Fin 5) : ∀ (m i n : Nat) (acc : Int32) (h : Hst), h.1 18 = z → i + m = nt → m < n → lp_X7_inTanks_4 n (nI v.val) acc (nI i) h = some (sumF (lft (fun t => zT z t ⟨2 + v.val, by omega⟩)) m i acc, h)
  | 0, i, n + 1, acc, h, e, hi, _ => by
    rw [lp_X7_inTanks_4, gk_9_514, tn_9, e, z9, if_pos (nI_le (by omega) (by omega))]; rfl
  | m + 1, i, n + 1, acc, h, e, hi, hn => by
    have g : f_X7_ofTank (nI i) (2 + nI v.val) h = some (zT z ⟨i, by omega⟩ ⟨2 + v.val, by omega⟩, h) := by
      rw [← e, show (2 : Int32) + nI v.val = nI (2 + v.val) from nI_add 2 v.val]; exact ofTank ⟨i, by omega⟩ ⟨2 + v.val, by omega⟩ h
    rw [lp_X7_inTanks_4, gk_9_514, tn_9, e, z9, if_neg (nI_ge (show i < nt by omega) (by omega)), sumF, lft_at _ i (by omega), g, gb_some, gl_eq, nI_1, inTanks_4 ht z9 v m (i + 1) n _ h e (by omega) (by omega)]
theorem accounts_4 {z : Nat → Int32} {ng : Nat} (hg : ng ≤ 8) (z7 : z 7 = nI ng) : ∀ (m i n : Nat) (acc : Int32) (h : Hst), h.1 18 = z → i + m = ng → m < n → lp_X7_accounts_4 n acc (nI i) h = some (sumF (lft (fun g : Fin 8 => z (40 + g.val))) m i acc, h)
  | 0, i, n + 1, acc, h, e, hi, _ => by
    rw [lp_X7_accounts_4, gk_7_514, tn_7, e, z7, if_pos (nI_le (by omega) (by omega))]; rfl
  | m + 1, i, n + 1, acc, h, e, hi, hn => by
    rw [lp_X7_accounts_4, gk_7_514, tn_7, e, z7, if_neg (nI_ge (show i < ng by omega) (by omega)), sumF, lft_at _ i (by omega), show (40 : Int32) + nI i = nI (40 + i) from nI_add 40 i, gck_nI (by omega) (by decide), nI_clamp (by omega), gl_eq, nI_1, accounts_4 hg z7 m (i + 1) n _ h e (by omega) (by omega)]
-- both
theorem oil5_0 {c : Nat → Int32} {t : Fin 6} (h : ∀ k, cTa c t k = 0) : oil5 c t = 0 := by
  unfold oil5; rw [h, h, h, h, h]; rfl
theorem sumOil_v {c z : Nat → Int32} {ng nl nt : Nat} (I : InvC c ng nl nt) (R : RelCZ c z nl) (b : Int32) (h : Hst) (e : h.1 18 = z) : f_X7_sumOil b h = some (sumF (lft (og c b)) 6 0 0, h) := by
  obtain ⟨⟨-, -, ht⟩, ⟨-, -, i9⟩, -, -, -, -, -, -, i3, -⟩ := I
  have z9 : z 9 = nI nt := (R.1 9 (by decide)).trans i9
  have e6 : sumF (lft (og c b)) 6 0 0 = sumF (lft (og c b)) nt 0 0 := by
    refine sumF_cut' _ (by omega) (fun j a b' => ?_)
    rw [lft_at _ j (by omega)]
    have q := oil5_0 (fun k => i3 ⟨j, by omega⟩ (by show nt ≤ j; omega) k)
    unfold og
    rw [q]
    split
    · rfl
    · split <;> rfl
  rw [e6]
  refine sumOil_4 ht z9 b _ (fun t => ?_) nt 0 FU 0 h e (by omega) (Nat.lt_of_le_of_lt ht (by decide))
  rw [zoil_eq R t, R.2.2.2.2.2.1 t 1]
  rfl
theorem inTanks_v {c z : Nat → Int32} {ng nl nt : Nat} (I : InvC c ng nl nt) (R : RelCZ c z nl) (v : Fin 5) (h : Hst) (e : h.1 18 = z) : f_X7_inTanks (nI v.val) h = some (sumF (lft (tv c v)) 6 0 0, h) := by
  obtain ⟨⟨-, -, ht⟩, ⟨-, -, i9⟩, -, -, -, -, -, -, i3, -⟩ := I
  have z9 : z 9 = nI nt := (R.1 9 (by decide)).trans i9
  have e6 : sumF (lft (tv c v)) 6 0 0 = sumF (lft (tv c v)) nt 0 0 := by
    refine sumF_cut' _ (by omega) (fun j a b' => ?_)
    rw [lft_at _ j (by omega)]
    exact i3 ⟨j, by omega⟩ (by show nt ≤ j; omega) _
  rw [e6]
  have := inTanks_4 ht z9 v nt 0 FU 0 h e (by omega) (Nat.lt_of_le_of_lt ht (by decide))
  have q : (fun t => zT z t ⟨2 + v.val, by omega⟩) = tv c v := by
    funext t; rw [R.2.2.2.2.2.1 t]; rfl
  rw [q] at this
  exact this
theorem accounts_v {c z : Nat → Int32} {ng nl nt : Nat} (I : InvC c ng nl nt) (R : RelCZ c z nl) (h : Hst) (e : h.1 18 = z) : f_X7_accounts h = some (sumF (lft (fun g => cGr c g 0)) 8 0 0, h) := by
  obtain ⟨⟨hg, -, -⟩, ⟨i7, -, -⟩, -, -, -, i0, -⟩ := I
  have z7 : z 7 = nI ng := (R.1 7 (by decide)).trans i7
  have e6 : sumF (lft (fun g => cGr c g 0)) 8 0 0 = sumF (lft (fun g => cGr c g 0)) ng 0 0 := by
    refine sumF_cut' _ (by omega) (fun j a b' => ?_)
    rw [lft_at _ j (by omega)]
    exact i0 ⟨j, by omega⟩ (by show ng ≤ j; omega) _
  rw [e6]
  have := accounts_4 hg z7 ng 0 FU 0 h e (by omega) (Nat.lt_of_le_of_lt hg (by decide))
  have q : (fun g : Fin 8 => z (40 + g.val)) = fun g => cGr c g 0 := by
    funext g; rw [← R.2.2.2.2.1 0 g]; rfl
  rw [q] at this
  exact this
