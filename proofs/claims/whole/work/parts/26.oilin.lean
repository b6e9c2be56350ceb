-- sediment
def aft (s : Int32) : Nat → Int32 → Int32
  | 0, x => x
  | m + 1, x => aft s m (x - x * s / 1000)
theorem aft_add (s : Int32) : ∀ (m k : Nat) (x : Int32), aft s (m + k) x = aft s k (aft s m x)
  | 0, k, x => by rw [Nat.zero_add]; rfl
  | m + 1, k, x => by rw [show m + 1 + k = (m + k) + 1 by omega, aft, aft, aft_add s m k]
theorem oilAfter_5 {c : Nat → Int32} {D : Nat} (hD : D ≤ 200) : ∀ (m i n : Nat) (x : Int32) (h : Hst), h.1 8 = c → i + m = D → m < n → lp_X1_oilAfter_5 n (nI D) x (nI i) h = some (aft (cS c 3) m x, h)
  | 0, i, n + 1, x, h, e, hi, _ => by
    rw [lp_X1_oilAfter_5, if_pos (nI_le (by omega) (by omega))]; rfl
  | m + 1, i, n + 1, x, h, e, hi, hn => by
    rw [lp_X1_oilAfter_5, if_neg (nI_ge (show i < D by omega) (by omega)), row6_3, gb_some, gd_1000, gl_eq, nI_1, oilAfter_5 hD m (i + 1) n _ h e (by omega) (by omega), e, aft]
theorem oilAfter_v {D : Nat} (hD : D ≤ 200) (x : Int32) (h : Hst) : f_X1_oilAfter (nI D) x h = some (aft (cS (h.1 8) 3) D x, h) :=
  oilAfter_5 hD D 0 FU x h rfl (by omega) (Nat.lt_of_le_of_lt hD (by decide))
def ts (v : Fin 5) : Fin 7 := ⟨2 + v.val, by omega⟩
theorem get4_v (t : Fin 6) (v : Fin 5) (h : Hst) : f_X5_get_4 (nI t.val) (2 + nI v.val) h = some (cTa (h.1 8) t (ts v), h) := by
  rw [show (2 : Int32) + nI v.val = nI (2 + v.val) from nI_add 2 v.val]; exact get4 t (ts v) h
theorem put4_v (t : Fin 6) (v : Fin 5) (x : Int32) (h : Hst) : f_X5_put_4 (nI t.val) (2 + nI v.val) x h = some (hso h 8 (uTa (h.1 8) t (ts v) x)) := by
  rw [show (2 : Int32) + nI v.val = nI (2 + v.val) from nI_add 2 v.val]; exact put4 t (ts v) x h
theorem add4_v (t : Fin 6) (v : Fin 5) (x : Int32) (h : Hst) : f_X5_add_4 (nI t.val) (2 + nI v.val) x h = some (hso h 8 (uTa (h.1 8) t (ts v) (cTa (h.1 8) t (ts v) + x))) := by
  rw [show (2 : Int32) + nI v.val = nI (2 + v.val) from nI_add 2 v.val]; exact add4 t (ts v) x h
theorem ofTank_v (t : Fin 6) (v : Fin 5) (h : Hst) : f_X7_ofTank (nI t.val) (2 + nI v.val) h = some (zT (h.1 18) t (ts v), h) := by
  rw [show (2 : Int32) + nI v.val = nI (2 + v.val) from nI_add 2 v.val]; exact ofTank t (ts v) h
def oinF (c : Nat → Int32) (t : Fin 6) (D : Nat) (v : Fin 5) : Int32 := aft (cS c 3) D (cTa c t (ts v))
theorem oilIn_32 {c : Nat → Int32} (t : Fin 6) {D : Nat} (hD : D ≤ 200) : ∀ (m i n : Nat) (acc : Int32) (h : Hst), h.1 8 = c → i + m = 5 → m < n → lp_X6_oilIn_32 n (nI t.val) (nI D) acc (nI i) h = some (.inl (sumF (lft (oinF c t D)) m i acc, h))
  | 0, i, n + 1, acc, h, e, hi, _ => by
    rw [lp_X6_oilIn_32, if_pos (show (5 : Int32) ≤ nI i from nI_le (a := 5) (by omega) (by omega))]; rfl
  | m + 1, i, n + 1, acc, h, e, hi, hn => by
    rw [lp_X6_oilIn_32, if_neg (show ¬ (5 : Int32) ≤ nI i from nI_ge (b := 5) (by omega) (by decide)), show nI i = nI (⟨i, by omega⟩ : Fin 5).val from rfl, get4_v, gb_some, oilAfter_v hD, gb_some, gl_eq, show nI (⟨i, by omega⟩ : Fin 5).val + 1 = nI (i + 1) from nI_1 i, oilIn_32 t hD m (i + 1) n _ h e (by omega) (by omega), e, sumF, lft_at _ i (by omega)]
    rfl
theorem oilBehind_25 {z : Nat → Int32} {s : Int32} (z3 : z 3 = s) {D : Nat} (hD : D ≤ 200) (R5 : Int32 → Int32 → Int32 → Int32 → Hst → Option (Int32 × Hst)) (a1 a3 a4 : Int32) : ∀ (m i n : Nat) (x : Int32) (h : Hst), h.1 18 = z → i + m = D → m < n → lp_X7_oilBehind_25 R5 n a1 (nI D) a3 a4 x (nI i) h = R5 a1 (nI D) (a3 + aft s m x) (a4 + 1) h
  | 0, i, n + 1, x, h, e, hi, _ => by
    rw [lp_X7_oilBehind_25, if_pos (nI_le (by omega) (by omega)), gl_eq]; rfl
  | m + 1, i, n + 1, x, h, e, hi, hn => by
    rw [lp_X7_oilBehind_25, if_neg (nI_ge (show i < D by omega) (by omega)), gk_3_514, gd_1000, gl_eq, nI_1, oilBehind_25 z3 hD R5 a1 a3 a4 m (i + 1) n _ h e (by omega) (by omega), tn_3, e, z3, aft]
theorem oilBehind_5 {c z : Nat → Int32} {nl : Nat} (R : RelCZ c z nl) (t : Fin 6) {D : Nat} (hD : D ≤ 200) : ∀ (m i n : Nat) (acc : Int32) (h : Hst), h.1 18 = z → i + m = 5 → m < n → lp_X7_oilBehind_5 n (nI t.val) (nI D) acc (nI i) h = some (sumF (lft (oinF c t D)) m i acc, h)
  | 0, i, n + 1, acc, h, e, hi, _ => by
    rw [lp_X7_oilBehind_5, if_pos (show (5 : Int32) ≤ nI i from nI_le (a := 5) (by omega) (by omega))]; rfl
  | m + 1, i, n + 1, acc, h, e, hi, hn => by
    have z3 : z 3 = cS c 3 := R.1 3 (by decide)
    have r6 := R.2.2.2.2.2.1 t
    rw [lp_X7_oilBehind_5, if_neg (show ¬ (5 : Int32) ≤ nI i from nI_ge (b := 5) (by omega) (by decide)), show nI i = nI (⟨i, by omega⟩ : Fin 5).val from rfl, ofTank_v, gb_some, show (0 : Int32) = nI 0 from rfl, oilBehind_25 z3 hD _ _ _ _ D 0 FU _ h e (by omega) (Nat.lt_of_le_of_lt hD (by decide)), show nI (⟨i, by omega⟩ : Fin 5).val + 1 = nI (i + 1) from nI_1 i, oilBehind_5 R t hD m (i + 1) n _ h e (by omega) (by omega), e, r6, sumF, lft_at _ i (by omega)]
    rfl
theorem oilIn_C {c : Nat → Int32} {ng nl nt : Nat} (I : InvC c ng nl nt) (t : Fin 6) (ht : t.val < nt) {D : Nat} (hD : D ≤ 200) (h : Hst) (e : h.1 8 = c) : f_X6_oilIn (nI t.val) (nI D) h = some (.inl (sumF (lft (oinF c t D)) 5 0 0, h)) := by
  obtain ⟨⟨-, -, h6⟩, ⟨-, -, i9⟩, -⟩ := I
  unfold f_X6_oilIn
  rw [checkTank_gd h6 (by rw [e]; exact i9) ht, gbvx_inl, isOutside, if_neg (nI_pos (by omega)), if_pos (show nI D ≤ 200 from nI_le (b := 200) hD (by decide)), gb_some, if_pos rfl]
  exact oilIn_32 t hD 5 0 FU 0 h e rfl (by decide)
theorem oilIn_M {c z : Nat → Int32} {nl : Nat} (R : RelCZ c z nl) (t : Fin 6) {D : Nat} (hD : D ≤ 200) (h : Hst) (e : h.1 18 = z) : f_X7_oilBehind (nI t.val) (nI D) h = some (sumF (lft (oinF c t D)) 5 0 0, h) := by
  unfold f_X7_oilBehind
  exact oilBehind_5 R t hD 5 0 FU 0 h e rfl (by decide)
theorem op_oilIn {h : Hst} (S : Sim h) (p0 p1 : Int32) : Agree (f_L_oilIn p0 p1 h) (f_X7_oilIn p0 p1) := by
  obtain ⟨-, ⟨ng, nl, nt, I, R⟩, -⟩ := id S
  obtain ⟨⟨-, -, h6⟩, ⟨-, -, i9⟩, -⟩ := id I
  have z9 : h.1 18 9 = nI nt := (R.1 9 (by decide)).trans i9
  have B := bounds p1 0 200 (by decide) (by decide)
  rw [show nI 0 = (0 : Int32) from rfl, show nI 200 = (200 : Int32) from rfl] at B
  rcases idx p0 (n := nt) (by omega) with ⟨t, ht, rfl⟩ | b0
  · rcases B with ⟨D, -, hD, rfl, o, w⟩ | ⟨o, w⟩
    · refine agree_get S (fm := f_X7_oilBehind (nI t) (nI D)) (getV_pure (sumF (lft (oinF (h.1 8) ⟨t, by omega⟩ D)) 5 0 0) (fun H e _ => oilIn_C I ⟨t, by omega⟩ ht hD H e) (fun H e _ => oilIn_M R ⟨t, by omega⟩ hD H e)) rfl (fun H e => ?_)
      unfold f_X7_oilIn jb_X7_oilIn_29 jb_X7_oilIn_49
      rw [isTank_gd h6 (by rw [e]; exact z9) ht, gb_some, if_neg (by decide), w, gb_some, if_neg (by decide), gl_eq]
      show (if (0 : Int32) ≤ 0 then _ else _) = _
      rw [if_pos (by decide), gb_eta]
    · refine agree_bad S (k := 2) (by decide) ?_ ?_
      · unfold f_L_oilIn f_X6_oilIn
        rw [checkTank_gd h6 i9 ht, gbvx_inl, o, gb_some, if_neg (by decide), gbx_inr]
        rfl
      · unfold f_X7_oilIn jb_X7_oilIn_29 jb_X7_oilIn_49
        rw [isTank_gd h6 z9 ht, gb_some, if_neg (by decide), w, gb_some, if_pos rfl, gl_eq]
        show (if (2 : Int32) ≤ 0 then _ else _) = _
        rw [if_neg (by decide)]
  · refine agree_bad S (k := 1) (by decide) ?_ ?_
    · unfold f_L_oilIn f_X6_oilIn
      rw [checkTank_bad i9 b0, gbvx_inr, gbx_inr]
      rfl
    · unfold f_X7_oilIn jb_X7_oilIn_29 jb_X7_oilIn_49
      rw [isTank_bad z9 b0, gb_some, if_pos rfl, gl_eq]
      show (if (1 : Int32) ≤ 0 then _ else _) = _
      rw [if_neg (by decide)]
