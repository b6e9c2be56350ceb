-- sediment
def aft (s : Int32) : Nat → Int32 → Int32
  | 0, x => x
  | m + 1, x => aft s m (x - x * s / 1000)
theorem aft_add (s : Int32) : ∀ (m k : Nat) (x : Int32), aft s (m + k) x = aft s k (aft s m x)
  | 0, k, x => by rw [Nat.zero_add]; rfl
  | m + 1, k, x => by rw [show m + 1 + k = (m + k) + 1 by omega, aft, aft, aft_add s m k]
theorem oilAfter_5 {c : Nat → Int32} {D : Nat} (hD : D ≤ 200) : ∀ (m i n : Nat) (x : Int32) (h : Hst), h.1 8 = c → i + m = D → m < n → lp_X1_oilAfter_5 n (nI D) x (nI i) h = some (aft (cS c 3) m x, h)
  | 0, i, n + 1, x, h, e, hi, _ => by
    rw [lp_X1_oilAfter_5, if_pos (nI_le (by omega) (by omega))]; rfl
  | m + 1, i, n + 1, x, h, e, hi, hn => by
    rw [lp_X1_oilAfter_5, if_neg (nI_ge (show i < D by omega) (by omega)), row6_3, gb_some, gd_1000, gl_eq, nI_1, oilAfter_5 hD m (i + 1) n _ h e (by omega) (by omega), e, aft]
theorem oilAfter_v {D : Nat} (hD : D ≤ 200) (x : Int32) (h : Hst) : f_X1_oilAfter (nI D) x h = some (aft (cS (h.1 8) 3) D x, h) :=
  oilAfter_5 hD D 0 FU x h rfl (by omega) (Nat.lt_of_le_of_lt hD (by decide))
def ts (v : Fin 5) : Fin 7 := ⟨2 + v.val, by omega⟩
theorem get4_v (t : Fin 6) (v : Fin 5) (h : Hst) : f_X5_get_4 (nI t.val) (2 + nI v.val) h = some (cTa (h.1 8) t (ts v), h) := by
  rw [show (2 : Int32) + nI v.val = nI (2 + v.val) from nI_add 2 v.val]; exact get4 t (ts v) h
theorem put4_v (t : Fin 6) (v : Fin 5) (x : Int32) (h : Hst) : f_X5_put_4 (nI t.val) (2 + nI v.val) x h = some (hso h 8 (uTa (h.1 8) t (ts v) x)) := by
  rw [show (2 : Int32) + nI v.val = nI (2 + v.val) from nI_add 2 v.val]; exact put4 t (ts v) x h
theorem add4_v (t : Fin 6) (v : Fin 5) (x : Int32) (h : Hst) : f_X5_add_4 (nI t.val) (2 + nI v.val) x h = some (hso h 8 (uTa (h.1 8) t (ts v) (cTa (h.1 8) t (ts v) + x))) := by
  rw [show (2 : Int32) + nI v.val = nI (2 + v.val) from nI_add 2 v.val]; exact add4 t (ts v) x h
def sum6 (f : Fin 6 → Int32) : Int32 := 0 + f 0 + f 1 + f 2 + f 3 + f 4 + f 5
def sum5 (f : Fin 5 → Int32) : Int32 := 0 + f 0 + f 1 + f 2 + f 3 + f 4
theorem sum6_add (f f' : Fin 6 → Int32) (g : Fin 6) (x : Int32) (hg : f' g = f g + x) (ho : ∀ j, j ≠ g → f' j = f j) : sum6 f' = sum6 f + x := by
  unfold sum6
  rcases fin6 g with rfl | rfl | rfl | rfl | rfl | rfl
  · rw [hg, ho 1 (by decide), ho 2 (by decide), ho 3 (by decide), ho 4 (by decide), ho 5 (by decide)]; ac_rfl
  · rw [hg, ho 0 (by decide), ho 2 (by decide), ho 3 (by decide), ho 4 (by decide), ho 5 (by decide)]; ac_rfl
  · rw [hg, ho 0 (by decide), ho 1 (by decide), ho 3 (by decide), ho 4 (by decide), ho 5 (by decide)]; ac_rfl
  · rw [hg, ho 0 (by decide), ho 1 (by decide), ho 2 (by decide), ho 4 (by decide), ho 5 (by decide)]; ac_rfl
  · rw [hg, ho 0 (by decide), ho 1 (by decide), ho 2 (by decide), ho 3 (by decide), ho 5 (by decide)]; ac_rfl
  · rw [hg, ho 0 (by decide), ho 1 (by decide), ho 2 (by decide), ho 3 (by decide), ho 4 (by decide)]; ac_rfl
theorem sum5_add (f f' : Fin 5 → Int32) (g : Fin 5) (x : Int32) (hg : f' g = f g + x) (ho : ∀ j, j ≠ g → f' j = f j) : sum5 f' = sum5 f + x := by
  unfold sum5
  rcases fin5 g with rfl | rfl | rfl | rfl | rfl
  · rw [hg, ho 1 (by decide), ho 2 (by decide), ho 3 (by decide), ho 4 (by decide)]; ac_rfl
  · rw [hg, ho 0 (by decide), ho 2 (by decide), ho 3 (by decide), ho 4 (by decide)]; ac_rfl
  · rw [hg, ho 0 (by decide), ho 1 (by decide), ho 3 (by decide), ho 4 (by decide)]; ac_rfl
  · rw [hg, ho 0 (by decide), ho 1 (by decide), ho 2 (by decide), ho 4 (by decide)]; ac_rfl
  · rw [hg, ho 0 (by decide), ho 1 (by decide), ho 2 (by decide), ho 3 (by decide)]; ac_rfl
theorem i_pot (a S x y : Int32) : a + (x - y) + (S + (y - x)) = a + S := by
  rw [Int32.sub_eq_add_neg x, Int32.sub_eq_add_neg y]
  have e1 : x + -x = 0 := Int32.add_right_neg x
  have e2 : y + -y = 0 := Int32.add_right_neg y
  have : a + (x + -y) + (S + (y + -x)) = (a + S) + ((x + -x) + (y + -y)) := by ac_rfl
  rw [this, e1, e2, Int32.add_zero, Int32.add_zero]
theorem i_back (x y : Int32) : y = x + (y - x) := by
  rw [Int32.sub_eq_add_neg, Int32.add_comm, Int32.add_assoc, Int32.add_left_neg, Int32.add_zero]
theorem i_ssub (x q : Int32) : x - (x - q) = q := by
  rw [Int32.sub_eq_add_neg x (x - q), Int32.sub_eq_add_neg x q, Int32.neg_add, Int32.sub_eq_add_neg, Int32.neg_neg, ← Int32.add_assoc, Int32.add_right_neg, Int32.zero_add]
def PassI (s : Int32) (c0 c : Nat → Int32) (f : Fin 6 → Fin 5 → Nat) (acc : Int32) : Prop :=
  (∀ i k, cGr c i k = cGr c0 i k) ∧ (∀ i k, cLo c i k = cLo c0 i k) ∧ (∀ i, cS c i = cS c0 i) ∧ (∀ v k, k ≠ 3 → cVa c v k = cVa c0 v k) ∧ (∀ t : Fin 6, cTa c t 0 = cTa c0 t 0 ∧ cTa c t 1 = cTa c0 t 1) ∧
  (∀ t v, cTa c t (ts v) = aft s (f t v) (cTa c0 t (ts v))) ∧ (∀ v, cVa c v 3 + sum6 (fun t => cTa c t (ts v)) = cVa c0 v 3 + sum6 (fun t => cTa c0 t (ts v))) ∧
  acc + sum5 (fun v => sum6 (fun t => cTa c t (ts v))) = sum5 (fun v => sum6 (fun t => cTa c0 t (ts v)))
theorem ts_inj {a b : Fin 5} : ts a = ts b ↔ a = b := ⟨fun h => Fin.ext (by have := congrArg Fin.val h; simp only [ts] at this; omega), fun h => by rw [h]⟩
theorem PassI.step {s : Int32} {c0 c : Nat → Int32} {f : Fin 6 → Fin 5 → Nat} {acc : Int32} (P : PassI s c0 c f acc) (t : Fin 6) (v : Fin 5) (k : Nat) {x y : Int32} (hx : x = cTa c t (ts v)) (hy : y = aft s k x) : PassI s c0 (uVa (uTa c t (ts v) y) v 3 (cVa c v 3 + (x - y))) (fun t' v' => if t' = t ∧ v' = v then f t v + k else f t' v') (acc + (x - y)) := by
  obtain ⟨p1, p2, p3, p4, p5, p6, p7, p8⟩ := P
  have cell : ∀ t' v', cTa (uVa (uTa c t (ts v) y) v 3 (cVa c v 3 + (x - y))) t' (ts v') = if t' = t ∧ v' = v then y else cTa c t' (ts v') := fun t' v' => by
    rw [cTa_uVa, cTa_uTa]; simp only [ts_inj]
  have s6 : ∀ v', sum6 (fun t' => cTa (uVa (uTa c t (ts v) y) v 3 (cVa c v 3 + (x - y))) t' (ts v')) = if v' = v then sum6 (fun t' => cTa c t' (ts v)) + (y - x) else sum6 (fun t' => cTa c t' (ts v')) := fun v' => by
    by_cases q : v' = v
    · subst q
      rw [if_pos rfl]
      refine sum6_add _ _ t _ ?_ (fun j hj => ?_)
      · show cTa _ t (ts v') = cTa c t (ts v') + (y - x)
        rw [cell, if_pos ⟨rfl, rfl⟩, ← hx]; exact i_back x y
      · show cTa _ j (ts v') = cTa c j (ts v')
        rw [cell, if_neg (fun z => hj z.1)]
    · rw [if_neg q]
      congr 1
      funext t'
      rw [cell, if_neg (fun z => q z.2)]
  refine ⟨fun i k => ?_, fun i k => ?_, fun i => ?_, fun v' k hk => ?_, fun t' => ⟨?_, ?_⟩, fun t' v' => ?_, fun v' => ?_, ?_⟩
  · rw [cGr_uVa, cGr_uTa]; exact p1 i k
  · rw [cLo_uVa, cLo_uTa]; exact p2 i k
  · rw [cS_uVa, cS_uTa]; exact p3 i
  · rw [cVa_uVa, if_neg (fun z => hk z.2), cVa_uTa]; exact p4 v' k hk
  · rw [cTa_uVa, cTa_uTa, if_neg (fun z => by have := congrArg Fin.val z.2; simp only [ts] at this; revert this; show ¬ 0 = 2 + v.val; omega)]; exact (p5 t').1
  · rw [cTa_uVa, cTa_uTa, if_neg (fun z => by have := congrArg Fin.val z.2; simp only [ts] at this; revert this; show ¬ 1 = 2 + v.val; omega)]; exact (p5 t').2
  · rw [cell]
    dsimp only
    by_cases q : t' = t ∧ v' = v
    · rw [if_pos q, if_pos q, hy, hx, p6, q.1, q.2, aft_add]
    · rw [if_neg q, if_neg q, p6]
  · rw [s6, cVa_uVa, cVa_uTa]
    by_cases q : v' = v
    · subst q
      rw [if_pos rfl, if_pos ⟨rfl, rfl⟩, i_pot]; exact p7 v'
    · rw [if_neg q, if_neg (fun z => q z.1)]; exact p7 v'
  · have e5 : sum5 (fun v' => sum6 (fun t' => cTa (uVa (uTa c t (ts v) y) v 3 (cVa c v 3 + (x - y))) t' (ts v'))) = sum5 (fun v' => sum6 (fun t' => cTa c t' (ts v'))) + (y - x) := by
      refine sum5_add _ _ v _ ?_ (fun j hj => ?_)
      · show sum6 _ = sum6 _ + (y - x)
        rw [s6, if_pos rfl]
      · show sum6 _ = sum6 _
        rw [s6, if_neg hj]
    rw [e5, i_pot]; exact p8
theorem PassI.f_eq {s : Int32} {c0 c : Nat → Int32} {f g : Fin 6 → Fin 5 → Nat} {acc : Int32} (P : PassI s c0 c f acc) (h : ∀ t v, f t v = g t v) : PassI s c0 c g acc := by
  have : f = g := funext fun t => funext fun v => h t v
  rw [← this]; exact P
theorem settle_v (t : Fin 6) (v : Fin 5) {D : Nat} (hD : D ≤ 200) (h : Hst) : f_X1_settle (nI t.val) (nI v.val) (nI D) h = some (cTa (h.1 8) t (ts v) - aft (cS (h.1 8) 3) D (cTa (h.1 8) t (ts v)), hso h 8 (uVa (uTa (h.1 8) t (ts v) (aft (cS (h.1 8) 3) D (cTa (h.1 8) t (ts v)))) v 3 (cVa (h.1 8) v 3 + (cTa (h.1 8) t (ts v) - aft (cS (h.1 8) 3) D (cTa (h.1 8) t (ts v)))))) := by
  unfold f_X1_settle
  rw [get4_v, gb_some, oilAfter_v hD, gb_some, put4_v, gbv_some, add5_3, gbv_some, hso_hso, hso_at, if_pos rfl, cVa_uTa]
theorem pass_66 {s : Int32} {c0 : Nat → Int32} (hs : cS c0 3 = s) {D nt : Nat} (hD : D ≤ 200) (t : Fin 6) (R57 : Int32 → Int32 → Int32 → Int32 → Hst → Option (Int32 × Hst)) : ∀ (m v n : Nat) (acc : Int32) (h : Hst), v + m = 5 → m < n → PassI s c0 (h.1 8) (fun t' v' => if t'.val * 5 + v'.val < t.val * 5 + v then D else 0) acc →
    ∃ acc' h', lp_X6_pass_66 R57 n (nI D) acc (nI nt) (nI t.val) (nI v) h = R57 (nI D) acc' (nI nt) (nI (t.val + 1)) h' ∧ h'.2 = h.2 ∧ (∀ k, k ≠ 8 → h'.1 k = h.1 k) ∧ PassI s c0 (h'.1 8) (fun t' v' => if t'.val * 5 + v'.val < (t.val + 1) * 5 then D else 0) acc'
  | 0, v, n + 1, acc, h, hi, _, P => by
    refine ⟨acc, h, ?_, rfl, fun _ _ => rfl, P.f_eq (fun t' v' => by rw [show t.val * 5 + v = (t.val + 1) * 5 by omega])⟩
    rw [lp_X6_pass_66, if_pos (show (5 : Int32) ≤ nI v from nI_le (a := 5) (by omega) (by omega)), nI_1]
  | m + 1, v, n + 1, acc, h, hi, hn, P => by
    have e3 : cS (h.1 8) 3 = s := by rw [P.2.2.1 3, hs]
    have P' := P.step t ⟨v, by omega⟩ D rfl rfl
    have st := settle_v t ⟨v, by omega⟩ hD h
    rw [e3] at st
    obtain ⟨acc', h', e, r1, r2, r3⟩ := pass_66 hs hD t R57 m (v + 1) n _ (hso h 8 _) (by omega) (by omega) (P'.f_eq (fun t' v' => by
      have l1 := v'.isLt
      have l2 := t'.isLt
      dsimp only
      by_cases q : t' = t ∧ v' = ⟨v, by omega⟩
      · have q1 := congrArg Fin.val q.1
        have q2 : v'.val = v := congrArg Fin.val q.2
        rw [if_pos q, if_neg (Nat.lt_irrefl _), Nat.zero_add, if_pos (by omega)]
      · rw [if_neg q]
        have : ¬ (t'.val * 5 + v'.val = t.val * 5 + v) := fun z => q ⟨Fin.ext (by omega), Fin.ext (by show v'.val = v; omega)⟩
        by_cases w : t'.val * 5 + v'.val < t.val * 5 + v
        · rw [if_pos w, if_pos (by omega)]
        · rw [if_neg w, if_neg (by omega)]))
    refine ⟨acc', h', ?_, r1, fun k hk => ?_, r3⟩
    · rw [lp_X6_pass_66, if_neg (show ¬ (5 : Int32) ≤ nI v from nI_ge (b := 5) (by omega) (by decide)), show nI v = nI (⟨v, by omega⟩ : Fin 5).val from rfl, st, gb_some, gl_eq, show nI (⟨v, by omega⟩ : Fin 5).val + 1 = nI (v + 1) from nI_1 v]
      exact e
    · rw [r2 k hk, hso_at, if_neg hk]
theorem pass_57 {s : Int32} {c0 : Nat → Int32} (hs : cS c0 3 = s) {D nt : Nat} (hD : D ≤ 200) (ht : nt ≤ 6) : ∀ (m t n : Nat) (acc : Int32) (h : Hst), t + m = nt → m < n → PassI s c0 (h.1 8) (fun t' v' => if t'.val * 5 + v'.val < t * 5 then D else 0) acc →
    ∃ acc' h', lp_X6_pass_57 n (nI D) acc (nI nt) (nI t) h = some (acc', h') ∧ h'.2 = h.2 ∧ (∀ k, k ≠ 8 → h'.1 k = h.1 k) ∧ PassI s c0 (h'.1 8) (fun t' v' => if t'.val * 5 + v'.val < nt * 5 then D else 0) acc'
  | 0, t, n + 1, acc, h, hi, _, P => by
    refine ⟨acc, h, ?_, rfl, fun _ _ => rfl, P.f_eq (fun t' v' => by rw [show t = nt by omega])⟩
    rw [lp_X6_pass_57, if_pos (nI_le (by omega) (by omega))]
  | m + 1, t, n + 1, acc, h, hi, hn, P => by
    obtain ⟨acc1, h1, e1, a1, a2, a3⟩ := pass_66 (nt := nt) hs hD ⟨t, by omega⟩ (lp_X6_pass_57 n) 5 0 FU acc h rfl (by decide) P
    obtain ⟨acc', h', e, r1, r2, r3⟩ := pass_57 hs hD ht m (t + 1) n acc1 h1 (by omega) (by omega) a3
    refine ⟨acc', h', ?_, r1.trans a1, fun k hk => (r2 k hk).trans (a2 k hk), r3⟩
    rw [lp_X6_pass_57, if_neg (nI_ge (show t < nt by omega) (by omega))]
    exact e1.trans e
theorem TankI_dec {c : Nat → Int32} {t : Fin 6} (h : TankI c t) (v : Fin 5) : ∃ o : Nat, o ≤ 20000 ∧ cTa c t (ts v) = nI o ∧ ∀ y : Nat, y ≤ o → TankI (uTa c t (ts v) (nI y)) t := by
  obtain ⟨s, o0, o1, o2, o3, o4, h1, h2, e0, e2, e3, e4, e5, e6⟩ := h
  rcases fin5 v with rfl | rfl | rfl | rfl | rfl
  · refine ⟨o0, by omega, e2, fun y hy => ⟨s, y, o1, o2, o3, o4, h1, by omega, ?_⟩⟩
    rw [show ts 0 = 2 from rfl]
    simp only [cTa_uTa]
    exact ⟨e0, rfl, e3, e4, e5, e6⟩
  · refine ⟨o1, by omega, e3, fun y hy => ⟨s, o0, y, o2, o3, o4, h1, by omega, ?_⟩⟩
    rw [show ts 1 = 3 from rfl]
    simp only [cTa_uTa]
    exact ⟨e0, e2, rfl, e4, e5, e6⟩
  · refine ⟨o2, by omega, e4, fun y hy => ⟨s, o0, o1, y, o3, o4, h1, by omega, ?_⟩⟩
    rw [show ts 2 = 4 from rfl]
    simp only [cTa_uTa]
    exact ⟨e0, e2, e3, rfl, e5, e6⟩
  · refine ⟨o3, by omega, e5, fun y hy => ⟨s, o0, o1, o2, y, o4, h1, by omega, ?_⟩⟩
    rw [show ts 3 = 5 from rfl]
    simp only [cTa_uTa]
    exact ⟨e0, e2, e3, e4, rfl, e6⟩
  · refine ⟨o4, by omega, e6, fun y hy => ⟨s, o0, o1, o2, o3, y, h1, by omega, ?_⟩⟩
    rw [show ts 4 = 6 from rfl]
    simp only [cTa_uTa]
    exact ⟨e0, e2, e3, e4, e5, rfl⟩
theorem aft1 (s x : Int32) : aft s 1 x = x - x * s / 1000 := rfl
theorem PassI.start (s : Int32) (c0 : Nat → Int32) : PassI s c0 c0 (fun _ _ => 0) 0 :=
  ⟨fun _ _ => rfl, fun _ _ => rfl, fun _ => rfl, fun _ _ _ => rfl, fun _ => ⟨rfl, rfl⟩, fun _ _ => rfl, fun _ => rfl, Int32.zero_add _⟩
theorem cTa_all {c c' : Nat → Int32} {t : Fin 6} (h0 : cTa c t 0 = cTa c' t 0) (h1 : cTa c t 1 = cTa c' t 1) (hv : ∀ v, cTa c t (ts v) = cTa c' t (ts v)) (k : Fin 7) : cTa c t k = cTa c' t k := by
  rcases fin7 k with rfl | rfl | rfl | rfl | rfl | rfl | rfl
  · exact h0
  · exact h1
  · exact hv 0
  · exact hv 1
  · exact hv 2
  · exact hv 3
  · exact hv 4
theorem i_canc {a b S : Int32} (h : a + S = b + S) : a = b := by
  have := congrArg (fun x => x + -S) h
  simpa only [Int32.add_assoc, Int32.add_right_neg, Int32.add_zero] using this
theorem cls_pass {h : Hst} {ng nl nt : Nat} (S : SVx h) (I : InvC (h.1 8) ng nl nt) {D : Nat} (D1 : 1 ≤ D) (hD : D ≤ 100) :
    ∃ acc h', f_X6_pass (nI D) h = some (acc, h') ∧ PassI (cS (h.1 8) 3) (uS (h.1 8) 13 (cS (h.1 8) 13 + nI D)) (h'.1 8) (fun t' v' => if t'.val * 5 + v'.val < nt * 5 then D else 0) acc ∧ SVx h' ∧ Out h h' := by
  obtain ⟨⟨hg, hl, ht⟩, ⟨i7, i8, i9⟩, -⟩ := id I
  obtain ⟨hc, e, ef, Sc⟩ := sav S
  have e8 := ef 8 (by decide) (by decide)
  have o : f_X6_isOutside (nI D) 1 100 h = some (0, h) := isOut_gd (lo := 1) (hi := 100) D1 hD (by decide) h
  have P0 : PassI (cS (h.1 8) 3) (uS (h.1 8) 13 (cS (h.1 8) 13 + nI D)) ((hso hc 8 (uS (hc.1 8) 13 (cS (hc.1 8) 13 + nI D))).1 8) (fun t' v' => if t'.val * 5 + v'.val < 0 * 5 then D else 0) 0 := by
    rw [hso_at, if_pos rfl, e8]
    exact (PassI.start _ _).f_eq (fun t v => by rw [if_neg (by omega)])
  obtain ⟨acc1, h1, c1, c2, c3, c4⟩ := pass_57 (nt := nt) (D := D) (by rw [cS_uS, if_neg (by decide)]) (by omega) ht nt 0 FU 0 _ (by omega) (Nat.lt_of_le_of_lt ht (by decide)) P0
  refine ⟨acc1, h1, ?_, c4, (Sc.same rfl : SVx (hso hc 8 (uS (hc.1 8) 13 (cS (hc.1 8) 13 + nI D)))).same (c3 1 (by decide)), fun k hk => ?_⟩
  · unfold f_X6_pass
    rw [o, gb_some, if_pos rfl, e, gbv_some, rowa7_6, gbv_some, row7_2, gb_some, hso_at, if_pos rfl, cS_uS, if_neg (by decide), e8, i9]
    rw [e8, show nI 0 = (0 : Int32) from rfl] at c1
    exact c1
  · rw [c3 k (by omega), hso_at, if_neg (by omega), ef k (by omega) (by omega)]
