-- days
theorem inv_day {c : Nat → Int32} {ng nl nt : Nat} (I : InvC c ng nl nt) (t : Fin 6) (ht : t.val < nt) (v : Fin 5) {x q : Int32} (hx : x = cTa c t (ts v)) (hq : q = x * cS c 3 / 1000) : InvC (uVa (uTa c t (ts v) (x - q)) v 3 (cVa c v 3 + q)) ng nl nt := by
  obtain ⟨o, ho, eo, T⟩ := TankI_dec (I.2.2.2.2.2.2.2.2.2 t) v
  obtain ⟨-, -, ⟨-, -, -, ⟨sd, hsd, esd⟩, -⟩, -⟩ := id I
  have e1 : q = nI (o * sd / 1000) := by
    rw [hq, hx, eo, esd, pk_mul]
    exact pk_div (d := 1000) (Nat.lt_of_le_of_lt (Nat.mul_le_mul ho hsd) (by decide)) (by decide) (by decide)
  have le : o * sd / 1000 ≤ o := by
    have : o * sd ≤ o * 1000 := Nat.mul_le_mul_left o (by omega)
    omega
  have e2 : x - q = nI (o - o * sd / 1000) := by rw [hx, eo, e1, pk_sub le]
  exact inv_V (inv_T I t (ts v) ht _ (by rw [e2]; exact T _ (by omega))) v 3 _ (fun w => absurd w (by decide))
def dF (d t v : Nat) (t' : Fin 6) (v' : Fin 5) : Nat := if t'.val * 5 + v'.val < t * 5 + v then d + 1 else if t'.val * 5 + v'.val < 15 then d else 0
theorem dF_step {d t v : Nat} (ht : t < 3) (hv : v < 5) (t' : Fin 6) (v' : Fin 5) : (if t' = ⟨t, by omega⟩ ∧ v' = ⟨v, hv⟩ then dF d t v ⟨t, by omega⟩ ⟨v, hv⟩ + 1 else dF d t v t' v') = dF d t (v + 1) t' v' := by
  have l1 := v'.isLt
  have l2 := t'.isLt
  unfold dF
  by_cases q : t' = ⟨t, by omega⟩ ∧ v' = ⟨v, hv⟩
  · have q1 : t'.val = t := congrArg Fin.val q.1
    have q2 : v'.val = v := congrArg Fin.val q.2
    rw [if_pos q, if_neg (by show ¬ t * 5 + v < t * 5 + v; omega), if_pos (by show t * 5 + v < 15; omega), if_pos (by omega)]
  · rw [if_neg q]
    have : ¬ (t'.val * 5 + v'.val = t * 5 + v) := fun z => q ⟨Fin.ext (by show t'.val = t; omega), Fin.ext (by show v'.val = v; omega)⟩
    by_cases w : t'.val * 5 + v'.val < t * 5 + v
    · rw [if_pos w, if_pos (by omega)]
    · rw [if_neg w, if_neg (show ¬ t'.val * 5 + v'.val < t * 5 + (v + 1) by omega)]
/-- the law's tanks beside cells of the class that have gone the same way -/
def DayI (s : Int32) (c0 : Nat → Int32) (nl : Nat) (h0 h : Hst) (f : Fin 6 → Fin 5 → Nat) (acc : Int32) : Prop :=
  (∀ k, k ≠ 24 → h.1 k = h0.1 k) ∧ ∃ c2, RT (h.1 24) c2 ∧ InvC c2 3 nl 3 ∧ PassI s c0 c2 f acc
theorem day_334 {s : Int32} {c0 : Nat → Int32} {nl D : Nat} {h0 : Hst} (e11 : h0.1 17 11 = s) (hs : cS c0 3 = s) (R313 : Int32 → Int32 → Int32 → Hst → Option (Int32 × Hst)) (R323 : Int32 → Int32 → Int32 → Int32 → Hst → Option (Int32 × Hst)) (d t : Nat) (ht : t < 3) : ∀ (m v n : Nat) (acc : Int32) (h : Hst), v + m = 5 → m < n → DayI s c0 nl h0 h (dF d t v) acc →
    ∃ acc' h', lp_L_act_334 R313 R323 n (nI D) acc (nI d) (nI t) (nI v) h = R323 (nI D) acc' (nI d) (nI (t + 1)) h' ∧ DayI s c0 nl h0 h' (dF d t 5) acc'
  | 0, v, n + 1, acc, h, hi, _, P => by
    refine ⟨acc, h, ?_, by rw [show (5 : Nat) = v by omega]; exact P⟩
    rw [lp_L_act_334, if_pos (show (5 : Int32) ≤ nI v from nI_le (a := 5) (by omega) (by omega)), nI_1]
  | m + 1, v, n + 1, acc, h, hi, hn, ⟨fr, c2, R, I, P⟩ => by
    have v5 : v < 5 := by omega
    have t6 : t < 6 := by omega
    have e24 : h.1 24 (7 * t + 2 + v) = cTa c2 ⟨t, t6⟩ (ts ⟨v, v5⟩) := R.v (t := ⟨t, t6⟩) ht ⟨v, v5⟩
    have e17 : h.1 17 11 = s := by rw [fr 17 (by decide)]; exact e11
    have s3 : cS c2 3 = s := (P.2.2.1 3).trans hs
    have P' := P.step ⟨t, t6⟩ ⟨v, v5⟩ 1 rfl rfl
    rw [aft1, i_ssub] at P'
    have I' := inv_day I ⟨t, t6⟩ ht ⟨v, v5⟩ rfl (q := cTa c2 ⟨t, t6⟩ (ts ⟨v, v5⟩) * s / 1000) (by rw [s3])
    have RU := R.upd ⟨t, t6⟩ (ts ⟨v, v5⟩) (cTa c2 ⟨t, t6⟩ (ts ⟨v, v5⟩) - cTa c2 ⟨t, t6⟩ (ts ⟨v, v5⟩) * s / 1000)
    have i24 : 7 * (⟨t, t6⟩ : Fin 6).val + (ts ⟨v, v5⟩).val = 7 * t + 2 + v := by show 7 * t + (2 + v) = _; omega
    rw [i24] at RU
    obtain ⟨acc', h', e', r⟩ := day_334 e11 hs R313 R323 d t ht m (v + 1) n (acc + cTa c2 ⟨t, t6⟩ (ts ⟨v, v5⟩) * s / 1000) (hst h 24 (7 * t + 2 + v) (cTa c2 ⟨t, t6⟩ (ts ⟨v, v5⟩) - cTa c2 ⟨t, t6⟩ (ts ⟨v, v5⟩) * s / 1000)) (by omega) (by omega)
      ⟨fun k hk => by rw [hst_at, if_neg hk, fr k hk], _, RU.congr (fun t' _ k => cTa_uVa _ _ _ _ _ _), I', P'.f_eq (fun t' v' => dF_step ht v5 t' v')⟩
    refine ⟨acc', h', ?_, r⟩
    rw [lp_L_act_334, if_neg (show ¬ (5 : Int32) ≤ nI v from nI_ge (b := 5) v5 (by decide)), ix72, gck_nI (by omega) (by decide), gk_11_15, gd_1000, nI_clamp (by omega), tn_11, e24, e17, gl_eq, gl_eq, gck_nI (by omega) (by decide), gck_nI (by omega) (by decide), nI_clamp (by omega), e24, gl_eq, gl_eq, nI_1]
    exact e'
theorem day_323 {s : Int32} {c0 : Nat → Int32} {nl D : Nat} {h0 : Hst} (e11 : h0.1 17 11 = s) (e2 : h0.1 17 2 = nI 3) (hs : cS c0 3 = s) (R313 : Int32 → Int32 → Int32 → Hst → Option (Int32 × Hst)) (d : Nat) : ∀ (m t n : Nat) (acc : Int32) (h : Hst), t + m = 3 → m < n → DayI s c0 nl h0 h (dF d t 0) acc →
    ∃ acc' h', lp_L_act_323 R313 n (nI D) acc (nI d) (nI t) h = R313 (nI D) acc' (nI (d + 1)) h' ∧ DayI s c0 nl h0 h' (dF d 3 0) acc'
  | 0, t, n + 1, acc, h, hi, _, P => by
    have e : h.1 17 2 = nI 3 := by rw [P.1 17 (by decide)]; exact e2
    refine ⟨acc, h, ?_, by rw [show (3 : Nat) = t by omega]; exact P⟩
    rw [lp_L_act_323, gk_2_15, tn_2, e, if_pos (nI_le (by omega) (by omega)), nI_1]
  | m + 1, t, n + 1, acc, h, hi, hn, P => by
    have e : h.1 17 2 = nI 3 := by rw [P.1 17 (by decide)]; exact e2
    obtain ⟨acc1, h1, e1, P1⟩ := day_334 (D := D) e11 hs R313 (lp_L_act_323 R313 n) d t (by omega) 5 0 FU acc h rfl (by decide) P
    obtain ⟨fr, c2, Rt, I, Pp⟩ := P1
    obtain ⟨acc', h', e', r⟩ := day_323 (D := D) e11 e2 hs R313 d m (t + 1) n acc1 h1 (by omega) (by omega) ⟨fr, c2, Rt, I, Pp.f_eq (fun t' v' => by unfold dF; rw [show t * 5 + 5 = (t + 1) * 5 + 0 by omega])⟩
    refine ⟨acc', h', ?_, r⟩
    rw [lp_L_act_323, gk_2_15, tn_2, e, if_neg (nI_ge (by omega) (by omega))]
    exact e1.trans e'
theorem day_313 {s : Int32} {c0 : Nat → Int32} {nl D : Nat} (hD : D ≤ 9) {h0 : Hst} (e11 : h0.1 17 11 = s) (e2 : h0.1 17 2 = nI 3) (hs : cS c0 3 = s) : ∀ (m d n : Nat) (acc : Int32) (h : Hst), d + m = D → m < n → DayI s c0 nl h0 h (dF d 0 0) acc →
    ∃ acc' h', lp_L_act_313 n (nI D) acc (nI d) h = (gb (f_X6_pass (nI D) h') fun x2 h1 => if x2 = acc' then jb_L_act_423 1 h1 else jb_L_act_423 0 h1) ∧ DayI s c0 nl h0 h' (dF D 0 0) acc'
  | 0, d, n + 1, acc, h, hi, _, P => by
    refine ⟨acc, h, ?_, by rw [show D = d by omega]; exact P⟩
    rw [lp_L_act_313, if_pos (nI_le (by omega) (by omega))]
  | m + 1, d, n + 1, acc, h, hi, hn, P => by
    obtain ⟨acc1, h1, e1, fr, c2, Rt, I, Pp⟩ := day_323 (D := D) e11 e2 hs (lp_L_act_313 n) d 3 0 FU acc h rfl (by decide) P
    obtain ⟨acc', h', e', r⟩ := day_313 hD e11 e2 hs m (d + 1) n acc1 h1 (by omega) (by omega) ⟨fr, c2, Rt, I, Pp.f_eq (fun t' v' => by
      unfold dF
      rw [if_neg (show ¬ t'.val * 5 + v'.val < 0 * 5 + 0 by omega), show 3 * 5 + 0 = 15 from rfl]
      by_cases w : t'.val * 5 + v'.val < 15
      · rw [if_pos w, if_pos w]
      · rw [if_neg w, if_neg w, if_neg w])⟩
    refine ⟨acc', h', ?_, r⟩
    rw [lp_L_act_313, if_neg (nI_ge (by omega) (by omega))]
    exact e1.trans e'
theorem act_days {h : Hst} {nl b : Nat} (j : J h nl b) {D : Nat} (D1 : 1 ≤ D) (hD : D ≤ 9) : ∃ h', lp_L_act_313 FU (nI D) 0 0 (hst h 17 6 (h.1 17 6 + nI D)) = some (1, h') ∧ J h' nl b := by
  obtain ⟨hn, S, I, R⟩ := j
  obtain ⟨⟨⟨n0, n1, n2, n3, n4, n5, n6, n7⟩, n8⟩, r18, r19, r20, r22, rt, r25, rg⟩ := R
  have f8 : (hst h 17 6 (h.1 17 6 + nI D)).1 8 = h.1 8 := rfl
  have f17 : (hst h 17 6 (h.1 17 6 + nI D)).1 17 = upd (h.1 17) 6 (h.1 17 6 + nI D) := rfl
  have e11 : (hst h 17 6 (h.1 17 6 + nI D)).1 17 11 = cS (h.1 8) 3 := by rw [f17, upd_ne (by decide)]; exact n8 3
  have e2 : (hst h 17 6 (h.1 17 6 + nI D)).1 17 2 = nI 3 := by rw [f17, upd_ne (by decide)]; exact n2
  have I0 : InvC (uS (h.1 8) 13 (cS (h.1 8) 13 + nI D)) 3 nl 3 := inv_S I 13 (Or.inr rfl) _
  have hs : cS (uS (h.1 8) 13 (cS (h.1 8) 13 + nI D)) 3 = cS (h.1 8) 3 := cS_ne _ _ (by decide)
  obtain ⟨acc1, h1, e1, fr, c2, R2, I2, P2⟩ := day_313 (nl := nl) hD e11 e2 hs D 0 FU 0 _ (by omega) (Nat.lt_of_le_of_lt hD (by decide)) ⟨fun _ _ => rfl, _, rt.congr (fun t _ k => cTa_uS _ _ _ _ _), I0, (PassI.start _ _).f_eq (fun t v => by unfold dF; rw [if_neg (by omega)]; split <;> rfl)⟩
  have h18 : h1.1 8 = h.1 8 := (fr 8 (by decide)).trans f8
  obtain ⟨acc, h', e', P, S', ou⟩ := cls_pass (h := h1) ((S.same rfl : SVx (hst h 17 6 (h.1 17 6 + nI D))).same (fr 1 (by decide))) (by rw [h18]; exact I) D1 (by omega)
  rw [h18] at P
  have P2' := P2.f_eq (g := fun t' v' => if t'.val * 5 + v'.val < 3 * 5 then D else 0) (fun t v => by unfold dF; rw [if_neg (by omega)])
  obtain ⟨a1, a2, a3, a4, a5, a6, a7, a8⟩ := P
  obtain ⟨b1, b2, b3, b4, b5, b6, b7, b8⟩ := P2'
  have cells : ∀ t v, cTa (h'.1 8) t (ts v) = cTa c2 t (ts v) := fun t v => by rw [a6, b6]
  have s6 : ∀ v, sum6 (fun t => cTa (h'.1 8) t (ts v)) = sum6 (fun t => cTa c2 t (ts v)) := fun v => by
    congr 1; funext t; exact cells t v
  have acce : acc = acc1 := by
    have s5 : sum5 (fun v => sum6 (fun t => cTa (h'.1 8) t (ts v))) = sum5 (fun v => sum6 (fun t => cTa c2 t (ts v))) := by
      congr 1; funext v; exact s6 v
    rw [s5] at a8
    exact i_canc (a8.trans b8.symm)
  have tall : ∀ t k, cTa (h'.1 8) t k = cTa c2 t k := fun t k => cTa_all ((a5 t).1.trans (b5 t).1.symm) ((a5 t).2.trans (b5 t).2.symm) (cells t) k
  have I' : InvC (h'.1 8) 3 nl 3 := by
    refine I2.acc (fun i k => ?_) (fun i k => ?_) tall (fun i k => ?_) (fun i => ?_)
    · rw [a1, b1]
    · rw [a2, b2]
    · by_cases k3 : k = 3
      · subst k3
        have x1 := a7 i
        have x2 := b7 i
        rw [s6] at x1
        exact i_canc (x1.trans x2.symm)
      · rw [a4 i k k3, b4 i k k3]
    · rw [a3, b3]
  refine ⟨h', ?_, J_end hn rfl S' ou I' ?_⟩
  · rw [show nI 0 = (0 : Int32) from rfl] at e1
    rw [e1, e', gb_some, acce, if_pos rfl]
    unfold jb_L_act_423
    rw [gzr_1]
  · unfold RelL
    rw [fr 17 (by decide), fr 18 (by decide), fr 19 (by decide), fr 20 (by decide), fr 21 (by decide), fr 22 (by decide), fr 23 (by decide), fr 25 (by decide), f17]
    have gS : ∀ i : Fin 14, i.val ≠ 13 → cS (h'.1 8) i = cS (h.1 8) i := fun i hi => by rw [a3, cS_ne _ _ hi]
    refine ⟨⟨?_, fun i => ?_⟩, r18.congr (fun v => by rw [a4 v 0 (by decide), cVa_uS]), r19.congr (fun l k => by rw [a2, cLo_uS]), r20.congr (fun l k => by rw [a2, cLo_uS]), r22.congr (fun l k => by rw [a2, cLo_uS]), R2.congr (fun t _ k => tall t k), r25.congr (fun g => by rw [a1, cGr_uS]), rg.congr (fun t => by rw [(a5 t).2, cTa_uS]) (fun l k => by rw [a2, cLo_uS]) (fun g => by rw [a1, cGr_uS])⟩
    · have q3 : rv (h'.1 8) = rv (h.1 8) := by
        unfold rv
        rw [gS 11 (by decide), gS 10 (by decide)]
      have q7 : sum8 (fun g => cGr (h'.1 8) g 2) = sum8 (fun g => cGr (h.1 8) g 2) := by
        congr 1; funext g; rw [a1, cGr_uS]
      have q13 : cS (h'.1 8) 13 = cS (h.1 8) 13 + nI D := by rw [a3, cS_uS, if_pos rfl]
      rw [q3, q7, q13, gS 11 (by decide), gS 12 (by decide), upd_eq, upd_ne (by decide), upd_ne (by decide), upd_ne (by decide), upd_ne (by decide), upd_ne (by decide), upd_ne (by decide), upd_ne (by decide), n6]
      exact ⟨n0, n1, n2, n3, n4, n5, rfl, n7⟩
    · have li := i.isLt
      rw [upd_ne (by omega), gS _ (by show i.val ≠ 13; omega)]
      exact n8 i
