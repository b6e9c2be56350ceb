-- the class reads a character
theorem d48 : ∀ x : Fin 127, x.val < 48 → nI x.val - 48 < 0 := by decide
theorem ncs_step (n v a b ls ms j : Nat) (h : Hst) (hj : j < 4) (ha : a < 2 ^ 31) (hb : b < 2 ^ 31) (hl : ls < 2 ^ 31) (hm : ms < 2 ^ 31) (hv : v < 2 ^ 31) (e1 : h.1 15 1 = nI ls) (e2 : h.1 15 2 = nI ms) (e3 : h.1 15 3 = nI v) :
    lp_X4_numberCanStand_12 (n + 1) (nI a) (nI b) (nI j) h = if a ≤ ms ∧ ls ≤ b then some (1, h) else if v = 0 then some (0, h) else lp_X4_numberCanStand_12 n (nI (a * 10)) (nI (b * 10 + 9)) (nI (j + 1)) h := by
  have t : jb_X4_numberCanStand_35 (lp_X4_numberCanStand_12 n) (nI a) (nI b) (nI j) h = if v = 0 then some (0, h) else lp_X4_numberCanStand_12 n (nI (a * 10)) (nI (b * 10 + 9)) (nI (j + 1)) h := by
    unfold jb_X4_numberCanStand_35
    rw [e3, show (10 : Int32) = nI 10 from rfl, show (9 : Int32) = nI 9 from rfl, pk_mul, pk_mul, nI_add, gl_eq, gl_eq, nI_1]
    by_cases q : v = 0
    · rw [if_pos q, if_pos (by rw [q]; rfl), gzr_0]
    · rw [if_neg q, if_neg (nI_ne0 (by omega) hv)]
  rw [lp_X4_numberCanStand_12, if_neg (show ¬ (4 : Int32) ≤ nI j from nI_ge (b := 4) hj (by decide)), e1, e2, t, gzr_1]
  by_cases q : a ≤ ms
  · rw [if_neg (nI_nlt q (by omega))]
    by_cases q2 : ls ≤ b
    · rw [if_neg (nI_nlt q2 (by omega)), if_pos ⟨q, q2⟩]
    · rw [if_pos (nI_lt (by omega) (by omega)), if_neg (show ¬ (a ≤ ms ∧ ls ≤ b) from fun z => q2 z.2)]
  · rw [if_pos (nI_lt (by omega) (by omega)), if_neg (show ¬ (a ≤ ms ∧ ls ≤ b) from fun z => q z.1)]
theorem ncs_end (n : Nat) (a b : Int32) (h : Hst) : lp_X4_numberCanStand_12 (n + 1) a b 4 h = some (0, h) := by
  rw [lp_X4_numberCanStand_12, if_pos (by decide), gzr_0]
theorem FU_5 : FU = 4091 + 1 + 1 + 1 + 1 + 1 := rfl
theorem ncs_v {v ls ms : Nat} (h : Hst) (hv : v ≤ 30000) (hl : ls ≤ 30000) (hm : ms ≤ 30000) (e1 : h.1 15 1 = nI ls) (e2 : h.1 15 2 = nI ms) (e3 : h.1 15 3 = nI v) : f_X4_numberCanStand h = some (if okS v ls ms = true then 1 else 0, h) := by
  unfold f_X4_numberCanStand
  have s := fun n a b j hj ha hb => ncs_step n v a b ls ms j h hj ha hb (by omega) (by omega) (by omega) e1 e2 e3
  have st : ∀ j, j < 4 → nI (j + 1) = nI (j + 1) := fun _ _ => rfl
  rw [gl_eq, gl_eq, e3, FU_5, show (0 : Int32) = nI 0 from rfl, s _ v v 0 (by decide) (by omega) (by omega)]
  by_cases c0 : v ≤ ms ∧ ls ≤ v
  · rw [if_pos c0, if_pos (okS_iff.mpr (.inl c0))]
  · rw [if_neg c0]
    by_cases v0 : v = 0
    · rw [if_pos v0, if_neg (fun z => (okS_iff.mp z).elim c0 (fun y => y.1 v0))]
      rfl
    · rw [if_neg v0, s _ (v * 10) (v * 10 + 9) 1 (by decide) (by omega) (by omega)]
      by_cases c1 : v * 10 ≤ ms ∧ ls ≤ v * 10 + 9
      · rw [if_pos c1, if_pos (okS_iff.mpr (.inr ⟨v0, .inl c1⟩))]
      · rw [if_neg c1, if_neg v0, s _ (v * 10 * 10) ((v * 10 + 9) * 10 + 9) 2 (by decide) (by omega) (by omega)]
        by_cases c2 : v * 10 * 10 ≤ ms ∧ ls ≤ (v * 10 + 9) * 10 + 9
        · rw [if_pos c2, if_pos (okS_iff.mpr (.inr ⟨v0, .inr (.inl (by omega))⟩))]
        · rw [if_neg c2, if_neg v0, s _ (v * 10 * 10 * 10) (((v * 10 + 9) * 10 + 9) * 10 + 9) 3 (by decide) (by omega) (by omega)]
          by_cases c3 : v * 10 * 10 * 10 ≤ ms ∧ ls ≤ ((v * 10 + 9) * 10 + 9) * 10 + 9
          · rw [if_pos c3, if_pos (okS_iff.mpr (.inr ⟨v0, .inr (.inr (by omega))⟩))]
          · rw [if_neg c3, if_neg v0, show nI (3 + 1) = (4 : Int32) from rfl, ncs_end, if_neg (fun z => by
              have := okS_iff.mp z
              omega)]
            rfl
/-- only the reader has changed -/
def On15 (h h' : Hst) : Prop := h'.2 = h.2 ∧ ∀ k, k ≠ 15 → h'.1 k = h.1 k
theorem On15.rf {h : Hst} : On15 h h := ⟨rfl, fun _ _ => rfl⟩
theorem On15.trans {a b c : Hst} (p : On15 a b) (q : On15 b c) : On15 a c := ⟨q.1.trans p.1, fun k hk => (q.2 k hk).trans (p.2 k hk)⟩
theorem On15.st {h : Hst} (j : Nat) (x : Int32) : On15 h (hst h 15 j x) := ⟨rfl, fun k hk => by rw [hst_at, if_neg hk]⟩
theorem On15.scr {h h' : Hst} (p : On15 h h') : ScrC h h' := ⟨p.1, fun k hk => p.2 k (by omega)⟩
theorem beginNumber_v (a b c : Int32) (h : Hst) : f_X4_beginNumber a b c h = some (hst (hst (hst (hst (hst h 15 0 a) 15 1 b) 15 2 c) 15 3 0) 15 4 0) := rfl
theorem On15.bn {h : Hst} (a b c : Int32) : On15 h (hst (hst (hst (hst (hst h 15 0 a) 15 1 b) 15 2 c) 15 3 0) 15 4 0) :=
  On15.trans (On15.trans (On15.trans (On15.trans (On15.st 0 a) (On15.st 1 b)) (On15.st 2 c)) (On15.st 3 0)) (On15.st 4 0)
def Out (h : Hst) (r : Option (Int32 × Hst)) (e : Option PS) : Prop :=
  ∃ b h', r = some (b, h') ∧ On15 h h' ∧ match e with
    | none => b = 0
    | some p' => b = 1 ∧ RdC h' p'
theorem digit_C {q x k g v w a : Nat} {o : Option Nat} {F : Nat → Nat → Nat} (q2 : 2 ≤ q) (q4 : q ≤ 4) (hx : 48 ≤ x ∧ x ≤ 57) (hn : ∀ n, o = some n → (q = 2 → 1 ≤ n ∧ n ≤ 2000) ∧ (q = 3 → n ≤ 50) ∧ (q = 4 → n ≤ 1500)) (h : Hst) (D : RdC h (q, o, k, g, v, w, a, F)) : Out h (f_X4_readsDigit (nI (x - 48)) h) (stpN x (q, o, k, g, v, w, a, F)) := by
  have gd := getD_le q2 q4 hn
  obtain ⟨d0, d1, d2, d3, d4⟩ := D
  obtain ⟨e6, e1, e2, e3, e4⟩ := d2 q2
  have go : Out h (jb_X4_readsDigit_16 (nI (x - 48)) h) (if okS (nxV o x) (lsQ q) (msQ q) = true then some (q, some (nxV o x), k, g, v, w, a, F) else none) := by
    have ev : h.1 15 3 * 10 + nI (x - 48) = nI (nxV o x) := by
      rw [e3, show (10 : Int32) = nI 10 from rfl, pk_mul, nI_add]
      rfl
    unfold jb_X4_readsDigit_16
    rw [ev, gl_eq, gl_eq]
    have r := ncs_v (v := nxV o x) (ls := lsQ q) (ms := msQ q) (hst (hst h 15 3 (nI (nxV o x))) 15 4 1) (by unfold nxV; omega) (by unfold lsQ; split <;> (try split) <;> omega) (by unfold msQ; split <;> (try split) <;> omega) e1 e2 rfl
    rw [r, gb_some, gzr_if]
    refine ⟨_, _, rfl, On15.trans (On15.st _ _) (On15.st _ _), ?_⟩
    by_cases ok : okS (nxV o x) (lsQ q) (msQ q) = true
    · rw [if_pos ok, if_pos ok]
      exact ⟨rfl, d0, d1, fun _ => ⟨e6, e1, e2, rfl, rfl⟩, d3, d4⟩
    · rw [if_neg ok, if_neg ok]
  unfold f_X4_readsDigit
  rw [stpN_eq, e4]
  cases o with
  | none =>
    rw [if_pos rfl, if_pos rfl, if_neg (fun z => nomatch z)]
    exact go
  | some n =>
    have nb : n ≤ 2000 := gd
    have e3' : h.1 15 3 = nI n := e3
    rw [if_neg (show ¬ some n = none from fun z => nomatch z), if_neg (show ¬ (1 : Int32) = 0 by decide), e3']
    by_cases n0 : n = 0
    · subst n0
      rw [if_pos (show nI 0 = 0 from rfl), if_pos rfl, gzr_0]
      exact ⟨0, h, rfl, On15.rf, rfl⟩
    · rw [if_neg (show ¬ nI n = 0 from nI_ne0 (by omega) (by omega)), if_neg (show ¬ some n = some 0 from fun z => n0 (Option.some.inj z))]
      exact go
theorem stands_v {q n : Nat} (h : Hst) (hn : n ≤ 2000) (q2 : 2 ≤ q) (q4 : q ≤ 4) (hr : (q = 2 → 1 ≤ n ∧ n ≤ 2000) ∧ (q = 3 → n ≤ 50) ∧ (q = 4 → n ≤ 1500)) (e1 : h.1 15 1 = nI (lsQ q)) (e2 : h.1 15 2 = nI (msQ q)) (e3 : h.1 15 3 = nI n) (e4 : h.1 15 4 = 1) : f_X4_numberStands h = some (if q = 4 ∧ n < 500 then 0 else 1, h) := by
  unfold f_X4_numberStands jb_X4_numberStands_33 jb_X4_numberStands_34
  rw [e4, if_neg (by decide), e3, e1, e2]
  have : q = 2 ∨ q = 3 ∨ q = 4 := by omega
  rcases this with rfl | rfl | rfl
  · rw [show lsQ 2 = 1 from rfl, show msQ 2 = 2000 from rfl, if_neg (nI_nlt (by omega) (by omega)), if_neg (nI_nlt (by omega) (by omega)), if_neg (fun z => by omega), gzr_1]
  · rw [show lsQ 3 = 0 from rfl, show msQ 3 = 50 from rfl, if_neg (nI_nlt (by omega) (by omega)), if_neg (nI_nlt (by omega) (by omega)), if_neg (fun z => by omega), gzr_1]
  · rw [show lsQ 4 = 500 from rfl, show msQ 4 = 1500 from rfl]
    by_cases c : n < 500
    · rw [if_pos (nI_lt c (by decide)), if_pos ⟨rfl, c⟩, gzr_0]
    · rw [if_neg (nI_nlt (by omega) (by omega)), if_neg (nI_nlt (by omega) (by omega)), if_neg (fun z => c z.2), gzr_1]
theorem sign_C {q x k g v w a : Nat} {o : Option Nat} {F : Nat → Nat → Nat} (q2 : 2 ≤ q) (q4 : q ≤ 4) (hx : x < 127) (hn : ∀ n, o = some n → (q = 2 → 1 ≤ n ∧ n ≤ 2000) ∧ (q = 3 → n ≤ 50) ∧ (q = 4 → n ≤ 1500)) (h : Hst) (D : RdC h (q, o, k, g, v, w, a, F)) : Out h (jb_X4_reads_48 (nI x) h) (stpS x (q, o, k, g, v, w, a, F)) := by
  have gd := getD_le q2 q4 hn
  obtain ⟨d0, d1, d2, d3, d4⟩ := D
  obtain ⟨e6, e1, e2, e3, e4⟩ := d2 q2
  unfold jb_X4_reads_48 jb_X4_reads_67 jb_X4_reads_68
  cases o with
  | none =>
    unfold f_X4_numberStands jb_X4_numberStands_33 jb_X4_numberStands_34
    rw [e4, if_pos rfl, if_pos rfl, gzr_0, gb_some, if_pos rfl, gzr_0, stpS_no]
    exact ⟨0, h, rfl, On15.rf, rfl⟩
  | some n =>
    have nb : n ≤ 2000 := gd
    have hr := hn n rfl
    rw [if_neg (fun z => nomatch z)] at e4
    have e3' : h.1 15 3 = nI n := e3
    rw [stands_v h nb q2 q4 hr e1 e2 e3' e4, gb_some, stpS_eq]
    have s88 : Out h (gb (jb_X4_readsSign_88 h) fun x4 h3 => if x4 = 0 then gzr 0 (some (0, h3)) else gzr 1 (some (1, h3))) none := by
      unfold jb_X4_readsSign_88
      rw [gzr_0, gb_some, if_pos rfl, gzr_0]
      exact ⟨0, h, rfl, On15.rf, rfl⟩
    have qq : q = 2 ∨ q = 3 ∨ q = 4 := by omega
    rcases qq with rfl | rfl | rfl
    · rw [if_neg (show ¬ (2 = 4 ∧ n < 500) from fun z => by omega), if_neg (show ¬ (1 : Int32) = 0 by decide), if_pos rfl]
      unfold f_X4_readsSign jb_X4_readsSign_32 jb_X4_readsSign_67
      rw [d0, if_pos (show nI 2 = 2 from rfl)]
      by_cases c : x = 47
      · subst c
        rw [if_pos (show nI 47 = 47 from rfl), if_pos rfl, gl_eq, e3', beginNumber_v, gbv_some, gzr_1, gb_some, if_neg (by decide), gzr_1]
        exact ⟨1, _, rfl, On15.trans (On15.st 7 (nI n)) (On15.bn 3 0 50), rfl, rfl, fun _ => d1 (by decide), fun _ => ⟨e6, rfl, rfl, rfl, rfl⟩, fun _ => rfl, fun z => by omega⟩
      · rw [if_neg c, if_neg (nI_nq 47 47 rfl (by decide) (by omega) c), if_neg (show ¬ nI 2 = 3 by decide), if_pos (show nI 2 = 2 from rfl)]
        exact s88
    · rw [if_neg (show ¬ (3 = 4 ∧ n < 500) from fun z => by omega), if_neg (show ¬ (1 : Int32) = 0 by decide), if_neg (show ¬ 3 = 2 by decide), if_pos rfl]
      unfold f_X4_readsSign jb_X4_readsSign_32 jb_X4_readsSign_67
      rw [d0, if_neg (show ¬ nI 3 = 2 by decide), if_pos (show nI 3 = 3 from rfl)]
      by_cases c : x = 42
      · subst c
        rw [if_pos (show nI 42 = 42 from rfl), if_pos rfl, gl_eq, e3', beginNumber_v, gbv_some, gzr_1, gb_some, if_neg (by decide), gzr_1]
        exact ⟨1, _, rfl, On15.trans (On15.st 8 (nI n)) (On15.bn 4 500 1500), rfl, rfl, fun _ => d1 (by decide), fun _ => ⟨e6, rfl, rfl, rfl, rfl⟩, fun _ => d3 (by decide), fun _ => rfl⟩
      · rw [if_neg c, if_neg (nI_nq 42 42 rfl (by decide) (by omega) c), if_neg (show ¬ nI 3 = 2 by decide)]
        by_cases c5 : x = 59
        · subst c5
          rw [if_pos rfl, if_pos (show nI 59 = 59 from rfl), gl_eq, gzr_1, gb_some, if_neg (by decide), gzr_1]
          exact ⟨1, _, rfl, On15.st 0 0, rfl, rfl, fun z => absurd z (by decide), fun z => absurd z (by decide), fun z => absurd z (by decide), fun z => absurd z (by decide)⟩
        · rw [if_neg c5, if_neg (nI_nq 59 59 rfl (by decide) (by omega) c5)]
          exact s88
    · rw [if_neg (show ¬ 4 = 2 by decide), if_neg (show ¬ 4 = 3 by decide)]
      by_cases n5 : n < 500
      · rw [if_pos (show 4 = 4 ∧ n < 500 from ⟨rfl, n5⟩), if_pos (show (0 : Int32) = 0 from rfl), if_pos n5, gzr_0]
        exact ⟨0, h, rfl, On15.rf, rfl⟩
      · rw [if_neg (show ¬ (4 = 4 ∧ n < 500) from fun z => n5 z.2), if_neg (show ¬ (1 : Int32) = 0 by decide), if_neg n5]
        unfold f_X4_readsSign jb_X4_readsSign_32 jb_X4_readsSign_67
        rw [d0, if_neg (show ¬ nI 4 = 2 by decide), if_neg (show ¬ nI 4 = 3 by decide), if_neg (show ¬ nI 4 = 2 by decide)]
        by_cases c5 : x = 59
        · subst c5
          rw [if_pos rfl, if_pos (show nI 59 = 59 from rfl), gl_eq, gzr_1, gb_some, if_neg (by decide), gzr_1]
          exact ⟨1, _, rfl, On15.st 0 0, rfl, rfl, fun z => absurd z (by decide), fun z => absurd z (by decide), fun z => absurd z (by decide), fun z => absurd z (by decide)⟩
        · rw [if_neg c5, if_neg (nI_nq 59 59 rfl (by decide) (by omega) c5)]
          exact s88
theorem reads_C {i x : Nat} {p : PS} (hx : x < 127) (V : InvP i p) (h : Hst) (D : RdC h p) : Out h (f_X4_reads (nI x) h) (stp x p) := by
  obtain ⟨q, o, k, g, v, w, a, F⟩ := p
  obtain ⟨h4, hw, hg, hv, hk, ha, ho, hn⟩ := V
  have d0 : h.1 15 0 = nI q := D.1
  have d1 : 1 ≤ q → h.1 15 5 = nI g := D.2.1
  rw [stp_eq]
  unfold f_X4_reads
  rw [d0]
  by_cases q0 : q = 0
  · rw [if_pos q0, if_pos (by rw [q0]; rfl)]
    unfold f_X4_readsGrower jb_X4_readsGrower_33 jb_X4_readsGrower_34
    rw [gl_eq, gl_eq]
    have b5 : (hst (hst h 15 5 (nI x - 48)) 15 0 1).1 15 5 = nI x - 48 := rfl
    rw [b5]
    have oo : On15 h (hst (hst h 15 5 (nI x - 48)) 15 0 1) := On15.trans (On15.st _ _) (On15.st _ _)
    by_cases l : x < 48
    · rw [if_pos (d48 ⟨x, hx⟩ l), gzr_0, gb_some, gzr_0, if_neg (fun z => by omega)]
      exact ⟨0, _, rfl, oo, rfl⟩
    · have ex : nI x - 48 = nI (x - 48) := pk_sub (b := 48) (by omega)
      rw [ex, if_neg (nI_pos (by omega))]
      by_cases u : x ≤ 55
      · rw [if_neg (show ¬ (8 : Int32) ≤ nI (x - 48) from nI_ge (b := 8) (by omega) (by decide)), gzr_1, gb_some, gzr_1, if_pos ⟨by omega, u⟩]
        exact ⟨1, _, rfl, On15.trans (On15.st _ _) (On15.st _ _), rfl, rfl, fun _ => rfl, fun z => absurd z (by decide), fun z => absurd z (by decide), fun z => absurd z (by decide)⟩
      · rw [if_pos (show (8 : Int32) ≤ nI (x - 48) from nI_le (a := 8) (by omega) (by omega)), gzr_0, gb_some, gzr_0, if_neg (fun z => u z.2)]
        exact ⟨0, _, rfl, On15.trans (On15.st _ _) (On15.st _ _), rfl⟩
  · rw [if_neg q0, if_neg (nI_nq 0 0 rfl (by decide) (by omega) q0)]
    by_cases q1 : q = 1
    · rw [if_pos q1, if_pos (by rw [q1]; rfl)]
      unfold f_X4_readsVariety
      rw [gl_eq, beginNumber_v, gbv_some]
      have b6 : (hst (hst (hst (hst (hst (hst h 15 6 (nI x - 97)) 15 0 2) 15 1 1) 15 2 2000) 15 3 0) 15 4 0).1 15 6 = nI x - 97 := rfl
      rw [b6]
      have oo : On15 h (hst (hst (hst (hst (hst (hst h 15 6 (nI x - 97)) 15 0 2) 15 1 1) 15 2 2000) 15 3 0) 15 4 0) := On15.trans (On15.st 6 _) (On15.bn 2 1 2000)
      by_cases c : 97 ≤ x ∧ x ≤ 101
      · have ex : nI x - 97 = nI (x - 97) := pk_sub (b := 97) c.1
        rw [ex] at oo ⊢
        rw [isVariety_gd (by omega), gb_some, gzr_1, gb_some, gzr_1, if_pos c]
        exact ⟨1, _, rfl, oo, rfl, rfl, fun _ => d1 (by omega), fun _ => ⟨rfl, rfl, rfl, rfl, rfl⟩, fun z => absurd z (by decide), fun z => absurd z (by decide)⟩
      · have bd : Bad (nI x - 97) 5 := by
          rcases idx (nI x - 97) (n := 5) (by decide) with ⟨j, hj, e⟩ | b
          · exfalso
            have : nI x = nI (97 + j) := by
              have := congrArg (fun y => y + 97) e
              rw [Int32.sub_add_cancel, show (97 : Int32) = nI 97 from rfl, nI_add] at this
              rw [this, Nat.add_comm]
            have := nI_inj (by omega) (by omega) this
            omega
          · exact b
        rw [isVariety_bad bd, gb_some, gzr_0, gb_some, gzr_0, if_neg c]
        exact ⟨0, _, rfl, oo, rfl⟩
    · have q2 : 2 ≤ q := by omega
      rw [if_neg q1, if_neg (nI_nq 1 1 rfl (by decide) (by omega) q1)]
      by_cases c : 48 ≤ x ∧ x ≤ 57
      · rw [if_pos c, if_neg (show ¬ nI x < 48 from nI_nlt (b := 48) c.1 (by omega)), if_neg (show ¬ (57 : Int32) < nI x from nI_nlt (a := 57) c.2 (by decide)), show nI x - 48 = nI (x - 48) from pk_sub (b := 48) c.1]
        obtain ⟨b, h', e, oo, r⟩ := digit_C q2 h4 c hn h D
        rw [e, gb_some]
        refine ⟨b, h', ?_, oo, r⟩
        have : b = 0 ∨ b = 1 := by
          cases hs : stpN x (q, o, k, g, v, w, a, F) with
          | none => rw [hs] at r; exact .inl r
          | some p' => rw [hs] at r; exact .inr r.1
        rcases this with rfl | rfl <;> rfl
      · rw [if_neg c]
        by_cases l : x < 48
        · rw [if_pos (show nI x < 48 from nI_lt (b := 48) l (by decide))]
          exact sign_C q2 h4 hx hn h D
        · rw [if_neg (show ¬ nI x < 48 from nI_nlt (b := 48) (by omega) (by omega)), if_pos (show (57 : Int32) < nI x from nI_lt (a := 57) (by omega) (by omega))]
          exact sign_C q2 h4 hx hn h D
