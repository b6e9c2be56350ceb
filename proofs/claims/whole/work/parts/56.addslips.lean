theorem run_succ (t : Nat → Nat) : ∀ (m i : Nat) (p p' : PS), (run t m i p).1 = i + m → stp (t (i + m)) (run t m i p).2 = some p' → run t (m + 1) i p = (i + m + 1, p')
  | 0, i, p, p', _, e => by
    rw [run_ok (by exact e)]
    rfl
  | m + 1, i, p, p', hr, e => by
    cases es : stp (t i) p with
    | none =>
      rw [run_no es] at hr
      change i = i + (m + 1) at hr
      omega
    | some p1 =>
      rw [run_ok es] at hr e ⊢
      rw [run_succ t m (i + 1) p1 p' (by omega) (by rw [show i + 1 + m = i + (m + 1) by omega]; exact e), show i + 1 + m + 1 = i + (m + 1) + 1 by omega]
theorem fin_59 {q n k g v w a : Nat} {F : Nat → Nat → Nat} (q4 : q ≤ 4) (c : q = 3 ∨ (q = 4 ∧ 500 ≤ n)) : stp 59 (q, some n, k, g, v, w, a, F) = some (finP n (q, some n, k, g, v, w, a, F)) := by
  rw [stp_eq, if_neg (by omega), if_neg (by omega), if_neg (by decide), stpS_eq, if_neg (by omega)]
  rcases c with rfl | ⟨rfl, n5⟩
  · rw [if_pos rfl, if_neg (by decide), if_pos rfl]
  · rw [if_neg (by decide), if_neg (by omega), if_pos rfl]
theorem op_addSlips {h : Hst} (S : Sim h) : Agree (f_L_addSlips h) f_X7_addSlips := by
  obtain ⟨⟨o, ns, sv⟩, ⟨ng, nl, nt, I, R⟩, len, B⟩ := id S
  obtain ⟨t, ht, t59, t16, t20⟩ := text_v B
  obtain ⟨hl, b2, b3, -⟩ := B
  obtain ⟨h1, e1, o1, r1⟩ := fe_C hl ht h b2 t16
  have b2' : h1.1 0 5 = nI len := by rw [o1.2 0 (by decide)]; exact b2
  have le := run_le t len 0 P0
  have V := run_inv t len 0 P0 P0_inv
  -- a refusal
  have no : f_X6_addSlips h = some (.inr (1, h1)) → (∀ H1, f_X7_rightUpTo h1 = some (nI (run t len 0 P0).1, H1) → OnM h1 H1 → ((run t len 0 P0).1 = len → RdM H1 (run t len 0 P0).2) → f_X7_addSlips h1 = jb_X7_addSlips_23 0 H1) → Agree (f_L_addSlips h) f_X7_addSlips := fun ec em => by
    obtain ⟨H1, E1, O1, q1⟩ := fe_M hl ht h1 (by rw [o1.2 17 (by decide)]; exact b3) (fun j hj => by rw [o1.2 20 (by decide)]; exact t20 j hj)
    have fr : ∀ k, k ≠ 15 → k ≠ 17 → k ≠ 24 → H1.1 k = h.1 k := fun k a b c => (O1.2.1 k b c).trans (o1.2 k a)
    refine agree_no (k := 1) (h1 := h1) (h2 := hst H1 17 5 1) ?_ (by decide) ?_ rfl (S.keep ⟨fr 0 (by decide) (by decide) (by decide), fr 1 (by decide) (by decide) (by decide), fr 9 (by decide) (by decide) (by decide), fr 16 (by decide) (by decide) (by decide), fr 19 (by decide) (by decide) (by decide), fr 20 (by decide) (by decide) (by decide), ?_, ?_⟩ (fr 8 (by decide) (by decide) (by decide)) (fr 18 (by decide) (by decide) (by decide)))
    · unfold f_L_addSlips
      rw [ec, gbx_inr]
      rfl
    · rw [em H1 E1 O1 q1]
      unfold jb_X7_addSlips_23 jb_X7_addSlips_34
      rw [if_pos rfl, gl_eq]
      show (if (1 : Int32) ≤ 0 then _ else _) = _
      rw [if_neg (by decide)]
    · show upd (H1.1 17) 5 1 1 = _
      rw [upd_at, if_neg (by decide), O1.2.2 1 (by decide), o1.2 17 (by decide)]
    · show upd (H1.1 17) 5 1 3 = _
      rw [upd_at, if_neg (by decide), O1.2.2 3 (by decide), o1.2 17 (by decide)]
  by_cases full : (run t len 0 P0).1 = len
  · have D1 := r1 full
    generalize hp : (run t len 0 P0).2 = p at D1 V
    obtain ⟨q, oo, k, g, v, w, a, F⟩ := p
    have ce := canEnd_v h1 V D1
    by_cases en : ∃ n, oo = some n ∧ (q = 3 ∨ (q = 4 ∧ 500 ≤ n))
    · obtain ⟨n, rfl, cq⟩ := en
      rw [enV_1 cq] at ce
      have h4 : q ≤ 4 := V.1
      have hw : 6 * k + wgt q (some n) ≤ (run t len 0 P0).1 := V.2.1
      have k9 : k ≤ 9 := by
        unfold wgt at hw
        rw [if_neg (by omega), if_neg (fun z => nomatch z)] at hw
        omega
      have rs := run_succ t len 0 P0 (finP n (q, some n, k, g, v, w, a, F)) (by omega) (by rw [Nat.zero_add, t59, hp]; exact fin_59 h4 cq)
      have s1 : SV h1.1 o ns := by
        have : SV h.1 o ns := sv
        simp only [SV] at this ⊢
        rw [o1.2 1 (by decide), o1.2 9 (by decide), o1.2 17 (by decide), o1.2 19 (by decide)]
        exact this
      have C1 : SimCZ (h1.1 8) (h1.1 18) := by
        rw [o1.2 8 (by decide), o1.2 18 (by decide)]
        exact ⟨ng, nl, nt, I, R⟩
      obtain ⟨hc, e, e2, ef, K⟩ := undoable s1 C1
      have hc8 : hc.1 8 = h.1 8 := (ef 8 (by decide) (by decide)).trans (o1.2 8 (by decide))
      obtain ⟨y, c', z', S', yc, ym⟩ := slips_both hl ht t59 (len + 1) 0 P0 (h.1 8) (h.1 18) ng nl nt (by omega) P0_inv I R (by rw [rs]; show 0 + len + 1 = len + 1; omega)
      obtain ⟨h6, e6, f1, f2, f3⟩ := yc FU (hst hc 15 0 0) (Nat.lt_of_le_of_lt (by omega : _ ≤ 61) (by decide)) hc8 ⟨rfl, fun z => absurd z (by decide), fun z => absurd z (by decide), fun z => absurd z (by decide), fun z => absurd z (by decide)⟩ ((congrFun (ef 0 (by decide) (by decide)) 5).trans b2') (fun j hj => (congrFun ((ef 16 (by decide) (by decide)).trans (o1.2 16 (by decide))) j).trans (t16 j hj))
      have eC : f_L_addSlips h = some (0, hsj (hst h6 0 5 0) 25 0 (nI y).toInt64) := by
        unfold f_L_addSlips f_X6_addSlips f_X6_enterSlips f_X4_restart
        rw [e1, gb_some, b2', full, if_neg (nI_nlt (Nat.le_refl _) (by omega)), ce, gb_some, if_neg (by decide), e, gbv_some, gl_eq, gbv_some, show (0 : Int32) = nI (pk P0) from rfl, show lp_X6_enterSlips_11 FU (nI (pk P0)) (nI (pk P0)) (hst hc 15 0 (nI (pk P0))) = some (nI y, h6) from e6, gb_some, gl_eq, gbx_inl]
        rfl
      have g6 : ∀ k, k ≠ 0 → k ≠ 1 → k ≠ 8 → k ≠ 9 → k ≠ 15 → h6.1 k = h.1 k := fun k a0 a1 a8 a9 a15 => by
        rw [f2 k a8 a15, hst_at, if_neg a15, ef k a1 a9, o1.2 k a15]
      have H17 : (hsj (hst h6 0 5 0) 25 0 (nI y).toInt64).1 17 = h.1 17 := g6 17 (by decide) (by decide) (by decide) (by decide) (by decide)
      have H20 : (hsj (hst h6 0 5 0) 25 0 (nI y).toInt64).1 20 = h.1 20 := g6 20 (by decide) (by decide) (by decide) (by decide) (by decide)
      have H18 : (hsj (hst h6 0 5 0) 25 0 (nI y).toInt64).1 18 = h.1 18 := g6 18 (by decide) (by decide) (by decide) (by decide) (by decide)
      have H19 : (hsj (hst h6 0 5 0) 25 0 (nI y).toInt64).1 19 = h.1 19 := g6 19 (by decide) (by decide) (by decide) (by decide) (by decide)
      have H1' : (hsj (hst h6 0 5 0) 25 0 (nI y).toInt64).1 1 = hc.1 1 := f2 1 (by decide) (by decide)
      have H9 : (hsj (hst h6 0 5 0) 25 0 (nI y).toInt64).1 9 = hc.1 9 := f2 9 (by decide) (by decide)
      have H8 : (hsj (hst h6 0 5 0) 25 0 (nI y).toInt64).1 8 = c' := f3
      obtain ⟨H1, E1, O1, q1⟩ := fe_M hl ht (hsj (hst h6 0 5 0) 25 0 (nI y).toInt64) (by rw [H17]; exact b3) (fun j hj => by rw [H20]; exact t20 j hj)
      have D2 := q1 full
      rw [hp] at D2
      obtain ⟨d21, d20, d19, p0, p1, p2, p3, pF⟩ := D2
      have ie := isEnded_v (o := some n) H1 h4 (fun n' e' => by
        have := V.2.2.2.2.2.2.2 n' e'
        omega) d21 d20
      rw [enV_1 cq] at ie
      obtain ⟨hm, em, m2, mf, mj, K2⟩ := K (hst H1 17 5 0) (by
        show H1.1 1 8 = _
        rw [O1.2.1 1 (by decide) (by decide), H1']) (by
        show H1.1 1 9 = _
        rw [O1.2.1 1 (by decide) (by decide), H1']) (by
        show H1.1 9 = _
        rw [O1.2.1 9 (by decide) (by decide), H9]) (by
        show upd (H1.1 17) 5 0 1 = _
        rw [upd_at, if_neg (by decide), O1.2.2 1 (by decide), H17, o1.2 17 (by decide)]) (by
        show H1.1 18 = _
        rw [O1.2.1 18 (by decide) (by decide), H18, o1.2 18 (by decide)]) (by
        show H1.1 19 = _
        rw [O1.2.1 19 (by decide) (by decide), H19, o1.2 19 (by decide)])
      have hm17 : ∀ j, j ≠ 1 → j ≠ 5 → hm.1 17 j = H1.1 17 j := fun j a b => by
        rw [mj j a]
        show upd (H1.1 17) 5 0 j = _
        rw [upd_at, if_neg b]
      have hm24 : hm.1 24 = H1.1 24 := mf 24 (by decide) (by decide)
      have m18 : hm.1 18 = h.1 18 := (mf 18 (by decide) (by decide)).trans ((O1.2.1 18 (by decide) (by decide)).trans H18)
      have m8 : hm.1 8 = c' := (mf 8 (by decide) (by decide)).trans ((O1.2.1 8 (by decide) (by decide)).trans H8)
      have me := ends_v (q := q) (k := k) (nx := 0) hm (by omega) ((hm17 21 (by decide) (by decide)).trans d21) ((hm17 19 (by decide) (by decide)).trans d19)
      have n20 : hm.1 17 20 = nI n := (hm17 20 (by decide) (by decide)).trans d20
      rw [n20] at me
      obtain ⟨H', eH, u1, u2, u3⟩ := ym FU k (hst (hst (hst (hst hm 24 (5 * k + q) (nI n)) 17 20 (-1)) 17 21 (nI 0)) 17 3 0) (Nat.lt_of_le_of_lt (by omega : _ ≤ 61) (by decide)) m18 ((hm17 19 (by decide) (by decide)).trans d19) k9 (by rw [rs]; rfl) (fun j c hj hc => by
        rw [rs]
        show upd (hm.1 24) (5 * k + q) (nI n) (5 * j + c) = nI (if j = k then slF q n g v w a c else F j c)
        rw [upd_at, hm24]
        obtain ⟨a0, a4⟩ := p0 (by omega)
        by_cases jk : j = k
        · subst jk
          rw [if_pos rfl]
          have cc : c = 0 ∨ c = 1 ∨ c = 2 ∨ c = 3 ∨ c = 4 := by omega
          rcases cc with rfl | rfl | rfl | rfl | rfl
          · rw [if_neg (by omega)]; exact a0
          · rw [if_neg (by omega)]; exact p1 (by omega)
          · rw [if_neg (by omega)]; exact p2 (by omega)
          · show (if 5 * j + 3 = 5 * j + q then nI n else H1.1 24 (5 * j + 3)) = nI (if q = 3 then n else a)
            by_cases q3 : q = 3
            · rw [if_pos (by omega), if_pos q3]
            · rw [if_neg (by omega), if_neg q3]; exact p3 (by omega)
          · show (if 5 * j + 4 = 5 * j + q then nI n else H1.1 24 (5 * j + 4)) = nI (if q = 3 then 1000 else n)
            by_cases q3 : q = 3
            · rw [if_neg (by omega), if_pos q3]; exact a4
            · rw [if_pos (by omega), if_neg q3]
        · rw [if_neg jk, if_neg (by omega)]
          exact pF j c (by omega) hc)
      have x17 : ∀ j, j < 19 → j ≠ 3 → j ≠ 1 → j ≠ 5 → H'.1 17 j = H1.1 17 j := fun j a b c d => by
        rw [u2 17 (by decide)]
        show upd (upd (upd (hm.1 17) 20 (-1)) 21 (nI 0)) 3 0 j = _
        rw [upd_at, if_neg b, upd_at, if_neg (by omega), upd_at, if_neg (by omega), hm17 j c d]
      refine agree_ok eC (h2 := H') ?_ ?_ ?_ ?_
      · unfold f_X7_addSlips
        have e3 : H1.1 17 3 = nI len := by rw [O1.2.2 3 (by decide), H17]; exact b3
        rw [E1, gb_some, e3, full, if_pos rfl, ie, gb_some, if_neg (by decide)]
        unfold jb_X7_addSlips_23 jb_X7_addSlips_34
        rw [if_neg (by decide), gl_eq]
        show (if (0 : Int32) ≤ 0 then _ else _) = _
        rw [if_pos (by decide), em, gbv_some, show f_X7_ends 0 hm = _ from me, gb_some, gl_eq]
        exact eH
      · rw [u2 17 (by decide)]
        show upd (upd (upd (hm.1 17) 20 (-1)) 21 (nI 0)) 3 0 5 = _
        rw [upd_at, if_neg (by decide), upd_at, if_neg (by decide), upd_at, if_neg (by decide), mj 5 (by decide)]
        rfl
      · rw [u1]
        show hm.2 = _
        rw [m2]
        exact O1.1
      · have w : ∀ k, k ≠ 17 → k ≠ 18 → k ≠ 24 → H'.1 k = hm.1 k := fun k a b c => by
          rw [u2 k b, hst_at, if_neg a, hst_at, if_neg a, hst_at, if_neg a, hst_at, if_neg c]
        have w1 : H'.1 17 1 = hm.1 17 1 := by
          rw [u2 17 (by decide)]
          show upd (upd (upd (hm.1 17) 20 (-1)) 21 (nI 0)) 3 0 1 = _
          rw [upd_at, if_neg (by decide), upd_at, if_neg (by decide), upd_at, if_neg (by decide)]
        refine ⟨K2 H' (by rw [w 1 (by decide) (by decide) (by decide)]) (by rw [w 1 (by decide) (by decide) (by decide)]) (w 9 (by decide) (by decide) (by decide)) w1 (w 19 (by decide) (by decide) (by decide)), ?_, 0, by decide, ?_, ?_, fun i hi => absurd hi (by omega)⟩
        · rw [w 8 (by decide) (by decide) (by decide), m8, u3]
          exact S'
        · rw [w 0 (by decide) (by decide) (by decide), mf 0 (by decide) (by decide)]
          show H1.1 0 5 = _
          rw [O1.2.1 0 (by decide) (by decide)]
          rfl
        · rw [u2 17 (by decide)]
          rfl
    · have e0 : enV q oo = 0 := by
        cases oo with
        | none => rfl
        | some n => exact enV_0 (fun z => en ⟨n, rfl, z⟩)
      rw [e0] at ce
      refine no ?_ (fun H1 E1 O1 q1 => ?_)
      · unfold f_X6_addSlips jb_X6_addSlips_21
        rw [e1, gb_some, b2', full, if_neg (nI_nlt (Nat.le_refl _) (by omega)), ce, gb_some, if_pos rfl]
      · have D2 := q1 full
        rw [hp] at D2
        have ie := isEnded_v (o := oo) H1 V.1 (fun n' e' => by
          have := V.2.2.2.2.2.2.2 n' e'
          have q1' := V.2.2.2.2.2.2.1
          by_cases c : q ≤ 1
          · rw [q1' c] at e'; cases e'
          · have := V.1; omega) D2.1 D2.2.1
        rw [e0] at ie
        unfold f_X7_addSlips jb_X7_addSlips_22
        have e3 : H1.1 17 3 = nI len := by rw [O1.2.2 3 (by decide), o1.2 17 (by decide)]; exact b3
        rw [E1, gb_some, e3, full, if_pos rfl, ie, gb_some, if_pos rfl]
  · have lt : (run t len 0 P0).1 < len := by omega
    refine no ?_ (fun H1 E1 O1 _ => ?_)
    · unfold f_X6_addSlips jb_X6_addSlips_21
      rw [e1, gb_some, b2', if_pos (nI_lt lt (by omega))]
    · unfold f_X7_addSlips jb_X7_addSlips_22
      have e3 : H1.1 17 3 = nI len := by rw [O1.2.2 3 (by decide), o1.2 17 (by decide)]; exact b3
      rw [E1, gb_some, e3, if_neg (fun z => full (nI_inj (by omega) (by omega) z))]
