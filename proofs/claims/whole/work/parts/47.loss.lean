-- the loss by a way
def cwF (W : Nat → Bool) : Nat → Nat
  | 0 => 0
  | n + 1 => cwF W n + if W n = true then 1 else 0
theorem cwF_le (W : Nat → Bool) : ∀ n, cwF W n ≤ n
  | 0 => Nat.le_refl 0
  | n + 1 => by
    have := cwF_le W n
    rw [cwF]
    split <;> omega
def wOff (W : Nat → Bool) (l j : Nat) : Bool := if j = l then false else W j
theorem cwF_same {W W' : Nat → Bool} : ∀ n, (∀ j, j < n → W' j = W j) → cwF W' n = cwF W n
  | 0, _ => rfl
  | n + 1, h => by
    rw [cwF, cwF, cwF_same n (fun j hj => h j (by omega)), h n (by omega)]
theorem cwF_off {W : Nat → Bool} {l : Nat} (hw : W l = true) : ∀ n, l < n → cwF (wOff W l) n + 1 = cwF W n
  | 0, h => absurd h (by omega)
  | n + 1, h => by
    rw [cwF, cwF]
    by_cases q : l = n
    · subst q
      rw [cwF_same l (fun j hj => by unfold wOff; rw [if_neg (by omega)]), if_pos hw]
      unfold wOff
      rw [if_pos rfl, if_neg (by decide)]
    · have := cwF_off hw n (by omega)
      have e : wOff W l n = W n := by unfold wOff; rw [if_neg (by omega)]
      rw [e]
      omega
theorem loss_both {c z : Nat → Int32} {ng nl nt way : Nat} (I : InvC c ng nl nt) (R : RelCZ c z nl) (hw : way ≤ 2) : ∀ (k : Nat) (W : Nat → Bool) (v : Fin 5) (r : Nat) (acc : Int32), cwF W nl = k → r ≤ 50 →
    ∃ y, (∀ (i n : Nat) (h : Hst), i + k ≤ 40 → k < n → h.1 8 = c → Wc h nl W → h.1 13 2 = nI v.val → h.1 13 3 = nI r → ∃ h', lp_X6_lossBy_30 n (nI way) acc (nI i) h = some (.inl (y, h')) ∧ ScrC h h') ∧
      (∀ (n : Nat) (h : Hst), k < n → h.1 18 = z → Wm h nl W → (h.1 17 7 = if r = 0 then -1 else nI v.val) → h.1 17 8 = nI r → ∃ h', lp_X7_lossNow_6 n (nI way) acc h = some (y, h') ∧ ScrM h h')
  | k, W, v, r, acc, hk, hr => by
    have h40 := I.1.2.1
    cases p : pick c nl W v r way with
    | none =>
      refine ⟨acc, fun i n h hi hn e w e2 e3 => ?_, fun n h hn e w e7 e8 => ?_⟩
      · obtain ⟨n, rfl⟩ : ∃ n', n = n' + 1 := ⟨n - 1, by omega⟩
        rw [lp_X6_lossBy_30]
        unfold jb_X6_lossBy_63
        by_cases q : i = 40
        · rw [if_pos (by rw [q]; decide)]
          exact ⟨h, rfl, ScrC.rf⟩
        · rw [if_neg (show ¬ (40 : Int32) ≤ nI i from nI_ge (b := 40) (by omega) (by decide)), step_none hr hw h e w e2 e3 p, gb_some, if_pos rfl]
          exact ⟨_, rfl, rfl, fun k hk => by rw [hst_at, if_neg (by omega)]⟩
      · obtain ⟨n, rfl⟩ : ∃ n', n = n' + 1 := ⟨n - 1, by omega⟩
        rw [lp_X7_lossNow_6, ln_none I R hr hw h e w e7 p, gb_some, if_pos rfl]
        exact ⟨_, rfl, rfl, fun k hk => by rw [hst_at, if_neg (by omega)], rfl, rfl, rfl⟩
    | some l =>
      obtain ⟨l1, l2, l3⟩ := pick_some p
      obtain ⟨u, due, cont, f, k0, LV⟩ := lotV I ⟨l, l2⟩ l1
      have hk0 := LV.2.2.2.2.2.2
      have hf := LV.2.2.2.2.1
      have re := reR_le k0 (toR f u v r)
      have co := cwF_off l3 nl l1
      match k, hk with
      | 0, hk => omega
      | k + 1, hk =>
      obtain ⟨y, yc, ym⟩ := loss_both I R hw k (wOff W l) u (reR k0 (toR f u v r)) (acc + nI (loR way (foR u v r))) (by omega) (by omega)
      refine ⟨y, fun i n h hi hn e w e2 e3 => ?_, fun n h hn e w e7 e8 => ?_⟩
      · obtain ⟨n, rfl⟩ : ∃ n', n = n' + 1 := ⟨n - 1, by omega⟩
        rw [lp_X6_lossBy_30, if_neg (show ¬ (40 : Int32) ≤ nI i from nI_ge (b := 40) (by omega) (by decide)), step_some LV hr hw h e w e2 e3 p, gb_some, if_neg (by decide), nI_1, gl_eq]
        generalize hx : stC h ⟨l, l2⟩ u v due cont f (loR way (foR u v r)) (caR way (foR u v r)) (toR f u v r) (reR k0 (toR f u v r)) = X
        have k' : ∀ q, q ≠ 13 → q ≠ 14 → X.1 q = h.1 q := fun q a b => by rw [← hx]; exact stC_k _ _ _ _ _ _ _ _ _ _ _ q a b
        have rc := stC_reh h ⟨l, l2⟩ u v due cont f (loR way (foR u v r)) (caR way (foR u v r)) (toR f u v r) (reR k0 (toR f u v r)) re.1
        rw [hx] at rc
        obtain ⟨r2, r3, -, -, -, -, -, r9, -, -⟩ := rc
        have x2 : X.2 = h.2 := by rw [← hx]; rfl
        have x14 : ∀ j, X.1 14 j = if j = l then 0 else h.1 14 j := fun j => by rw [← hx]; rfl
        obtain ⟨h', e', s'⟩ := yc (i + 1) n X (by omega) (by omega) ((k' 8 (by decide) (by decide)).trans e) (fun j hj => by
          rw [x14, w j hj]
          unfold wOff
          by_cases q : j = l
          · rw [if_pos q, if_pos q, if_neg (fun x => by exact absurd x.2 (by decide))]
          · rw [if_neg q, if_neg q]) r2 r3
        rw [r9]
        exact ⟨h', e', ScrC.trans (b := X) ⟨x2, fun q hq => k' q (by omega) (by omega)⟩ s'⟩
      · obtain ⟨n, rfl⟩ : ∃ n', n = n' + 1 := ⟨n - 1, by omega⟩
        rw [lp_X7_lossNow_6, ln_some I R LV hr hw h e w e7 e8 p, gb_some, if_neg (by decide)]
        generalize hx : lnM h ⟨l, l2⟩ due f (loR way (foR u v r)) (caR way (foR u v r)) (toR f u v r) (reR k0 (toR f u v r)) = X
        have rm := lnM_reh h ⟨l, l2⟩ due f (loR way (foR u v r)) (caR way (foR u v r)) (toR f u v r) (reR k0 (toR f u v r))
        rw [hx] at rm
        obtain ⟨r9, -, -, r12, -, -, r15⟩ := rm
        have k' : ∀ q, q ≠ 17 → X.1 q = h.1 q := fun q a => by rw [← hx]; exact lnM_k _ _ _ _ _ _ _ _ q a
        have x2 : X.2 = h.2 := by rw [← hx]; rfl
        have x17 : ∀ j, j < 9 → X.1 17 j = h.1 17 j := fun j hj => by rw [← hx]; exact lnM_17 _ _ _ _ _ _ _ _ j hj
        have r9' : X.1 17 9 = nI l := r9
        have y15 : (hst X 21 l 0).1 17 15 = nI (reR k0 (toR f u v r)) := r15
        have y9 : (hst X 21 l 0).1 17 9 = nI l := r9
        have g1 : f_X7_ofLot (nI l) 1 (hst X 21 l 0) = some (nI u.val, hst X 21 l 0) := by
          have := ofLot_1 ⟨l, l2⟩ (hst X 21 l 0)
          have e18 : (hst X 21 l 0).1 18 = z := (k' 18 (by decide)).trans e
          rw [e18, show zL z ⟨l, l2⟩ 1 = cLo c ⟨l, l2⟩ 1 from R.2.2.2.2.2.2.1 ⟨l, l2⟩ 1, LV.1] at this
          exact this
        have fin : ∀ s0 : Int32, (s0 = if reR k0 (toR f u v r) = 0 then -1 else nI u.val) → ∃ h', jb_X7_lossNow_52 (lp_X7_lossNow_6 n) (nI way) (acc + nI (loR way (foR u v r))) s0 (hst X 21 l 0) = some (y, h') ∧ ScrM h h' := fun s0 hs => by
          unfold jb_X7_lossNow_52
          have z15 : (hst (hst X 21 l 0) 17 7 s0).1 17 15 = nI (reR k0 (toR f u v r)) := r15
          rw [gl_eq, z15, gl_eq]
          obtain ⟨h', e', s'⟩ := ym n (hst (hst (hst X 21 l 0) 17 7 s0) 17 8 (nI (reR k0 (toR f u v r)))) (by omega) ((k' 18 (by decide)).trans e) (fun j hj => by
            show upd (X.1 21) l 0 j = _
            rw [upd_at, k' 21 (by decide), w j hj]
            unfold wOff
            by_cases q : j = l
            · rw [if_pos q, if_pos q, if_neg (by decide)]
            · rw [if_neg q, if_neg q]) (by rw [← hs]; rfl) rfl
          refine ⟨h', e', ScrM.trans (b := hst (hst (hst X 21 l 0) 17 7 s0) 17 8 (nI (reR k0 (toR f u v r)))) ⟨x2, fun q hq => ?_, x17 1 (by decide), x17 3 (by decide), x17 5 (by decide)⟩ s'⟩
          rw [hst_at, if_neg (by omega), hst_at, if_neg (by omega), hst_at, if_neg (by omega), k' q (by omega)]
        rw [r12, gl_eq, r9', gck_nI l2 (by decide), nI_clamp (by omega), gl_eq, y15]
        by_cases q : reR k0 (toR f u v r) = 0
        · rw [if_pos (by rw [q]; rfl)]
          exact fin (-1) (by rw [if_pos q])
        · rw [if_neg (nI_ne0 (by omega) (by omega)), y9, g1, gb_some]
          exact fin (nI u.val) (by rw [if_neg q])
theorem isWay (p : Int32) : (∃ n : Nat, n ≤ 2 ∧ p = nI n ∧ (∀ h, f_X6_isSettingValue 5 p h = some (1, h)) ∧ ∀ h, f_X7_within p 0 2 h = some (1, h)) ∨ ((∀ h, f_X6_isSettingValue 5 p h = some (0, h)) ∧ ∀ h, f_X7_within p 0 2 h = some (0, h)) := by
  have e : ∀ h, f_X6_isSettingValue 5 p h = if p < 0 then some (0, h) else if 2 < p then some (0, h) else some (1, h) := fun h => rfl
  have B := bounds p 0 2 (by decide) (by decide)
  rw [show nI 0 = (0 : Int32) from rfl, show nI 2 = (2 : Int32) from rfl] at B
  rcases B with ⟨n, -, hn, rfl, -, w⟩ | ⟨-, w⟩
  · refine .inl ⟨n, hn, rfl, fun h => ?_, w⟩
    rw [e, if_neg (nI_pos (by omega)), if_neg (show ¬ (2 : Int32) < nI n from nI_nlt (a := 2) hn (by decide))]
  · refine .inr ⟨fun h => ?_, w⟩
    have := w h
    rw [within7] at this
    rw [e]
    by_cases a : p < 0
    · rw [if_pos a]
    · by_cases b : 2 < p
      · rw [if_neg a, if_pos b]
      · rw [if_neg a, if_neg b] at this
        exact absurd (congrArg Prod.fst (Option.some.inj this)) (by decide : ¬ (1 : Int32) = 0)
theorem getV_lossBy {c z : Nat → Int32} {ng nl nt : Nat} (I : InvC c ng nl nt) (R : RelCZ c z nl) (s : Int32) {way : Nat} (hw : way ≤ 2) (es : ∀ h, f_X6_isSettingValue 5 (nI way) h = some (1, h)) : GetV c z s (f_X6_lossBy (nI way)) (f_X7_lossNow (nI way)) := by
  obtain ⟨-, -, -, ⟨⟨v, ev⟩, ⟨r, hr, er⟩⟩, -⟩ := id I
  have z11 : z 11 = nI r := (R.1 11 (by decide)).trans er
  have z10 : z 10 = if r = 0 then -1 else nI v.val := by
    have := R.2.1
    rw [er, ev] at this
    refine this.trans ?_
    by_cases q : r = 0
    · rw [if_pos (by rw [q]; rfl), if_pos q]
    · rw [if_neg (nI_ne0 (by omega) (by omega)), if_neg q]
  have ck := cwF_le (wB c) nl
  have h40 := I.1.2.1
  obtain ⟨y, yc, ym⟩ := loss_both I R hw (cwF (wB c) nl) (wB c) v r 0 rfl hr
  refine ⟨y, fun h e _ => ?_, fun h e _ => ?_⟩
  · obtain ⟨h0, e0, a1, a2, a3, a4, a5⟩ := begin_v I h e
    obtain ⟨h', e', s'⟩ := yc 0 FU h0 (by omega) (Nat.lt_of_le_of_lt (by omega : _ ≤ 40) (by decide)) ((a2 8 (by decide) (by decide)).trans e) a3 (a4.trans ev) (a5.trans er)
    refine ⟨h', ?_, ScrC.trans (b := h0) ⟨a1, fun k hk => a2 k (by omega) (by omega)⟩ s'⟩
    unfold f_X6_lossBy
    rw [es, gb_some, if_neg (by decide), e0, gbv_some]
    exact e'
  · obtain ⟨h0, e0, a1, a2, a3, a4, a5, a6⟩ := layMill_v I R h e
    obtain ⟨h', e', s'⟩ := ym FU h0 (Nat.lt_of_le_of_lt (by omega : _ ≤ 40) (by decide)) ((a2 18 (by decide) (by decide)).trans e) a4 (a5.trans z10) (a6.trans z11)
    refine ⟨h', ?_, ScrM.trans (b := h0) ⟨a1, fun k hk => a2 k (by omega) (by omega), a3 1 (by decide) (by decide), a3 3 (by decide) (by decide), a3 5 (by decide) (by decide)⟩ s'⟩
    unfold f_X7_lossNow
    rw [e0, gbv_some]
    exact e'
theorem op_lossBy {h : Hst} (S : Sim h) (p0 : Int32) : Agree (f_L_lossBy p0 h) (f_X7_lossBy p0) := by
  obtain ⟨-, ⟨ng, nl, nt, I, R⟩, -⟩ := id S
  rcases isWay p0 with ⟨q, hq, rfl, o, w⟩ | ⟨o, w⟩
  · refine agree_get S (getV_lossBy I R (h.1 1 9) hq o) rfl (fun H e => ?_)
    unfold f_X7_lossBy jb_X7_lossBy_15 jb_X7_lossBy_34
    rw [w, gb_some, if_neg (by decide), gl_eq]
    show (if (0 : Int32) ≤ 0 then _ else _) = _
    rw [if_pos (by decide), gb_eta]
  · refine agree_bad S (k := 1) (by decide) ?_ ?_
    · unfold f_L_lossBy f_X6_lossBy
      rw [o, gb_some, if_pos rfl, gbx_inr]
      rfl
    · unfold f_X7_lossBy jb_X7_lossBy_15
      rw [w, gb_some, if_pos rfl, gl_eq]
      show (if (1 : Int32) ≤ 0 then _ else _) = _
      rw [if_neg (by decide)]
      rfl
