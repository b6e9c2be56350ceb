theorem slips_both {t : Nat → Nat} {len : Nat} (hl : len ≤ 60) (ht : ∀ j, t j < 127) (t59 : t len = 59) : ∀ (m i : Nat) (p : PS) (c z : Nat → Int32) (ng nl nt : Nat), i + m = len + 1 → InvP i p → InvC c ng nl nt → RelCZ c z nl → (run t m i p).1 = len + 1 →
    ∃ (y : Nat) (c' z' : Nat → Int32), SimCZ c' z' ∧
      (∀ (n : Nat) (h : Hst), m < n → h.1 8 = c → RdC h p → h.1 0 5 = nI len → (∀ j, j < len → h.1 16 j = nI (t j)) → ∃ h', lp_X6_enterSlips_11 n (nI (pk p)) (nI i) h = some (nI y, h') ∧ h'.2 = h.2 ∧ (∀ k, k ≠ 8 → k ≠ 15 → h'.1 k = h.1 k) ∧ h'.1 8 = c') ∧
      (∀ (n K : Nat) (H : Hst), m < n → H.1 18 = z → H.1 17 19 = nI K → K ≤ 9 → pk (run t m i p).2 = K + 1 → (∀ j col, j < K + 1 → col < 5 → H.1 24 (5 * j + col) = nI (pF (run t m i p).2 j col)) → ∃ H', lp_X7_addSlips_63 n (nI (pk p)) H = some (nI y, H') ∧ H'.2 = H.2 ∧ (∀ k, k ≠ 18 → H'.1 k = H.1 k) ∧ H'.1 18 = z')
  | 0, i, p, c, z, ng, nl, nt, hi, V, I, R, hr => by
    refine ⟨pk p, c, z, ⟨ng, nl, nt, I, R⟩, fun n h hn e D e5 e16 => ?_, fun n K H hn e e19 hK ek eF => ?_⟩
    · obtain ⟨n, rfl⟩ : ∃ n', n = n' + 1 := ⟨n - 1, by omega⟩
      refine ⟨h, ?_, rfl, fun _ _ _ => rfl, e⟩
      rw [lp_X6_enterSlips_11, e5, if_pos (nI_lt (by omega) (by omega))]
    · obtain ⟨n, rfl⟩ : ∃ n', n = n' + 1 := ⟨n - 1, by omega⟩
      refine ⟨H, ?_, rfl, fun _ _ => rfl, e⟩
      have ek' : pk p = K + 1 := ek
      unfold lp_X7_addSlips_63 jb_X7_addSlips_85
      rw [e19, ek', if_pos (nI_lt (by omega) (by omega))]
  | m + 1, i, p, c, z, ng, nl, nt, hi, V, I, R, hr => by
    obtain ⟨⟨hg8, h40, h6⟩, ⟨i7, i8, i9⟩, -⟩ := id I
    have z7 : z 7 = nI ng := (R.1 7 (by decide)).trans i7
    have z8 : z 8 = nI nl := (R.1 8 (by decide)).trans i8
    cases es : stp (t i) p with
    | none =>
      rw [run_no es] at hr
      change i = len + 1 at hr
      omega
    | some p' =>
      rw [run_ok es] at hr
      have V' := stp_inv V es
      -- the class at this place
      have at_i : ∀ (n : Nat) (h : Hst), h.1 0 5 = nI len → (∀ j, j < len → h.1 16 j = nI (t j)) → lp_X6_enterSlips_11 (n + 1) (nI (pk p)) (nI i) h = jb_X6_enterSlips_37 (lp_X6_enterSlips_11 n) (nI (pk p)) (nI i) (nI (t i)) h := fun n h e5 e16 => by
        rw [lp_X6_enterSlips_11, e5, if_neg (nI_nlt (by omega) (by omega))]
        by_cases q : len ≤ i
        · have il : i = len := by omega
          rw [if_pos (nI_le q (by omega)), il, t59]
          rfl
        · rw [if_neg (nI_ge (by omega) (by omega)), codeAt_v (by omega), gb_some, e16 i (by omega)]
      have rd : ∀ (n : Nat) (h : Hst) (a1 : Int32), RdC h p → ∃ h1, jb_X6_enterSlips_126 (lp_X6_enterSlips_11 n) a1 (nI i) (nI (t i)) h = lp_X6_enterSlips_11 n a1 (nI (i + 1)) h1 ∧ On15 h h1 ∧ RdC h1 p' := fun n h a1 D => by
        obtain ⟨b, h1, e, oo, r⟩ := reads_C (ht i) V h D
        rw [es] at r
        change b = 1 ∧ RdC h1 p' at r
        refine ⟨h1, ?_, oo, r.2⟩
        unfold jb_X6_enterSlips_126
        rw [e, gb_some, nI_1]
      by_cases x59 : t i = 59
      · obtain ⟨q, o, k, g, v, w, a, F⟩ := p
        rw [x59] at es
        obtain ⟨n0, rfl, cq, rfl⟩ := stp_59 V es
        obtain ⟨h4, hw, hg, hv, hk, ha, ho, hn⟩ := id V
        have q3 : 3 ≤ q := by omega
        have hg' := hg (by omega)
        have hv' := hv (by omega)
        have hk' := hk q3
        have hn' := hn n0 rfl
        have k9 : k ≤ 9 := by
          unfold wgt at hw
          rw [if_neg (by omega), if_neg (fun z => nomatch z)] at hw
          omega
        have va : (if q = 3 then n0 else a) ≤ 50 := by
          by_cases c3 : q = 3
          · rw [if_pos c3]; exact hn'.2.1 c3
          · rw [if_neg c3]; exact ha (by omega)
        have vt : 500 ≤ (if q = 3 then 1000 else n0) ∧ (if q = 3 then 1000 else n0) ≤ 1500 := by
          by_cases c3 : q = 3
          · rw [if_pos c3]; omega
          · rw [if_neg c3]; omega
        -- the class's lot
        have cl : ∀ (n : Nat) (h : Hst), h.1 8 = c → RdC h (q, some n0, k, g, v, w, a, F) → jb_X6_enterSlips_37 (lp_X6_enterSlips_11 n) (nI k) (nI i) (nI (t i)) h = if hh : g < ng ∧ nl < 40 then jb_X6_enterSlips_126 (lp_X6_enterSlips_11 n) (nI (k + 1)) (nI i) (nI (t i)) (hso h 8 (addC c ⟨nl, hh.2⟩ (nI g) (nI v) (nI w) (nI (if q = 3 then n0 else a)) (nI (if q = 3 then 1000 else n0)) (nI (nl + 1)))) else some (nI k, h) := fun n h e D => by
          obtain ⟨ea, et⟩ := acid_v h (by omega) D
          obtain ⟨d0, d1, d2, d3, d4⟩ := D
          unfold jb_X6_enterSlips_37 jb_X6_enterSlips_81
          rw [x59, if_pos (show nI 59 = 59 from rfl), row7_0, gb_some, e, i7, d1 (by omega)]
          by_cases gg : g < ng
          · rw [if_neg (nI_ge gg (by omega)), row7_1, gb_some, e, i8]
            by_cases ll : nl < 40
            · rw [if_pos (show nI nl < 40 from nI_lt (b := 40) ll (by decide)), ea, gb_some, et, gb_some, d1 (by omega), (d2 (by omega)).1, d3 q3, enterLot ⟨nl, ll⟩ (by rw [e]; exact i8), gb_some, e, nI_1, dif_pos ⟨gg, ll⟩]
            · rw [if_neg (show ¬ nI nl < 40 from nI_nlt (b := 40) (by omega) (by omega)), dif_neg (fun z => ll z.2)]
          · rw [if_pos (nI_le (by omega) (by omega)), dif_neg (fun z => gg z.1)]
        -- the model's lot
        have ml : ∀ (n K : Nat) (H : Hst), H.1 18 = z → H.1 17 19 = nI K → K ≤ 9 → pk (run t m (i + 1) (finP n0 (q, some n0, k, g, v, w, a, F))).2 = K + 1 → (∀ j col, j < K + 1 → col < 5 → H.1 24 (5 * j + col) = nI (pF (run t m (i + 1) (finP n0 (q, some n0, k, g, v, w, a, F))).2 j col)) →
            lp_X7_addSlips_63 (n + 1) (nI k) H = if hh : g < ng ∧ nl < 40 then lp_X7_addSlips_63 n (nI (k + 1)) (hso H 18 (addZ z ⟨nl, hh.2⟩ (nI g) (nI v) (nI w) (nI (if q = 3 then n0 else a)) (nI (if q = 3 then 1000 else n0)) (nI (nl + 1)))) else some (nI k, H) := fun n K H e e19 hK ek eF => by
          have mono := run_mono t m (i + 1) _ V'
          have kK : k ≤ K := by
            have : k + 1 ≤ _ := mono.1
            omega
          have Fk : ∀ col, pF (run t m (i + 1) (finP n0 (q, some n0, k, g, v, w, a, F))).2 k col = slF q n0 g v w a col := fun col => by
            rw [mono.2 k (Nat.lt_succ_self k)]
            exact if_pos rfl
          have ad := adds_v (g := g) (v := v) (w := w) (a := if q = 3 then n0 else a) (t := if q = 3 then 1000 else n0) (k := k) (by omega) hv' ⟨hk'.2, hk'.1⟩ va vt (ng := ng) (nl := nl) hg' hg8 h40 H (by rw [e]; exact z7) (by rw [e]; exact z8) ((eF k 0 (by omega) (by decide)).trans (by rw [Fk]; rfl)) ((eF k 1 (by omega) (by decide)).trans (by rw [Fk]; rfl)) ((eF k 2 (by omega) (by decide)).trans (by rw [Fk]; rfl)) ((eF k 3 (by omega) (by decide)).trans (by rw [Fk]; rfl)) ((eF k 4 (by omega) (by decide)).trans (by rw [Fk]; rfl))
          rw [lp_X7_addSlips_63]
          unfold jb_X7_addSlips_85
          rw [e19, if_neg (nI_nlt kK (by omega)), ad, e]
          by_cases c : g < ng ∧ nl < 40
          · rw [dif_pos c, dif_pos c, gb_some, if_neg (by decide), nI_1]
          · rw [dif_neg c, dif_neg c, gb_some, if_pos rfl]
        by_cases cc : g < ng ∧ nl < 40
        · obtain ⟨I', R'⟩ := sim_addLot I R ⟨nl, cc.2⟩ rfl ⟨g, hg'⟩ cc.1 ⟨v, hv'⟩ (p0 := nI g) (p1 := nI v) (p2 := nI w) (p3 := nI (if q = 3 then n0 else a)) (p4 := nI (if q = 3 then 1000 else n0)) (x := nI (nl + 1)) rfl rfl ⟨w, hk'.1, rfl⟩ ⟨_, va, rfl⟩ ⟨_, vt.2, rfl⟩ rfl
          obtain ⟨y, c', z', S', yc, ym⟩ := slips_both hl ht t59 m (i + 1) _ _ _ ng (nl + 1) nt (by omega) V' I' R' hr
          refine ⟨y, c', z', S', fun n h hn e D e5 e16 => ?_, fun n K H hn e e19 hK ek eF => ?_⟩
          · obtain ⟨n, rfl⟩ : ∃ n', n = n' + 1 := ⟨n - 1, by omega⟩
            obtain ⟨h1, e1, oo, D1⟩ := rd n (hso h 8 (addC c ⟨nl, cc.2⟩ (nI g) (nI v) (nI w) (nI (if q = 3 then n0 else a)) (nI (if q = 3 then 1000 else n0)) (nI (nl + 1)))) (nI (k + 1)) D
            obtain ⟨h', e', s1, s2, s3⟩ := yc n h1 (by omega) (oo.2 8 (by decide)) D1 ((congrFun (oo.2 0 (by decide)) 5).trans e5) (fun j hj => (congrFun (oo.2 16 (by decide)) j).trans (e16 j hj))
            refine ⟨h', ?_, s1.trans oo.1, fun k' a8 a15 => ?_, s3⟩
            · rw [at_i n h e5 e16]
              change jb_X6_enterSlips_37 (lp_X6_enterSlips_11 n) (nI k) (nI i) (nI (t i)) h = _
              rw [cl n h e D, dif_pos cc, e1]
              exact e'
            · rw [s2 k' a8 a15, oo.2 k' a15, hso_at, if_neg a8]
          · obtain ⟨n, rfl⟩ : ∃ n', n = n' + 1 := ⟨n - 1, by omega⟩
            rw [run_ok (by rw [x59]; exact es)] at ek eF
            obtain ⟨H', e', s1, s2, s3⟩ := ym n K (hso H 18 (addZ z ⟨nl, cc.2⟩ (nI g) (nI v) (nI w) (nI (if q = 3 then n0 else a)) (nI (if q = 3 then 1000 else n0)) (nI (nl + 1)))) (by omega) rfl e19 hK ek eF
            refine ⟨H', ?_, s1, fun k' a18 => ?_, s3⟩
            · change lp_X7_addSlips_63 (n + 1) (nI k) H = _
              rw [ml n K H e e19 hK ek eF, dif_pos cc]
              exact e'
            · rw [s2 k' a18, hso_at, if_neg a18]
        · refine ⟨k, c, z, ⟨ng, nl, nt, I, R⟩, fun n h hn e D e5 e16 => ?_, fun n K H hn e e19 hK ek eF => ?_⟩
          · obtain ⟨n, rfl⟩ : ∃ n', n = n' + 1 := ⟨n - 1, by omega⟩
            refine ⟨h, ?_, rfl, fun _ _ _ => rfl, e⟩
            rw [at_i n h e5 e16]
            change jb_X6_enterSlips_37 (lp_X6_enterSlips_11 n) (nI k) (nI i) (nI (t i)) h = _
            rw [cl n h e D, dif_neg cc]
          · obtain ⟨n, rfl⟩ : ∃ n', n = n' + 1 := ⟨n - 1, by omega⟩
            rw [run_ok (by rw [x59]; exact es)] at ek eF
            refine ⟨H, ?_, rfl, fun _ _ => rfl, e⟩
            change lp_X7_addSlips_63 (n + 1) (nI k) H = _
            rw [ml n K H e e19 hK ek eF, dif_neg cc]
      · obtain ⟨kk, ff⟩ := stp_k x59 es
        obtain ⟨y, c', z', S', yc, ym⟩ := slips_both hl ht t59 m (i + 1) p' c z ng nl nt (by omega) V' I R hr
        refine ⟨y, c', z', S', fun n h hn e D e5 e16 => ?_, fun n K H hn e e19 hK ek eF => ?_⟩
        · obtain ⟨n, rfl⟩ : ∃ n', n = n' + 1 := ⟨n - 1, by omega⟩
          obtain ⟨h1, e1, oo, D1⟩ := rd n h (nI (pk p)) D
          obtain ⟨h', e', s1, s2, s3⟩ := yc n h1 (by omega) ((oo.2 8 (by decide)).trans e) D1 ((congrFun (oo.2 0 (by decide)) 5).trans e5) (fun j hj => (congrFun (oo.2 16 (by decide)) j).trans (e16 j hj))
          refine ⟨h', ?_, s1.trans oo.1, fun k' a8 a15 => (s2 k' a8 a15).trans (oo.2 k' a15), s3⟩
          rw [at_i n h e5 e16]
          unfold jb_X6_enterSlips_37
          rw [if_neg (nI_nq 59 59 rfl (by decide) (by have := ht i; omega) x59), e1, ← kk]
          exact e'
        · rw [run_ok es] at ek eF
          obtain ⟨H', e', s⟩ := ym n K H (by omega) e e19 hK ek eF
          rw [kk] at e'
          exact ⟨H', e', s⟩
