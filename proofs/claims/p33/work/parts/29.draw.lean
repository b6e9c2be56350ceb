-- oil is taken: drawn
theorem cTa_tk1 (t : Fin 6) (N : Fin 5 → Nat) (t' : Fin 6) : ∀ (m i : Nat) (c : Nat → Int32), cTa (tkC t N m i c) t' 1 = cTa c t' 1
  | 0, _, _ => rfl
  | m + 1, i, c => by
    rw [tkC]
    split
    · rw [cTa_tk1 t N t' m (i + 1), cTa_uTa, if_neg (fun w => ts_ne1 _ w.2.symm)]
    · rfl
theorem takes_120 {c : Nat → Int32} {nl : Nat} (I : InvC c 3 nl 3) (t : Fin 6) (ht : t.val < 3) (o : Fin 5 → Nat) (ho : ∀ v, cTa c t (ts v) = nI (o v)) (he : oil5 c t = nI (S5 o)) (h1 : S5 o ≤ 20000) (h2 : ∀ v, o v ≤ 20000) {q m : Nat} {N : Fin 5 → Nat} (q1 : 1 ≤ q) (q2 : q ≤ S5 o) (m5 : m < 5) (mis : misF (lfN fun v => o v * q / S5 o) 5 0 (nI q) = nI m)
    (n1 : ∀ v, rnd 0 m (fun v => nI (o v * q / S5 o)) (fun v => nI (o v * q % S5 o)) v = nI (N v)) (g : Int32) : ∀ (k i n : Nat) (h : Hst), i + k = 5 → k < n → h.1 8 = c → (∀ v : Fin 5, h.1 26 v.val = nI (N v)) →
    ∃ h', lp_L_takes_120 n (nI t.val) (nI q) g (nI i) h = lp_L_takes_155 FU (nI t.val) (nI q) g 0 h' ∧ ScrC h h'
  | 0, i, n + 1, h, hi, _, _, _ => by
    refine ⟨h, ?_, ScrC.rf⟩
    rw [lp_L_takes_120, if_pos (show (5 : Int32) ≤ nI i from nI_le (a := 5) (by omega) (by omega))]
  | k + 1, i, n + 1, h, hi, hn, e, hv => by
    have i5 : i < 5 := by omega
    obtain ⟨ha, ea, sa⟩ := cls_taken I t ht o ho he h1 h2 q1 q2 m5 mis n1 ⟨i, i5⟩ h e
    have ea' : f_X6_taken (nI t.val) (nI q) (nI i) h = some (nI (N ⟨i, i5⟩), ha) := ea
    have hva : ∀ v : Fin 5, ha.1 26 v.val = nI (N v) := fun v => by rw [sa.2 26 (by decide)]; exact hv v
    have hvi : ha.1 26 i = nI (N ⟨i, i5⟩) := hva ⟨i, i5⟩
    obtain ⟨h', e', s'⟩ := takes_120 I t ht o ho he h1 h2 q1 q2 m5 mis n1 g k (i + 1) n ha (by omega) (by omega) (sa.e8.trans e) hva
    refine ⟨h', ?_, sa.trans s'⟩
    rw [lp_L_takes_120, if_neg (show ¬ (5 : Int32) ≤ nI i from nI_ge (b := 5) i5 (by decide)), ea', gb_some, gck_nI i5 (by decide), nI_clamp (by omega), hvi, if_pos rfl, nI_1]
    exact e'
theorem takes_155 {t : Fin 6} (ht : t.val < 3) (N : Fin 5 → Nat) (q g : Int32) : ∀ (m i n : Nat) (c : Nat → Int32) (h : Hst), i + m = 5 → m < n → RT (h.1 24) c → (∀ v : Fin 5, h.1 26 v.val = nI (N v)) →
    ∃ ta', lp_L_takes_155 n (nI t.val) q g (nI i) h = lp_L_takes_155 (n - m) (nI t.val) q g 5 (hso h 24 ta') ∧ RT ta' (tkC t N m i c)
  | 0, i, n, c, h, hi, _, R, _ => ⟨h.1 24, by rw [hso_self, show i = 5 by omega]; rfl, R⟩
  | m + 1, i, 0, c, h, _, hn, _, _ => absurd hn (by omega)
  | m + 1, i, n + 1, c, h, hi, hn, R, hv => by
    have i5 : i < 5 := by omega
    have hvi : h.1 26 i = nI (N ⟨i, i5⟩) := hv ⟨i, i5⟩
    have rvi : h.1 24 (7 * t.val + 2 + i) = cTa c t (ts ⟨i, i5⟩) := R.v ht ⟨i, i5⟩
    have RU := R.upd t (ts ⟨i, i5⟩) (cTa c t (ts ⟨i, i5⟩) + -nI (N ⟨i, i5⟩))
    have i24 : 7 * t.val + (ts ⟨i, i5⟩).val = 7 * t.val + 2 + i := by show 7 * t.val + (2 + i) = _; omega
    rw [i24] at RU
    obtain ⟨ta', e', R'⟩ := takes_155 ht N q g m (i + 1) n _ (hst h 24 (7 * t.val + 2 + i) (cTa c t (ts ⟨i, i5⟩) + -nI (N ⟨i, i5⟩))) (by omega) (by omega) RU hv
    refine ⟨ta', ?_, by rw [tkC, dif_pos i5]; exact R'⟩
    rw [lp_L_takes_155, if_neg (show ¬ (5 : Int32) ≤ nI i from nI_ge (b := 5) i5 (by decide)), ix72, gl_eq, gck_nI (by omega) (by decide), gck_nI i5 (by decide), gck_nI (by omega) (by decide), nI_clamp (by omega), nI_clamp (by omega), rvi, hvi, Int32.sub_eq_add_neg, gl_eq, nI_1, e', show n + 1 - (m + 1) = n - m by omega]
    unfold hst
    rw [hso_hso]
theorem act_draw {h : Hst} {nl b : Nat} (j : J h nl b) (hb : b ≤ 48) (t : Fin 6) (ht : t.val < 3) (g : Fin 8) (hg : g.val < 3) (o : Fin 5 → Nat) (ho : ∀ v, cTa (h.1 8) t (ts v) = nI (o v)) (he : oil5 (h.1 8) t = nI (S5 o)) (h1 : S5 o ≤ 20000) (h2 : ∀ v, o v ≤ 20000) {q a : Nat} (q1 : 1 ≤ q) (q2 : q ≤ S5 o) (ea : cGr (h.1 8) g 0 = nI a) (aL : a ≤ 12000 * b) (qa : q ≤ a) :
    ∃ h', jb_L_takes_104 (nI t.val) (nI g.val) (nI q) h = some (1, h') ∧ J h' nl b := by
  obtain ⟨hn, S, I, R⟩ := j
  obtain ⟨⟨⟨n0, n1, n2, n3, n4, n5, n6, n7⟩, n8⟩, r18, r19, r20, r22, rt, r25, rg⟩ := R
  obtain ⟨N, m, k1, k2, m5, mis, k3, k4, ms⟩ := split_N o h1 q1 q2
  obtain ⟨ha, eA, sA, vA⟩ := sharesL ht ho he h1 h2 q1 q2 m5 mis k4 ms rt
  have a8 : ha.1 8 = h.1 8 := sA 8 (by decide)
  obtain ⟨hb', eB, sB⟩ := takes_120 I t ht o ho he h1 h2 q1 q2 m5 mis k3 (nI g.val) 5 0 FU ha rfl (by decide) a8 vA
  have b8 : hb'.1 8 = h.1 8 := sB.e8.trans a8
  have bk : ∀ k, 15 < k → k ≠ 26 → hb'.1 k = h.1 k := fun k hk hk2 => (sB.2 k (by omega)).trans (sA k hk2)
  have bS : SVx hb' := sB.sv (S.same (sA 1 (by decide)))
  have bv : ∀ v : Fin 5, hb'.1 26 v.val = nI (N v) := fun v => by rw [sB.2 26 (by decide)]; exact vA v
  obtain ⟨ta', eC, RC⟩ := takes_155 ht N (nI q) (nI g.val) 5 0 FU (h.1 8) hb' rfl (by decide) (by rw [bk 24 (by decide) (by decide)]; exact rt) bv
  have acg : (hso hb' 24 ta').1 25 g.val = cGr (h.1 8) g 0 := by
    show hb'.1 25 g.val = _
    rw [bk 25 (by decide) (by decide)]; exact r25 g hg
  have na : ¬ cGr (h.1 8) g 0 < nI q := by rw [ea]; exact nI_nlt qa (by omega)
  obtain ⟨h', e', e8, S', ou, I'⟩ := cls_draw (h := hst (hso hb' 24 ta') 25 g.val (cGr (h.1 8) g 0 - nI q)) (ng := 3) (nl := nl) (nt := 3) (bS.same rfl) (by show InvC (hb'.1 8) 3 nl 3; rw [b8]; exact I) g hg t ht o (by show ∀ v, cTa (hb'.1 8) t (ts v) = _; rw [b8]; exact ho) (by show oil5 (hb'.1 8) t = _; rw [b8]; exact he) h1 h2 q1 q2 m5 mis k1 k3 (by show ¬ cGr (hb'.1 8) g 0 < _; rw [b8]; exact na)
  have f8 : (hst (hso hb' 24 ta') 25 g.val (cGr (h.1 8) g 0 - nI q)).1 8 = h.1 8 := b8
  rw [f8] at e' e8 I'
  have f25 : (hst (hso hb' 24 ta') 25 g.val (cGr (h.1 8) g 0 - nI q)).1 25 = upd (h.1 25) g.val (cGr (h.1 8) g 0 - nI q) := by
    show upd (hb'.1 25) _ _ = _
    rw [bk 25 (by decide) (by decide)]
  have f24 : (hst (hso hb' 24 ta') 25 g.val (cGr (h.1 8) g 0 - nI q)).1 24 = ta' := rfl
  have fk : ∀ k, 15 < k → k ≠ 24 → k ≠ 25 → k ≠ 26 → (hst (hso hb' 24 ta') 25 g.val (cGr (h.1 8) g 0 - nI q)).1 k = h.1 k := fun k x1 x2 x3 x4 => by
    rw [hst_at, if_neg x3, hso_at, if_neg x2, bk k x1 x4]
  refine ⟨h', ?_, J_end hn e8 S' ou I' ?_⟩
  · unfold jb_L_takes_104
    rw [eA, gbv_some]
    rw [show nI 0 = (0 : Int32) from rfl] at eB eC
    rw [eB, eC, show FU - 5 = 4090 + 1 from rfl, lp_L_takes_155, if_pos (by decide), gck_nI (by omega) (by decide), gck_nI (by omega) (by decide), nI_clamp (by omega), gl_eq, acg, e', gb_some, gck_nI (by omega) (by decide), ou 25 (by decide), f25, upd_eq, Int32.sub_eq_add_neg, if_pos rfl]
    unfold jb_L_takes_221
    rw [gzr_1]
  · unfold RelL
    rw [f24, f25, fk 17 (by decide) (by decide) (by decide) (by decide), fk 18 (by decide) (by decide) (by decide) (by decide), fk 19 (by decide) (by decide) (by decide) (by decide), fk 20 (by decide) (by decide) (by decide) (by decide), fk 21 (by decide) (by decide) (by decide) (by decide), fk 22 (by decide) (by decide) (by decide) (by decide), fk 23 (by decide) (by decide) (by decide) (by decide)]
    have gS : ∀ i, cS (drC (h.1 8) g t N q) i = cS (h.1 8) i := fun i => by unfold drC; rw [cS_uGr, cS_uGr, cS_dv, cS_tk]
    have gL : ∀ l k, cLo (drC (h.1 8) g t N q) l k = cLo (h.1 8) l k := fun l k => by unfold drC; rw [cLo_uGr, cLo_uGr, cLo_dv, cLo_tk]
    have gT : ∀ i k, cTa (drC (h.1 8) g t N q) i k = cTa (tkC t N 5 0 (h.1 8)) i k := fun i k => by unfold drC; rw [cTa_uGr, cTa_uGr, cTa_dv]
    have gG : ∀ g', cGr (drC (h.1 8) g t N q) g' 0 = if g' = g then nI (a - q) else cGr (h.1 8) g' 0 := fun g' => by
      unfold drC
      rw [cGr_uGr, if_neg (fun w => absurd w.2 (by decide)), cGr_uGr, cGr_dv, cGr_tk, cGr_dv, cGr_tk, ea, ← Int32.sub_eq_add_neg, pk_sub qa]
      by_cases x : g' = g
      · rw [if_pos ⟨x, rfl⟩, if_pos x]
      · rw [if_neg (fun w => x w.1), if_neg x]
    have gG2 : ∀ g', cGr (drC (h.1 8) g t N q) g' 2 = cGr (h.1 8) g' 2 := fun g' => by
      unfold drC
      rw [cGr_uGr, if_neg (fun w => absurd w.2 (by decide)), cGr_uGr, if_neg (fun w => absurd w.2 (by decide)), cGr_dv, cGr_tk]
    refine ⟨⟨?_, fun i => by rw [gS]; exact n8 i⟩, r18.congr (fun v => by unfold drC; rw [cVa_uGr, cVa_uGr, cVa_dv0, cVa_tk]), r19.congr gL, r20.congr gL, r22.congr gL, RC.congr (fun t' _ k => gT t' k), fun g' hg' => ?_, fun t' ht' => ?_, fun l hl h5 => ?_, fun g' hg' => ?_⟩
    · have q3 : rv (drC (h.1 8) g t N q) = rv (h.1 8) := by unfold rv; rw [gS, gS]
      rw [q3, gS, gS, gS]
      simp only [gG2]
      exact ⟨n0, n1, n2, n3, n4, n5, n6, n7⟩
    · rw [gG, ea, pk_sub qa, upd_at]
      by_cases x : g' = g
      · rw [if_pos (congrArg Fin.val x), if_pos x]
      · rw [if_neg (fun w => x (Fin.ext w)), if_neg x]; exact r25 g' hg'
    · rw [gT, cTa_tk1]; exact rg.1 t' ht'
    · rw [gL] at h5
      rw [gL, gL]
      exact rg.2.1 l hl h5
    · rw [gG]
      by_cases x : g' = g
      · rw [if_pos x]; exact ⟨a - q, by omega, rfl⟩
      · rw [if_neg x]; exact rg.2.2 g' hg'
