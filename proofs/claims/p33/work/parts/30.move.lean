-- oil is taken: moved
theorem pour_loc {c c' : Nat → Int32} {t : Fin 6} (e : ∀ k, cTa c t k = cTa c' t k) (v : Fin 5) (x g : Int32) (k : Fin 7) : cTa (pourC c t v x g) t k = cTa (pourC c' t v x g) t k := by
  unfold pourC; split
  · exact e k
  · have eo : oil5 c t = oil5 c' t := by simp only [oil5, e]
    rw [cTa_uTa, cTa_uTa, cTa_uTa, cTa_uTa, eo, e 1, e (ts v), e k]
theorem pour_ne (c : Nat → Int32) {t t' : Fin 6} (ne : ¬ t' = t) (v : Fin 5) (x g : Int32) (k : Fin 7) : cTa (pourC c t v x g) t' k = cTa c t' k := by
  unfold pourC; split
  · rfl
  · rw [cTa_uTa, if_neg (fun w => ne w.1), cTa_uTa, if_neg (fun w => ne w.1)]
theorem pour_grade {c : Nat → Int32} {t : Fin 6} (T : TankI c t) (v : Fin 5) (x : Int32) {g : Nat} (hg : g ≤ 2) {t' : Fin 6} (h : isN (cTa c t' 1) 2) : isN (cTa (pourC c t v x (nI g)) t' 1) 2 := by
  by_cases q : t' = t
  · subst q
    unfold pourC; split
    · exact h
    · rw [cTa_uTa, if_neg (fun w => ts_ne1 v w.2.symm), cTa_uTa, if_pos ⟨rfl, rfl⟩]
      split
      · exact ⟨g, hg, rfl⟩
      · next w =>
        unfold grd at w ⊢
        by_cases o : oil5 c t' = 0
        · rw [if_pos o] at w
          exact absurd (show (-1 : Int32) < nI g from by rcases (by omega : g = 0 ∨ g = 1 ∨ g = 2) with rfl | rfl | rfl <;> decide) w
        · rw [if_neg o]; exact h
  · rw [pour_ne c q]; exact h
theorem cLo_mv (t : Fin 6) (N : Fin 5 → Nat) (g : Int32) (i' : Fin 40) (k : Fin 11) : ∀ (m i : Nat) (c : Nat → Int32), cLo (mvC t N g m i c) i' k = cLo c i' k
  | 0, _, _ => rfl
  | m + 1, i, c => by
    rw [mvC]
    split
    · rw [cLo_mv t N g i' k m (i + 1), cLo_pour]
    · rfl
theorem cGr_mv (t : Fin 6) (N : Fin 5 → Nat) (g : Int32) (i' : Fin 8) (k : Fin 4) : ∀ (m i : Nat) (c : Nat → Int32), cGr (mvC t N g m i c) i' k = cGr c i' k
  | 0, _, _ => rfl
  | m + 1, i, c => by
    rw [mvC]
    split
    · rw [cGr_mv t N g i' k m (i + 1), cGr_pour]
    · rfl
theorem cVa_mv (t : Fin 6) (N : Fin 5 → Nat) (g : Int32) (i' k : Fin 5) : ∀ (m i : Nat) (c : Nat → Int32), cVa (mvC t N g m i c) i' k = cVa c i' k
  | 0, _, _ => rfl
  | m + 1, i, c => by
    rw [mvC]
    split
    · rw [cVa_mv t N g i' k m (i + 1), cVa_pour]
    · rfl
theorem cS_mv (t : Fin 6) (N : Fin 5 → Nat) (g : Int32) (i' : Fin 14) : ∀ (m i : Nat) (c : Nat → Int32), cS (mvC t N g m i c) i' = cS c i'
  | 0, _, _ => rfl
  | m + 1, i, c => by
    rw [mvC]
    split
    · rw [cS_mv t N g i' m (i + 1), cS_pour]
    · rfl
/-- the law's order: out of t and into u, one oil after the other -/
def mtC (t u : Fin 6) (N : Fin 5 → Nat) (g : Int32) : Nat → Nat → (Nat → Int32) → Nat → Int32
  | 0, _, c => c
  | m + 1, i, c => if hi : i < 5 then mtC t u N g m (i + 1) (pourC (uTa c t (ts ⟨i, hi⟩) (cTa c t (ts ⟨i, hi⟩) + -nI (N ⟨i, hi⟩))) u ⟨i, hi⟩ (nI (N ⟨i, hi⟩)) g) else c
theorem mt_u {t u : Fin 6} (ne : ¬ u = t) (N : Fin 5 → Nat) (g : Int32) : ∀ (m i : Nat) (c c' : Nat → Int32), (∀ k, cTa c u k = cTa c' u k) → ∀ k, cTa (mtC t u N g m i c) u k = cTa (mvC u N g m i c') u k
  | 0, _, _, _, e, k => e k
  | m + 1, i, c, c', e, k => by
    rw [mtC, mvC]
    split
    · refine mt_u ne N g m (i + 1) _ _ (fun k => ?_) k
      exact pour_loc (fun k => by rw [cTa_uTa, if_neg (fun w => ne w.1)]; exact e k) _ _ _ k
    · exact e k
theorem mt_ne {t u : Fin 6} (ne : ¬ u = t) (N : Fin 5 → Nat) (g : Int32) {t' : Fin 6} (nu : ¬ t' = u) : ∀ (m i : Nat) (c c' : Nat → Int32), (∀ k, cTa c t' k = cTa c' t' k) → ∀ k, cTa (mtC t u N g m i c) t' k = cTa (tkC t N m i c') t' k
  | 0, _, _, _, e, k => e k
  | m + 1, i, c, c', e, k => by
    rw [mtC, tkC]
    split
    · next hi =>
      refine mt_ne ne N g nu m (i + 1) _ _ (fun k => ?_) k
      rw [pour_ne _ nu, cTa_uTa, cTa_uTa]
      by_cases x : t' = t
      · subst x
        rw [e, e]
      · rw [if_neg (fun w => x w.1), if_neg (fun w => x w.1)]; exact e k
    · exact e k
theorem mv_ne (u : Fin 6) (N : Fin 5 → Nat) (g : Int32) {t' : Fin 6} (nu : ¬ t' = u) (k : Fin 7) : ∀ (m i : Nat) (c : Nat → Int32), cTa (mvC u N g m i c) t' k = cTa c t' k
  | 0, _, _ => rfl
  | m + 1, i, c => by
    rw [mvC]
    split
    · rw [mv_ne u N g nu k m (i + 1), pour_ne _ nu]
    · rfl
theorem mt_mv {t u : Fin 6} (ne : ¬ u = t) (N : Fin 5 → Nat) (g : Int32) (c : Nat → Int32) (t' : Fin 6) (k : Fin 7) : cTa (mvC u N g 5 0 (tkC t N 5 0 c)) t' k = cTa (mtC t u N g 5 0 c) t' k := by
  by_cases x : t' = u
  · subst x
    exact (mt_u ne N g 5 0 c _ (fun k => (cTa_tk t N ne k 5 0 c).symm) k).symm
  · rw [mv_ne u N g x, mt_ne ne N g x 5 0 c c (fun _ => rfl)]
theorem takes_290 {t u : Fin 6} (ht : t.val < 3) (hu : u.val < 3) (ne : ¬ u = t) (o N : Fin 5 → Nat) (h2 : ∀ v, o v ≤ 20000) (hN : ∀ v, N v ≤ o v) (q : Int32) {g nl : Nat} (hg : g ≤ 2) : ∀ (m i n r : Nat) (c : Nat → Int32) (h : Hst), i + m = 5 → m < n → InvC c 3 nl 3 → (∀ v : Fin 5, i ≤ v.val → cTa c t (ts v) = nI (o v)) → roomV c u = nI r → r ≤ 20000 → sumN N m i ≤ r → (∀ t' : Fin 6, t'.val < 3 → isN (cTa c t' 1) 2) → RT (h.1 24) c → (∀ v : Fin 5, h.1 26 v.val = nI (N v)) →
    ∃ ta', lp_L_takes_290 n (nI t.val) q (nI u.val) (nI g) (nI i) h = lp_L_takes_290 (n - m) (nI t.val) q (nI u.val) (nI g) 5 (hso h 24 ta') ∧ RT ta' (mtC t u N (nI g) m i c) ∧ ∀ t' : Fin 6, t'.val < 3 → isN (cTa (mtC t u N (nI g) m i c) t' 1) 2
  | 0, i, n, r, c, h, hi, _, _, _, _, _, _, G, R, _ => ⟨h.1 24, by rw [hso_self, show i = 5 by omega]; rfl, R, G⟩
  | m + 1, i, 0, r, c, h, _, hn, _, _, _, _, _, _, _, _ => absurd hn (by omega)
  | m + 1, i, n + 1, r, c, h, hi, hn, I, hc, er, hr, hs, G, R, hv => by
    have i5 : i < 5 := by omega
    have hvi : h.1 26 i = nI (N ⟨i, i5⟩) := hv ⟨i, i5⟩
    have rvi : h.1 24 (7 * t.val + 2 + i) = cTa c t (ts ⟨i, i5⟩) := R.v ht ⟨i, i5⟩
    have RU := R.upd t (ts ⟨i, i5⟩) (cTa c t (ts ⟨i, i5⟩) + -nI (N ⟨i, i5⟩))
    have i24 : 7 * t.val + (ts ⟨i, i5⟩).val = 7 * t.val + 2 + i := by show 7 * t.val + (2 + i) = _; omega
    rw [i24] at RU
    rw [sumN, lfN_at N i i5] at hs
    have e1 : cTa c t (ts ⟨i, i5⟩) + -nI (N ⟨i, i5⟩) = nI (o ⟨i, i5⟩ - N ⟨i, i5⟩) := by
      rw [← Int32.sub_eq_add_neg, hc ⟨i, i5⟩ (Nat.le_refl _), pk_sub (hN _)]
    obtain ⟨o', ho', eo', T⟩ := TankI_dec (I.2.2.2.2.2.2.2.2.2 t) ⟨i, i5⟩
    have eo : o' = o ⟨i, i5⟩ := nI_inj (by omega) (by have := h2 ⟨i, i5⟩; omega) (eo'.symm.trans (hc ⟨i, i5⟩ (Nat.le_refl _)))
    have I1 : InvC (uTa c t (ts ⟨i, i5⟩) (cTa c t (ts ⟨i, i5⟩) + -nI (N ⟨i, i5⟩))) 3 nl 3 := inv_T I t _ ht _ (by rw [e1]; exact T _ (by omega))
    have r1 : roomV (uTa c t (ts ⟨i, i5⟩) (cTa c t (ts ⟨i, i5⟩) + -nI (N ⟨i, i5⟩))) u = nI r := by
      rw [← er]
      unfold roomV oil5
      simp only [cTa_uTa, ne, false_and, if_false]
    have Ni : N ⟨i, i5⟩ ≤ 20000 := Nat.le_trans (hN _) (h2 _)
    have I2 := inv_pour I1 u hu ⟨i, i5⟩ (nI (N ⟨i, i5⟩)) (nI g) (by rw [r1]; exact nI_le (by omega) (by omega))
    have G1 : ∀ t' : Fin 6, t'.val < 3 → isN (cTa (uTa c t (ts ⟨i, i5⟩) (cTa c t (ts ⟨i, i5⟩) + -nI (N ⟨i, i5⟩))) t' 1) 2 := fun t' ht' => by
      rw [cTa_uTa, if_neg (fun w => ts_ne1 _ w.2.symm)]; exact G t' ht'
    have T1 := I1.2.2.2.2.2.2.2.2.2 u
    obtain ⟨ta1, e2, R2⟩ := pourL (h := hst h 24 (7 * t.val + 2 + i) (cTa c t (ts ⟨i, i5⟩) + -nI (N ⟨i, i5⟩))) RU hu T1 ⟨i, i5⟩ (x := N ⟨i, i5⟩) (g := g) (by omega) hg (G1 u hu)
    have e2' : f_L_pour (nI u.val) (nI i) (nI (N ⟨i, i5⟩)) (nI g) (hst h 24 (7 * t.val + 2 + i) (cTa c t (ts ⟨i, i5⟩) + -nI (N ⟨i, i5⟩))) = some (hso h 24 ta1) := by
      refine e2.trans ?_
      unfold hst
      rw [hso_hso]
    have hv1 : (hst h 24 (7 * t.val + 2 + i) (cTa c t (ts ⟨i, i5⟩) + -nI (N ⟨i, i5⟩))).1 26 i = nI (N ⟨i, i5⟩) := hvi
    obtain ⟨ta', e', R', G'⟩ := takes_290 ht hu ne o N h2 hN q hg m (i + 1) n (r - N ⟨i, i5⟩) _ (hso h 24 ta1) (by omega) (by omega) I2 (fun v hv' => by
        rw [pour_ne _ (fun w => ne w.symm), cTa_uTa, if_neg (fun w => by have := congrArg Fin.val (ts_inj.mp w.2); have x : v.val = i := this; omega)]
        exact hc v (by omega))
      (by rw [roomV_pour _ u ⟨i, i5⟩ (by omega), r1, pk_sub (by omega)]) (by omega) (by omega) (fun t' ht' => pour_grade T1 _ _ hg (G1 t' ht')) R2 hv
    refine ⟨ta', ?_, by rw [mtC, dif_pos i5]; exact R', by rw [mtC, dif_pos i5]; exact G'⟩
    rw [lp_L_takes_290, if_neg (show ¬ (5 : Int32) ≤ nI i from nI_ge (b := 5) i5 (by decide)), ix72, gl_eq, gck_nI (by omega) (by decide), gck_nI i5 (by decide), gck_nI (by omega) (by decide), nI_clamp (by omega), nI_clamp (by omega), rvi, hvi, Int32.sub_eq_add_neg, gl_eq, gck_nI i5 (by decide), hv1, e2', gbv_some, nI_1, e', show n + 1 - (m + 1) = n - m by omega, hso_hso]
theorem act_move {h : Hst} {nl b : Nat} (j : J h nl b) (t : Fin 6) (ht : t.val < 3) (u : Fin 6) (hu : u.val < 3) (ne : ¬ u = t) (o : Fin 5 → Nat) (ho : ∀ v, cTa (h.1 8) t (ts v) = nI (o v)) (he : oil5 (h.1 8) t = nI (S5 o)) (h1 : S5 o ≤ 20000) (h2 : ∀ v, o v ≤ 20000) {q : Nat} (q1 : 1 ≤ q) (q2 : q ≤ S5 o) (hr : nI q ≤ roomV (h.1 8) u) :
    ∃ h', (gbv (f_L_shares (nI t.val) (nI q) h) fun h17 => lp_L_takes_290 FU (nI t.val) (nI q) (nI u.val) (cTa (h.1 8) t 1) 0 h17) = some (1, h') ∧ J h' nl b := by
  obtain ⟨hn, S, I, R⟩ := j
  obtain ⟨⟨⟨n0, n1, n2, n3, n4, n5, n6, n7⟩, n8⟩, r18, r19, r20, r22, rt, r25, rg⟩ := R
  obtain ⟨N, m, k1, k2, m5, mis, k3, k4, ms⟩ := split_N o h1 q1 q2
  obtain ⟨g, hg, eg⟩ := rg.1 t ht
  obtain ⟨ha, eA, sA, vA⟩ := sharesL ht ho he h1 h2 q1 q2 m5 mis k4 ms rt
  have a8 : ha.1 8 = h.1 8 := sA 8 (by decide)
  obtain ⟨r, r1, r2⟩ := roomV_N (I.2.2.2.2.2.2.2.2.2 u)
  have qr : q ≤ r := by
    rw [r2] at hr
    exact Nat.le_of_not_lt (fun w => nI_ge w (by omega) hr)
  obtain ⟨ta', eC, RC, GC⟩ := takes_290 (nl := nl) ht hu ne o N h2 k1 (nI q) hg 5 0 FU r (h.1 8) ha rfl (by decide) I (fun v _ => ho v) r2 r1 (by rw [sumN_5, k2]; exact qr) rg.1 (by rw [sA 24 (by decide)]; exact rt) vA
  obtain ⟨h', e', e8, S', ou, I'⟩ := cls_move (h := hso ha 24 ta') (ng := 3) (nl := nl) (nt := 3) ((S.same (sA 1 (by decide)) : SVx ha).same rfl) (by show InvC (ha.1 8) 3 nl 3; rw [a8]; exact I) t ht u hu ne o (by show ∀ v, cTa (ha.1 8) t (ts v) = _; rw [a8]; exact ho) (by show oil5 (ha.1 8) t = _; rw [a8]; exact he) h1 h2 q1 q2 m5 mis k1 k2 k3 (by show nI q ≤ roomV (ha.1 8) u; rw [a8]; exact hr)
  have f8 : (hso ha 24 ta').1 8 = h.1 8 := a8
  rw [f8] at e' e8 I'
  have f24 : (hso ha 24 ta').1 24 = ta' := rfl
  have fk : ∀ k, k ≠ 24 → k ≠ 26 → (hso ha 24 ta').1 k = h.1 k := fun k x2 x4 => by
    rw [hso_at, if_neg x2, sA k x4]
  have gT : ∀ i k, cTa (mvC u N (cTa (h.1 8) t 1) 5 0 (tkC t N 5 0 (h.1 8))) i k = cTa (mtC t u N (nI g) 5 0 (h.1 8)) i k := fun i k => by
    rw [eg]; exact mt_mv ne N (nI g) (h.1 8) i k
  have RC' : RT ta' (mvC u N (cTa (h.1 8) t 1) 5 0 (tkC t N 5 0 (h.1 8))) := RC.congr (fun t' _ k => gT t' k)
  refine ⟨h', ?_, J_end hn e8 S' ou I' ?_⟩
  · rw [eA, gbv_some, eg]
    rw [show nI 0 = (0 : Int32) from rfl] at eC
    rw [eC, show FU - 5 = 4090 + 1 from rfl, lp_L_takes_290, if_pos (by decide), e', gb_some, oilL (c := mvC u N (cTa (h.1 8) t 1) 5 0 (tkC t N 5 0 (h.1 8))) (by rw [ou 24 (by decide), f24]; exact RC') hu, gb_some, if_pos rfl]
    unfold jb_L_takes_365
    rw [gzr_1]
  · unfold RelL
    rw [f24, fk 17 (by decide) (by decide), fk 18 (by decide) (by decide), fk 19 (by decide) (by decide), fk 20 (by decide) (by decide), fk 21 (by decide) (by decide), fk 22 (by decide) (by decide), fk 23 (by decide) (by decide), fk 25 (by decide) (by decide)]
    have gS : ∀ i, cS (mvC u N (cTa (h.1 8) t 1) 5 0 (tkC t N 5 0 (h.1 8))) i = cS (h.1 8) i := fun i => by rw [cS_mv, cS_tk]
    have gL : ∀ l k, cLo (mvC u N (cTa (h.1 8) t 1) 5 0 (tkC t N 5 0 (h.1 8))) l k = cLo (h.1 8) l k := fun l k => by rw [cLo_mv, cLo_tk]
    have gG : ∀ g' k, cGr (mvC u N (cTa (h.1 8) t 1) 5 0 (tkC t N 5 0 (h.1 8))) g' k = cGr (h.1 8) g' k := fun g' k => by rw [cGr_mv, cGr_tk]
    refine ⟨⟨?_, fun i => by rw [gS]; exact n8 i⟩, r18.congr (fun v => by rw [cVa_mv, cVa_tk]), r19.congr gL, r20.congr gL, r22.congr gL, RC', r25.congr (fun g => gG g 0), fun t' ht' => by rw [gT]; exact GC t' ht', fun l hl h5 => ?_, fun g' hg' => by rw [gG]; exact rg.2.2 g' hg'⟩
    · have q3 : rv (mvC u N (cTa (h.1 8) t 1) 5 0 (tkC t N 5 0 (h.1 8))) = rv (h.1 8) := by unfold rv; rw [gS, gS]
      rw [q3, gS, gS, gS]
      simp only [gG]
      exact ⟨n0, n1, n2, n3, n4, n5, n6, n7⟩
    · rw [gL] at h5
      rw [gL, gL]
      exact rg.2.1 l hl h5
