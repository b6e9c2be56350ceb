theorem rpV_c (c : Nat → Int32) (t : Fin 6) (l : Fin 40) (P : Nat) (m : Int32) : rpV c t l P m = 0 ∨ rpV c t l P m = 2 ∨ rpV c t l P m = 3 := by
  unfold rpV
  split
  · split
    · exact .inl rfl
    · split
      · exact .inr (.inr rfl)
      · exact .inl rfl
  · exact .inr (.inl rfl)
theorem pr_408 {h H : Hst} {nl b : Nat} (j : J h nl b) {t : Fin 6} (ht : t.val < 3) {u v : Fin 5} {r C T Re gr : Nat} (ev : cS (h.1 8) 10 = nI v.val) (er : cS (h.1 8) 11 = nI r) (hr : r ≤ 50) (hC : C ≤ r) (hRe : Re ≤ T) (hT : T ≤ 13000) (hR5 : Re ≤ 50) (hgr : gr ≤ 2) (room : nI (C + (T - Re)) ≤ roomV (h.1 8) t) (k8 : ∀ k, k ≠ 17 → H.1 k = h.1 k) (k17 : ∀ i, i ≠ 5 → H.1 17 i = h.1 17 i) (m l due f : Int32) :
    ∃ ta', jb_L_presses_408 (nI t.val) m l (nI u.val) due f (nI C) (nI T) (nI Re) (nI gr) H = jb_L_presses_456 (nI t.val) m l due f (nI Re) (if nI Re = 0 then -1 else nI u.val) 3 (hso H 24 ta') ∧ RT ta' (pourC (pourC (h.1 8) t v (nI C) (nI gr)) t u (nI (T - Re)) (nI gr)) := by
  obtain ⟨hn, S, I, ⟨⟨n0, n1, n2, n3, n4, n5, n6, n7⟩, n8⟩, r18, r19, r20, r22, rt, r25, rg⟩ := id j
  have R0 : RT (H.1 24) (h.1 8) := by rw [k8 24 (by decide)]; exact rt
  have T0 := I.2.2.2.2.2.2.2.2.2 t
  have one : ∃ ta1, jb_L_presses_408 (nI t.val) m l (nI u.val) due f (nI C) (nI T) (nI Re) (nI gr) H = jb_L_presses_427 (nI t.val) m l (nI u.val) due f (nI T) (nI Re) (nI gr) (hso H 24 ta1) ∧ RT ta1 (pourC (h.1 8) t v (nI C) (nI gr)) := by
    unfold jb_L_presses_408
    by_cases c0 : C = 0
    · refine ⟨H.1 24, ?_, ?_⟩
      · rw [if_pos (by rw [c0]; decide), hso_self]
      · unfold pourC
        rw [if_pos (by rw [c0]; decide)]
        exact R0
    · have e3 : H.1 17 3 = nI v.val := by
        rw [k17 3 (by decide), n3, rv_N ev er hr, if_neg (by omega)]
      obtain ⟨ta1, e1, R1⟩ := pourL R0 ht T0 v (x := C) (g := gr) (by omega) hgr (rg.1 t ht)
      refine ⟨ta1, ?_, R1⟩
      rw [if_neg (nI_nle (by omega) (by omega)), gk_3_15, tn_3, e3, e1, gbv_some]
  obtain ⟨ta1, e1, R1⟩ := one
  obtain ⟨rr, rr2, er2⟩ := roomV_N T0
  have cd : C + (T - Re) ≤ rr := by
    rw [er2] at room
    exact Nat.le_of_not_lt (fun w => nI_ge w (by omega) room)
  have I2 := inv_pour I t ht v (nI C) (nI gr) (by rw [er2]; exact nI_le (by omega) (by omega))
  obtain ⟨ta2, e2, R2⟩ := pourL (h := hso H 24 ta1) R1 ht (I2.2.2.2.2.2.2.2.2.2 t) u (x := T - Re) (g := gr) (by omega) hgr (pour_grade T0 v _ hgr (rg.1 t ht))
  refine ⟨ta2, ?_, R2⟩
  rw [e1]
  unfold jb_L_presses_427
  rw [pk_sub hRe, e2, gbv_some, hso_hso]
  by_cases z : Re = 0
  · rw [if_pos (by rw [z]; decide), if_pos (by rw [z]; rfl)]
  · rw [if_neg (nI_nle (by omega) (by omega)), if_neg (nI_ne0 (by omega) (by omega))]
theorem pr_322 {h : Hst} {nl b : Nat} (j : J h nl b) (hb : b ≤ 47) (l : Fin 40) (hl : l.val < nl) (u v : Fin 5) (t : Fin 6) (ht : t.val < 3) {due cont f k0 r way : Nat} (LV : LotV (h.1 8) l u due cont f k0) (fc : f ≤ cont) (cc : cont ≤ 12000) (ev : cS (h.1 8) 10 = nI v.val) (er : cS (h.1 8) 11 = nI r) (hr : r ≤ 50) (ew : cS (h.1 8) 5 = nI way) (hw : way ≤ 2) (p : pick (h.1 8) nl (wB (h.1 8)) v r way = some l.val) (m : Int32)
    {L C T Re gr : Nat} (eL : loR way (foR u v r) = L) (eC : caR way (foR u v r) = C) (eT : toR f u v r = T) (eR : reR k0 T = Re) (egr : gl3 (cLo (h.1 8) l 3) = nI gr) (hgr : gr ≤ 2) :
    ∃ h', jb_L_presses_322 (nI t.val) m (nI l.val) (nI u.val) (nI due) (nI f) (nI C) (nI L) (nI T) (nI Re) (nI (C + (T - Re))) (nI gr) (rpV (h.1 8) t l (C + (T - Re)) m) h = some (1, h') ∧ J h' nl (b + 1) := by
  have I := j.2.2.1
  have hk := LV.2.2.2.2.2.2
  have fo := foR_le u v r
  have to := toR_le f u v r
  have re := reR_le k0 T
  have ca := caR_le way (foR u v r)
  have lo := loR_le way (foR u v r)
  obtain ⟨h1, e1, s1⟩ := whyNot_some I LV ev er hr ew hw p t ht m h rfl
  rw [eC, eT, eR] at e1
  have nx : ∀ q, q ≤ 4 → ∀ H : Hst, H.1 8 = h.1 8 → ∃ h', f_X6_next (nI q) H = some (if q = 0 then nI l.val else if q = 1 then nI f else if q = 2 then nI (C + (T - Re)) else if q = 3 then nI L else nI Re, h') ∧ ScrC H h' := fun q hq H e => by
    have := next_some I LV ev er hr ew hw p hq H e
    rw [eC, eT, eR, eL] at this
    exact this
  obtain ⟨h3, e3, s3⟩ : ∃ h', f_X6_next 0 h1 = some (nI l.val, h') ∧ ScrC h1 h' := nx 0 (by decide) h1 s1.e8
  have s13 := s1.trans s3
  obtain ⟨h5, e5, s5⟩ : ∃ h', f_X6_next 1 h3 = some (nI f, h') ∧ ScrC h3 h' := nx 1 (by decide) h3 s13.e8
  have s15 := s13.trans s5
  obtain ⟨h7, e7, s7⟩ : ∃ h', f_X6_next 2 h5 = some (nI (C + (T - Re)), h') ∧ ScrC h5 h' := nx 2 (by decide) h5 s15.e8
  have s17 := s15.trans s7
  obtain ⟨h9, e9, s9⟩ : ∃ h', f_X6_next 3 h7 = some (nI L, h') ∧ ScrC h7 h' := nx 3 (by decide) h7 s17.e8
  have s19 := s17.trans s9
  obtain ⟨h11, e11, s11⟩ : ∃ h', f_X6_next 4 h9 = some (nI Re, h') ∧ ScrC h9 h' := nx 4 (by decide) h9 s19.e8
  have s111 := s19.trans s11
  have j11 := j.scr s111
  have c11 : h11.1 8 = h.1 8 := s111.e8
  unfold jb_L_presses_322
  rw [e1, gb_some, if_pos rfl, e3, gb_some, if_pos rfl, e5, gb_some, if_pos rfl, e7, gb_some, if_pos rfl, e9, gb_some, if_pos rfl, e11, gb_some, if_pos rfl]
  by_cases r0 : rpV (h.1 8) t l (C + (T - Re)) m = 0
  · obtain ⟨⟨g, hg, eg⟩, -⟩ := I.2.2.2.2.2.2.2.1 l hl
    have room := rpV_room r0
    obtain ⟨-, -, -, ⟨⟨n0, n1, n2, n3, n4, n5, n6, n7⟩, n8⟩, -⟩ := id j11
    rw [if_pos (by rw [r0]; decide)]
    have fin : ∀ H : Hst, (∀ k, k ≠ 17 → H.1 k = h11.1 k) → (∀ i, i ≠ 5 → H.1 17 i = h11.1 17 i) → (H.1 17 5 = if L = 0 then cS (h11.1 8) 12 else cS (h11.1 8) 12 + 1) → ∃ h', jb_L_presses_408 (nI t.val) m (nI l.val) (nI u.val) (nI due) (nI f) (nI C) (nI T) (nI Re) (nI gr) H = some (1, h') ∧ J h' nl (b + 1) := fun H k8 k17 k5 => by
      obtain ⟨ta', e', R'⟩ := pr_408 (u := u) (v := v) (C := C) (T := T) (Re := Re) (gr := gr) (r := r) j11 ht (by rw [c11]; exact ev) (by rw [c11]; exact er) hr (by omega) (by omega) (by omega) (by omega) hgr (by rw [c11]; exact room) k8 k17 m (nI l.val) (nI due) (nI f)
      rw [e']
      exact act_press (H := hso H 24 ta') j11 hb l hl u v g hg (by rw [c11]; exact eg) t ht (by rw [c11]; exact LV) fc cc (by rw [c11]; exact ev) (by rw [c11]; exact er) hr (by rw [c11]; exact ew) hw (by rw [c11]; exact p) m eL eC eT eR (by rw [c11]; exact egr) hgr (by rw [c11]; exact r0) (fun k a1 a2 => by rw [hso_at, if_neg a2]; exact k8 k a1) (fun i hi => k17 i hi) k5 R' rfl
    by_cases L0 : L = 0
    · rw [if_pos (by rw [L0]; decide)]
      exact fin h11 (fun _ _ => rfl) (fun _ _ => rfl) (by rw [if_pos L0]; exact n5)
    · rw [if_neg (nI_nle (by omega) (by omega)), gk_5_15, gk_5_15, gl_eq, tn_5]
      refine fin _ (fun k hk => by rw [hst_at, if_neg hk]) (fun i hi => ?_) ?_
      · rw [hst_at, if_pos rfl, upd_ne hi]
      · rw [hst_at, if_pos rfl, upd_eq, if_neg L0, n5]
  · rw [if_neg (fun w => by
      rcases rpV_c (h.1 8) t l (C + (T - Re)) m with e | e | e
      · exact r0 e
      · rw [e] at w; exact absurd w (by decide)
      · rw [e] at w; exact absurd w (by decide)), gzr_1]
    exact ⟨h11, rfl, j11.mono (by omega)⟩
theorem pr_any {h : Hst} {nl b : Nat} (j : J h nl b) (hb : b ≤ 47) (t : Fin 6) (ht : t.val < 3) (m : Int32) : ∃ h', jb_L_presses_24 (nI t.val) m h = some (1, h') ∧ J h' nl (b + 1) := by
  obtain ⟨hn, S, I, r17, r18, r19, r20, r22, rt, r25, rg⟩ := id j
  obtain ⟨-, -, ⟨-, -, -, -, -, ⟨way, hw, ew⟩, -⟩, ⟨⟨v, ev⟩, ⟨r, hr, er⟩⟩, -⟩ := id I
  have en := nextL hn ev er hr ew hw r17 r19
  cases p : pick (h.1 8) nl (wB (h.1 8)) v r way with
  | none =>
    rw [p] at en
    obtain ⟨h1, e1, s1⟩ := whyNot_none I ev er hr ew hw p t ht m h rfl
    obtain ⟨h2, e2, s2⟩ := next_none I ev er hr ew hw p h1 s1.e8
    refine ⟨h2, ?_, (j.scr (s1.trans s2)).mono (by omega)⟩
    unfold jb_L_presses_24 jb_L_presses_65
    rw [en, gb_some, if_neg (show ¬ (0 : Int32) ≤ encW none by decide), e1, gb_some, if_pos rfl, e2, gb_some, if_pos rfl, gzr_1]
  | some l =>
    rw [p] at en
    obtain ⟨l1, l2, l3⟩ := pick_some p
    obtain ⟨u, due, cont, f, k0, LV, fc, cc⟩ := lotV2 I ⟨l, l2⟩ l1
    have hk := LV.2.2.2.2.2.2
    have fo := foR_le u v r
    have to := toR_le f u v r
    have ca := caR_le way (foR u v r)
    have re := reR_le k0 (toR f u v r)
    obtain ⟨gr, hgr, egr⟩ := gl3_N (I.2.2.2.2.2.2.2.1 ⟨l, l2⟩ l1).2.2.2.1
    rw [pr_24 hn r17 r18 r19 (l := ⟨l, l2⟩) l1 LV ev er hr ew hw en, pr_230 hn I r19 rt (l := ⟨l, l2⟩) l1 ht (rg.1 t ht) egr _ _ _ _ re.1 (by omega) (by omega)]
    exact pr_322 j hb ⟨l, l2⟩ l1 u v t ht LV fc cc ev er hr ew hw p m rfl rfl rfl rfl egr hgr
theorem act_presses {h : Hst} {nl b : Nat} (j : J h nl b) (hb : b ≤ 47) (p1 p2 : Int32) : ∃ h', f_L_presses p1 p2 h = some (1, h') ∧ J h' nl (b + 1) := by
  obtain ⟨e0, e1, e2⟩ := j.e1
  obtain ⟨t, ht, et⟩ := at_v p1 (n := 3) (by decide) (by decide)
  obtain ⟨x, hx, ex⟩ := at_l (p1 >>> (3 &&& 31)) (n := 2) (N := 2) (by decide) (by decide) rfl
  unfold f_L_presses
  rw [gk_2_15, tn_2, e2, et, gb_some, ex, gb_some]
  by_cases z : nI x = 0
  · rw [if_pos z]
    exact pr_any j hb ⟨t, by omega⟩ ht 1
  · rw [if_neg z]
    exact pr_any j hb ⟨t, by omega⟩ ht 0
