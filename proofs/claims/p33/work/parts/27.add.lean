-- a lot is brought
def rowL (lo : Nat → Int32) (nl g v k a t : Nat) : Nat → Int32 := upd (upd (upd (upd (upd (upd lo (6 * nl) (nI g)) (6 * nl + 1) (nI v)) (6 * nl + 2) (nI k)) (6 * nl + 3) (nI a)) (6 * nl + 4) (nI t)) (6 * nl + 5) 0
theorem rowL_ne {lo : Nat → Int32} {nl g v k a t i : Nat} (h : i < 6 * nl) : rowL lo nl g v k a t i = lo i := by
  unfold rowL
  rw [upd_ne (by omega), upd_ne (by omega), upd_ne (by omega), upd_ne (by omega), upd_ne (by omega), upd_ne (by omega)]
theorem rowL_0 {lo : Nat → Int32} {nl g v k a t : Nat} : rowL lo nl g v k a t (6 * nl) = nI g := by
  unfold rowL
  rw [upd_ne (by omega), upd_ne (by omega), upd_ne (by omega), upd_ne (by omega), upd_ne (by omega), upd_eq]
theorem rowL_1 {lo : Nat → Int32} {nl g v k a t : Nat} : rowL lo nl g v k a t (6 * nl + 1) = nI v := by
  unfold rowL
  rw [upd_ne (by omega), upd_ne (by omega), upd_ne (by omega), upd_ne (by omega), upd_eq]
theorem rowL_2 {lo : Nat → Int32} {nl g v k a t : Nat} : rowL lo nl g v k a t (6 * nl + 2) = nI k := by
  unfold rowL
  rw [upd_ne (by omega), upd_ne (by omega), upd_ne (by omega), upd_eq]
theorem rowL_3 {lo : Nat → Int32} {nl g v k a t : Nat} : rowL lo nl g v k a t (6 * nl + 3) = nI a := by
  unfold rowL
  rw [upd_ne (by omega), upd_ne (by omega), upd_eq]
theorem rowL_4 {lo : Nat → Int32} {nl g v k a t : Nat} : rowL lo nl g v k a t (6 * nl + 4) = nI t := by
  unfold rowL
  rw [upd_ne (by omega), upd_eq]
theorem rowL_5 {lo : Nat → Int32} {nl g v k a t : Nat} : rowL lo nl g v k a t (6 * nl + 5) = 0 := by
  unfold rowL
  rw [upd_eq]
def addH (h : Hst) (nl g v k a t : Nat) : Hst := hso (hst h 17 1 (nI (nl + 1))) 19 (rowL (h.1 19) nl g v k a t)
theorem act_add {h : Hst} {nl b : Nat} (j : J h nl b) (hlt : nl < 10) {g v k a t : Nat} (hg : g < 3) (hv : v < 5) (k1 : 1 ≤ k) (k2 : k ≤ 2000) (ha : a ≤ 50) (t1 : 500 ≤ t) (t2 : t ≤ 1500) :
    ∃ h', f_X6_addLot (nI g) (nI v) (nI k) (nI a) (nI t) (addH h nl g v k a t) = some (nI nl, h') ∧ J h' (nl + 1) b := by
  obtain ⟨hn, S, I, R⟩ := j
  have hl40 : nl < 40 := by omega
  obtain ⟨h', e', e8, S', ou⟩ := cls_addLot (h := addH h nl g v k a t) (S.same rfl) (ng := 3) (nl := nl) (nt := 3) I hl40 hg hv k1 k2 ha t1 t2
  obtain ⟨⟨⟨n0, n1, n2, n3, n4, n5, n6, n7⟩, n8⟩, r18, r19, r20, r22, rt, r25, rg⟩ := R
  have f8 : (addH h nl g v k a t).1 8 = h.1 8 := rfl
  have f17 : (addH h nl g v k a t).1 17 = upd (h.1 17) 1 (nI (nl + 1)) := rfl
  have f19 : (addH h nl g v k a t).1 19 = rowL (h.1 19) nl g v k a t := rfl
  rw [f8] at e8
  obtain ⟨I', hS, hV, hG, hT, hL, c0, c1, c2, c3, c4, c5⟩ := inv_addLot I ⟨nl, hl40⟩ rfl ⟨g, by omega⟩ hg ⟨v, hv⟩ (p0 := nI g) (p1 := nI v) (p2 := nI k) (p3 := nI a) (p4 := nI t) (x := nI (nl + 1)) rfl rfl ⟨k, k2, rfl⟩ ⟨a, ha, rfl⟩ ⟨t, t2, rfl⟩ rfl
  refine ⟨h', e', J_end (by omega) e8 S' ou I' ?_⟩
  generalize addC (h.1 8) ⟨nl, hl40⟩ (nI g) (nI v) (nI k) (nI a) (nI t) (nI (nl + 1)) = C at hS hV hG hT hL c0 c1 c2 c3 c4 c5
  have old : ∀ l : Fin 40, l.val < nl + 1 → ¬ l = ⟨nl, hl40⟩ → l.val < nl := fun l hl q => by
    have : l.val ≠ nl := fun w => q (Fin.ext w)
    omega
  unfold RelL
  rw [f17, f19]
  refine ⟨⟨?_, fun i => ?_⟩, r18.congr (fun v => hV v 0), fun l hl k' => ?_, fun l hl h5 => ?_, fun l hl h5 => ?_, rt.congr (fun t _ k => hT t k), r25.congr (fun g => hG g 0), ⟨fun t ht => by rw [hT]; exact rg.1 t ht, fun l hl h5 => ?_, fun g hg => by rw [hG]; exact rg.2.2 g hg⟩⟩
  · have q3 : rv C = rv (h.1 8) := by
      unfold rv
      rw [hS, if_neg (show ¬ (11 : Fin 14) = 8 by decide), hS, if_neg (show ¬ (10 : Fin 14) = 8 by decide)]
    have q7 : sum8 (fun g => cGr C g 2) = sum8 (fun g => cGr (h.1 8) g 2) := by
      congr 1; funext g; exact hG g 2
    rw [q3, q7, hS, if_neg (show ¬ (11 : Fin 14) = 8 by decide), hS, if_neg (show ¬ (12 : Fin 14) = 8 by decide), hS, if_neg (show ¬ (13 : Fin 14) = 8 by decide), upd_eq, upd_ne (by decide), upd_ne (by decide), upd_ne (by decide), upd_ne (by decide), upd_ne (by decide), upd_ne (by decide), upd_ne (by decide)]
    exact ⟨n0, rfl, n2, n3, n4, n5, n6, n7⟩
  · have li := i.isLt
    rw [upd_ne (by omega), hS, if_neg (fun z => by have : i.val = 8 := congrArg Fin.val z; omega)]
    exact n8 i
  · by_cases q : l = ⟨nl, hl40⟩
    · subst q
      rcases fin6 k' with rfl | rfl | rfl | rfl | rfl | rfl
      · exact rowL_0.trans c0.symm
      · exact rowL_1.trans c1.symm
      · exact rowL_2.trans c2.symm
      · exact rowL_3.trans c3.symm
      · exact rowL_4.trans c4.symm
      · exact rowL_5.trans c5.symm
    · have := old l hl q
      rw [rowL_ne (by omega), hL l _ q]
      exact r19 l this k'
  · by_cases q : l = ⟨nl, hl40⟩
    · rw [q] at h5; exact absurd c5 h5
    · rw [hL l _ q] at h5
      rw [hL l _ q, hL l _ q, hL l _ q]
      exact r20 l (old l hl q) h5
  · by_cases q : l = ⟨nl, hl40⟩
    · rw [q, c5] at h5; exact absurd h5 (by decide)
    · rw [hL l _ q] at h5
      rw [hL l _ q]
      exact r22 l (old l hl q) h5
  · by_cases q : l = ⟨nl, hl40⟩
    · rw [q] at h5; exact absurd c5 h5
    · rw [hL l _ q] at h5
      rw [hL l _ q, hL l _ q]
      exact rg.2.1 l (old l hl q) h5
