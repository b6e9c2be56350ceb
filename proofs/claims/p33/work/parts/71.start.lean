-- the start
abbrev stF : List Cond := flatC (Jvm.Cond.and given_1 narrow_1)
theorem st_ac {args : Array Value} {s : State} {ty : FieldType} (h : (Cond.arrayClass ty).before args s = true) (hty : ty = .int ∨ ty = .boolean ∨ ty = .long) : ∃ cA : ClassId, ArrOfT s cA ty ∧ va_RA s cA ty := by
  obtain ⟨cA, kA, comp, h1, h2, h3⟩ := Cond.arrayClass_spec h
  refine ⟨cA, fun n z => ⟨fun k h => (by cases h), kA, h2, comp, h3⟩, ?_⟩
  rcases hty with rfl | rfl | rfl <;> exact h1
theorem st_old {s : State} : ∀ a : Nat, a < s.heap.size → ¬ (fun q => s.heap.size ≤ q) a := fun a h1 h2 => Nat.not_lt.mpr h2 h1
theorem st_tab {args : Array Value} {s : State} (nm : String) (N : Nat) (f : Nat → Int32) (hN : N < 2 ^ 31) (hlay : (Cond.laysStatic "OliveMill" nm "[I").before args s = true) (hini : (Cond.initialized "OliveMill").before args s = true)
    (harr : (Cond.arrayOf (.static "OliveMill" nm "[I") .int).before args s = true) (hlen : (Cond.eq (.length (.static "OliveMill" nm "[I")) (.int (Int32.ofNat N))).before args s = true)
    (hel : ∀ j : Nat, j < N → (Cond.eq (.elem (.static "OliveMill" nm "[I") (.int (Int32.ofNat j))) (.int (f j))).before args s = true) :
    ∃ t : Nat, va_Z "OliveMill" nm "[I" (.ref t) (fun q => s.heap.size ≤ q) s s.heap ∧ va_T .int t N (fun i => .int (f i)) (fun q => s.heap.size ≤ q) s s.heap := by
  obtain ⟨t, ht, hT⟩ := va_Tof (f := fun i => .int (f i)) (A := fun q => s.heap.size ≤ q) hN harr (va_eqt hlen) (fun j hj => va_eqt (hel j hj)) st_old
  exact ⟨t, va_Zref hlay hini ht st_old, hT⟩
theorem st_nest : ∀ w ∈ gnest, w ∈ lw_tbl := by decide +kernel
theorem st_NEW_SETTINGS : ∀ j : Nat, j < 7 → Cond.eq (.elem (.static "OliveMill" "NEW_SETTINGS" "[I") (.int (Int32.ofNat j))) (.int (([10, 850, 600, 2, 20, 0, 100] : List Int32).getD j 0)) ∈ stF := by decide +kernel
theorem st_NEW_SETTINGS_l : Cond.eq (.length (.static "OliveMill" "NEW_SETTINGS" "[I")) (.int (Int32.ofNat 7)) ∈ stF ∧ Cond.arrayOf (.static "OliveMill" "NEW_SETTINGS" "[I") .int ∈ stF ∧ Cond.laysStatic "OliveMill" "NEW_SETTINGS" "[I" ∈ lw_tbl := by decide +kernel
theorem st_NEW_YIELDS : ∀ j : Nat, j < 5 → Cond.eq (.elem (.static "OliveMill" "NEW_YIELDS" "[I") (.int (Int32.ofNat j))) (.int (([150, 180, 200, 220, 160] : List Int32).getD j 0)) ∈ stF := by decide +kernel
theorem st_NEW_YIELDS_l : Cond.eq (.length (.static "OliveMill" "NEW_YIELDS" "[I")) (.int (Int32.ofNat 5)) ∈ stF ∧ Cond.arrayOf (.static "OliveMill" "NEW_YIELDS" "[I") .int ∈ stF ∧ Cond.laysStatic "OliveMill" "NEW_YIELDS" "[I" ∈ lw_tbl := by decide +kernel
theorem st_LEAST_SETTINGS : ∀ j : Nat, j < 7 → Cond.eq (.elem (.static "OliveMill" "LEAST_SETTINGS" "[I") (.int (Int32.ofNat j))) (.int (([0, 500, 0, 0, 0, 0, 0] : List Int32).getD j 0)) ∈ stF := by decide +kernel
theorem st_LEAST_SETTINGS_l : Cond.eq (.length (.static "OliveMill" "LEAST_SETTINGS" "[I")) (.int (Int32.ofNat 7)) ∈ stF ∧ Cond.arrayOf (.static "OliveMill" "LEAST_SETTINGS" "[I") .int ∈ stF ∧ Cond.laysStatic "OliveMill" "LEAST_SETTINGS" "[I" ∈ lw_tbl := by decide +kernel
theorem st_MOST_SETTINGS : ∀ j : Nat, j < 7 → Cond.eq (.elem (.static "OliveMill" "MOST_SETTINGS" "[I") (.int (Int32.ofNat j))) (.int (([50, 1000, 1000, 50, 500, 2, 500] : List Int32).getD j 0)) ∈ stF := by decide +kernel
theorem st_MOST_SETTINGS_l : Cond.eq (.length (.static "OliveMill" "MOST_SETTINGS" "[I")) (.int (Int32.ofNat 7)) ∈ stF ∧ Cond.arrayOf (.static "OliveMill" "MOST_SETTINGS" "[I") .int ∈ stF ∧ Cond.laysStatic "OliveMill" "MOST_SETTINGS" "[I" ∈ lw_tbl := by decide +kernel
theorem st_K {s : State} {args : Array Value} (hg : ∀ w ∈ lw_good, w.before args s = true) : ∃ (D : va_G) (cI cZ : ClassId), va_K D vwCl [(cI, .int), (cZ, .boolean)] s := by
  obtain ⟨c0, i0, h0⟩ := u_known (C := RX0) (T := TX0) (N := 10) (n := 10) hg wGX0 (hg _ (gm1 25 rfl rfl))
  obtain ⟨c1, i1, h1⟩ := u_known (C := RX1) (T := TX1) (N := 3) (n := 3) hg wGX1 (hg _ (gm1 118 rfl rfl))
  obtain ⟨c2, i2, h2⟩ := u_known (C := RX2) (T := TX2) (N := 12) (n := 12) hg wGX2 (hg _ (gm1 134 rfl rfl))
  obtain ⟨c3, i3, h3⟩ := u_known (C := RX3) (T := TX3) (N := 2) (n := 2) hg wGX3 (hg _ (gm1 48 rfl rfl))
  obtain ⟨c4, i4, h4⟩ := u_known (C := RX4) (T := TX4) (N := 9) (n := 9) hg wGX4 (hg _ (gm1 188 rfl rfl))
  obtain ⟨c5, i5, h5⟩ := u_known (C := RX5) (T := TX5) (N := 3) (n := 3) hg wGX5 (hg _ (gm1 31 rfl rfl))
  obtain ⟨c6, i6, h6⟩ := u_known (C := RX6) (T := TX6) (N := 6) (n := 6) hg wGX6 (hg _ (gm1 17 rfl rfl))
  obtain ⟨aI, bI⟩ := st_ac (hg _ (gm1 46 rfl rfl)) (.inl rfl)
  obtain ⟨aZ, bZ⟩ := st_ac (hg _ (gm1 186 rfl rfl)) (.inr (.inl rfl))
  refine ⟨(fun k => match k with | 0 => c0 | 1 => c1 | 2 => c2 | 3 => c3 | 4 => c4 | 5 => c5 | _ => c6, fun k => match k with | 0 => i0 | 1 => i1 | 2 => i2 | 3 => i3 | 4 => i4 | 5 => i5 | _ => i6), aI, aZ, fun k q hq => ?_, fun k q hq => ?_⟩
  · have hk : k < 7 := (List.getElem?_eq_some_iff.mp hq).1
    rcases (show k = 0 ∨ k = 1 ∨ k = 2 ∨ k = 3 ∨ k = 4 ∨ k = 5 ∨ k = 6 by omega) with rfl | rfl | rfl | rfl | rfl | rfl | rfl
    · obtain rfl := Option.some.inj hq
      exact h0
    · obtain rfl := Option.some.inj hq
      exact h1
    · obtain rfl := Option.some.inj hq
      exact h2
    · obtain rfl := Option.some.inj hq
      exact h3
    · obtain rfl := Option.some.inj hq
      exact h4
    · obtain rfl := Option.some.inj hq
      exact h5
    · obtain rfl := Option.some.inj hq
      exact h6
  · have hk : k < 2 := (List.getElem?_eq_some_iff.mp hq).1
    rcases (show k = 0 ∨ k = 1 by omega) with rfl | rfl
    · obtain rfl := Option.some.inj hq
      exact bI
    · obtain rfl := Option.some.inj hq
      exact bZ
def st_c : Nat → Int32 := (upd (upd (upd (upd (upd (upd (upd (upd (upd (upd (upd (upd (fun _ => 0) 539 10) 540 850) 541 600) 542 2) 543 20) 544 0) 545 100) 514 150) 519 180) 524 200) 529 220) 534 160)
def st_n : Nat → Int32 := (upd (upd (upd (upd (upd (upd (upd (fun _ => 0) 3 (-1)) 8 10) 9 850) 10 600) 11 2) 12 20) 14 100)
def st_h : Hst := (fun k => if k = 8 then st_c else if k = 17 then st_n else fun _ => 0, fun _ _ => 0)
theorem st_P0 : P0 st_h 0 := by
  have e8 : st_h.1 8 = st_c := rfl
  have e17 : st_h.1 17 = st_n := rfl
  have e24 : st_h.1 24 = fun _ => 0 := rfl
  have tk : ∀ t : Fin 6, ∀ k, cTa st_c t k = 0 := by decide +kernel
  have gk : ∀ g : Fin 8, ∀ k, cGr st_c g k = 0 := by decide +kernel
  refine ⟨⟨0, 0, by decide, by decide, rfl, rfl⟩, ?_, fun t _ k => ?_, fun g _ => rfl, ?_, ?_, ?_, ?_, ?_⟩
  · rw [e8]
    refine ⟨⟨by decide, by decide, by decide⟩, by decide +kernel, ⟨⟨10, by decide, by decide +kernel⟩, ⟨850, by decide, by decide +kernel⟩, ⟨600, by decide, by decide +kernel⟩, ⟨2, by decide, by decide +kernel⟩, ⟨20, by decide, by decide +kernel⟩, ⟨0, by decide, by decide +kernel⟩, ⟨100, by decide, by decide +kernel⟩⟩, ⟨⟨0, by decide +kernel⟩, ⟨0, by decide, by decide +kernel⟩⟩, ?_, fun g _ k => gk g k, ?_, fun l hl => absurd hl (Nat.not_lt_zero _), fun t _ k => tk t k, fun t => ?_⟩
    · intro v
      have h : cVa st_c v 0 = nI ((cVa st_c v 0).toNatClampNeg) ∧ (cVa st_c v 0).toNatClampNeg ≤ 400 := by revert v; decide +kernel
      exact ⟨_, h.2, h.1⟩
    · intro l _
      revert l; decide +kernel
    · exact ⟨0, 0, 0, 0, 0, 0, by decide, by decide, tk t 0, tk t 2, tk t 3, tk t 4, tk t 5, tk t 6⟩
  · rw [e8, tk]; rfl
  · rw [e8]; exact gk
  · rw [e8]; exact fun t => tk t 1
  · rw [e8]; decide +kernel
  · rw [e17]; decide +kernel
  · rw [e8, e17]; decide +kernel
