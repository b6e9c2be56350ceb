-- Row, Table, SlipReader
theorem dfX0 : ∀ j, j < 10 → defaultValue (tyX0 j) = vp_V [.null, .null, .null, .null, .null, .null, .null, .null, .int 0, .int 0] j := fun j hj => by
  rcases (show j = 0 ∨ j = 1 ∨ j = 2 ∨ j = 3 ∨ j = 4 ∨ j = 5 ∨ j = 6 ∨ j = 7 ∨ j = 8 ∨ j = 9 by omega) with rfl | rfl | rfl | rfl | rfl | rfl | rfl | rfl | rfl | rfl <;> rfl
theorem dfX1 : ∀ j, j < 3 → defaultValue (tyX1 j) = vp_V [.null, .null, .null] j := fun j hj => by
  rcases (show j = 0 ∨ j = 1 ∨ j = 2 by omega) with rfl | rfl | rfl <;> rfl
theorem dfX2 : ∀ j, j < 12 → defaultValue (tyX2 j) = vp_V [.null, .null, .int 0, .int 0, .int 0, .int 0, .int 0, .int 0, .int 0, .int 0, .int 0, .int 0] j := fun j hj => by
  rcases (show j = 0 ∨ j = 1 ∨ j = 2 ∨ j = 3 ∨ j = 4 ∨ j = 5 ∨ j = 6 ∨ j = 7 ∨ j = 8 ∨ j = 9 ∨ j = 10 ∨ j = 11 by omega) with rfl | rfl | rfl | rfl | rfl | rfl | rfl | rfl | rfl | rfl | rfl | rfl <;> rfl
theorem dfX3 : ∀ j, j < 2 → defaultValue (tyX3 j) = vp_V [.null, .int 0] j := fun j hj => by
  rcases (show j = 0 ∨ j = 1 by omega) with rfl | rfl <;> rfl
theorem dfX4 : ∀ j, j < 9 → defaultValue (tyX4 j) = vp_V [.int 0, .int 0, .int 0, .int 0, .int 0, .int 0, .int 0, .int 0, .int 0] j := fun j hj => by
  rcases (show j = 0 ∨ j = 1 ∨ j = 2 ∨ j = 3 ∨ j = 4 ∨ j = 5 ∨ j = 6 ∨ j = 7 ∨ j = 8 by omega) with rfl | rfl | rfl | rfl | rfl | rfl | rfl | rfl | rfl <;> rfl
theorem dfX5 : ∀ j, j < 3 → defaultValue (tyX5 j) = vp_V [.null, .int 0, .int 0] j := fun j hj => by
  rcases (show j = 0 ∨ j = 1 ∨ j = 2 by omega) with rfl | rfl | rfl <;> rfl
theorem dfX6 : ∀ j, j < 6 → defaultValue (tyX6 j) = vp_V [.null, .null, .null, .null, .null, .int 0] j := fun j hj => by
  rcases (show j = 0 ∨ j = 1 ∨ j = 2 ∨ j = 3 ∨ j = 4 ∨ j = 5 by omega) with rfl | rfl | rfl | rfl | rfl | rfl <;> rfl
theorem nvX5_20 : nV RX0 20 yX5_init cX5_init 4 3 := ⟨⟨by decide +kernel, by decide +kernel, by decide +kernel⟩, by decide +kernel, by decide, (gm1 32 rfl rfl), (gm1 33 rfl rfl), (gm1 3 rfl rfl), (gm1 34 rfl rfl)⟩
theorem nvX3_38 : nV RX0 38 yX3_init cX3_init 3 2 := ⟨⟨by decide +kernel, by decide +kernel, by decide +kernel⟩, by decide +kernel, by decide, (gm1 49 rfl rfl), (gm1 50 rfl rfl), (gm1 4 rfl rfl), (gm1 51 rfl rfl)⟩
theorem nvX0_11 : nV RX6 11 yX0_init cX0_init 3 0 := ⟨⟨by decide +kernel, by decide +kernel, by decide +kernel⟩, by decide +kernel, by decide, (gm1 26 rfl rfl), (gm1 27 rfl rfl), (gm1 2 rfl rfl), (gm1 28 rfl rfl)⟩
theorem nvX1_18 : nV RX6 18 yX1_init cX1_init 2 1 := ⟨⟨by decide +kernel, by decide +kernel, by decide +kernel⟩, by decide +kernel, by decide, (gm1 119 rfl rfl), (gm1 120 rfl rfl), (gm1 5 rfl rfl), (gm1 121 rfl rfl)⟩
theorem nvX2_27 : nV RX6 27 yX2_init cX2_init 2 1 := ⟨⟨by decide +kernel, by decide +kernel, by decide +kernel⟩, by decide +kernel, by decide, (gm1 135 rfl rfl), (gm1 136 rfl rfl), (gm1 6 rfl rfl), (gm1 137 rfl rfl)⟩
theorem nvX4_34 : nVN RX6 34 "OliveMill" yX4_init cX4_init 1 0 := ⟨⟨by decide +kernel, by decide +kernel, by decide +kernel⟩, by decide +kernel, by decide, (List.mem_of_getElem? (i := 26) rfl), (gm1 190 rfl rfl), (gm1 7 rfl rfl), (gm1 191 rfl rfl)⟩
theorem gvX3_51 : gV RX0 51 RX3 yX3_put cX3_put 4 none 2 := ⟨⟨rfl, wd_X3_put⟩, wp_X3_put, by decide, (gm1 62 rfl rfl), wt_X3_put⟩
theorem gvX5_58 : gV RX0 58 RX5 yX5_put cX5_put 5 none 3 := ⟨⟨rfl, wd_X5_put⟩, wp_X5_put, by decide, (gm1 68 rfl rfl), wt_X5_put⟩
theorem c_X3_init {δ : Nv} {ws : va_W} {a ca : Nat} {st : Int32} (q0 : Nat) (he : ws[q0]? = some (a, .inr (3, [.null, .int 0]))) : N δ RX3 cX3_init 3 "<init>" (fun w => w = ws.set q0 (a, .inr (3, [.ref ca, .int st]))) 1 0 0 0 (lv_args 0 [.ref a, .ref ca, .int st]) [] ws := by
  show N δ RX3 cX3_init 3 "<init>" _ 1 0 0 0 [(0, .ref a), (1, .ref ca), (2, .int st)] [] ws
  have hl : q0 < ws.length := (List.getElem?_eq_some_iff.mp he).1
  refine n_aload_n dX3_init_0 rfl 0 rfl ?_
  refine n_objInit (idx := 1) (gm1 52 rfl rfl) (gm1 22 rfl rfl) (gm1 23 rfl rfl) (by decide) (Nat.le_of_ble_eq_true rfl) dX3_init_1 ?_
  refine n_aload_n dX3_init_4 rfl 0 rfl ?_
  refine n_aload_n dX3_init_5 rfl 1 rfl ?_
  refine n_putF (ref := RX3) q0 0 wGX3 tyX3 tyX3_ok nmX3 he rfl (by decide) (gm1 53 rfl rfl) rfl rfl rfl rfl (tyX3_ok 0 (by decide)) rfl rfl (Nat.le_of_ble_eq_true rfl) dX3_init_6 ?_
  refine n_ws (ws' := ws.set q0 (a, .inr (3, [.ref ca, .int 0]))) rfl ?_
  have h0 : (ws.set q0 (a, .inr (3, [.ref ca, .int 0])))[q0]? = some (a, .inr (3, [.ref ca, .int 0])) := List.getElem?_set_self hl
  refine n_aload_n dX3_init_9 rfl 0 rfl ?_
  refine n_iload_n dX3_init_10 rfl 2 rfl ?_
  refine n_putF (ref := RX3) q0 1 wGX3 tyX3 tyX3_ok nmX3 h0 rfl (by decide) (gm1 54 rfl rfl) rfl rfl rfl rfl (tyX3_ok 1 (by decide)) rfl rfl (Nat.le_of_ble_eq_true rfl) dX3_init_11 ?_
  refine n_ws (ws' := ws.set q0 (a, .inr (3, [.ref ca, .int st]))) (by rw [List.set_set]; rfl) ?_
  have h1 : (ws.set q0 (a, .inr (3, [.ref ca, .int st])))[q0]? = some (a, .inr (3, [.ref ca, .int st])) := List.getElem?_set_self hl
  exact n_ret dX3_init_14 rfl
theorem c_X5_init {δ : Nv} {ws : va_W} {a ca : Nat} {st co : Int32} (q0 : Nat) (he : ws[q0]? = some (a, .inr (5, [.null, .int 0, .int 0]))) : N δ RX5 cX5_init 4 "<init>" (fun w => w = ws.set q0 (a, .inr (5, [.ref ca, .int st, .int co]))) 1 0 0 0 (lv_args 0 [.ref a, .ref ca, .int st, .int co]) [] ws := by
  show N δ RX5 cX5_init 4 "<init>" _ 1 0 0 0 [(0, .ref a), (1, .ref ca), (2, .int st), (3, .int co)] [] ws
  have hl : q0 < ws.length := (List.getElem?_eq_some_iff.mp he).1
  refine n_aload_n dX5_init_0 rfl 0 rfl ?_
  refine n_objInit (idx := 1) (gm1 35 rfl rfl) (gm1 22 rfl rfl) (gm1 23 rfl rfl) (by decide) (Nat.le_of_ble_eq_true rfl) dX5_init_1 ?_
  refine n_aload_n dX5_init_4 rfl 0 rfl ?_
  refine n_aload_n dX5_init_5 rfl 1 rfl ?_
  refine n_putF (ref := RX5) q0 0 wGX5 tyX5 tyX5_ok nmX5 he rfl (by decide) (gm1 36 rfl rfl) rfl rfl rfl rfl (tyX5_ok 0 (by decide)) rfl rfl (Nat.le_of_ble_eq_true rfl) dX5_init_6 ?_
  refine n_ws (ws' := ws.set q0 (a, .inr (5, [.ref ca, .int 0, .int 0]))) rfl ?_
  have h0 : (ws.set q0 (a, .inr (5, [.ref ca, .int 0, .int 0])))[q0]? = some (a, .inr (5, [.ref ca, .int 0, .int 0])) := List.getElem?_set_self hl
  refine n_aload_n dX5_init_9 rfl 0 rfl ?_
  refine n_iload_n dX5_init_10 rfl 2 rfl ?_
  refine n_putF (ref := RX5) q0 1 wGX5 tyX5 tyX5_ok nmX5 h0 rfl (by decide) (gm1 37 rfl rfl) rfl rfl rfl rfl (tyX5_ok 1 (by decide)) rfl rfl (Nat.le_of_ble_eq_true rfl) dX5_init_11 ?_
  refine n_ws (ws' := ws.set q0 (a, .inr (5, [.ref ca, .int st, .int 0]))) (by rw [List.set_set]; rfl) ?_
  have h1 : (ws.set q0 (a, .inr (5, [.ref ca, .int st, .int 0])))[q0]? = some (a, .inr (5, [.ref ca, .int st, .int 0])) := List.getElem?_set_self hl
  refine n_aload_n dX5_init_14 rfl 0 rfl ?_
  refine n_iload_n dX5_init_15 rfl 3 rfl ?_
  refine n_putF (ref := RX5) q0 2 wGX5 tyX5 tyX5_ok nmX5 h1 rfl (by decide) (gm1 38 rfl rfl) rfl rfl rfl rfl (tyX5_ok 2 (by decide)) rfl rfl (Nat.le_of_ble_eq_true rfl) dX5_init_16 ?_
  refine n_ws (ws' := ws.set q0 (a, .inr (5, [.ref ca, .int st, .int co]))) (by rw [List.set_set]; rfl) ?_
  have h2 : (ws.set q0 (a, .inr (5, [.ref ca, .int st, .int co])))[q0]? = some (a, .inr (5, [.ref ca, .int st, .int co])) := List.getElem?_set_self hl
  exact n_ret dX5_init_19 rfl
theorem c_X3_put {δ : Nv} {ws : va_W} {a ca n : Nat} {st col x : Int32} {f : Nat → Int32} (q0 q1 : Nat) (he : ws[q0]? = some (a, .inr (3, [.ref ca, .int st]))) (hf : ws[q1]? = some (ca, .inl (ncI δ, n, .inl f))) (h0 : ¬ st + col < 0) (h1 : ¬ Int32.ofNat n ≤ st + col) (h2 : ¬ n ≤ (st + col).toNatClampNeg) : N δ RX3 cX3_put 4 yX3_put.name (fun w => w = ws.set q1 (ca, .inl (ncI δ, n, .inl (upd f (st + col).toNatClampNeg x)))) 0 0 0 0 (lv_args 0 [.ref a, .int col, .int x]) [] ws := by
  show N δ RX3 cX3_put 4 yX3_put.name _ 0 0 0 0 [(0, .ref a), (1, .int col), (2, .int x)] [] ws
  refine n_aload_n dX3_put_0 rfl 0 rfl ?_
  refine n_getf (ref := RX3) q0 1 wGX3 he rfl (by decide) (gm1 54 rfl rfl) rfl rfl dX3_put_1 ?_
  refine n_iload_n dX3_put_4 rfl 1 rfl ?_
  refine n_iadd dX3_put_5 ?_
  refine n_istore_n (lv' := [(3, .int (st + col)), (0, .ref a), (1, .int col), (2, .int x)]) dX3_put_6 rfl (by decide) rfl ?_
  refine n_iload_n dX3_put_7 rfl 0 rfl ?_
  refine n_if_lt (tgt := 27) dX3_put_8 (by decide) (fun h => absurd h h0) (fun _ => ?_)
  refine n_iload_n dX3_put_11 rfl 0 rfl ?_
  refine n_aload_n dX3_put_12 rfl 1 rfl ?_
  refine n_getf (ref := RX3) q0 0 wGX3 he rfl (by decide) (gm1 53 rfl rfl) rfl rfl dX3_put_13 ?_
  refine n_alen q1 0 hf rfl rfl dX3_put_16 ?_
  refine n_icmp_ge (tgt := 27) dX3_put_17 (by decide) (fun h => absurd h h1) (fun _ => ?_)
  refine n_aload_n dX3_put_20 rfl 1 rfl ?_
  refine n_getf (ref := RX3) q0 0 wGX3 he rfl (by decide) (gm1 53 rfl rfl) rfl rfl dX3_put_21 ?_
  refine n_iload_n dX3_put_24 rfl 0 rfl ?_
  refine n_iload_n dX3_put_25 rfl 3 rfl ?_
  refine n_iast q1 hf (fun z => z.elim h0 h2) dX3_put_26 ?_
  exact n_ret dX3_put_27 rfl
theorem c_X5_put {δ : Nv} {ws : va_W} {a ca n : Nat} {st co r col x : Int32} {f : Nat → Int32} (q0 q1 : Nat) (he : ws[q0]? = some (a, .inr (5, [.ref ca, .int st, .int co]))) (hf : ws[q1]? = some (ca, .inl (ncI δ, n, .inl f))) (h0 : ¬ st + r * co + col < 0) (h1 : ¬ Int32.ofNat n ≤ st + r * co + col) (h2 : ¬ n ≤ (st + r * co + col).toNatClampNeg) : N δ RX5 cX5_put 5 yX5_put.name (fun w => w = ws.set q1 (ca, .inl (ncI δ, n, .inl (upd f (st + r * co + col).toNatClampNeg x)))) 0 0 0 0 (lv_args 0 [.ref a, .int r, .int col, .int x]) [] ws := by
  show N δ RX5 cX5_put 5 yX5_put.name _ 0 0 0 0 [(0, .ref a), (1, .int r), (2, .int col), (3, .int x)] [] ws
  refine n_aload_n dX5_put_0 rfl 0 rfl ?_
  refine n_getf (ref := RX5) q0 1 wGX5 he rfl (by decide) (gm1 37 rfl rfl) rfl rfl dX5_put_1 ?_
  refine n_iload_n dX5_put_4 rfl 1 rfl ?_
  refine n_aload_n dX5_put_5 rfl 0 rfl ?_
  refine n_getf (ref := RX5) q0 2 wGX5 he rfl (by decide) (gm1 38 rfl rfl) rfl rfl dX5_put_6 ?_
  refine n_imul dX5_put_9 ?_
  refine n_iadd dX5_put_10 ?_
  refine n_iload_n dX5_put_11 rfl 2 rfl ?_
  refine n_iadd dX5_put_12 ?_
  refine n_istore (lv' := [(4, .int (st + r * co + col)), (0, .ref a), (1, .int r), (2, .int col), (3, .int x)]) dX5_put_13 (by decide) rfl ?_
  refine n_iload dX5_put_15 0 rfl ?_
  refine n_if_lt (tgt := 38) dX5_put_17 (by decide) (fun h => absurd h h0) (fun _ => ?_)
  refine n_iload dX5_put_20 0 rfl ?_
  refine n_aload_n dX5_put_22 rfl 1 rfl ?_
  refine n_getf (ref := RX5) q0 0 wGX5 he rfl (by decide) (gm1 36 rfl rfl) rfl rfl dX5_put_23 ?_
  refine n_alen q1 0 hf rfl rfl dX5_put_26 ?_
  refine n_icmp_ge (tgt := 38) dX5_put_27 (by decide) (fun h => absurd h h1) (fun _ => ?_)
  refine n_aload_n dX5_put_30 rfl 1 rfl ?_
  refine n_getf (ref := RX5) q0 0 wGX5 he rfl (by decide) (gm1 36 rfl rfl) rfl rfl dX5_put_31 ?_
  refine n_iload dX5_put_34 0 rfl ?_
  refine n_iload_n dX5_put_36 rfl 4 rfl ?_
  refine n_iast q1 hf (fun z => z.elim h0 h2) dX5_put_37 ?_
  exact n_ret dX5_put_38 rfl
theorem c_X4_init {δ : Nv} {ws : va_W} {a : Nat} : N δ RX4 cX4_init 1 "<init>" (fun w => w = ws) 1 0 0 0 (lv_args 0 [.ref a]) [] ws := by
  show N δ RX4 cX4_init 1 "<init>" _ 1 0 0 0 [(0, .ref a)] [] ws
  refine n_aload_n dX4_init_0 rfl 0 rfl ?_
  refine n_objInit (idx := 3) (gm1 192 rfl rfl) (gm1 22 rfl rfl) (gm1 23 rfl rfl) (by decide) (Nat.le_of_ble_eq_true rfl) dX4_init_1 ?_
  exact n_ret dX4_init_4 rfl
