/-! G: a method's frame over the whole world (the class's 17 cells, the law's 10 rows of ints) -/
abbrev Hst : Type := (Nat → Nat → Int32) × (Nat → Nat → Int64)
abbrev GR : Type := (Option Value × Hst) ⊕ (Nat × Hst)
abbrev Gv : Type := va_G × (Nat → Nat) × (ClassId × ClassId × ClassId) × Nat × (Nat × Nat × (Nat → Int32)) × (Nat × Nat)
def gD (γ : Gv) : va_G := γ.1
def gad (γ : Gv) : Nat → Nat := γ.2.1
def gcI (γ : Gv) : ClassId := γ.2.2.1.1
def gcZ (γ : Gv) : ClassId := γ.2.2.1.2.1
def gcJ (γ : Gv) : ClassId := γ.2.2.1.2.2
def gB0 (γ : Gv) : Nat := γ.2.2.2.1
def gscr (γ : Gv) : Nat := γ.2.2.2.2.1.1
def gLx (γ : Gv) : Nat := γ.2.2.2.2.1.2.1
def gxs (γ : Gv) : Nat → Int32 := γ.2.2.2.2.1.2.2
def gaL (γ : Gv) : Nat := γ.2.2.2.2.2.1
def gaM (γ : Gv) : Nat := γ.2.2.2.2.2.2
def gA (γ : Gv) : Nat → Prop := fun q => gB0 γ ≤ q
def gtys (γ : Gv) : List (ClassId × FieldType) := [(gcI γ, .int), (gcZ γ, .boolean)]
def gexc : Nat → String := fun k => match k with
  | 0 => "java/lang/IndexOutOfBoundsException"
  | 1 => "java/lang/IllegalArgumentException"
  | _ => "java/lang/IllegalStateException"
abbrev vwCl : List vw_C := [(RX0, TX0, 10), (RX1, TX1, 3), (RX2, TX2, 12), (RX3, TX3, 2), (RX4, TX4, 9), (RX5, TX5, 3), (RX6, TX6, 6)]
def lw_good : List Cond := lw_tbl.filter goodWord
theorem gm {w : Cond} (i : Nat) (h1 : lw_tbl[i]? = some w) (h2 : goodWord w = true) : w ∈ lw_good := List.mem_filter.mpr ⟨List.mem_of_getElem? h1, h2⟩
theorem gGood {ws : List Cond} (h : ∀ w ∈ ws, w ∈ lw_good) : GoodIn lw_good ws := fun w hw => ⟨h w hw, good_of_word (List.mem_filter.mp (h w hw)).2⟩
theorem gGood.app {a b : List Cond} (ha : ∀ w ∈ a, w ∈ lw_good) (hb : ∀ w ∈ b, w ∈ lw_good) : ∀ w ∈ a ++ b, w ∈ lw_good := fun w h => (List.mem_append.mp h).elim (ha w) (hb w)
theorem gGood.cons {a : Cond} {b : List Cond} (ha : a ∈ lw_good) (hb : ∀ w ∈ b, w ∈ lw_good) : ∀ w ∈ a :: b, w ∈ lw_good := fun w h => (List.mem_cons.mp h).elim (fun e => by rw [e]; exact ha) (hb w)
theorem gGood.nil : ∀ w ∈ ([] : List Cond), w ∈ lw_good := fun _ h => nomatch h

def gws (γ : Gv) (h : Hst) : va_W := [(gad γ 0, .inr (6, [.ref (gad γ 1), .ref (gad γ 10), .ref (gad γ 13), .ref (gad γ 15), .ref (gad γ 16), .int (h.1 0 5)])),
  (gad γ 1, .inr (0, [.ref (gad γ 2), .ref (gad γ 3), .ref (gad γ 4), .ref (gad γ 5), .ref (gad γ 6), .ref (gad γ 7), .ref (gad γ 8), .ref (gad γ 9), .int (h.1 1 8), .int (h.1 1 9)])),
  (gad γ 2, .inr (5, [.ref (gad γ 8), .int 0, .int 4])),
  (gad γ 3, .inr (5, [.ref (gad γ 8), .int 32, .int 11])),
  (gad γ 4, .inr (5, [.ref (gad γ 8), .int 472, .int 7])),
  (gad γ 5, .inr (5, [.ref (gad γ 8), .int 514, .int 5])),
  (gad γ 6, .inr (3, [.ref (gad γ 8), .int 539])),
  (gad γ 7, .inr (3, [.ref (gad γ 8), .int 546])),
  (gad γ 8, .inl (gcI γ, 553, .inl (h.1 8))),
  (gad γ 9, .inl (gcI γ, 3318, .inl (h.1 9))),
  (gad γ 10, .inr (1, [.ref (gad γ 1), .ref (gad γ 11), .ref (gad γ 12)])),
  (gad γ 11, .inl (gcI γ, 5, .inl (h.1 11))),
  (gad γ 12, .inl (gcI γ, 5, .inl (h.1 12))),
  (gad γ 13, .inr (2, [.ref (gad γ 1), .ref (gad γ 14), .int (h.1 13 2), .int (h.1 13 3), .int (h.1 13 4), .int (h.1 13 5), .int (h.1 13 6), .int (h.1 13 7), .int (h.1 13 8), .int (h.1 13 9), .int (h.1 13 10), .int (h.1 13 11)])),
  (gad γ 14, .inl (gcZ γ, 40, .inl (h.1 14))),
  (gad γ 15, .inr (4, [.int (h.1 15 0), .int (h.1 15 1), .int (h.1 15 2), .int (h.1 15 3), .int (h.1 15 4), .int (h.1 15 5), .int (h.1 15 6), .int (h.1 15 7), .int (h.1 15 8)])),
  (gad γ 16, .inl (gcI γ, 60, .inl (h.1 16))),
  (gad γ 17, .inl (gcI γ, 15, .inl (h.1 17))),
  (gad γ 18, .inl (gcI γ, 5, .inl (h.1 18))),
  (gad γ 19, .inl (gcI γ, 60, .inl (h.1 19))),
  (gad γ 20, .inl (gcI γ, 10, .inl (h.1 20))),
  (gad γ 21, .inl (gcI γ, 10, .inl (h.1 21))),
  (gad γ 22, .inl (gcI γ, 10, .inl (h.1 22))),
  (gad γ 23, .inl (gcI γ, 10, .inl (h.1 23))),
  (gad γ 24, .inl (gcI γ, 28, .inl (h.1 24))),
  (gad γ 25, .inl (gcI γ, 4, .inl (h.1 25))),
  (gad γ 26, .inl (gcI γ, 5, .inl (h.1 26)))]
/-- one whole object or row of ints anew; of longs -/
def hso (h : Hst) (o : Nat) (f : Nat → Int32) : Hst := (fun k => if k = o then f else h.1 k, h.2)
def hsl (h : Hst) (o : Nat) (f : Nat → Int64) : Hst := (h.1, fun k => if k = o then f else h.2 k)
/-- one slot anew -/
def hst (h : Hst) (o j : Nat) (x : Int32) : Hst := hso h o (upd (h.1 o) j x)
def hsj (h : Hst) (o j : Nat) (x : Int64) : Hst := hsl h o (vp_updL (h.2 o) j x)

theorem gset_0_5 (γ : Gv) (h : Hst) (x : Int32) : (gws γ h).set 0 (gad γ 0, .inr (6, ([.ref (gad γ 1), .ref (gad γ 10), .ref (gad γ 13), .ref (gad γ 15), .ref (gad γ 16), .int (h.1 0 5)] : List Value).set 5 (.int x))) = gws γ (hst h 0 5 x) := rfl
theorem gset_1_8 (γ : Gv) (h : Hst) (x : Int32) : (gws γ h).set 1 (gad γ 1, .inr (0, ([.ref (gad γ 2), .ref (gad γ 3), .ref (gad γ 4), .ref (gad γ 5), .ref (gad γ 6), .ref (gad γ 7), .ref (gad γ 8), .ref (gad γ 9), .int (h.1 1 8), .int (h.1 1 9)] : List Value).set 8 (.int x))) = gws γ (hst h 1 8 x) := rfl
theorem gset_1_9 (γ : Gv) (h : Hst) (x : Int32) : (gws γ h).set 1 (gad γ 1, .inr (0, ([.ref (gad γ 2), .ref (gad γ 3), .ref (gad γ 4), .ref (gad γ 5), .ref (gad γ 6), .ref (gad γ 7), .ref (gad γ 8), .ref (gad γ 9), .int (h.1 1 8), .int (h.1 1 9)] : List Value).set 9 (.int x))) = gws γ (hst h 1 9 x) := rfl
theorem gset_8 (γ : Gv) (h : Hst) (f : Nat → Int32) : (gws γ h).set 8 (gad γ 8, .inl (gcI γ, 553, .inl f)) = gws γ (hso h 8 f) := rfl
theorem gset_9 (γ : Gv) (h : Hst) (f : Nat → Int32) : (gws γ h).set 9 (gad γ 9, .inl (gcI γ, 3318, .inl f)) = gws γ (hso h 9 f) := rfl
theorem gset_11 (γ : Gv) (h : Hst) (f : Nat → Int32) : (gws γ h).set 11 (gad γ 11, .inl (gcI γ, 5, .inl f)) = gws γ (hso h 11 f) := rfl
theorem gset_12 (γ : Gv) (h : Hst) (f : Nat → Int32) : (gws γ h).set 12 (gad γ 12, .inl (gcI γ, 5, .inl f)) = gws γ (hso h 12 f) := rfl
theorem gset_13_2 (γ : Gv) (h : Hst) (x : Int32) : (gws γ h).set 13 (gad γ 13, .inr (2, ([.ref (gad γ 1), .ref (gad γ 14), .int (h.1 13 2), .int (h.1 13 3), .int (h.1 13 4), .int (h.1 13 5), .int (h.1 13 6), .int (h.1 13 7), .int (h.1 13 8), .int (h.1 13 9), .int (h.1 13 10), .int (h.1 13 11)] : List Value).set 2 (.int x))) = gws γ (hst h 13 2 x) := rfl
theorem gset_13_3 (γ : Gv) (h : Hst) (x : Int32) : (gws γ h).set 13 (gad γ 13, .inr (2, ([.ref (gad γ 1), .ref (gad γ 14), .int (h.1 13 2), .int (h.1 13 3), .int (h.1 13 4), .int (h.1 13 5), .int (h.1 13 6), .int (h.1 13 7), .int (h.1 13 8), .int (h.1 13 9), .int (h.1 13 10), .int (h.1 13 11)] : List Value).set 3 (.int x))) = gws γ (hst h 13 3 x) := rfl
theorem gset_13_4 (γ : Gv) (h : Hst) (x : Int32) : (gws γ h).set 13 (gad γ 13, .inr (2, ([.ref (gad γ 1), .ref (gad γ 14), .int (h.1 13 2), .int (h.1 13 3), .int (h.1 13 4), .int (h.1 13 5), .int (h.1 13 6), .int (h.1 13 7), .int (h.1 13 8), .int (h.1 13 9), .int (h.1 13 10), .int (h.1 13 11)] : List Value).set 4 (.int x))) = gws γ (hst h 13 4 x) := rfl
theorem gset_13_5 (γ : Gv) (h : Hst) (x : Int32) : (gws γ h).set 13 (gad γ 13, .inr (2, ([.ref (gad γ 1), .ref (gad γ 14), .int (h.1 13 2), .int (h.1 13 3), .int (h.1 13 4), .int (h.1 13 5), .int (h.1 13 6), .int (h.1 13 7), .int (h.1 13 8), .int (h.1 13 9), .int (h.1 13 10), .int (h.1 13 11)] : List Value).set 5 (.int x))) = gws γ (hst h 13 5 x) := rfl
theorem gset_13_6 (γ : Gv) (h : Hst) (x : Int32) : (gws γ h).set 13 (gad γ 13, .inr (2, ([.ref (gad γ 1), .ref (gad γ 14), .int (h.1 13 2), .int (h.1 13 3), .int (h.1 13 4), .int (h.1 13 5), .int (h.1 13 6), .int (h.1 13 7), .int (h.1 13 8), .int (h.1 13 9), .int (h.1 13 10), .int (h.1 13 11)] : List Value).set 6 (.int x))) = gws γ (hst h 13 6 x) := rfl
theorem gset_13_7 (γ : Gv) (h : Hst) (x : Int32) : (gws γ h).set 13 (gad γ 13, .inr (2, ([.ref (gad γ 1), .ref (gad γ 14), .int (h.1 13 2), .int (h.1 13 3), .int (h.1 13 4), .int (h.1 13 5), .int (h.1 13 6), .int (h.1 13 7), .int (h.1 13 8), .int (h.1 13 9), .int (h.1 13 10), .int (h.1 13 11)] : List Value).set 7 (.int x))) = gws γ (hst h 13 7 x) := rfl
theorem gset_13_8 (γ : Gv) (h : Hst) (x : Int32) : (gws γ h).set 13 (gad γ 13, .inr (2, ([.ref (gad γ 1), .ref (gad γ 14), .int (h.1 13 2), .int (h.1 13 3), .int (h.1 13 4), .int (h.1 13 5), .int (h.1 13 6), .int (h.1 13 7), .int (h.1 13 8), .int (h.1 13 9), .int (h.1 13 10), .int (h.1 13 11)] : List Value).set 8 (.int x))) = gws γ (hst h 13 8 x) := rfl
theorem gset_13_9 (γ : Gv) (h : Hst) (x : Int32) : (gws γ h).set 13 (gad γ 13, .inr (2, ([.ref (gad γ 1), .ref (gad γ 14), .int (h.1 13 2), .int (h.1 13 3), .int (h.1 13 4), .int (h.1 13 5), .int (h.1 13 6), .int (h.1 13 7), .int (h.1 13 8), .int (h.1 13 9), .int (h.1 13 10), .int (h.1 13 11)] : List Value).set 9 (.int x))) = gws γ (hst h 13 9 x) := rfl
theorem gset_13_10 (γ : Gv) (h : Hst) (x : Int32) : (gws γ h).set 13 (gad γ 13, .inr (2, ([.ref (gad γ 1), .ref (gad γ 14), .int (h.1 13 2), .int (h.1 13 3), .int (h.1 13 4), .int (h.1 13 5), .int (h.1 13 6), .int (h.1 13 7), .int (h.1 13 8), .int (h.1 13 9), .int (h.1 13 10), .int (h.1 13 11)] : List Value).set 10 (.int x))) = gws γ (hst h 13 10 x) := rfl
theorem gset_13_11 (γ : Gv) (h : Hst) (x : Int32) : (gws γ h).set 13 (gad γ 13, .inr (2, ([.ref (gad γ 1), .ref (gad γ 14), .int (h.1 13 2), .int (h.1 13 3), .int (h.1 13 4), .int (h.1 13 5), .int (h.1 13 6), .int (h.1 13 7), .int (h.1 13 8), .int (h.1 13 9), .int (h.1 13 10), .int (h.1 13 11)] : List Value).set 11 (.int x))) = gws γ (hst h 13 11 x) := rfl
theorem gset_14 (γ : Gv) (h : Hst) (f : Nat → Int32) : (gws γ h).set 14 (gad γ 14, .inl (gcZ γ, 40, .inl f)) = gws γ (hso h 14 f) := rfl
theorem gset_15_0 (γ : Gv) (h : Hst) (x : Int32) : (gws γ h).set 15 (gad γ 15, .inr (4, ([.int (h.1 15 0), .int (h.1 15 1), .int (h.1 15 2), .int (h.1 15 3), .int (h.1 15 4), .int (h.1 15 5), .int (h.1 15 6), .int (h.1 15 7), .int (h.1 15 8)] : List Value).set 0 (.int x))) = gws γ (hst h 15 0 x) := rfl
theorem gset_15_1 (γ : Gv) (h : Hst) (x : Int32) : (gws γ h).set 15 (gad γ 15, .inr (4, ([.int (h.1 15 0), .int (h.1 15 1), .int (h.1 15 2), .int (h.1 15 3), .int (h.1 15 4), .int (h.1 15 5), .int (h.1 15 6), .int (h.1 15 7), .int (h.1 15 8)] : List Value).set 1 (.int x))) = gws γ (hst h 15 1 x) := rfl
theorem gset_15_2 (γ : Gv) (h : Hst) (x : Int32) : (gws γ h).set 15 (gad γ 15, .inr (4, ([.int (h.1 15 0), .int (h.1 15 1), .int (h.1 15 2), .int (h.1 15 3), .int (h.1 15 4), .int (h.1 15 5), .int (h.1 15 6), .int (h.1 15 7), .int (h.1 15 8)] : List Value).set 2 (.int x))) = gws γ (hst h 15 2 x) := rfl
theorem gset_15_3 (γ : Gv) (h : Hst) (x : Int32) : (gws γ h).set 15 (gad γ 15, .inr (4, ([.int (h.1 15 0), .int (h.1 15 1), .int (h.1 15 2), .int (h.1 15 3), .int (h.1 15 4), .int (h.1 15 5), .int (h.1 15 6), .int (h.1 15 7), .int (h.1 15 8)] : List Value).set 3 (.int x))) = gws γ (hst h 15 3 x) := rfl
theorem gset_15_4 (γ : Gv) (h : Hst) (x : Int32) : (gws γ h).set 15 (gad γ 15, .inr (4, ([.int (h.1 15 0), .int (h.1 15 1), .int (h.1 15 2), .int (h.1 15 3), .int (h.1 15 4), .int (h.1 15 5), .int (h.1 15 6), .int (h.1 15 7), .int (h.1 15 8)] : List Value).set 4 (.int x))) = gws γ (hst h 15 4 x) := rfl
theorem gset_15_5 (γ : Gv) (h : Hst) (x : Int32) : (gws γ h).set 15 (gad γ 15, .inr (4, ([.int (h.1 15 0), .int (h.1 15 1), .int (h.1 15 2), .int (h.1 15 3), .int (h.1 15 4), .int (h.1 15 5), .int (h.1 15 6), .int (h.1 15 7), .int (h.1 15 8)] : List Value).set 5 (.int x))) = gws γ (hst h 15 5 x) := rfl
theorem gset_15_6 (γ : Gv) (h : Hst) (x : Int32) : (gws γ h).set 15 (gad γ 15, .inr (4, ([.int (h.1 15 0), .int (h.1 15 1), .int (h.1 15 2), .int (h.1 15 3), .int (h.1 15 4), .int (h.1 15 5), .int (h.1 15 6), .int (h.1 15 7), .int (h.1 15 8)] : List Value).set 6 (.int x))) = gws γ (hst h 15 6 x) := rfl
theorem gset_15_7 (γ : Gv) (h : Hst) (x : Int32) : (gws γ h).set 15 (gad γ 15, .inr (4, ([.int (h.1 15 0), .int (h.1 15 1), .int (h.1 15 2), .int (h.1 15 3), .int (h.1 15 4), .int (h.1 15 5), .int (h.1 15 6), .int (h.1 15 7), .int (h.1 15 8)] : List Value).set 7 (.int x))) = gws γ (hst h 15 7 x) := rfl
theorem gset_15_8 (γ : Gv) (h : Hst) (x : Int32) : (gws γ h).set 15 (gad γ 15, .inr (4, ([.int (h.1 15 0), .int (h.1 15 1), .int (h.1 15 2), .int (h.1 15 3), .int (h.1 15 4), .int (h.1 15 5), .int (h.1 15 6), .int (h.1 15 7), .int (h.1 15 8)] : List Value).set 8 (.int x))) = gws γ (hst h 15 8 x) := rfl
theorem gset_16 (γ : Gv) (h : Hst) (f : Nat → Int32) : (gws γ h).set 16 (gad γ 16, .inl (gcI γ, 60, .inl f)) = gws γ (hso h 16 f) := rfl
theorem gset_17 (γ : Gv) (h : Hst) (f : Nat → Int32) : (gws γ h).set 17 (gad γ 17, .inl (gcI γ, 15, .inl f)) = gws γ (hso h 17 f) := rfl
theorem gset_18 (γ : Gv) (h : Hst) (f : Nat → Int32) : (gws γ h).set 18 (gad γ 18, .inl (gcI γ, 5, .inl f)) = gws γ (hso h 18 f) := rfl
theorem gset_19 (γ : Gv) (h : Hst) (f : Nat → Int32) : (gws γ h).set 19 (gad γ 19, .inl (gcI γ, 60, .inl f)) = gws γ (hso h 19 f) := rfl
theorem gset_20 (γ : Gv) (h : Hst) (f : Nat → Int32) : (gws γ h).set 20 (gad γ 20, .inl (gcI γ, 10, .inl f)) = gws γ (hso h 20 f) := rfl
theorem gset_21 (γ : Gv) (h : Hst) (f : Nat → Int32) : (gws γ h).set 21 (gad γ 21, .inl (gcI γ, 10, .inl f)) = gws γ (hso h 21 f) := rfl
theorem gset_22 (γ : Gv) (h : Hst) (f : Nat → Int32) : (gws γ h).set 22 (gad γ 22, .inl (gcI γ, 10, .inl f)) = gws γ (hso h 22 f) := rfl
theorem gset_23 (γ : Gv) (h : Hst) (f : Nat → Int32) : (gws γ h).set 23 (gad γ 23, .inl (gcI γ, 10, .inl f)) = gws γ (hso h 23 f) := rfl
theorem gset_24 (γ : Gv) (h : Hst) (f : Nat → Int32) : (gws γ h).set 24 (gad γ 24, .inl (gcI γ, 28, .inl f)) = gws γ (hso h 24 f) := rfl
theorem gset_25 (γ : Gv) (h : Hst) (f : Nat → Int32) : (gws γ h).set 25 (gad γ 25, .inl (gcI γ, 4, .inl f)) = gws γ (hso h 25 f) := rfl
theorem gset_26 (γ : Gv) (h : Hst) (f : Nat → Int32) : (gws γ h).set 26 (gad γ 26, .inl (gcI γ, 5, .inl f)) = gws γ (hso h 26 f) := rfl
def gnest : List Cond := [Cond.fieldLinkNest "OliveMill$Books" (48 : Nat) "OliveMill" "NEW_SETTINGS" "[I" "OliveMill",
  Cond.fieldLinkNest "OliveMill$Books" (55 : Nat) "OliveMill" "NEW_YIELDS" "[I" "OliveMill",
  Cond.fieldLinkNest "OliveMill" (200 : Nat) "OliveMill$Books" "growers" "LOliveMill$Table;" "OliveMill",
  Cond.fieldLinkNest "OliveMill$Rehearsal" (31 : Nat) "OliveMill$Books" "lots" "LOliveMill$Table;" "OliveMill",
  Cond.fieldLinkNest "OliveMill" (182 : Nat) "OliveMill$Books" "lots" "LOliveMill$Table;" "OliveMill",
  Cond.fieldLinkNest "OliveMill$Cellar" (22 : Nat) "OliveMill$Books" "tanks" "LOliveMill$Table;" "OliveMill",
  Cond.fieldLinkNest "OliveMill" (98 : Nat) "OliveMill$Books" "tanks" "LOliveMill$Table;" "OliveMill",
  Cond.fieldLinkNest "OliveMill" (113 : Nat) "OliveMill$Books" "varieties" "LOliveMill$Table;" "OliveMill",
  Cond.fieldLinkNest "OliveMill$Rehearsal" (70 : Nat) "OliveMill$Books" "varieties" "LOliveMill$Table;" "OliveMill",
  Cond.fieldLinkNest "OliveMill$Cellar" (71 : Nat) "OliveMill$Books" "varieties" "LOliveMill$Table;" "OliveMill",
  Cond.fieldLinkNest "OliveMill$Rehearsal" (50 : Nat) "OliveMill$Books" "settings" "LOliveMill$Row;" "OliveMill",
  Cond.fieldLinkNest "OliveMill" (133 : Nat) "OliveMill$Books" "settings" "LOliveMill$Row;" "OliveMill",
  Cond.fieldLinkNest "OliveMill$Cellar" (60 : Nat) "OliveMill$Books" "settings" "LOliveMill$Row;" "OliveMill",
  Cond.fieldLinkNest "OliveMill" (47 : Nat) "OliveMill$Books" "mill" "LOliveMill$Row;" "OliveMill",
  Cond.fieldLinkNest "OliveMill$Rehearsal" (19 : Nat) "OliveMill$Books" "mill" "LOliveMill$Row;" "OliveMill",
  Cond.fieldLinkNest "OliveMill" (260 : Nat) "OliveMill$Books" "savedStates" "I" "OliveMill",
  Cond.fieldLinkNest "OliveMill" (162 : Nat) "OliveMill$Rehearsal" "residueOf" "I" "OliveMill",
  Cond.fieldLinkNest "OliveMill" (165 : Nat) "OliveMill$Rehearsal" "residue" "I" "OliveMill",
  Cond.fieldLinkNest "OliveMill" (147 : Nat) "OliveMill$Rehearsal" "formerResidueOf" "I" "OliveMill",
  Cond.fieldLinkNest "OliveMill" (168 : Nat) "OliveMill$Rehearsal" "lot" "I" "OliveMill",
  Cond.fieldLinkNest "OliveMill" (400 : Nat) "OliveMill$Rehearsal" "due" "I" "OliveMill",
  Cond.fieldLinkNest "OliveMill" (403 : Nat) "OliveMill$Rehearsal" "content" "I" "OliveMill",
  Cond.fieldLinkNest "OliveMill" (305 : Nat) "OliveMill$Rehearsal" "firstOil" "I" "OliveMill",
  Cond.fieldLinkNest "OliveMill" (150 : Nat) "OliveMill$Rehearsal" "lost" "I" "OliveMill",
  Cond.fieldLinkNest "OliveMill" (406 : Nat) "OliveMill$Rehearsal" "carried" "I" "OliveMill",
  Cond.fieldLinkNest "OliveMill" (308 : Nat) "OliveMill$Rehearsal" "poured" "I" "OliveMill",
  Cond.methodLinkNest "OliveMill" (34 : Nat) ({ cls := "OliveMill$SlipReader", name := "<init>", desc := "()V" } : MethodName) "OliveMill",
  Cond.castable "java/lang/IllegalStateException" "java/lang/IllegalStateException",
  Cond.declares ({ cls := "java/lang/RuntimeException", name := "<init>", desc := "()V" } : MethodName),
  Cond.declares ({ cls := "java/lang/RuntimeException", name := "<init>", desc := "(Ljava/lang/String;)V" } : MethodName),
  Cond.declares ({ cls := "java/lang/Exception", name := "<init>", desc := "()V" } : MethodName),
  Cond.declares ({ cls := "java/lang/Exception", name := "<init>", desc := "(Ljava/lang/String;)V" } : MethodName),
  Cond.declares ({ cls := "java/lang/Throwable", name := "<init>", desc := "()V" } : MethodName),
  Cond.declares ({ cls := "java/lang/Throwable", name := "<init>", desc := "(Ljava/lang/String;)V" } : MethodName),
  Cond.castable "java/lang/IllegalArgumentException" "java/lang/IllegalArgumentException",
  Cond.castable "java/lang/IndexOutOfBoundsException" "java/lang/IndexOutOfBoundsException"]
theorem gnest_on : ∀ w ∈ gnest, w.onTables = true := by decide +kernel
abbrev fLEAST : Nat → Value := fun i => .int (([0, 500, 0, 0, 0, 0, 0] : List Int32).getD i 0)
abbrev fMOST : Nat → Value := fun i => .int (([50, 1000, 1000, 50, 500, 2, 500] : List Int32).getD i 0)
/-- what the machine's tables and the old cells say, which no method changes -/
def gGl (γ : Gv) (U : State) (H : Heap) : Prop :=
  va_K (gD γ) vwCl (gtys γ) U ∧ gB0 γ ≤ H.size ∧ (∀ k, k < 27 → gB0 γ ≤ gad γ k) ∧ (∀ i j, i < 27 → j < 27 → gad γ i = gad γ j → i = j) ∧
  True ∧ True ∧
  (va_Z "OliveMill" "LEAST_SETTINGS" "[I" (.ref (gaL γ)) (gA γ) U H ∧ va_T .int (gaL γ) 7 fLEAST (gA γ) U H) ∧
  (va_Z "OliveMill" "MOST_SETTINGS" "[I" (.ref (gaM γ)) (gA γ) U H ∧ va_T .int (gaM γ) 7 fMOST (gA γ) U H) ∧
  (va_X (gscr γ) (gLx γ) (gxs γ) U H ∧ gscr γ < H.size ∧ ¬ gA γ (gscr γ) ∧ gLx γ ≤ 260) ∧
  True ∧ (∀ w ∈ gnest, va_Nw w U) ∧ True
theorem gGl.same {γ : Gv} {u U : State} {H : Heap} (hv : u.vm = U.vm) (g : gGl γ u H) : gGl γ U H := by
  have ha : u.vm.Alike U.vm := by rw [hv]; exact Vm.Alike.refl U.vm
  obtain ⟨g1, g2, g3, g4, -, -, ⟨g7, g8⟩, ⟨g9, g10⟩, ⟨g11, g12⟩, -, g14, -⟩ := g
  exact ⟨g1.moved ha, g2, g3, g4, trivial, trivial, ⟨g7.moved ha, g8.moved ha⟩, ⟨g9.moved ha, g10.moved ha⟩, ⟨g11.moved ha, g12⟩,
    trivial, fun w hw => va_Nw.same (gnest_on w hw) hv (g14 w hw), trivial⟩
theorem gnest_warm {s U : State} (hW : s.WarmedH U.vm) (h : ∀ w ∈ gnest, va_Nw w s) : ∀ w ∈ gnest, va_Nw w U := by
  intro w hw
  have hz := h w hw
  simp only [gnest, List.mem_cons, List.not_mem_nil, or_false] at hw
  rcases hw with rfl | rfl | rfl | rfl | rfl | rfl | rfl | rfl | rfl | rfl | rfl | rfl | rfl | rfl | rfl | rfl | rfl | rfl | rfl | rfl | rfl | rfl | rfl | rfl | rfl | rfl | rfl | rfl | rfl | rfl | rfl | rfl | rfl | rfl | rfl | rfl <;> first | exact va_Nw.warmF hW hz | exact va_Nw.warmM hW hz | exact va_Nw.warmC hW hz | exact va_Nw.warmD hW hz
theorem gGl.warm {γ : Gv} {s U : State} {H : Heap} (hW : s.WarmedH U.vm) (g : gGl γ s H) : gGl γ U H := by
  have ha : s.vm.Alike U.vm := hW.alike
  obtain ⟨g1, g2, g3, g4, -, -, ⟨g7, g8⟩, ⟨g9, g10⟩, ⟨g11, g12⟩, -, g14, -⟩ := g
  exact ⟨g1.moved ha, g2, g3, g4, trivial, trivial, ⟨g7.moved ha, g8.moved ha⟩, ⟨g9.moved ha, g10.moved ha⟩, ⟨g11.moved ha, g12⟩,
    trivial, gnest_warm hW g14, trivial⟩
theorem gGl.kept {γ : Gv} {U : State} {H0 H : Heap} {locs : List Loc} (hS : va_S (gA γ) H0 H locs) (g : gGl γ U H0) : gGl γ U H := by
  obtain ⟨g1, g2, g3, g4, g5, g6, ⟨g7, g8⟩, ⟨g9, g10⟩, ⟨g11, g12, g13, g14⟩, g15⟩ := g
  have hk := hS.2.1
  exact ⟨g1, Nat.le_trans g2 hS.1, g3, g4, g5, g6, ⟨g7.kept hk, g8.kept hk⟩, ⟨g9.kept hk, g10.kept hk⟩, ⟨g11.kept (hk _ g12 g13), Nat.lt_of_lt_of_le g12 hS.1, g13, g14⟩, g15⟩
theorem gws_ad (γ : Gv) (h : Hst) (k : Nat) : (gws γ h)[k]?.map (fun q => q.1) = if k < 27 then some (gad γ k) else none := by
  rcases Nat.lt_or_ge k 27 with hk | hk
  · rw [if_pos hk]
    have : k = 0 ∨ k = 1 ∨ k = 2 ∨ k = 3 ∨ k = 4 ∨ k = 5 ∨ k = 6 ∨ k = 7 ∨ k = 8 ∨ k = 9 ∨ k = 10 ∨ k = 11 ∨ k = 12 ∨ k = 13 ∨ k = 14 ∨ k = 15 ∨ k = 16 ∨ k = 17 ∨ k = 18 ∨ k = 19 ∨ k = 20 ∨ k = 21 ∨ k = 22 ∨ k = 23 ∨ k = 24 ∨ k = 25 ∨ k = 26 := by omega
    rcases this with rfl | rfl | rfl | rfl | rfl | rfl | rfl | rfl | rfl | rfl | rfl | rfl | rfl | rfl | rfl | rfl | rfl | rfl | rfl | rfl | rfl | rfl | rfl | rfl | rfl | rfl | rfl <;> rfl
  · rw [if_neg (by omega)]
    have : (gws γ h)[k]? = none := List.getElem?_eq_none (by show 27 ≤ k; exact hk)
    rw [this]; rfl
theorem gDis {γ : Gv} {U : State} {H : Heap} (g : gGl γ U H) (h : Hst) : va_D (gA γ) (gws γ h) := by
  obtain ⟨-, -, g3, g4, -⟩ := g
  have key : ∀ (k : Nat) (q : Nat × va_E), (gws γ h)[k]? = some q → k < 27 ∧ q.1 = gad γ k := by
    intro k q hq
    have e := gws_ad γ h k
    rw [hq] at e
    by_cases hk : k < 27
    · rw [if_pos hk] at e; exact ⟨hk, Option.some.inj e⟩
    · rw [if_neg hk] at e; cases e
  refine ⟨fun i j p q hi hj e => ?_, fun k q hq => ?_⟩
  · obtain ⟨h1, e1⟩ := key i p hi
    obtain ⟨h2, e2⟩ := key j q hj
    exact g4 i j h1 h2 (by rw [← e1, ← e2, e])
  · obtain ⟨h1, e1⟩ := key k q hq
    show gB0 γ ≤ q.1
    rw [e1]; exact g3 k h1
/-- the context of a frame -/
def Cx (γ : Gv) (own : String) (cc : ByteArray) (nL : Nat) (ret : Option FieldType) (hh : List (Nat × Nat × Nat × Nat)) (p : Program) (l : Launch) (s : State) (m : MethodId) (args : Array Value) (meth : Method) (c : Code) : Prop :=
  p.tables.exec = Jvm.exec ∧ c.code = cc ∧ c.maxLocals = nL ∧ meth.sig.returnType = ret ∧ s.vm.findClass own = some m.cls ∧ (∀ w ∈ lw_good, w.before args s = true) ∧ meth.locks = false ∧ c.exceptionTable.toList = tableOf hh ∧ l.stackTraces = false ∧ gGl γ s s.heap
/-- the place of a method's end, with its answer on the stack -/
def gRet (ret : Option FieldType) (cc : ByteArray) (v : Option Value) (pc : Nat) : Prop :=
  (v = none ∧ ret = none ∧ decode cc pc = .ok (.return_, 1)) ∨ (∃ (x : Int32) (ty : FieldType), v = some (.int x) ∧ ret = some ty ∧ narrow ty (.int x) = .int x ∧ decode cc pc = .ok (.ireturn, 1)) ∨
  (∃ x : Int64, v = some (.long x) ∧ ret = some .long ∧ decode cc pc = .ok (.lreturn, 1)) ∨ (∃ x : UInt64, v = some (.double x) ∧ ret = some .double ∧ decode cc pc = .ok (.dreturn, 1))
def gx (z : GR) : Nat := match z with
  | .inl _ => 0
  | .inr _ => 1
def gK (γ : Gv) (ret : Option FieldType) (cc : ByteArray) (p : Program) (l : Launch) (e : Env) (R : Room) (s : State) (m : MethodId) (args : Array Value) (below : List Frame) (meth : Method) (c : Code) (cells slots b : Nat) (Q : State → Prop) (z : GR) : Prop := match z with
  | .inl q => ∀ (pc' : Nat) (ls' : Array Slot) (H' : Heap) (locs' : List Loc) (cells' slots' : Nat), gRet ret cc q.1 pc' → va_S (gA γ) s.heap H' locs' → va_P (gD γ) vwCl (gws γ q.2) H' → cells' ≤ cells + b → slots' ≤ slots + 6 * b → W p l e R s m args below meth c H' locs' cells' slots' Q (F0 m pc' ls' q.1.toList)
  | .inr q => ∃ (Qc : Array Value → State → Outcome → State → Prop) (XC : String → State → State → Prop) (mc ms : Nat) (free : Addr → Prop), Q = vx_MQ below Qc XC args s mc ms free ∧ (∀ z : Nat, gB0 γ ≤ z → free z) ∧ cells + (b + 1) ≤ mc ∧ slots + 6 * (b + 1) ≤ ms ∧
      ∀ t : State, s.vm.Alike t.vm → va_F (gA γ) s t → va_P (gD γ) vwCl (gws γ q.2) t.heap → XC (gexc q.1) s t
theorem gK.mono {γ : Gv} {ret : Option FieldType} {cc : ByteArray} {p : Program} {l : Launch} {e : Env} {R : Room} {s : State} {m : MethodId} {args : Array Value} {below : List Frame} {meth : Method} {c : Code} {cells slots b mc b2 : Nat} {Q : State → Prop} {z : GR}
    (h : gK γ ret cc p l e R s m args below meth c cells slots b Q z) (hb : mc + b2 ≤ b) : gK γ ret cc p l e R s m args below meth c (cells + mc) (slots + 6 * mc) b2 Q z := by
  cases z with
  | inl q => exact fun pc' ls' H' locs' cells' slots' h1 h2 h3 h4 h5 => h pc' ls' H' locs' cells' slots' h1 h2 h3 (by omega) (by omega)
  | inr q =>
    obtain ⟨Qc, XC, m1, m2, free, h1, h2, h3, h4, h5⟩ := h
    exact ⟨Qc, XC, m1, m2, free, h1, h2, by omega, by omega, h5⟩
def G (γ : Gv) (own : String) (cc : ByteArray) (nL : Nat) (ret : Option FieldType) (hh : List (Nat × Nat × Nat × Nat)) {α : Type} (val : α → GR) (d b pc : Nat) (lv : List (Nat × Value)) (st : List Value) (h : Hst) (res : Option α) : Prop :=
  ∀ r : α, res = some r → ∀ {p : Program} {l : Launch} {e : Env} {R : Room} {s : State} {m : MethodId} {args : Array Value} {below : List Frame} {meth : Method} {c : Code} {H : Heap} {locs : List Loc} {cells slots : Nat} {Q : State → Prop} {ls : Array Slot},
    Cx γ own cc nL ret hh p l s m args meth c → d ≤ R.frames → 48 * d ≤ R.locals → cells + (b + gx (val r)) ≤ R.cells → slots + 6 * (b + gx (val r)) ≤ R.slots → va_S (gA γ) s.heap H locs → va_P (gD γ) vwCl (gws γ h) H → lv_has ls nL lv →
    gK γ ret cc p l e R s m args below meth c cells slots b Q (val r) → W p l e R s m args below meth c H locs cells slots Q (F0 m pc ls st)
/-- a value is named; a bound is looked at; a divisor -/
def gl {α β : Type} (e : α) (f : α → Option β) : Option β := f e
def gck {β : Type} (i : Int32) (n : Nat) (x : Option β) : Option β := if i < 0 then none else if n ≤ i.toNatClampNeg then none else x
def gdz {β : Type} (y : Int32) (x : Option β) : Option β := if y = 0 then none else x
def gzr {β : Type} (y : Int32) (x : Option β) : Option β := if y &&& 1 = y then x else none
def gnn {β : Type} (y : UInt64) (x : Option β) : Option β := if y &&& 0x7fffffffffffffff ≤ 0x7ff0000000000000 then x else none
def gb {α β : Type} (x : Option (α × Hst)) (F : α → Hst → Option β) : Option β := x.bind fun q => F q.1 q.2
def gbv {β : Type} (x : Option Hst) (F : Hst → Option β) : Option β := x.bind F
def gbx {α β : Type} (x : Option ((α × Hst) ⊕ (Nat × Hst))) (F : α → Hst → Option β) (X : Nat → Hst → Option β) : Option β := x.bind fun q => match q with
  | .inl a => F a.1 a.2
  | .inr a => X a.1 a.2
def gbvx {β : Type} (x : Option (Hst ⊕ (Nat × Hst))) (F : Hst → Option β) (X : Nat → Hst → Option β) : Option β := x.bind fun q => match q with
  | .inl a => F a
  | .inr a => X a.1 a.2
abbrev vI : Int32 × Hst → GR := fun q => .inl (some (.int q.1), q.2)
abbrev vL : Int64 × Hst → GR := fun q => .inl (some (.long q.1), q.2)
abbrev vD : UInt64 × Hst → GR := fun q => .inl (some (.double q.1), q.2)
abbrev vV : Hst → GR := fun q => .inl (none, q)
abbrev vIX : (Int32 × Hst) ⊕ (Nat × Hst) → GR := fun z => match z with
  | .inl q => .inl (some (.int q.1), q.2)
  | .inr q => .inr q
abbrev vVX : Hst ⊕ (Nat × Hst) → GR := fun z => match z with
  | .inl q => .inl (none, q)
  | .inr q => .inr q
theorem gck_in {β : Type} {i : Int32} {n : Nat} {x : Option β} {r : β} (h : gck i n x = some r) : vp_in i n ∧ x = some r := by
  unfold gck at h
  split at h
  · cases h
  · split at h
    · cases h
    · exact ⟨fun hz => hz.elim (by assumption) (by assumption), h⟩
theorem gdz_in {β : Type} {y : Int32} {x : Option β} {r : β} (h : gdz y x = some r) : ¬ y = 0 ∧ x = some r := by
  unfold gdz at h
  split at h
  · cases h
  · exact ⟨by assumption, h⟩
theorem gzr_in {β : Type} {y : Int32} {x : Option β} {r : β} (h : gzr y x = some r) : y &&& 1 = y ∧ x = some r := by
  unfold gzr at h
  split at h
  · exact ⟨by assumption, h⟩
  · cases h
theorem gnn_in {β : Type} {y : UInt64} {x : Option β} {r : β} (h : gnn y x = some r) : vf_n64 y ∧ x = some r := by
  unfold gnn at h
  split at h
  · exact ⟨by assumption, h⟩
  · cases h
section GG
variable {γ : Gv} {own : String} {cc : ByteArray} {nL : Nat} {ret : Option FieldType} {hh : List (Nat × Nat × Nat × Nat)} {α : Type} {val : α → GR} {d b pc : Nat} {lv lv' : List (Nat × Value)} {st : List Value} {h : Hst} {res : Option α}

theorem g_none : G γ own cc nL ret hh val d b pc lv st h (none : Option α) := fun r hr => nomatch hr
theorem g_nmi {e : Int32} {F : Int32 → Option α} (k : ∀ x : Int32, G γ own cc nL ret hh val d b pc lv (.int x :: st) h (F x)) : G γ own cc nL ret hh val d b pc lv (.int e :: st) h (gl e F) := k e
theorem g_nml {e : Int64} {F : Int64 → Option α} (k : ∀ x : Int64, G γ own cc nL ret hh val d b pc lv (.long x :: st) h (F x)) : G γ own cc nL ret hh val d b pc lv (.long e :: st) h (gl e F) := k e
theorem g_nmd {e : UInt64} {F : UInt64 → Option α} (k : ∀ x : UInt64, G γ own cc nL ret hh val d b pc lv (.double x :: st) h (F x)) : G γ own cc nL ret hh val d b pc lv (.double e :: st) h (gl e F) := k e
theorem g_nmh {F : Hst → Option α} (k : ∀ h' : Hst, G γ own cc nL ret hh val d b pc lv st h' (F h')) : G γ own cc nL ret hh val d b pc lv st h (gl h F) := k h
theorem g_sub (ks : List Nat) (hl : lv_pick lv ks = lv') (k : G γ own cc nL ret hh val d b pc lv' st h res) : G γ own cc nL ret hh val d b pc lv st h res := fun r hr _ _ _ _ _ _ _ _ _ _ _ _ _ _ _ _ C h1 h2 h3 h4 hS hP hls K => k r hr C h1 h2 h3 h4 hS hP (lv_sub hls ks hl) K
theorem g_iconst {n : Int} {v : Int32} (hdg : decode cc pc = .ok (.iconst n, 1)) (hv : Int32.ofInt n = v) (k : G γ own cc nL ret hh val d b (pc + 1) lv (.int v :: st) h res) : G γ own cc nL ret hh val d b pc lv st h res := by
  intro r hr p l e R s m args below meth c H locs cells slots Q ls C h1 h2 h3 h4 hS hP hls K
  exact lv_iconst C.1 C.2.1 hdg hv (k r hr C h1 h2 h3 h4 hS hP hls K)
theorem g_bipush {n : Int} {v : Int32} (hdg : decode cc pc = .ok (.bipush n, 2)) (hv : (Int8.ofInt n).toInt32 = v) (k : G γ own cc nL ret hh val d b (pc + 2) lv (.int v :: st) h res) : G γ own cc nL ret hh val d b pc lv st h res := by
  intro r hr p l e R s m args below meth c H locs cells slots Q ls C h1 h2 h3 h4 hS hP hls K
  exact lv_bipush C.1 C.2.1 hdg hv (k r hr C h1 h2 h3 h4 hS hP hls K)
theorem g_sipush {n : Int} {v : Int32} (hdg : decode cc pc = .ok (.sipush n, 3)) (hv : (Int16.ofInt n).toInt32 = v) (k : G γ own cc nL ret hh val d b (pc + 3) lv (.int v :: st) h res) : G γ own cc nL ret hh val d b pc lv st h res := by
  intro r hr p l e R s m args below meth c H locs cells slots Q ls C h1 h2 h3 h4 hS hP hls K
  exact lv_sipush C.1 C.2.1 hdg hv (k r hr C h1 h2 h3 h4 hS hP hls K)
theorem g_iload_n {k : Fin 4} {i : Nat} {x : Int32} (hdg : decode cc pc = .ok (.iload_n k, 1)) (hi : (k : Nat) = i) (q : Nat) (hq : lv[q]? = some (i, .int x)) (k : G γ own cc nL ret hh val d b (pc + 1) lv (.int x :: st) h res) : G γ own cc nL ret hh val d b pc lv st h res := by
  intro r hr p l e R s m args below meth c H locs cells slots Q ls C h1 h2 h3 h4 hS hP hls K
  exact lv_iload_n C.1 C.2.1 hdg hi (lv_at hls q hq) (k r hr C h1 h2 h3 h4 hS hP hls K)
theorem g_iload {i : Nat} {x : Int32} (hdg : decode cc pc = .ok (.iload i, 2)) (q : Nat) (hq : lv[q]? = some (i, .int x)) (k : G γ own cc nL ret hh val d b (pc + 2) lv (.int x :: st) h res) : G γ own cc nL ret hh val d b pc lv st h res := by
  intro r hr p l e R s m args below meth c H locs cells slots Q ls C h1 h2 h3 h4 hS hP hls K
  exact lv_iload C.1 C.2.1 hdg (lv_at hls q hq) (k r hr C h1 h2 h3 h4 hS hP hls K)
theorem g_aload_n {k : Fin 4} {i : Nat} {x : Nat} (hdg : decode cc pc = .ok (.aload_n k, 1)) (hi : (k : Nat) = i) (q : Nat) (hq : lv[q]? = some (i, .ref x)) (k : G γ own cc nL ret hh val d b (pc + 1) lv (.ref x :: st) h res) : G γ own cc nL ret hh val d b pc lv st h res := by
  intro r hr p l e R s m args below meth c H locs cells slots Q ls C h1 h2 h3 h4 hS hP hls K
  exact lv_aload_n C.1 C.2.1 hdg hi (lv_at hls q hq) (k r hr C h1 h2 h3 h4 hS hP hls K)
theorem g_aload {i : Nat} {x : Nat} (hdg : decode cc pc = .ok (.aload i, 2)) (q : Nat) (hq : lv[q]? = some (i, .ref x)) (k : G γ own cc nL ret hh val d b (pc + 2) lv (.ref x :: st) h res) : G γ own cc nL ret hh val d b pc lv st h res := by
  intro r hr p l e R s m args below meth c H locs cells slots Q ls C h1 h2 h3 h4 hS hP hls K
  exact lv_aload C.1 C.2.1 hdg (lv_at hls q hq) (k r hr C h1 h2 h3 h4 hS hP hls K)
theorem g_istore_n {k : Fin 4} {i : Nat} {x : Int32} (hdg : decode cc pc = .ok (.istore_n k, 1)) (hi : (k : Nat) = i) (hn : i < nL) (hl : (i, Value.int x) :: lv.filter (fun q => !(q.1 == i) && !(q.1 + 1 == i && q.2.category == 2)) = lv') (k : G γ own cc nL ret hh val d b (pc + 1) lv' st h res) : G γ own cc nL ret hh val d b pc lv (.int x :: st) h res := by
  intro r hr p l e R s m args below meth c H locs cells slots Q ls C h1 h2 h3 h4 hS hP hls K
  exact lv_istore_n C.1 C.2.1 hdg hi hls hn hl (fun ls' hls' => k r hr C h1 h2 h3 h4 hS hP hls' K)
theorem g_istore {i : Nat} {x : Int32} (hdg : decode cc pc = .ok (.istore i, 2)) (hn : i < nL) (hl : (i, Value.int x) :: lv.filter (fun q => !(q.1 == i) && !(q.1 + 1 == i && q.2.category == 2)) = lv') (k : G γ own cc nL ret hh val d b (pc + 2) lv' st h res) : G γ own cc nL ret hh val d b pc lv (.int x :: st) h res := by
  intro r hr p l e R s m args below meth c H locs cells slots Q ls C h1 h2 h3 h4 hS hP hls K
  exact lv_istore C.1 C.2.1 hdg hls hn hl (fun ls' hls' => k r hr C h1 h2 h3 h4 hS hP hls' K)
theorem g_astore_n {k : Fin 4} {i : Nat} {x : Nat} (hdg : decode cc pc = .ok (.astore_n k, 1)) (hi : (k : Nat) = i) (hn : i < nL) (hl : (i, Value.ref x) :: lv.filter (fun q => !(q.1 == i) && !(q.1 + 1 == i && q.2.category == 2)) = lv') (k : G γ own cc nL ret hh val d b (pc + 1) lv' st h res) : G γ own cc nL ret hh val d b pc lv (.ref x :: st) h res := by
  intro r hr p l e R s m args below meth c H locs cells slots Q ls C h1 h2 h3 h4 hS hP hls K
  exact lv_astore_n C.1 C.2.1 hdg hi hls hn hl (fun ls' hls' => k r hr C h1 h2 h3 h4 hS hP hls' K)
theorem g_astore {i : Nat} {x : Nat} (hdg : decode cc pc = .ok (.astore i, 2)) (hn : i < nL) (hl : (i, Value.ref x) :: lv.filter (fun q => !(q.1 == i) && !(q.1 + 1 == i && q.2.category == 2)) = lv') (k : G γ own cc nL ret hh val d b (pc + 2) lv' st h res) : G γ own cc nL ret hh val d b pc lv (.ref x :: st) h res := by
  intro r hr p l e R s m args below meth c H locs cells slots Q ls C h1 h2 h3 h4 hS hP hls K
  exact lv_astore C.1 C.2.1 hdg hls hn hl (fun ls' hls' => k r hr C h1 h2 h3 h4 hS hP hls' K)
theorem g_iinc {i q : Nat} {n : Int} {x v : Int32} (hdg : decode cc pc = .ok (.iinc i n, 3)) (hk : lv[q]? = some (i, .int x)) (hv : x + Int32.ofInt n = v) (hn : i < nL) (hl : (i, Value.int v) :: lv.filter (fun q => !(q.1 == i) && !(q.1 + 1 == i && q.2.category == 2)) = lv') (k : G γ own cc nL ret hh val d b (pc + 3) lv' st h res) : G γ own cc nL ret hh val d b pc lv st h res := by
  intro r hr p l e R s m args below meth c H locs cells slots Q ls C h1 h2 h3 h4 hS hP hls K
  exact lv_iinc C.1 C.2.1 hdg hls hk hv hn hl (fun ls' hls' => k r hr C h1 h2 h3 h4 hS hP hls' K)
theorem g_iadd {x y : Int32} (hdg : decode cc pc = .ok (.iadd, 1)) (k : G γ own cc nL ret hh val d b (pc + 1) lv (.int (x + y) :: st) h res) : G γ own cc nL ret hh val d b pc lv (.int y :: .int x :: st) h res := by
  intro r hr p l e R s m args below meth c H locs cells slots Q ls C h1 h2 h3 h4 hS hP hls K
  exact lv_iadd C.1 C.2.1 hdg (k r hr C h1 h2 h3 h4 hS hP hls K)
theorem g_isub {x y : Int32} (hdg : decode cc pc = .ok (.isub, 1)) (k : G γ own cc nL ret hh val d b (pc + 1) lv (.int (x - y) :: st) h res) : G γ own cc nL ret hh val d b pc lv (.int y :: .int x :: st) h res := by
  intro r hr p l e R s m args below meth c H locs cells slots Q ls C h1 h2 h3 h4 hS hP hls K
  exact lv_isub C.1 C.2.1 hdg (k r hr C h1 h2 h3 h4 hS hP hls K)
theorem g_imul {x y : Int32} (hdg : decode cc pc = .ok (.imul, 1)) (k : G γ own cc nL ret hh val d b (pc + 1) lv (.int (x * y) :: st) h res) : G γ own cc nL ret hh val d b pc lv (.int y :: .int x :: st) h res := by
  intro r hr p l e R s m args below meth c H locs cells slots Q ls C h1 h2 h3 h4 hS hP hls K
  exact lv_imul C.1 C.2.1 hdg (k r hr C h1 h2 h3 h4 hS hP hls K)
theorem g_iand {x y : Int32} (hdg : decode cc pc = .ok (.iand, 1)) (k : G γ own cc nL ret hh val d b (pc + 1) lv (.int (x &&& y) :: st) h res) : G γ own cc nL ret hh val d b pc lv (.int y :: .int x :: st) h res := by
  intro r hr p l e R s m args below meth c H locs cells slots Q ls C h1 h2 h3 h4 hS hP hls K
  exact lv_iand C.1 C.2.1 hdg (k r hr C h1 h2 h3 h4 hS hP hls K)
theorem g_ior {x y : Int32} (hdg : decode cc pc = .ok (.ior, 1)) (k : G γ own cc nL ret hh val d b (pc + 1) lv (.int (x ||| y) :: st) h res) : G γ own cc nL ret hh val d b pc lv (.int y :: .int x :: st) h res := by
  intro r hr p l e R s m args below meth c H locs cells slots Q ls C h1 h2 h3 h4 hS hP hls K
  exact lv_ior C.1 C.2.1 hdg (k r hr C h1 h2 h3 h4 hS hP hls K)
theorem g_ishl {x y : Int32} (hdg : decode cc pc = .ok (.ishl, 1)) (k : G γ own cc nL ret hh val d b (pc + 1) lv (.int (x <<< (y &&& 31)) :: st) h res) : G γ own cc nL ret hh val d b pc lv (.int y :: .int x :: st) h res := by
  intro r hr p l e R s m args below meth c H locs cells slots Q ls C h1 h2 h3 h4 hS hP hls K
  exact lv_ishl C.1 C.2.1 hdg (k r hr C h1 h2 h3 h4 hS hP hls K)
theorem g_ishr {x y : Int32} (hdg : decode cc pc = .ok (.ishr, 1)) (k : G γ own cc nL ret hh val d b (pc + 1) lv (.int (x >>> (y &&& 31)) :: st) h res) : G γ own cc nL ret hh val d b pc lv (.int y :: .int x :: st) h res := by
  intro r hr p l e R s m args below meth c H locs cells slots Q ls C h1 h2 h3 h4 hS hP hls K
  exact lv_ishr C.1 C.2.1 hdg (k r hr C h1 h2 h3 h4 hS hP hls K)
theorem g_iushr {x y : Int32} (hdg : decode cc pc = .ok (.iushr, 1)) (k : G γ own cc nL ret hh val d b (pc + 1) lv (.int ((x.toUInt32 >>> (y.toUInt32 &&& Int32.toUInt32 31)).toInt32) :: st) h res) : G γ own cc nL ret hh val d b pc lv (.int y :: .int x :: st) h res := by
  intro r hr p l e R s m args below meth c H locs cells slots Q ls C h1 h2 h3 h4 hS hP hls K
  exact lv_iushr C.1 C.2.1 hdg rfl (k r hr C h1 h2 h3 h4 hS hP hls K)
theorem g_ldc {index : Nat} {v : Int32} (hw : Cond.constant own index v ∈ lw_good) (hdg : decode cc pc = .ok (.ldc index, 2)) (k : G γ own cc nL ret hh val d b (pc + 2) lv (.int v :: st) h res) : G γ own cc nL ret hh val d b pc lv st h res := by
  intro r hr p l e R s m args below meth c H locs cells slots Q ls C h1 h2 h3 h4 hS hP hls K
  exact lv_ldc C.1 C.2.1 C.2.2.2.2.1 (C.2.2.2.2.2.1 _ hw) hdg (k r hr C h1 h2 h3 h4 hS hP hls K)
theorem g_dup_x2 {va vb vd : Value} (hdg : decode cc pc = .ok (.dup_x2, 1)) (hva : va.category = 1) (hvb : vb.category = 1) (hvd : vd.category = 1) (k : G γ own cc nL ret hh val d b (pc + 1) lv (va :: vb :: vd :: va :: st) h res) : G γ own cc nL ret hh val d b pc lv (va :: vb :: vd :: st) h res := by
  intro r hr p l e R s m args below meth c H locs cells slots Q ls C h1 h2 h3 h4 hS hP hls K
  exact lv_dup_x2 C.1 C.2.1 hdg hva hvb hvd (k r hr C h1 h2 h3 h4 hS hP hls K)
theorem g_ineg {x : Int32} (hdg : decode cc pc = .ok (.ineg, 1)) (k : G γ own cc nL ret hh val d b (pc + 1) lv (.int (-x) :: st) h res) : G γ own cc nL ret hh val d b pc lv (.int x :: st) h res := by
  intro r hr p l e R s m args below meth c H locs cells slots Q ls C h1 h2 h3 h4 hS hP hls K
  exact lv_ineg C.1 C.2.1 hdg (k r hr C h1 h2 h3 h4 hS hP hls K)
theorem g_idiv {x y : Int32} (hdg : decode cc pc = .ok (.idiv, 1)) (k : G γ own cc nL ret hh val d b (pc + 1) lv (.int (x / y) :: st) h res) : G γ own cc nL ret hh val d b pc lv (.int y :: .int x :: st) h (gdz y res) := by
  intro r hr p l e R s m args below meth c H locs cells slots Q ls C h1 h2 h3 h4 hS hP hls K
  obtain ⟨hy, hr⟩ := gdz_in hr
  exact lv_idiv C.1 C.2.1 hdg hy (k r hr C h1 h2 h3 h4 hS hP hls K)
theorem g_irem {x y : Int32} (hdg : decode cc pc = .ok (.irem, 1)) (k : G γ own cc nL ret hh val d b (pc + 1) lv (.int (x - x / y * y) :: st) h res) : G γ own cc nL ret hh val d b pc lv (.int y :: .int x :: st) h (gdz y res) := by
  intro r hr p l e R s m args below meth c H locs cells slots Q ls C h1 h2 h3 h4 hS hP hls K
  obtain ⟨hy, hr⟩ := gdz_in hr
  exact lv_irem C.1 C.2.1 hdg hy (k r hr C h1 h2 h3 h4 hS hP hls K)
theorem g_dup {va : Value} (hdg : decode cc pc = .ok (.dup, 1)) (hva : va.category = 1) (k : G γ own cc nL ret hh val d b (pc + 1) lv (va :: va :: st) h res) : G γ own cc nL ret hh val d b pc lv (va :: st) h res := by
  intro r hr p l e R s m args below meth c H locs cells slots Q ls C h1 h2 h3 h4 hS hP hls K
  exact lv_dup C.1 C.2.1 hdg hva (k r hr C h1 h2 h3 h4 hS hP hls K)
theorem g_pop {va : Value} (hdg : decode cc pc = .ok (.pop, 1)) (hva : va.category = 1) (k : G γ own cc nL ret hh val d b (pc + 1) lv st h res) : G γ own cc nL ret hh val d b pc lv (va :: st) h res := by
  intro r hr p l e R s m args below meth c H locs cells slots Q ls C h1 h2 h3 h4 hS hP hls K
  exact lv_pop C.1 C.2.1 hdg hva (k r hr C h1 h2 h3 h4 hS hP hls K)
theorem g_dup2 {va vb : Value} (hdg : decode cc pc = .ok (.dup2, 1)) (hva : va.category = 1) (hvb : vb.category = 1) (k : G γ own cc nL ret hh val d b (pc + 1) lv (va :: vb :: va :: vb :: st) h res) : G γ own cc nL ret hh val d b pc lv (va :: vb :: st) h res := by
  intro r hr p l e R s m args below meth c H locs cells slots Q ls C h1 h2 h3 h4 hS hP hls K
  exact lv_dup2_11 C.1 C.2.1 hdg hva hvb (k r hr C h1 h2 h3 h4 hS hP hls K)
theorem g_dup_x1 {va vb : Value} (hdg : decode cc pc = .ok (.dup_x1, 1)) (hva : va.category = 1) (hvb : vb.category = 1) (k : G γ own cc nL ret hh val d b (pc + 1) lv (va :: vb :: va :: st) h res) : G γ own cc nL ret hh val d b pc lv (va :: vb :: st) h res := by
  intro r hr p l e R s m args below meth c H locs cells slots Q ls C h1 h2 h3 h4 hS hP hls K
  exact lv_dup_x1 C.1 C.2.1 hdg hva hvb (k r hr C h1 h2 h3 h4 hS hP hls K)
theorem g_icmp_eq {x y : Int32} {off : Int} {tgt : Nat} {A B : Option α} (hdg : decode cc pc = .ok (.if_icmp .eq off, 3)) (ht : (pc : Int) + off = (tgt : Int)) (kt : G γ own cc nL ret hh val d b tgt lv st h A) (kf : G γ own cc nL ret hh val d b (pc + 3) lv st h B) : G γ own cc nL ret hh val d b pc lv (.int y :: .int x :: st) h (if x = y then A else B) := by
  intro r hr p l e R s m args below meth c H locs cells slots Q ls C h1 h2 h3 h4 hS hP hls K
  exact lv_icmp_eq C.1 C.2.1 hdg ht (fun hc => kt r (by rw [if_pos hc] at hr; exact hr) C h1 h2 h3 h4 hS hP hls K) (fun hc => kf r (by rw [if_neg hc] at hr; exact hr) C h1 h2 h3 h4 hS hP hls K)
theorem g_if_eq {x : Int32} {off : Int} {tgt : Nat} {A B : Option α} (hdg : decode cc pc = .ok (.ifCond .eq off, 3)) (ht : (pc : Int) + off = (tgt : Int)) (kt : G γ own cc nL ret hh val d b tgt lv st h A) (kf : G γ own cc nL ret hh val d b (pc + 3) lv st h B) : G γ own cc nL ret hh val d b pc lv (.int x :: st) h (if x = 0 then A else B) := by
  intro r hr p l e R s m args below meth c H locs cells slots Q ls C h1 h2 h3 h4 hS hP hls K
  exact lv_if_eq C.1 C.2.1 hdg ht (fun hc => kt r (by rw [if_pos hc] at hr; exact hr) C h1 h2 h3 h4 hS hP hls K) (fun hc => kf r (by rw [if_neg hc] at hr; exact hr) C h1 h2 h3 h4 hS hP hls K)
theorem g_icmp_ne {x y : Int32} {off : Int} {tgt : Nat} {A B : Option α} (hdg : decode cc pc = .ok (.if_icmp .ne off, 3)) (ht : (pc : Int) + off = (tgt : Int)) (kt : G γ own cc nL ret hh val d b tgt lv st h B) (kf : G γ own cc nL ret hh val d b (pc + 3) lv st h A) : G γ own cc nL ret hh val d b pc lv (.int y :: .int x :: st) h (if x = y then A else B) := by
  intro r hr p l e R s m args below meth c H locs cells slots Q ls C h1 h2 h3 h4 hS hP hls K
  exact lv_icmp_ne C.1 C.2.1 hdg ht (fun hc => kt r (by rw [if_neg hc] at hr; exact hr) C h1 h2 h3 h4 hS hP hls K) (fun hc => kf r (by rw [if_pos hc] at hr; exact hr) C h1 h2 h3 h4 hS hP hls K)
theorem g_if_ne {x : Int32} {off : Int} {tgt : Nat} {A B : Option α} (hdg : decode cc pc = .ok (.ifCond .ne off, 3)) (ht : (pc : Int) + off = (tgt : Int)) (kt : G γ own cc nL ret hh val d b tgt lv st h B) (kf : G γ own cc nL ret hh val d b (pc + 3) lv st h A) : G γ own cc nL ret hh val d b pc lv (.int x :: st) h (if x = 0 then A else B) := by
  intro r hr p l e R s m args below meth c H locs cells slots Q ls C h1 h2 h3 h4 hS hP hls K
  exact lv_if_ne C.1 C.2.1 hdg ht (fun hc => kt r (by rw [if_neg hc] at hr; exact hr) C h1 h2 h3 h4 hS hP hls K) (fun hc => kf r (by rw [if_pos hc] at hr; exact hr) C h1 h2 h3 h4 hS hP hls K)
theorem g_icmp_lt {x y : Int32} {off : Int} {tgt : Nat} {A B : Option α} (hdg : decode cc pc = .ok (.if_icmp .lt off, 3)) (ht : (pc : Int) + off = (tgt : Int)) (kt : G γ own cc nL ret hh val d b tgt lv st h A) (kf : G γ own cc nL ret hh val d b (pc + 3) lv st h B) : G γ own cc nL ret hh val d b pc lv (.int y :: .int x :: st) h (if x < y then A else B) := by
  intro r hr p l e R s m args below meth c H locs cells slots Q ls C h1 h2 h3 h4 hS hP hls K
  exact lv_icmp_lt C.1 C.2.1 hdg ht (fun hc => kt r (by rw [if_pos hc] at hr; exact hr) C h1 h2 h3 h4 hS hP hls K) (fun hc => kf r (by rw [if_neg hc] at hr; exact hr) C h1 h2 h3 h4 hS hP hls K)
theorem g_if_lt {x : Int32} {off : Int} {tgt : Nat} {A B : Option α} (hdg : decode cc pc = .ok (.ifCond .lt off, 3)) (ht : (pc : Int) + off = (tgt : Int)) (kt : G γ own cc nL ret hh val d b tgt lv st h A) (kf : G γ own cc nL ret hh val d b (pc + 3) lv st h B) : G γ own cc nL ret hh val d b pc lv (.int x :: st) h (if x < 0 then A else B) := by
  intro r hr p l e R s m args below meth c H locs cells slots Q ls C h1 h2 h3 h4 hS hP hls K
  exact lv_if_lt C.1 C.2.1 hdg ht (fun hc => kt r (by rw [if_pos hc] at hr; exact hr) C h1 h2 h3 h4 hS hP hls K) (fun hc => kf r (by rw [if_neg hc] at hr; exact hr) C h1 h2 h3 h4 hS hP hls K)
theorem g_icmp_ge {x y : Int32} {off : Int} {tgt : Nat} {A B : Option α} (hdg : decode cc pc = .ok (.if_icmp .ge off, 3)) (ht : (pc : Int) + off = (tgt : Int)) (kt : G γ own cc nL ret hh val d b tgt lv st h A) (kf : G γ own cc nL ret hh val d b (pc + 3) lv st h B) : G γ own cc nL ret hh val d b pc lv (.int y :: .int x :: st) h (if y ≤ x then A else B) := by
  intro r hr p l e R s m args below meth c H locs cells slots Q ls C h1 h2 h3 h4 hS hP hls K
  exact lv_icmp_ge C.1 C.2.1 hdg ht (fun hc => kt r (by rw [if_pos hc] at hr; exact hr) C h1 h2 h3 h4 hS hP hls K) (fun hc => kf r (by rw [if_neg hc] at hr; exact hr) C h1 h2 h3 h4 hS hP hls K)
theorem g_if_ge {x : Int32} {off : Int} {tgt : Nat} {A B : Option α} (hdg : decode cc pc = .ok (.ifCond .ge off, 3)) (ht : (pc : Int) + off = (tgt : Int)) (kt : G γ own cc nL ret hh val d b tgt lv st h A) (kf : G γ own cc nL ret hh val d b (pc + 3) lv st h B) : G γ own cc nL ret hh val d b pc lv (.int x :: st) h (if 0 ≤ x then A else B) := by
  intro r hr p l e R s m args below meth c H locs cells slots Q ls C h1 h2 h3 h4 hS hP hls K
  exact lv_if_ge C.1 C.2.1 hdg ht (fun hc => kt r (by rw [if_pos hc] at hr; exact hr) C h1 h2 h3 h4 hS hP hls K) (fun hc => kf r (by rw [if_neg hc] at hr; exact hr) C h1 h2 h3 h4 hS hP hls K)
theorem g_icmp_gt {x y : Int32} {off : Int} {tgt : Nat} {A B : Option α} (hdg : decode cc pc = .ok (.if_icmp .gt off, 3)) (ht : (pc : Int) + off = (tgt : Int)) (kt : G γ own cc nL ret hh val d b tgt lv st h A) (kf : G γ own cc nL ret hh val d b (pc + 3) lv st h B) : G γ own cc nL ret hh val d b pc lv (.int y :: .int x :: st) h (if y < x then A else B) := by
  intro r hr p l e R s m args below meth c H locs cells slots Q ls C h1 h2 h3 h4 hS hP hls K
  exact lv_icmp_gt C.1 C.2.1 hdg ht (fun hc => kt r (by rw [if_pos hc] at hr; exact hr) C h1 h2 h3 h4 hS hP hls K) (fun hc => kf r (by rw [if_neg hc] at hr; exact hr) C h1 h2 h3 h4 hS hP hls K)
theorem g_if_gt {x : Int32} {off : Int} {tgt : Nat} {A B : Option α} (hdg : decode cc pc = .ok (.ifCond .gt off, 3)) (ht : (pc : Int) + off = (tgt : Int)) (kt : G γ own cc nL ret hh val d b tgt lv st h A) (kf : G γ own cc nL ret hh val d b (pc + 3) lv st h B) : G γ own cc nL ret hh val d b pc lv (.int x :: st) h (if 0 < x then A else B) := by
  intro r hr p l e R s m args below meth c H locs cells slots Q ls C h1 h2 h3 h4 hS hP hls K
  exact lv_if_gt C.1 C.2.1 hdg ht (fun hc => kt r (by rw [if_pos hc] at hr; exact hr) C h1 h2 h3 h4 hS hP hls K) (fun hc => kf r (by rw [if_neg hc] at hr; exact hr) C h1 h2 h3 h4 hS hP hls K)
theorem g_icmp_le {x y : Int32} {off : Int} {tgt : Nat} {A B : Option α} (hdg : decode cc pc = .ok (.if_icmp .le off, 3)) (ht : (pc : Int) + off = (tgt : Int)) (kt : G γ own cc nL ret hh val d b tgt lv st h A) (kf : G γ own cc nL ret hh val d b (pc + 3) lv st h B) : G γ own cc nL ret hh val d b pc lv (.int y :: .int x :: st) h (if x ≤ y then A else B) := by
  intro r hr p l e R s m args below meth c H locs cells slots Q ls C h1 h2 h3 h4 hS hP hls K
  exact lv_icmp_le C.1 C.2.1 hdg ht (fun hc => kt r (by rw [if_pos hc] at hr; exact hr) C h1 h2 h3 h4 hS hP hls K) (fun hc => kf r (by rw [if_neg hc] at hr; exact hr) C h1 h2 h3 h4 hS hP hls K)
theorem g_if_le {x : Int32} {off : Int} {tgt : Nat} {A B : Option α} (hdg : decode cc pc = .ok (.ifCond .le off, 3)) (ht : (pc : Int) + off = (tgt : Int)) (kt : G γ own cc nL ret hh val d b tgt lv st h A) (kf : G γ own cc nL ret hh val d b (pc + 3) lv st h B) : G γ own cc nL ret hh val d b pc lv (.int x :: st) h (if x ≤ 0 then A else B) := by
  intro r hr p l e R s m args below meth c H locs cells slots Q ls C h1 h2 h3 h4 hS hP hls K
  exact lv_if_le C.1 C.2.1 hdg ht (fun hc => kt r (by rw [if_pos hc] at hr; exact hr) C h1 h2 h3 h4 hS hP hls K) (fun hc => kf r (by rw [if_neg hc] at hr; exact hr) C h1 h2 h3 h4 hS hP hls K)
theorem g_goto {off : Int} {tgt : Nat} (hdg : decode cc pc = .ok (.goto off, 3)) (ht : (pc : Int) + off = (tgt : Int)) (k : G γ own cc nL ret hh val d b tgt lv st h res) : G γ own cc nL ret hh val d b pc lv st h res := by
  intro r hr p l e R s m args below meth c H locs cells slots Q ls C h1 h2 h3 h4 hS hP hls K
  exact lv_goto C.1 C.2.1 hdg ht (k r hr C h1 h2 h3 h4 hS hP hls K)
theorem g_ireturn {x : Int32} {z : α} {ty : FieldType} (hdg : decode cc pc = .ok (.ireturn, 1)) (hret : ret = some ty) (hn : narrow ty (.int x) = .int x) (hz : val z = .inl (some (.int x), h)) : G γ own cc nL ret hh val d b pc lv [.int x] h (some z) := by
  intro r hr p l e R s m args below meth c H locs cells slots Q ls C h1 h2 h3 h4 hS hP hls K
  cases hr
  rw [hz] at K
  exact K pc ls H locs cells slots (Or.inr (Or.inl ⟨x, ty, rfl, hret, hn, hdg⟩)) hS hP (by omega) (by omega)
theorem g_zreturn {x : Int32} {z : α} (hdg : decode cc pc = .ok (.ireturn, 1)) (hret : ret = some .boolean) (hz : val z = .inl (some (.int x), h)) : G γ own cc nL ret hh val d b pc lv [.int x] h (gzr x (some z)) := by
  intro r hr p l e R s m args below meth c H locs cells slots Q ls C h1 h2 h3 h4 hS hP hls K
  obtain ⟨hy, hr⟩ := gzr_in hr
  exact g_ireturn hdg hret (by show Value.int (x &&& 1) = _; rw [hy]) hz r hr C h1 h2 h3 h4 hS hP hls K
theorem g_return {z : α} (hdg : decode cc pc = .ok (.return_, 1)) (hret : ret = none) (hz : val z = .inl (none, h)) : G γ own cc nL ret hh val d b pc lv [] h (some z) := by
  intro r hr p l e R s m args below meth c H locs cells slots Q ls C h1 h2 h3 h4 hS hP hls K
  cases hr
  rw [hz] at K
  exact K pc ls H locs cells slots (Or.inl ⟨rfl, hret, hdg⟩) hS hP (by omega) (by omega)
end GG
