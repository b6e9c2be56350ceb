-- reading slips: the machine
/-- stage, number, slips read, grower, variety, kilos, acidity; the slips that are complete -/
abbrev PS := Nat × Option Nat × Nat × Nat × Nat × Nat × Nat × (Nat → Nat → Nat)
def lsQ (q : Nat) : Nat := if q = 2 then 1 else if q = 3 then 0 else 500
def msQ (q : Nat) : Nat := if q = 2 then 2000 else if q = 3 then 50 else 1500
def okS (v ls ms : Nat) : Bool := decide ((v ≤ ms ∧ ls ≤ v) ∨ (v ≠ 0 ∧ ((v * 10 ≤ ms ∧ ls ≤ v * 10 + 9) ∨ (v * 100 ≤ ms ∧ ls ≤ v * 100 + 99) ∨ (v * 1000 ≤ ms ∧ ls ≤ v * 1000 + 999))))
theorem okS_iff {v ls ms : Nat} : okS v ls ms = true ↔ ((v ≤ ms ∧ ls ≤ v) ∨ (v ≠ 0 ∧ ((v * 10 ≤ ms ∧ ls ≤ v * 10 + 9) ∨ (v * 100 ≤ ms ∧ ls ≤ v * 100 + 99) ∨ (v * 1000 ≤ ms ∧ ls ≤ v * 1000 + 999)))) := by
  unfold okS
  exact decide_eq_true_iff
def slF (q n g v w a c : Nat) : Nat := if c = 0 then g else if c = 1 then v else if c = 2 then w else if c = 3 then (if q = 3 then n else a) else (if q = 3 then 1000 else n)
def finP (n : Nat) : PS → PS
  | (q, _, k, g, v, w, a, F) => (0, none, k + 1, g, v, w, a, fun j c => if j = k then slF q n g v w a c else F j c)
def nxV (o : Option Nat) (x : Nat) : Nat := o.getD 0 * 10 + (x - 48)
def stpN (x : Nat) : PS → Option PS
  | (q, o, k, g, v, w, a, F) => if o = some 0 then none else if okS (nxV o x) (lsQ q) (msQ q) = true then some (q, some (nxV o x), k, g, v, w, a, F) else none
def stpS (x : Nat) : PS → Option PS
  | (_, none, _, _, _, _, _, _) => none
  | (q, some n, k, g, v, w, a, F) =>
    if q = 2 then (if x = 47 then some (3, none, k, g, v, n, a, F) else none)
    else if q = 3 then (if x = 42 then some (4, none, k, g, v, w, n, F) else if x = 59 then some (finP n (q, some n, k, g, v, w, a, F)) else none)
    else if n < 500 then none else if x = 59 then some (finP n (q, some n, k, g, v, w, a, F)) else none
def stp (x : Nat) : PS → Option PS
  | (q, o, k, g, v, w, a, F) =>
    if q = 0 then (if 48 ≤ x ∧ x ≤ 55 then some (1, none, k, x - 48, v, w, a, F) else none)
    else if q = 1 then (if 97 ≤ x ∧ x ≤ 101 then some (2, none, k, g, x - 97, w, a, F) else none)
    else if 48 ≤ x ∧ x ≤ 57 then stpN x (q, o, k, g, v, w, a, F) else stpS x (q, o, k, g, v, w, a, F)
theorem stp_eq (x q : Nat) (o : Option Nat) (k g v w a : Nat) (F : Nat → Nat → Nat) : stp x (q, o, k, g, v, w, a, F) =
    if q = 0 then (if 48 ≤ x ∧ x ≤ 55 then some (1, none, k, x - 48, v, w, a, F) else none)
    else if q = 1 then (if 97 ≤ x ∧ x ≤ 101 then some (2, none, k, g, x - 97, w, a, F) else none)
    else if 48 ≤ x ∧ x ≤ 57 then stpN x (q, o, k, g, v, w, a, F) else stpS x (q, o, k, g, v, w, a, F) := rfl
theorem stpN_eq (x q : Nat) (o : Option Nat) (k g v w a : Nat) (F : Nat → Nat → Nat) : stpN x (q, o, k, g, v, w, a, F) =
    if o = some 0 then none else if okS (nxV o x) (lsQ q) (msQ q) = true then some (q, some (nxV o x), k, g, v, w, a, F) else none := rfl
theorem stpS_no (x q k g v w a : Nat) (F : Nat → Nat → Nat) : stpS x (q, none, k, g, v, w, a, F) = none := rfl
theorem stpS_eq (x q n k g v w a : Nat) (F : Nat → Nat → Nat) : stpS x (q, some n, k, g, v, w, a, F) =
    if q = 2 then (if x = 47 then some (3, none, k, g, v, n, a, F) else none)
    else if q = 3 then (if x = 42 then some (4, none, k, g, v, w, n, F) else if x = 59 then some (finP n (q, some n, k, g, v, w, a, F)) else none)
    else if n < 500 then none else if x = 59 then some (finP n (q, some n, k, g, v, w, a, F)) else none := rfl
def wgt (q : Nat) (o : Option Nat) : Nat := if q ≤ 1 then q else 2 * q - 2 + (if o = none then 0 else 1)
/-- what holds behind i characters -/
def InvP (i : Nat) : PS → Prop
  | (q, o, k, g, v, w, a, _) => q ≤ 4 ∧ 6 * k + wgt q o ≤ i ∧ (1 ≤ q → g < 8) ∧ (2 ≤ q → v < 5) ∧ (3 ≤ q → w ≤ 2000 ∧ 1 ≤ w) ∧ (q = 4 → a ≤ 50) ∧ (q ≤ 1 → o = none) ∧ ∀ n, o = some n → (q = 2 → 1 ≤ n ∧ n ≤ 2000) ∧ (q = 3 → n ≤ 50) ∧ (q = 4 → n ≤ 1500)
def RdC (h : Hst) : PS → Prop
  | (q, o, _, g, v, w, a, _) => h.1 15 0 = nI q ∧ (1 ≤ q → h.1 15 5 = nI g) ∧ (2 ≤ q → h.1 15 6 = nI v ∧ h.1 15 1 = nI (lsQ q) ∧ h.1 15 2 = nI (msQ q) ∧ h.1 15 3 = nI (o.getD 0) ∧ h.1 15 4 = (if o = none then 0 else 1)) ∧ (3 ≤ q → h.1 15 7 = nI w) ∧ (q = 4 → h.1 15 8 = nI a)
def numM : Option Nat → Int32
  | none => -1
  | some n => nI n
def RdM (h : Hst) : PS → Prop
  | (q, o, k, g, v, w, a, F) => h.1 17 21 = nI q ∧ h.1 17 20 = numM o ∧ h.1 17 19 = nI k ∧ (1 ≤ q → h.1 24 (5 * k) = nI g ∧ h.1 24 (5 * k + 4) = 1000) ∧ (2 ≤ q → h.1 24 (5 * k + 1) = nI v) ∧ (3 ≤ q → h.1 24 (5 * k + 2) = nI w) ∧ (q = 4 → h.1 24 (5 * k + 3) = nI a) ∧ ∀ j c, j < k → c < 5 → h.1 24 (5 * j + c) = nI (F j c)
theorem okS_range {q v : Nat} (h2 : 2 ≤ q) (h4 : q ≤ 4) (h : okS v (lsQ q) (msQ q) = true) : (q = 2 → 1 ≤ v ∧ v ≤ 2000) ∧ (q = 3 → v ≤ 50) ∧ (q = 4 → v ≤ 1500) := by
  rw [okS_iff] at h
  have : q = 2 ∨ q = 3 ∨ q = 4 := by omega
  rcases this with rfl | rfl | rfl
  · change ((v ≤ 2000 ∧ 1 ≤ v) ∨ (v ≠ 0 ∧ ((v * 10 ≤ 2000 ∧ 1 ≤ v * 10 + 9) ∨ (v * 100 ≤ 2000 ∧ 1 ≤ v * 100 + 99) ∨ (v * 1000 ≤ 2000 ∧ 1 ≤ v * 1000 + 999)))) at h
    omega
  · change ((v ≤ 50 ∧ 0 ≤ v) ∨ (v ≠ 0 ∧ ((v * 10 ≤ 50 ∧ 0 ≤ v * 10 + 9) ∨ (v * 100 ≤ 50 ∧ 0 ≤ v * 100 + 99) ∨ (v * 1000 ≤ 50 ∧ 0 ≤ v * 1000 + 999)))) at h
    omega
  · change ((v ≤ 1500 ∧ 500 ≤ v) ∨ (v ≠ 0 ∧ ((v * 10 ≤ 1500 ∧ 500 ≤ v * 10 + 9) ∨ (v * 100 ≤ 1500 ∧ 500 ≤ v * 100 + 99) ∨ (v * 1000 ≤ 1500 ∧ 500 ≤ v * 1000 + 999)))) at h
    omega
theorem getD_le {q : Nat} {o : Option Nat} (h2 : 2 ≤ q) (h4 : q ≤ 4) (h : ∀ n, o = some n → (q = 2 → 1 ≤ n ∧ n ≤ 2000) ∧ (q = 3 → n ≤ 50) ∧ (q = 4 → n ≤ 1500)) : o.getD 0 ≤ 2000 := by
  cases o with
  | none => exact Nat.zero_le _
  | some n =>
    have := h n rfl
    show n ≤ 2000
    omega
/-- a step keeps the invariant -/
theorem stp_inv {i x : Nat} {p p' : PS} (V : InvP i p) (e : stp x p = some p') : InvP (i + 1) p' := by
  obtain ⟨q, o, k, g, v, w, a, F⟩ := p
  obtain ⟨h4, hw, hg, hv, hk, ha, ho, hn⟩ := V
  rw [stp_eq] at e
  by_cases q0 : q = 0
  · rw [if_pos q0] at e
    by_cases c : 48 ≤ x ∧ x ≤ 55
    · rw [if_pos c] at e
      cases e
      subst q0
      rw [ho (by omega)] at hw
      change 6 * k + 0 ≤ i at hw
      exact ⟨by omega, by show 6 * k + 1 ≤ i + 1; omega, fun _ => by omega, fun z => by omega, fun z => by omega, fun z => by omega, fun _ => rfl, fun n z => nomatch z⟩
    · rw [if_neg c] at e
      cases e
  · rw [if_neg q0] at e
    by_cases q1 : q = 1
    · rw [if_pos q1] at e
      by_cases c : 97 ≤ x ∧ x ≤ 101
      · rw [if_pos c] at e
        cases e
        subst q1
        rw [ho (by omega)] at hw
        change 6 * k + 1 ≤ i at hw
        exact ⟨by omega, by show 6 * k + 2 ≤ i + 1; omega, fun _ => hg (by omega), fun _ => by omega, fun z => by omega, fun z => by omega, fun z => by omega, fun n z => nomatch z⟩
      · rw [if_neg c] at e
        cases e
    · rw [if_neg q1] at e
      have q2 : 2 ≤ q := by omega
      by_cases c : 48 ≤ x ∧ x ≤ 57
      · rw [if_pos c] at e
        rw [stpN_eq] at e
        by_cases z : o = some 0
        · rw [if_pos z] at e; cases e
        · rw [if_neg z] at e
          by_cases ok : okS (nxV o x) (lsQ q) (msQ q) = true
          · rw [if_pos ok] at e
            cases e
            have r := okS_range q2 h4 ok
            refine ⟨h4, ?_, hg, hv, hk, ha, fun z => by omega, fun n z => by cases z; exact r⟩
            unfold wgt at hw ⊢
            rw [if_neg (by omega)] at hw ⊢
            rw [if_neg (fun z => nomatch z)]
            split at hw <;> omega
          · rw [if_neg ok] at e; cases e
      · rw [if_neg c] at e
        cases o with
        | none => rw [stpS_no] at e; cases e
        | some n =>
          rw [stpS_eq] at e
          unfold wgt at hw
          rw [if_neg (by omega), if_neg (fun z => nomatch z)] at hw
          have hn' := hn n rfl
          by_cases q2' : q = 2
          · rw [if_pos q2'] at e
            by_cases x47 : x = 47
            · rw [if_pos x47] at e
              cases e
              refine ⟨by omega, by show 6 * k + (2 * 3 - 2 + 0) ≤ i + 1; omega, fun _ => hg (by omega), fun _ => hv (by omega), fun _ => by omega, fun z => by omega, fun z => by omega, fun n z => nomatch z⟩
            · rw [if_neg x47] at e; cases e
          · rw [if_neg q2'] at e
            by_cases q3 : q = 3
            · rw [if_pos q3] at e
              by_cases x42 : x = 42
              · rw [if_pos x42] at e
                cases e
                exact ⟨by omega, by show 6 * k + (2 * 4 - 2 + 0) ≤ i + 1; omega, fun _ => hg (by omega), fun _ => hv (by omega), fun _ => hk (by omega), fun _ => by omega, fun z => by omega, fun n z => nomatch z⟩
              · rw [if_neg x42] at e
                by_cases x59 : x = 59
                · rw [if_pos x59] at e
                  cases e
                  exact ⟨by omega, by show 6 * (k + 1) + 0 ≤ i + 1; omega, fun z => absurd z (by decide), fun z => absurd z (by decide), fun z => absurd z (by decide), fun z => absurd z (by decide), fun _ => rfl, fun n z => nomatch z⟩
                · rw [if_neg x59] at e; cases e
            · rw [if_neg q3] at e
              by_cases n5 : n < 500
              · rw [if_pos n5] at e; cases e
              · rw [if_neg n5] at e
                by_cases x59 : x = 59
                · rw [if_pos x59] at e
                  cases e
                  exact ⟨by omega, by show 6 * (k + 1) + 0 ≤ i + 1; omega, fun z => absurd z (by decide), fun z => absurd z (by decide), fun z => absurd z (by decide), fun z => absurd z (by decide), fun _ => rfl, fun n z => nomatch z⟩
                · rw [if_neg x59] at e; cases e
