set_option maxRecDepth 100000
set_option maxHeartbeats 4000000
/-! rows of cells put one behind the other -/
def br_row {α : Type} (f : Nat → Nat → α) (p b : Nat) (F : Nat → α) (m : Nat) : Nat → Nat → α := fun q j => if q = p ∧ (b ≤ j ∧ j < b + m) then F (j - b) else f q j
def br_rov {α : Type} (g : Nat → α) (b : Nat) (F : Nat → α) (m : Nat) : Nat → α := fun j => if b ≤ j ∧ j < b + m then F (j - b) else g j
theorem br_row_0 {α : Type} {f : Nat → Nat → α} {p b : Nat} {F : Nat → α} : br_row f p b F 0 = f := by
  funext q j
  exact if_neg (by omega)
theorem br_row_s {α : Type} {f : Nat → Nat → α} {p b : Nat} {F : Nat → α} {m : Nat} : br_row f p b F (m + 1) = br_u (br_row f p b F m) p (b + m) (F m) := by
  funext q j
  unfold br_row br_u
  dsimp only
  by_cases h : q = p ∧ j = b + m
  · rw [if_pos h, if_pos (by omega)]
    congr 1; omega
  · rw [if_neg h]
    by_cases h2 : q = p ∧ (b ≤ j ∧ j < b + m)
    · rw [if_pos h2, if_pos (by omega)]
    · rw [if_neg h2, if_neg (by omega)]
theorem br_rov_0 {α : Type} {g : Nat → α} {b : Nat} {F : Nat → α} : br_rov g b F 0 = g := by
  funext j
  exact if_neg (by omega)
theorem br_rov_s {α : Type} {g : Nat → α} {b : Nat} {F : Nat → α} {m : Nat} : br_rov g b F (m + 1) = br_v (br_rov g b F m) (b + m) (F m) := by
  funext j
  unfold br_rov br_v
  dsimp only
  by_cases h : j = b + m
  · rw [if_pos h, if_pos (by omega)]
    congr 1; omega
  · rw [if_neg h]
    by_cases h2 : b ≤ j ∧ j < b + m
    · rw [if_pos h2, if_pos (by omega)]
    · rw [if_neg h2, if_neg (by omega)]
theorem br_row_v {α : Type} {f : Nat → Nat → α} {p b : Nat} {F : Nat → α} {m : Nat} : br_row f p b F m p = br_rov (f p) b F m := by
  funext j
  unfold br_row br_rov
  by_cases h : b ≤ j ∧ j < b + m
  · rw [if_pos ⟨rfl, h⟩, if_pos h]
  · rw [if_neg (fun z => h z.2), if_neg h]
theorem br_row_q {α : Type} {f : Nat → Nat → α} {p b q : Nat} {F : Nat → α} {m : Nat} (h : q ≠ p) : br_row f p b F m q = f q := by
  funext j
  exact if_neg (fun z => h z.1)
theorem br_row_n {α : Type} {f : Nat → Nat → α} {p b q j : Nat} {F : Nat → α} {m : Nat} (h : ¬ (q = p ∧ b ≤ j ∧ j < b + m)) : br_row f p b F m q j = f q j := if_neg h
theorem br_row_i {α : Type} {f : Nat → Nat → α} {p b j : Nat} {F : Nat → α} {m : Nat} (h : j < m) : br_row f p b F m p (b + j) = F j := by
  unfold br_row
  rw [if_pos (by omega)]
  congr 1; omega
theorem br_rov_n {α : Type} {g : Nat → α} {b j : Nat} {F : Nat → α} {m : Nat} (h : ¬ (b ≤ j ∧ j < b + m)) : br_rov g b F m j = g j := if_neg h
theorem br_rov_i {α : Type} {g : Nat → α} {b j : Nat} {F : Nat → α} {m : Nat} (h : j < m) : br_rov g b F m (b + j) = F j := by
  unfold br_rov
  rw [if_pos (by omega)]
  congr 1; omega
theorem br_cel_p {w o : Nat} {f : Nat → Nat → Int32} {g : Nat → Int32} (h : br_cel w o f g) (r : br_Rw) (hr : r ∈ br_rows) (i : Nat) (hi : i < r.2.2.1) {x : Int32} (hlo : r.2.2.2.2.1 ≤ x.toInt) (hhi : x.toInt ≤ r.2.2.2.2.2) {p j k : Nat} (hp : p = w + r.1) (hj : j = r.2.1 + i) (hk : k = o + (r.2.2.2.1 + i)) :
    br_cel w o (br_u f p j x) (br_v g k x) := by subst hp hj hk; exact br_cel_put h hr hi hlo hhi
/-- a row of cells in both -/
theorem br_cel_r {w o : Nat} {f : Nat → Nat → Int32} {g : Nat → Int32} (h : br_cel w o f g) (r : br_Rw) (hr : r ∈ br_rows) {F : Nat → Int32} {p b k : Nat} (hp : p = w + r.1) (hb : b = r.2.1) (hk : k = o + r.2.2.2.1) :
    ∀ m : Nat, m ≤ r.2.2.1 → (∀ i, i < m → r.2.2.2.2.1 ≤ (F i).toInt ∧ (F i).toInt ≤ r.2.2.2.2.2) → br_cel w o (br_row f p b F m) (br_rov g k F m)
  | 0, _, _ => by rw [br_row_0, br_rov_0]; exact h
  | m + 1, hm, hF => by
    rw [br_row_s, br_rov_s]
    exact br_cel_p (br_cel_r h r hr hp hb hk m (by omega) (fun i hi => hF i (by omega))) r hr m (by omega) (hF m (by omega)).1 (hF m (by omega)).2 hp (by omega) (by omega)
