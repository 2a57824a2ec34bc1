set_option maxRecDepth 100000
set_option maxHeartbeats 4000000
/-! truth as an int; what a run comes to; cells of rows put one by one -/
noncomputable def br_b (p : Prop) : Int32 := @ite Int32 p (Classical.propDecidable p) (nI 1) (nI 0)
theorem br_b_T {p : Prop} (h : p) : br_b p = nI 1 := by unfold br_b; exact if_pos h
theorem br_b_F {p : Prop} (h : ¬ p) : br_b p = nI 0 := by unfold br_b; exact if_neg h
theorem br_10 : ¬ nI 1 = nI 0 := by decide +kernel
theorem br_b_0 {p : Prop} : br_b p = nI 0 ↔ ¬ p := by
  by_cases h : p
  · rw [br_b_T h]; exact ⟨fun z => absurd z br_10, fun z => absurd h z⟩
  · rw [br_b_F h]; exact ⟨fun _ => h, fun _ => rfl⟩
theorem br_b_1 {p : Prop} : br_b p = nI 1 ↔ p := by
  by_cases h : p
  · rw [br_b_T h]; exact ⟨fun _ => h, fun _ => rfl⟩
  · rw [br_b_F h]; exact ⟨fun z => absurd z.symm br_10, fun z => absurd z h⟩
theorem br_b_z {p : Prop} : br_b p = 0 ∨ br_b p = 1 := by
  by_cases h : p
  · exact Or.inr (br_b_T h)
  · exact Or.inl (br_b_F h)
theorem br_nar1 : vp_nar .boolean (nI 1) = nI 1 := by decide +kernel
theorem br_nar0 : vp_nar .boolean (nI 0) = nI 0 := by decide +kernel
theorem br_b_nar {p : Prop} : vp_nar .boolean (br_b p) = br_b p := by
  by_cases h : p
  · rw [br_b_T h]; exact br_nar1
  · rw [br_b_F h]; exact br_nar0
theorem br_b_c {p q : Prop} (h : p ↔ q) : br_b p = br_b q := by rw [propext h]
theorem br_01 {x : Int32} (h : x = nI 0 ∨ x = nI 1) : vp_nar .boolean x = x := by
  rcases h with rfl | rfl
  · exact br_nar0
  · exact br_nar1
theorem br_u_s {α : Type} {f : Nat → Nat → α} {a k : Nat} {x : α} : br_u f a k x a k = x := if_pos ⟨rfl, rfl⟩
theorem br_u_p {α : Type} {f : Nat → Nat → α} {a k p j : Nat} {x : α} (h : p ≠ a) : br_u f a k x p j = f p j := if_neg (fun z => h z.1)
theorem br_u_j {α : Type} {f : Nat → Nat → α} {a k p j : Nat} {x : α} (h : j ≠ k) : br_u f a k x p j = f p j := if_neg (fun z => h z.2)
theorem br_u_e {α : Type} {f : Nat → Nat → α} {a k p j : Nat} {x : α} (h : p = a) (h2 : j = k) : br_u f a k x p j = x := if_pos ⟨h, h2⟩
def br_v {α : Type} (f : Nat → α) (k : Nat) (x : α) : Nat → α := fun j => if j = k then x else f j
theorem br_v_s {α : Type} {f : Nat → α} {k : Nat} {x : α} : br_v f k x k = x := if_pos rfl
theorem br_v_j {α : Type} {f : Nat → α} {k j : Nat} {x : α} (h : j ≠ k) : br_v f k x j = f j := if_neg h
theorem br_u_v {α : Type} {f : Nat → Nat → α} {a k : Nat} {x : α} : br_u f a k x a = br_v (f a) k x := by
  funext j
  unfold br_u br_v
  by_cases h : j = k
  · rw [if_pos ⟨rfl, h⟩, if_pos h]
  · rw [if_neg (fun z => h z.2), if_neg h]
theorem br_u_q {α : Type} {f : Nat → Nat → α} {a k p : Nat} {x : α} (h : p ≠ a) : br_u f a k x p = f p := by
  funext j; exact br_u_p h
/-- the run of method j comes to the answer v and the world I1, L1 -/
def br_do (n d0 j : Nat) (as : br_V) (I : Nat → Nat → Int32) (L : Nat → Nat → Int64) (v : Option Value) (I1 : Nat → Nat → Int32) (L1 : Nat → Nat → Int64) : Prop :=
  ∀ (d : Nat) (Q : br_Q), Q v (br_hp n I1 L1) → br_r (d + d0) j 0 as [] (br_hp n I L) Q
/-- the bounds of an int -/
def br_wi (lo hi : Int) (x : Int32) : Prop := lo ≤ x.toInt ∧ x.toInt ≤ hi
theorem br_nT {k : Nat} (h : k < 2 ^ 31) : (nI k).toInt = (k : Int) := nI_toInt h
theorem br_negT {k : Nat} (h : k < 2 ^ 31) : (-(nI k)).toInt = -(k : Int) := by
  have h1 := nI_toInt h
  rw [Int32.toInt_neg, h1]
  rw [Int.bmod_eq_of_le (by omega) (by omega)]
theorem br_negC {k : Nat} (h : k < 2 ^ 31) (h0 : 0 < k) : (-(nI k)).toNatClampNeg = 0 := by
  have h1 := br_negT h
  show (-(nI k)).toInt.toNat = 0
  omega
theorem br_ltT {x y : Int32} : x < y ↔ x.toInt < y.toInt := Int32.lt_iff_toInt_lt
theorem br_leT {x y : Int32} : x ≤ y ↔ x.toInt ≤ y.toInt := Int32.le_iff_toInt_le
theorem br_eqT {x y : Int32} : x = y ↔ x.toInt = y.toInt := Int32.toInt_inj.symm
theorem br_clT {x : Int32} : x.toNatClampNeg = x.toInt.toNat := rfl
theorem br_inT {x : Int32} {n : Nat} : vp_in x n ↔ 0 ≤ x.toInt ∧ x.toInt < n := vp_in_iff
theorem br_loT (x : Int32) : -2147483648 ≤ x.toInt := Int32.le_toInt x
theorem br_hiT (x : Int32) : x.toInt < 2147483648 := Int32.toInt_lt x
theorem br_addT {x y : Int32} (h : -2147483648 ≤ x.toInt + y.toInt) (h2 : x.toInt + y.toInt < 2147483648) : (x + y).toInt = x.toInt + y.toInt := by
  rw [Int32.toInt_add, Int.bmod_eq_of_le (by omega) (by omega)]
theorem br_subT {x y : Int32} (h : -2147483648 ≤ x.toInt - y.toInt) (h2 : x.toInt - y.toInt < 2147483648) : (x - y).toInt = x.toInt - y.toInt := by
  rw [Int32.toInt_sub, Int.bmod_eq_of_le (by omega) (by omega)]
theorem br_mulT {x y : Int32} (h : -2147483648 ≤ x.toInt * y.toInt) (h2 : x.toInt * y.toInt < 2147483648) : (x * y).toInt = x.toInt * y.toInt := by
  rw [Int32.toInt_mul, Int.bmod_eq_of_le (by omega) (by omega)]
theorem br_nN {x : Int32} (h : 0 ≤ x.toInt) : ∃ k : Nat, x = nI k ∧ (k : Int) = x.toInt := by
  have h2 := br_hiT x
  refine ⟨x.toInt.toNat, Int32.toInt_inj.mp ?_, by omega⟩
  rw [nI_toInt (by omega)]
  omega
theorem br_of {x : Int32} {N : Nat} (h : vp_in x N) : ∃ k : Nat, k < N ∧ x = nI k := by
  obtain ⟨h1, h2⟩ := vp_in_iff.mp h
  obtain ⟨k, hk, e⟩ := br_nN h1
  exact ⟨k, by omega, hk⟩
theorem br_nin {x : Int32} {N : Nat} (h : ¬ vp_in x N) : ¬ (0 ≤ x.toInt ∧ x.toInt < N) := fun z => h (vp_in_iff.mpr z)
theorem br_lnegT {k : Nat} (h : k < 2 ^ 63) : (-(lN k)).toInt = -(k : Int) := by
  have h1 := pk_lT h
  rw [Int64.toInt_neg, h1]
  rw [Int.bmod_eq_of_le (by omega) (by omega)]
