set_option maxRecDepth 100000
set_option maxHeartbeats 4000000
/-! rules: a stack of truths, as bits and as a pile -/
def bu_v : List Bool → Nat
  | [] => 0
  | x :: s => 2 * bu_v s + x.toNat
theorem bu_v_lt : ∀ s : List Bool, bu_v s < 2 ^ s.length
  | [] => by decide
  | x :: s => by
    have h := bu_v_lt s
    have h2 : x.toNat ≤ 1 := Bool.toNat_le x
    show 2 * bu_v s + x.toNat < 2 ^ (s.length + 1)
    rw [Nat.pow_succ]; omega
theorem bu_v_31 {s : List Bool} (h : s.length ≤ 30) : bu_v s < 2 ^ 30 := Nat.lt_of_lt_of_le (bu_v_lt s) (Nat.pow_le_pow_right (by decide) h)
theorem bu_t0 (m : Nat) (b : Bool) : (2 * m + b.toNat).testBit 0 = b := by
  rw [Nat.testBit_zero]
  cases b
  · simp
  · simp
theorem bu_tS (m i : Nat) (b : Bool) : (2 * m + b.toNat).testBit (i + 1) = m.testBit i := by
  rw [Nat.testBit_add_one]
  congr 1
  have : b.toNat ≤ 1 := Bool.toNat_le b
  omega
theorem bu_1S (i : Nat) : Nat.testBit 1 (i + 1) = false := (bu_tS 0 i true).trans (Nat.zero_testBit i)
theorem bu_or (a b : Nat) : nI a ||| nI b = nI (a ||| b) := Int32.toBitVec_inj.mp BitVec.ofNat_or.symm
theorem bu_and (a b : Nat) : nI a &&& nI b = nI (a &&& b) := Int32.toBitVec_inj.mp BitVec.ofNat_and.symm
theorem bu_xor (a b : Nat) : nI a ^^^ nI b = nI (a ^^^ b) := Int32.toBitVec_inj.mp BitVec.ofNat_xor.symm
theorem bu_push {s : List Bool} (h : s.length ≤ 30) (b : Bool) : (nI (bu_v s) <<< (nI 1 &&& 31)) ||| nI b.toNat = nI (bu_v (b :: s)) := by
  have h1 := bu_v_31 h
  rw [pk_shlN (n := bu_v s) (nI 1 &&& 31) 1 (by decide +kernel) (by omega), bu_or]
  congr 1
  apply Nat.eq_of_testBit_eq
  intro i
  show (bu_v s * 2 ^ 1 ||| b.toNat).testBit i = (2 * bu_v s + b.toNat).testBit i
  rw [Nat.testBit_or]
  have e : bu_v s * 2 ^ 1 = 2 * bu_v s + (false).toNat := by simp [Nat.mul_comm]
  have e2 : b.toNat = 2 * 0 + b.toNat := by simp
  cases i with
  | zero =>
    rw [e, bu_t0, bu_t0]
    rw [e2, bu_t0]; simp
  | succ i =>
    rw [e, bu_tS, bu_tS]
    rw [e2, bu_tS]; simp
theorem bu_not (b : Bool) (s : List Bool) : nI (bu_v (b :: s)) ^^^ nI 1 = nI (bu_v ((!b) :: s)) := by
  rw [bu_xor]
  congr 1
  apply Nat.eq_of_testBit_eq
  intro i
  show ((2 * bu_v s + b.toNat) ^^^ 1).testBit i = (2 * bu_v s + (!b).toNat).testBit i
  rw [Nat.testBit_xor]
  have e2 : 1 = 2 * 0 + (true).toNat := rfl
  cases i with
  | zero => rw [bu_t0, bu_t0, e2, bu_t0]; cases b <;> rfl
  | succ i => rw [bu_tS, bu_tS, bu_1S]; simp
theorem bu_shr (b c : Bool) (m : Nat) : (2 * (2 * m + c.toNat) + b.toNat) / 2 ^ 1 = 2 * m + c.toNat ∧ (2 * (2 * m + c.toNat) + b.toNat) / 2 ^ 2 = m := by
  have h1 : b.toNat ≤ 1 := Bool.toNat_le b
  have h2 : c.toNat ≤ 1 := Bool.toNat_le c
  omega
theorem bu_two (op : Nat → Nat → Nat) (f : Bool → Bool → Bool) (hop : ∀ x y i, (op x y).testBit i = f (x.testBit i) (y.testBit i)) {b c : Bool} {s : List Bool} (h : (b :: c :: s).length ≤ 30) :
    ((((nI (bu_v (b :: c :: s))).toUInt32 >>> ((nI 2).toUInt32 &&& Int32.toUInt32 31)).toInt32) <<< (nI 1 &&& 31)) ||| (nI (op (bu_v (b :: c :: s)) (bu_v (b :: c :: s) / 2 ^ 1)) &&& nI 1) = nI (bu_v (f b c :: s)) := by
  have h1 := bu_v_31 h
  have e : bu_v (b :: c :: s) = 2 * (2 * bu_v s + c.toNat) + b.toNat := rfl
  obtain ⟨s1, s2⟩ := bu_shr b c (bu_v s)
  rw [e] at h1 ⊢
  rw [pk_ushrN (by omega) (nI 2) 2 (by decide +kernel), s1, s2, pk_shlN (n := bu_v s) (nI 1 &&& 31) 1 (by decide +kernel) (by omega), bu_and, bu_or]
  congr 1
  apply Nat.eq_of_testBit_eq
  intro i
  show (bu_v s * 2 ^ 1 ||| op (2 * (2 * bu_v s + c.toNat) + b.toNat) (2 * bu_v s + c.toNat) &&& 1).testBit i = (2 * bu_v s + (f b c).toNat).testBit i
  have e3 : bu_v s * 2 ^ 1 = 2 * bu_v s + (false).toNat := by simp [Nat.mul_comm]
  have e2 : 1 = 2 * 0 + (true).toNat := rfl
  rw [Nat.testBit_or, Nat.testBit_and, hop, e3]
  cases i with
  | zero =>
    rw [bu_t0, bu_t0, bu_t0, bu_t0]
    rw [e2, bu_t0]; simp
  | succ i =>
    rw [bu_tS (bu_v s) i (f b c), bu_tS (bu_v s) i false, bu_1S]; simp
theorem bu_top {b : Bool} {s : List Bool} : nI (bu_v (b :: s)) &&& nI 1 = nI b.toNat := by
  rw [bu_and]
  congr 1
  apply Nat.eq_of_testBit_eq
  intro i
  show ((2 * bu_v s + b.toNat) &&& 1).testBit i = b.toNat.testBit i
  have e2 : 1 = 2 * 0 + (true).toNat := rfl
  have e3 : b.toNat = 2 * 0 + b.toNat := by simp
  rw [Nat.testBit_and]
  cases i with
  | zero =>
    rw [bu_t0, e2, bu_t0]
    have : b.toNat.testBit 0 = b := by rw [e3, bu_t0]
    rw [this]; simp
  | succ i =>
    have := bu_1S i
    have h2 : b.toNat.testBit (i + 1) = false := by rw [e3, bu_tS]; simp
    rw [this, h2]; simp
def bu_st (F : Nat → Nat → Bool) (k v : Nat) (s : List Bool) : List Bool :=
  if k = 22 then (match s with
    | x :: t => (!x) :: t
    | [] => [])
  else if k = 21 then (match s with
    | x :: y :: t => (x && y) :: t
    | t => t)
  else if k = 20 then (match s with
    | x :: y :: t => (x || y) :: t
    | t => t)
  else F k v :: s
def bu_rn (F : Nat → Nat → Bool) (ops : Nat → Nat × Nat) : Nat → Nat → List Bool → List Bool
  | 0, _, s => s
  | m + 1, i, s => bu_rn F ops m (i + 1) (bu_st F (ops i).1 (ops i).2 s)
theorem bu_st_len {F : Nat → Nat → Bool} {k v a b : Nat} {s : List Bool} (h : br_hs k a b) (hs : s.length = a) : (bu_st F k v s).length = b := by
  unfold bu_st
  rcases h with ⟨rfl, h1, h2⟩ | ⟨h0, h1, h2⟩ | ⟨h0, h1⟩
  · rw [if_pos rfl]
    cases s with
    | nil => simp at hs; omega
    | cons x t => simp at hs ⊢; omega
  · match s, hs with
    | [], hs => simp at hs; omega
    | [_], hs => simp at hs; omega
    | x :: y :: t, hs =>
      simp only [List.length_cons] at hs
      rcases h0 with rfl | rfl
      · rw [if_neg (by decide), if_neg (by decide), if_pos rfl]; simp only [List.length_cons]; omega
      · rw [if_neg (by decide), if_pos rfl]; simp only [List.length_cons]; omega
  · rw [if_neg (by omega), if_neg (by omega), if_neg (by omega)]
    simp only [List.length_cons]; omega
/-- a fact -/
def bu_F (wd rm gr wk pt : Int32) (k v : Nat) : Bool :=
  if k = 23 then decide (nI 1 < wd) else if k = 24 then decide (rm = nI v) else if k = 25 then decide (gr = nI v) else if k = 11 then decide (nI v ≤ wk) else if k = 26 then decide (pt < nI v) else decide (nI v < pt)
/-- whether one of the rules from r on holds -/
def bu_any (F : Nat → Nat → Bool) (ops : Nat → Nat × Nat) (fr : Nat → Nat) : Nat → Nat → Bool
  | 0, _ => false
  | k + 1, r => (bu_rn F ops (fr (r + 1) - fr r) (fr r) [] == [true]) || bu_any F ops fr k (r + 1)
/-- the model's steps -/
def bu_ops (g : Nat → Int32) (i : Nat) : Nat × Nat := ((g (129 + 2 * i)).toNatClampNeg, (g (130 + 2 * i)).toNatClampNeg)
