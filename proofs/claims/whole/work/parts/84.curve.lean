set_option maxRecDepth 100000
set_option maxHeartbeats 4000000
/-! slopes -/
theorem cs_q {W A D w x y : Int} (h : 0 ≤ D - 2 * A * y + W * (y * y)) (hw : 0 ≤ w) : 0 ≤ (D + w * x * x) - 2 * (A + w * x) * y + (W + w) * (y * y) := by
  have h1 : 0 ≤ (x - y) * (x - y) := by
    rcases Int.le_total 0 (x - y) with h | h
    · exact Int.mul_nonneg h h
    · exact Int.mul_nonneg_of_nonpos_of_nonpos h h
  have h2 := Int.mul_nonneg hw h1
  have e : (D + w * x * x) - 2 * (A + w * x) * y + (W + w) * (y * y) = (D - 2 * A * y + W * (y * y)) + w * ((x - y) * (x - y)) := by grind
  rw [e]; omega
theorem cs_d {W A D w x : Int} (h : 0 ≤ W * D - A * A) (hw : 0 ≤ w) (hq : 0 ≤ D - 2 * A * x + W * (x * x)) : 0 ≤ (W + w) * (D + w * x * x) - (A + w * x) * (A + w * x) := by
  have h2 := Int.mul_nonneg hw hq
  have e : (W + w) * (D + w * x * x) - (A + w * x) * (A + w * x) = (W * D - A * A) + w * (D - 2 * A * x + W * (x * x)) := by grind
  rw [e]; omega
def bc_Z (P : Nat → Bool) (f : Nat → Int) : Nat → Int
  | 0 => 0
  | k + 1 => if P k = true then bc_Z P f k + f k else bc_Z P f k
theorem bc_Z_T {P : Nat → Bool} {f : Nat → Int} {k : Nat} (h : P k = true) : bc_Z P f (k + 1) = bc_Z P f k + f k := if_pos h
theorem bc_Z_F {P : Nat → Bool} {f : Nat → Int} {k : Nat} (h : ¬ P k = true) : bc_Z P f (k + 1) = bc_Z P f k := if_neg h
def bc_S (P : Nat → Bool) (f : Nat → Int64) : Nat → Int64
  | 0 => lN 0
  | k + 1 => if P k = true then bc_S P f k + f k else bc_S P f k
theorem bc_S_T {P : Nat → Bool} {f : Nat → Int64} {k : Nat} (h : P k = true) : bc_S P f (k + 1) = bc_S P f k + f k := if_pos h
theorem bc_S_F {P : Nat → Bool} {f : Nat → Int64} {k : Nat} (h : ¬ P k = true) : bc_S P f (k + 1) = bc_S P f k := if_neg h
theorem bc_Z_b {P : Nat → Bool} {f : Nat → Int} {M : Nat} : ∀ k, (∀ t, t < k → (f t).natAbs ≤ M) → (bc_Z P f k).natAbs ≤ k * M
  | 0, _ => by show (0 : Int).natAbs ≤ _; exact Nat.zero_le _
  | k + 1, h => by
    have ih := bc_Z_b (P := P) k (fun t ht => h t (by omega))
    have hk := h k (by omega)
    rw [Nat.succ_mul]
    by_cases hp : P k = true
    · rw [bc_Z_T hp]; omega
    · rw [bc_Z_F hp]; omega
theorem bc_S_t {P : Nat → Bool} {f : Nat → Int64} {F : Nat → Int} {M : Nat} (hM : M ≤ 1000000000000) : ∀ k, k ≤ 20 → (∀ t, t < k → (f t).toInt = F t ∧ (F t).natAbs ≤ M) → (bc_S P f k).toInt = bc_Z P F k
  | 0, _, _ => pk_lT (by omega)
  | k + 1, hk, h => by
    have ih := bc_S_t (P := P) hM k (by omega) (fun t ht => h t (by omega))
    obtain ⟨h1, h2⟩ := h k (by omega)
    have hb := bc_Z_b (P := P) (f := F) (M := M) k (fun t ht => (h t (by omega)).2)
    have hm : k * M ≤ 20 * M := Nat.mul_le_mul_right _ (by omega)
    by_cases hp : P k = true
    · rw [bc_S_T hp, bc_Z_T hp, br_laddT (by rw [ih, h1]; omega) (by rw [ih, h1]; omega), ih, h1]
    · rw [bc_S_F hp, bc_Z_F hp, ih]
theorem bc_q {P : Nat → Bool} {w x : Nat → Int} {y : Int} : ∀ k, (∀ t, t < k → 0 ≤ w t) → 0 ≤ bc_Z P (fun t => w t * x t * x t) k - 2 * bc_Z P (fun t => w t * x t) k * y + bc_Z P w k * (y * y)
  | 0, _ => by show (0 : Int) ≤ 0 - 2 * 0 * y + 0 * (y * y); rw [Int.mul_zero, Int.zero_mul, Int.zero_mul]; decide
  | k + 1, h => by
    have ih := bc_q (P := P) (x := x) (y := y) k (fun t ht => h t (by omega))
    by_cases hp : P k = true
    · rw [bc_Z_T hp, bc_Z_T hp, bc_Z_T hp]; exact cs_q ih (h k (by omega))
    · rw [bc_Z_F hp, bc_Z_F hp, bc_Z_F hp]; exact ih
theorem bc_d {P : Nat → Bool} {w x : Nat → Int} : ∀ k, (∀ t, t < k → 0 ≤ w t) → 0 ≤ bc_Z P w k * bc_Z P (fun t => w t * x t * x t) k - bc_Z P (fun t => w t * x t) k * bc_Z P (fun t => w t * x t) k
  | 0, _ => by show (0 : Int) ≤ 0 * 0 - 0 * 0; decide
  | k + 1, h => by
    have ih := bc_d (P := P) (x := x) k (fun t ht => h t (by omega))
    by_cases hp : P k = true
    · rw [bc_Z_T hp, bc_Z_T hp, bc_Z_T hp]; exact cs_d ih (h k (by omega)) (bc_q k (fun t ht => h t (by omega)))
    · rw [bc_Z_F hp, bc_Z_F hp, bc_Z_F hp]; exact ih
def bc_P (g : Nat → Int32) (pr ex : Int32) (t : Nat) : Bool := !decide (nI t = ex) && (decide (pr = nI 0) || !decide (g (1369 + t) = nI 0))
def bc_w (g : Nat → Int32) (t : Nat) : Int64 := (g (1349 + t)).toInt64
def bc_a (g : Nat → Int32) (t : Nat) : Int64 := (g (1349 + t)).toInt64 * (g (1309 + t)).toInt64
def bc_b (g : Nat → Int32) (t : Nat) : Int64 := (g (1349 + t)).toInt64 * (g (1329 + t)).toInt64
def bc_c (g : Nat → Int32) (t : Nat) : Int64 := (g (1349 + t)).toInt64 * (g (1309 + t)).toInt64 * (g (1329 + t)).toInt64
def bc_e (g : Nat → Int32) (t : Nat) : Int64 := (g (1349 + t)).toInt64 * (g (1309 + t)).toInt64 * (g (1309 + t)).toInt64
def bc_u (g : Nat → Int32) (pr ex : Int32) (T : Nat) : Int64 := bc_S (bc_P g pr ex) (bc_w g) T * bc_S (bc_P g pr ex) (bc_c g) T - bc_S (bc_P g pr ex) (bc_a g) T * bc_S (bc_P g pr ex) (bc_b g) T
def bc_l (g : Nat → Int32) (pr ex : Int32) (T : Nat) : Int64 := bc_S (bc_P g pr ex) (bc_w g) T * bc_S (bc_P g pr ex) (bc_e g) T - bc_S (bc_P g pr ex) (bc_a g) T * bc_S (bc_P g pr ex) (bc_a g) T
theorem bc_mulB {a b : Int} {A B : Nat} (h : a.natAbs ≤ A) (h2 : b.natAbs ≤ B) : (a * b).natAbs ≤ A * B := by
  rw [Int.natAbs_mul]; exact Nat.mul_le_mul h h2
theorem bc_ul {f : Nat → Nat → Int32} {g : Nat → Int32} (hW : br_cel 9 0 f g) {pr ex : Int32} {T : Nat} (hT : T ≤ 20) : (bc_u g pr ex T).toInt.natAbs ≤ 4000000000000000 ∧ 0 ≤ (bc_l g pr ex T).toInt ∧ (bc_l g pr ex T).toInt ≤ 4000000000000000 := by
  have bw : ∀ t, t < 20 → 0 ≤ (g (1349 + t)).toInt ∧ (g (1349 + t)).toInt.natAbs ≤ 999 := fun t ht => by
    have := bb_wsize hW (j := t) ht; rw [Nat.zero_add] at this; omega
  have bx : ∀ t, t < 20 → (g (1309 + t)).toInt.natAbs ≤ 20 := fun t ht => by
    have := bb_wweeks hW (j := t) ht; rw [Nat.zero_add] at this; omega
  have by_ : ∀ t, t < 20 → (g (1329 + t)).toInt.natAbs ≤ 999 := fun t ht => by
    have := bb_weff hW (j := t) ht; rw [Nat.zero_add] at this; omega
  have ta : ∀ t, t < 20 → (bc_a g t).toInt = (g (1349 + t)).toInt * (g (1309 + t)).toInt ∧ ((g (1349 + t)).toInt * (g (1309 + t)).toInt).natAbs ≤ 19980 := fun t ht => by
    have h := bc_mulB (bw t ht).2 (bx t ht)
    unfold bc_a
    rw [br_lmulT (by rw [Int32.toInt_toInt64, Int32.toInt_toInt64]; omega) (by rw [Int32.toInt_toInt64, Int32.toInt_toInt64]; omega), Int32.toInt_toInt64, Int32.toInt_toInt64]
    exact ⟨rfl, h⟩
  have tb : ∀ t, t < 20 → (bc_b g t).toInt = (g (1349 + t)).toInt * (g (1329 + t)).toInt ∧ ((g (1349 + t)).toInt * (g (1329 + t)).toInt).natAbs ≤ 998001 := fun t ht => by
    have h := bc_mulB (bw t ht).2 (by_ t ht)
    unfold bc_b
    rw [br_lmulT (by rw [Int32.toInt_toInt64, Int32.toInt_toInt64]; omega) (by rw [Int32.toInt_toInt64, Int32.toInt_toInt64]; omega), Int32.toInt_toInt64, Int32.toInt_toInt64]
    exact ⟨rfl, h⟩
  have tc : ∀ t, t < 20 → (bc_c g t).toInt = (g (1349 + t)).toInt * (g (1309 + t)).toInt * (g (1329 + t)).toInt ∧ ((g (1349 + t)).toInt * (g (1309 + t)).toInt * (g (1329 + t)).toInt).natAbs ≤ 19960020 := fun t ht => by
    have h := bc_mulB (ta t ht).2 (by_ t ht)
    have e : bc_c g t = bc_a g t * (g (1329 + t)).toInt64 := rfl
    rw [e, br_lmulT (by rw [(ta t ht).1, Int32.toInt_toInt64]; omega) (by rw [(ta t ht).1, Int32.toInt_toInt64]; omega), (ta t ht).1, Int32.toInt_toInt64]
    exact ⟨rfl, h⟩
  have te : ∀ t, t < 20 → (bc_e g t).toInt = (g (1349 + t)).toInt * (g (1309 + t)).toInt * (g (1309 + t)).toInt ∧ ((g (1349 + t)).toInt * (g (1309 + t)).toInt * (g (1309 + t)).toInt).natAbs ≤ 399600 := fun t ht => by
    have h := bc_mulB (ta t ht).2 (bx t ht)
    have e : bc_e g t = bc_a g t * (g (1309 + t)).toInt64 := rfl
    rw [e, br_lmulT (by rw [(ta t ht).1, Int32.toInt_toInt64]; omega) (by rw [(ta t ht).1, Int32.toInt_toInt64]; omega), (ta t ht).1, Int32.toInt_toInt64]
    exact ⟨rfl, h⟩
  have tw : ∀ t, t < 20 → (bc_w g t).toInt = (g (1349 + t)).toInt ∧ ((g (1349 + t)).toInt).natAbs ≤ 999 := fun t ht => ⟨Int32.toInt_toInt64 _, (bw t ht).2⟩
  unfold bc_u bc_l
  generalize bc_P g pr ex = P
  have hk : ∀ M : Nat, T * M ≤ 20 * M := fun M => Nat.mul_le_mul_right _ hT
  have sw := bc_S_t (P := P) (M := 999) (by omega) T hT (fun t ht => tw t (by omega))
  have sa := bc_S_t (P := P) (M := 19980) (by omega) T hT (fun t ht => ta t (by omega))
  have sb := bc_S_t (P := P) (M := 998001) (by omega) T hT (fun t ht => tb t (by omega))
  have sc := bc_S_t (P := P) (M := 19960020) (by omega) T hT (fun t ht => tc t (by omega))
  have se := bc_S_t (P := P) (M := 399600) (by omega) T hT (fun t ht => te t (by omega))
  have zw := Nat.le_trans (bc_Z_b (P := P) T (fun t ht => (tw t (by omega)).2)) (hk _)
  have za := Nat.le_trans (bc_Z_b (P := P) T (fun t ht => (ta t (by omega)).2)) (hk _)
  have zb := Nat.le_trans (bc_Z_b (P := P) T (fun t ht => (tb t (by omega)).2)) (hk _)
  have zc := Nat.le_trans (bc_Z_b (P := P) T (fun t ht => (tc t (by omega)).2)) (hk _)
  have ze := Nat.le_trans (bc_Z_b (P := P) T (fun t ht => (te t (by omega)).2)) (hk _)
  have cd := bc_d (P := P) (w := fun t => (g (1349 + t)).toInt) (x := fun t => (g (1309 + t)).toInt) T (fun t ht => (bw t (by omega)).1)
  have p1 := bc_mulB zw zc
  have p2 := bc_mulB za zb
  have p3 := bc_mulB zw ze
  have p4 := bc_mulB za za
  have m1 := br_lmulT (x := bc_S P (bc_w g) T) (y := bc_S P (bc_c g) T) (by rw [sw, sc]; omega) (by rw [sw, sc]; omega)
  rw [sw, sc] at m1
  have m2 := br_lmulT (x := bc_S P (bc_a g) T) (y := bc_S P (bc_b g) T) (by rw [sa, sb]; omega) (by rw [sa, sb]; omega)
  rw [sa, sb] at m2
  have m3 := br_lmulT (x := bc_S P (bc_w g) T) (y := bc_S P (bc_e g) T) (by rw [sw, se]; omega) (by rw [sw, se]; omega)
  rw [sw, se] at m3
  have m4 := br_lmulT (x := bc_S P (bc_a g) T) (y := bc_S P (bc_a g) T) (by rw [sa]; omega) (by rw [sa]; omega)
  rw [sa] at m4
  rw [br_lsubT (by rw [m1, m2]; omega) (by rw [m1, m2]; omega), br_lsubT (by rw [m3, m4]; omega) (by rw [m3, m4]; omega), m1, m2, m3, m4]
  exact ⟨by omega, cd, by omega⟩
section
variable {d n : Nat} {Q : br_Q} {I J : Nat → Nat → Int32} {L : Nat → Nat → Int64} {g : Nat → Int32}
theorem rs_W_slope {p T : Nat} {pr ex : Int32} {z4 z5 z6 z7 z8 z9 z10 z11 z12 z13 z14 z15 z16 : Option Value} (hp : br_S0 n p = (0, 1)) (hW : br_cel 9 0 I (I 171)) (hT : T ≤ 20) (eT : I 171 1308 = nI T)
    (H : Q none (br_hp n I (br_u (br_u L p 0 (bf_u (bc_u (I 171) pr ex T) (bc_l (I 171) pr ex T))) p 1 (bf_l (bc_u (I 171) pr ex T) (bc_l (I 171) pr ex T))))) :
    br_r (d + 2) 164 0 [some (.ref 39), some (.ref p), some (.int pr), some (.int ex), z4, z5, z6, z7, z8, z9, z10, z11, z12, z13, z14, z15, z16] [] (br_hp n I L) Q := by
  have cT : I 39 4 = nI T := (bi_ntrials hW).trans eT
  have loop : ∀ k t (z15 z16 : Option Value), t + k = T → br_r (d + 2) 164 18 [some (.ref 39), some (.ref p), some (.int pr), some (.int ex), some (.long (bc_S (bc_P (I 171) pr ex) (bc_w (I 171)) t)), none, some (.long (bc_S (bc_P (I 171) pr ex) (bc_a (I 171)) t)), none, some (.long (bc_S (bc_P (I 171) pr ex) (bc_b (I 171)) t)), none, some (.long (bc_S (bc_P (I 171) pr ex) (bc_c (I 171)) t)), none, some (.long (bc_S (bc_P (I 171) pr ex) (bc_e (I 171)) t)), none, some (.int (nI t)), z15, z16] [] (br_hp n I L) Q := by
    intro k
    induction k with
    | zero =>
      intro t z15 z16 ht
      have : t = T := by omega
      subst this
      have hb := (bc_ul hW (pr := pr) (ex := ex) hT).1
      refine rb_Trials_slope_18 (br_t (by rw [cT]; exact nI_le (Nat.le_refl _) (by omega)) ⟨hp, rs_become (u := bc_u (I 171) pr ex t) (l := bc_l (I 171) pr ex t) hp (by omega) (rb_Trials_slope_181 H)⟩)
    | succ k ih =>
      intro t z15 z16 ht
      have h1 := fun z15 z16 => ih (t + 1) z15 z16 (by omega)
      have i40 := bi_wweeks hW (j := t) (by omega)
      have i41 := bi_weff hW (j := t) (by omega)
      have i42 := bi_wsize hW (j := t) (by omega)
      have i43 := bi_wprint hW (j := t) (by omega)
      have no : bc_P (I 171) pr ex t = false → br_r (d + 2) 164 18 [some (.ref 39), some (.ref p), some (.int pr), some (.int ex), some (.long (bc_S (bc_P (I 171) pr ex) (bc_w (I 171)) t)), none, some (.long (bc_S (bc_P (I 171) pr ex) (bc_a (I 171)) t)), none, some (.long (bc_S (bc_P (I 171) pr ex) (bc_b (I 171)) t)), none, some (.long (bc_S (bc_P (I 171) pr ex) (bc_c (I 171)) t)), none, some (.long (bc_S (bc_P (I 171) pr ex) (bc_e (I 171)) t)), none, some (.int (nI t + nI 1)), z15, z16] [] (br_hp n I L) Q := fun hP => by
        have hP' : ¬ bc_P (I 171) pr ex t = true := by rw [hP]; exact Bool.false_ne_true
        have h2 := h1 z15 z16
        rw [bc_S_F hP', bc_S_F hP', bc_S_F hP', bc_S_F hP', bc_S_F hP'] at h2
        rw [nI_add]; exact h2
      have yes : bc_P (I 171) pr ex t = true → br_r (d + 2) 164 50 [some (.ref 39), some (.ref p), some (.int pr), some (.int ex), some (.long (bc_S (bc_P (I 171) pr ex) (bc_w (I 171)) t)), none, some (.long (bc_S (bc_P (I 171) pr ex) (bc_a (I 171)) t)), none, some (.long (bc_S (bc_P (I 171) pr ex) (bc_b (I 171)) t)), none, some (.long (bc_S (bc_P (I 171) pr ex) (bc_c (I 171)) t)), none, some (.long (bc_S (bc_P (I 171) pr ex) (bc_e (I 171)) t)), none, some (.int (nI t)), z15, z16] [] (br_hp n I L) Q := fun hP => by
        have h2 := h1 (some (.long (I 171 (1349 + t)).toInt64)) none
        rw [bc_S_T hP, bc_S_T hP, bc_S_T hP, bc_S_T hP, bc_S_T hP] at h2
        refine rb_Trials_slope_50 ?_
        rw [nI_clamp (by omega), i40, i41, i42, nI_add]
        exact ⟨vp_in_nI (by omega) (by omega), vp_in_nI (by omega) (by omega), vp_in_nI (by omega) (by omega), vp_in_nI (by omega) (by omega), vp_in_nI (by omega) (by omega), vp_in_nI (by omega) (by omega), vp_in_nI (by omega) (by omega), h2⟩
      refine rb_Trials_slope_18 (br_f (by rw [cT]; exact nI_ge (by omega) (by omega)) ⟨fun h => no ?_, fun h => ⟨fun h5 => yes ?_, fun h5 => ⟨vp_in_nI (by omega) (by omega), ?_⟩⟩⟩)
      · unfold bc_P; rw [decide_eq_true h]; rfl
      · unfold bc_P; rw [decide_eq_false h, decide_eq_true h5]; rfl
      · rw [nI_clamp (by omega), i43]
        refine ⟨fun h6 => yes ?_, fun h6 => no ?_⟩
        · unfold bc_P; rw [decide_eq_false h, decide_eq_false h5, decide_eq_false h6]; rfl
        · unfold bc_P; rw [decide_eq_false h, decide_eq_false h5, decide_eq_true (Classical.not_not.mp h6)]; rfl
  exact rb_Trials_slope_0 (loop T 0 _ _ (by omega))
theorem rs_M_slope {T : Nat} {pr ex : Int32} {f : Nat → Nat → Int32} {z3 z4 z5 z6 z7 z8 z9 z10 z11 z12 z13 z14 z15 : Option Value} (hg : J 171 = g) (hW : br_cel 9 0 f g) (hT : T ≤ 20) (eT : g 1308 = nI T)
    (H : Q (some (.int (nI (decide (0 < (bc_l g pr ex T).toInt)).toNat))) (br_hp n J (br_u (br_u L 169 19 (bf_u (bc_u g pr ex T) (bc_l g pr ex T))) 169 20 (bf_l (bc_u g pr ex T) (bc_l g pr ex T))))) :
    br_r (d + 2) 281 0 [some (.ref 169), some (.int pr), some (.int ex), z3, z4, z5, z6, z7, z8, z9, z10, z11, z12, z13, z14, z15] [] (br_hp n J L) Q := by
  have loop : ∀ k t (z14 z15 : Option Value), t + k = T → br_r (d + 2) 281 17 [some (.ref 169), some (.int pr), some (.int ex), some (.long (bc_S (bc_P g pr ex) (bc_w g) t)), none, some (.long (bc_S (bc_P g pr ex) (bc_a g) t)), none, some (.long (bc_S (bc_P g pr ex) (bc_b g) t)), none, some (.long (bc_S (bc_P g pr ex) (bc_e g) t)), none, some (.long (bc_S (bc_P g pr ex) (bc_c g) t)), none, some (.int (nI t)), z14, z15] [] (br_hp n J L) Q := by
    intro k
    induction k with
    | zero =>
      intro t z14 z15 ht
      have : t = T := by omega
      subst this
      have hb := bc_ul hW (pr := pr) (ex := ex) hT
      refine rb_M_tellsCurve_17 (br_t (by rw [hg, eT]; exact nI_le (Nat.le_refl _) (by omega)) (rs_M_tells (u := bc_u g pr ex t) (l := bc_l g pr ex t) (by omega) hb.2.1 (rb_M_tellsCurve_212 H)))
    | succ k ih =>
      intro t z14 z15 ht
      have h1 := fun z14 z15 => ih (t + 1) z14 z15 (by omega)
      have no : bc_P g pr ex t = false → br_r (d + 2) 281 17 [some (.ref 169), some (.int pr), some (.int ex), some (.long (bc_S (bc_P g pr ex) (bc_w g) t)), none, some (.long (bc_S (bc_P g pr ex) (bc_a g) t)), none, some (.long (bc_S (bc_P g pr ex) (bc_b g) t)), none, some (.long (bc_S (bc_P g pr ex) (bc_e g) t)), none, some (.long (bc_S (bc_P g pr ex) (bc_c g) t)), none, some (.int (nI t + nI 1)), z14, z15] [] (br_hp n J L) Q := fun hP => by
        have hP' : ¬ bc_P g pr ex t = true := by rw [hP]; exact Bool.false_ne_true
        have h2 := h1 z14 z15
        rw [bc_S_F hP', bc_S_F hP', bc_S_F hP', bc_S_F hP', bc_S_F hP'] at h2
        rw [nI_add]; exact h2
      have yes : bc_P g pr ex t = true → br_r (d + 2) 281 57 [some (.ref 169), some (.int pr), some (.int ex), some (.long (bc_S (bc_P g pr ex) (bc_w g) t)), none, some (.long (bc_S (bc_P g pr ex) (bc_a g) t)), none, some (.long (bc_S (bc_P g pr ex) (bc_b g) t)), none, some (.long (bc_S (bc_P g pr ex) (bc_e g) t)), none, some (.long (bc_S (bc_P g pr ex) (bc_c g) t)), none, some (.int (nI t)), z14, z15] [] (br_hp n J L) Q := fun hP => by
        have h2 := h1 (some (.long (g (1349 + t)).toInt64)) none
        rw [bc_S_T hP, bc_S_T hP, bc_S_T hP, bc_S_T hP, bc_S_T hP] at h2
        refine rb_M_tellsCurve_57 ?_
        simp (disch := omega) only [nI_add, nI_clamp, hg]
        exact ⟨vp_in_nI (by omega) (by omega), vp_in_nI (by omega) (by omega), vp_in_nI (by omega) (by omega), vp_in_nI (by omega) (by omega), vp_in_nI (by omega) (by omega), vp_in_nI (by omega) (by omega), vp_in_nI (by omega) (by omega), h2⟩
      refine rb_M_tellsCurve_17 (br_f (by rw [hg, eT]; exact nI_ge (by omega) (by omega)) ⟨fun h => no ?_, fun h => ⟨fun h5 => yes ?_, fun h5 => ?_⟩⟩)
      · unfold bc_P; rw [decide_eq_true h]; rfl
      · unfold bc_P; rw [decide_eq_false h, decide_eq_true h5]; rfl
      · rw [nI_add, nI_clamp (by omega), hg]
        refine ⟨vp_in_nI (by omega) (by omega), fun h6 => yes ?_, fun h6 => no ?_⟩
        · unfold bc_P; rw [decide_eq_false h, decide_eq_false h5, decide_eq_false h6]; rfl
        · unfold bc_P; rw [decide_eq_false h, decide_eq_false h5, decide_eq_true (Classical.not_not.mp h6)]; rfl
  exact rb_M_tellsCurve_0 (loop T 0 _ _ (by omega))
end
section
variable {n : Nat} {xs : Nat → Int32} {I : Nat → Nat → Int32} {L : Nat → Nat → Int64}
theorem br_trials (hI : br_Inv xs I L) : ∃ T, T ≤ 20 ∧ I 171 1308 = nI T := by
  have b := bb_ntrials hI.1.1
  rw [Nat.zero_add] at b
  obtain ⟨y, ey, hy⟩ := br_nN b.1
  exact ⟨y, by omega, ey⟩
theorem bf_none {u l : Int64} : nI (decide (¬ 0 < (bf_l u l).toInt)).toNat = nI 0 ↔ 0 < l.toInt := by
  refine Iff.trans ?_ (bf_l_iff (u := u))
  by_cases h : 0 < (bf_l u l).toInt
  · rw [decide_eq_false (fun z => z h)]; exact ⟨fun _ => h, fun _ => rfl⟩
  · rw [decide_eq_true h]; exact ⟨fun z => absurd z br_10, fun z => absurd z h⟩
theorem bp_curve (hI : br_Inv xs I L) (x1 : Int32) (hx1 : x1 = nI 0 ∨ x1 = nI 1) : br_pair n xs 163 280 [some (.ref 8), some (.int x1)] [some (.ref 169), some (.int x1)] I L := by
  obtain ⟨T, hT, eT⟩ := br_trials hI
  have hb := bc_ul hI.1.1 (pr := x1) (ex := -(nI 1)) hT
  intro d Q K
  generalize hU : bf_u (bc_u (I 171) x1 (-(nI 1)) T) (bc_l (I 171) x1 (-(nI 1)) T) = U
  generalize hLo : bf_l (bc_u (I 171) x1 (-(nI 1)) T) (bc_l (I 171) x1 (-(nI 1)) T) = Lo
  have fin : Q (some (.int (nI (decide (0 < (bc_l (I 171) x1 (-(nI 1)) T).toInt)).toNat))) (br_hp n I (br_u (br_u L 72 0 U) 72 1 Lo)) := by
    refine K _ I _ (fun _ => rfl) (fun d' Q' k' => rb_M_curve_0 (rs_M_slope (g := I 171) (by rw [br_u_q (by omega)]) hI.1.1 hT eT (rb_M_curve_11 ?_)))
    rw [hU, hLo]
    refine k' _ _ (br_Inv_f hI (fun p j hp => ?_) (fun p j h1 h2 => ?_) ?_ ?_ ?_)
    · unfold br_scr at hp; rw [br_u_n (by omega)]
    · rw [br_u_n (by omega), br_u_n (by omega), br_u_n (by omega), br_u_n (by omega)]
    · rw [br_u_n (by omega), br_u_n (by omega), br_u_n (by omega), br_u_s, br_u_n (by omega), br_u_s]
    · rw [br_u_n (by omega), br_u_n (by omega), br_u_s, br_u_s]
    · rw [br_u_n (by omega), br_u_n (by omega), br_u_s, ← hLo]; exact bf_l_nn
  refine rb_A_curve_0 (rs_W_slope rfl hI.1.1 hT eT (rb_A_curve_16 (rs_isNone rfl ?_)))
  rw [br_u_s]
  refine rb_A_curve_23 ?_
  rw [bf_none, hU, hLo]
  refine ⟨fun h => ?_, fun h => ?_⟩
  · rw [decide_eq_true h] at fin; exact fin
  · rw [decide_eq_false h] at fin; exact fin
end
