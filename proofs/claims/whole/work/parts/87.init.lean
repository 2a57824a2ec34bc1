set_option maxRecDepth 100000
set_option maxHeartbeats 4000000
/-! the start keeps the invariant -/
def br_gI : List br_op → Nat → Nat → Option Int32
  | [], _, _ => none
  | (q, 0, _, _) :: t, p, j => bif Nat.beq p q then some 0 else br_gI t p j
  | (q, 1, k, x) :: t, p, j => bif Nat.beq p q && Nat.beq j k then some x else br_gI t p j
  | (q, 2, m, x) :: t, p, j => bif Nat.beq p q && Nat.blt j m then some x else br_gI t p j
  | (q, _ + 3, m, _) :: t, p, j => bif Nat.ble q p && Nat.blt p m then some 0 else br_gI t p j
theorem br_gI_ok {I0 : Nat → Nat → Int32} {p j : Nat} {x : Int32} : ∀ l : List br_op, br_gI l p j = some x → br_lgI I0 l p j = x
  | [], h => by cases h
  | (q, 0, k, y) :: t, h => by
    show br_z (br_lgI I0 t) q 0 p j = x
    unfold br_z
    unfold br_gI at h
    cases e : Nat.beq p q with
    | true => rw [e] at h; rw [if_pos (Nat.eq_of_beq_eq_true e)]; exact Option.some.inj h
    | false => rw [e] at h; rw [if_neg (Nat.ne_of_beq_eq_false e)]; exact br_gI_ok t h
  | (q, 1, k, y) :: t, h => by
    show br_u (br_lgI I0 t) q k y p j = x
    unfold br_u
    unfold br_gI at h
    cases e : (Nat.beq p q && Nat.beq j k) with
    | true =>
      rw [e] at h
      rw [Bool.and_eq_true] at e
      rw [if_pos ⟨Nat.eq_of_beq_eq_true e.1, Nat.eq_of_beq_eq_true e.2⟩]; exact Option.some.inj h
    | false =>
      rw [e] at h
      rw [if_neg]
      · exact br_gI_ok t h
      · intro z
        rw [z.1, z.2, Nat.beq_refl, Nat.beq_refl] at e
        cases e
  | (q, 2, m, y) :: t, h => by
    show br_fl (br_lgI I0 t) q m y p j = x
    unfold br_fl
    unfold br_gI at h
    cases e : (Nat.beq p q && Nat.blt j m) with
    | true =>
      rw [e] at h
      rw [Bool.and_eq_true] at e
      rw [if_pos ⟨Nat.eq_of_beq_eq_true e.1, Nat.le_of_ble_eq_true e.2⟩]; exact Option.some.inj h
    | false =>
      rw [e] at h
      rw [if_neg]
      · exact br_gI_ok t h
      · intro z
        have e2 : Nat.blt j m = true := Nat.ble_eq_true_of_le z.2
        rw [z.1, Nat.beq_refl, e2] at e
        cases e
  | (q, k + 3, m, y) :: t, h => by
    show br_zz (br_lgI I0 t) q m 0 p j = x
    unfold br_zz
    unfold br_gI at h
    cases e : (Nat.ble q p && Nat.blt p m) with
    | true =>
      rw [e] at h
      rw [Bool.and_eq_true] at e
      rw [if_pos ⟨Nat.le_of_ble_eq_true e.1, Nat.le_of_ble_eq_true e.2⟩]; exact Option.some.inj h
    | false =>
      rw [e] at h
      rw [if_neg]
      · exact br_gI_ok t h
      · intro z
        have e2 : Nat.blt p m = true := Nat.ble_eq_true_of_le z.2
        rw [Nat.ble_eq_true_of_le z.1, e2] at e
        cases e
theorem br_lgL_0 {p j : Nat} : ∀ l : List br_op, br_lgL (fun _ _ => 0) l p j = 0
  | [] => rfl
  | (q, 0, k, y) :: t => by
    show br_z (br_lgL (fun _ _ => 0) t) q 0 p j = 0
    unfold br_z
    split
    · rfl
    · exact br_lgL_0 t
  | (q, 1, k, y) :: t => br_lgL_0 t
  | (q, 2, m, y) :: t => br_lgL_0 t
  | (q, k + 3, m, y) :: t => by
    show br_zz (br_lgL (fun _ _ => 0) t) q m 0 p j = 0
    unfold br_zz
    split
    · rfl
    · exact br_lgL_0 t
/-- the log without the children's points of the model -/
def br_logR : List br_op := br_logB.drop 240
theorem br_logB_R : br_logB = ((List.range 240).map (fun i => ((171, 1, 867 + (239 - i), -1) : br_op))) ++ br_logR := by
  unfold br_logR
  conv => rhs; rhs; unfold br_logB
  rw [List.drop_append_of_le_length (by rw [List.length_map, List.length_range]; exact Nat.le_refl 240), List.drop_eq_nil_of_le (by rw [List.length_map, List.length_range]; exact Nat.le_refl 240), List.nil_append]
  rfl
theorem br_map240 {I0 : Nat → Nat → Int32} {p j : Nat} : ∀ m, m ≤ 240 → ∀ t : List br_op, br_lgI I0 (((List.range m).map (fun i => ((171, 1, 867 + (239 - i), -1) : br_op))) ++ t) p j = if p = 171 ∧ 867 + (240 - m) ≤ j ∧ j < 1107 then -1 else br_lgI I0 t p j
  | 0, _, t => by
    rw [if_neg (by omega)]; rfl
  | m + 1, h, t => by
    have ih := br_map240 (I0 := I0) (p := p) (j := j) m (by omega) ((171, 1, 867 + (239 - m), -1) :: t)
    rw [List.range_succ, List.map_append, List.append_assoc]
    refine Eq.trans ih ?_
    show (if _ then _ else br_u (br_lgI I0 t) 171 (867 + (239 - m)) (-1) p j) = _
    by_cases h1 : p = 171 ∧ 867 + (240 - m) ≤ j ∧ j < 1107
    · rw [if_pos h1, if_pos (by omega)]
    · rw [if_neg h1]
      by_cases h2 : p = 171 ∧ j = 867 + (239 - m)
      · rw [br_u_e h2.1 h2.2, if_pos (by omega)]
      · rw [br_u_n h2, if_neg (by omega)]
def br_gJ (p j : Nat) : Option Int32 := bif Nat.beq p 171 && Nat.ble 867 j && Nat.blt j 1107 then some (-1) else br_gI br_logR p j
theorem br_gJ_ok {xs : Nat → Int32} {p j : Nat} {x : Int32} (h : br_gJ p j = some x) : br_I1 xs p j = x := by
  unfold br_I1
  rw [br_logB_R, br_map240 240 (by omega)]
  unfold br_gJ at h
  cases e : (Nat.beq p 171 && Nat.ble 867 j && Nat.blt j 1107) with
  | true =>
    rw [e] at h
    simp only [Bool.and_eq_true] at e
    rw [if_pos ⟨Nat.eq_of_beq_eq_true e.1.1, Nat.le_of_ble_eq_true e.1.2, Nat.le_of_ble_eq_true e.2⟩]; exact Option.some.inj h
  | false =>
    rw [e] at h
    rw [if_neg]
    · exact br_gI_ok _ h
    · intro z
      have e2 : Nat.blt j 1107 = true := Nat.ble_eq_true_of_le z.2.2
      have e3 : Nat.ble 867 j = true := Nat.ble_eq_true_of_le z.2.1
      rw [z.1, e2, e3] at e
      cases e
def br_gIs (p j : Nat) (x : Int32) : Bool := match br_gJ p j with
  | some y => decide (y = x)
  | none => false
theorem br_gIs_ok {xs : Nat → Int32} {p j : Nat} {x : Int32} (h : br_gIs p j x = true) : br_I1 xs p j = x := by
  unfold br_gIs at h
  split at h
  · rename_i y e
    rw [← of_decide_eq_true h]
    exact br_gJ_ok e
  · cases h
def br_gIr (lo hi : Int) (p j q k : Nat) : Bool := match br_gJ p j, br_gJ q k with
  | some x, some y => decide (x = y) && decide (lo ≤ y.toInt) && decide (y.toInt ≤ hi)
  | _, _ => false
theorem br_gIr_ok {xs : Nat → Int32} {lo hi : Int} {p j q k : Nat} (h : br_gIr lo hi p j q k = true) : br_I1 xs p j = br_I1 xs q k ∧ lo ≤ (br_I1 xs q k).toInt ∧ (br_I1 xs q k).toInt ≤ hi := by
  unfold br_gIr at h
  split at h
  · rename_i x y e1 e2
    have h1 : br_I1 xs p j = x := br_gJ_ok e1
    have h2 : br_I1 xs q k = y := br_gJ_ok e2
    rw [h1, h2]
    simp only [Bool.and_eq_true, decide_eq_true_eq] at h
    exact ⟨h.1.1, h.1.2, h.2⟩
  · cases h
theorem br_init_cel : br_rows.all (fun r => (List.range r.2.2.1).all (fun j => br_gIr r.2.2.2.2.1 r.2.2.2.2.2 (9 + r.1) (r.2.1 + j) 171 (0 + (r.2.2.2.1 + j)))) = true := by decide +kernel
theorem br_init_old : ∀ l : List br_op, l.all (fun e => Nat.ble 8 e.1) = true → ∀ (I0 : Nat → Nat → Int32) (p j : Nat), p < 8 → br_lgI I0 l p j = I0 p j
  | [], _, _, _, _, _ => rfl
  | (q, 0, k, y) :: t, h, I0, p, j, hp => by
    simp only [List.all_cons, Bool.and_eq_true, Nat.ble_eq] at h
    show br_z (br_lgI I0 t) q 0 p j = _
    unfold br_z
    rw [if_neg (by omega)]
    exact br_init_old t h.2 I0 p j hp
  | (q, 1, k, y) :: t, h, I0, p, j, hp => by
    simp only [List.all_cons, Bool.and_eq_true, Nat.ble_eq] at h
    show br_u (br_lgI I0 t) q k y p j = _
    unfold br_u
    rw [if_neg (by omega)]
    exact br_init_old t h.2 I0 p j hp
  | (q, 2, m, y) :: t, h, I0, p, j, hp => by
    simp only [List.all_cons, Bool.and_eq_true, Nat.ble_eq] at h
    show br_fl (br_lgI I0 t) q m y p j = _
    unfold br_fl
    rw [if_neg (by omega)]
    exact br_init_old t h.2 I0 p j hp
  | (q, k + 3, m, y) :: t, h, I0, p, j, hp => by
    simp only [List.all_cons, Bool.and_eq_true, Nat.ble_eq] at h
    show br_zz (br_lgI I0 t) q m 0 p j = _
    unfold br_zz
    rw [if_neg (by omega)]
    exact br_init_old t h.2 I0 p j hp
def br_init_cs : List (Nat × Nat × Nat × Int32) := [(171, 666, 1, 0), (171, 629, 1, 0), (171, 787, 40, 0), (171, 827, 40, 0), (171, 867, 240, -1), (171, 0, 1, 0), (171, 20, 1, 0), (171, 40, 1, 0), (171, 60, 1, 0), (171, 80, 1, 0), (171, 104, 1, 0), (29, 1, 1, 0), (53, 0, 2, 0), (172, 0, 2, 0), (81, 0, 4, -1), (179, 0, 4, -1), (82, 0, 8, 0), (170, 0, 8, 0), (55, 1, 1, 0), (169, 6, 1, 0), (54, 3, 1, 0), (169, 16, 1, 0), (54, 4, 1, -1), (169, 17, 1, -1), (169, 25, 1, 0), (169, 26, 1, 0)]
theorem br_init_cs_ok : br_init_cs.all (fun r => (List.range r.2.2.1).all (fun j => br_gIs r.1 (r.2.1 + j) r.2.2.2)) = true := by decide +kernel
theorem br_init_c {xs : Nat → Int32} (r : Nat × Nat × Nat × Int32) (hr : r ∈ br_init_cs) (j : Nat) (hj : j < r.2.2.1) : br_I1 xs r.1 (r.2.1 + j) = r.2.2.2 :=
  br_gIs_ok (List.all_eq_true.mp (List.all_eq_true.mp br_init_cs_ok r hr) j (List.mem_range.mpr hj))
theorem br_Inv_0 {xs : Nat → Int32} : br_Inv xs (br_I1 xs) br_L1 := by
  have hL : ∀ p j, br_L1 p j = 0 := fun p j => br_lgL_0 _
  have em : -(nI 1) = (-1 : Int32) := by decide +kernel
  refine ⟨⟨fun r hr j hj => ?_, ⟨0, 0, by omega, by omega, ?_, ?_, fun c hc => absurd hc (Nat.not_lt_zero c), fun c _ hc => ⟨?_, ?_, fun t ht => ?_⟩, fun i hi => ?_⟩, ⟨0, fun _ => 0, fun _ _ => 0, by omega, ?_, rfl, ?_, Nat.zero_le _, Nat.zero_le _, fun r hr => absurd hr (Nat.not_lt_zero r)⟩⟩,
    ⟨fun i hi => Or.inl ⟨?_, ?_⟩, fun r hr => Or.inl ⟨?_, ?_⟩, ⟨0, by omega, ?_, ?_, fun k hk => absurd hk (Nat.not_lt_zero k)⟩, ⟨?_, ?_⟩, fun p j hp => ?_⟩, fun k hk => ?_, ⟨?_, ?_, ?_⟩, ⟨0, 0, by omega, by omega, ?_, ?_, fun k x _ _ _ => ?_⟩⟩
  · exact br_gIr_ok (List.all_eq_true.mp (List.all_eq_true.mp br_init_cel r hr) j (List.mem_range.mpr hj))
  · exact br_init_c (171, 666, 1, 0) (by decide +kernel) 0 (by decide)
  · exact br_init_c (171, 629, 1, 0) (by decide +kernel) 0 (by decide)
  · rw [Nat.zero_add]; exact br_init_c (171, 787, 40, 0) (by decide +kernel) c hc
  · rw [Nat.zero_add]; exact br_init_c (171, 827, 40, 0) (by decide +kernel) c hc
  · rw [Nat.zero_add, em]; exact br_init_c (171, 867, 240, -1) (by decide +kernel) (40 * t + c) (by show 40 * t + c < 240; omega)
  · rcases (by omega : i = 0 ∨ i = 1 ∨ i = 2 ∨ i = 3 ∨ i = 4) with rfl | rfl | rfl | rfl | rfl
    · exact br_init_c (171, 0, 1, 0) (by decide +kernel) 0 (by decide)
    · exact br_init_c (171, 20, 1, 0) (by decide +kernel) 0 (by decide)
    · exact br_init_c (171, 40, 1, 0) (by decide +kernel) 0 (by decide)
    · exact br_init_c (171, 60, 1, 0) (by decide +kernel) 0 (by decide)
    · exact br_init_c (171, 80, 1, 0) (by decide +kernel) 0 (by decide)
  · exact br_init_c (171, 104, 1, 0) (by decide +kernel) 0 (by decide)
  · exact br_init_c (29, 1, 1, 0) (by decide +kernel) 0 (by decide)
  · have := br_init_c (xs := xs) (53, 0, 2, 0) (by decide +kernel) i hi
    rwa [Nat.zero_add] at this
  · have := br_init_c (xs := xs) (172, 0, 2, 0) (by decide +kernel) i hi
    rwa [Nat.zero_add] at this
  · have := br_init_c (xs := xs) (81, 0, 4, -1) (by decide +kernel) r hr
    rw [em]; rwa [Nat.zero_add] at this
  · have := br_init_c (xs := xs) (179, 0, 4, -1) (by decide +kernel) r hr
    rw [em]; rwa [Nat.zero_add] at this
  · exact br_init_c (55, 1, 1, 0) (by decide +kernel) 0 (by decide)
  · exact br_init_c (169, 6, 1, 0) (by decide +kernel) 0 (by decide)
  · exact (br_init_c (xs := xs) (54, 3, 1, 0) (by decide +kernel) 0 (by decide)).trans (br_init_c (xs := xs) (169, 16, 1, 0) (by decide +kernel) 0 (by decide)).symm
  · exact (br_init_c (xs := xs) (54, 4, 1, -1) (by decide +kernel) 0 (by decide)).trans (br_init_c (xs := xs) (169, 17, 1, -1) (by decide +kernel) 0 (by decide)).symm
  · exact br_init_old _ (by decide +kernel) _ _ _ hp
  · have h1 := br_init_c (xs := xs) (82, 0, 8, 0) (by decide +kernel) k hk
    have h2 := br_init_c (xs := xs) (170, 0, 8, 0) (by decide +kernel) k hk
    rw [Nat.zero_add] at h1 h2
    exact h1.trans h2.symm
  · rw [hL, hL]
  · rw [hL, hL]
  · rw [hL]; decide +kernel
  · exact br_init_c (169, 25, 1, 0) (by decide +kernel) 0 (by decide)
  · exact br_init_c (169, 26, 1, 0) (by decide +kernel) 0 (by decide)
  · exact hL _ _
