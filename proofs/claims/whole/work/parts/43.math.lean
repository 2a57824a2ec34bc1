set_option maxHeartbeats 4000000
/-! sums of the chosen ones -/
/-- all sums of j chosen out of l, on top of those in P -/
def br_sm (P : List Nat) : List Nat → Nat → List Nat
  | [], 0 => P
  | [], _ + 1 => []
  | _ :: l, 0 => br_sm P l 0
  | v :: l, j + 1 => br_sm P l (j + 1) ++ (br_sm P l j).map (· + v)
def br_si : List Int → Nat → List Int
  | [], 0 => [0]
  | [], _ + 1 => []
  | _ :: l, 0 => br_si l 0
  | v :: l, j + 1 => br_si l (j + 1) ++ (br_si l j).map (· + v)
theorem br_si_0 : ∀ l : List Int, br_si l 0 = [0]
  | [] => rfl
  | _ :: l => br_si_0 l
theorem br_sm_0 (P : List Nat) : ∀ l : List Nat, br_sm P l 0 = P
  | [] => rfl
  | _ :: l => br_sm_0 P l
theorem br_si_big : ∀ (l : List Int) (j : Nat), l.length < j → br_si l j = []
  | [], 0, h => by simp at h
  | [], _ + 1, _ => rfl
  | _ :: l, 0, h => by simp at h
  | v :: l, j + 1, h => by
    simp only [List.length_cons] at h
    show br_si l (j + 1) ++ (br_si l j).map (· + v) = []
    rw [br_si_big l (j + 1) (by omega), br_si_big l j (by omega)]
    rfl
def br_sum : List Int → Int
  | [] => 0
  | v :: l => v + br_sum l
theorem br_si_full : ∀ l : List Int, br_si l l.length = [br_sum l]
  | [] => rfl
  | v :: l => by
    show br_si l (l.length + 1) ++ (br_si l l.length).map (· + v) = [v + br_sum l]
    rw [br_si_big l _ (by omega), br_si_full l]
    simp [Int.add_comm]
/-- the others chosen in their place -/
theorem br_si_co : ∀ (l : List Int) (j : Nat), j ≤ l.length → (br_si l j).Perm ((br_si l (l.length - j)).map (fun x => br_sum l - x))
  | [], 0, _ => by simp [br_si, br_sum]
  | [], _ + 1, h => by simp at h
  | v :: l, 0, _ => by
    rw [br_si_0, Nat.sub_zero, br_si_full]
    simp
  | v :: l, j + 1, h => by
    simp only [List.length_cons] at h ⊢
    have e1 : br_si (v :: l) (j + 1) = br_si l (j + 1) ++ (br_si l j).map (· + v) := rfl
    rw [e1]
    have hj := br_si_co l j (by omega)
    by_cases hjl : j = l.length
    · subst hjl
      rw [br_si_big l _ (by omega), br_si_full]
      have e2 : l.length + 1 - (l.length + 1) = 0 := by omega
      rw [e2, br_si_0]
      simp [br_sum, Int.add_comm]
    · have hj1 := br_si_co l (j + 1) (by omega)
      have e2 : l.length + 1 - (j + 1) = (l.length - (j + 1)) + 1 := by omega
      have e3 : l.length - (j + 1) + 1 = l.length - j := by omega
      rw [e2]
      have e4 : br_si (v :: l) (l.length - (j + 1) + 1) = br_si l (l.length - (j + 1) + 1) ++ (br_si l (l.length - (j + 1))).map (· + v) := rfl
      rw [e4, e3, List.map_append, List.map_map]
      refine (List.Perm.append hj1 (hj.map (· + v))).trans ?_
      rw [List.map_map]
      refine List.perm_append_comm.trans ?_
      refine List.Perm.append ?_ ?_
      · refine List.Perm.of_eq (List.map_congr_left (fun x _ => ?_))
        simp only [Function.comp, br_sum]; omega
      · refine List.Perm.of_eq (List.map_congr_left (fun x _ => ?_))
        simp only [Function.comp, br_sum]; omega
theorem br_si_sub (c : Int) : ∀ (l : List Int) (j : Nat), br_si (l.map (fun x => x - c)) j = (br_si l j).map (fun x => x - j * c)
  | [], 0 => by simp [br_si]
  | [], _ + 1 => rfl
  | v :: l, 0 => by rw [br_si_0, br_si_0]; simp
  | v :: l, j + 1 => by
    show br_si (l.map (fun x => x - c)) (j + 1) ++ (br_si (l.map (fun x => x - c)) j).map (· + (v - c)) = (br_si l (j + 1) ++ (br_si l j).map (· + v)).map (fun x => x - ((j + 1 : Nat) : Int) * c)
    rw [br_si_sub c l (j + 1), br_si_sub c l j, List.map_append, List.map_map, List.map_map]
    congr 1
    refine List.map_congr_left (fun x _ => ?_)
    simp only [Function.comp]
    have : ((j + 1 : Nat) : Int) * c = j * c + c := by rw [Int.natCast_add, Int.add_mul]; simp
    rw [this]; omega
theorem br_si_rev (c : Int) : ∀ (l : List Int) (j : Nat), br_si (l.map (fun x => c - x)) j = (br_si l j).map (fun x => j * c - x)
  | [], 0 => by simp [br_si]
  | [], _ + 1 => rfl
  | v :: l, 0 => by rw [br_si_0, br_si_0]; simp
  | v :: l, j + 1 => by
    show br_si (l.map (fun x => c - x)) (j + 1) ++ (br_si (l.map (fun x => c - x)) j).map (· + (c - v)) = (br_si l (j + 1) ++ (br_si l j).map (· + v)).map (fun x => ((j + 1 : Nat) : Int) * c - x)
    rw [br_si_rev c l (j + 1), br_si_rev c l j, List.map_append, List.map_map, List.map_map]
    congr 1
    refine List.map_congr_left (fun x _ => ?_)
    simp only [Function.comp]
    have : ((j + 1 : Nat) : Int) * c = j * c + c := by rw [Int.natCast_add, Int.add_mul]; simp
    rw [this]; omega
/-- the steps of a common divisor halve -/
theorem br_half {a b : Nat} (h : 0 < a % b) (hb : 0 < b) : 2 * (b % (a % b)) < b := by
  have h1 : a % b < b := Nat.mod_lt _ hb
  have h2 : b % (a % b) < a % b := Nat.mod_lt _ h
  have h3 := Nat.div_add_mod b (a % b)
  have h4 : 1 ≤ b / (a % b) := (Nat.one_le_div_iff h).mpr (by omega)
  have h5 : a % b ≤ (a % b) * (b / (a % b)) := Nat.le_mul_of_pos_right _ h4
  omega
