set_option maxRecDepth 100000
set_option maxHeartbeats 4000000
/-! rows of cells: place in a world, first index, how many, first cell of the model, least, most -/
def br_rows : List (Nat × Nat × Nat × Nat × Int × Int) := [(0, 2, 1, 629, 0, 18), (0, 8, 1, 666, 0, 40), (0, 9, 1, 1113, 0, 6), (1, 0, 18, 630, 0, 20), (2, 0, 18, 648, 0, 1), (3, 0, 40, 667, 0, 17), (4, 0, 40, 707, 0, 6), (5, 0, 40, 747, 0, 400), (6, 0, 40, 787, 0, 5), (7, 0, 40, 827, 0, 1), (9, 0, 40, 867, -1, 200), (10, 0, 40, 907, -1, 200), (11, 0, 40, 947, -1, 200), (12, 0, 40, 987, -1, 200), (13, 0, 40, 1027, -1, 200), (14, 0, 40, 1067, -1, 200), (15, 0, 6, 1107, 0, 6), (16, 1, 1, 19, 0, 30), (17, 0, 5, 1, -99, 99), (17, 5, 6, 6, 0, 99), (17, 11, 1, 12, 0, 100), (17, 12, 3, 13, 0, 50), (17, 15, 1, 16, 0, 20), (17, 16, 2, 17, 0, 200), (35, 1, 1, 39, 0, 30), (36, 0, 5, 21, -99, 99), (36, 5, 6, 26, 0, 99), (36, 11, 1, 32, 0, 100), (36, 12, 3, 33, 0, 50), (36, 15, 1, 36, 0, 20), (37, 1, 1, 59, 0, 30), (38, 0, 5, 41, -99, 99), (38, 5, 6, 46, 0, 99), (38, 11, 1, 52, 0, 100), (38, 12, 3, 53, 0, 50), (38, 15, 1, 56, 0, 20), (39, 1, 1, 79, 0, 30), (40, 0, 5, 61, -99, 99), (40, 5, 6, 66, 0, 99), (40, 11, 1, 72, 0, 100), (40, 12, 3, 73, 0, 50), (40, 15, 1, 76, 0, 20), (41, 1, 1, 99, 0, 30), (42, 0, 5, 81, -99, 99), (42, 5, 6, 86, 0, 99), (42, 11, 1, 92, 0, 100), (42, 12, 3, 93, 0, 50), (42, 15, 1, 96, 0, 20), (19, 0, 4, 100, 0, 1), (20, 2, 1, 104, 0, 12), (22, 3, 1, 1114, 0, 24), (23, 0, 24, 1115, 0, 2), (24, 0, 24, 1139, 0, 1), (25, 0, 24, 1163, 0, 99), (26, 3, 1, 1187, 0, 40), (27, 0, 40, 1188, 0, 39), (28, 0, 40, 1228, 0, 5), (29, 0, 40, 1268, 0, 200), (30, 4, 1, 1308, 0, 20), (31, 0, 20, 1309, 0, 20), (32, 0, 20, 1329, -999, 999), (33, 0, 20, 1349, 0, 999), (34, 0, 20, 1369, 0, 1)]
abbrev br_Rw : Type := Nat × Nat × Nat × Nat × Int × Int
def br_cel (w o : Nat) (f : Nat → Nat → Int32) (g : Nat → Int32) : Prop := ∀ r : br_Rw, r ∈ br_rows → ∀ j, j < r.2.2.1 → f (w + r.1) (r.2.1 + j) = g (o + (r.2.2.2.1 + j)) ∧ r.2.2.2.2.1 ≤ (g (o + (r.2.2.2.1 + j))).toInt ∧ (g (o + (r.2.2.2.1 + j))).toInt ≤ r.2.2.2.2.2
def br_apart (r s : br_Rw) : Bool := (decide (r = s)) || ((!(r.1 == s.1) || Nat.ble (r.2.1 + r.2.2.1) s.2.1 || Nat.ble (s.2.1 + s.2.2.1) r.2.1) && (Nat.ble (r.2.2.2.1 + r.2.2.1) s.2.2.2.1 || Nat.ble (s.2.2.2.1 + s.2.2.1) r.2.2.2.1))
theorem br_rows_apart : br_rows.all (fun r => br_rows.all (fun s => br_apart r s)) = true := by decide +kernel
theorem br_rows_in : br_rows.all (fun r => Nat.ble r.1 42 && Nat.ble (r.2.2.2.1 + r.2.2.1) 1389 && (Nat.ble (r.2.2.2.1 + r.2.2.1) 105 || Nat.ble 629 r.2.2.2.1) && !(r.1 == 20 && Nat.ble r.2.1 1) && !(r.1 == 21)) = true := by decide +kernel
theorem br_cel_c {w o : Nat} {f f' : Nat → Nat → Int32} {g g' : Nat → Int32} (h : br_cel w o f g) (hf : ∀ p j, w ≤ p → p ≤ w + 42 → ¬ (p = w + 20 ∧ j = 1) → p ≠ w + 21 → f' p j = f p j) (hg : ∀ k, k < 1389 → k < 105 ∨ 629 ≤ k → g' (o + k) = g (o + k)) : br_cel w o f' g' := by
  intro r hr j hj
  have h1 := List.all_eq_true.mp br_rows_in r hr
  simp only [Bool.and_eq_true, Bool.or_eq_true, Nat.ble_eq, Bool.not_eq_true', Bool.and_eq_false_iff, beq_eq_false_iff_ne, ne_eq] at h1
  obtain ⟨⟨⟨⟨h2, h3⟩, h4⟩, h5⟩, h6⟩ := h1
  have h7 : ¬ (w + r.1 = w + 20 ∧ r.2.1 + j = 1) := by
    intro z
    rcases h5 with h5 | h5
    · exact h5 (by omega)
    · rw [← Bool.not_eq_true, Nat.ble_eq] at h5
      omega
  rw [hf (w + r.1) (r.2.1 + j) (by omega) (by omega) h7 (by omega), hg (r.2.2.2.1 + j) (by omega) (by omega)]
  exact h r hr j hj
theorem br_cel_put {w o : Nat} {f : Nat → Nat → Int32} {g : Nat → Int32} (h : br_cel w o f g) {r : br_Rw} (hr : r ∈ br_rows) {i : Nat} (hi : i < r.2.2.1) {x : Int32} (hlo : r.2.2.2.2.1 ≤ x.toInt) (hhi : x.toInt ≤ r.2.2.2.2.2) :
    br_cel w o (br_u f (w + r.1) (r.2.1 + i) x) (br_v g (o + (r.2.2.2.1 + i)) x) := by
  intro s hs j hj
  have h1 := List.all_eq_true.mp (List.all_eq_true.mp br_rows_apart r hr) s hs
  unfold br_apart at h1
  simp only [Bool.and_eq_true, Bool.or_eq_true, Nat.ble_eq, Bool.not_eq_true', beq_eq_false_iff_ne, ne_eq, decide_eq_true_eq] at h1
  rcases h1 with h1 | ⟨h1, h2⟩
  · subst h1
    by_cases hij : j = i
    · subst hij
      rw [br_u_s, br_v_s]
      exact ⟨rfl, hlo, hhi⟩
    · rw [br_u_j (by omega), br_v_j (by omega)]
      exact h r hr j hj
  · have e1 : br_u f (w + r.1) (r.2.1 + i) x (w + s.1) (s.2.1 + j) = f (w + s.1) (s.2.1 + j) := if_neg (by omega)
    rw [e1, br_v_j (by omega)]
    exact h s hs j hj
theorem bi_rooms {f : Nat → Nat → Int32} {g : Nat → Int32} (h : br_cel 9 0 f g) : f 9 2 = g 629 := by simpa using (h (0, 2, 1, 629, 0, 18) (by decide +kernel) 0 (by decide)).1
theorem bb_rooms {w o : Nat} {f : Nat → Nat → Int32} {g : Nat → Int32} (h : br_cel w o f g) : 0 ≤ (g (o + 629)).toInt ∧ (g (o + 629)).toInt ≤ 18 := by simpa using (h (0, 2, 1, 629, 0, 18) (by decide +kernel) 0 (by decide)).2
theorem bi_children {f : Nat → Nat → Int32} {g : Nat → Int32} (h : br_cel 9 0 f g) : f 9 8 = g 666 := by simpa using (h (0, 8, 1, 666, 0, 40) (by decide +kernel) 0 (by decide)).1
theorem bb_children {w o : Nat} {f : Nat → Nat → Int32} {g : Nat → Int32} (h : br_cel w o f g) : 0 ≤ (g (o + 666)).toInt ∧ (g (o + 666)).toInt ≤ 40 := by simpa using (h (0, 8, 1, 666, 0, 40) (by decide +kernel) 0 (by decide)).2
theorem bi_years {f : Nat → Nat → Int32} {g : Nat → Int32} (h : br_cel 9 0 f g) : f 9 9 = g 1113 := by simpa using (h (0, 9, 1, 1113, 0, 6) (by decide +kernel) 0 (by decide)).1
theorem bb_years {w o : Nat} {f : Nat → Nat → Int32} {g : Nat → Int32} (h : br_cel w o f g) : 0 ≤ (g (o + 1113)).toInt ∧ (g (o + 1113)).toInt ≤ 6 := by simpa using (h (0, 9, 1, 1113, 0, 6) (by decide +kernel) 0 (by decide)).2
theorem bi_weeks {f : Nat → Nat → Int32} {g : Nat → Int32} (h : br_cel 9 0 f g) {j : Nat} (hj : j < 18) : f 10 j = g (630 + j) := by simpa using (h (1, 0, 18, 630, 0, 20) (by decide +kernel) j hj).1
theorem bb_weeks {w o : Nat} {f : Nat → Nat → Int32} {g : Nat → Int32} (h : br_cel w o f g) {j : Nat} (hj : j < 18) : 0 ≤ (g (o + (630 + j))).toInt ∧ (g (o + (630 + j))).toInt ≤ 20 := by simpa using (h (1, 0, 18, 630, 0, 20) (by decide +kernel) j hj).2
theorem bi_forgets {f : Nat → Nat → Int32} {g : Nat → Int32} (h : br_cel 9 0 f g) {j : Nat} (hj : j < 18) : f 11 j = g (648 + j) := by simpa using (h (2, 0, 18, 648, 0, 1) (by decide +kernel) j hj).1
theorem bb_forgets {w o : Nat} {f : Nat → Nat → Int32} {g : Nat → Int32} (h : br_cel w o f g) {j : Nat} (hj : j < 18) : 0 ≤ (g (o + (648 + j))).toInt ∧ (g (o + (648 + j))).toInt ≤ 1 := by simpa using (h (2, 0, 18, 648, 0, 1) (by decide +kernel) j hj).2
theorem bi_room {f : Nat → Nat → Int32} {g : Nat → Int32} (h : br_cel 9 0 f g) {j : Nat} (hj : j < 40) : f 12 j = g (667 + j) := by simpa using (h (3, 0, 40, 667, 0, 17) (by decide +kernel) j hj).1
theorem bb_room {w o : Nat} {f : Nat → Nat → Int32} {g : Nat → Int32} (h : br_cel w o f g) {j : Nat} (hj : j < 40) : 0 ≤ (g (o + (667 + j))).toInt ∧ (g (o + (667 + j))).toInt ≤ 17 := by simpa using (h (3, 0, 40, 667, 0, 17) (by decide +kernel) j hj).2
theorem bi_grade {f : Nat → Nat → Int32} {g : Nat → Int32} (h : br_cel 9 0 f g) {j : Nat} (hj : j < 40) : f 13 j = g (707 + j) := by simpa using (h (4, 0, 40, 707, 0, 6) (by decide +kernel) j hj).1
theorem bb_grade {w o : Nat} {f : Nat → Nat → Int32} {g : Nat → Int32} (h : br_cel w o f g) {j : Nat} (hj : j < 40) : 0 ≤ (g (o + (707 + j))).toInt ∧ (g (o + (707 + j))).toInt ≤ 6 := by simpa using (h (4, 0, 40, 707, 0, 6) (by decide +kernel) j hj).2
theorem bi_gift {f : Nat → Nat → Int32} {g : Nat → Int32} (h : br_cel 9 0 f g) {j : Nat} (hj : j < 40) : f 14 j = g (747 + j) := by simpa using (h (5, 0, 40, 747, 0, 400) (by decide +kernel) j hj).1
theorem bb_gift {w o : Nat} {f : Nat → Nat → Int32} {g : Nat → Int32} (h : br_cel w o f g) {j : Nat} (hj : j < 40) : 0 ≤ (g (o + (747 + j))).toInt ∧ (g (o + (747 + j))).toInt ≤ 400 := by simpa using (h (5, 0, 40, 747, 0, 400) (by decide +kernel) j hj).2
theorem bi_word {f : Nat → Nat → Int32} {g : Nat → Int32} (h : br_cel 9 0 f g) {j : Nat} (hj : j < 40) : f 15 j = g (787 + j) := by simpa using (h (6, 0, 40, 787, 0, 5) (by decide +kernel) j hj).1
theorem bb_word {w o : Nat} {f : Nat → Nat → Int32} {g : Nat → Int32} (h : br_cel w o f g) {j : Nat} (hj : j < 40) : 0 ≤ (g (o + (787 + j))).toInt ∧ (g (o + (787 + j))).toInt ≤ 5 := by simpa using (h (6, 0, 40, 787, 0, 5) (by decide +kernel) j hj).2
theorem bi_gone {f : Nat → Nat → Int32} {g : Nat → Int32} (h : br_cel 9 0 f g) {j : Nat} (hj : j < 40) : f 16 j = g (827 + j) := by simpa using (h (7, 0, 40, 827, 0, 1) (by decide +kernel) j hj).1
theorem bb_gone {w o : Nat} {f : Nat → Nat → Int32} {g : Nat → Int32} (h : br_cel w o f g) {j : Nat} (hj : j < 40) : 0 ≤ (g (o + (827 + j))).toInt ∧ (g (o + (827 + j))).toInt ≤ 1 := by simpa using (h (7, 0, 40, 827, 0, 1) (by decide +kernel) j hj).2
theorem bi_pt0 {f : Nat → Nat → Int32} {g : Nat → Int32} (h : br_cel 9 0 f g) {j : Nat} (hj : j < 40) : f 18 j = g (867 + j) := by simpa using (h (9, 0, 40, 867, -1, 200) (by decide +kernel) j hj).1
theorem bb_pt0 {w o : Nat} {f : Nat → Nat → Int32} {g : Nat → Int32} (h : br_cel w o f g) {j : Nat} (hj : j < 40) : -1 ≤ (g (o + (867 + j))).toInt ∧ (g (o + (867 + j))).toInt ≤ 200 := by simpa using (h (9, 0, 40, 867, -1, 200) (by decide +kernel) j hj).2
theorem bi_pt1 {f : Nat → Nat → Int32} {g : Nat → Int32} (h : br_cel 9 0 f g) {j : Nat} (hj : j < 40) : f 19 j = g (907 + j) := by simpa using (h (10, 0, 40, 907, -1, 200) (by decide +kernel) j hj).1
theorem bb_pt1 {w o : Nat} {f : Nat → Nat → Int32} {g : Nat → Int32} (h : br_cel w o f g) {j : Nat} (hj : j < 40) : -1 ≤ (g (o + (907 + j))).toInt ∧ (g (o + (907 + j))).toInt ≤ 200 := by simpa using (h (10, 0, 40, 907, -1, 200) (by decide +kernel) j hj).2
theorem bi_pt2 {f : Nat → Nat → Int32} {g : Nat → Int32} (h : br_cel 9 0 f g) {j : Nat} (hj : j < 40) : f 20 j = g (947 + j) := by simpa using (h (11, 0, 40, 947, -1, 200) (by decide +kernel) j hj).1
theorem bb_pt2 {w o : Nat} {f : Nat → Nat → Int32} {g : Nat → Int32} (h : br_cel w o f g) {j : Nat} (hj : j < 40) : -1 ≤ (g (o + (947 + j))).toInt ∧ (g (o + (947 + j))).toInt ≤ 200 := by simpa using (h (11, 0, 40, 947, -1, 200) (by decide +kernel) j hj).2
theorem bi_pt3 {f : Nat → Nat → Int32} {g : Nat → Int32} (h : br_cel 9 0 f g) {j : Nat} (hj : j < 40) : f 21 j = g (987 + j) := by simpa using (h (12, 0, 40, 987, -1, 200) (by decide +kernel) j hj).1
theorem bb_pt3 {w o : Nat} {f : Nat → Nat → Int32} {g : Nat → Int32} (h : br_cel w o f g) {j : Nat} (hj : j < 40) : -1 ≤ (g (o + (987 + j))).toInt ∧ (g (o + (987 + j))).toInt ≤ 200 := by simpa using (h (12, 0, 40, 987, -1, 200) (by decide +kernel) j hj).2
theorem bi_pt4 {f : Nat → Nat → Int32} {g : Nat → Int32} (h : br_cel 9 0 f g) {j : Nat} (hj : j < 40) : f 22 j = g (1027 + j) := by simpa using (h (13, 0, 40, 1027, -1, 200) (by decide +kernel) j hj).1
theorem bb_pt4 {w o : Nat} {f : Nat → Nat → Int32} {g : Nat → Int32} (h : br_cel w o f g) {j : Nat} (hj : j < 40) : -1 ≤ (g (o + (1027 + j))).toInt ∧ (g (o + (1027 + j))).toInt ≤ 200 := by simpa using (h (13, 0, 40, 1027, -1, 200) (by decide +kernel) j hj).2
theorem bi_pt5 {f : Nat → Nat → Int32} {g : Nat → Int32} (h : br_cel 9 0 f g) {j : Nat} (hj : j < 40) : f 23 j = g (1067 + j) := by simpa using (h (14, 0, 40, 1067, -1, 200) (by decide +kernel) j hj).1
theorem bb_pt5 {w o : Nat} {f : Nat → Nat → Int32} {g : Nat → Int32} (h : br_cel w o f g) {j : Nat} (hj : j < 40) : -1 ≤ (g (o + (1067 + j))).toInt ∧ (g (o + (1067 + j))).toInt ≤ 200 := by simpa using (h (14, 0, 40, 1067, -1, 200) (by decide +kernel) j hj).2
theorem bi_tyear {f : Nat → Nat → Int32} {g : Nat → Int32} (h : br_cel 9 0 f g) {j : Nat} (hj : j < 6) : f 24 j = g (1107 + j) := by simpa using (h (15, 0, 6, 1107, 0, 6) (by decide +kernel) j hj).1
theorem bb_tyear {w o : Nat} {f : Nat → Nat → Int32} {g : Nat → Int32} (h : br_cel w o f g) {j : Nat} (hj : j < 6) : 0 ≤ (g (o + (1107 + j))).toInt ∧ (g (o + (1107 + j))).toInt ≤ 6 := by simpa using (h (15, 0, 6, 1107, 0, 6) (by decide +kernel) j hj).2
theorem bi_lawlines {f : Nat → Nat → Int32} {g : Nat → Int32} (h : br_cel 9 0 f g) : f 25 1 = g 19 := by simpa using (h (16, 1, 1, 19, 0, 30) (by decide +kernel) 0 (by decide)).1
theorem bb_lawlines {w o : Nat} {f : Nat → Nat → Int32} {g : Nat → Int32} (h : br_cel w o f g) : 0 ≤ (g (o + 19)).toInt ∧ (g (o + 19)).toInt ≤ 30 := by simpa using (h (16, 1, 1, 19, 0, 30) (by decide +kernel) 0 (by decide)).2
theorem bi_lawmv {f : Nat → Nat → Int32} {g : Nat → Int32} (h : br_cel 9 0 f g) {j : Nat} (hj : j < 5) : f 26 j = g (1 + j) := by simpa using (h (17, 0, 5, 1, -99, 99) (by decide +kernel) j hj).1
theorem bb_lawmv {w o : Nat} {f : Nat → Nat → Int32} {g : Nat → Int32} (h : br_cel w o f g) {j : Nat} (hj : j < 5) : -99 ≤ (g (o + (1 + j))).toInt ∧ (g (o + (1 + j))).toInt ≤ 99 := by simpa using (h (17, 0, 5, 1, -99, 99) (by decide +kernel) j hj).2
theorem bi_lawgg {f : Nat → Nat → Int32} {g : Nat → Int32} (h : br_cel 9 0 f g) {j : Nat} (hj : j < 6) : f 26 (5 + j) = g (6 + j) := by simpa using (h (17, 5, 6, 6, 0, 99) (by decide +kernel) j hj).1
theorem bb_lawgg {w o : Nat} {f : Nat → Nat → Int32} {g : Nat → Int32} (h : br_cel w o f g) {j : Nat} (hj : j < 6) : 0 ≤ (g (o + (6 + j))).toInt ∧ (g (o + (6 + j))).toInt ≤ 99 := by simpa using (h (17, 5, 6, 6, 0, 99) (by decide +kernel) j hj).2
theorem bi_lawkn {f : Nat → Nat → Int32} {g : Nat → Int32} (h : br_cel 9 0 f g) : f 26 11 = g 12 := by simpa using (h (17, 11, 1, 12, 0, 100) (by decide +kernel) 0 (by decide)).1
theorem bb_lawkn {w o : Nat} {f : Nat → Nat → Int32} {g : Nat → Int32} (h : br_cel w o f g) : 0 ≤ (g (o + 12)).toInt ∧ (g (o + 12)).toInt ≤ 100 := by simpa using (h (17, 11, 1, 12, 0, 100) (by decide +kernel) 0 (by decide)).2
theorem bi_lawfifty {f : Nat → Nat → Int32} {g : Nat → Int32} (h : br_cel 9 0 f g) {j : Nat} (hj : j < 3) : f 26 (12 + j) = g (13 + j) := by simpa using (h (17, 12, 3, 13, 0, 50) (by decide +kernel) j hj).1
theorem bb_lawfifty {w o : Nat} {f : Nat → Nat → Int32} {g : Nat → Int32} (h : br_cel w o f g) {j : Nat} (hj : j < 3) : 0 ≤ (g (o + (13 + j))).toInt ∧ (g (o + (13 + j))).toInt ≤ 50 := by simpa using (h (17, 12, 3, 13, 0, 50) (by decide +kernel) j hj).2
theorem bi_lawnoise {f : Nat → Nat → Int32} {g : Nat → Int32} (h : br_cel 9 0 f g) : f 26 15 = g 16 := by simpa using (h (17, 15, 1, 16, 0, 20) (by decide +kernel) 0 (by decide)).1
theorem bb_lawnoise {w o : Nat} {f : Nat → Nat → Int32} {g : Nat → Int32} (h : br_cel w o f g) : 0 ≤ (g (o + 16)).toInt ∧ (g (o + 16)).toInt ≤ 20 := by simpa using (h (17, 15, 1, 16, 0, 20) (by decide +kernel) 0 (by decide)).2
theorem bi_lawfr {f : Nat → Nat → Int32} {g : Nat → Int32} (h : br_cel 9 0 f g) {j : Nat} (hj : j < 2) : f 26 (16 + j) = g (17 + j) := by simpa using (h (17, 16, 2, 17, 0, 200) (by decide +kernel) j hj).1
theorem bb_lawfr {w o : Nat} {f : Nat → Nat → Int32} {g : Nat → Int32} (h : br_cel w o f g) {j : Nat} (hj : j < 2) : 0 ≤ (g (o + (17 + j))).toInt ∧ (g (o + (17 + j))).toInt ≤ 200 := by simpa using (h (17, 16, 2, 17, 0, 200) (by decide +kernel) j hj).2
theorem bi_k0lines {f : Nat → Nat → Int32} {g : Nat → Int32} (h : br_cel 9 0 f g) : f 44 1 = g 39 := by simpa using (h (35, 1, 1, 39, 0, 30) (by decide +kernel) 0 (by decide)).1
theorem bb_k0lines {w o : Nat} {f : Nat → Nat → Int32} {g : Nat → Int32} (h : br_cel w o f g) : 0 ≤ (g (o + 39)).toInt ∧ (g (o + 39)).toInt ≤ 30 := by simpa using (h (35, 1, 1, 39, 0, 30) (by decide +kernel) 0 (by decide)).2
theorem bi_k0mv {f : Nat → Nat → Int32} {g : Nat → Int32} (h : br_cel 9 0 f g) {j : Nat} (hj : j < 5) : f 45 j = g (21 + j) := by simpa using (h (36, 0, 5, 21, -99, 99) (by decide +kernel) j hj).1
theorem bb_k0mv {w o : Nat} {f : Nat → Nat → Int32} {g : Nat → Int32} (h : br_cel w o f g) {j : Nat} (hj : j < 5) : -99 ≤ (g (o + (21 + j))).toInt ∧ (g (o + (21 + j))).toInt ≤ 99 := by simpa using (h (36, 0, 5, 21, -99, 99) (by decide +kernel) j hj).2
theorem bi_k0gg {f : Nat → Nat → Int32} {g : Nat → Int32} (h : br_cel 9 0 f g) {j : Nat} (hj : j < 6) : f 45 (5 + j) = g (26 + j) := by simpa using (h (36, 5, 6, 26, 0, 99) (by decide +kernel) j hj).1
theorem bb_k0gg {w o : Nat} {f : Nat → Nat → Int32} {g : Nat → Int32} (h : br_cel w o f g) {j : Nat} (hj : j < 6) : 0 ≤ (g (o + (26 + j))).toInt ∧ (g (o + (26 + j))).toInt ≤ 99 := by simpa using (h (36, 5, 6, 26, 0, 99) (by decide +kernel) j hj).2
theorem bi_k0kn {f : Nat → Nat → Int32} {g : Nat → Int32} (h : br_cel 9 0 f g) : f 45 11 = g 32 := by simpa using (h (36, 11, 1, 32, 0, 100) (by decide +kernel) 0 (by decide)).1
theorem bb_k0kn {w o : Nat} {f : Nat → Nat → Int32} {g : Nat → Int32} (h : br_cel w o f g) : 0 ≤ (g (o + 32)).toInt ∧ (g (o + 32)).toInt ≤ 100 := by simpa using (h (36, 11, 1, 32, 0, 100) (by decide +kernel) 0 (by decide)).2
theorem bi_k0fifty {f : Nat → Nat → Int32} {g : Nat → Int32} (h : br_cel 9 0 f g) {j : Nat} (hj : j < 3) : f 45 (12 + j) = g (33 + j) := by simpa using (h (36, 12, 3, 33, 0, 50) (by decide +kernel) j hj).1
theorem bb_k0fifty {w o : Nat} {f : Nat → Nat → Int32} {g : Nat → Int32} (h : br_cel w o f g) {j : Nat} (hj : j < 3) : 0 ≤ (g (o + (33 + j))).toInt ∧ (g (o + (33 + j))).toInt ≤ 50 := by simpa using (h (36, 12, 3, 33, 0, 50) (by decide +kernel) j hj).2
theorem bi_k0noise {f : Nat → Nat → Int32} {g : Nat → Int32} (h : br_cel 9 0 f g) : f 45 15 = g 36 := by simpa using (h (36, 15, 1, 36, 0, 20) (by decide +kernel) 0 (by decide)).1
theorem bb_k0noise {w o : Nat} {f : Nat → Nat → Int32} {g : Nat → Int32} (h : br_cel w o f g) : 0 ≤ (g (o + 36)).toInt ∧ (g (o + 36)).toInt ≤ 20 := by simpa using (h (36, 15, 1, 36, 0, 20) (by decide +kernel) 0 (by decide)).2
theorem bi_k1lines {f : Nat → Nat → Int32} {g : Nat → Int32} (h : br_cel 9 0 f g) : f 46 1 = g 59 := by simpa using (h (37, 1, 1, 59, 0, 30) (by decide +kernel) 0 (by decide)).1
theorem bb_k1lines {w o : Nat} {f : Nat → Nat → Int32} {g : Nat → Int32} (h : br_cel w o f g) : 0 ≤ (g (o + 59)).toInt ∧ (g (o + 59)).toInt ≤ 30 := by simpa using (h (37, 1, 1, 59, 0, 30) (by decide +kernel) 0 (by decide)).2
theorem bi_k1mv {f : Nat → Nat → Int32} {g : Nat → Int32} (h : br_cel 9 0 f g) {j : Nat} (hj : j < 5) : f 47 j = g (41 + j) := by simpa using (h (38, 0, 5, 41, -99, 99) (by decide +kernel) j hj).1
theorem bb_k1mv {w o : Nat} {f : Nat → Nat → Int32} {g : Nat → Int32} (h : br_cel w o f g) {j : Nat} (hj : j < 5) : -99 ≤ (g (o + (41 + j))).toInt ∧ (g (o + (41 + j))).toInt ≤ 99 := by simpa using (h (38, 0, 5, 41, -99, 99) (by decide +kernel) j hj).2
theorem bi_k1gg {f : Nat → Nat → Int32} {g : Nat → Int32} (h : br_cel 9 0 f g) {j : Nat} (hj : j < 6) : f 47 (5 + j) = g (46 + j) := by simpa using (h (38, 5, 6, 46, 0, 99) (by decide +kernel) j hj).1
theorem bb_k1gg {w o : Nat} {f : Nat → Nat → Int32} {g : Nat → Int32} (h : br_cel w o f g) {j : Nat} (hj : j < 6) : 0 ≤ (g (o + (46 + j))).toInt ∧ (g (o + (46 + j))).toInt ≤ 99 := by simpa using (h (38, 5, 6, 46, 0, 99) (by decide +kernel) j hj).2
theorem bi_k1kn {f : Nat → Nat → Int32} {g : Nat → Int32} (h : br_cel 9 0 f g) : f 47 11 = g 52 := by simpa using (h (38, 11, 1, 52, 0, 100) (by decide +kernel) 0 (by decide)).1
theorem bb_k1kn {w o : Nat} {f : Nat → Nat → Int32} {g : Nat → Int32} (h : br_cel w o f g) : 0 ≤ (g (o + 52)).toInt ∧ (g (o + 52)).toInt ≤ 100 := by simpa using (h (38, 11, 1, 52, 0, 100) (by decide +kernel) 0 (by decide)).2
theorem bi_k1fifty {f : Nat → Nat → Int32} {g : Nat → Int32} (h : br_cel 9 0 f g) {j : Nat} (hj : j < 3) : f 47 (12 + j) = g (53 + j) := by simpa using (h (38, 12, 3, 53, 0, 50) (by decide +kernel) j hj).1
theorem bb_k1fifty {w o : Nat} {f : Nat → Nat → Int32} {g : Nat → Int32} (h : br_cel w o f g) {j : Nat} (hj : j < 3) : 0 ≤ (g (o + (53 + j))).toInt ∧ (g (o + (53 + j))).toInt ≤ 50 := by simpa using (h (38, 12, 3, 53, 0, 50) (by decide +kernel) j hj).2
theorem bi_k1noise {f : Nat → Nat → Int32} {g : Nat → Int32} (h : br_cel 9 0 f g) : f 47 15 = g 56 := by simpa using (h (38, 15, 1, 56, 0, 20) (by decide +kernel) 0 (by decide)).1
theorem bb_k1noise {w o : Nat} {f : Nat → Nat → Int32} {g : Nat → Int32} (h : br_cel w o f g) : 0 ≤ (g (o + 56)).toInt ∧ (g (o + 56)).toInt ≤ 20 := by simpa using (h (38, 15, 1, 56, 0, 20) (by decide +kernel) 0 (by decide)).2
theorem bi_k2lines {f : Nat → Nat → Int32} {g : Nat → Int32} (h : br_cel 9 0 f g) : f 48 1 = g 79 := by simpa using (h (39, 1, 1, 79, 0, 30) (by decide +kernel) 0 (by decide)).1
theorem bb_k2lines {w o : Nat} {f : Nat → Nat → Int32} {g : Nat → Int32} (h : br_cel w o f g) : 0 ≤ (g (o + 79)).toInt ∧ (g (o + 79)).toInt ≤ 30 := by simpa using (h (39, 1, 1, 79, 0, 30) (by decide +kernel) 0 (by decide)).2
theorem bi_k2mv {f : Nat → Nat → Int32} {g : Nat → Int32} (h : br_cel 9 0 f g) {j : Nat} (hj : j < 5) : f 49 j = g (61 + j) := by simpa using (h (40, 0, 5, 61, -99, 99) (by decide +kernel) j hj).1
theorem bb_k2mv {w o : Nat} {f : Nat → Nat → Int32} {g : Nat → Int32} (h : br_cel w o f g) {j : Nat} (hj : j < 5) : -99 ≤ (g (o + (61 + j))).toInt ∧ (g (o + (61 + j))).toInt ≤ 99 := by simpa using (h (40, 0, 5, 61, -99, 99) (by decide +kernel) j hj).2
theorem bi_k2gg {f : Nat → Nat → Int32} {g : Nat → Int32} (h : br_cel 9 0 f g) {j : Nat} (hj : j < 6) : f 49 (5 + j) = g (66 + j) := by simpa using (h (40, 5, 6, 66, 0, 99) (by decide +kernel) j hj).1
theorem bb_k2gg {w o : Nat} {f : Nat → Nat → Int32} {g : Nat → Int32} (h : br_cel w o f g) {j : Nat} (hj : j < 6) : 0 ≤ (g (o + (66 + j))).toInt ∧ (g (o + (66 + j))).toInt ≤ 99 := by simpa using (h (40, 5, 6, 66, 0, 99) (by decide +kernel) j hj).2
theorem bi_k2kn {f : Nat → Nat → Int32} {g : Nat → Int32} (h : br_cel 9 0 f g) : f 49 11 = g 72 := by simpa using (h (40, 11, 1, 72, 0, 100) (by decide +kernel) 0 (by decide)).1
theorem bb_k2kn {w o : Nat} {f : Nat → Nat → Int32} {g : Nat → Int32} (h : br_cel w o f g) : 0 ≤ (g (o + 72)).toInt ∧ (g (o + 72)).toInt ≤ 100 := by simpa using (h (40, 11, 1, 72, 0, 100) (by decide +kernel) 0 (by decide)).2
theorem bi_k2fifty {f : Nat → Nat → Int32} {g : Nat → Int32} (h : br_cel 9 0 f g) {j : Nat} (hj : j < 3) : f 49 (12 + j) = g (73 + j) := by simpa using (h (40, 12, 3, 73, 0, 50) (by decide +kernel) j hj).1
theorem bb_k2fifty {w o : Nat} {f : Nat → Nat → Int32} {g : Nat → Int32} (h : br_cel w o f g) {j : Nat} (hj : j < 3) : 0 ≤ (g (o + (73 + j))).toInt ∧ (g (o + (73 + j))).toInt ≤ 50 := by simpa using (h (40, 12, 3, 73, 0, 50) (by decide +kernel) j hj).2
theorem bi_k2noise {f : Nat → Nat → Int32} {g : Nat → Int32} (h : br_cel 9 0 f g) : f 49 15 = g 76 := by simpa using (h (40, 15, 1, 76, 0, 20) (by decide +kernel) 0 (by decide)).1
theorem bb_k2noise {w o : Nat} {f : Nat → Nat → Int32} {g : Nat → Int32} (h : br_cel w o f g) : 0 ≤ (g (o + 76)).toInt ∧ (g (o + 76)).toInt ≤ 20 := by simpa using (h (40, 15, 1, 76, 0, 20) (by decide +kernel) 0 (by decide)).2
theorem bi_k3lines {f : Nat → Nat → Int32} {g : Nat → Int32} (h : br_cel 9 0 f g) : f 50 1 = g 99 := by simpa using (h (41, 1, 1, 99, 0, 30) (by decide +kernel) 0 (by decide)).1
theorem bb_k3lines {w o : Nat} {f : Nat → Nat → Int32} {g : Nat → Int32} (h : br_cel w o f g) : 0 ≤ (g (o + 99)).toInt ∧ (g (o + 99)).toInt ≤ 30 := by simpa using (h (41, 1, 1, 99, 0, 30) (by decide +kernel) 0 (by decide)).2
theorem bi_k3mv {f : Nat → Nat → Int32} {g : Nat → Int32} (h : br_cel 9 0 f g) {j : Nat} (hj : j < 5) : f 51 j = g (81 + j) := by simpa using (h (42, 0, 5, 81, -99, 99) (by decide +kernel) j hj).1
theorem bb_k3mv {w o : Nat} {f : Nat → Nat → Int32} {g : Nat → Int32} (h : br_cel w o f g) {j : Nat} (hj : j < 5) : -99 ≤ (g (o + (81 + j))).toInt ∧ (g (o + (81 + j))).toInt ≤ 99 := by simpa using (h (42, 0, 5, 81, -99, 99) (by decide +kernel) j hj).2
theorem bi_k3gg {f : Nat → Nat → Int32} {g : Nat → Int32} (h : br_cel 9 0 f g) {j : Nat} (hj : j < 6) : f 51 (5 + j) = g (86 + j) := by simpa using (h (42, 5, 6, 86, 0, 99) (by decide +kernel) j hj).1
theorem bb_k3gg {w o : Nat} {f : Nat → Nat → Int32} {g : Nat → Int32} (h : br_cel w o f g) {j : Nat} (hj : j < 6) : 0 ≤ (g (o + (86 + j))).toInt ∧ (g (o + (86 + j))).toInt ≤ 99 := by simpa using (h (42, 5, 6, 86, 0, 99) (by decide +kernel) j hj).2
theorem bi_k3kn {f : Nat → Nat → Int32} {g : Nat → Int32} (h : br_cel 9 0 f g) : f 51 11 = g 92 := by simpa using (h (42, 11, 1, 92, 0, 100) (by decide +kernel) 0 (by decide)).1
theorem bb_k3kn {w o : Nat} {f : Nat → Nat → Int32} {g : Nat → Int32} (h : br_cel w o f g) : 0 ≤ (g (o + 92)).toInt ∧ (g (o + 92)).toInt ≤ 100 := by simpa using (h (42, 11, 1, 92, 0, 100) (by decide +kernel) 0 (by decide)).2
theorem bi_k3fifty {f : Nat → Nat → Int32} {g : Nat → Int32} (h : br_cel 9 0 f g) {j : Nat} (hj : j < 3) : f 51 (12 + j) = g (93 + j) := by simpa using (h (42, 12, 3, 93, 0, 50) (by decide +kernel) j hj).1
theorem bb_k3fifty {w o : Nat} {f : Nat → Nat → Int32} {g : Nat → Int32} (h : br_cel w o f g) {j : Nat} (hj : j < 3) : 0 ≤ (g (o + (93 + j))).toInt ∧ (g (o + (93 + j))).toInt ≤ 50 := by simpa using (h (42, 12, 3, 93, 0, 50) (by decide +kernel) j hj).2
theorem bi_k3noise {f : Nat → Nat → Int32} {g : Nat → Int32} (h : br_cel 9 0 f g) : f 51 15 = g 96 := by simpa using (h (42, 15, 1, 96, 0, 20) (by decide +kernel) 0 (by decide)).1
theorem bb_k3noise {w o : Nat} {f : Nat → Nat → Int32} {g : Nat → Int32} (h : br_cel w o f g) : 0 ≤ (g (o + 96)).toInt ∧ (g (o + 96)).toInt ≤ 20 := by simpa using (h (42, 15, 1, 96, 0, 20) (by decide +kernel) 0 (by decide)).2
theorem bi_iskept {f : Nat → Nat → Int32} {g : Nat → Int32} (h : br_cel 9 0 f g) {j : Nat} (hj : j < 4) : f 28 j = g (100 + j) := by simpa using (h (19, 0, 4, 100, 0, 1) (by decide +kernel) j hj).1
theorem bb_iskept {w o : Nat} {f : Nat → Nat → Int32} {g : Nat → Int32} (h : br_cel w o f g) {j : Nat} (hj : j < 4) : 0 ≤ (g (o + (100 + j))).toInt ∧ (g (o + (100 + j))).toInt ≤ 1 := by simpa using (h (19, 0, 4, 100, 0, 1) (by decide +kernel) j hj).2
theorem bi_nrules {f : Nat → Nat → Int32} {g : Nat → Int32} (h : br_cel 9 0 f g) : f 29 2 = g 104 := by simpa using (h (20, 2, 1, 104, 0, 12) (by decide +kernel) 0 (by decide)).1
theorem bb_nrules {w o : Nat} {f : Nat → Nat → Int32} {g : Nat → Int32} (h : br_cel w o f g) : 0 ≤ (g (o + 104)).toInt ∧ (g (o + 104)).toInt ≤ 12 := by simpa using (h (20, 2, 1, 104, 0, 12) (by decide +kernel) 0 (by decide)).2
theorem bi_nfilms {f : Nat → Nat → Int32} {g : Nat → Int32} (h : br_cel 9 0 f g) : f 31 3 = g 1114 := by simpa using (h (22, 3, 1, 1114, 0, 24) (by decide +kernel) 0 (by decide)).1
theorem bb_nfilms {w o : Nat} {f : Nat → Nat → Int32} {g : Nat → Int32} (h : br_cel w o f g) : 0 ≤ (g (o + 1114)).toInt ∧ (g (o + 1114)).toInt ≤ 24 := by simpa using (h (22, 3, 1, 1114, 0, 24) (by decide +kernel) 0 (by decide)).2
theorem bi_fway {f : Nat → Nat → Int32} {g : Nat → Int32} (h : br_cel 9 0 f g) {j : Nat} (hj : j < 24) : f 32 j = g (1115 + j) := by simpa using (h (23, 0, 24, 1115, 0, 2) (by decide +kernel) j hj).1
theorem bb_fway {w o : Nat} {f : Nat → Nat → Int32} {g : Nat → Int32} (h : br_cel w o f g) {j : Nat} (hj : j < 24) : 0 ≤ (g (o + (1115 + j))).toInt ∧ (g (o + (1115 + j))).toInt ≤ 2 := by simpa using (h (23, 0, 24, 1115, 0, 2) (by decide +kernel) j hj).2
theorem bi_fnamed {f : Nat → Nat → Int32} {g : Nat → Int32} (h : br_cel 9 0 f g) {j : Nat} (hj : j < 24) : f 33 j = g (1139 + j) := by simpa using (h (24, 0, 24, 1139, 0, 1) (by decide +kernel) j hj).1
theorem bb_fnamed {w o : Nat} {f : Nat → Nat → Int32} {g : Nat → Int32} (h : br_cel w o f g) {j : Nat} (hj : j < 24) : 0 ≤ (g (o + (1139 + j))).toInt ∧ (g (o + (1139 + j))).toInt ≤ 1 := by simpa using (h (24, 0, 24, 1139, 0, 1) (by decide +kernel) j hj).2
theorem bi_fseen {f : Nat → Nat → Int32} {g : Nat → Int32} (h : br_cel 9 0 f g) {j : Nat} (hj : j < 24) : f 34 j = g (1163 + j) := by simpa using (h (25, 0, 24, 1163, 0, 99) (by decide +kernel) j hj).1
theorem bb_fseen {w o : Nat} {f : Nat → Nat → Int32} {g : Nat → Int32} (h : br_cel w o f g) {j : Nat} (hj : j < 24) : 0 ≤ (g (o + (1163 + j))).toInt ∧ (g (o + (1163 + j))).toInt ≤ 99 := by simpa using (h (25, 0, 24, 1163, 0, 99) (by decide +kernel) j hj).2
theorem bi_nmarks {f : Nat → Nat → Int32} {g : Nat → Int32} (h : br_cel 9 0 f g) : f 35 3 = g 1187 := by simpa using (h (26, 3, 1, 1187, 0, 40) (by decide +kernel) 0 (by decide)).1
theorem bb_nmarks {w o : Nat} {f : Nat → Nat → Int32} {g : Nat → Int32} (h : br_cel w o f g) : 0 ≤ (g (o + 1187)).toInt ∧ (g (o + 1187)).toInt ≤ 40 := by simpa using (h (26, 3, 1, 1187, 0, 40) (by decide +kernel) 0 (by decide)).2
theorem bi_mchild {f : Nat → Nat → Int32} {g : Nat → Int32} (h : br_cel 9 0 f g) {j : Nat} (hj : j < 40) : f 36 j = g (1188 + j) := by simpa using (h (27, 0, 40, 1188, 0, 39) (by decide +kernel) j hj).1
theorem bb_mchild {w o : Nat} {f : Nat → Nat → Int32} {g : Nat → Int32} (h : br_cel w o f g) {j : Nat} (hj : j < 40) : 0 ≤ (g (o + (1188 + j))).toInt ∧ (g (o + (1188 + j))).toInt ≤ 39 := by simpa using (h (27, 0, 40, 1188, 0, 39) (by decide +kernel) j hj).2
theorem bi_mtest {f : Nat → Nat → Int32} {g : Nat → Int32} (h : br_cel 9 0 f g) {j : Nat} (hj : j < 40) : f 37 j = g (1228 + j) := by simpa using (h (28, 0, 40, 1228, 0, 5) (by decide +kernel) j hj).1
theorem bb_mtest {w o : Nat} {f : Nat → Nat → Int32} {g : Nat → Int32} (h : br_cel w o f g) {j : Nat} (hj : j < 40) : 0 ≤ (g (o + (1228 + j))).toInt ∧ (g (o + (1228 + j))).toInt ≤ 5 := by simpa using (h (28, 0, 40, 1228, 0, 5) (by decide +kernel) j hj).2
theorem bi_mpoints {f : Nat → Nat → Int32} {g : Nat → Int32} (h : br_cel 9 0 f g) {j : Nat} (hj : j < 40) : f 38 j = g (1268 + j) := by simpa using (h (29, 0, 40, 1268, 0, 200) (by decide +kernel) j hj).1
theorem bb_mpoints {w o : Nat} {f : Nat → Nat → Int32} {g : Nat → Int32} (h : br_cel w o f g) {j : Nat} (hj : j < 40) : 0 ≤ (g (o + (1268 + j))).toInt ∧ (g (o + (1268 + j))).toInt ≤ 200 := by simpa using (h (29, 0, 40, 1268, 0, 200) (by decide +kernel) j hj).2
theorem bi_ntrials {f : Nat → Nat → Int32} {g : Nat → Int32} (h : br_cel 9 0 f g) : f 39 4 = g 1308 := by simpa using (h (30, 4, 1, 1308, 0, 20) (by decide +kernel) 0 (by decide)).1
theorem bb_ntrials {w o : Nat} {f : Nat → Nat → Int32} {g : Nat → Int32} (h : br_cel w o f g) : 0 ≤ (g (o + 1308)).toInt ∧ (g (o + 1308)).toInt ≤ 20 := by simpa using (h (30, 4, 1, 1308, 0, 20) (by decide +kernel) 0 (by decide)).2
theorem bi_wweeks {f : Nat → Nat → Int32} {g : Nat → Int32} (h : br_cel 9 0 f g) {j : Nat} (hj : j < 20) : f 40 j = g (1309 + j) := by simpa using (h (31, 0, 20, 1309, 0, 20) (by decide +kernel) j hj).1
theorem bb_wweeks {w o : Nat} {f : Nat → Nat → Int32} {g : Nat → Int32} (h : br_cel w o f g) {j : Nat} (hj : j < 20) : 0 ≤ (g (o + (1309 + j))).toInt ∧ (g (o + (1309 + j))).toInt ≤ 20 := by simpa using (h (31, 0, 20, 1309, 0, 20) (by decide +kernel) j hj).2
theorem bi_weff {f : Nat → Nat → Int32} {g : Nat → Int32} (h : br_cel 9 0 f g) {j : Nat} (hj : j < 20) : f 41 j = g (1329 + j) := by simpa using (h (32, 0, 20, 1329, -999, 999) (by decide +kernel) j hj).1
theorem bb_weff {w o : Nat} {f : Nat → Nat → Int32} {g : Nat → Int32} (h : br_cel w o f g) {j : Nat} (hj : j < 20) : -999 ≤ (g (o + (1329 + j))).toInt ∧ (g (o + (1329 + j))).toInt ≤ 999 := by simpa using (h (32, 0, 20, 1329, -999, 999) (by decide +kernel) j hj).2
theorem bi_wsize {f : Nat → Nat → Int32} {g : Nat → Int32} (h : br_cel 9 0 f g) {j : Nat} (hj : j < 20) : f 42 j = g (1349 + j) := by simpa using (h (33, 0, 20, 1349, 0, 999) (by decide +kernel) j hj).1
theorem bb_wsize {w o : Nat} {f : Nat → Nat → Int32} {g : Nat → Int32} (h : br_cel w o f g) {j : Nat} (hj : j < 20) : 0 ≤ (g (o + (1349 + j))).toInt ∧ (g (o + (1349 + j))).toInt ≤ 999 := by simpa using (h (33, 0, 20, 1349, 0, 999) (by decide +kernel) j hj).2
theorem bi_wprint {f : Nat → Nat → Int32} {g : Nat → Int32} (h : br_cel 9 0 f g) {j : Nat} (hj : j < 20) : f 43 j = g (1369 + j) := by simpa using (h (34, 0, 20, 1369, 0, 1) (by decide +kernel) j hj).1
theorem bb_wprint {w o : Nat} {f : Nat → Nat → Int32} {g : Nat → Int32} (h : br_cel w o f g) {j : Nat} (hj : j < 20) : 0 ≤ (g (o + (1369 + j))).toInt ∧ (g (o + (1369 + j))).toInt ≤ 1 := by simpa using (h (34, 0, 20, 1369, 0, 1) (by decide +kernel) j hj).2
