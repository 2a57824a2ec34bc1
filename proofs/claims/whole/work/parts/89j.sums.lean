set_option maxRecDepth 100000
set_option maxHeartbeats 4000000
/-! sums of chosen ones on top of others; all that is told of them is how many fulfil what -/
def an_o (P : List Int) : List Int → List Int
  | [] => []
  | s :: S => P.map (fun a => a + s) ++ an_o P S
theorem an_o_app (P : List Int) : ∀ A B : List Int, an_o P (A ++ B) = an_o P A ++ an_o P B
  | [], _ => rfl
  | s :: A, B => by
    show P.map _ ++ an_o P (A ++ B) = (P.map _ ++ an_o P A) ++ an_o P B
    rw [an_o_app P A B, List.append_assoc]
theorem an_o_map (P : List Int) (v : Int) : ∀ S : List Int, an_o P (S.map (· + v)) = (an_o P S).map (· + v)
  | [] => rfl
  | s :: S => by
    show P.map (fun a => a + (s + v)) ++ an_o P (S.map (· + v)) = (P.map (fun a => a + s) ++ an_o P S).map (· + v)
    rw [an_o_map P v S, List.map_append, List.map_map]
    congr 1
    refine List.map_congr_left (fun x _ => ?_)
    simp only [Function.comp]; omega
theorem an_map0 (P : List Int) : P.map (fun a => a + 0) = P := by
  induction P with
  | nil => rfl
  | cons a t ih => rw [List.map_cons, ih, Int.add_zero]
theorem an_o_0 (P : List Int) : an_o P [0] = P := by
  show P.map (fun a => a + 0) ++ [] = P
  rw [an_map0, List.append_nil]
theorem an_st (P l : List Int) (v : Int) (j : Nat) : an_o P (br_si (v :: l) (j + 1)) = an_o P (br_si l (j + 1)) ++ (an_o P (br_si l j)).map (· + v) := by
  show an_o P (br_si l (j + 1) ++ (br_si l j).map (· + v)) = _
  rw [an_o_app, an_o_map]
theorem an_si0 (P l : List Int) : an_o P (br_si l 0) = P := by rw [br_si_0, an_o_0]
theorem an_o_len (P : List Int) : ∀ S : List Int, (an_o P S).length = P.length * S.length
  | [] => rfl
  | s :: S => by
    show (P.map _ ++ an_o P S).length = P.length * (S.length + 1)
    rw [List.length_append, List.length_map, an_o_len P S, Nat.mul_add, Nat.mul_one, Nat.add_comm]
theorem an_si_len : ∀ (l : List Int) (j : Nat), (br_si l j).length ≤ 2 ^ l.length
  | [], 0 => by simp [br_si]
  | [], _ + 1 => by simp [br_si]
  | _ :: l, 0 => by
    rw [br_si_0]
    show 1 ≤ 2 ^ _
    exact Nat.one_le_two_pow
  | v :: l, j + 1 => by
    show (br_si l (j + 1) ++ (br_si l j).map (· + v)).length ≤ 2 ^ (l.length + 1)
    rw [List.length_append, List.length_map, Nat.pow_succ]
    have h1 := an_si_len l (j + 1)
    have h2 := an_si_len l j
    omega
theorem an_o_mem {P : List Int} {x : Int} : ∀ {S : List Int}, x ∈ an_o P S → ∃ a s, a ∈ P ∧ s ∈ S ∧ x = a + s
  | [], h => by cases h
  | s :: S, h => by
    rcases List.mem_append.mp h with h | h
    · obtain ⟨a, ha, e⟩ := List.mem_map.mp h
      exact ⟨a, s, ha, List.mem_cons_self, e.symm⟩
    · obtain ⟨a, s', ha, hs, e⟩ := an_o_mem h
      exact ⟨a, s', ha, List.mem_cons_of_mem _ hs, e⟩
theorem an_si_mem : ∀ {l : List Int} {j : Nat} {x : Int}, (∀ w, w ∈ l → 0 ≤ w) → x ∈ br_si l j → 0 ≤ x ∧ x ≤ br_sum l
  | [], 0, x, _, h => by
    have : x = 0 := List.mem_singleton.mp h
    subst this
    exact ⟨Int.le_refl 0, Int.le_refl 0⟩
  | [], _ + 1, _, _, h => by cases h
  | v :: l, 0, x, hw, h => by
    have hv := hw v List.mem_cons_self
    have := an_si_mem (l := l) (j := 0) (fun w h => hw w (List.mem_cons_of_mem _ h)) h
    show 0 ≤ x ∧ x ≤ v + br_sum l
    omega
  | v :: l, j + 1, x, hw, h => by
    have hv := hw v List.mem_cons_self
    have hl := fun w h => hw w (List.mem_cons_of_mem v h)
    show 0 ≤ x ∧ x ≤ v + br_sum l
    rcases List.mem_append.mp h with h | h
    · have := an_si_mem (l := l) (j := j + 1) hl h
      omega
    · obtain ⟨a, ha, e⟩ := List.mem_map.mp h
      have := an_si_mem (l := l) (j := j) hl ha
      omega
def an_e (A B : List Int) : Prop := ∀ p : Int → Bool, A.countP p = B.countP p
theorem an_e_len {A B : List Int} (h : an_e A B) : A.length = B.length := by
  have := h (fun _ => true)
  rw [List.countP_true] at this
  exact this
theorem an_e_oS {P S S' : List Int} (h : S.Perm S') : an_e (an_o P S) (an_o P S') := by
  induction h with
  | nil => exact fun p => rfl
  | cons x _ ih =>
    intro p
    show (P.map _ ++ an_o P _).countP p = (P.map _ ++ an_o P _).countP p
    rw [List.countP_append, List.countP_append, ih p]
  | swap x y l =>
    intro p
    show (P.map _ ++ (P.map _ ++ an_o P _)).countP p = (P.map _ ++ (P.map _ ++ an_o P _)).countP p
    rw [List.countP_append, List.countP_append, List.countP_append, List.countP_append]
    omega
  | trans _ _ ih1 ih2 => exact fun p => (ih1 p).trans (ih2 p)
theorem an_e_oP {P P' : List Int} (h : an_e P P') : ∀ S : List Int, an_e (an_o P S) (an_o P' S)
  | [] => fun _ => rfl
  | s :: S => fun p => by
    show (P.map _ ++ an_o P S).countP p = (P'.map _ ++ an_o P' S).countP p
    rw [List.countP_append, List.countP_append, an_e_oP h S p, List.countP_map, List.countP_map, h]
theorem an_o_sh (P : List Int) (C c : Int) : ∀ S : List Int, an_o (P.map (· + C)) (S.map (· + c)) = (an_o P S).map (· + (C + c))
  | [] => rfl
  | s :: S => by
    show (P.map (· + C)).map (fun a => a + (s + c)) ++ an_o (P.map (· + C)) (S.map (· + c)) = (P.map (fun a => a + s) ++ an_o P S).map (· + (C + c))
    rw [an_o_sh P C c S, List.map_append, List.map_map, List.map_map]
    congr 1
    refine List.map_congr_left (fun x _ => ?_)
    simp only [Function.comp]; omega
/-! of a sample's room: the numbers, what of them is named, what the class makes of them -/
def an_v (s : List bs_E) : List Int := (s.map (fun e => e.2.1.toInt)).reverse
theorem an_v_s {s : List bs_E} {e : bs_E} : an_v (s ++ [e]) = e.2.1.toInt :: an_v s := by
  unfold an_v; rw [List.map_append, List.reverse_append]; rfl
theorem an_v_len {s : List bs_E} : (an_v s).length = s.length := by unfold an_v; rw [List.length_reverse, List.length_map]
theorem an_v_mem {s : List bs_E} {x : Int} (h : x ∈ an_v s) : ∃ e, e ∈ s ∧ x = e.2.1.toInt := by
  unfold an_v at h
  obtain ⟨e, he, h2⟩ := List.mem_map.mp (List.mem_reverse.mp h)
  exact ⟨e, he, h2.symm⟩
def an_x (f : Int → Int) (w : Bool) (s : List bs_E) : Int := s.foldl (fun a e => if e.2.2 = w then a + f e.2.1.toInt else a) 0
theorem an_x_T {f : Int → Int} {w : Bool} {s : List bs_E} {e : bs_E} (h : e.2.2 = w) : an_x f w (s ++ [e]) = an_x f w s + f e.2.1.toInt := by
  unfold an_x; rw [List.foldl_append]; show (if e.2.2 = w then _ else _) = _; rw [if_pos h]
theorem an_x_F {f : Int → Int} {w : Bool} {s : List bs_E} {e : bs_E} (h : ¬ e.2.2 = w) : an_x f w (s ++ [e]) = an_x f w s := by
  unfold an_x; rw [List.foldl_append]; show (if e.2.2 = w then _ else _) = _; rw [if_neg h]
theorem an_x_sub (c : Int) (w : Bool) (s : List bs_E) : an_x (fun v => v - c) w s = an_x (fun v => v) w s - (bs_n w s : Nat) * c := by
  refine bs_ind (P := fun s => an_x (fun v => v - c) w s = an_x (fun v => v) w s - (bs_n w s : Nat) * c) ?_ (fun l e ih => ?_) s
  · show (0 : Int) = 0 - ((0 : Nat) : Int) * c
    rw [Int.natCast_zero, Int.zero_mul]; rfl
  · by_cases h : e.2.2 = w
    · have : ((bs_n w l + 1 : Nat) : Int) * c = (bs_n w l : Nat) * c + c := by rw [Int.natCast_add, Int.add_mul]; simp
      rw [an_x_T h, an_x_T h, bs_n_T h, ih, this]; omega
    · rw [an_x_F h, an_x_F h, bs_n_F h, ih]
theorem an_x_rev (c : Int) (w : Bool) (s : List bs_E) : an_x (fun v => c - v) w s = (bs_n w s : Nat) * c - an_x (fun v => v) w s := by
  refine bs_ind (P := fun s => an_x (fun v => c - v) w s = (bs_n w s : Nat) * c - an_x (fun v => v) w s) ?_ (fun l e ih => ?_) s
  · show (0 : Int) = ((0 : Nat) : Int) * c - 0
    rw [Int.natCast_zero, Int.zero_mul]; rfl
  · by_cases h : e.2.2 = w
    · have : ((bs_n w l + 1 : Nat) : Int) * c = (bs_n w l : Nat) * c + c := by rw [Int.natCast_add, Int.add_mul]; simp
      rw [an_x_T h, an_x_T h, bs_n_T h, ih, this]; omega
    · rw [an_x_F h, an_x_F h, bs_n_F h, ih]
theorem an_x_sum (s : List bs_E) : br_sum (an_v s) = an_x (fun v => v) true s + an_x (fun v => v) false s := by
  refine bs_ind (P := fun s => br_sum (an_v s) = an_x (fun v => v) true s + an_x (fun v => v) false s) rfl (fun l e ih => ?_) s
  rw [an_v_s]
  show e.2.1.toInt + br_sum (an_v l) = _
  cases he : e.2.2 with
  | true => rw [an_x_T he, an_x_F (by rw [he]; exact fun z => by cases z), ih]; omega
  | false => rw [an_x_F (by rw [he]; exact fun z => by cases z), an_x_T he, ih]; omega
def an_ch (s : List bs_E) : Bool := decide (2 * bs_n true s ≤ s.length)
def an_lo (s : List bs_E) : Int := (bs_fm br_min s).toInt
def an_hi (s : List bs_E) : Int := (bs_fm br_max s).toInt
def an_f (s : List bs_E) (v : Int) : Int := if an_ch s = true then v - an_lo s else an_hi s - v
def an_k (s : List bs_E) : Nat := min (bs_n true s) (s.length - bs_n true s)
theorem an_k_n (s : List bs_E) : an_k s = bs_n (an_ch s) s := by
  have h := bs_n_sum s
  unfold an_k an_ch
  by_cases h1 : 2 * bs_n true s ≤ s.length
  · rw [decide_eq_true h1]; omega
  · rw [decide_eq_false h1]; omega
theorem an_room (s : List bs_E) : ∃ c : Int, (br_si ((an_v s).map (an_f s)) (an_k s)).Perm ((br_si (an_v s) (bs_n true s)).map (· + c)) ∧ an_x (an_f s) (an_ch s) s = an_x (fun v => v) true s + c := by
  have hn := bs_n_sum s
  by_cases h : an_ch s = true
  · have hf : an_f s = fun v => v - an_lo s := by funext v; exact if_pos h
    refine ⟨-((bs_n true s : Nat) * an_lo s), ?_, ?_⟩
    · rw [hf, br_si_sub, an_k_n, h]
      refine List.Perm.of_eq (List.map_congr_left (fun x _ => ?_))
      omega
    · rw [hf, h, an_x_sub]; omega
  · have h' : an_ch s = false := by cases hc : an_ch s with
      | true => exact absurd hc h
      | false => rfl
    have hf : an_f s = fun v => an_hi s - v := by funext v; exact if_neg h
    have hl : (an_v s).length = s.length := an_v_len
    refine ⟨(bs_n false s : Nat) * an_hi s - br_sum (an_v s), ?_, ?_⟩
    · rw [hf, br_si_rev, an_k_n, h']
      have hp := br_si_co (an_v s) (bs_n false s) (by omega)
      have e2 : (an_v s).length - bs_n false s = bs_n true s := by omega
      rw [e2] at hp
      refine (hp.map _).trans (List.Perm.of_eq ?_)
      rw [List.map_map]
      refine List.map_congr_left (fun x _ => ?_)
      simp only [Function.comp]; omega
    · rw [hf, h', an_x_rev, an_x_sum]; omega
/-- all ways, room by room: the sums as they are, as the class has them, as the model has them; what is reached -/
def an_T (l : List bs_E) : Nat → List Int
  | 0 => [0]
  | r + 1 => an_o (an_T l r) (br_si (an_v (bs_r r l)) (bs_n true (bs_r r l)))
def an_P (l : List bs_E) : Nat → List Int
  | 0 => [0]
  | r + 1 => an_o (an_P l r) (br_si ((an_v (bs_r r l)).map (an_f (bs_r r l))) (an_k (bs_r r l)))
def an_M (l : List bs_E) (c : Int) : Nat → List Int
  | 0 => [0]
  | r + 1 => an_o (an_M l c r) (br_si ((an_v (bs_r r l)).map (fun v => v - c)) (bs_n true (bs_r r l)))
def an_X (l : List bs_E) : Nat → Int
  | 0 => 0
  | r + 1 => an_X l r + an_x (fun v => v) true (bs_r r l)
def an_R (l : List bs_E) : Nat → Int
  | 0 => 0
  | r + 1 => an_R l r + an_x (an_f (bs_r r l)) (an_ch (bs_r r l)) (bs_r r l)
def an_Y (l : List bs_E) (c : Int) : Nat → Int
  | 0 => 0
  | r + 1 => an_Y l c r + an_x (fun v => v - c) true (bs_r r l)
def an_n (w : Bool) (l : List bs_E) : Nat → Nat
  | 0 => 0
  | r + 1 => an_n w l r + bs_n w (bs_r r l)
theorem an_PT (l : List bs_E) : ∀ r, ∃ C, an_e (an_P l r) ((an_T l r).map (· + C)) ∧ an_R l r = an_X l r + C
  | 0 => ⟨0, fun p => by show [(0 : Int)].countP p = ([0].map (fun a => a + 0)).countP p; rw [an_map0], rfl⟩
  | r + 1 => by
    obtain ⟨C, h1, h2⟩ := an_PT l r
    obtain ⟨c, h3, h4⟩ := an_room (bs_r r l)
    refine ⟨C + c, fun p => ?_, ?_⟩
    · show (an_o (an_P l r) _).countP p = ((an_o (an_T l r) _).map _).countP p
      rw [an_e_oS h3 p, an_e_oP h1 _ p, an_o_sh]
    · show an_R l r + _ = an_X l r + _ + (C + c)
      rw [h2, h4]; omega
theorem an_MT (l : List bs_E) (c : Int) : ∀ r, ∃ C, an_M l c r = (an_T l r).map (· + C) ∧ an_Y l c r = an_X l r + C
  | 0 => ⟨0, by show [(0 : Int)] = [0].map (fun a => a + 0); rw [an_map0], rfl⟩
  | r + 1 => by
    obtain ⟨C, h1, h2⟩ := an_MT l c r
    refine ⟨C - (bs_n true (bs_r r l) : Nat) * c, ?_, ?_⟩
    · show an_o (an_M l c r) _ = (an_o (an_T l r) _).map _
      rw [br_si_sub, h1, Int.sub_eq_add_neg, ← an_o_sh]
      congr 1
    · show an_Y l c r + _ = an_X l r + _ + _
      rw [h2, an_x_sub]; omega
/-- in how many ways as much or more; all ways -/
def an_A (l : List bs_E) : Nat := (an_T l 18).countP (fun t => decide (an_X l 18 ≤ t))
def an_B (l : List bs_E) : Nat := (an_T l 18).length
theorem an_sh {S T : List Int} {C R X : Int} (h : an_e S (T.map (· + C))) (h2 : R = X + C) : S.countP (fun t => decide (R ≤ t)) = T.countP (fun t => decide (X ≤ t)) ∧ S.length = T.length := by
  refine ⟨?_, by rw [an_e_len h, List.length_map]⟩
  rw [h, List.countP_map]
  refine List.countP_congr (fun x _ => ?_)
  simp only [Function.comp, decide_eq_true_eq]; omega
theorem an_class (l : List bs_E) : (an_P l 18).countP (fun t => decide (an_R l 18 ≤ t)) = an_A l ∧ (an_P l 18).length = an_B l := by
  obtain ⟨C, h1, h2⟩ := an_PT l 18
  exact an_sh h1 h2
theorem an_model (l : List bs_E) (c : Int) (r : Nat) : (an_M l c r).countP (fun t => decide (an_Y l c r ≤ t)) = (an_T l r).countP (fun t => decide (an_X l r ≤ t)) ∧ (an_M l c r).length = (an_T l r).length := by
  obtain ⟨C, h1, h2⟩ := an_MT l c r
  exact an_sh (fun p => by rw [h1]) h2
theorem bs_r_nil {l : List bs_E} {r : Nat} (h : ∀ e, e ∈ l → ¬ e.1 = r) : bs_r r l = [] := by
  unfold bs_r
  exact List.filter_eq_nil_iff.mpr (fun e he => by simp [h e he])
theorem an_T_more {l : List bs_E} {R : Nat} (h : ∀ e, e ∈ l → e.1 < R) : ∀ k, an_T l (R + k) = an_T l R ∧ an_X l (R + k) = an_X l R
  | 0 => ⟨rfl, rfl⟩
  | k + 1 => by
    obtain ⟨h1, h2⟩ := an_T_more h k
    have hn := bs_r_nil (l := l) (r := R + k) (fun e he => by have := h e he; omega)
    refine ⟨?_, ?_⟩
    · show an_o (an_T l (R + k)) (br_si (an_v (bs_r (R + k) l)) (bs_n true (bs_r (R + k) l))) = _
      rw [hn, h1]
      show an_o (an_T l R) (br_si (an_v []) 0) = _
      rw [an_si0]
    · show an_X l (R + k) + an_x (fun v => v) true (bs_r (R + k) l) = _
      rw [hn, h2]
      show an_X l R + 0 = _
      rw [Int.add_zero]
theorem an_n_s {w : Bool} {l : List bs_E} {e : bs_E} : ∀ r, an_n w (l ++ [e]) r = an_n w l r + (if e.1 < r ∧ e.2.2 = w then 1 else 0)
  | 0 => by rw [if_neg (by omega)]; rfl
  | r + 1 => by
    show an_n w (l ++ [e]) r + bs_n w (bs_r r (l ++ [e])) = an_n w l r + bs_n w (bs_r r l) + _
    rw [an_n_s r]
    by_cases h : e.1 = r
    · rw [bs_r_T h, if_neg (by omega)]
      by_cases h2 : e.2.2 = w
      · rw [bs_n_T h2, if_pos ⟨by omega, h2⟩]; omega
      · rw [bs_n_F h2, if_neg (fun z => h2 z.2)]; omega
    · rw [bs_r_F h]
      by_cases h2 : e.1 < r ∧ e.2.2 = w
      · rw [if_pos h2, if_pos ⟨by omega, h2.2⟩]; omega
      · rw [if_neg h2, if_neg (fun z => h2 ⟨by omega, z.2⟩)]; omega
theorem an_n_le {w : Bool} (l : List bs_E) (r : Nat) : an_n w l r ≤ bs_n w l := by
  refine bs_ind (P := fun l => an_n w l r ≤ bs_n w l) ?_ (fun l e ih => ?_) l
  · have : ∀ r, an_n w [] r = 0 := fun r => by
      induction r with
      | zero => rfl
      | succ r ih => show an_n w [] r + 0 = 0; omega
    rw [this]; exact Nat.zero_le _
  · rw [an_n_s]
    by_cases h2 : e.2.2 = w
    · rw [bs_n_T h2]
      by_cases h3 : e.1 < r ∧ e.2.2 = w
      · rw [if_pos h3]; omega
      · rw [if_neg h3]; omega
    · rw [bs_n_F h2, if_neg (fun z => h2 z.2)]; exact ih
theorem an_n_all {w : Bool} {R : Nat} (l : List bs_E) : (∀ e, e ∈ l → e.1 < R) → an_n w l R = bs_n w l := by
  refine bs_ind (P := fun l => (∀ e, e ∈ l → e.1 < R) → an_n w l R = bs_n w l) (fun _ => ?_) (fun l e ih h => ?_) l
  · have := an_n_le (w := w) [] R
    have h0 : bs_n w [] = 0 := rfl
    omega
  · rw [an_n_s, ih (fun e' he => h e' (List.mem_append.mpr (Or.inl he)))]
    have h1 := h e (List.mem_append.mpr (Or.inr List.mem_cons_self))
    by_cases h2 : e.2.2 = w
    · rw [bs_n_T h2, if_pos ⟨h1, h2⟩]
    · rw [bs_n_F h2, if_neg (fun z => h2 z.2), Nat.add_zero]
theorem an_n_len (l : List bs_E) (r : Nat) : an_n true l r + an_n false l r ≤ l.length := by
  have h1 := an_n_le (w := true) l r
  have h2 := an_n_le (w := false) l r
  have h3 := bs_n_sum l
  omega
theorem an_T_len (l : List bs_E) : ∀ r, (an_T l r).length ≤ 2 ^ (an_n true l r + an_n false l r)
  | 0 => Nat.le_refl 1
  | r + 1 => by
    show (an_o (an_T l r) _).length ≤ 2 ^ (an_n true l r + bs_n true (bs_r r l) + (an_n false l r + bs_n false (bs_r r l)))
    have h1 := an_T_len l r
    have h2 := an_si_len (an_v (bs_r r l)) (bs_n true (bs_r r l))
    have h3 := bs_n_sum (bs_r r l)
    rw [an_v_len] at h2
    have e : an_n true l r + bs_n true (bs_r r l) + (an_n false l r + bs_n false (bs_r r l)) = (an_n true l r + an_n false l r) + (bs_r r l).length := by omega
    rw [an_o_len, e, Nat.pow_add]
    exact Nat.mul_le_mul h1 h2
theorem an_B_le {l : List bs_E} (h : l.length ≤ 40) : an_B l ≤ 1099511627776 ∧ an_A l ≤ an_B l := by
  have h1 := an_T_len l 18
  have h2 := an_n_len l 18
  have h3 : (2 : Nat) ^ (an_n true l 18 + an_n false l 18) ≤ 2 ^ 40 := Nat.pow_le_pow_right (by omega) (by omega)
  refine ⟨?_, List.countP_le_length⟩
  have : (2 : Nat) ^ 40 = 1099511627776 := by decide
  unfold an_B
  omega
/-! the least and the greatest of a room -/
def br_b2 (l : List bs_E) : Prop := ∀ e, e ∈ l → -200 ≤ e.2.1.toInt ∧ e.2.1.toInt ≤ 200
theorem br_b2_r {l : List bs_E} {r : Nat} (h : br_b2 l) : br_b2 (bs_r r l) := fun e he => h e (List.mem_filter.mp he).1
theorem an_lohi (s : List bs_E) : br_b2 s → s ≠ [] → (∀ e, e ∈ s → an_lo s ≤ e.2.1.toInt ∧ e.2.1.toInt ≤ an_hi s) ∧ -200 ≤ an_lo s ∧ an_hi s ≤ 200 := by
  refine bs_ind (P := fun s => br_b2 s → s ≠ [] → (∀ e, e ∈ s → an_lo s ≤ e.2.1.toInt ∧ e.2.1.toInt ≤ an_hi s) ∧ -200 ≤ an_lo s ∧ an_hi s ≤ 200) (fun _ h => absurd rfl h) (fun l e ih hb _ => ?_) s
  have he := hb e (List.mem_append.mpr (Or.inr List.mem_cons_self))
  by_cases h0 : l = []
  · subst h0
    unfold an_lo an_hi
    rw [bs_fm_0, bs_fm_0]
    refine ⟨fun e' h => ?_, he⟩
    have : e' = e := List.mem_singleton.mp h
    rw [this]; exact ⟨Int.le_refl _, Int.le_refl _⟩
  · obtain ⟨h1, h2, h3⟩ := ih (fun e' h => hb e' (List.mem_append.mpr (Or.inl h))) h0
    unfold an_lo an_hi at *
    rw [bs_fm_s h0, bs_fm_s h0, br_minT, br_maxT]
    refine ⟨fun e' h => ?_, by omega, by omega⟩
    rcases List.mem_append.mp h with h | h
    · have := h1 e' h; omega
    · have : e' = e := List.mem_singleton.mp h
      rw [this]; omega
theorem an_f_b {s : List bs_E} (hb : br_b2 s) {e : bs_E} (he : e ∈ s) : 0 ≤ an_f s e.2.1.toInt ∧ an_f s e.2.1.toInt ≤ 400 := by
  obtain ⟨h1, h2, h3⟩ := an_lohi s hb (fun z => by rw [z] at he; cases he)
  have h4 := h1 e he
  have h5 := hb e he
  unfold an_f
  by_cases h : an_ch s = true
  · rw [if_pos h]; omega
  · rw [if_neg h]; omega
theorem an_x_b {f : Int → Int} {w : Bool} {K : Nat} (s : List bs_E) : (∀ e, e ∈ s → 0 ≤ f e.2.1.toInt ∧ f e.2.1.toInt ≤ K) → 0 ≤ an_x f w s ∧ an_x f w s ≤ (K * bs_n w s : Nat) := by
  refine bs_ind (P := fun s => (∀ e, e ∈ s → 0 ≤ f e.2.1.toInt ∧ f e.2.1.toInt ≤ K) → 0 ≤ an_x f w s ∧ an_x f w s ≤ (K * bs_n w s : Nat)) (fun _ => ?_) (fun l e ih h => ?_) s
  · show (0 : Int) ≤ 0 ∧ (0 : Int) ≤ ((K * 0 : Nat) : Int)
    omega
  · have h1 := ih (fun e' h' => h e' (List.mem_append.mpr (Or.inl h')))
    have h2 := h e (List.mem_append.mpr (Or.inr List.mem_cons_self))
    by_cases h3 : e.2.2 = w
    · rw [an_x_T h3, bs_n_T h3, Nat.mul_add]; omega
    · rw [an_x_F h3, bs_n_F h3]; exact h1
theorem an_R_b {l : List bs_E} (hb : br_b2 l) : ∀ r, 0 ≤ an_R l r ∧ an_R l r ≤ (200 * (an_n true l r + an_n false l r) : Nat)
  | 0 => ⟨Int.le_refl 0, Int.le_refl 0⟩
  | r + 1 => by
    have h1 := an_R_b hb r
    have h2 := an_x_b (f := an_f (bs_r r l)) (w := an_ch (bs_r r l)) (K := 400) (bs_r r l) (fun e he => an_f_b (br_b2_r hb) he)
    have h3 := bs_n_sum (bs_r r l)
    have h4 : 2 * bs_n (an_ch (bs_r r l)) (bs_r r l) ≤ (bs_r r l).length := by
      rw [← an_k_n]; unfold an_k; omega
    show 0 ≤ an_R l r + _ ∧ an_R l r + _ ≤ ((200 * (an_n true l r + bs_n true (bs_r r l) + (an_n false l r + bs_n false (bs_r r l))) : Nat) : Int)
    omega
