set_option maxRecDepth 100000
set_option maxHeartbeats 4000000
/-! room by room: sets of rooms counted by a recursion and by bits -/
def ar_pas : Nat → Nat → Nat
  | _, 0 => 1
  | 0, _ + 1 => 0
  | n + 1, k + 1 => ar_pas n (k + 1) + ar_pas n k
theorem ar_pas_0 (n : Nat) : ar_pas n 0 = 1 := by cases n <;> rfl
theorem ar_si_len : ∀ (l : List Int) (k : Nat), (br_si l k).length = ar_pas l.length k
  | [], 0 => rfl
  | [], _ + 1 => rfl
  | v :: l, 0 => by rw [br_si_0, ar_pas_0]; rfl
  | v :: l, j + 1 => by
    show (br_si l (j + 1) ++ (br_si l j).map (· + v)).length = ar_pas l.length (j + 1) + ar_pas l.length j
    rw [List.length_append, List.length_map, ar_si_len l (j + 1), ar_si_len l j]
theorem ar_pas_id : ∀ n k : Nat, (k + 1) * ar_pas (n + 1) (k + 1) = (n + 1) * ar_pas n k
  | 0, 0 => rfl
  | 0, k + 1 => by
    show (k + 1 + 1) * (0 + 0) = 1 * 0
    rw [Nat.add_zero, Nat.mul_zero]
  | n + 1, 0 => by
    have h := ar_pas_id n 0
    have e : ar_pas (n + 1 + 1) (0 + 1) = ar_pas (n + 1) (0 + 1) + ar_pas (n + 1) 0 := rfl
    rw [ar_pas_0] at h
    rw [e, ar_pas_0]; omega
  | n + 1, k + 1 => by
    have h1 := ar_pas_id n (k + 1)
    have h2 := ar_pas_id n k
    have h3 : ar_pas (n + 1) (k + 1) = ar_pas n (k + 1) + ar_pas n k := rfl
    have e : ar_pas (n + 1 + 1) (k + 1 + 1) = ar_pas (n + 1) (k + 1 + 1) + ar_pas (n + 1) (k + 1) := rfl
    rw [e, Nat.mul_add, h1, Nat.succ_mul (k + 1) (ar_pas (n + 1) (k + 1)), h2, Nat.succ_mul (n + 1) (ar_pas (n + 1) (k + 1)), h3, Nat.mul_add (n + 1)]
    omega
theorem ar_ch (a c : Nat) : ∀ i, bm_ch a c i = ar_pas (a - c + i) i
  | 0 => (ar_pas_0 _).symm
  | i + 1 => by
    show bm_ch a c i * (a - c + (i + 1)) / (i + 1) = _
    have h := ar_pas_id (a - c + i) i
    rw [ar_ch a c i, Nat.mul_comm, show a - c + (i + 1) = a - c + i + 1 by omega, ← h, Nat.mul_div_cancel_left _ (by omega)]
theorem ar_perm {l l' : List Int} (h : l.Perm l') : ∀ k, an_e (br_si l k) (br_si l' k) := by
  induction h with
  | nil => exact fun k p => rfl
  | cons x _ ih =>
    intro k p
    cases k with
    | zero => rw [br_si_0, br_si_0]
    | succ k =>
      show (br_si _ (k + 1) ++ (br_si _ k).map (· + x)).countP p = (br_si _ (k + 1) ++ (br_si _ k).map (· + x)).countP p
      rw [List.countP_append, List.countP_append, List.countP_map, List.countP_map, ih (k + 1) p, ih k]
  | swap x y l =>
    intro k p
    cases k with
    | zero => rw [br_si_0, br_si_0]
    | succ k =>
      cases k with
      | zero =>
        show ((br_si l 1 ++ (br_si l 0).map (· + x)) ++ (br_si (x :: l) 0).map (· + y)).countP p = ((br_si l 1 ++ (br_si l 0).map (· + y)) ++ (br_si (y :: l) 0).map (· + x)).countP p
        simp only [br_si_0, List.countP_append]
        omega
      | succ k =>
        show ((br_si l (k + 2) ++ (br_si l (k + 1)).map (· + x)) ++ (br_si l (k + 1) ++ (br_si l k).map (· + x)).map (· + y)).countP p = ((br_si l (k + 2) ++ (br_si l (k + 1)).map (· + y)) ++ (br_si l (k + 1) ++ (br_si l k).map (· + y)).map (· + x)).countP p
        have e : ((br_si l k).map (· + x)).map (· + y) = ((br_si l k).map (· + y)).map (· + x) := by
          rw [List.map_map, List.map_map]
          refine List.map_congr_left (fun a _ => ?_)
          simp only [Function.comp]; omega
        simp only [List.map_append, List.countP_append, e]
        omega
  | trans _ _ ih1 ih2 => exact fun k p => (ih1 k p).trans (ih2 k p)
def ar_b (s r : Nat) : Nat := s / 2 ^ r % 2
def ar_pc (s : Nat) : Nat → Nat
  | 0 => 0
  | r + 1 => ar_pc s r + ar_b s r
def ar_sm (m : Nat → Int) (s : Nat) : Nat → Int
  | 0 => 0
  | r + 1 => ar_sm m s r + (if ar_b s r = 1 then m r else 0)
def ar_rl (m : Nat → Int) : Nat → List Int
  | 0 => []
  | r + 1 => m r :: ar_rl m r
theorem ar_rl_len {m : Nat → Int} : ∀ n, (ar_rl m n).length = n
  | 0 => rfl
  | n + 1 => by show (ar_rl m n).length + 1 = n + 1; rw [ar_rl_len n]
theorem ar_b_hi {n s r : Nat} (h : r < n) : ar_b (2 ^ n + s) r = ar_b s r := by
  obtain ⟨k, rfl⟩ : ∃ k, n = r + (1 + k) := ⟨n - r - 1, by omega⟩
  unfold ar_b
  rw [Nat.pow_add, Nat.mul_add_div (Nat.two_pow_pos r), Nat.pow_add, Nat.pow_one]
  omega
theorem ar_b_top {n s : Nat} (h : s < 2 ^ n) : ar_b s n = 0 ∧ ar_b (2 ^ n + s) n = 1 := by
  unfold ar_b
  refine ⟨by rw [Nat.div_eq_of_lt h], ?_⟩
  have := Nat.mul_add_div (Nat.two_pow_pos n) 1 s
  rw [Nat.mul_one] at this
  rw [this, Nat.div_eq_of_lt h]
theorem ar_pc_hi {n s : Nat} : ∀ r, r ≤ n → ar_pc (2 ^ n + s) r = ar_pc s r
  | 0, _ => rfl
  | r + 1, h => by
    show ar_pc _ r + ar_b _ r = ar_pc s r + ar_b s r
    rw [ar_pc_hi r (by omega), ar_b_hi (by omega)]
theorem ar_sm_hi {m : Nat → Int} {n s : Nat} : ∀ r, r ≤ n → ar_sm m (2 ^ n + s) r = ar_sm m s r
  | 0, _ => rfl
  | r + 1, h => by
    show ar_sm m _ r + _ = ar_sm m s r + _
    rw [ar_sm_hi r (by omega), ar_b_hi (by omega)]
theorem bm_cnt_add {p : Nat → Bool} (a : Nat) : ∀ b, bm_cnt p (a + b) = bm_cnt p a + bm_cnt (fun s => p (a + s)) b
  | 0 => rfl
  | b + 1 => by
    show bm_cnt p (a + b) + _ = bm_cnt p a + (bm_cnt (fun s => p (a + s)) b + _)
    rw [bm_cnt_add a b, Nat.add_assoc]
    rfl
theorem bm_cnt_no {p : Nat → Bool} : ∀ b, (∀ s, s < b → p s = false) → bm_cnt p b = 0
  | 0, _ => rfl
  | b + 1, h => by rw [bm_cnt_F (h b (by omega)), bm_cnt_no b (fun s hs => h s (by omega))]
theorem ar_cnt (m : Nat → Int) : ∀ (n k : Nat) (q : Int → Bool), bm_cnt (fun s => decide (ar_pc s n = k) && q (ar_sm m s n)) (2 ^ n) = (br_si (ar_rl m n) k).countP q
  | 0, 0, q => by
    show 0 + (if (decide (0 = 0) && q 0) = true then 1 else 0) = [(0 : Int)].countP q
    rw [List.countP_singleton]
    simp
  | 0, k + 1, q => by
    show 0 + (if (decide (0 = k + 1) && q 0) = true then 1 else 0) = 0
    rw [decide_eq_false (by omega)]; rfl
  | n + 1, k, q => by
    have e2 : 2 ^ (n + 1) = 2 ^ n + 2 ^ n := by rw [Nat.pow_succ]; omega
    rw [e2, bm_cnt_add]
    have e3 : bm_cnt (fun s => decide (ar_pc s (n + 1) = k) && q (ar_sm m s (n + 1))) (2 ^ n) = bm_cnt (fun s => decide (ar_pc s n = k) && q (ar_sm m s n)) (2 ^ n) := by
      refine bm_cnt_c _ (fun s hs => ?_)
      show (decide (ar_pc s n + ar_b s n = k) && q (ar_sm m s n + (if ar_b s n = 1 then m n else 0))) = _
      rw [(ar_b_top hs).1, if_neg (by omega), Nat.add_zero, Int.add_zero]
    rw [e3, ar_cnt m n k q]
    have e4 : ∀ s, s < 2 ^ n → (decide (ar_pc (2 ^ n + s) (n + 1) = k) && q (ar_sm m (2 ^ n + s) (n + 1))) = (decide (ar_pc s n + 1 = k) && q (ar_sm m s n + m n)) := fun s hs => by
      show (decide (ar_pc (2 ^ n + s) n + ar_b (2 ^ n + s) n = k) && q (ar_sm m (2 ^ n + s) n + (if ar_b (2 ^ n + s) n = 1 then m n else 0))) = _
      rw [(ar_b_top hs).2, if_pos rfl, ar_pc_hi n (Nat.le_refl _), ar_sm_hi n (Nat.le_refl _)]
    cases k with
    | zero =>
      rw [bm_cnt_no (2 ^ n) (fun s hs => by rw [e4 s hs, decide_eq_false (by omega)]; rfl), br_si_0, br_si_0, Nat.add_zero]
    | succ j =>
      show _ = (br_si (ar_rl m n) (j + 1) ++ (br_si (ar_rl m n) j).map (· + m n)).countP q
      rw [List.countP_append, List.countP_map, ← ar_cnt m n j (q ∘ (· + m n))]
      congr 1
      refine bm_cnt_c _ (fun s hs => ?_)
      rw [e4 s hs]
      congr 1
      refine decide_eq_decide.mpr ?_
      omega
/-! the rooms of a sample -/
def ar_m (s : List bs_E) : Int32 := (nI 1000 * bs_t s) / nI s.length
def ar_is (s : List bs_E) : Bool := decide (s.length < 2 * bs_n true s)
def ar_ls (l : List bs_E) : Nat → List Int32
  | 0 => []
  | r + 1 => if (bs_r r l).length = 0 then ar_ls l r else ar_ls l r ++ [ar_m (bs_r r l)]
def ar_k (l : List bs_E) : Nat → Nat
  | 0 => 0
  | r + 1 => if ar_is (bs_r r l) = true then ar_k l r + 1 else ar_k l r
def ar_w (l : List bs_E) : Nat → Int
  | 0 => 0
  | r + 1 => if ar_is (bs_r r l) = true then ar_w l r + (ar_m (bs_r r l)).toInt else ar_w l r
theorem bs_t_b {l : List bs_E} : br_b2 l → l.length ≤ 1000 → (bs_t l).toInt.natAbs ≤ 200 * l.length := by
  refine bs_ind (P := fun l => br_b2 l → l.length ≤ 1000 → (bs_t l).toInt.natAbs ≤ 200 * l.length) (fun _ _ => ?_) (fun l e ih hb hl => ?_) l
  · show (nI 0).toInt.natAbs ≤ 0
    rw [nI_toInt (by omega)]; omega
  · rw [List.length_append] at hl ⊢
    have l1 : [e].length = 1 := rfl
    rw [l1] at hl ⊢
    have h1 := ih (fun e' h => hb e' (List.mem_append.mpr (Or.inl h))) (by omega)
    have h2 := hb e (List.mem_append.mpr (Or.inr List.mem_cons_self))
    rw [bs_t_s]
    have := nb_add (A := 200 * l.length) (C := 200) h1 (by omega) (y := e.2.1) (by omega)
    omega
theorem ar_m_b {l : List bs_E} {r : Nat} (hb : br_b2 l) (hl : l.length ≤ 40) : (ar_m (bs_r r l)).toInt.natAbs ≤ 8000000 := by
  have h1 := bs_r_len (r := r) l
  have h2 := bs_t_b (br_b2_r (r := r) hb) (by omega)
  have e : (nI 1000).toInt.natAbs ≤ 1000 := by rw [nI_toInt (by omega)]; omega
  have h3 := nb_mul (A := 1000) (C := 8000) e (show (bs_t (bs_r r l)).toInt.natAbs ≤ 8000 by omega) (by omega)
  exact nb_div h3 (by omega)
theorem ar_is_0 {s : List bs_E} (h : s.length = 0) : ar_is s = false := by
  have := bs_n_le (w := true) s
  unfold ar_is
  exact decide_eq_false (by omega)
theorem ar_ls_len (l : List bs_E) : ∀ r, (ar_ls l r).length ≤ r ∧ ar_k l r ≤ (ar_ls l r).length
  | 0 => ⟨Nat.le_refl 0, Nat.le_refl 0⟩
  | r + 1 => by
    obtain ⟨h1, h2⟩ := ar_ls_len l r
    show (if _ then ar_ls l r else ar_ls l r ++ [ar_m (bs_r r l)]).length ≤ r + 1 ∧ (if _ then ar_k l r + 1 else ar_k l r) ≤ (if _ then ar_ls l r else ar_ls l r ++ [ar_m (bs_r r l)]).length
    by_cases h : (bs_r r l).length = 0
    · rw [if_pos h, ar_is_0 h, if_neg Bool.false_ne_true]; omega
    · rw [if_neg h, List.length_append]
      have l1 : [ar_m (bs_r r l)].length = 1 := rfl
      rw [l1]
      by_cases h3 : ar_is (bs_r r l) = true
      · rw [if_pos h3]; omega
      · rw [if_neg h3]; omega
theorem ar_w_b {l : List bs_E} (hb : br_b2 l) (hl : l.length ≤ 40) : ∀ r, (ar_w l r).natAbs ≤ 8000000 * r
  | 0 => Nat.le_refl 0
  | r + 1 => by
    have h1 := ar_w_b hb hl r
    have h2 := ar_m_b (r := r) hb hl
    show (if _ then ar_w l r + (ar_m (bs_r r l)).toInt else ar_w l r).natAbs ≤ _
    by_cases h3 : ar_is (bs_r r l) = true
    · rw [if_pos h3]; omega
    · rw [if_neg h3]; omega
theorem ar_ls_b {l : List bs_E} (hb : br_b2 l) (hl : l.length ≤ 40) : ∀ r x, x ∈ ar_ls l r → x.toInt.natAbs ≤ 8000000
  | 0, _, h => by cases h
  | r + 1, x, h => by
    have h : x ∈ (if (bs_r r l).length = 0 then ar_ls l r else ar_ls l r ++ [ar_m (bs_r r l)]) := h
    by_cases h3 : (bs_r r l).length = 0
    · rw [if_pos h3] at h; exact ar_ls_b hb hl r x h
    · rw [if_neg h3] at h
      rcases List.mem_append.mp h with h | h
      · exact ar_ls_b hb hl r x h
      · rw [List.mem_singleton.mp h]; exact ar_m_b hb hl
/-- the fraction, room by room -/
def ar_mq (l : List bs_E) (q : Nat) : Int := ((ar_ls l 18)[q]?.getD (nI 0)).toInt
def ar_A (l : List bs_E) : Nat := (br_si (ar_rl (ar_mq l) (ar_ls l 18).length) (ar_k l 18)).countP (fun x => decide (ar_w l 18 ≤ x))
def ar_B (l : List bs_E) : Nat := ar_pas (ar_ls l 18).length (ar_k l 18)
def ar_sp (l : List bs_E) : Prop := 0 < ar_k l 18 ∧ ar_k l 18 < (ar_ls l 18).length
noncomputable def ar_u (l : List bs_E) : Int64 := @ite Int64 (ar_sp l) (Classical.propDecidable _) (bf_u (lN (ar_A l)) (lN (ar_B l))) (lN 0)
noncomputable def ar_l (l : List bs_E) : Int64 := @ite Int64 (ar_sp l) (Classical.propDecidable _) (bf_l (lN (ar_A l)) (lN (ar_B l))) (lN 0)
theorem ar_u_T {l : List bs_E} (h : ar_sp l) : ar_u l = bf_u (lN (ar_A l)) (lN (ar_B l)) := by unfold ar_u; exact if_pos h
theorem ar_u_F {l : List bs_E} (h : ¬ ar_sp l) : ar_u l = lN 0 := by unfold ar_u; exact if_neg h
theorem ar_l_T {l : List bs_E} (h : ar_sp l) : ar_l l = bf_l (lN (ar_A l)) (lN (ar_B l)) := by unfold ar_l; exact if_pos h
theorem ar_l_F {l : List bs_E} (h : ¬ ar_sp l) : ar_l l = lN 0 := by unfold ar_l; exact if_neg h
theorem ar_AB (l : List bs_E) : ar_A l ≤ ar_B l ∧ ar_B l ≤ 262144 ∧ (ar_sp l → 0 < ar_B l) := by
  have h1 := ar_ls_len l 18
  have e : (br_si (ar_rl (ar_mq l) (ar_ls l 18).length) (ar_k l 18)).length = ar_B l := by rw [ar_si_len, ar_rl_len]; rfl
  refine ⟨by rw [← e]; exact List.countP_le_length, ?_, fun h => ?_⟩
  · have h2 := an_si_len (ar_rl (ar_mq l) (ar_ls l 18).length) (ar_k l 18)
    rw [e, ar_rl_len] at h2
    have h3 : (2 : Nat) ^ (ar_ls l 18).length ≤ 2 ^ 18 := Nat.pow_le_pow_right (by omega) (by omega)
    omega
  · rw [← e]
    exact an_si_ne _ _ (by rw [ar_rl_len]; omega)
/-- the numbers from a place on -/
def ar_d (m : Nat → Int) (n : Nat) : Nat → List Int
  | 0 => []
  | k + 1 => m (n - (k + 1)) :: ar_d m n k
theorem ar_d_rl (m : Nat → Int) (n : Nat) : ∀ k, k ≤ n → (ar_rl m (n - k) ++ (ar_d m n k).reverse.reverse).Perm (ar_rl m n)
  | 0, _ => by
    show (ar_rl m (n - 0) ++ []).Perm _
    rw [List.append_nil, Nat.sub_zero]
  | k + 1, h => by
    have ih := ar_d_rl m n k (by omega)
    rw [List.reverse_reverse] at ih ⊢
    refine List.Perm.trans ?_ ih
    rw [show n - k = n - (k + 1) + 1 by omega]
    show (ar_rl m (n - (k + 1)) ++ m (n - (k + 1)) :: ar_d m n k).Perm (m (n - (k + 1)) :: ar_rl m (n - (k + 1)) ++ ar_d m n k)
    exact List.perm_middle
theorem ar_d_all (m : Nat → Int) (n : Nat) : (ar_d m n n).Perm (ar_rl m n) := by
  have h := ar_d_rl m n n (Nat.le_refl _)
  rw [List.reverse_reverse, Nat.sub_self] at h
  exact h
theorem ar_d_len {m : Nat → Int} {n : Nat} : ∀ k, (ar_d m n k).length = k
  | 0 => rfl
  | k + 1 => by show (ar_d m n k).length + 1 = k + 1; rw [ar_d_len k]
section
variable {d n : Nat} {Q : br_Q} {I J : Nat → Nat → Int32} {L : Nat → Nat → Int64} {g : Nat → Int32}
theorem rs_sets {N : Nat} {m : Nat → Int} (hN : N ≤ 18) (hm : ∀ q, q < N → (I 68 q).toInt = m q ∧ (m q).natAbs ≤ 8000000) : ∀ (k f c : Nat) (x : Int32) (d : Nat) (Q : br_Q), f + k = N → c ≤ 18 → x.toInt.natAbs ≤ 144000000 + 8000000 * f →
    Q (some (.int (nI ((br_si (ar_d m N k) c).countP (fun a => decide (x.toInt ≤ a)))))) (br_hp n I L) → br_r (d + k + 1) 128 0 [some (.ref 68), some (.int (nI N)), some (.int (nI f)), some (.int (nI c)), some (.int x)] [] (br_hp n I L) Q := by
  intro k
  induction k with
  | zero =>
    intro f c x d Q hf hc hx H
    refine rb_Sample_setsReaching_0 ?_
    rw [nI_eq (by omega) (by omega)]
    refine ⟨fun h => br_t ?_ ?_, fun h => ?_⟩
    · have e : (nI N - nI f).toInt = (N : Int) - f := pk_sub_toInt (by omega) (by omega)
      rw [br_ltT, e, nI_toInt (by omega)]; omega
    · rw [br_si_big _ _ (by rw [ar_d_len]; omega)] at H
      exact H
    · have h0 : c = 0 := Classical.not_not.mp h
      subst h0
      rw [br_si_0] at H
      have n0 : (nI 0).toInt = 0 := nI_toInt (by omega)
      refine ⟨fun h1 => ?_, fun h1 => ?_⟩
      · rw [br_ltT, n0] at h1
        rw [an_c0 (fun a ha => by rw [List.mem_singleton.mp ha]; simp only [decide_eq_true_eq]; omega)] at H
        exact H
      · rw [br_ltT, n0] at h1
        have e : [(0 : Int)].countP (fun a => decide (x.toInt ≤ a)) = [(0 : Int)].countP (fun _ => true) := an_cc (fun a ha => by rw [List.mem_singleton.mp ha]; simp only [decide_eq_true_eq, iff_true]; omega)
        rw [e] at H
        exact H
  | succ k ih =>
    intro f c x d Q hf hc hx H
    refine rb_Sample_setsReaching_0 ?_
    rw [nI_eq (by omega) (by omega)]
    refine ⟨fun h => ⟨fun h1 => ?_, fun h1 => br_f ?_ ⟨rfl, br_t ?_ ⟨rfl, vp_in_nI (n := f) (N := 18) (by omega) (by omega), ?_⟩⟩⟩, fun h => ?_⟩
    · have e : (nI N - nI f).toInt = (N : Int) - f := pk_sub_toInt (by omega) (by omega)
      rw [br_ltT, e, nI_toInt (by omega)] at h1
      rw [br_si_big _ _ (by rw [ar_d_len]; omega)] at H
      exact H
    · rw [br_ltT, nI_toInt (by omega), nI_toInt (by omega)]; omega
    · exact nI_lt (b := 18) (by omega) (by omega)
    · obtain ⟨c', rfl⟩ : ∃ c', c = c' + 1 := ⟨c - 1, by omega⟩
      obtain ⟨m1, m2⟩ := hm f (by omega)
      rw [nI_add, pk_sub (by omega), Nat.add_sub_cancel, nI_clamp (by omega)]
      have ex : (x - I 68 f).toInt = x.toInt - m f := by rw [br_subT (by omega) (by omega), m1]
      have ed : ar_d m N (k + 1) = m f :: ar_d m N k := by
        show m (N - (k + 1)) :: ar_d m N k = _
        rw [show N - (k + 1) = f by omega]
      rw [ed] at H
      have es : br_si (m f :: ar_d m N k) (c' + 1) = br_si (ar_d m N k) (c' + 1) ++ (br_si (ar_d m N k) c').map (· + m f) := rfl
      rw [es, List.countP_append, List.countP_map] at H
      refine ih (f + 1) c' (x - I 68 f) d _ (by omega) (by omega) (by rw [ex]; omega) (rb_Sample_setsReaching_51 ?_)
      rw [nI_add]
      refine ih (f + 1) (c' + 1) x d _ (by omega) hc (by omega) (rb_Sample_setsReaching_62 ?_)
      rw [nI_add, ex]
      have e5 : (br_si (ar_d m N k) c').countP ((fun a => decide (x.toInt ≤ a)) ∘ (fun a => a + m f)) = (br_si (ar_d m N k) c').countP (fun a => decide (x.toInt - m f ≤ a)) := by
        refine an_cc (fun a _ => ?_)
        simp only [Function.comp, decide_eq_true_eq]; omega
      rw [e5, Nat.add_comm] at H
      exact H
    · have h0 : c = 0 := Classical.not_not.mp h
      subst h0
      rw [br_si_0] at H
      have n0 : (nI 0).toInt = 0 := nI_toInt (by omega)
      refine ⟨fun h1 => ?_, fun h1 => ?_⟩
      · rw [br_ltT, n0] at h1
        rw [an_c0 (fun a ha => by rw [List.mem_singleton.mp ha]; simp only [decide_eq_true_eq]; omega)] at H
        exact H
      · rw [br_ltT, n0] at h1
        have e : [(0 : Int)].countP (fun a => decide (x.toInt ≤ a)) = [(0 : Int)].countP (fun _ => true) := an_cc (fun a ha => by rw [List.mem_singleton.mp ha]; simp only [decide_eq_true_eq, iff_true]; omega)
        rw [e] at H
        exact H
/-- the class's fraction, room by room -/
theorem rs_S_rooms {l : List bs_E} {p : Nat} {z2 z3 z4 z5 z6 : Option Value} (hs : br_sam l I) (hb : br_b2 l) (hl : ∀ e, e ∈ l → e.1 < 18) (hp : br_S0 n p = (0, 1))
    (H : ∀ (I' : Nat → Nat → Int32) (L' : Nat → Nat → Int64), (∀ p j, ¬ ((p = 64 ∧ 4 ≤ j ∧ j ≤ 8) ∨ p = 68) → I' p j = I p j) → (∀ q j, ¬ (q = p ∧ (j = 0 ∨ j = 1)) → L' q j = L q j) → L' p 0 = ar_u l → L' p 1 = ar_l l → Q none (br_hp n I' L')) :
    br_r (d + 22) 126 0 [some (.ref 64), some (.ref p), z2, z3, z4, z5, z6] [] (br_hp n I L) Q := by
  have s1 := hs.1
  have hAB := ar_AB l
  have h18 := ar_ls_len l 18
  have n0 : (nI 0).toInt = 0 := nI_toInt (by omega)
  refine rb_Sample_dealtAnewByRooms_0 ⟨hp, rs_clearF hp (rb_Sample_dealtAnewByRooms_4 ?_)⟩
  generalize hL0 : br_u (br_u L p 0 (lN 0)) p 1 (lN 0) = L0
  have frL0 : ∀ q j, ¬ (q = p ∧ (j = 0 ∨ j = 1)) → L0 q j = L q j := fun q j hq => by rw [← hL0, br_u_n (by omega), br_u_n (by omega)]
  have sam : ∀ I' : Nat → Nat → Int32, (∀ p j, ¬ ((p = 64 ∧ 4 ≤ j ∧ j ≤ 8) ∨ p = 68) → I' p j = I p j) → br_sam l I' := fun I' h => by
    refine ⟨s1, by rw [h 64 3 (by omega)]; exact hs.2.1, fun i' e' h' => ?_⟩
    obtain ⟨p1, p2, p3⟩ := hs.2.2 i' e' h'
    exact ⟨by rw [h 65 i' (by omega)]; exact p1, by rw [h 66 i' (by omega)]; exact p2, by rw [h 67 i' (by omega)]; exact p3⟩
  have loop : ∀ m r (I' : Nat → Nat → Int32) (x4 : Int32) (z6 : Option Value), r + m = 18 → (∀ p j, ¬ ((p = 64 ∧ 4 ≤ j ∧ j ≤ 8) ∨ p = 68) → I' p j = I p j) → x4.toInt = ar_w l r → (∀ q x, (ar_ls l r)[q]? = some x → I' 68 q = x) →
      br_r (d + 22) 126 14 [some (.ref 64), some (.ref p), some (.int (nI (ar_ls l r).length)), some (.int (nI (ar_k l r))), some (.int x4), some (.int (nI r)), z6] [] (br_hp n I' L0) Q := by
    intro m
    induction m with
    | zero =>
      intro r I' x4 z6 hr hI hx hq
      have : r = 18 := by omega
      subst this
      have no : ¬ ar_sp l → Q none (br_hp n I' L0) := fun h => H I' L0 hI frL0 (by rw [← hL0, br_u_n (by omega), br_u_s, ar_u_F h]) (by rw [← hL0, br_u_s, ar_l_F h])
      refine rb_Sample_dealtAnewByRooms_14 (br_t (nI_le (b := 18) (Nat.le_refl _) (by omega)) ?_)
      rw [nI_leI (by omega) (by omega), nI_leI (by omega) (by omega)]
      refine ⟨fun h => rb_Sample_dealtAnewByRooms_115 (no (fun z => ?_)), fun h => ⟨fun h2 => rb_Sample_dealtAnewByRooms_115 (no (fun z => ?_)), fun h2 => ?_⟩⟩
      · have := z.1; omega
      · have := z.2; omega
      · have hsp : ar_sp l := ⟨by omega, by omega⟩
        have hw := ar_w_b hb s1 18
        obtain ⟨k, hk⟩ : ∃ k, k = (ar_ls l 18).length := ⟨_, rfl⟩
        have hmq : ∀ q, q < (ar_ls l 18).length → (I' 68 q).toInt = ar_mq l q ∧ (ar_mq l q).natAbs ≤ 8000000 := fun q hq2 => by
          have hg : (ar_ls l 18)[q]? = some (ar_ls l 18)[q] := List.getElem?_eq_getElem hq2
          have e := hq q _ hg
          unfold ar_mq
          rw [hg, e]
          exact ⟨rfl, ar_ls_b hb s1 18 _ (List.getElem_mem hq2)⟩
        have st := rs_sets (n := n) (L := L0) (N := (ar_ls l 18).length) (m := ar_mq l) (by omega) hmq (ar_ls l 18).length 0 (ar_k l 18) x4 (d + 20 - (ar_ls l 18).length) (fun v h => br_r (d + 22) 126 105 [some (.ref 64), some (.ref p), some (.int (nI (ar_ls l 18).length)), some (.int (nI (ar_k l 18))), some (.int x4), some (.int (nI 18)), z6] (v.toList ++ [(.ref p)]) (br_bk h) Q) (by omega) (by omega) (by omega)
        rw [show d + 20 - (ar_ls l 18).length + (ar_ls l 18).length + 1 = d + 21 by omega] at st
        refine st (rb_Sample_dealtAnewByRooms_105 (rs_choices (by omega) (by omega) (rb_Sample_dealtAnewByRooms_111 ⟨hp, ?_⟩)))
        have eA : (br_si (ar_d (ar_mq l) (ar_ls l 18).length (ar_ls l 18).length) (ar_k l 18)).countP (fun a => decide (x4.toInt ≤ a)) = ar_A l := by
          rw [ar_perm (ar_d_all _ _) _ _, hx]; rfl
        have eB : bm_ch (ar_ls l 18).length (ar_k l 18) (ar_k l 18) = ar_B l := by
          rw [ar_ch, show (ar_ls l 18).length - ar_k l 18 + ar_k l 18 = (ar_ls l 18).length by omega]; rfl
        rw [eA, eB, nI_l (by omega), nI_l (by omega)]
        refine rs_become hp (by rw [pk_lT (by omega)]; omega) (rb_Sample_dealtAnewByRooms_115 (H I' _ hI (fun q j h5 => ?_) ?_ ?_))
        · rw [br_u_n (by omega), br_u_n (by omega), frL0 q j h5]
        · rw [br_u_n (by omega), br_u_s, ar_u_T hsp]
        · rw [br_u_s, ar_l_T hsp]
    | succ m ih =>
      intro r I' x4 z6 hr hI hx hq
      have hlr := bs_r_len (r := r) l
      have hnr := bs_n_le (w := true) (bs_r r l)
      have hls := ar_ls_len l r
      have hm := ar_m_b (r := r) hb s1
      have hw := ar_w_b hb s1 r
      refine rb_Sample_dealtAnewByRooms_14 (br_f (nI_ge (b := 18) (by omega) (by omega)) (rs_S_lookAt (sam I' hI) (by omega) hl (fun I2 hI2 hk2 => rb_Sample_dealtAnewByRooms_27 ?_)))
      have fr2 : ∀ p j, ¬ ((p = 64 ∧ 4 ≤ j ∧ j ≤ 8) ∨ p = 68) → I2 p j = I p j := fun p j hp => by rw [hI2 p j (by omega)]; exact hI p j hp
      obtain ⟨k1, k2, k3, k4⟩ := hk2
      rw [k1, nI_eq (by omega) (by omega)]
      refine ⟨fun h => rb_Sample_meanOfRoom_0 ?_, fun h => ?_⟩
      · rw [k1, k3]
        refine br_f (nI_nle (by omega) (by omega)) ⟨fun z => h ((nI_eq (b := 0) (by omega) (by omega)).mp z), rb_Sample_dealtAnewByRooms_41 ?_⟩
        have em : nI 1000 * bs_t (bs_r r l) / nI (bs_r r l).length = ar_m (bs_r r l) := rfl
        rw [em, nI_clamp (by omega), br_u_n (by omega), br_u_n (by omega), k1, k2, pk_mul, nI_leI (by omega) (by omega)]
        simp only [nI_add]
        have eL : ar_ls l (r + 1) = ar_ls l r ++ [ar_m (bs_r r l)] := if_neg h
        have mem : ∀ q x, (ar_ls l (r + 1))[q]? = some x → br_u I2 68 (ar_ls l r).length (ar_m (bs_r r l)) 68 q = x := by
          intro q x h5
          rw [eL] at h5
          by_cases h6 : q < (ar_ls l r).length
          · rw [List.getElem?_append_left h6] at h5
            rw [br_u_n (by omega), hI2 68 q (by omega)]
            exact hq q x h5
          · have h7 : q < (ar_ls l r ++ [ar_m (bs_r r l)]).length := (List.getElem?_eq_some_iff.mp h5).1
            rw [List.length_append] at h7
            have l1 : [ar_m (bs_r r l)].length = 1 := rfl
            have h8 : q = (ar_ls l r).length := by omega
            subst h8
            rw [List.getElem?_append_right (Nat.le_refl _), Nat.sub_self] at h5
            rw [br_u_s]
            exact Option.some.inj h5
        have fr3 : ∀ p j, ¬ ((p = 64 ∧ 4 ≤ j ∧ j ≤ 8) ∨ p = 68) → br_u I2 68 (ar_ls l r).length (ar_m (bs_r r l)) p j = I p j := fun p j hp => by rw [br_u_n (by omega)]; exact fr2 p j hp
        have eLn : (ar_ls l (r + 1)).length = (ar_ls l r).length + 1 := by rw [eL, List.length_append]; rfl
        refine ⟨vp_in_nI (by omega) (by omega), fun h5 => ?_, fun h5 => ?_⟩
        · have hf : ¬ ar_is (bs_r r l) = true := by unfold ar_is; rw [decide_eq_true_eq]; omega
          have eK : ar_k l (r + 1) = ar_k l r := if_neg hf
          have eW : ar_w l (r + 1) = ar_w l r := if_neg hf
          have nx := ih (r + 1) _ x4 (some (.int (ar_m (bs_r r l)))) (by omega) fr3 (by rw [eW]; exact hx) mem
          rw [eLn, eK] at nx
          exact nx
        · have hf : ar_is (bs_r r l) = true := by unfold ar_is; rw [decide_eq_true_eq]; omega
          have eK : ar_k l (r + 1) = ar_k l r + 1 := if_pos hf
          have eW : ar_w l (r + 1) = ar_w l r + (ar_m (bs_r r l)).toInt := if_pos hf
          have nx := ih (r + 1) _ (x4 + ar_m (bs_r r l)) (some (.int (ar_m (bs_r r l)))) (by omega) fr3 (by rw [eW, br_addT (by omega) (by omega), hx]) mem
          rw [eLn, eK] at nx
          exact nx
      · have h0 : (bs_r r l).length = 0 := Classical.not_not.mp h
        have eL : ar_ls l (r + 1) = ar_ls l r := if_pos h0
        have eK : ar_k l (r + 1) = ar_k l r := if_neg (by rw [ar_is_0 h0]; exact Bool.false_ne_true)
        have eW : ar_w l (r + 1) = ar_w l r := if_neg (by rw [ar_is_0 h0]; exact Bool.false_ne_true)
        have nx := ih (r + 1) I2 x4 z6 (by omega) fr2 (by rw [eW]; exact hx) (fun q x h5 => by rw [eL] at h5; rw [hI2 68 q (by omega)]; exact hq q x h5)
        rw [eL, eK] at nx
        rw [nI_add]; exact nx
  refine loop 18 0 I (nI 0) z6 (by omega) (fun _ _ _ => rfl) n0 (fun q x h => by cases h)
end
