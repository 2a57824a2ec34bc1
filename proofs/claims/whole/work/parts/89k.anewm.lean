set_option maxRecDepth 100000
set_option maxHeartbeats 4000000
/-! dealt anew, by the model -/
theorem an_cs (p : Int → Bool) (b : Int → Int) (y : Int) : ∀ S : List Int, S.countP (fun a => p a && decide (b a < y + 1)) = S.countP (fun a => p a && decide (b a < y)) + S.countP (fun a => p a && decide (b a = y))
  | [] => rfl
  | a :: S => by
    rw [List.countP_cons, List.countP_cons, List.countP_cons, an_cs p b y S]
    cases hp : p a with
    | false => simp
    | true =>
      by_cases h1 : b a < y
      · rw [decide_eq_true h1, decide_eq_true (show b a < y + 1 by omega), decide_eq_false (show ¬ b a = y by omega)]; simp; omega
      · by_cases h2 : b a = y
        · rw [decide_eq_false h1, decide_eq_true (show b a < y + 1 by omega), decide_eq_true h2]; simp; omega
        · rw [decide_eq_false h1, decide_eq_false (show ¬ b a < y + 1 by omega), decide_eq_false h2]; simp
theorem an_c0 {p : Int → Bool} {S : List Int} (h : ∀ a, a ∈ S → ¬ p a = true) : S.countP p = 0 := List.countP_eq_zero.mpr h
theorem an_cc {p q : Int → Bool} {S : List Int} (h : ∀ a, a ∈ S → (p a = true ↔ q a = true)) : S.countP p = S.countP q := List.countP_congr h
theorem an_si_ne : ∀ (l : List Int) (j : Nat), j ≤ l.length → 0 < (br_si l j).length
  | [], 0, _ => by simp [br_si]
  | [], _ + 1, h => by simp at h
  | _ :: l, 0, _ => by rw [br_si_0]; simp
  | v :: l, j + 1, h => by
    show 0 < (br_si l (j + 1) ++ (br_si l j).map (· + v)).length
    rw [List.length_append, List.length_map]
    have := an_si_ne l j (by simp only [List.length_cons] at h; omega)
    omega
theorem an_B_pos (l : List bs_E) : 0 < an_B l := by
  have : ∀ r, 0 < (an_T l r).length := fun r => by
    induction r with
    | zero => exact Nat.one_pos
    | succ r ih =>
      show 0 < (an_o (an_T l r) _).length
      rw [an_o_len]
      exact Nat.mul_pos ih (an_si_ne _ _ (by rw [an_v_len]; exact bs_n_le _))
  exact this 18
def an_sp (l : List bs_E) : Prop := 0 < bs_n true l ∧ 0 < bs_n false l
noncomputable def an_u (l : List bs_E) : Int64 := @ite Int64 (an_sp l) (Classical.propDecidable _) (bf_u (lN (an_A l)) (lN (an_B l))) (lN 0)
noncomputable def an_l (l : List bs_E) : Int64 := @ite Int64 (an_sp l) (Classical.propDecidable _) (bf_l (lN (an_A l)) (lN (an_B l))) (lN 0)
theorem an_u_T {l : List bs_E} (h : an_sp l) : an_u l = bf_u (lN (an_A l)) (lN (an_B l)) := by unfold an_u; exact if_pos h
theorem an_u_F {l : List bs_E} (h : ¬ an_sp l) : an_u l = lN 0 := by unfold an_u; exact if_neg h
theorem an_l_T {l : List bs_E} (h : an_sp l) : an_l l = bf_l (lN (an_A l)) (lN (an_B l)) := by unfold an_l; exact if_pos h
theorem an_l_F {l : List bs_E} (h : ¬ an_sp l) : an_l l = lN 0 := by unfold an_l; exact if_neg h
/-- the rows of an open room -/
def an_Wk (P ws : List Int) (j : Nat) : Nat → Nat → Int64 := fun k x => if k ≤ j then lN ((an_o P (br_si ws k)).countP (fun a => decide (a = (x : Int)))) else lN 0
theorem an_W_add {P ws : List Int} {j v s : Nat} (hP : ∀ k a, a ∈ an_o P (br_si ws k) → 0 ≤ a ∧ a ≤ s) (k x : Nat) : bt_add (an_Wk P ws j) v (min j (ws.length + 1)) s k x = an_Wk P ((v : Int) :: ws) j k x := by
  unfold bt_add an_Wk
  cases k with
  | zero => rw [if_neg (by omega), an_si0, an_si0]
  | succ k =>
    by_cases hj : k + 1 ≤ j
    · rw [if_pos hj, if_pos hj, an_st, List.countP_append, List.countP_map]
      by_cases ht : k + 1 ≤ ws.length + 1
      · by_cases hx : v ≤ x ∧ x ≤ s + v
        · rw [if_pos ⟨by omega, by omega, hx.1, hx.2⟩, Nat.add_sub_cancel, if_pos (by omega), lN_add]
          congr 2
          refine an_cc (fun a _ => ?_)
          simp only [Function.comp, decide_eq_true_eq]; omega
        · have e0 : (an_o P (br_si ws k)).countP ((fun a => decide (a = (x : Int))) ∘ (fun a => a + (v : Int))) = 0 := by
            refine an_c0 (fun a ha => ?_)
            have := hP k a ha
            simp only [Function.comp, decide_eq_true_eq]; omega
          rw [if_neg (by omega), e0]
          rfl
      · rw [if_neg (by omega), br_si_big ws k (by omega)]
        rfl
    · rw [if_neg hj, if_neg (by omega), if_neg hj]
theorem an_W_0 {P : List Int} {j k x : Nat} : an_Wk P [] j k x = if k = 0 then lN (P.countP (fun a => decide (a = (x : Int)))) else lN 0 := by
  unfold an_Wk
  cases k with
  | zero => rw [if_pos (Nat.zero_le _), if_pos rfl, an_si0]
  | succ k =>
    rw [if_neg (show ¬ k + 1 = 0 by omega)]
    by_cases hj : k + 1 ≤ j
    · rw [if_pos hj]; rfl
    · rw [if_neg hj]
theorem an_hi_c {W : Nat → Int64} {S : List Int} {m s : Nat} (hs : s ≤ 16000) (hm : m < 2 ^ 31) (h0 : ∀ a, a ∈ S → 0 ≤ a) (hW : ∀ x, x ≤ s → W x = lN (S.countP (fun a => decide (a = (x : Int))))) : ∀ y, y ≤ s + 1 → bt_hi W (nI m) y = lN (S.countP (fun a => decide ((m : Int) ≤ a) && decide (a < (y : Int))))
  | 0, _ => by
    show lN 0 = _
    rw [an_c0 (fun a ha => ?_)]
    have := h0 a ha
    simp only [Bool.and_eq_true, decide_eq_true_eq]; omega
  | y + 1, h => by
    have ih := an_hi_c hs hm h0 hW y (by omega)
    have e : S.countP (fun a => decide ((m : Int) ≤ a) && decide (a < ((y + 1 : Nat) : Int))) = _ := an_cs (fun a => decide ((m : Int) ≤ a)) (fun a => a) (y : Int) S
    by_cases h1 : y < m
    · rw [bt_hi_T (nI_lt h1 hm), ih, e, an_c0 (p := fun a => decide ((m : Int) ≤ a) && decide (a = (y : Int))) (fun a _ => ?_), Nat.add_zero]
      simp only [Bool.and_eq_true, decide_eq_true_eq]; omega
    · rw [bt_hi_F (nI_nlt (by omega) (by omega)), ih, hW y (by omega), lN_add, e]
      congr 2
      refine an_cc (fun a _ => ?_)
      simp only [Bool.and_eq_true, decide_eq_true_eq]; omega
theorem an_all_c {W : Nat → Int64} {S : List Int} {s : Nat} (h0 : ∀ a, a ∈ S → 0 ≤ a) (hW : ∀ x, x ≤ s → W x = lN (S.countP (fun a => decide (a = (x : Int))))) : ∀ y, y ≤ s + 1 → bt_all W y = lN (S.countP (fun a => true && decide (a < (y : Int))))
  | 0, _ => by
    show lN 0 = _
    rw [an_c0 (fun a ha => ?_)]
    have := h0 a ha
    simp only [Bool.and_eq_true, decide_eq_true_eq]; omega
  | y + 1, h => by
    have ih := an_all_c h0 hW y (by omega)
    have e : S.countP (fun a => true && decide (a < ((y + 1 : Nat) : Int))) = _ := an_cs (fun a => true) (fun a => a) (y : Int) S
    show bt_all W y + W y = _
    rw [ih, hW y (by omega), lN_add, e]
    congr 2
theorem bt_ml_b (l : List bs_E) : br_b2 l → (∀ e, e ∈ l → (bt_ml l).toInt ≤ e.2.1.toInt) ∧ -200 ≤ (bt_ml l).toInt := by
  refine bs_ind (P := fun l => br_b2 l → (∀ e, e ∈ l → (bt_ml l).toInt ≤ e.2.1.toInt) ∧ -200 ≤ (bt_ml l).toInt) (fun _ => ⟨fun e h => (by cases h), (by decide +kernel)⟩) (fun l e ih hb => ?_) l
  obtain ⟨h1, h2⟩ := ih (fun e' h => hb e' (List.mem_append.mpr (Or.inl h)))
  have he := hb e (List.mem_append.mpr (Or.inr List.mem_cons_self))
  by_cases h : bt_ml l ≤ e.2.1
  · rw [bt_ml_T h]
    rw [br_leT] at h
    refine ⟨fun e' h3 => ?_, h2⟩
    rcases List.mem_append.mp h3 with h3 | h3
    · exact h1 e' h3
    · rw [List.mem_singleton.mp h3]; exact h
  · rw [bt_ml_F h]
    rw [br_leT] at h
    refine ⟨fun e' h3 => ?_, he.1⟩
    rcases List.mem_append.mp h3 with h3 | h3
    · have := h1 e' h3; omega
    · rw [List.mem_singleton.mp h3]; exact Int.le_refl _
/-- what of a sample has come by child c -/
theorem bs_l_sub {P : Nat → Bool} {E : Nat → bs_E} {e : bs_E} {c : Nat} : ∀ N, c ≤ N → e ∈ bs_l P E c → e ∈ bs_l P E N
  | 0, h, he => by
    have : c = 0 := by omega
    subst this; exact he
  | N + 1, h, he => by
    by_cases h1 : c = N + 1
    · subst h1; exact he
    · have ih := bs_l_sub N (by omega) he
      cases hp : P N with
      | true => rw [bs_l_T hp]; exact List.mem_append.mpr (Or.inl ih)
      | false => rw [bs_l_F hp]; exact ih
def an_ws (c : Int) (s : List bs_E) : List Int := (an_v s).map (fun v => v - c)
theorem an_ws_s {c : Int} {s : List bs_E} {e : bs_E} : an_ws c (s ++ [e]) = (e.2.1.toInt - c) :: an_ws c s := by
  unfold an_ws; rw [an_v_s]; rfl
theorem an_ws_len {c : Int} {s : List bs_E} : (an_ws c s).length = s.length := by
  unfold an_ws; rw [List.length_map, an_v_len]
theorem bs_r_mono {P : Nat → Bool} {E : Nat → bs_E} {r c : Nat} : ∀ N, c ≤ N → (bs_r r (bs_l P E c)).length ≤ (bs_r r (bs_l P E N)).length
  | 0, h => by
    have : c = 0 := by omega
    subst this; exact Nat.le_refl _
  | N + 1, h => by
    by_cases h1 : c = N + 1
    · subst h1; exact Nat.le_refl _
    · have ih := bs_r_mono (P := P) (E := E) (r := r) (c := c) N (by omega)
      cases hp : P N with
      | true =>
        rw [bs_l_T hp]
        by_cases h2 : (E N).1 = r
        · rw [bs_r_T h2, List.length_append]; omega
        · rw [bs_r_F h2]; exact ih
      | false => rw [bs_l_F hp]; exact ih
theorem an_Y_b {l : List bs_E} {c : Int} (hb : br_b2 l) (hc : c = (bt_ml l).toInt) : ∀ r, 0 ≤ an_Y l c r ∧ an_Y l c r ≤ (400 * an_n true l r : Nat)
  | 0 => ⟨Int.le_refl 0, Int.le_refl 0⟩
  | r + 1 => by
    have h1 := an_Y_b hb hc r
    have hm := bt_ml_b l hb
    have h2 := an_x_b (f := fun v => v - c) (w := true) (K := 400) (bs_r r l) (fun e he => by
      have h3 : e ∈ l := (List.mem_filter.mp he).1
      have h4 := hm.1 e h3
      have h5 := hb e h3
      show 0 ≤ e.2.1.toInt - c ∧ e.2.1.toInt - c ≤ ((400 : Nat) : Int)
      omega)
    show 0 ≤ an_Y l c r + _ ∧ an_Y l c r + _ ≤ ((400 * (an_n true l r + bs_n true (bs_r r l)) : Nat) : Int)
    omega
/-- all that the model has, as a room is done -/
def an_Mo (c : Int) (l : List bs_E) (r s : Nat) (J : Nat → Nat → Int32) (L : Nat → Nat → Int64) : Prop :=
  J 169 24 = nI 0 ∧ J 169 25 = nI 0 ∧ J 169 26 = nI s ∧ s ≤ 400 * (an_n true l r + an_n false l r) ∧ bt_T L (fun k x => if k = 0 then lN ((an_M l c r).countP (fun a => decide (a = (x : Int)))) else lN 0) ∧ ∀ a, a ∈ an_M l c r → 0 ≤ a ∧ a ≤ s
section
variable {d n : Nat} {Q : br_Q} {I J : Nat → Nat → Int32} {L : Nat → Nat → Int64} {g : Nat → Int32}
/-- one room -/
theorem rs_M_anewRoom {N a b r s : Nat} {P : Nat → Bool} {l : List bs_E} {c : Int} {z8 z9 z10 : Option Value} {x3 x4 : Nat} {w : Int32} (hr : br_rdm g N P J) (ha : a < 6) (hb : b < 6) (hl : l = bs_l P (bs_e g a b) N) (hr18 : r < 18) (hroom : ∀ c, c < N → ∃ r, r < 18 ∧ g (667 + c) = nI r) (hb2 : br_b2 l) (hw : w.toInt = c) (hc : c = (bt_ml l).toInt)
    (eR : ¬ g 629 ≤ nI r) (hM : an_Mo c l r s J L) (h3 : x3 = an_n true l r) (h4 : x4 = an_n false l r) (hY : 0 ≤ an_Y l c r ∧ an_Y l c r ≤ 16000)
    (H : ∀ (J' : Nat → Nat → Int32) (L' : Nat → Nat → Int64) (s' : Nat) (z8 z9 z10 : Option Value), (∀ p j, ¬ (p = 169 ∧ (j = 24 ∨ j = 25 ∨ j = 26)) → J' p j = J p j) → (∀ q j, q ≠ 177 → L' q j = L q j) → an_Mo c l (r + 1) s' J' L' →
      br_r (d + 3) 253 23 [some (.ref 169), some (.int (nI a)), some (.int (nI b)), some (.int (nI (an_n true l (r + 1)))), some (.int (nI (an_n false l (r + 1)))), some (.int (nI (an_Y l c (r + 1)).toNat)), some (.int w), some (.int (nI (r + 1))), z8, z9, z10] [] (br_hp n J' L') Q) :
    br_r (d + 3) 253 23 [some (.ref 169), some (.int (nI a)), some (.int (nI b)), some (.int (nI x3)), some (.int (nI x4)), some (.int (nI (an_Y l c r).toNat)), some (.int w), some (.int (nI r)), z8, z9, z10] [] (br_hp n J L) Q := by
  subst h3 h4
  obtain ⟨hg, hN, h40, hP⟩ := hr
  have hlen : l.length ≤ N := by rw [hl]; exact bs_l_len N
  have hml := bt_ml_b l hb2
  have nn := an_n_len l r
  have nn1 := an_n_len l (r + 1)
  have nsum := bs_n_sum (bs_r r l)
  have nT : an_n true l (r + 1) = an_n true l r + bs_n true (bs_r r l) := rfl
  have nF : an_n false l (r + 1) = an_n false l r + bs_n false (bs_r r l) := rfl
  generalize hE : bs_e g a b = E at hl
  -- a child of the room
  have kid : ∀ cc, cc < N → P cc = true → ∃ v : Nat, v ≤ 400 ∧ (E cc).2.1 - w = nI v ∧ (v : Int) = (E cc).2.1.toInt - c := by
    intro cc h1 h2
    have hm : E cc ∈ l := by
      rw [hl]
      refine bs_l_sub (c := cc + 1) N (by omega) ?_
      rw [bs_l_T h2]
      exact List.mem_append.mpr (Or.inr List.mem_cons_self)
    have h5 := hml.1 _ hm
    have h6 := hb2 _ hm
    have h7 := hml.2
    have e1 : ((E cc).2.1 - w).toInt = (E cc).2.1.toInt - c := by rw [br_subT (by omega) (by omega), hw]
    obtain ⟨v, e2, e3⟩ := br_nN (x := (E cc).2.1 - w) (by omega)
    exact ⟨v, by omega, e2, by omega⟩
  have rm : ∀ cc, cc < N → ∃ q, q < 18 ∧ g (667 + cc) = nI q ∧ (E cc).1 = q := by
    intro cc h1
    obtain ⟨q, h2, h3⟩ := hroom cc h1
    refine ⟨q, h2, h3, ?_⟩
    rw [← hE]
    show (g (667 + cc)).toNatClampNeg = q
    rw [h3, nI_clamp (by omega)]
  have nm : ∀ cc, (E cc).2.2 = decide (g (787 + cc) = nI 1) := fun cc => by rw [← hE]; rfl
  have gw : ∀ cc, (E cc).2.1 = g (867 + (40 * b + cc)) - g (867 + (40 * a + cc)) := fun cc => by rw [← hE]; rfl
  have ll : ∀ cc, (bs_r r (bs_l P E cc)).length ≤ cc := fun cc => Nat.le_trans (bs_r_len _) (bs_l_len cc)
  have nl : ∀ w cc, bs_n w (bs_r r (bs_l P E cc)) ≤ cc := fun w cc => Nat.le_trans (bs_n_le _) (ll cc)
  have xb : ∀ cc, cc ≤ N → 0 ≤ an_x (fun v => v - c) true (bs_r r (bs_l P E cc)) ∧ an_x (fun v => v - c) true (bs_r r (bs_l P E cc)) ≤ (400 * bs_n true (bs_r r (bs_l P E cc)) : Nat) := by
    intro cc hcc
    refine an_x_b (K := 400) _ (fun e he => ?_)
    have h1 : e ∈ bs_l P E cc := (List.mem_filter.mp he).1
    obtain ⟨c2, h2, h3, h4⟩ := bs_l_mem cc h1
    obtain ⟨v, h5, h6, h7⟩ := kid c2 (by omega) h3
    rw [h4]
    show 0 ≤ (E c2).2.1.toInt - c ∧ (E c2).2.1.toInt - c ≤ ((400 : Nat) : Int)
    omega
  have hYn : an_Y l c (r + 1) = an_Y l c r + an_x (fun v => v - c) true (bs_r r l) := rfl
  generalize hk : bs_n true (bs_r r l) = k at nT nsum
  have hkN : k ≤ N := by have := nl true N; rw [← hl, hk] at this; exact this
  obtain ⟨m24, m25, m26, ms, mT, mb⟩ := hM
  -- the second loop
  have second : ∀ m cc (J2 : Nat → Nat → Int32) (L2 : Nat → Nat → Int64) (s2 : Nat) (z10 : Option Value), cc + m = N → (∀ p j, ¬ (p = 169 ∧ (j = 24 ∨ j = 25 ∨ j = 26)) → J2 p j = J p j) → (∀ q j, q ≠ 177 → L2 q j = L q j) → (k = 0 → an_Mo c l r s J2 L2) →
      (0 < k → J2 169 24 = nI (bs_r r (bs_l P E cc)).length ∧ J2 169 25 = nI (min k (bs_r r (bs_l P E cc)).length) ∧ J2 169 26 = nI s2 ∧ s2 ≤ s + 400 * (bs_r r (bs_l P E cc)).length ∧ bt_T L2 (an_Wk (an_M l c r) (an_ws c (bs_r r (bs_l P E cc))) k) ∧ ∀ k' a, a ∈ an_o (an_M l c r) (br_si (an_ws c (bs_r r (bs_l P E cc))) k') → 0 ≤ a ∧ a ≤ s2) →
      br_r (d + 3) 253 109 [some (.ref 169), some (.int (nI a)), some (.int (nI b)), some (.int (nI (an_n true l r))), some (.int (nI (an_n false l r + bs_n false (bs_r r (bs_l P E cc))))), some (.int (nI (an_Y l c r + an_x (fun v => v - c) true (bs_r r (bs_l P E cc))).toNat)), some (.int w), some (.int (nI r)), some (.int (nI k)), some (.int (nI cc)), z10] [] (br_hp n J2 L2) Q := by
    intro m
    induction m with
    | zero =>
      intro cc J2 L2 s2 z10 hcc hJ hL k0 k1
      have : cc = N := by omega
      subst this
      rw [← hl] at k1 ⊢
      have j171 : J2 171 = g := by rw [← hg]; funext j; exact hJ 171 j (by omega)
      refine rb_M_tellsAnew_109 (br_t (by rw [j171, hN]; exact nI_le (Nat.le_refl _) (by omega)) ?_)
      rw [nI_add, nI_leI (by omega) (by omega)]
      have out : ∀ (J3 : Nat → Nat → Int32) (L3 : Nat → Nat → Int64) (s3 : Nat), (∀ p j, ¬ (p = 169 ∧ (j = 24 ∨ j = 25 ∨ j = 26)) → J3 p j = J p j) → (∀ q j, q ≠ 177 → L3 q j = L q j) → an_Mo c l (r + 1) s3 J3 L3 →
          br_r (d + 3) 253 238 [some (.ref 169), some (.int (nI a)), some (.int (nI b)), some (.int (nI (an_n true l r + k))), some (.int (nI (an_n false l r + bs_n false (bs_r r l)))), some (.int (nI (an_Y l c r + an_x (fun v => v - c) true (bs_r r l)).toNat)), some (.int w), some (.int (nI r)), some (.int (nI k)), some (.int (nI cc)), z10] [] (br_hp n J3 L3) Q := by
        intro J3 L3 s3 q1 q2 q3
        refine rb_M_tellsAnew_238 ?_
        rw [nI_add]
        have := H J3 L3 s3 (some (.int (nI k))) (some (.int (nI cc))) z10 q1 q2 q3
        rw [nT, nF, hYn] at this
        exact this
      refine ⟨fun h => ?_, fun h => ?_⟩
      · have hk0 : k = 0 := by omega
        obtain ⟨q1, q2, q3, q4, q5, q6⟩ := k0 hk0
        have eM : an_M l c (r + 1) = an_M l c r := by
          show an_o (an_M l c r) (br_si _ (bs_n true (bs_r r l))) = _
          rw [hk, hk0, an_si0]
        refine out J2 L2 s hJ hL ⟨q1, q2, q3, by omega, ?_, ?_⟩
        · rw [eM]; exact q5
        · rw [eM]; exact q6
      · obtain ⟨q1, q2, q3, q4, q5, q6⟩ := k1 (by omega)
        have hkl : k ≤ (bs_r r l).length := by omega
        have hll : (bs_r r l).length ≤ 40 := by have := bs_r_len (r := r) l; omega
        have eM : an_o (an_M l c r) (br_si (an_ws c (bs_r r l)) k) = an_M l c (r + 1) := by
          show _ = an_o (an_M l c r) (br_si ((an_v (bs_r r l)).map (fun v => v - c)) (bs_n true (bs_r r l)))
          rw [hk]; rfl
        refine rs_M_closes q5 (by omega) (by omega) (t := k) (s := s2) (by omega) (by omega) (by rw [q2]; congr 1; omega) q3 (fun k' x _ _ h5 => ?_) (fun L' hL' hT' => ?_)
        · unfold an_Wk
          by_cases h6 : k' ≤ k
          · rw [if_pos h6, an_c0 (fun a' ha' => ?_)]
            have := q6 k' a' ha'
            simp only [decide_eq_true_eq]; omega
          · rw [if_neg h6]
        · refine out _ L' s2 (fun p j hp => ?_) (fun q j hq => by rw [hL' q j hq]; exact hL q j hq) ⟨?_, ?_, ?_, ?_, fun k' x h6 h7 => ?_, ?_⟩
          · rw [br_u_n (by omega), br_u_n (by omega)]; exact hJ p j hp
          · rw [br_u_n (by omega), br_u_s]
          · rw [br_u_s]
          · rw [br_u_n (by omega), br_u_n (by omega)]; exact q3
          · rw [nT, nF]; omega
          · refine (hT' k' x h6 h7).trans ?_
            show (if _ then _ else _) = (if _ then _ else _)
            by_cases h8 : k' = 0
            · rw [if_pos h8, if_pos h8]
              unfold an_Wk
              rw [if_pos (Nat.le_refl k), eM]
            · rw [if_neg h8, if_neg h8]
          · rw [← eM]; exact q6 k
    | succ m ih =>
      intro cc J2 L2 s2 z10 hcc hJ hL k0 k1
      have j171 : J2 171 = g := by rw [← hg]; funext j; exact hJ 171 j (by omega)
      have hp := hP cc (by omega)
      rw [decide_eq_true (show cc < N by omega), Bool.true_and] at hp
      obtain ⟨q, hq, eq, er⟩ := rm cc (by omega)
      refine rb_M_tellsAnew_109 (br_f (by rw [j171, hN]; exact nI_ge (by omega) (by omega)) ⟨vp_in_nI (by omega) (by omega), ?_⟩)
      simp only [nI_add]
      rw [nI_clamp (show cc < 2 ^ 31 by omega), hJ 175 cc (by omega), hp, nI_clamp (show 667 + cc < 2 ^ 31 by omega), j171, eq, nI_eq (a := q) (b := r) (by omega) (by omega)]
      refine ⟨fun h => ?_, fun h => ⟨vp_in_nI (by omega) (by omega), fun h2 => ?_, fun h2 => ?_⟩⟩
      · have e : bs_l P E (cc + 1) = bs_l P E cc := bs_l_F (bd_b0 h)
        have := ih (cc + 1) J2 L2 s2 z10 (by omega) hJ hL k0 (by rw [e]; exact k1)
        rw [e] at this; exact this
      · have hpt : P cc = true := bd_b1 h
        obtain ⟨v, v1, v2, v3⟩ := kid cc (by omega) hpt
        have e : bs_r r (bs_l P E (cc + 1)) = bs_r r (bs_l P E cc) ++ [E cc] := by rw [bs_l_T hpt, bs_r_T (er.trans h2)]
        have hx := xb cc (by omega)
        have hx1 := xb (cc + 1) (by omega)
        have lc := ll cc
        have lt := nl true cc
        have lf := nl false cc
        have next := fun J2 L2 s2 z10 => ih (cc + 1) J2 L2 s2 z10 (by omega)
        rw [e] at next
        have tl : ∀ (J3 : Nat → Nat → Int32) (L3 : Nat → Nat → Int64) (s3 : Nat), (∀ p j, ¬ (p = 169 ∧ (j = 24 ∨ j = 25 ∨ j = 26)) → J3 p j = J p j) → (∀ q j, q ≠ 177 → L3 q j = L q j) → (k = 0 → an_Mo c l r s J3 L3) →
            (0 < k → J3 169 24 = nI (bs_r r (bs_l P E cc) ++ [E cc]).length ∧ J3 169 25 = nI (min k (bs_r r (bs_l P E cc) ++ [E cc]).length) ∧ J3 169 26 = nI s3 ∧ s3 ≤ s + 400 * (bs_r r (bs_l P E cc) ++ [E cc]).length ∧ bt_T L3 (an_Wk (an_M l c r) (an_ws c (bs_r r (bs_l P E cc) ++ [E cc])) k) ∧ ∀ k' a, a ∈ an_o (an_M l c r) (br_si (an_ws c (bs_r r (bs_l P E cc) ++ [E cc])) k') → 0 ≤ a ∧ a ≤ s3) →
            br_r (d + 3) 253 177 [some (.ref 169), some (.int (nI a)), some (.int (nI b)), some (.int (nI (an_n true l r))), some (.int (nI (an_n false l r + bs_n false (bs_r r (bs_l P E cc))))), some (.int (nI (an_Y l c r + an_x (fun v => v - c) true (bs_r r (bs_l P E cc))).toNat)), some (.int w), some (.int (nI r)), some (.int (nI k)), some (.int (nI cc)), some (.int ((E cc).2.1 - w))] [] (br_hp n J3 L3) Q := by
          intro J3 L3 s3 q1 q2 q3 q4
          have g3 : J3 171 = g := by rw [← hg]; funext j; exact q1 171 j (by omega)
          have nx := next J3 L3 s3 (some (.int ((E cc).2.1 - w))) q1 q2 q3 q4
          refine rb_M_tellsAnew_177 (rs_M_isNamed g3 (by omega) (rb_M_tellsAnew_185 ?_))
          rw [← nm cc, bu_nI0]
          refine ⟨fun h5 => rs_M_isNamed g3 (by omega) (rb_M_tellsAnew_205 ?_), fun h5 => rs_M_isNamed g3 (by omega) (rb_M_tellsAnew_205 ?_)⟩
          · rw [← nm cc, bu_nI0]
            refine br_t h5 ?_
            rw [an_x_F (by rw [h5]; exact fun z => by cases z), bs_n_T h5] at nx
            simp only [nI_add]
            exact nx
          · rw [Bool.not_eq_false] at h5
            rw [← nm cc, bu_nI0]
            refine br_f (fun z => by rw [h5] at z; cases z) ?_
            rw [an_x_T h5, bs_n_F (by rw [h5]; exact fun z => by cases z)] at nx
            rw [v2]
            simp only [nI_add]
            have e5 : (an_Y l c r + (an_x (fun v => v - c) true (bs_r r (bs_l P E cc)) + ((E cc).2.1.toInt - c))).toNat = (an_Y l c r + an_x (fun v => v - c) true (bs_r r (bs_l P E cc))).toNat + v := by omega
            rw [e5, v2] at nx
            exact nx
        refine rs_M_grewOf j171 ha hb (by omega) ?_
        rw [← gw cc]
        refine rb_M_tellsAnew_159 ?_
        rw [nI_leI (by omega) (by omega)]
        refine ⟨fun h5 => tl J2 L2 s2 hJ hL k0 (fun z => absurd z (by omega)), fun h5 => ?_⟩
        obtain ⟨q1, q2, q3, q4, q5, q6⟩ := k1 (by omega)
        have lw : (an_ws c (bs_r r (bs_l P E cc))).length = (bs_r r (bs_l P E cc)).length := an_ws_len
        have ew : an_ws c (bs_r r (bs_l P E cc) ++ [E cc]) = (v : Int) :: an_ws c (bs_r r (bs_l P E cc)) := by rw [an_ws_s, v3]
        have el : (bs_r r (bs_l P E cc) ++ [E cc]).length = (bs_r r (bs_l P E cc)).length + 1 := by rw [List.length_append]; rfl
        have nlr : (bs_r r (bs_l P E (cc + 1))).length ≤ (bs_r r l).length := by
          have := bs_r_mono (P := P) (E := E) (r := r) (c := cc + 1) N (by omega)
          rw [← hl] at this; exact this
        rw [e, el] at nlr
        have v2' := v2
        rw [v2]
        refine rs_M_adds (v := v) (j := k) (t := min k (bs_r r (bs_l P E cc)).length) (s := s2) (c := (bs_r r (bs_l P E cc)).length) q5 (by omega) (by omega) (by omega) (by omega) q1 q2 q3 (fun L' hL' hT' => ?_)
        rw [← v2]
        refine tl _ L' (s2 + v) (fun p j hp => ?_) (fun q j hq => by rw [hL' q j hq]; exact hL q j hq) (fun z => absurd z (by omega)) (fun _ => ⟨?_, ?_, ?_, ?_, fun k' x h6 h7 => ?_, fun k' a' ha' => ?_⟩)
        · rw [br_u_n (by omega), br_u_n (by omega), br_u_n (by omega)]; exact hJ p j hp
        · rw [br_u_s, el]
        · rw [br_u_n (by omega), br_u_n (by omega), br_u_s, el]; congr 1; omega
        · rw [br_u_n (by omega), br_u_s]
        · rw [el]; omega
        · refine (hT' k' x h6 h7).trans ?_
          rw [ew, ← lw]
          exact an_W_add q6 k' x
        · rw [ew] at ha'
          cases k' with
          | zero =>
            rw [an_si0] at ha'
            have := q6 0 a' (by rw [an_si0]; exact ha')
            omega
          | succ k' =>
            rw [an_st] at ha'
            rcases List.mem_append.mp ha' with h8 | h8
            · have := q6 (k' + 1) a' h8; omega
            · obtain ⟨y, hy, e9⟩ := List.mem_map.mp h8
              have := q6 k' y hy; omega
      · have hpt : P cc = true := bd_b1 h
        have e : bs_r r (bs_l P E (cc + 1)) = bs_r r (bs_l P E cc) := by rw [bs_l_T hpt, bs_r_F (by rw [er]; exact h2)]
        have := ih (cc + 1) J2 L2 s2 z10 (by omega) hJ hL k0 (by rw [e]; exact k1)
        rw [e] at this; exact this
  -- the first loop
  have first : ∀ m cc, cc + m = N → br_r (d + 3) 253 42 [some (.ref 169), some (.int (nI a)), some (.int (nI b)), some (.int (nI (an_n true l r))), some (.int (nI (an_n false l r))), some (.int (nI (an_Y l c r).toNat)), some (.int w), some (.int (nI r)), some (.int (nI (bs_n true (bs_r r (bs_l P E cc))))), some (.int (nI cc)), z10] [] (br_hp n J L) Q := by
    intro m
    induction m with
    | zero =>
      intro cc hcc
      have : cc = N := by omega
      subst this
      rw [← hl, hk]
      refine rb_M_tellsAnew_42 (br_t (by rw [hg, hN]; exact nI_le (Nat.le_refl _) (by omega)) ?_)
      have s0 := second cc 0 J L s z10 (by omega) (fun _ _ _ => rfl) (fun _ _ _ => rfl) (fun _ => ⟨m24, m25, m26, ms, mT, mb⟩) (fun _ => ⟨m24, by rw [m25]; show nI 0 = nI (min k 0); rw [Nat.min_zero], m26, by omega, fun k' x h6 h7 => ?_, fun k' a' ha' => ?_⟩)
      · have e0 : an_x (fun v => v - c) true (bs_r r (bs_l P E 0)) = 0 := rfl
        rw [e0, Int.add_zero] at s0
        exact s0
      · refine (mT k' x h6 h7).trans ?_
        exact an_W_0.symm
      · cases k' with
        | zero => exact mb a' (by rw [← an_si0 (an_M l c r) []]; exact ha')
        | succ k' => cases ha'
    | succ m ih =>
      intro cc hcc
      have h1 := ih (cc + 1) (by omega)
      have hp := hP cc (by omega)
      rw [decide_eq_true (show cc < N by omega), Bool.true_and] at hp
      obtain ⟨q, hq, eq, er⟩ := rm cc (by omega)
      have lt := nl true cc
      refine rb_M_tellsAnew_42 (br_f (by rw [hg, hN]; exact nI_ge (by omega) (by omega)) ⟨vp_in_nI (by omega) (by omega), ?_⟩)
      simp only [nI_add]
      rw [nI_clamp (show cc < 2 ^ 31 by omega), hp, nI_clamp (show 667 + cc < 2 ^ 31 by omega), hg, eq, nI_eq (a := q) (b := r) (by omega) (by omega)]
      refine ⟨fun h => ?_, fun h => ⟨vp_in_nI (by omega) (by omega), fun h2 => ?_, fun h2 => rs_M_isNamed hg (by omega) (rb_M_tellsAnew_89 ?_)⟩⟩
      · rw [bs_l_F (bd_b0 h)] at h1; exact h1
      · rw [bs_l_T (bd_b1 h), bs_r_F (by rw [er]; exact h2)] at h1; exact h1
      · rw [bs_l_T (bd_b1 h), bs_r_T (er.trans (Classical.not_not.mp h2))] at h1
        simp only [nI_add]
        rw [← nm cc, bu_nI0]
        refine ⟨fun h5 => ?_, fun h5 => ?_⟩
        · rw [bs_n_F (by rw [h5]; exact fun z => by cases z)] at h1; exact h1
        · rw [Bool.not_eq_false] at h5
          rw [bs_n_T h5] at h1; exact h1
  refine rb_M_tellsAnew_23 (br_f (by rw [hg]; exact eR) ?_)
  exact first N 0 (by omega)
theorem rs_M_tellsAnew {N a b R : Nat} {P : Nat → Bool} {l : List bs_E} {z3 z4 z5 z6 z7 z8 z9 z10 : Option Value} (hr : br_rdm g N P J) (ha : a < 6) (hb : b < 6) (hl : l = bs_l P (bs_e g a b) N) (eR : g 629 = nI R) (hR : R ≤ 18) (hroom : ∀ c, c < N → ∃ r, r < R ∧ g (667 + c) = nI r) (hb2 : br_b2 l) (hw : br_wy J L)
    (H : ∀ (J' : Nat → Nat → Int32) (L' : Nat → Nat → Int64), (∀ p j, ¬ (p = 169 ∧ (j = 24 ∨ j = 25 ∨ j = 26)) → J' p j = J p j) → (∀ q j, q ≠ 177 → q ≠ 169 → L' q j = L q j) → (∀ j, j ≠ 19 → j ≠ 20 → L' 169 j = L 169 j) → br_wy J' L' → L' 169 19 = an_u l → L' 169 20 = an_l l → Q (some (.int (br_b (an_sp l)))) (br_hp n J' L')) :
    br_r (d + 3) 253 0 [some (.ref 169), some (.int (nI a)), some (.int (nI b)), z3, z4, z5, z6, z7, z8, z9, z10] [] (br_hp n J L) Q := by
  obtain ⟨hg, hN, h40, hP⟩ := hr
  have hlen : l.length ≤ 40 := by rw [hl]; have := bs_l_len (P := P) (E := bs_e g a b) N; omega
  have h18 : ∀ c, c < N → ∃ r, r < 18 ∧ g (667 + c) = nI r := fun c hc => by
    obtain ⟨r, h1, h2⟩ := hroom c hc
    exact ⟨r, by omega, h2⟩
  have rooms : ∀ e, e ∈ l → e.1 < R := fun e he => by
    rw [hl] at he
    obtain ⟨c, h1, _, h3⟩ := bs_l_mem N he
    obtain ⟨r, h4, h5⟩ := hroom c h1
    rw [h3]
    show (g (667 + c)).toNatClampNeg < R
    rw [h5, nI_clamp (by omega)]; exact h4
  have nt : an_n true l R = bs_n true l := an_n_all l rooms
  have nf : an_n false l R = bs_n false l := an_n_all l rooms
  have nsum := bs_n_sum l
  have z0 : (lN 0).toInt = 0 := pk_lT (by omega)
  have hc : (bt_ml l).toInt = (bt_ml l).toInt := rfl
  generalize hcc : (bt_ml l).toInt = c at hc
  have eB : (an_M l c R).length = an_B l ∧ (an_M l c R).countP (fun t => decide (an_Y l c R ≤ t)) = an_A l := by
    have h1 := an_model l c R
    have h2 := an_T_more rooms (18 - R)
    rw [show R + (18 - R) = 18 by omega] at h2
    unfold an_B an_A
    rw [h2.1, h2.2]
    exact ⟨h1.2, h1.1⟩
  have hB := an_B_le hlen
  have hBp := an_B_pos l
  have loop : ∀ m r (J' : Nat → Nat → Int32) (L' : Nat → Nat → Int64) (s : Nat) (z8 z9 z10 : Option Value), r + m = R → (∀ p j, ¬ (p = 169 ∧ (j = 24 ∨ j = 25 ∨ j = 26)) → J' p j = J p j) → (∀ q j, q ≠ 177 → L' q j = L q j) → an_Mo c l r s J' L' →
      br_r (d + 3) 253 23 [some (.ref 169), some (.int (nI a)), some (.int (nI b)), some (.int (nI (an_n true l r))), some (.int (nI (an_n false l r))), some (.int (nI (an_Y l c r).toNat)), some (.int (bt_ml l)), some (.int (nI r)), z8, z9, z10] [] (br_hp n J' L') Q := by
    intro m
    induction m with
    | zero =>
      intro r J' L' s z8 z9 z10 hrm hJ hL hM
      have : r = R := by omega
      subst this
      have j171 : J' 171 = g := by rw [← hg]; funext j; exact hJ 171 j (by omega)
      obtain ⟨q1, q2, q3, q4, q5, q6⟩ := hM
      have nn := an_n_len l r
      have hY := an_Y_b hb2 hcc.symm r
      have wy : ∀ L2 : Nat → Nat → Int64, (∀ j, L2 177 j = L' 177 j) → br_wy J' L2 := fun L2 h2 => by
        refine ⟨0, s, by omega, by omega, q2, q3, fun k x h3 h4 h5 => ?_⟩
        rw [h2]
        refine (q5 k x h3 h4).trans ?_
        show (if _ then _ else _) = _
        by_cases h6 : k = 0
        · rw [if_pos h6, an_c0 (fun a' ha' => ?_)]
          have := q6 a' ha'
          simp only [decide_eq_true_eq]; omega
        · rw [if_neg h6]
      have no : ¬ an_sp l → br_r (d + 2) 251 0 [some (.ref 169), some (.long (lN 0)), none, some (.long (lN 0)), none, none, none] [] (br_hp n J' L') (fun v h => br_r (d + 3) 253 259 [some (.ref 169), some (.int (nI a)), some (.int (nI b)), some (.int (nI (an_n true l r))), some (.int (nI (an_n false l r))), some (.int (nI (an_Y l c r).toNat)), some (.int (bt_ml l)), some (.int (nI r)), z8, z9, z10] (v.toList ++ []) (br_bk h) Q) := by
        intro hns
        refine rs_M_tells (by rw [z0]; omega) (by rw [z0]; omega) (rb_M_tellsAnew_259 (rb_M_tellsAnew_268 ?_))
        rw [decide_eq_false (by rw [z0]; omega), bf_uF (by rw [z0]; omega), bf_lF (by rw [z0]; omega)]
        have h9 := H J' (br_u (br_u L' 169 19 (lN 0)) 169 20 (lN 0)) hJ (fun q j h1 h2 => by rw [br_u_n (by omega), br_u_n (by omega)]; exact hL q j h1) (fun j h1 h2 => by rw [br_u_n (by omega), br_u_n (by omega)]; exact hL 169 j (by omega)) (wy _ (fun j => by rw [br_u_n (by omega), br_u_n (by omega)])) (by rw [br_u_n (by omega), br_u_s, an_u_F hns]) (by rw [br_u_s, an_l_F hns])
        rw [br_b_F hns] at h9
        exact h9
      refine rb_M_tellsAnew_23 (br_t (by rw [j171, eR]; exact nI_le (Nat.le_refl _) (by omega)) ?_)
      rw [nI_eq (by omega) (by omega), nI_eq (by omega) (by omega)]
      refine ⟨fun h => no (fun z => ?_), fun h => ⟨fun h2 => ?_, fun h2 => no (fun z => ?_)⟩⟩
      · have := z.1; omega
      · have hsp : an_sp l := ⟨by omega, by omega⟩
        have c1 := an_hi_c (W := fun x => lN ((an_M l c r).countP (fun a => decide (a = (x : Int))))) (S := an_M l c r) (m := (an_Y l c r).toNat) (s := s) (by omega) (by omega) (fun a' ha' => (q6 a' ha').1) (fun x _ => rfl) (s + 1) (Nat.le_refl _)
        have c2 := an_all_c (W := fun x => lN ((an_M l c r).countP (fun a => decide (a = (x : Int))))) (S := an_M l c r) (s := s) (fun a' ha' => (q6 a' ha').1) (fun x _ => rfl) (s + 1) (Nat.le_refl _)
        have e1 : (an_M l c r).countP (fun a => decide ((((an_Y l c r).toNat : Nat) : Int) ≤ a) && decide (a < ((s + 1 : Nat) : Int))) = an_A l := by
          rw [← eB.2]
          refine an_cc (fun a' ha' => ?_)
          have := q6 a' ha'
          simp only [Bool.and_eq_true, decide_eq_true_eq]; omega
        have e2 : (an_M l c r).countP (fun a => true && decide (a < ((s + 1 : Nat) : Int))) = an_B l := by
          rw [← eB.1, ← List.countP_true]
          refine an_cc (fun a' ha' => ?_)
          have := q6 a' ha'
          simp only [Bool.and_eq_true, decide_eq_true_eq, true_and, iff_true]; omega
        rw [e1] at c1
        rw [e2] at c2
        have tB : (lN (an_B l)).toInt = an_B l := pk_lT (by omega)
        have tA : (lN (an_A l)).toInt = an_A l := pk_lT (by omega)
        refine rs_M_tellsWays (W := fun k x => if k = 0 then lN ((an_M l c r).countP (fun a => decide (a = (x : Int)))) else lN 0) (s := s) q5 (by omega) q3 ?_ ?_ ?_
        · show -9223372036854775808 < (bt_hi (fun x => lN ((an_M l c r).countP (fun a => decide (a = (x : Int))))) (nI (an_Y l c r).toNat) (s + 1)).toInt
          rw [c1, tA]; omega
        · show 0 ≤ (bt_all (fun x => lN ((an_M l c r).countP (fun a => decide (a = (x : Int))))) (s + 1)).toInt
          rw [c2, tB]; omega
        · show br_r (d + 3) 253 268 _ _ (br_hp n J' (br_u (br_u L' 169 19 (bf_u (bt_hi (fun x => lN ((an_M l c r).countP (fun a => decide (a = (x : Int))))) (nI (an_Y l c r).toNat) (s + 1)) (bt_all (fun x => lN ((an_M l c r).countP (fun a => decide (a = (x : Int))))) (s + 1)))) 169 20 (bf_l (bt_hi (fun x => lN ((an_M l c r).countP (fun a => decide (a = (x : Int))))) (nI (an_Y l c r).toNat) (s + 1)) (bt_all (fun x => lN ((an_M l c r).countP (fun a => decide (a = (x : Int))))) (s + 1))))) Q
          rw [c1, c2]
          refine rb_M_tellsAnew_268 ?_
          have eb : decide (0 < (bt_all ((fun (k : Nat) (x : Nat) => if k = 0 then lN ((an_M l c r).countP (fun a => decide (a = (x : Int)))) else lN 0) 0) (s + 1)).toInt) = true := by
            refine decide_eq_true ?_
            show 0 < (bt_all (fun x => lN ((an_M l c r).countP (fun a => decide (a = (x : Int))))) (s + 1)).toInt
            rw [c2, tB]; omega
          rw [eb]
          have h9 := H J' (br_u (br_u L' 169 19 (bf_u (lN (an_A l)) (lN (an_B l)))) 169 20 (bf_l (lN (an_A l)) (lN (an_B l)))) hJ (fun q j h1 h2 => by rw [br_u_n (by omega), br_u_n (by omega)]; exact hL q j h1) (fun j h1 h2 => by rw [br_u_n (by omega), br_u_n (by omega)]; exact hL 169 j (by omega)) (wy _ (fun j => by rw [br_u_n (by omega), br_u_n (by omega)])) (by rw [br_u_n (by omega), br_u_s, an_u_T hsp]) (by rw [br_u_s, an_l_T hsp])
          rw [br_b_T hsp] at h9
          exact h9
      · have := z.2; omega
    | succ m ih =>
      intro r J' L' s z8 z9 z10 hrm hJ hL hM
      have j171 : J' 171 = g := by rw [← hg]; funext j; exact hJ 171 j (by omega)
      have nn := an_n_len l r
      have hY := an_Y_b hb2 hcc.symm r
      refine rs_M_anewRoom (l := l) (c := c) (s := s) (P := P) (N := N) (g := g) ⟨j171, hN, h40, fun q hq => by rw [hJ 175 q (by omega)]; exact hP q hq⟩ ha hb hl (by omega) h18 hb2 hcc hcc.symm (by rw [eR, nI_leI (by omega) (by omega)]; omega) hM rfl rfl (by omega) (fun J2 L2 s2 z8 z9 z10 h1 h2 h3 => ?_)
      exact ih (r + 1) J2 L2 s2 z8 z9 z10 (by omega) (fun p j hp => by rw [h1 p j hp]; exact hJ p j hp) (fun q j hq => by rw [h2 q j hq]; exact hL q j hq) h3
  refine rb_M_tellsAnew_0 (rs_M_leastGrew ⟨hg, hN, h40, hP⟩ ha hb ?_)
  rw [← hl]
  obtain ⟨t, s, ht, hs, et, es, hz⟩ := hw
  refine rb_M_tellsAnew_14 (rs_M_clears ht hs et es hz (fun L' hL' hT' => rb_M_tellsAnew_20 ?_))
  have l0 := fun J' h1 h2 => loop R 0 J' L' 0 z8 z9 z10 (by omega) h1 hL' h2
  refine l0 _ (fun p j hp => by rw [br_u_n (by omega), br_u_n (by omega), br_u_n (by omega)]) ⟨?_, ?_, ?_, Nat.zero_le _, fun k x h1 h2 => ?_, fun a' ha' => ?_⟩
  · rw [br_u_n (by omega), br_u_n (by omega), br_u_s]
  · rw [br_u_n (by omega), br_u_s]
  · rw [br_u_s]
  · refine (hT' k x h1 h2).trans ?_
    show (if _ then _ else _) = (if _ then lN ([(0 : Int)].countP _) else _)
    by_cases h3 : k = 0
    · rw [if_pos h3]
      by_cases h4 : x = 0
      · rw [if_pos ⟨h3, h4⟩]; subst h4; rfl
      · rw [if_neg (fun z => h4 z.2), an_c0 (fun a' ha' => ?_)]
        have : a' = 0 := List.mem_singleton.mp ha'
        simp only [decide_eq_true_eq]; omega
    · rw [if_neg h3, if_neg (fun z => h3 z.1)]
  · have : a' = 0 := List.mem_singleton.mp ha'
    omega
end
