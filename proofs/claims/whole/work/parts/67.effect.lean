set_option maxRecDepth 100000
set_option maxHeartbeats 4000000
/-! sums over a sample -/
theorem bs_ind {α : Type} {P : List α → Prop} (h0 : P []) (hs : ∀ l e, P l → P (l ++ [e])) (l : List α) : P l := by
  have h : ∀ l : List α, P l.reverse := by
    intro l
    induction l with
    | nil => exact h0
    | cons a t ih => rw [List.reverse_cons]; exact hs _ _ ih
  have := h l.reverse
  rwa [List.reverse_reverse] at this
theorem bs_take {α : Type} {l : List α} {i : Nat} {e : α} (h : l[i]? = some e) : l.take (i + 1) = l.take i ++ [e] := by
  rw [List.take_succ, h]; rfl
theorem bs_get {α : Type} {l : List α} {i : Nat} (h : i < l.length) : ∃ e, l[i]? = some e := ⟨l[i], List.getElem?_eq_getElem h⟩
def bs_s (w : Bool) (l : List bs_E) : Int64 := l.foldl (fun s e => if e.2.2 = w then s + e.2.1.toInt64 else s) (lN 0)
def bs_n (w : Bool) (l : List bs_E) : Nat := l.foldl (fun k e => if e.2.2 = w then k + 1 else k) 0
theorem bs_s_T {w : Bool} {l : List bs_E} {e : bs_E} (h : e.2.2 = w) : bs_s w (l ++ [e]) = bs_s w l + e.2.1.toInt64 := by
  unfold bs_s; rw [List.foldl_append]; show (if e.2.2 = w then _ else _) = _; rw [if_pos h]
theorem bs_s_F {w : Bool} {l : List bs_E} {e : bs_E} (h : ¬ e.2.2 = w) : bs_s w (l ++ [e]) = bs_s w l := by
  unfold bs_s; rw [List.foldl_append]; show (if e.2.2 = w then _ else _) = _; rw [if_neg h]
theorem bs_n_T {w : Bool} {l : List bs_E} {e : bs_E} (h : e.2.2 = w) : bs_n w (l ++ [e]) = bs_n w l + 1 := by
  unfold bs_n; rw [List.foldl_append]; show (if e.2.2 = w then _ else _) = _; rw [if_pos h]
theorem bs_n_F {w : Bool} {l : List bs_E} {e : bs_E} (h : ¬ e.2.2 = w) : bs_n w (l ++ [e]) = bs_n w l := by
  unfold bs_n; rw [List.foldl_append]; show (if e.2.2 = w then _ else _) = _; rw [if_neg h]
theorem bs_n_sum (l : List bs_E) : bs_n true l + bs_n false l = l.length := by
  refine bs_ind (P := fun l => bs_n true l + bs_n false l = l.length) rfl (fun l e ih => ?_) l
  rw [List.length_append]
  cases he : e.2.2 with
  | true => rw [bs_n_T he, bs_n_F (by rw [he]; exact fun z => by cases z)]; simp only [List.length_cons, List.length_nil]; omega
  | false => rw [bs_n_F (by rw [he]; exact fun z => by cases z), bs_n_T he]; simp only [List.length_cons, List.length_nil]; omega
def br_bl (l : List bs_E) : Prop := ∀ e, e ∈ l → -400 ≤ e.2.1.toInt ∧ e.2.1.toInt ≤ 400
theorem bs_s_b {w : Bool} (l : List bs_E) : br_bl l → l.length ≤ 1000 → -(400 * (l.length : Int)) ≤ (bs_s w l).toInt ∧ (bs_s w l).toInt ≤ 400 * (l.length : Int) := by
  refine bs_ind (P := fun l => br_bl l → l.length ≤ 1000 → -(400 * (l.length : Int)) ≤ (bs_s w l).toInt ∧ (bs_s w l).toInt ≤ 400 * (l.length : Int)) (fun _ _ => ?_) (fun l e ih hb hl => ?_) l
  · have : (bs_s w []).toInt = 0 := pk_lT (by omega)
    rw [this]; simp
  · rw [List.length_append] at hl ⊢
    simp only [List.length_cons, List.length_nil] at hl ⊢
    have h1 := ih (fun e' he' => hb e' (List.mem_append.mpr (Or.inl he'))) (by omega)
    have h2 := hb e (List.mem_append.mpr (Or.inr (List.mem_singleton.mpr rfl)))
    by_cases he : e.2.2 = w
    · rw [bs_s_T he]
      have h3 : e.2.1.toInt64.toInt = e.2.1.toInt := Int32.toInt_toInt64 _
      rw [br_laddT (by rw [h3]; omega) (by rw [h3]; omega), h3]
      omega
    · rw [bs_s_F he]; omega
theorem bs_l_mem {P : Nat → Bool} {E : Nat → bs_E} {e : bs_E} : ∀ N, e ∈ bs_l P E N → ∃ c, c < N ∧ P c = true ∧ e = E c
  | 0, h => by cases h
  | N + 1, h => by
    cases hp : P N with
    | true =>
      rw [bs_l_T hp] at h
      rcases List.mem_append.mp h with h | h
      · obtain ⟨c, h1, h2, h3⟩ := bs_l_mem N h
        exact ⟨c, by omega, h2, h3⟩
      · exact ⟨N, by omega, hp, List.mem_singleton.mp h⟩
    | false =>
      rw [bs_l_F hp] at h
      obtain ⟨c, h1, h2, h3⟩ := bs_l_mem N h
      exact ⟨c, by omega, h2, h3⟩
def bs_U (l : List bs_E) : Int64 := bs_s true l * lN (bs_n false l) - bs_s false l * lN (bs_n true l)
def bs_V (l : List bs_E) : Int64 := lN (bs_n true l) * lN (bs_n false l)
theorem bs_V_T {l : List bs_E} (hl : l.length ≤ 40) : (bs_V l).toInt = (bs_n true l * bs_n false l : Nat) ∧ bs_n true l * bs_n false l ≤ 1600 := by
  have h := bs_n_sum l
  have h1 : bs_n true l * bs_n false l ≤ 40 * 40 := Nat.mul_le_mul (by omega) (by omega)
  unfold bs_V
  rw [lN_mul, pk_lT (by omega)]
  exact ⟨rfl, h1⟩
theorem br_mulb {s : Int} {k a b : Nat} (h1 : -(a : Int) ≤ s) (h2 : s ≤ a) (hk : k ≤ b) : -((a * b : Nat) : Int) ≤ s * k ∧ s * k ≤ ((a * b : Nat) : Int) := by
  have e1 : s * k ≤ a * k := Int.mul_le_mul_of_nonneg_right h2 (by omega)
  have e2 : -(a : Int) * k ≤ s * k := Int.mul_le_mul_of_nonneg_right h1 (by omega)
  have e3 : a * k ≤ a * b := Nat.mul_le_mul_left a hk
  have e4 : (a : Int) * k ≤ ((a * b : Nat) : Int) := by exact_mod_cast e3
  have e5 : -(a : Int) * k = -((a : Int) * k) := Int.neg_mul _ _
  omega
theorem bs_U_T {l : List bs_E} (hb : br_bl l) (hl : l.length ≤ 40) : (bs_U l).toInt = (bs_s true l).toInt * bs_n false l - (bs_s false l).toInt * bs_n true l ∧ (bs_U l).toInt.natAbs ≤ 1280000 := by
  have h := bs_n_sum l
  have b1 := bs_s_b (w := true) l hb (by omega)
  have b2 := bs_s_b (w := false) l hb (by omega)
  have m1 := br_mulb (a := 16000) (b := 40) (k := bs_n false l) (s := (bs_s true l).toInt) (by omega) (by omega) (by omega)
  have m2 := br_mulb (a := 16000) (b := 40) (k := bs_n true l) (s := (bs_s false l).toInt) (by omega) (by omega) (by omega)
  have t1 : (lN (bs_n false l)).toInt = bs_n false l := pk_lT (by omega)
  have t2 : (lN (bs_n true l)).toInt = bs_n true l := pk_lT (by omega)
  have e1 : (bs_s true l * lN (bs_n false l)).toInt = (bs_s true l).toInt * bs_n false l := by rw [br_lmulT (by rw [t1]; omega) (by rw [t1]; omega), t1]
  have e2 : (bs_s false l * lN (bs_n true l)).toInt = (bs_s false l).toInt * bs_n true l := by rw [br_lmulT (by rw [t2]; omega) (by rw [t2]; omega), t2]
  have e3 : (bs_U l).toInt = (bs_s true l).toInt * bs_n false l - (bs_s false l).toInt * bs_n true l := by
    unfold bs_U
    rw [br_lsubT (by rw [e1, e2]; omega) (by rw [e1, e2]; omega), e1, e2]
  exact ⟨e3, by rw [e3]; omega⟩
section
variable {d n : Nat} {Q : br_Q} {I : Nat → Nat → Int32} {L : Nat → Nat → Int64}
theorem rs_S_named {l : List bs_E} {z1 z2 : Option Value} (hs : br_sam l I) (H : Q (some (.int (nI (bs_n true l)))) (br_hp n I L)) : br_r d 103 0 [some (.ref 64), z1, z2] [] (br_hp n I L) Q := by
  obtain ⟨h1, h2, h3⟩ := hs
  have loop : ∀ k i, i + k = l.length → br_r d 103 4 [some (.ref 64), some (.int (nI (bs_n true (l.take i)))), some (.int (nI i))] [] (br_hp n I L) Q := by
    intro k
    induction k with
    | zero =>
      intro i hi
      have : i = l.length := by omega
      subst this
      rw [List.take_length]
      exact rb_Sample_namedOnes_4 (br_t (by rw [h2]; exact nI_le (Nat.le_refl _) (by omega)) H)
    | succ k ih =>
      intro i hi
      have h5 := ih (i + 1) (by omega)
      obtain ⟨e, he⟩ := bs_get (l := l) (i := i) (by omega)
      obtain ⟨q1, q2, q3⟩ := h3 i e he
      rw [bs_take he] at h5
      refine rb_Sample_namedOnes_4 (br_f (by rw [h2]; exact nI_ge (by omega) (by omega)) ⟨vp_in_nI (by omega) (by omega), ?_⟩)
      rw [nI_clamp (by omega), q3, bu_nI0, nI_add, nI_add]
      refine ⟨fun h => ?_, fun h => ?_⟩
      · rw [bs_n_F (by rw [h]; exact fun z => by cases z)] at h5; exact h5
      · rw [Bool.not_eq_false] at h
        rw [bs_n_T h] at h5; exact h5
  have l0 := loop l.length 0 (by omega)
  exact rb_Sample_namedOnes_0 l0
theorem rs_S_split {l : List bs_E} {z1 : Option Value} (hs : br_sam l I) (H : Q (some (.int (nI (decide (0 < bs_n true l ∧ 0 < bs_n false l)).toNat))) (br_hp n I L)) : br_r (d + 1) 108 0 [some (.ref 64), z1] [] (br_hp n I L) Q := by
  have h := bs_n_sum l
  have hl := hs.1
  refine rb_Sample_isSplit_0 (rs_S_named hs (rb_Sample_isSplit_4 ?_))
  rw [hs.2.1, nI_leI (by omega) (by omega), nI_leI (by omega) (by omega)]
  refine ⟨fun h1 => ?_, fun h1 => ⟨fun h2 => ?_, fun h2 => ?_⟩⟩
  · rw [bu_dF (by omega)] at H; exact H
  · rw [bu_dF (by omega)] at H; exact H
  · rw [bu_dT (by omega)] at H; exact H
theorem rs_difference {l : List bs_E} {p : Nat} {z2 z3 z4 z5 z6 z7 z8 z9 : Option Value} (hs : br_sam l I) (hb : br_bl l) (hp : br_S0 n p = (0, 1)) (H : Q none (br_hp n I (br_u (br_u L p 0 (bf_u (bs_U l) (bs_V l))) p 1 (bf_l (bs_U l) (bs_V l))))) :
    br_r (d + 2) 130 0 [some (.ref 64), some (.ref p), z2, z3, z4, z5, z6, z7, z8, z9] [] (br_hp n I L) Q := by
  obtain ⟨h1, h2, h3⟩ := hs
  have hn := bs_n_sum l
  have loop : ∀ k i (z7 z8 z9 : Option Value), i + k = l.length → br_r (d + 2) 130 8 [some (.ref 64), some (.ref p), some (.long (bs_s true (l.take i))), none, some (.long (bs_s false (l.take i))), none, some (.int (nI i)), z7, z8, z9] [] (br_hp n I L) Q := by
    intro k
    induction k with
    | zero =>
      intro i z7 z8 z9 hi
      have : i = l.length := by omega
      subst this
      rw [List.take_length]
      refine rb_Sample_difference_8 (br_t (by rw [h2]; exact nI_le (Nat.le_refl _) (by omega)) (rs_S_named ⟨h1, h2, h3⟩ (rb_Sample_difference_64 ⟨hp, ?_⟩)))
      have e : (nI l.length).toInt64 - (nI (bs_n true l)).toInt64 = lN (bs_n false l) := by
        rw [nI_l (by omega), nI_l (by omega), lN_sub (by omega)]; congr 1; omega
      rw [h2, e, nI_l (show bs_n true l < 2 ^ 31 by omega)]
      exact rs_become hp (by have := (bs_U_T hb h1).2; show -9223372036854775808 < (bs_U l).toInt; omega) (rb_Sample_difference_96 H)
    | succ k ih =>
      intro i z7 z8 z9 hi
      have h5 := fun z7 z8 z9 => ih (i + 1) z7 z8 z9 (by omega)
      obtain ⟨e, he⟩ := bs_get (l := l) (i := i) (by omega)
      obtain ⟨q1, q2, q3⟩ := h3 i e he
      rw [bs_take he] at h5
      refine rb_Sample_difference_8 (br_f (by rw [h2]; exact nI_ge (by omega) (by omega)) ⟨vp_in_nI (by omega) (by omega), ?_⟩)
      rw [nI_clamp (by omega), q3, bu_nI0, nI_add, q2]
      refine ⟨fun h => ⟨vp_in_nI (by omega) (by omega), ?_⟩, fun h => ⟨vp_in_nI (by omega) (by omega), ?_⟩⟩
      · rw [bs_s_F (by rw [h]; exact fun z => by cases z), bs_s_T h] at h5; exact h5 _ _ _
      · rw [Bool.not_eq_false] at h
        rw [bs_s_T h, bs_s_F (by rw [h]; exact fun z => by cases z)] at h5; exact h5 _ _ _
  exact rb_Sample_difference_0 (loop l.length 0 z7 z8 z9 (by omega))
theorem rs_M_isNamed {g : Nat → Int32} {c : Nat} (hg : I 171 = g) (hc : c < 40) (H : Q (some (.int (nI (decide (g (787 + c) = nI 1)).toNat))) (br_hp n I L)) : br_r d 244 0 [some (.ref 169), some (.int (nI c))] [] (br_hp n I L) Q := by
  subst hg
  refine rb_M_isNamed_0 ?_
  rw [nI_add, nI_clamp (by omega)]
  refine ⟨vp_in_nI (by omega) (by omega), fun h => ?_, fun h => ?_⟩
  · rw [bu_dF h] at H; exact H
  · rw [bu_dT (Classical.not_not.mp h)] at H; exact H
theorem rs_M_grewOf {g : Nat → Int32} {a b c : Nat} (hg : I 171 = g) (ha : a < 6) (hb : b < 6) (hc : c < 40) (H : Q (some (.int (g (867 + (40 * b + c)) - g (867 + (40 * a + c))))) (br_hp n I L)) : br_r (d + 1) 246 0 [some (.ref 169), some (.int (nI c)), some (.int (nI a)), some (.int (nI b))] [] (br_hp n I L) Q := by
  subst hg
  exact rb_M_grewOf_0 (rs_pointOf hc hb (rb_M_grewOf_6 (rs_pointOf hc ha (rb_M_grewOf_12 H))))
/-- what the model has read -/
def br_rdm (g : Nat → Int32) (N : Nat) (P : Nat → Bool) (J : Nat → Nat → Int32) : Prop := J 171 = g ∧ g 666 = nI N ∧ N ≤ 40 ∧ ∀ c, c < 40 → J 175 c = nI (decide (c < N) && P c).toNat
theorem rs_M_tellsEffect {g : Nat → Int32} {N a b : Nat} {P : Nat → Bool} {z3 z4 z5 z6 z7 z8 z9 z10 z11 : Option Value} (hr : br_rdm g N P I) (ha : a < 6) (hb : b < 6) (hbl : br_bl (bs_l P (bs_e g a b) N))
    (H : Q (some (.int (nI (decide (0 < (bs_V (bs_l P (bs_e g a b) N)).toInt)).toNat))) (br_hp n I (br_u (br_u L 169 19 (bf_u (bs_U (bs_l P (bs_e g a b) N)) (bs_V (bs_l P (bs_e g a b) N)))) 169 20 (bf_l (bs_U (bs_l P (bs_e g a b) N)) (bs_V (bs_l P (bs_e g a b) N)))))) :
    br_r (d + 3) 249 0 [some (.ref 169), some (.int (nI a)), some (.int (nI b)), z3, z4, z5, z6, z7, z8, z9, z10, z11] [] (br_hp n I L) Q := by
  obtain ⟨hg, hN, h40, hP⟩ := hr
  have ll : ∀ c, (bs_l P (bs_e g a b) c).length ≤ c := fun c => bs_l_len c
  have loop : ∀ k c, c + k = N → br_r (d + 3) 249 14 [some (.ref 169), some (.int (nI a)), some (.int (nI b)), some (.long (bs_s true (bs_l P (bs_e g a b) c))), none, some (.long (lN (bs_n true (bs_l P (bs_e g a b) c)))), none, some (.long (bs_s false (bs_l P (bs_e g a b) c))), none, some (.long (lN (bs_n false (bs_l P (bs_e g a b) c)))), none, some (.int (nI c))] [] (br_hp n I L) Q := by
    intro k
    induction k with
    | zero =>
      intro c hc
      have : c = N := by omega
      subst this
      refine rb_M_tellsEffect_14 (br_t (by rw [hg, hN]; exact nI_le (Nat.le_refl _) (by omega)) (rb_M_tellsMeans_0 ?_))
      have hl40 : (bs_l P (bs_e g a b) c).length ≤ 40 := by have := ll c; omega
      have hV := bs_V_T hl40
      refine rs_M_tells ?_ ?_ (rb_M_tellsMeans_17 (rb_M_tellsEffect_107 H))
      · have := (bs_U_T hbl hl40).2
        show -9223372036854775808 < (bs_U (bs_l P (bs_e g a b) c)).toInt
        omega
      · show 0 ≤ (bs_V (bs_l P (bs_e g a b) c)).toInt
        omega
    | succ k ih =>
      intro c hc
      have h5 := ih (c + 1) (by omega)
      have hp := hP c (by omega)
      rw [decide_eq_true (show c < N by omega), Bool.true_and] at hp
      refine rb_M_tellsEffect_14 (br_f (by rw [hg, hN]; exact nI_ge (by omega) (by omega)) ⟨vp_in_nI (by omega) (by omega), ?_⟩)
      rw [nI_clamp (by omega), hp, bu_nI0]
      refine ⟨fun h => ?_, fun h => ?_⟩
      · rw [Bool.not_eq_false] at h
        rw [bs_l_T h] at h5
        refine rs_M_isNamed hg (by omega) (rb_M_tellsEffect_46 ?_)
        rw [bu_nI0]
        refine ⟨fun h2 => rs_M_grewOf hg ha hb (by omega) (rb_M_tellsEffect_80 ?_), fun h2 => rs_M_grewOf hg ha hb (by omega) (rb_M_tellsEffect_58 ?_)⟩
        · have he : (bs_e g a b c).2.2 = false := h2
          rw [bs_s_F (by rw [he]; exact fun z => by cases z), bs_s_T he, bs_n_F (by rw [he]; exact fun z => by cases z), bs_n_T he, ← lN_add, ← nI_add] at h5
          exact h5
        · rw [Bool.not_eq_false] at h2
          have he : (bs_e g a b c).2.2 = true := h2
          rw [bs_s_T he, bs_s_F (by rw [he]; exact fun z => by cases z), bs_n_T he, bs_n_F (by rw [he]; exact fun z => by cases z), ← lN_add, ← nI_add] at h5
          exact h5
      · have h' := Classical.not_not.mp h
        rw [bs_l_F h'] at h5
        rw [nI_add]; exact h5
  exact rb_M_tellsEffect_0 (loop N 0 (by omega))
end
