set_option maxRecDepth 100000
set_option maxHeartbeats 4000000
/-! all looks, the best of them -/
abbrev lk_S : Type := Nat × Int32 × Int64 × Int64
def lk_s (g : Nat → Int32) (N a b : Nat) : List bs_E := bs_l (bm_rd g a b false) (bs_e g a b) N
noncomputable def lk_X (s : List bs_E) (S : lk_S) : Int := (an_u s).toInt * S.2.2.2.toInt - S.2.2.1.toInt * (an_l s).toInt
def lk_tk (s : List bs_E) (S : lk_S) : Prop := S.1 = 0 ∨ lk_X s S < 0
noncomputable def lk_st (g : Nat → Int32) (N : Nat) (S : lk_S) (a b : Nat) : lk_S := @ite lk_S (an_sp (lk_s g N a b)) (Classical.propDecidable _) (S.1 + 1, @ite (Int32 × Int64 × Int64) (lk_tk (lk_s g N a b) S) (Classical.propDecidable _) (nI (10 * a + b), an_u (lk_s g N a b), an_l (lk_s g N a b)) S.2) S
theorem lk_st_F {g : Nat → Int32} {N a b : Nat} {S : lk_S} (h : ¬ an_sp (lk_s g N a b)) : lk_st g N S a b = S := by unfold lk_st; exact if_neg h
theorem lk_st_T {g : Nat → Int32} {N a b : Nat} {S : lk_S} (h : an_sp (lk_s g N a b)) (h2 : lk_tk (lk_s g N a b) S) : lk_st g N S a b = (S.1 + 1, nI (10 * a + b), an_u (lk_s g N a b), an_l (lk_s g N a b)) := by unfold lk_st; rw [if_pos h, if_pos h2]
theorem lk_st_K {g : Nat → Int32} {N a b : Nat} {S : lk_S} (h : an_sp (lk_s g N a b)) (h2 : ¬ lk_tk (lk_s g N a b) S) : lk_st g N S a b = (S.1 + 1, S.2) := by unfold lk_st; rw [if_pos h, if_neg h2]
theorem lk_st_1 {g : Nat → Int32} {N a b : Nat} {S : lk_S} (h : an_sp (lk_s g N a b)) : (lk_st g N S a b).1 = S.1 + 1 := by
  by_cases h2 : lk_tk (lk_s g N a b) S
  · rw [lk_st_T h h2]
  · rw [lk_st_K h h2]
noncomputable def lk_rw (g : Nat → Int32) (N a : Nat) (S : lk_S) : Nat → lk_S
  | 0 => S
  | k + 1 => lk_st g N (lk_rw g N a S k) a (a + 1 + k)
noncomputable def lk_al (g : Nat → Int32) (N : Nat) : Nat → lk_S
  | 0 => (0, -(nI 1), lN 0, lN 0)
  | a + 1 => lk_rw g N a (lk_al g N a) (5 - a)
def lk_ok (S : lk_S) (m : Nat) : Prop := S.1 ≤ m ∧ (S.1 = 0 → S.2 = (-(nI 1), lN 0, lN 0)) ∧ (0 < S.1 → ¬ S.2.1 = -(nI 1) ∧ 0 < S.2.2.2.toInt ∧ S.2.2.2.toInt ≤ 1099511627776 ∧ S.2.2.1.toInt.natAbs ≤ 1099511627776)
theorem lk_b {s : List bs_E} (hl : s.length ≤ 40) (h : an_sp s) : 0 < (an_l s).toInt ∧ (an_l s).toInt ≤ 1099511627776 ∧ (an_u s).toInt.natAbs ≤ 1099511627776 := by
  have h1 := an_B_le hl
  have h2 := an_B_pos s
  have tB : (lN (an_B s)).toInt = an_B s := pk_lT (by omega)
  have tA : (lN (an_A s)).toInt = an_A s := pk_lT (by omega)
  have h3 := bf_l_pos (u := lN (an_A s)) (l := lN (an_B s)) (by omega)
  have h4 := bf_u_abs (u := lN (an_A s)) (l := lN (an_B s)) (by omega)
  rw [an_l_T h, an_u_T h]
  omega
theorem lk_len {g : Nat → Int32} {N a b : Nat} (hN : N ≤ 40) : (lk_s g N a b).length ≤ 40 := by
  have := bs_l_len (P := bm_rd g a b false) (E := bs_e g a b) N
  unfold lk_s; omega
theorem lk_st_ok {g : Nat → Int32} {N a b m : Nat} {S : lk_S} (hN : N ≤ 40) (ha : a < 6) (hb : b < 6) (h : lk_ok S m) : lk_ok (lk_st g N S a b) (m + 1) := by
  obtain ⟨h1, h2, h3⟩ := h
  by_cases hs : an_sp (lk_s g N a b)
  · by_cases ht : lk_tk (lk_s g N a b) S
    · rw [lk_st_T hs ht]
      have q := lk_b (lk_len hN) hs
      refine ⟨?_, fun z => ?_, fun _ => ⟨fun z => ?_, q⟩⟩
      · show S.1 + 1 ≤ m + 1
        omega
      · have z2 : S.1 + 1 = 0 := z
        omega
      · have z2 : nI (10 * a + b) = -(nI 1) := z
        rw [br_eqT, nI_toInt (by omega), br_negT (by omega)] at z2; omega
    · rw [lk_st_K hs ht]
      have hp : 0 < S.1 := Nat.pos_of_ne_zero (fun z => ht (Or.inl z))
      refine ⟨?_, fun z => ?_, fun _ => h3 hp⟩
      · show S.1 + 1 ≤ m + 1
        omega
      · have z2 : S.1 + 1 = 0 := z
        omega
  · rw [lk_st_F hs]
    exact ⟨by omega, h2, h3⟩
theorem lk_rw_ok {g : Nat → Int32} {N a m : Nat} {S : lk_S} (hN : N ≤ 40) (ha : a < 6) (h : lk_ok S m) : ∀ k, a + 1 + k ≤ 6 → lk_ok (lk_rw g N a S k) (m + k)
  | 0, _ => h
  | k + 1, hk => lk_st_ok hN ha (by omega) (lk_rw_ok hN ha h k (by omega))
theorem lk_al_ok {g : Nat → Int32} {N : Nat} (hN : N ≤ 40) : ∀ a, a ≤ 6 → lk_ok (lk_al g N a) (5 * a)
  | 0, _ => ⟨Nat.le_refl 0, fun _ => rfl, fun z => absurd z (Nat.lt_irrefl 0)⟩
  | a + 1, h => by
    obtain ⟨h1, h2, h3⟩ := lk_rw_ok (g := g) (a := a) hN (by omega) (lk_al_ok (g := g) hN a (by omega)) (5 - a) (by omega)
    exact ⟨Nat.le_trans h1 (by omega), h2, h3⟩
section
variable {d n : Nat} {Q : br_Q} {I J : Nat → Nat → Int32} {L : Nat → Nat → Int64} {g : Nat → Int32} {N : Nat}
theorem rs_A_countLooks {z1 z2 z3 : Option Value} (hW : br_W 9 0 I) (hg : I 171 = g) (hN : N ≤ 40) (eN : g 666 = nI N)
    (H : ∀ J : Nat → Nat → Int32, (∀ p, ¬ (64 ≤ p ∧ p ≤ 67) → J p = I p) → Q (some (.int (nI (lk_al g N 6).1))) (br_hp n J L)) :
    br_r (d + 4) 138 0 [some (.ref 8), z1, z2, z3] [] (br_hp n I L) Q := by
  have outer : ∀ m a (J : Nat → Nat → Int32) (z3 : Option Value), a + m = 6 → (∀ p, ¬ (64 ≤ p ∧ p ≤ 67) → J p = I p) →
      br_r (d + 4) 138 4 [some (.ref 8), some (.int (nI (lk_al g N a).1)), some (.int (nI a)), z3] [] (br_hp n J L) Q := by
    intro m
    induction m with
    | zero =>
      intro a J z3 ham hJ
      have : a = 6 := by omega
      subst this
      exact rb_A_countLooks_4 (br_t (nI_le (b := 6) (Nat.le_refl _) (by omega)) (H J hJ))
    | succ m ih =>
      intro a J z3 ham hJ
      have inner : ∀ m k (J : Nat → Nat → Int32), k + m = 5 - a → (∀ p, ¬ (64 ≤ p ∧ p ≤ 67) → J p = I p) →
          br_r (d + 4) 138 14 [some (.ref 8), some (.int (nI (lk_rw g N a (lk_al g N a) k).1)), some (.int (nI a)), some (.int (nI (a + 1 + k)))] [] (br_hp n J L) Q := by
        intro m
        induction m with
        | zero =>
          intro k J hk hJ
          have hk5 : k = 5 - a := by omega
          refine rb_A_countLooks_14 (br_t (nI_le (a := 6) (by omega) (by omega)) ?_)
          rw [nI_add]
          have := ih (a + 1) J (some (.int (nI (a + 1 + k)))) (by omega) hJ
          have e : lk_al g N (a + 1) = lk_rw g N a (lk_al g N a) k := by rw [hk5]; rfl
          rw [e] at this
          exact this
        | succ m ihk =>
          intro k J hk hJ
          have g1 : J 171 = g := by rw [hJ 171 (by omega), hg]
          have hWJ : br_W 9 0 J := br_W_c hW (fun p j h1 h2 => by rw [hJ p (by omega)]) (fun k _ => by rw [hJ 171 (by omega)])
          refine rb_A_countLooks_14 (br_f (nI_ge (b := 6) (by omega) (by omega)) (rs_W_gather (clean := false) hWJ hN (by rw [g1]; exact eN) (by omega) (by omega) (fun J2 hJ2 hq => rb_A_countLooks_34 (rs_S_split hq (rb_A_countLooks_41 ?_)))))
          rw [g1]
          have hJ2' : ∀ p, ¬ (64 ≤ p ∧ p ≤ 67) → J2 p = I p := fun p hp => by rw [hJ2 p hp, hJ p hp]
          have nx := ihk (k + 1) J2 (by omega) hJ2'
          have e : lk_rw g N a (lk_al g N a) (k + 1) = lk_st g N (lk_rw g N a (lk_al g N a) k) a (a + 1 + k) := rfl
          rw [e] at nx
          rw [nI_add, nI_add]
          refine ⟨fun h => ?_, fun h => ?_⟩
          · have hs : ¬ an_sp (lk_s g N a (a + 1 + k)) := fun z => by
              have z' : 0 < bs_n true (lk_s g N a (a + 1 + k)) ∧ 0 < bs_n false (lk_s g N a (a + 1 + k)) := z
              have h' : nI (decide (0 < bs_n true (lk_s g N a (a + 1 + k)) ∧ 0 < bs_n false (lk_s g N a (a + 1 + k)))).toNat = nI 0 := h
              rw [bu_dT z'] at h'; exact absurd h' br_10
            rw [lk_st_F hs] at nx
            exact nx
          · have hs : an_sp (lk_s g N a (a + 1 + k)) := by
              refine Classical.byContradiction (fun z => ?_)
              have z' : ¬ (0 < bs_n true (lk_s g N a (a + 1 + k)) ∧ 0 < bs_n false (lk_s g N a (a + 1 + k))) := z
              have e' : nI (decide (0 < bs_n true (lk_s g N a (a + 1 + k)) ∧ 0 < bs_n false (lk_s g N a (a + 1 + k)))).toNat = nI 0 := bu_dF z'
              exact h e'
            rw [lk_st_1 hs] at nx
            exact nx
      refine rb_A_countLooks_4 (br_f (nI_ge (b := 6) (by omega) (by omega)) ?_)
      rw [nI_add]
      exact inner (5 - a) 0 J (by omega) hJ
  exact rb_A_countLooks_0 (outer 6 0 I z3 (by omega) (fun _ _ => rfl))
theorem rs_A_findBest {p : Nat} {z2 z3 z4 : Option Value} (hp : p = 72 ∨ p = 73) (hW : br_W 9 0 I) (hg : I 171 = g) (hN : N ≤ 40) (eN : g 666 = nI N) (hroom : ∀ c, c < N → ∃ r, r < 18 ∧ g (667 + c) = nI r)
    (H : ∀ (J : Nat → Nat → Int32) (L' : Nat → Nat → Int64), (∀ p j, ¬ (64 ≤ p ∧ p ≤ 71) → J p j = I p j) → (∀ q j, q ≠ 70 → q ≠ 74 → q ≠ p → L' q j = L q j) → L' p 0 = (lk_al g N 6).2.2.1 → L' p 1 = (lk_al g N 6).2.2.2 → Q (some (.int (lk_al g N 6).2.1)) (br_hp n J L')) :
    br_r (d + 6) 139 0 [some (.ref 8), some (.ref p), z2, z3, z4] [] (br_hp n I L) Q := by
  have hS : br_S0 n p = (0, 1) := by rcases hp with rfl | rfl <;> rfl
  have p74 : p ≠ 74 := by omega
  have p70 : p ≠ 70 := by omega
  have samb : ∀ a b, a < 6 → b < 6 → br_b2 (lk_s g N a b) := fun a b ha hb => by rw [← hg]; exact bs_l_b2 hW hN ha hb
  have outer : ∀ m a (J : Nat → Nat → Int32) (L' : Nat → Nat → Int64) (z4 : Option Value), a + m = 6 → (∀ p j, ¬ (64 ≤ p ∧ p ≤ 71) → J p j = I p j) → (∀ q j, q ≠ 70 → q ≠ 74 → q ≠ p → L' q j = L q j) → L' p 0 = (lk_al g N a).2.2.1 → L' p 1 = (lk_al g N a).2.2.2 →
      br_r (d + 6) 139 8 [some (.ref 8), some (.ref p), some (.int (lk_al g N a).2.1), some (.int (nI a)), z4] [] (br_hp n J L') Q := by
    intro m
    induction m with
    | zero =>
      intro a J L' z4 ham hJ hL h0 h1
      have : a = 6 := by omega
      subst this
      exact rb_A_findBest_8 (br_t (nI_le (b := 6) (Nat.le_refl _) (by omega)) (H J L' hJ hL h0 h1))
    | succ m ih =>
      intro a J L' z4 ham hJ hL h0 h1
      have inner : ∀ m k (J : Nat → Nat → Int32) (L' : Nat → Nat → Int64), k + m = 5 - a → (∀ p j, ¬ (64 ≤ p ∧ p ≤ 71) → J p j = I p j) → (∀ q j, q ≠ 70 → q ≠ 74 → q ≠ p → L' q j = L q j) → L' p 0 = (lk_rw g N a (lk_al g N a) k).2.2.1 → L' p 1 = (lk_rw g N a (lk_al g N a) k).2.2.2 →
          br_r (d + 6) 139 19 [some (.ref 8), some (.ref p), some (.int (lk_rw g N a (lk_al g N a) k).2.1), some (.int (nI a)), some (.int (nI (a + 1 + k)))] [] (br_hp n J L') Q := by
        intro m
        induction m with
        | zero =>
          intro k J L' hk hJ hL h0 h1
          have hk5 : k = 5 - a := by omega
          have e : lk_al g N (a + 1) = lk_rw g N a (lk_al g N a) k := by rw [hk5]; rfl
          refine rb_A_findBest_19 (br_t (nI_le (a := 6) (by omega) (by omega)) ?_)
          rw [nI_add]
          have := ih (a + 1) J L' (some (.int (nI (a + 1 + k)))) (by omega) hJ hL (by rw [e]; exact h0) (by rw [e]; exact h1)
          rw [e] at this
          exact this
        | succ m ihk =>
          intro k J L' hk hJ hL h0 h1
          have ok := lk_rw_ok (g := g) (a := a) hN (by omega) (lk_al_ok (g := g) hN a (by omega)) k (by omega)
          have g1 : J 171 = g := by rw [← hg]; funext j; exact hJ 171 j (by omega)
          have hWJ : br_W 9 0 J := br_W_c hW (fun p j h1 h2 => hJ p j (by omega)) (fun k _ => hJ 171 _ (by omega))
          have e : lk_rw g N a (lk_al g N a) (k + 1) = lk_st g N (lk_rw g N a (lk_al g N a) k) a (a + 1 + k) := rfl
          have nx := fun J L' => ihk (k + 1) J L' (by omega)
          rw [e] at nx
          generalize lk_rw g N a (lk_al g N a) k = S at *
          refine rb_A_findBest_19 (br_f (nI_ge (b := 6) (by omega) (by omega)) (rs_W_gather (clean := false) hWJ hN (by rw [g1]; exact eN) (by omega) (by omega) (fun J2 hJ2 hq => rb_A_findBest_41 ?_)))
          rw [g1] at hq
          have ln := lk_len (g := g) (a := a) (b := a + 1 + k) hN
          have sb := samb a (a + 1 + k) (by omega) (by omega)
          have hq2 : br_sam (lk_s g N a (a + 1 + k)) J2 := hq
          have r18 : ∀ e, e ∈ lk_s g N a (a + 1 + k) → e.1 < 18 := bs_l_room hroom
          generalize hs : lk_s g N a (a + 1 + k) = s at *
          refine rs_S_anew (p := 74) hq2 sb r18 rfl (by omega) (fun J3 L3 hJ3 hL3 f0 f1 => rb_A_findBest_56 (rs_isNone rfl (rb_A_findBest_63 ?_)))
          have fJ : ∀ p j, ¬ (64 ≤ p ∧ p ≤ 71) → J3 p j = I p j := fun p j hp => by rw [hJ3 p j (by omega), hJ2 p (by omega)]; exact hJ p j hp
          have fL : ∀ q j, q ≠ 70 → q ≠ 74 → q ≠ p → L3 q j = L q j := fun q j q1 q2 q3 => by rw [hL3 q j q1 (by omega)]; exact hL q j q1 q2 q3
          have p0 : L3 p 0 = S.2.2.1 := by rw [hL3 p 0 p70 (by omega)]; exact h0
          have p1 : L3 p 1 = S.2.2.2 := by rw [hL3 p 1 p70 (by omega)]; exact h1
          obtain ⟨k1, k2, k3⟩ := ok
          rw [bn_0, f1, an_told ln, nI_add]
          refine ⟨fun h => ?_, fun h => ⟨hS, rs_isNone hS (rb_A_findBest_70 ?_)⟩⟩
          · have hns : ¬ an_sp (lk_s g N a (a + 1 + k)) := by rw [hs]; exact h
            rw [lk_st_F hns] at nx
            exact nx J3 L3 fJ fL p0 p1
          · have hsp : an_sp s := Classical.not_not.mp h
            have hsp' : an_sp (lk_s g N a (a + 1 + k)) := by rw [hs]; exact hsp
            have q := lk_b ln hsp
            have put : lk_tk s S → br_r (d + 5) 143 0 [some (.ref p), some (.ref 74)] [] (br_hp n J3 L3) (fun v h => br_r (d + 6) 139 92 [some (.ref 8), some (.ref p), some (.int S.2.1), some (.int (nI a)), some (.int (nI (a + 1 + k)))] (v.toList ++ []) (br_bk h) Q) := by
              intro ht
              have ht' : lk_tk (lk_s g N a (a + 1 + k)) S := by rw [hs]; exact ht
              refine rb_Fraction_copy_0 ⟨rfl, hS, rfl, hS, rb_A_findBest_92 ?_⟩
              rw [pk_mul, nI_add, nI_add, f0, br_u_n (by omega), f1]
              rw [lk_st_T hsp' ht', hs] at nx
              exact nx J3 _ fJ (fun q j q1 q2 q3 => by rw [br_u_n (by omega), br_u_n (by omega)]; exact fL q j q1 q2 q3) (by rw [br_u_n (by omega), br_u_s]) (by rw [br_u_s])
            rw [bn_0, p1]
            refine ⟨fun h5 => ⟨hS, put (Or.inl (Classical.byContradiction (fun z => h5 (k3 (Nat.pos_of_ne_zero z)).2.1)))⟩, fun h5 => ?_⟩
            have h5' : 0 < S.2.2.2.toInt := Classical.not_not.mp h5
            have hc : 0 < S.1 := Nat.pos_of_ne_zero (fun z => by
              have e2 := k2 z
              rw [e2] at h5'
              have : (lN 0).toInt = 0 := pk_lT (by omega)
              have h6 : 0 < (lN 0).toInt := h5'
              omega)
            obtain ⟨j1, j2, j3, j4⟩ := k3 hc
            refine rs_against rfl hS (by rw [f1]; exact q.1) (by rw [p1]; exact h5') (by rw [f0]; omega) (by rw [p0]; omega) (by rw [f1]; omega) (by rw [p1]; omega) (rb_A_findBest_81 ?_)
            rw [f0, f1, p0, p1, bs_sg_lt, nI_add]
            refine ⟨fun h6 => ?_, fun h6 => ⟨hS, put (Or.inr (Classical.not_not.mp h6))⟩⟩
            have hnt : ¬ lk_tk (lk_s g N a (a + 1 + k)) S := by
              rw [hs]
              intro z
              rcases z with z | z
              · omega
              · exact h6 z
            rw [lk_st_K hsp' hnt] at nx
            exact nx J3 L3 fJ fL p0 p1
      refine rb_A_findBest_8 (br_f (nI_ge (b := 6) (by omega) (by omega)) ?_)
      rw [nI_add]
      exact inner (5 - a) 0 J L' (by omega) hJ hL h0 h1
  refine rb_A_findBest_0 ⟨hS, rs_clearF hS (rb_A_findBest_6 (outer 6 0 I _ z4 (by omega) (fun _ _ _ => rfl) (fun q j q1 q2 q3 => ?_) ?_ ?_))⟩
  · rw [br_u_n (by omega), br_u_n (by omega)]
  · rw [br_u_n (by omega), br_u_s]; rfl
  · rw [br_u_s]; rfl
theorem lk_V {s : List bs_E} (hl : s.length ≤ 40) : 0 < (bs_V s).toInt ↔ an_sp s := by
  have h := (bs_V_T hl).1
  rw [h]
  refine ⟨fun z => ?_, fun z => ?_⟩
  · have z2 : 0 < bs_n true s * bs_n false s := by omega
    exact ⟨Nat.pos_of_mul_pos_right z2, Nat.pos_of_mul_pos_left z2⟩
  · have := Nat.mul_pos z.1 z.2
    omega
theorem rs_M_findsLooks {R m0 : Nat} {ht : Nat → Nat → Nat} {z1 z2 : Option Value} (hg : J 171 = g) (hW : br_W 9 0 I) (hgI : I 171 = g) (hrg : br_rg g m0 ht) (hN : N ≤ 40) (eN : g 666 = nI N) (eR : g 629 = nI R) (hR : R ≤ 18) (hroom : ∀ c, c < N → ∃ r, r < R ∧ g (667 + c) = nI r) (hw : br_wy J L)
    (H : ∀ (J' : Nat → Nat → Int32) (L' : Nat → Nat → Int64), (∀ p j, ¬ (p = 169 ∧ 24 ≤ j) → p ≠ 175 → p ≠ 176 → J' p j = J p j) → (∀ q j, q ≠ 177 → q ≠ 169 → L' q j = L q j) → br_wy J' L' → J' 169 28 = nI (lk_al g N 6).1 → J' 169 29 = (lk_al g N 6).2.1 → (0 < (lk_al g N 6).1 → L' 169 30 = (lk_al g N 6).2.2.1 ∧ L' 169 31 = (lk_al g N 6).2.2.2) → Q none (br_hp n J' L')) :
    br_r (d + 5) 262 0 [some (.ref 169), z1, z2] [] (br_hp n J L) Q := by
  have h18 : ∀ c, c < N → ∃ r, r < 18 ∧ g (667 + c) = nI r := fun c hc => by
    obtain ⟨r, h1, h2⟩ := hroom c hc
    exact ⟨r, by omega, h2⟩
  have samb : ∀ a b, a < 6 → b < 6 → br_b2 (lk_s g N a b) := fun a b ha hb => by rw [← hgI]; exact bs_l_b2 hW hN ha hb
  have outer : ∀ m a (J1 : Nat → Nat → Int32) (L' : Nat → Nat → Int64) (z2 : Option Value), a + m = 6 → (∀ p j, ¬ (p = 169 ∧ 24 ≤ j) → p ≠ 175 → p ≠ 176 → J1 p j = J p j) → (∀ q j, q ≠ 177 → q ≠ 169 → L' q j = L q j) → br_wy J1 L' → J1 169 28 = nI (lk_al g N a).1 → J1 169 29 = (lk_al g N a).2.1 → (0 < (lk_al g N a).1 → L' 169 30 = (lk_al g N a).2.2.1 ∧ L' 169 31 = (lk_al g N a).2.2.2) →
      br_r (d + 5) 262 12 [some (.ref 169), some (.int (nI a)), z2] [] (br_hp n J1 L') Q := by
    intro m
    induction m with
    | zero =>
      intro a J1 L' z2 ham hJ hL hwy e28 e29 e30
      have : a = 6 := by omega
      subst this
      exact rb_M_findsLooks_12 (br_t (nI_le (b := 6) (Nat.le_refl _) (by omega)) (H J1 L' hJ hL hwy e28 e29 e30))
    | succ m ih =>
      intro a J1 L' z2 ham hJ hL hwy e28 e29 e30
      have inner : ∀ m k (J1 : Nat → Nat → Int32) (L' : Nat → Nat → Int64), k + m = 5 - a → (∀ p j, ¬ (p = 169 ∧ 24 ≤ j) → p ≠ 175 → p ≠ 176 → J1 p j = J p j) → (∀ q j, q ≠ 177 → q ≠ 169 → L' q j = L q j) → br_wy J1 L' → J1 169 28 = nI (lk_rw g N a (lk_al g N a) k).1 → J1 169 29 = (lk_rw g N a (lk_al g N a) k).2.1 → (0 < (lk_rw g N a (lk_al g N a) k).1 → L' 169 30 = (lk_rw g N a (lk_al g N a) k).2.2.1 ∧ L' 169 31 = (lk_rw g N a (lk_al g N a) k).2.2.2) →
          br_r (d + 5) 262 22 [some (.ref 169), some (.int (nI a)), some (.int (nI (a + 1 + k)))] [] (br_hp n J1 L') Q := by
        intro m
        induction m with
        | zero =>
          intro k J1 L' hk hJ hL hwy e28 e29 e30
          have hk5 : k = 5 - a := by omega
          have e : lk_al g N (a + 1) = lk_rw g N a (lk_al g N a) k := by rw [hk5]; rfl
          refine rb_M_findsLooks_22 (br_t (nI_le (a := 6) (by omega) (by omega)) ?_)
          rw [nI_add]
          exact ih (a + 1) J1 L' (some (.int (nI (a + 1 + k)))) (by omega) hJ hL hwy (by rw [e]; exact e28) (by rw [e]; exact e29) (by rw [e]; exact e30)
        | succ m ihk =>
          intro k J1 L' hk hJ hL hwy e28 e29 e30
          have ok := lk_rw_ok (g := g) (a := a) hN (by omega) (lk_al_ok (g := g) hN a (by omega)) k (by omega)
          have e : lk_rw g N a (lk_al g N a) (k + 1) = lk_st g N (lk_rw g N a (lk_al g N a) k) a (a + 1 + k) := rfl
          have nx := fun J L' => ihk (k + 1) J L' (by omega)
          rw [e] at nx
          generalize lk_rw g N a (lk_al g N a) k = S at *
          have g1 : J1 171 = g := by rw [← hg]; funext j; exact hJ 171 j (by omega) (by omega) (by omega)
          refine rb_M_findsLooks_22 (br_f (nI_ge (b := 6) (by omega) (by omega)) (rs_M_looksAt (clean := false) g1 hrg (by omega) (by omega) eN hN h18 (fun J2 hJ2 hP => rb_M_findsLooks_35 ?_)))
          have g2 : J2 171 = g := by rw [hJ2 171 (by omega) (by omega), g1]
          have ln := lk_len (g := g) (a := a) (b := a + 1 + k) hN
          have sb := samb a (a + 1 + k) (by omega) (by omega)
          have sbl : br_bl (bs_l (bm_rd g a (a + 1 + k) false) (bs_e g a (a + 1 + k)) N) := fun e he => by have := sb e he; omega
          refine rs_M_tellsEffect (P := bm_rd g a (a + 1 + k) false) ⟨g2, eN, hN, hP⟩ (by omega) (by omega) sbl ?_
          have hs0 : bs_l (bm_rd g a (a + 1 + k) false) (bs_e g a (a + 1 + k)) N = lk_s g N a (a + 1 + k) := rfl
          rw [hs0]
          refine rb_M_findsLooks_41 ?_
          have j28 : J2 169 28 = nI S.1 := by rw [hJ2 169 (by omega) (by omega)]; exact e28
          have j29 : J2 169 29 = S.2.1 := by rw [hJ2 169 (by omega) (by omega)]; exact e29
          have fJ2 : ∀ p j, ¬ (p = 169 ∧ 24 ≤ j) → p ≠ 175 → p ≠ 176 → J2 p j = J p j := fun p j q1 q2 q3 => by rw [hJ2 p q2 q3]; exact hJ p j q1 q2 q3
          generalize hM : br_u (br_u L' 169 19 (bf_u (bs_U (lk_s g N a (a + 1 + k))) (bs_V (lk_s g N a (a + 1 + k))))) 169 20 (bf_l (bs_U (lk_s g N a (a + 1 + k))) (bs_V (lk_s g N a (a + 1 + k)))) = M
          have fM : ∀ q j, ¬ (q = 169 ∧ (j = 19 ∨ j = 20)) → M q j = L' q j := fun q j hq => by rw [← hM, br_u_n (by omega), br_u_n (by omega)]
          have wyM : ∀ J3 : Nat → Nat → Int32, (∀ j, J3 169 25 = J1 169 25) → (∀ j : Nat, J3 169 26 = J1 169 26) → br_wy J3 M := fun J3 q1 q2 => br_wy_c hwy (q1 0) (q2 0) (fun j => fM 177 j (by omega))
          have hV := lk_V ln
          rw [j28, nI_add, nI_add]
          generalize hs : lk_s g N a (a + 1 + k) = s at *
          obtain ⟨k1, k2, k3⟩ := ok
          by_cases hsp : an_sp s
          · have hsp' : an_sp (lk_s g N a (a + 1 + k)) := by rw [hs]; exact hsp
            rw [bu_dT (hV.mpr hsp)]
            refine br_t br_10 ?_
            have q := lk_b ln hsp
            refine rs_M_tellsAnew (d := d + 1) (P := bm_rd g a (a + 1 + k) false) (l := s) ⟨by rw [br_u_q (by omega)]; exact g2, eN, hN, fun c hc => by rw [br_u_n (by omega)]; exact hP c hc⟩ (by omega) (by omega) hs.symm eR hR hroom sb (wyM _ (fun _ => by rw [br_u_n (by omega), hJ2 169 (by omega) (by omega)]) (fun _ => by rw [br_u_n (by omega), hJ2 169 (by omega) (by omega)])) (fun J4 L4 hJ4 hL4 hL4b wy4 f0 f1 => rb_M_findsLooks_63 ?_)
            have j28' : J4 169 28 = nI (S.1 + 1) := by rw [hJ4 169 28 (by omega), br_u_s]
            have j29' : J4 169 29 = S.2.1 := by rw [hJ4 169 29 (by omega), br_u_n (by omega)]; exact j29
            have fJ4 : ∀ p j, ¬ (p = 169 ∧ 24 ≤ j) → p ≠ 175 → p ≠ 176 → J4 p j = J p j := fun p j q1 q2 q3 => by rw [hJ4 p j (by omega), br_u_n (by omega)]; exact fJ2 p j q1 q2 q3
            have fL4 : ∀ q j, q ≠ 177 → q ≠ 169 → L4 q j = L q j := fun q j q1 q2 => by rw [hL4 q j q1 q2, fM q j (by omega)]; exact hL q j q1 q2
            have l30 : 0 < S.1 → L4 169 30 = S.2.2.1 ∧ L4 169 31 = S.2.2.2 := fun z => by
              rw [hL4b 30 (by omega) (by omega), hL4b 31 (by omega) (by omega), fM 169 30 (by omega), fM 169 31 (by omega)]
              exact e30 z
            have put : ∀ Q', Q' = Q → lk_tk s S → br_r (d + 5) 262 97 [some (.ref 169), some (.int (nI a)), some (.int (nI (a + 1 + k)))] [] (br_hp n J4 L4) Q' := by
              intro Q' hQ ht
              subst hQ
              have ht' : lk_tk (lk_s g N a (a + 1 + k)) S := by rw [hs]; exact ht
              refine rb_M_findsLooks_97 ?_
              rw [pk_mul, nI_add, nI_add, br_u_n (by omega), f0, f1]
              rw [lk_st_T hsp' ht', hs] at nx
              refine nx _ _ (fun p j q1 q2 q3 => by rw [br_u_n (by omega)]; exact fJ4 p j q1 q2 q3) (fun q j q1 q2 => by rw [br_u_n (by omega), br_u_n (by omega)]; exact fL4 q j q1 q2) ?_ ?_ ?_ (fun _ => ⟨?_, ?_⟩)
              · exact br_wy_c wy4 (by rw [br_u_n (by omega)]) (by rw [br_u_n (by omega)]) (fun j => by rw [br_u_n (by omega), br_u_n (by omega)])
              · rw [br_u_n (by omega)]; exact j28'
              · rw [br_u_s]
              · rw [br_u_n (by omega), br_u_s]
              · rw [br_u_s]
            rw [j29']
            refine ⟨fun h5 => put Q rfl (Or.inl (Classical.byContradiction (fun z => (k3 (Nat.pos_of_ne_zero z)).1 h5))), fun h5 => ?_⟩
            have hc : 0 < S.1 := Nat.pos_of_ne_zero (fun z => h5 (by rw [k2 z]))
            obtain ⟨j1, j2, j3, j4⟩ := k3 hc
            obtain ⟨l1, l2⟩ := l30 hc
            rw [f0, f1, l1, l2]
            refine rs_M_isLess q.1 j2 (by omega) (by omega) (by omega) (by omega) (rb_M_findsLooks_91 ?_)
            rw [nI_add]
            by_cases hx : lk_X s S < 0
            · have e5 : nI (decide ((an_u s).toInt * S.2.2.2.toInt - S.2.2.1.toInt * (an_l s).toInt < 0)).toNat = nI 1 := bu_dT hx
              rw [e5]
              exact br_t br_10 (put Q rfl (Or.inr hx))
            · have e5 : nI (decide ((an_u s).toInt * S.2.2.2.toInt - S.2.2.1.toInt * (an_l s).toInt < 0)).toNat = nI 0 := bu_dF hx
              rw [e5]
              refine br_f (fun z => z rfl) ?_
              have hnt : ¬ lk_tk (lk_s g N a (a + 1 + k)) S := by
                rw [hs]
                intro z
                rcases z with z | z
                · omega
                · exact hx z
              rw [lk_st_K hsp' hnt] at nx
              exact nx J4 L4 fJ4 fL4 wy4 j28' j29' (fun _ => l30 hc)
          · have hns : ¬ an_sp (lk_s g N a (a + 1 + k)) := by rw [hs]; exact hsp
            rw [bu_dF (fun z => hsp (hV.mp z))]
            refine br_f (fun z => z rfl) ?_
            rw [lk_st_F hns] at nx
            exact nx J2 M fJ2 (fun q j q1 q2 => by rw [fM q j (by omega)]; exact hL q j q1 q2) (wyM J2 (fun _ => by rw [hJ2 169 (by omega) (by omega)]) (fun _ => by rw [hJ2 169 (by omega) (by omega)])) j28 j29 (fun z => by rw [fM 169 30 (by omega), fM 169 31 (by omega)]; exact e30 z)
      refine rb_M_findsLooks_12 (br_f (nI_ge (b := 6) (by omega) (by omega)) ?_)
      rw [nI_add]
      exact inner (5 - a) 0 J1 L' (by omega) hJ hL hwy e28 e29 e30
  refine rb_M_findsLooks_0 (outer 6 0 _ L z2 (by omega) (fun p j q1 q2 q3 => by rw [br_u_n (by omega), br_u_n (by omega)]) (fun _ _ _ _ => rfl) (br_wy_c hw (by rw [br_u_n (by omega), br_u_n (by omega)]) (by rw [br_u_n (by omega), br_u_n (by omega)]) (fun _ => rfl)) ?_ ?_ (fun z => absurd z (Nat.lt_irrefl 0)))
  · rw [br_u_n (by omega), br_u_s]; rfl
  · rw [br_u_s]; rfl
end
