set_option maxRecDepth 100000
set_option maxHeartbeats 4000000
/-! the dealings -/
def bd_nx (s : Int32) : Int32 := nI 1103515245 * s + nI 12345
def bd_x (s : Int32) : Nat := (s.toUInt32 >>> ((nI 16).toUInt32 &&& Int32.toUInt32 31)).toNat
theorem bd_16 : ((nI 16).toUInt32 &&& Int32.toUInt32 31).toNat % 32 = 16 := by decide +kernel
theorem bd_xlt (s : Int32) : bd_x s < 65536 := by
  unfold bd_x
  rw [UInt32.toNat_shiftRight, bd_16, Nat.shiftRight_eq_div_pow]
  have := UInt32.toNat_lt s.toUInt32
  omega
theorem bd_xe (s : Int32) : (s.toUInt32 >>> ((nI 16).toUInt32 &&& Int32.toUInt32 31)).toInt32 = nI (bd_x s) := by
  apply Int32.toBitVec_inj.mp
  show (s.toUInt32 >>> ((nI 16).toUInt32 &&& Int32.toUInt32 31)).toBitVec = BitVec.ofNat 32 (s.toUInt32 >>> ((nI 16).toUInt32 &&& Int32.toUInt32 31)).toBitVec.toNat
  rw [BitVec.ofNat_toNat, BitVec.setWidth_eq]
def bd_P (g : Nat → Int32) (r : Nat) (w : Nat → Int32) (c : Nat) : Bool := decide (g (667 + c) = nI r) && decide (g (827 + c) = nI 0) && !decide (nI 1 < w c)
abbrev bd_T : Type := Nat × Nat × Int32 × (Nat → Int32)
def bd_s1 (q : bd_T) (k : Nat) : bd_T := (q.1 - 1, (if bd_x (bd_nx q.2.2.1) % q.1 < q.2.1 then q.2.1 - 1 else q.2.1), bd_nx q.2.2.1, br_v q.2.2.2 k (if bd_x (bd_nx q.2.2.1) % q.1 < q.2.1 then nI 1 else nI 0))
def bd_st (P : Nat → Bool) (q : bd_T) : Nat → bd_T
  | 0 => q
  | k + 1 => if P k = true then bd_s1 (bd_st P q k) k else bd_st P q k
theorem bd_st_T {P : Nat → Bool} {q : bd_T} {k : Nat} (h : P k = true) : bd_st P q (k + 1) = bd_s1 (bd_st P q k) k := if_pos h
theorem bd_st_F {P : Nat → Bool} {q : bd_T} {k : Nat} (h : P k = false) : bd_st P q (k + 1) = bd_st P q k := if_neg (by rw [h]; exact Bool.false_ne_true)
theorem bm_cnt_mono {P : Nat → Bool} {a : Nat} : ∀ b, a ≤ b → bm_cnt P a ≤ bm_cnt P b
  | 0, h => by rw [show a = 0 by omega]; exact Nat.le_refl _
  | b + 1, h => by
    by_cases e : a = b + 1
    · rw [e]; exact Nat.le_refl _
    · have ih := bm_cnt_mono (P := P) (a := a) b (by omega)
      cases hp : P b with
      | true => rw [bm_cnt_T hp]; omega
      | false => rw [bm_cnt_F hp]; exact ih
theorem bd_st_l {P : Nat → Bool} {q : bd_T} {N : Nat} (hq : q.1 = bm_cnt P N) : ∀ k, k ≤ N → (bd_st P q k).1 + bm_cnt P k = bm_cnt P N
  | 0, _ => hq
  | k + 1, h => by
    have ih := bd_st_l hq k (by omega)
    cases hp : P k with
    | true =>
      rw [bd_st_T hp, bm_cnt_T hp]
      have h2 := bm_cnt_mono (P := P) (a := k + 1) N h
      rw [bm_cnt_T hp] at h2
      show (bd_st P q k).1 - 1 + _ = _
      omega
    | false => rw [bd_st_F hp, bm_cnt_F hp]; exact ih
theorem bd_st_w {P : Nat → Bool} {q : bd_T} {c : Nat} : ∀ k, k ≤ c → (bd_st P q k).2.2.2 c = q.2.2.2 c
  | 0, _ => rfl
  | k + 1, h => by
    have ih := bd_st_w (P := P) (q := q) (c := c) k (by omega)
    cases hp : P k with
    | true => rw [bd_st_T hp]; exact (br_v_j (by omega)).trans ih
    | false => rw [bd_st_F hp]; exact ih
theorem bd_st_m {P : Nat → Bool} {q : bd_T} : ∀ k, (bd_st P q k).2.1 ≤ q.2.1
  | 0 => Nat.le_refl _
  | k + 1 => by
    have ih := bd_st_m (P := P) (q := q) k
    cases hp : P k with
    | true =>
      rw [bd_st_T hp]
      show (if _ then _ else _) ≤ _
      split
      · exact Nat.le_trans (Nat.sub_le _ _) ih
      · exact ih
    | false => rw [bd_st_F hp]; exact ih
theorem bd_st_v {P : Nat → Bool} {q : bd_T} (c : Nat) : ∀ k, (bd_st P q k).2.2.2 c = q.2.2.2 c ∨ (c < k ∧ ((bd_st P q k).2.2.2 c = nI 0 ∨ (bd_st P q k).2.2.2 c = nI 1))
  | 0 => Or.inl rfl
  | k + 1 => by
    have ih := bd_st_v (P := P) (q := q) c k
    cases hp : P k with
    | true =>
      rw [bd_st_T hp]
      by_cases e : c = k
      · subst e
        refine Or.inr ⟨by omega, ?_⟩
        show br_v _ c (if _ then _ else _) c = _ ∨ br_v _ c (if _ then _ else _) c = _
        rw [br_v_s]
        split
        · exact Or.inr rfl
        · exact Or.inl rfl
      · have e1 : (bd_s1 (bd_st P q k) k).2.2.2 c = (bd_st P q k).2.2.2 c := br_v_j e
        rw [e1]
        rcases ih with h | ⟨h1, h2⟩
        · exact Or.inl h
        · exact Or.inr ⟨by omega, h2⟩
    | false =>
      rw [bd_st_F hp]
      rcases ih with h | ⟨h1, h2⟩
      · exact Or.inl h
      · exact Or.inr ⟨by omega, h2⟩
/-- the dealing room by room, child by child -/
def bd_R (g : Nat → Int32) (N m : Nat) (q0 : Int32 × (Nat → Int32)) : Nat → Int32 × (Nat → Int32)
  | 0 => q0
  | r + 1 => (bd_st (bd_P g r (bd_R g N m q0 r).2) (bm_cnt (bd_P g r (bd_R g N m q0 r).2) N, m, (bd_R g N m q0 r).1, (bd_R g N m q0 r).2) N).2.2
theorem bd_R_v {g : Nat → Int32} {N m : Nat} {q0 : Int32 × (Nat → Int32)} (c : Nat) : ∀ r, (bd_R g N m q0 r).2 c = q0.2 c ∨ (c < N ∧ ((bd_R g N m q0 r).2 c = nI 0 ∨ (bd_R g N m q0 r).2 c = nI 1))
  | 0 => Or.inl rfl
  | r + 1 => by
    have ih := bd_R_v (g := g) (N := N) (m := m) (q0 := q0) c r
    rcases bd_st_v (P := bd_P g r (bd_R g N m q0 r).2) (q := (bm_cnt (bd_P g r (bd_R g N m q0 r).2) N, m, (bd_R g N m q0 r).1, (bd_R g N m q0 r).2)) c N with h | h
    · have e : (bd_R g N m q0 (r + 1)).2 c = (bd_R g N m q0 r).2 c := h
      rw [e]; exact ih
    · exact Or.inr h
/-- whole rooms -/
def bd_Q (g : Nat → Int32) (N R : Nat) (q0 : Nat × Int32 × (Nat → Int32)) : Nat → Nat × Int32 × (Nat → Int32)
  | 0 => q0
  | r + 1 => ((if bd_x (bd_nx (bd_Q g N R q0 r).2.1) % (R - r) < (bd_Q g N R q0 r).1 then (bd_Q g N R q0 r).1 - 1 else (bd_Q g N R q0 r).1), bd_nx (bd_Q g N R q0 r).2.1,
      fun c => if c < N ∧ bd_P g r (bd_Q g N R q0 r).2.2 c = true then (if bd_x (bd_nx (bd_Q g N R q0 r).2.1) % (R - r) < (bd_Q g N R q0 r).1 then nI 1 else nI 0) else (bd_Q g N R q0 r).2.2 c)
theorem bd_Q_v {g : Nat → Int32} {N R : Nat} {q0 : Nat × Int32 × (Nat → Int32)} (c : Nat) : ∀ r, (bd_Q g N R q0 r).2.2 c = q0.2.2 c ∨ (c < N ∧ ((bd_Q g N R q0 r).2.2 c = nI 0 ∨ (bd_Q g N R q0 r).2.2 c = nI 1))
  | 0 => Or.inl rfl
  | r + 1 => by
    have ih := bd_Q_v (g := g) (N := N) (R := R) (q0 := q0) c r
    by_cases h : c < N ∧ bd_P g r (bd_Q g N R q0 r).2.2 c = true
    · have e : (bd_Q g N R q0 (r + 1)).2.2 c = (if bd_x (bd_nx (bd_Q g N R q0 r).2.1) % (R - r) < (bd_Q g N R q0 r).1 then nI 1 else nI 0) := if_pos h
      rw [e]
      refine Or.inr ⟨h.1, ?_⟩
      split
      · exact Or.inr rfl
      · exact Or.inl rfl
    · have e : (bd_Q g N R q0 (r + 1)).2.2 c = (bd_Q g N R q0 r).2.2 c := if_neg h
      rw [e]; exact ih
theorem bd_Q_m {g : Nat → Int32} {N R : Nat} {q0 : Nat × Int32 × (Nat → Int32)} : ∀ r, (bd_Q g N R q0 r).1 ≤ q0.1
  | 0 => Nat.le_refl _
  | r + 1 => by
    have ih := bd_Q_m (g := g) (N := N) (R := R) (q0 := q0) r
    show (if _ then _ else _) ≤ _
    split
    · exact Nat.le_trans (Nat.sub_le _ _) ih
    · exact ih
/-- memories that differ from a first one in the words alone -/
def bd_A (I : Nat → Nat → Int32) (w : Nat → Int32) (J : Nat → Nat → Int32) : Prop := (∀ p j, ¬ (p = 15 ∧ j < 40) → J p j = I p j) ∧ ∀ c, c < 40 → J 15 c = w c
def bd_M (I : Nat → Nat → Int32) (w : Nat → Int32) (J : Nat → Nat → Int32) : Prop := (∀ p j, ¬ (p = 169 ∧ j = 18) → ¬ (p = 171 ∧ 787 ≤ j ∧ j < 827) → J p j = I p j) ∧ ∀ c, c < 40 → J 171 (787 + c) = w c
theorem bd_A_u {I J : Nat → Nat → Int32} {w : Nat → Int32} {c : Nat} {x : Int32} (hc : c < 40) (h : bd_A I w J) : bd_A I (br_v w c x) (br_u J 15 c x) := by
  refine ⟨fun p j hp => ?_, fun e he => ?_⟩
  · rw [br_u_n (by omega)]; exact h.1 p j hp
  · by_cases ec : e = c
    · subst ec; rw [br_u_s, br_v_s]
    · rw [br_u_n (by omega), br_v_j ec]; exact h.2 e he
theorem bd_M_u {I J : Nat → Nat → Int32} {w : Nat → Int32} {c : Nat} {x : Int32} (hc : c < 40) (h : bd_M I w J) : bd_M I (br_v w c x) (br_u J 171 (787 + c) x) := by
  refine ⟨fun p j h1 h2 => ?_, fun e he => ?_⟩
  · rw [br_u_n (by omega)]; exact h.1 p j h1 h2
  · by_cases ec : e = c
    · subst ec; rw [br_u_s, br_v_s]
    · rw [br_u_n (by omega), br_v_j ec]; exact h.2 e he
theorem bd_M_s {I J : Nat → Nat → Int32} {w : Nat → Int32} {x : Int32} (h : bd_M I w J) : bd_M I w (br_u J 169 18 x) := by
  refine ⟨fun p j h1 h2 => ?_, fun e he => ?_⟩
  · rw [br_u_n (by omega)]; exact h.1 p j h1 h2
  · rw [br_u_n (by omega)]; exact h.2 e he
theorem bd_A_w {I J : Nat → Nat → Int32} {w w' : Nat → Int32} (h : bd_A I w J) (hw : ∀ c, c < 40 → w' c = w c) : bd_A I w' J := ⟨h.1, fun c hc => (h.2 c hc).trans (hw c hc).symm⟩
theorem bd_M_w {I J : Nat → Nat → Int32} {w w' : Nat → Int32} (h : bd_M I w J) (hw : ∀ c, c < 40 → w' c = w c) : bd_M I w' J := ⟨h.1, fun c hc => (h.2 c hc).trans (hw c hc).symm⟩
section
variable {d n : Nat} {Q : br_Q} {I J : Nat → Nat → Int32} {L : Nat → Nat → Int64} {g w : Nat → Int32} {N R c r : Nat}
theorem rs_W_dealt (hc : c < 40) (e12 : J 12 c = g (667 + c)) (e16 : J 16 c = g (827 + c)) (e15 : J 15 c = w c) (H : Q (some (.int (nI (bd_P g r w c).toNat))) (br_hp n J L)) : br_r d 91 0 [some (.ref 9), some (.int (nI c)), some (.int (nI r))] [] (br_hp n J L) Q := by
  refine rb_World_isDealt_0 ⟨vp_in_nI hc (by omega), ?_⟩
  rw [nI_clamp (by omega), e12, e16, e15]
  refine ⟨fun h => ?_, fun h => ⟨vp_in_nI hc (by omega), fun h2 => ?_, fun h2 => ⟨vp_in_nI hc (by omega), fun h3 => ?_, fun h3 => ?_⟩⟩⟩
  · have : bd_P g r w c = false := by unfold bd_P; rw [decide_eq_false h]; rfl
    rw [this] at H; exact H
  · have : bd_P g r w c = false := by unfold bd_P; rw [decide_eq_false h2, Bool.and_false]; rfl
    rw [this] at H; exact H
  · have : bd_P g r w c = false := by unfold bd_P; rw [decide_eq_true h3, Bool.not_true, Bool.and_false]
    rw [this] at H; exact H
  · have : bd_P g r w c = true := by unfold bd_P; rw [decide_eq_true (Classical.not_not.mp h), decide_eq_true (Classical.not_not.mp h2), decide_eq_false h3]; rfl
    rw [this] at H; exact H
theorem rs_M_dealt (hc : c < 40) (hr : g (667 + c) = nI r) (e27 : J 171 (827 + c) = g (827 + c)) (e87 : J 171 (787 + c) = w c) (H : Q (some (.int (nI (bd_P g r w c).toNat))) (br_hp n J L)) : br_r d 233 0 [some (.ref 169), some (.int (nI c))] [] (br_hp n J L) Q := by
  refine rb_M_isDealt_0 ?_
  rw [nI_add, nI_add, nI_clamp (by omega), nI_clamp (by omega), e27, e87]
  refine ⟨vp_in_nI (by omega) (by omega), fun h => ?_, fun h => ⟨vp_in_nI (by omega) (by omega), fun h2 => ?_, fun h2 => ?_⟩⟩
  · have : bd_P g r w c = false := by unfold bd_P; rw [decide_eq_false h, Bool.and_false]; rfl
    rw [this] at H; exact H
  · have h3 : nI 1 < w c := by
      rw [br_leT, nI_toInt (by omega)] at h2
      rw [br_ltT, nI_toInt (by omega)]; omega
    have : bd_P g r w c = false := by unfold bd_P; rw [decide_eq_true h3, Bool.not_true, Bool.and_false]
    rw [this] at H; exact H
  · have h3 : ¬ nI 1 < w c := by
      rw [br_leT, nI_toInt (by omega)] at h2
      rw [br_ltT, nI_toInt (by omega)]; omega
    have : bd_P g r w c = true := by unfold bd_P; rw [decide_eq_true hr, decide_eq_true (Classical.not_not.mp h), decide_eq_false h3]; rfl
    rw [this] at H; exact H
theorem bd_b0 {b : Bool} (h : nI b.toNat = nI 0) : b = false := by
  cases b
  · rfl
  · exact absurd h br_10
theorem bd_b1 {b : Bool} (h : ¬ nI b.toNat = nI 0) : b = true := by
  cases b
  · exact absurd rfl h
  · rfl
theorem rs_W_dealtOnes {z2 z3 : Option Value} (hN : N ≤ 40) (cN : I 9 8 = nI N) (e12 : ∀ c, c < 40 → I 12 c = g (667 + c)) (e16 : ∀ c, c < 40 → I 16 c = g (827 + c)) (hA : bd_A I w J) (H : Q (some (.int (nI (bm_cnt (bd_P g r w) N)))) (br_hp n J L)) :
    br_r (d + 1) 93 0 [some (.ref 9), some (.int (nI r)), z2, z3] [] (br_hp n J L) Q := by
  have loop : ∀ k c, c + k = N → br_r (d + 1) 93 4 [some (.ref 9), some (.int (nI r)), some (.int (nI (bm_cnt (bd_P g r w) c))), some (.int (nI c))] [] (br_hp n J L) Q := by
    intro k
    induction k with
    | zero =>
      intro c hc
      have : c = N := by omega
      subst this
      exact rb_World_dealtOnes_4 (br_t (by rw [hA.1 9 8 (by omega), cN]; exact nI_le (Nat.le_refl _) (by omega)) H)
    | succ k ih =>
      intro c hc
      have h1 := ih (c + 1) (by omega)
      refine rb_World_dealtOnes_4 (br_f (by rw [hA.1 9 8 (by omega), cN]; exact nI_ge (by omega) (by omega)) (rs_W_dealt (g := g) (w := w) (by omega) (by rw [hA.1 12 c (by omega)]; exact e12 c (by omega)) (by rw [hA.1 16 c (by omega)]; exact e16 c (by omega)) (hA.2 c (by omega)) (rb_World_dealtOnes_18 ⟨fun h => ?_, fun h => ?_⟩)))
      · rw [nI_add]; rw [bm_cnt_F (bd_b0 h)] at h1; exact h1
      · rw [nI_add, nI_add]; rw [bm_cnt_T (bd_b1 h)] at h1; exact h1
  exact rb_World_dealtOnes_0 (loop N 0 (by omega))
theorem bd_rem {s : Int32} {l : Nat} (h0 : 0 < l) (hl : l ≤ 40) : (s.toUInt32 >>> ((nI 16).toUInt32 &&& Int32.toUInt32 31)).toInt32 - (s.toUInt32 >>> ((nI 16).toUInt32 &&& Int32.toUInt32 31)).toInt32 / nI l * nI l = nI (bd_x s % l) := by
  have := bd_xlt s
  rw [bd_xe, pk_rem (by omega) h0 (by omega)]
theorem rs_W_dealCh {m : Nat} {s : Int32} {w : Nat → Int32} {z3 z4 z5 z6 z7 z8 : Option Value} (hN : N ≤ 40) (hR : R ≤ 18) (hm : m ≤ 40) (cN : I 9 8 = nI N) (cR : I 9 2 = nI R) (e12 : ∀ c, c < 40 → I 12 c = g (667 + c)) (e16 : ∀ c, c < 40 → I 16 c = g (827 + c)) (hA : bd_A I w J)
    (H : ∀ J', bd_A I (bd_R g N m (s, w) R).2 J' → Q none (br_hp n J' L)) : br_r (d + 2) 92 0 [some (.ref 9), some (.int (nI m)), some (.int s), z3, z4, z5, z6, z7, z8] [] (br_hp n J L) Q := by
  have outer : ∀ k r (J : Nat → Nat → Int32) (z2 z5 z6 z7 z8 : Option Value), r + k = R → bd_A I (bd_R g N m (s, w) r).2 J →
      br_r (d + 2) 92 5 [some (.ref 9), some (.int (nI m)), z2, some (.int (bd_R g N m (s, w) r).1), some (.int (nI r)), z5, z6, z7, z8] [] (br_hp n J L) Q := by
    intro k
    induction k with
    | zero =>
      intro r J z2 z5 z6 z7 z8 hr hA
      have : r = R := by omega
      subst this
      exact rb_World_dealByChildren_5 (br_t (by rw [hA.1 9 2 (by omega), cR]; exact nI_le (Nat.le_refl _) (by omega)) (H J hA))
    | succ k ih =>
      intro r J z2 z5 z6 z7 z8 hr hA
      refine rb_World_dealByChildren_5 (br_f (by rw [hA.1 9 2 (by omega), cR]; exact nI_ge (by omega) (by omega)) (rs_W_dealtOnes hN cN e12 e16 hA (rb_World_dealByChildren_20 ?_)))
      have inner : ∀ i c (J : Nat → Nat → Int32) (z2 z8 : Option Value), c + i = N → bd_A I (bd_st (bd_P g r (bd_R g N m (s, w) r).2) (bm_cnt (bd_P g r (bd_R g N m (s, w) r).2) N, m, (bd_R g N m (s, w) r).1, (bd_R g N m (s, w) r).2) c).2.2.2 J →
          br_r (d + 2) 92 28 [some (.ref 9), some (.int (nI m)), z2, some (.int (bd_st (bd_P g r (bd_R g N m (s, w) r).2) (bm_cnt (bd_P g r (bd_R g N m (s, w) r).2) N, m, (bd_R g N m (s, w) r).1, (bd_R g N m (s, w) r).2) c).2.2.1), some (.int (nI r)), some (.int (nI (bd_st (bd_P g r (bd_R g N m (s, w) r).2) (bm_cnt (bd_P g r (bd_R g N m (s, w) r).2) N, m, (bd_R g N m (s, w) r).1, (bd_R g N m (s, w) r).2) c).1)), some (.int (nI (bd_st (bd_P g r (bd_R g N m (s, w) r).2) (bm_cnt (bd_P g r (bd_R g N m (s, w) r).2) N, m, (bd_R g N m (s, w) r).1, (bd_R g N m (s, w) r).2) c).2.1)), some (.int (nI c)), z8] [] (br_hp n J L) Q := by
        intro i
        induction i with
        | zero =>
          intro c J z2 z8 hc hA
          have : c = N := by omega
          subst this
          refine rb_World_dealByChildren_28 (br_t (by rw [hA.1 9 8 (by omega), cN]; exact nI_le (Nat.le_refl _) (by omega)) ?_)
          rw [nI_add]
          exact ih (r + 1) J _ _ _ _ _ (by omega) hA
        | succ i ihi =>
          intro c J z2 z8 hc hA
          have h1 := fun (J : Nat → Nat → Int32) (z2 z8 : Option Value) => ihi (c + 1) J z2 z8 (by omega)
          have hl := bd_st_l (P := bd_P g r (bd_R g N m (s, w) r).2) (q := (bm_cnt (bd_P g r (bd_R g N m (s, w) r).2) N, m, (bd_R g N m (s, w) r).1, (bd_R g N m (s, w) r).2)) (N := N) rfl c (by omega)
          have hw := bd_st_w (P := bd_P g r (bd_R g N m (s, w) r).2) (q := (bm_cnt (bd_P g r (bd_R g N m (s, w) r).2) N, m, (bd_R g N m (s, w) r).1, (bd_R g N m (s, w) r).2)) (c := c) c (Nat.le_refl _)
          have hm2 := bd_st_m (P := bd_P g r (bd_R g N m (s, w) r).2) (q := (bm_cnt (bd_P g r (bd_R g N m (s, w) r).2) N, m, (bd_R g N m (s, w) r).1, (bd_R g N m (s, w) r).2)) c
          have hle := bm_cnt_le (p := bd_P g r (bd_R g N m (s, w) r).2) N
          have hmo := bm_cnt_mono (P := bd_P g r (bd_R g N m (s, w) r).2) (a := c + 1) N (by omega)
          have stT := bd_st_T (P := bd_P g r (bd_R g N m (s, w) r).2) (q := (bm_cnt (bd_P g r (bd_R g N m (s, w) r).2) N, m, (bd_R g N m (s, w) r).1, (bd_R g N m (s, w) r).2)) (k := c)
          have stF := bd_st_F (P := bd_P g r (bd_R g N m (s, w) r).2) (q := (bm_cnt (bd_P g r (bd_R g N m (s, w) r).2) N, m, (bd_R g N m (s, w) r).1, (bd_R g N m (s, w) r).2)) (k := c)
          generalize bd_st (bd_P g r (bd_R g N m (s, w) r).2) (bm_cnt (bd_P g r (bd_R g N m (s, w) r).2) N, m, (bd_R g N m (s, w) r).1, (bd_R g N m (s, w) r).2) (c + 1) = q1 at h1 stT stF
          generalize bd_st (bd_P g r (bd_R g N m (s, w) r).2) (bm_cnt (bd_P g r (bd_R g N m (s, w) r).2) N, m, (bd_R g N m (s, w) r).1, (bd_R g N m (s, w) r).2) c = q at hl hw hm2 stT stF hA ⊢
          obtain ⟨l, mm, ss, ww⟩ := q
          simp only at hl hw hm2 hA stT stF ⊢
          refine rb_World_dealByChildren_28 (br_f (by rw [hA.1 9 8 (by omega), cN]; exact nI_ge (by omega) (by omega)) ⟨fun h0 => ?_, fun h0 => ?_⟩)
          · rw [nI_leI (by omega) (by omega)] at h0
            have hp : bd_P g r (bd_R g N m (s, w) r).2 c = false := by
              cases hp : bd_P g r (bd_R g N m (s, w) r).2 c with
              | false => rfl
              | true => rw [bm_cnt_T hp] at hmo; omega
            have e := stF hp
            subst e
            rw [nI_add]; exact h1 J _ _ hA
          · rw [nI_leI (by omega) (by omega)] at h0
            refine rs_W_dealt (g := g) (w := (bd_R g N m (s, w) r).2) (by omega) (by rw [hA.1 12 c (by omega)]; exact e12 c (by omega)) (by rw [hA.1 16 c (by omega)]; exact e16 c (by omega)) ((hA.2 c (by omega)).trans hw) (rb_World_dealByChildren_50 ⟨fun h => ?_, fun h => ?_⟩)
            · have e := stF (bd_b0 h)
              subst e
              rw [nI_add]; exact h1 J _ _ hA
            · have e := stT (bd_b1 h)
              subst e
              refine rb_World_draw_0 (rb_World_dealByChildren_57 ?_)
              have er : nI 1103515245 * ss + nI 12345 = bd_nx ss := rfl
              rw [er, bd_rem (by omega) (by omega), nI_leI (by have := Nat.mod_lt (bd_x (bd_nx ss)) (show 0 < l by omega); omega) (by have := Nat.mod_lt (bd_x (bd_nx ss)) (show 0 < l by omega); omega), br_dn, pk_sub (by omega), nI_add, nI_clamp (by omega)]
              refine ⟨nI_ne0 (by omega) (by omega), fun h5 => ⟨vp_in_nI (by omega) (by omega), ?_⟩, fun h5 => ⟨vp_in_nI (by omega) (by omega), ?_⟩⟩
              · have h6 := fun J => h1 J (br_kl z2) (some (.int (nI 0)))
                simp only [bd_s1] at h6
                rw [if_neg (by omega), if_neg (by omega)] at h6
                exact h6 _ (bd_A_u (by omega) hA)
              · have h6 := fun J => h1 J (br_kl z2) (some (.int (nI 1)))
                simp only [bd_s1] at h6
                rw [if_pos (by omega), if_pos (by omega)] at h6
                rw [pk_sub (by omega)]
                exact h6 _ (bd_A_u (by omega) hA)
      exact inner N 0 J z2 z8 (by omega) hA
  exact rb_World_dealByChildren_0 (outer R 0 J _ _ _ _ _ (by omega) hA)
end
