set_option maxRecDepth 100000
set_option maxHeartbeats 4000000
/-! how many -/
def bm_cnt (p : Nat → Bool) : Nat → Nat
  | 0 => 0
  | m + 1 => bm_cnt p m + (if p m then 1 else 0)
theorem bm_cnt_T {p : Nat → Bool} {m : Nat} (h : p m = true) : bm_cnt p (m + 1) = bm_cnt p m + 1 := by
  show bm_cnt p m + (if p m then 1 else 0) = _
  rw [if_pos h]
theorem bm_cnt_F {p : Nat → Bool} {m : Nat} (h : p m = false) : bm_cnt p (m + 1) = bm_cnt p m := by
  show bm_cnt p m + (if p m then 1 else 0) = _
  rw [if_neg (by rw [h]; exact Bool.false_ne_true)]
  rfl
theorem bm_cnt_le {p : Nat → Bool} : ∀ m, bm_cnt p m ≤ m
  | 0 => Nat.le_refl 0
  | m + 1 => by
    have h := bm_cnt_le (p := p) m
    cases hp : p m with
    | true => rw [bm_cnt_T hp]; omega
    | false => rw [bm_cnt_F hp]; omega
theorem bm_cnt_c {p q : Nat → Bool} : ∀ m, (∀ c, c < m → p c = q c) → bm_cnt p m = bm_cnt q m
  | 0, _ => rfl
  | m + 1, h => by
    have ih := bm_cnt_c m (fun c hc => h c (by omega))
    have e := h m (by omega)
    cases hp : p m with
    | true => rw [bm_cnt_T hp, bm_cnt_T (e ▸ hp), ih]
    | false => rw [bm_cnt_F hp, bm_cnt_F (e ▸ hp), ih]
section
variable {d n : Nat} {Q : br_Q} {I : Nat → Nat → Int32} {L : Nat → Nat → Int64}
theorem rs_W_named {N : Nat} {z1 z2 : Option Value} (hN : I 9 8 = nI N) (h40 : N ≤ 40) (H : Q (some (.int (nI (bm_cnt (fun c => decide (I 15 c = nI 1)) N)))) (br_hp n I L)) : br_r d 94 0 [some (.ref 9), z1, z2] [] (br_hp n I L) Q := by
  have loop : ∀ k c, c + k = N → br_r d 94 4 [some (.ref 9), some (.int (nI (bm_cnt (fun c => decide (I 15 c = nI 1)) c))), some (.int (nI c))] [] (br_hp n I L) Q := by
    intro k
    induction k with
    | zero =>
      intro c hc
      have : c = N := by omega
      subst this
      exact rb_World_namedOnes_4 (br_t (by rw [hN]; exact nI_le (Nat.le_refl _) (by omega)) H)
    | succ k ih =>
      intro c hc
      have h1 := ih (c + 1) (by omega)
      refine rb_World_namedOnes_4 (br_f (by rw [hN]; exact nI_ge (by omega) (by omega)) ⟨vp_in_nI (by omega) (by omega), ?_⟩)
      rw [nI_clamp (by omega), nI_add, nI_add]
      refine ⟨fun h => ?_, fun h => ?_⟩
      · rw [bm_cnt_F (decide_eq_false h)] at h1; exact h1
      · rw [bm_cnt_T (decide_eq_true (Classical.not_not.mp h))] at h1; exact h1
  exact rb_World_namedOnes_0 (loop N 0 (by omega))
theorem rs_W_gone {N : Nat} {z1 z2 : Option Value} (hN : I 9 8 = nI N) (h40 : N ≤ 40) (H : Q (some (.int (nI (bm_cnt (fun c => !decide (I 16 c = nI 0)) N)))) (br_hp n I L)) : br_r d 189 0 [some (.ref 9), z1, z2] [] (br_hp n I L) Q := by
  have loop : ∀ k c, c + k = N → br_r d 189 4 [some (.ref 9), some (.int (nI (bm_cnt (fun c => !decide (I 16 c = nI 0)) c))), some (.int (nI c))] [] (br_hp n I L) Q := by
    intro k
    induction k with
    | zero =>
      intro c hc
      have : c = N := by omega
      subst this
      exact rb_World_goneOnes_4 (br_t (by rw [hN]; exact nI_le (Nat.le_refl _) (by omega)) H)
    | succ k ih =>
      intro c hc
      have h1 := ih (c + 1) (by omega)
      refine rb_World_goneOnes_4 (br_f (by rw [hN]; exact nI_ge (by omega) (by omega)) ⟨vp_in_nI (by omega) (by omega), ?_⟩)
      rw [nI_clamp (by omega), nI_add, nI_add]
      refine ⟨fun h => ?_, fun h => ?_⟩
      · rw [bm_cnt_F (by rw [decide_eq_true h]; rfl)] at h1; exact h1
      · rw [bm_cnt_T (by rw [decide_eq_false h]; rfl)] at h1; exact h1
  exact rb_World_goneOnes_0 (loop N 0 (by omega))
theorem rs_M_named {g : Nat → Int32} {N : Nat} {z1 z2 : Option Value} (hg : I 171 = g) (hN : g 666 = nI N) (h40 : N ≤ 40) (H : Q (some (.int (nI (bm_cnt (fun c => decide (g (787 + c) = nI 1)) N)))) (br_hp n I L)) : br_r d 235 0 [some (.ref 169), z1, z2] [] (br_hp n I L) Q := by
  subst hg
  have loop : ∀ k c, c + k = N → br_r d 235 4 [some (.ref 169), some (.int (nI (bm_cnt (fun c => decide (I 171 (787 + c) = nI 1)) c))), some (.int (nI c))] [] (br_hp n I L) Q := by
    intro k
    induction k with
    | zero =>
      intro c hc
      have : c = N := by omega
      subst this
      exact rb_M_namedOf_4 (br_t (by rw [hN]; exact nI_le (Nat.le_refl _) (by omega)) H)
    | succ k ih =>
      intro c hc
      have h1 := ih (c + 1) (by omega)
      refine rb_M_namedOf_4 (br_f (by rw [hN]; exact nI_ge (by omega) (by omega)) ?_)
      rw [nI_add, nI_clamp (by omega), nI_add, nI_add, nI_add, Nat.add_zero]
      refine ⟨vp_in_nI (by omega) (by omega), fun h => ?_, fun h => ?_⟩
      · rw [bm_cnt_F (decide_eq_false h)] at h1; exact h1
      · rw [bm_cnt_T (decide_eq_true (Classical.not_not.mp h))] at h1; exact h1
  exact rb_M_namedOf_0 (loop N 0 (by omega))
theorem rs_M_gone {g : Nat → Int32} {N : Nat} {z1 z2 : Option Value} (hg : I 171 = g) (hN : g 666 = nI N) (h40 : N ≤ 40) (h01 : ∀ c, c < N → g (827 + c) = nI 0 ∨ g (827 + c) = nI 1) (H : Q (some (.int (nI (bm_cnt (fun c => !decide (g (827 + c) = nI 0)) N)))) (br_hp n I L)) : br_r d 299 0 [some (.ref 169), z1, z2] [] (br_hp n I L) Q := by
  subst hg
  have loop : ∀ k c, c + k = N → br_r d 299 4 [some (.ref 169), some (.int (nI (bm_cnt (fun c => !decide (I 171 (827 + c) = nI 0)) c))), some (.int (nI c))] [] (br_hp n I L) Q := by
    intro k
    induction k with
    | zero =>
      intro c hc
      have : c = N := by omega
      subst this
      exact rb_M_goneOf_4 (br_t (by rw [hN]; exact nI_le (Nat.le_refl _) (by omega)) H)
    | succ k ih =>
      intro c hc
      have h1 := ih (c + 1) (by omega)
      refine rb_M_goneOf_4 (br_f (by rw [hN]; exact nI_ge (by omega) (by omega)) ?_)
      rw [nI_add, nI_clamp (by omega), nI_add]
      refine ⟨vp_in_nI (by omega) (by omega), ?_⟩
      rcases h01 c (by omega) with h | h
      · rw [bm_cnt_F (by rw [decide_eq_true h]; rfl)] at h1
        rw [h, nI_add]; exact h1
      · rw [bm_cnt_T (by rw [decide_eq_false (by rw [h]; exact br_10)]; rfl)] at h1
        rw [h, nI_add]; exact h1
  exact rb_M_goneOf_0 (loop N 0 (by omega))
end
