set_option maxRecDepth 100000
set_option maxHeartbeats 4000000
/-! rules, read from their tokens -/
abbrev pr_O : Type := List (Nat × Nat)
abbrev pr_S : Type := List tk_T → pr_O → Sum pt_F (List tk_T × pr_O)
def pr_lp (N op : Nat) (sub : pr_S) : Nat → List tk_T → pr_O → Sum pt_F (List tk_T × pr_O)
  | 0, ts, os => .inr (ts, os)
  | f + 1, ts, os => if (tk_hd N ts).1 = op then sb (sub ts.tail os) (fun x => pr_lp N op sub f x.1 (x.2 ++ [(op, 0)])) else .inr (ts, os)
theorem pr_lp_T {N op f : Nat} {sub : pr_S} {ts : List tk_T} {os : pr_O} (h : (tk_hd N ts).1 = op) : pr_lp N op sub (f + 1) ts os = sb (sub ts.tail os) (fun x => pr_lp N op sub f x.1 (x.2 ++ [(op, 0)])) := if_pos h
theorem pr_lp_F {N op f : Nat} {sub : pr_S} {ts : List tk_T} {os : pr_O} (h : ¬ (tk_hd N ts).1 = op) : pr_lp N op sub (f + 1) ts os = .inr (ts, os) := if_neg h
def pr_ch (N op : Nat) (sub : pr_S) : pr_S := fun ts os => sb (sub ts os) (fun x => pr_lp N op sub 400 x.1 x.2)
def pr_lo (k : Nat) : Nat := if k = 25 then 1 else 0
def pr_hi (k : Nat) : Nat := if k = 11 then 20 else if k = 24 then 17 else if k = 25 then 6 else 200
def pr_ask (k : Nat) : Bool := decide (k = 11 ∨ (24 ≤ k ∧ k ≤ 27))
def pr_leaf (N : Nat) : pr_S := fun ts os => if (tk_hd N ts).1 = 23 then .inr (ts.tail, os ++ [(23, 0)]) else if pr_ask (tk_hd N ts).1 = true then sb (pt_n (pr_lo (tk_hd N ts).1) (pr_hi (tk_hd N ts).1) N ts.tail) (fun x => .inr (x.2, os ++ [((tk_hd N ts).1, x.1)])) else .inl (tk_fail 2 (tk_hd N ts))
def pr_f (N : Nat) : Nat → pr_S
  | 0 => fun ts os => if (tk_hd N ts).1 = 45 ∨ (tk_hd N ts).1 = 22 then .inl (tk_fail 5 (tk_hd N ts)) else pr_leaf N ts os
  | k + 1 => fun ts os => if (tk_hd N ts).1 = 45 then sb (pr_ch N 20 (pr_ch N 21 (pr_f N k)) ts.tail os) (fun x => sb (pt_k 46 N x.1) (fun t => .inr (t, x.2))) else if (tk_hd N ts).1 = 22 then sb (pr_f N k ts.tail os) (fun x => .inr (x.1, x.2 ++ [(22, 0)])) else pr_leaf N ts os
/-- the heights of the pile along the steps -/
def pr_p : pr_O → Nat → Nat → Prop
  | [], a, c => a = c
  | t :: l, a, c => ∃ a', a ≤ 30 ∧ br_hs t.1 a a' ∧ t.2 ≤ 200 ∧ t.1 < 28 ∧ pr_p l a' c
theorem pr_p_app : ∀ {l1 l2 : pr_O} {a b c : Nat}, pr_p l1 a b → pr_p l2 b c → pr_p (l1 ++ l2) a c
  | [], l2, a, b, c, h1, h2 => by have e : a = b := h1; rw [e]; exact h2
  | t :: l1, l2, a, b, c, ⟨a', q1, q2, q3, q4, q5⟩, h2 => ⟨a', q1, q2, q3, q4, pr_p_app q5 h2⟩
def pr_good (N m : Nat) (sub : pr_S) : Prop := ∀ (ts : List tk_T) (os : pr_O) (y : List tk_T × pr_O) (p : Nat), tk_ok N ts p → sub ts os = .inr y → ∃ seg p', y.2 = os ++ seg ∧ tk_ok N y.1 p' ∧ p + 2 * seg.length ≤ p' ∧ (∃ k, y.1 = ts.drop k) ∧ ∀ h, h + m ≤ 30 → pr_p seg h (h + 1)
theorem tk_ok_tl {N p k : Nat} {ts : List tk_T} (h : tk_ok N ts p) (e : (tk_hd N ts).1 = k) (hk : k ≠ 42) : tk_ok N ts.tail (p + (if k < 28 then 2 else 1)) := by
  obtain ⟨t, r, ets⟩ := tk_hd_c e hk
  subst ets
  obtain ⟨h1, h2, h3⟩ := h
  have e' : t.1 = k := e
  rw [← e']
  exact tk_ok_le h3 (by omega)
theorem tk_ok_N {N p : Nat} : ∀ {ts : List tk_T}, tk_ok N ts p → p ≤ N
  | [], h => h
  | t :: ts, h => by
    have h3 := tk_ok_N h.2.2
    have := h.1
    split at h3 <;> omega
theorem pr_leaf_good {N m : Nat} : pr_good N m (pr_leaf N) := by
  intro ts os y p h e
  unfold pr_leaf at e
  by_cases h1 : (tk_hd N ts).1 = 23
  · rw [if_pos h1] at e
    have e' := Sum.inr.inj e
    subst e'
    refine ⟨[(23, 0)], _, rfl, tk_ok_tl h h1 (by omega), ?_, ⟨1, List.drop_one.symm⟩, fun hh q => ⟨hh + 1, by omega, ?_, by show 0 ≤ 200; omega, by show 23 < 28; omega, rfl⟩⟩
    · rw [if_pos (by omega)]; show p + 2 * 1 ≤ p + 2; omega
    · unfold br_hs; show _ ∨ _ ∨ _; omega
  · rw [if_neg h1] at e
    by_cases h2 : pr_ask (tk_hd N ts).1 = true
    · rw [if_pos h2] at e
      have h2' := of_decide_eq_true h2
      obtain ⟨x, hx, e⟩ := sb_inr e
      have e' := Sum.inr.inj e
      subst e'
      have hb := pt_n_b hx
      obtain ⟨ht, h41⟩ := pt_n_t hx
      have hhi : pr_hi (tk_hd N ts).1 ≤ 200 := by unfold pr_hi; repeat' split
                                                  all_goals omega
      have ok1 := tk_ok_tl (k := (tk_hd N ts).1) h rfl (by omega)
      have ok2 := tk_ok_tl ok1 h41 (by omega)
      refine ⟨[((tk_hd N ts).1, x.1)], _, rfl, by show tk_ok N x.2 _; rw [ht]; exact ok2, ?_, ⟨2, ?_⟩, fun hh q => ⟨hh + 1, by omega, ?_, by show x.1 ≤ 200; omega, by show (tk_hd N ts).1 < 28; omega, rfl⟩⟩
      · rw [if_pos (by omega)]; show p + 2 * 1 ≤ p + 2 + _; omega
      · show x.2 = ts.drop 2
        rw [ht, ← List.drop_one, ← List.drop_one, List.drop_drop]
      · unfold br_hs; show _ ∨ _ ∨ _; omega
    · rw [if_neg h2] at e; cases e
theorem pr_lp_good {N op m : Nat} {sub : pr_S} (hop : op = 20 ∨ op = 21) (hs : pr_good N m sub) : ∀ (f : Nat) (ts : List tk_T) (os : pr_O) (y : List tk_T × pr_O) (p : Nat), tk_ok N ts p → pr_lp N op sub f ts os = .inr y → ∃ seg p', y.2 = os ++ seg ∧ tk_ok N y.1 p' ∧ p + 2 * seg.length ≤ p' ∧ (∃ k, y.1 = ts.drop k) ∧ ∀ h, h + 1 + m ≤ 30 → h + 2 ≤ 30 → pr_p seg (h + 1) (h + 1)
  | 0, ts, os, y, p, h, e => by
    have e' := Sum.inr.inj e
    subst e'
    exact ⟨[], p, (List.append_nil _).symm, h, Nat.le_refl _, ⟨0, rfl⟩, fun hh _ _ => rfl⟩
  | f + 1, ts, os, y, p, h, e => by
    by_cases h1 : (tk_hd N ts).1 = op
    · rw [pr_lp_T h1] at e
      obtain ⟨x, hx, e⟩ := sb_inr e
      have ok1 := tk_ok_tl h h1 (by omega)
      rw [if_pos (by omega)] at ok1
      obtain ⟨seg, p', q1, q2, q3, ⟨k, q4⟩, q5⟩ := hs _ _ _ _ ok1 hx
      obtain ⟨seg2, p2, r1, r2, r3, ⟨k2, r4⟩, r5⟩ := pr_lp_good hop hs f x.1 (x.2 ++ [(op, 0)]) y p' q2 e
      refine ⟨seg ++ ((op, 0) :: seg2), p2, ?_, r2, ?_, ⟨1 + k + k2, ?_⟩, fun hh q6 q7 => pr_p_app (q5 (hh + 1) (by omega)) ⟨hh + 1, by omega, ?_, by show 0 ≤ 200; omega, by show op < 28; omega, r5 hh q6 q7⟩⟩
      · rw [r1, q1]; simp
      · rw [List.length_append, List.length_cons]; omega
      · rw [r4, q4, List.drop_drop, ← List.drop_one, List.drop_drop]; congr 1; omega
      · unfold br_hs; show _ ∨ _ ∨ _; omega
    · rw [pr_lp_F h1] at e
      have e' := Sum.inr.inj e
      subst e'
      exact ⟨[], p, (List.append_nil _).symm, h, Nat.le_refl _, ⟨0, rfl⟩, fun hh _ _ => rfl⟩
theorem pr_ch_good {N op m : Nat} {sub : pr_S} (hop : op = 20 ∨ op = 21) (hm : 1 ≤ m) (hs : pr_good N m sub) : pr_good N (m + 1) (pr_ch N op sub) := by
  intro ts os y p h e
  obtain ⟨x, hx, e⟩ := sb_inr e
  obtain ⟨seg, p', q1, q2, q3, ⟨k, q4⟩, q5⟩ := hs _ _ _ _ h hx
  obtain ⟨seg2, p2, r1, r2, r3, ⟨k2, r4⟩, r5⟩ := pr_lp_good hop hs 400 x.1 x.2 y p' q2 e
  refine ⟨seg ++ seg2, p2, by rw [r1, q1, List.append_assoc], r2, by rw [List.length_append]; omega, ⟨k + k2, by rw [r4, q4, List.drop_drop]⟩, fun hh q6 => pr_p_app (q5 hh (by omega)) (r5 hh (by omega) (by omega))⟩
theorem pr_f_good {N : Nat} : ∀ k, pr_good N (2 * k + 1) (pr_f N k)
  | 0 => by
    intro ts os y p h e
    have e : (if (tk_hd N ts).1 = 45 ∨ (tk_hd N ts).1 = 22 then .inl (tk_fail 5 (tk_hd N ts)) else pr_leaf N ts os) = .inr y := e
    by_cases h1 : (tk_hd N ts).1 = 45 ∨ (tk_hd N ts).1 = 22
    · rw [if_pos h1] at e; cases e
    · rw [if_neg h1] at e; exact pr_leaf_good _ _ _ _ h e
  | k + 1 => by
    intro ts os y p h e
    have e : (if (tk_hd N ts).1 = 45 then sb (pr_ch N 20 (pr_ch N 21 (pr_f N k)) ts.tail os) (fun x => sb (pt_k 46 N x.1) (fun t => .inr (t, x.2))) else if (tk_hd N ts).1 = 22 then sb (pr_f N k ts.tail os) (fun x => .inr (x.1, x.2 ++ [(22, 0)])) else pr_leaf N ts os) = .inr y := e
    by_cases h1 : (tk_hd N ts).1 = 45
    · rw [if_pos h1] at e
      obtain ⟨x, hx, e⟩ := sb_inr e
      obtain ⟨t, ht, e⟩ := sb_inr e
      have e' := Sum.inr.inj e
      subst e'
      have g := pr_ch_good (N := N) (op := 20) (Or.inl rfl) (by omega) (pr_ch_good (N := N) (op := 21) (Or.inr rfl) (by omega) (pr_f_good k))
      obtain ⟨seg, p', q1, q2, q3, ⟨k1, q4⟩, q5⟩ := g _ _ _ _ (tk_ok_tl h h1 (by omega)) hx
      rw [if_neg (by omega)] at q3
      obtain ⟨e1, e2⟩ := pt_k_t ht
      have ok2 := tk_ok_tl q2 e2 (by omega)
      refine ⟨seg, _, q1, by show tk_ok N t _; rw [e1]; exact ok2, by omega, ⟨1 + k1 + 1, ?_⟩, fun hh q => q5 hh (by omega)⟩
      show t = ts.drop (1 + k1 + 1)
      rw [e1, q4, ← List.drop_one, ← List.drop_one, List.drop_drop, List.drop_drop]
      first
        | rfl
        | (congr 1; omega)
    · rw [if_neg h1] at e
      by_cases h2 : (tk_hd N ts).1 = 22
      · rw [if_pos h2] at e
        obtain ⟨x, hx, e⟩ := sb_inr e
        have e' := Sum.inr.inj e
        subst e'
        have ok1 := tk_ok_tl h h2 (by omega)
        rw [if_pos (by omega)] at ok1
        obtain ⟨seg, p', q1, q2, q3, ⟨k1, q4⟩, q5⟩ := pr_f_good k _ _ _ _ ok1 hx
        refine ⟨seg ++ [(22, 0)], p', ?_, q2, ?_, ⟨1 + k1, ?_⟩, fun hh q => pr_p_app (q5 hh (by omega)) ⟨hh + 1, by omega, ?_, by show 0 ≤ 200; omega, by show 22 < 28; omega, rfl⟩⟩
        · show x.2 ++ [(22, 0)] = _
          rw [q1, List.append_assoc]
        · rw [List.length_append]; show p + 2 * (seg.length + 1) ≤ p'; omega
        · show x.1 = _
          rw [q4, ← List.drop_one, List.drop_drop]
        · unfold br_hs; show _ ∨ _ ∨ _; omega
      · rw [if_neg h2] at e; exact pr_leaf_good _ _ _ _ h e
def pr_test (N : Nat) : pr_S := pr_ch N 20 (pr_ch N 21 (pr_f N 8))
theorem pr_test_good {N : Nat} : pr_good N 19 (pr_test N) := pr_ch_good (Or.inl rfl) (by omega) (pr_ch_good (Or.inr rfl) (by omega) (pr_f_good 8))
def pr_all (N : Nat) : Nat → Nat → List tk_T → pr_O → (Nat → Nat) → Sum pt_F (Nat × pr_O × (Nat → Nat))
  | 0, c, _, os, fr => .inr (c, os, fr)
  | f + 1, c, ts, os, fr => if (tk_hd N ts).1 = 42 then .inr (c, os, fr) else if ¬ (tk_hd N ts).1 = 18 then .inl (tk_fail 2 (tk_hd N ts)) else if c = 12 then .inl (tk_fail 4 (tk_hd N ts)) else
      sb (pt_k 19 N ts.tail) (fun t1 => sb (pr_test N t1 os) (fun x => sb (pt_k 44 N x.1) (fun t2 => pr_all N f (c + 1) t2 x.2 (br_v fr (c + 1) x.2.length))))
theorem tk_sm_d {ts : List tk_T} (h : tk_sm ts) (k : Nat) : tk_sm (ts.drop k) := fun t ht => h t (List.mem_of_mem_drop ht)
theorem tk_vd_d {ts : List tk_T} (h : tk_vd ts) (k : Nat) : tk_vd (ts.drop k) := fun t ht => h t (List.mem_of_mem_drop ht)
/-- the rules so far -/
def pr_inv (c : Nat) (os : pr_O) (fr : Nat → Nat) : Prop := fr 0 = 0 ∧ fr c = os.length ∧ ∀ r, r < c → fr r ≤ fr (r + 1) ∧ fr (r + 1) ≤ os.length ∧ pr_p ((os.drop (fr r)).take (fr (r + 1) - fr r)) 0 1
theorem pr_inv_s {c : Nat} {os seg : pr_O} {fr : Nat → Nat} (h : pr_inv c os fr) (hp : pr_p seg 0 1) : pr_inv (c + 1) (os ++ seg) (br_v fr (c + 1) (os ++ seg).length) := by
  obtain ⟨h1, h2, h3⟩ := h
  refine ⟨by rw [br_v_j (by omega)]; exact h1, br_v_s, fun r hr => ?_⟩
  by_cases e : r = c
  · subst e
    rw [br_v_s, br_v_j (by omega), h2, List.drop_left, List.length_append]
    refine ⟨by omega, by omega, ?_⟩
    rw [List.take_of_length_le (by omega)]; exact hp
  · obtain ⟨q1, q2, q3⟩ := h3 r (by omega)
    rw [br_v_j (by omega), br_v_j (by omega)]
    refine ⟨q1, by rw [List.length_append]; omega, ?_⟩
    rw [List.drop_append_of_le_length (by omega), List.take_append_of_le_length (by rw [List.length_drop]; omega)]
    exact q3
