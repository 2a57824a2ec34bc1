set_option maxRecDepth 100000
set_option maxHeartbeats 4000000
/-! a law, read from its tokens -/
abbrev pt_F : Type := Nat × Nat
def sb {α β : Type} (x : Sum pt_F α) (k : α → Sum pt_F β) : Sum pt_F β := match x with
  | .inl f => .inl f
  | .inr a => k a
theorem sb_l {α β : Type} {x : Sum pt_F α} {k : α → Sum pt_F β} {f : pt_F} (h : x = .inl f) : sb x k = .inl f := by rw [h]; rfl
theorem sb_r {α β : Type} {x : Sum pt_F α} {k : α → Sum pt_F β} {a : α} (h : x = .inr a) : sb x k = k a := by rw [h]; rfl
def tk_fail (k : Nat) (t : tk_T) : pt_F := (if t.1 = 43 then 1 else k, t.2.1)
def pt_k (k N : Nat) (ts : List tk_T) : Sum pt_F (List tk_T) := if (tk_hd N ts).1 = k then .inr ts.tail else .inl (tk_fail 2 (tk_hd N ts))
theorem pt_k_T {k N : Nat} {ts : List tk_T} (h : (tk_hd N ts).1 = k) : pt_k k N ts = .inr ts.tail := if_pos h
theorem pt_k_F {k N : Nat} {ts : List tk_T} (h : ¬ (tk_hd N ts).1 = k) : pt_k k N ts = .inl (tk_fail 2 (tk_hd N ts)) := if_neg h
def pt_n (lo hi N : Nat) (ts : List tk_T) : Sum pt_F (Nat × List tk_T) := if (tk_hd N ts).1 = 41 then (if lo ≤ (tk_hd N ts).2.2 ∧ (tk_hd N ts).2.2 ≤ hi then .inr ((tk_hd N ts).2.2, ts.tail) else .inl (tk_fail 3 (tk_hd N ts))) else .inl (tk_fail 2 (tk_hd N ts))
theorem pt_n_T {lo hi N : Nat} {ts : List tk_T} (h : (tk_hd N ts).1 = 41) (h2 : lo ≤ (tk_hd N ts).2.2 ∧ (tk_hd N ts).2.2 ≤ hi) : pt_n lo hi N ts = .inr ((tk_hd N ts).2.2, ts.tail) := by unfold pt_n; rw [if_pos h, if_pos h2]
theorem pt_n_B {lo hi N : Nat} {ts : List tk_T} (h : (tk_hd N ts).1 = 41) (h2 : ¬ (lo ≤ (tk_hd N ts).2.2 ∧ (tk_hd N ts).2.2 ≤ hi)) : pt_n lo hi N ts = .inl (tk_fail 3 (tk_hd N ts)) := by unfold pt_n; rw [if_pos h, if_neg h2]
theorem pt_n_F {lo hi N : Nat} {ts : List tk_T} (h : ¬ (tk_hd N ts).1 = 41) : pt_n lo hi N ts = .inl (tk_fail 2 (tk_hd N ts)) := if_neg h
theorem pt_n_b {lo hi N : Nat} {ts : List tk_T} {x : Nat × List tk_T} (h : pt_n lo hi N ts = .inr x) : lo ≤ x.1 ∧ x.1 ≤ hi := by
  by_cases h1 : (tk_hd N ts).1 = 41
  · by_cases h2 : lo ≤ (tk_hd N ts).2.2 ∧ (tk_hd N ts).2.2 ≤ hi
    · rw [pt_n_T h1 h2] at h
      have e := Sum.inr.inj h
      rw [← e]; exact h2
    · rw [pt_n_B h1 h2] at h; cases h
  · rw [pt_n_F h1] at h; cases h
theorem tk_hd_c {N k : Nat} {ts : List tk_T} (h : (tk_hd N ts).1 = k) (hk : k ≠ 42) : ∃ t r, ts = t :: r := by
  cases ts with
  | nil => exact absurd h.symm hk
  | cons t r => exact ⟨t, r, rfl⟩
def pl_mx (w : Nat) : Nat := if w = 11 then 100 else if w ≤ 14 then 50 else if w = 15 then 20 else 200
def pl_line (N w : Nat) (ts : List tk_T) (g : Nat → Int32) : Sum pt_F (List tk_T × (Nat → Int32)) :=
  if w < 5 then sb (pt_k 8 N ts) (fun t1 => if (tk_hd N t1).1 = 47 then sb (pt_n 0 99 N t1.tail) (fun x => .inr (x.2, br_v g w (-(nI x.1)))) else sb (pt_n 0 99 N t1) (fun x => .inr (x.2, br_v g w (nI x.1))))
  else if w < 8 then sb (pt_k 9 N ts) (fun t1 => sb (pt_n 0 99 N t1) (fun x => sb (pt_k 10 N x.2) (fun t2 => sb (pt_n 0 99 N t2) (fun y => .inr (y.2, br_v (br_v g w (nI x.1)) (w + 3) (nI y.1))))))
  else sb (pt_n 0 (pl_mx w) N ts) (fun x => .inr (x.2, br_v g w (nI x.1)))
def pl_bad (k : Nat) : Bool := decide (17 < k ∨ (8 ≤ k ∧ k ≤ 10))
def pl_all (N : Nat) : Nat → Nat → List tk_T → (Nat → Int32) → Sum pt_F (Nat × (Nat → Int32))
  | 0, c, _, g => .inr (c, g)
  | f + 1, c, ts, g => if (tk_hd N ts).1 = 42 then .inr (c, g) else if pl_bad (tk_hd N ts).1 = true then .inl (tk_fail 2 (tk_hd N ts)) else if c = 30 then .inl (tk_fail 4 (tk_hd N ts)) else
      sb (pl_line N (tk_hd N ts).1 ts.tail g) (fun x => sb (pt_k 44 N x.1) (fun t => pl_all N f (c + 1) t x.2))
/-- the numbers of a law keep their bounds -/
def pl_ok (g : Nat → Int32) : Prop := (∀ j, j < 5 → -99 ≤ (g j).toInt ∧ (g j).toInt ≤ 99) ∧ (∀ j, 5 ≤ j → j < 11 → 0 ≤ (g j).toInt ∧ (g j).toInt ≤ 99) ∧ (∀ j, 11 ≤ j → j < 18 → 0 ≤ (g j).toInt ∧ (g j).toInt ≤ pl_mx j)
theorem pl_ok_v {g : Nat → Int32} {w : Nat} {x : Int32} (h : pl_ok g) (h1 : w < 5 → -99 ≤ x.toInt ∧ x.toInt ≤ 99) (h2 : 5 ≤ w → w < 11 → 0 ≤ x.toInt ∧ x.toInt ≤ 99) (h3 : 11 ≤ w → w < 18 → 0 ≤ x.toInt ∧ x.toInt ≤ pl_mx w) : pl_ok (br_v g w x) := by
  obtain ⟨a, b, c⟩ := h
  refine ⟨fun j hj => ?_, fun j hj hj2 => ?_, fun j hj hj2 => ?_⟩
  · by_cases e : j = w
    · subst e; rw [br_v_s]; exact h1 hj
    · rw [br_v_j e]; exact a j hj
  · by_cases e : j = w
    · subst e; rw [br_v_s]; exact h2 hj hj2
    · rw [br_v_j e]; exact b j hj hj2
  · by_cases e : j = w
    · subst e; rw [br_v_s]; exact h3 hj hj2
    · rw [br_v_j e]; exact c j hj hj2
theorem sb_inr {α β : Type} {x : Sum pt_F α} {k : α → Sum pt_F β} {y : β} (h : sb x k = .inr y) : ∃ a, x = .inr a ∧ k a = .inr y := by
  cases x with
  | inl f => cases h
  | inr a => exact ⟨a, rfl, h⟩
theorem pl_line_ok {N w : Nat} {ts : List tk_T} {g : Nat → Int32} {y : List tk_T × (Nat → Int32)} (hw : pl_bad w = false) (h : pl_ok g) (e : pl_line N w ts g = .inr y) : pl_ok y.2 := by
  have hw2 := of_decide_eq_false hw
  have mx : pl_mx w ≤ 200 := by unfold pl_mx; repeat' split
                                all_goals omega
  unfold pl_line at e
  by_cases h1 : w < 5
  · rw [if_pos h1] at e
    obtain ⟨t1, e1, e⟩ := sb_inr e
    have go : ∀ x : Int32, -99 ≤ x.toInt → x.toInt ≤ 99 → pl_ok (br_v g w x) := fun x a b => pl_ok_v h (fun _ => ⟨a, b⟩) (fun z => absurd z (by omega)) (fun z => absurd z (by omega))
    by_cases h47 : (tk_hd N t1).1 = 47
    · rw [if_pos h47] at e
      obtain ⟨x, e2, e⟩ := sb_inr e
      have b := pt_n_b e2
      rw [← Sum.inr.inj e]
      have := br_negT (k := x.1) (by omega)
      exact go _ (by omega) (by omega)
    · rw [if_neg h47] at e
      obtain ⟨x, e2, e⟩ := sb_inr e
      have b := pt_n_b e2
      rw [← Sum.inr.inj e]
      have := nI_toInt (n := x.1) (by omega)
      exact go _ (by omega) (by omega)
  · rw [if_neg h1] at e
    by_cases h2 : w < 8
    · rw [if_pos h2] at e
      obtain ⟨t1, e1, e⟩ := sb_inr e
      obtain ⟨x, e2, e⟩ := sb_inr e
      obtain ⟨t2, e3, e⟩ := sb_inr e
      obtain ⟨z, e4, e⟩ := sb_inr e
      have b := pt_n_b e2
      have b2 := pt_n_b e4
      have t1 := nI_toInt (n := x.1) (by omega)
      have t2 := nI_toInt (n := z.1) (by omega)
      rw [← Sum.inr.inj e]
      exact pl_ok_v (pl_ok_v h (fun z => absurd z (by omega)) (fun _ _ => by omega) (fun z => absurd z (by omega))) (fun z => absurd z (by omega)) (fun _ _ => by omega) (fun z => absurd z (by omega))
    · rw [if_neg h2] at e
      obtain ⟨x, e2, e⟩ := sb_inr e
      have b := pt_n_b e2
      have t1 := nI_toInt (n := x.1) (by omega)
      rw [← Sum.inr.inj e]
      exact pl_ok_v h (fun z => absurd z (by omega)) (fun _ z => absurd z (by omega)) (fun _ _ => by omega)
theorem pl_all_ok {N : Nat} : ∀ (f c : Nat) (ts : List tk_T) (g : Nat → Int32) (y : Nat × (Nat → Int32)), pl_ok g → c + f = 31 → pl_all N f c ts g = .inr y → pl_ok y.2 ∧ y.1 ≤ 31
  | 0, c, ts, g, y, h, hc, e => by
    rw [← Sum.inr.inj e]; exact ⟨h, by show c ≤ 31; omega⟩
  | f + 1, c, ts, g, y, h, hc, e => by
    have e : (if (tk_hd N ts).1 = 42 then .inr (c, g) else if pl_bad (tk_hd N ts).1 = true then .inl (tk_fail 2 (tk_hd N ts)) else if c = 30 then .inl (tk_fail 4 (tk_hd N ts)) else sb (pl_line N (tk_hd N ts).1 ts.tail g) (fun x => sb (pt_k 44 N x.1) (fun t => pl_all N f (c + 1) t x.2))) = .inr y := e
    by_cases h1 : (tk_hd N ts).1 = 42
    · rw [if_pos h1] at e
      rw [← Sum.inr.inj e]; exact ⟨h, by show c ≤ 31; omega⟩
    · rw [if_neg h1] at e
      by_cases h2 : pl_bad (tk_hd N ts).1 = true
      · rw [if_pos h2] at e; cases e
      · rw [if_neg h2] at e
        by_cases h3 : c = 30
        · rw [if_pos h3] at e; cases e
        · rw [if_neg h3] at e
          obtain ⟨x, e1, e⟩ := sb_inr e
          obtain ⟨t, e2, e⟩ := sb_inr e
          have h2' : pl_bad (tk_hd N ts).1 = false := by cases hx : pl_bad (tk_hd N ts).1 with
            | true => exact absurd hx h2
            | false => rfl
          exact pl_all_ok f (c + 1) t x.2 y (pl_line_ok h2' h e1) (by omega) e
/-! the class reads it -/
section
variable {d n : Nat} {Q : br_Q} {I J : Nat → Nat → Int32} {L : Nat → Nat → Int64} {T ts : List tk_T} {N : Nat}
def fC (I J : Nat → Nat → Int32) : Prop := ∀ p j, ¬ (p = 54 ∧ 3 ≤ j ∧ j ≤ 5) → ¬ (p = 55 ∧ 7 ≤ j ∧ j ≤ 10) → J p j = I p j
def pt_f (f : pt_F) (J : Nat → Nat → Int32) : Prop := J 54 3 = nI f.1 ∧ J 54 4 = nI f.2
/-- tokens have small numbers -/
def tk_sm (ts : List tk_T) : Prop := ∀ t, t ∈ ts → t.1 ≤ 47 ∧ t.2.1 ≤ 400 ∧ t.2.2 ≤ 999
theorem tk_sm_t {ts : List tk_T} (h : tk_sm ts) : tk_sm ts.tail := fun t ht => h t (List.mem_of_mem_tail ht)
theorem tk_sm_h {ts : List tk_T} (h : tk_sm ts) (hN : N ≤ 400) : (tk_hd N ts).1 ≤ 47 ∧ (tk_hd N ts).2.1 ≤ 400 ∧ (tk_hd N ts).2.2 ≤ 999 := by
  cases ts with
  | nil => exact ⟨by show 42 ≤ 47; omega, hN, by show 0 ≤ 999; omega⟩
  | cons t r => exact h t List.mem_cons_self
theorem rs_R_fails {k : Nat} (h : tk_C T N ts I) (hs : tk_sm ts) (H : ∀ J, fC I J → pt_f (tk_fail k (tk_hd N ts)) J → Q (some (.int (nI 0))) (br_hp n J L)) : br_r d 63 0 [some (.ref 54), some (.int (nI k))] [] (br_hp n I L) Q := by
  obtain ⟨a1, a2, a3, a4, a5, a6, a9, a10, a11⟩ := h
  have hb := tk_sm_h hs a3
  refine rb_Reader_fails_0 ?_
  rw [a9, nI_eq (a := (tk_hd N ts).1) (b := 43) (by omega) (by omega)]
  have fr : ∀ x y, fC I (br_u (br_u I 54 3 x) 54 4 y) := fun x y p j q1 q2 => by rw [br_u_n (by omega), br_u_n (by omega)]
  refine ⟨fun h => H _ (fr _ _) ⟨?_, ?_⟩, fun h => H _ (fr _ _) ⟨?_, ?_⟩⟩
  · rw [br_u_n (by omega), br_u_s]; unfold tk_fail; rw [if_neg h]
  · rw [br_u_s, br_u_n (by omega), a10]; rfl
  · rw [br_u_n (by omega), br_u_s]; unfold tk_fail; rw [if_pos (Classical.not_not.mp h)]
  · rw [br_u_s, br_u_n (by omega), a10]; rfl
theorem rs_R_takes {k : Nat} (hk : k ≠ 42) (hk2 : k < 100) (h : tk_C T N ts I) (hs : tk_sm ts) (H0 : ∀ f, pt_k k N ts = .inl f → ∀ J, fC I J → pt_f f J → Q (some (.int (nI 0))) (br_hp n J L)) (H1 : ∀ t1, pt_k k N ts = .inr t1 → ∀ J, fC I J → (∀ j, j < 5 → J 54 j = I 54 j) → tk_C T N t1 J → Q (some (.int (nI 1))) (br_hp n J L)) :
    br_r (d + 1) 66 0 [some (.ref 54), some (.int (nI k))] [] (br_hp n I L) Q := by
  have hb := tk_sm_h hs h.2.2.1
  have a9 := h.2.2.2.2.2.2.1
  refine rb_Reader_takes_0 ?_
  rw [a9, nI_eq (a := (tk_hd N ts).1) (b := k) (by omega) (by omega)]
  refine ⟨fun e => ?_, fun e => rs_R_fails h hs (fun J f1 f2 => rb_Reader_takes_16 ⟨Or.inl rfl, H0 _ (pt_k_F e) J f1 f2⟩)⟩
  obtain ⟨t, r, ets⟩ := tk_hd_c e hk
  have e1 := pt_k_T e
  rw [ets] at h e1
  exact rs_T_adv h (fun J f1 f2 => rb_Reader_takes_24 (H1 _ (by rw [ets]; exact e1) J (fun p j q1 q2 => f1 p j (by omega)) (fun j hj => f1 54 j (by omega)) f2))
theorem rs_R_number {lo hi : Nat} (hlo : lo < 1000) (hhi : hi < 1000) (h : tk_C T N ts I) (hs : tk_sm ts) (H0 : ∀ f, pt_n lo hi N ts = .inl f → ∀ J, fC I J → pt_f f J → Q (some (.int (nI 0))) (br_hp n J L)) (H1 : ∀ x, pt_n lo hi N ts = .inr x → ∀ J, fC I J → (∀ j, j < 5 → J 54 j = I 54 j) → tk_C T N x.2 J → J 54 5 = nI x.1 → Q (some (.int (nI 1))) (br_hp n J L)) :
    br_r (d + 1) 67 0 [some (.ref 54), some (.int (nI lo)), some (.int (nI hi))] [] (br_hp n I L) Q := by
  have hb := tk_sm_h hs h.2.2.1
  have a9 := h.2.2.2.2.2.2.1
  have a11 := h.2.2.2.2.2.2.2.2
  refine rb_Reader_takesNumber_0 ?_
  rw [a9, a11, nI_eq (a := (tk_hd N ts).1) (b := 41) (by omega) (by omega)]
  refine ⟨fun e => ?_, fun e => rs_R_fails h hs (fun J f1 f2 => rb_Reader_takesNumber_17 ⟨Or.inl rfl, H0 _ (pt_n_F e) J f1 f2⟩)⟩
  by_cases h2 : lo ≤ (tk_hd N ts).2.2 ∧ (tk_hd N ts).2.2 ≤ hi
  · obtain ⟨t, r, ets⟩ := tk_hd_c e (by omega)
    have e1 := pt_n_T e h2
    refine rs_out_F ?_ (rb_Reader_takesNumber_30 (br_t rfl ?_))
    · rw [nI_toInt (by omega), nI_toInt (by omega), nI_toInt (by omega)]; omega
    · rw [a11]
      have h' : tk_C T N ts (br_u I 54 5 (nI (tk_hd N ts).2.2)) := tk_C_c h (fun p j q => br_u_n (by omega))
      generalize hv : (tk_hd N ts).2.2 = v at *
      rw [ets] at h'
      refine rs_T_adv h' (fun J f1 f2 => rb_Reader_takesNumber_57 (H1 _ e1 J (fun p j q1 q2 => by rw [f1 p j (by omega), br_u_n (by omega)]) (fun j hj => by rw [f1 54 j (by omega), br_u_n (by omega)]) ?_ ?_))
      · rw [ets]; exact f2
      · rw [f1 54 5 (by omega), br_u_s]
  · refine rs_out_T ?_ (rb_Reader_takesNumber_30 (br_f br_10 (rs_R_fails h hs (fun J f1 f2 => rb_Reader_takesNumber_38 ⟨Or.inl rfl, H0 _ (pt_n_B e h2) J f1 f2⟩))))
    rw [nI_toInt (by omega), nI_toInt (by omega), nI_toInt (by omega)]; omega
end
