set_option maxRecDepth 100000
set_option maxHeartbeats 4000000
/-! the class reads rules -/
theorem pr_code : ∀ k, k < 28 → ∀ v, v < 201 → ((nI k <<< ((nI 8) &&& 31)) ||| nI v) = nI (256 * k + v) := by decide +kernel
theorem pr_most : ∀ k, k < 28 → 24 ≤ k → br_mostL.getD (k - 11) 0 = nI (pr_hi k) := by decide +kernel
def dC (s0 c : Nat) (os : pr_O) (J : Nat → Nat → Int32) : Prop := J 62 1 = nI (os.length + c) ∧ ∀ i t, s0 ≤ i → os[i]? = some t → J 63 (i + c) = nI (256 * t.1 + t.2)
def fK (s : Nat) (I J : Nat → Nat → Int32) : Prop := ∀ p j, ¬ (p = 54 ∧ 3 ≤ j ∧ j ≤ 5) → ¬ (p = 55 ∧ 7 ≤ j ∧ j ≤ 10) → ¬ (p = 62 ∧ j = 1) → ¬ (p = 63 ∧ s ≤ j) → J p j = I p j
def cF (f : pt_F) (J : Nat → Nat → Int32) : Prop := pt_f f J ∧ ∃ z, z ≤ 400 ∧ J 62 1 = nI z
section
variable {d n D : Nat} {Q : br_Q} {I J : Nat → Nat → Int32} {L : Nat → Nat → Int64} {T ts : List tk_T} {N s0 c : Nat}
theorem fC_K {s : Nat} (h : fC I J) : fK s I J := fun p j a b _ _ => h p j a b
theorem fK_t {s : Nat} {K : Nat → Nat → Int32} (h : fK s I J) (h2 : fK s J K) : fK s I K := fun p j a b e f => by rw [h2 p j a b e f, h p j a b e f]
theorem fK_0 {s : Nat} (h : fK s I J) : fK 0 I J := fun p j a b e f => h p j a b e (by omega)
theorem dC_c {os : pr_O} (h : dC s0 c os I) (h2 : fC I J) : dC s0 c os J := ⟨by rw [h2 62 1 (by omega) (by omega)]; exact h.1, fun i t a b => by rw [h2 63 _ (by omega) (by omega)]; exact h.2 i t a b⟩
theorem cF_c {f : pt_F} {os : pr_O} (h : dC s0 c os I) (h2 : fC I J) (h3 : pt_f f J) (hz : os.length + c ≤ 400) : cF f J := ⟨h3, os.length + c, hz, by rw [h2 62 1 (by omega) (by omega)]; exact h.1⟩
theorem rs_R_add {k v : Nat} {os : pr_O} (h : dC s0 c os I) (hz : os.length + c < 400) (hk : k < 28) (hv : v < 201) (H : ∀ J, (∀ p j, ¬ (p = 62 ∧ j = 1) → ¬ (p = 63 ∧ os.length + c ≤ j) → J p j = I p j) → dC s0 c (os ++ [(k, v)]) J → Q none (br_hp n J L)) :
    br_r d 75 0 [some (.ref 62), some (.int (nI k)), some (.int (nI v))] [] (br_hp n I L) Q := by
  obtain ⟨h1, h2⟩ := h
  have e63 : br_R0 62 0 = 63 := rfl
  have s63 : br_S0 n 63 = (1, 400) := rfl
  have s62 : br_S0 n 62 = (0, 5) := rfl
  refine rb_Rules_add_0 ?_
  rw [e63, s63, s62, h1, nI_clamp (by omega), br_u_n (by omega), h1, nI_add, pr_code k hk v hv]
  refine ⟨rfl, rfl, rfl, br_f (nI_ge (b := 400) hz (by omega)) ⟨rfl, rfl, ⟨rfl, by omega, vp_in_nI hz (by omega), rfl, rfl, H _ (fun p j a b => by rw [br_u_n (by omega), br_u_n (by omega)]) ⟨?_, fun i t a b => ?_⟩⟩⟩⟩
  · rw [br_u_s, List.length_append]; congr 1; show _ = os.length + 1 + c; omega
  · rw [br_u_n (by omega)]
    by_cases hi : i < os.length
    · rw [List.getElem?_append_left hi] at b
      rw [br_u_n (by omega)]; exact h2 i t a b
    · have h5 : i < (os ++ [(k, v)]).length := (List.getElem?_eq_some_iff.mp b).1
      rw [List.length_append] at h5
      have l1 : [(k, v)].length = 1 := rfl
      have h6 : i = os.length := by omega
      subst h6
      rw [List.getElem?_append_right (Nat.le_refl _), Nat.sub_self] at b
      have e : (k, v) = t := Option.some.inj b
      rw [br_u_s, ← e]
theorem rs_R_addF {x1 x2 : Int32} {z : Nat} (hz : z ≤ 400) (h : I 62 1 = nI z) (H : ∀ J, (∀ p j, p ≠ 62 → p ≠ 63 → J p j = I p j) → (∀ j, j ≠ 1 → J 62 j = I 62 j) → (∃ z, z ≤ 400 ∧ J 62 1 = nI z) → Q none (br_hp n J L)) :
    br_r d 75 0 [some (.ref 62), some (.int x1), some (.int x2)] [] (br_hp n I L) Q := by
  have e63 : br_R0 62 0 = 63 := rfl
  have s63 : br_S0 n 63 = (1, 400) := rfl
  have s62 : br_S0 n 62 = (0, 5) := rfl
  refine rb_Rules_add_0 ?_
  rw [e63, s63, s62, h, nI_clamp (by omega), br_u_n (by omega), h, nI_add]
  refine ⟨rfl, rfl, rfl, fun _ => H I (fun _ _ _ _ => rfl) (fun _ _ => rfl) ⟨z, hz, h⟩, fun q => ?_⟩
  have q' : ¬ nI 400 ≤ nI z := q
  rw [nI_leI (by omega) (by omega)] at q'
  refine ⟨rfl, rfl, ⟨rfl, by omega, vp_in_nI (by omega) (by omega), rfl, rfl, H _ (fun p j a b => by rw [br_u_n (by omega), br_u_n (by omega)]) (fun j hj => by rw [br_u_n (by omega), br_u_n (by omega)]) ⟨z + 1, by omega, br_u_s⟩⟩⟩
/-- what a piece does -/
def cSp (D n : Nat) (L : Nat → Nat → Int64) (T : List tk_T) (N s0 c jm : Nat) (args : br_V) (sub : pr_S) : Prop := ∀ (Q : br_Q) (I : Nat → Nat → Int32) (ts : List tk_T) (os : pr_O) (p : Nat), br_odx I → tk_C T N ts I → tk_sm ts → tk_ok N ts p → 2 * os.length ≤ p → s0 ≤ os.length → dC s0 c os I →
  (∀ f, sub ts os = .inl f → ∀ J, fK 0 I J → cF f J → Q (some (.int (nI 0))) (br_hp n J L)) →
  (∀ y, sub ts os = .inr y → ∀ J, fK (s0 + c) I J → (∀ j, j < 5 → J 54 j = I 54 j) → tk_C T N y.1 J → dC s0 c y.2 J → Q (some (.int (nI 1))) (br_hp n J L)) → br_r D jm 0 args [] (br_hp n I L) Q
theorem br_odx_K {s : Nat} (h : br_odx I) (h2 : fK s I J) : br_odx J := br_odx_c h (fun p j hp => h2 p j (by omega) (by omega) (by omega) (by omega))
theorem rs_R_part {k m : Nat} {sub : pr_S} (hk : k ≤ 8) (hc : c ≤ 12) (hg : pr_good N m sub) (hsub : cSp D n L T N s0 c 74 [some (.ref 54), some (.int (nI k)), none, none, none] sub) : cSp (D + 1) n L T N s0 c 73 [some (.ref 54), some (.int (nI k)), none, none] (pr_ch N 21 sub) := by
  intro Q I ts os p ho C sm ok b hs0 dc H0 H1
  unfold pr_ch at H0 H1
  have loop : ∀ f i (ts : List tk_T) (os : pr_O) (J : Nat → Nat → Int32) (p : Nat), i + f = 400 → fK (s0 + c) I J → (∀ j, j < 5 → J 54 j = I 54 j) → tk_C T N ts J → tk_sm ts → tk_ok N ts p → 2 * os.length ≤ p → s0 ≤ os.length → dC s0 c os J → (∀ fa, pr_lp N 21 sub f ts os = .inl fa → ∀ J, fK 0 I J → cF fa J → Q (some (.int (nI 0))) (br_hp n J L)) → (∀ y, pr_lp N 21 sub f ts os = .inr y → ∀ J, fK (s0 + c) I J → (∀ j, j < 5 → J 54 j = I 54 j) → tk_C T N y.1 J → dC s0 c y.2 J → Q (some (.int (nI 1))) (br_hp n J L)) →
      br_r (D + 1) 73 8 [some (.ref 54), some (.int (nI k)), some (.int (nI 1)), some (.int (nI i))] [] (br_hp n J L) Q := by
    intro f
    induction f with
    | zero =>
      intro i ts os J p hi fJ s54 C sm ok b hs0 dc K0 K1
      exact rb_Reader_takesPart_8 (br_t (nI_le (a := 400) (by omega) (by omega)) ⟨Or.inr rfl, K1 _ rfl J fJ s54 C dc⟩)
    | succ f ih =>
      intro i ts os J p hi fJ s54 C sm ok b hs0 dc K0 K1
      have hb := tk_sm_h sm C.2.2.1
      refine rb_Reader_takesPart_8 (br_f (nI_ge (b := 400) (by omega) (by omega)) (br_f br_10 ?_))
      rw [C.2.2.2.2.2.2.1, nI_eq (a := (tk_hd N ts).1) (b := 21) (by omega) (by omega)]
      refine ⟨fun e => ⟨Or.inr rfl, K1 _ (pr_lp_F e) J fJ s54 C dc⟩, fun e => ?_⟩
      have e' := Classical.not_not.mp e
      rw [pr_lp_T e'] at K0 K1
      obtain ⟨t, r, ets⟩ := tk_hd_c e' (by omega)
      have C' := C
      rw [ets] at C'
      have ok1 := tk_ok_tl ok e' (by omega)
      rw [if_pos (by omega)] at ok1
      refine rs_T_adv C' (fun J1 f1 C1 => rb_Reader_takesPart_38 ?_)
      have er : r = ts.tail := by rw [ets]; rfl
      rw [er] at C1
      have fc1 : fC J J1 := fun p j q1 q2 => f1 p j (by omega)
      have fJ1 := fK_t fJ (fC_K (s := s0 + c) fc1)
      refine hsub _ J1 ts.tail os (p + 2) (br_odx_K ho fJ1) C1 (tk_sm_t sm) ok1 (by omega) hs0 (dC_c dc fc1) (fun fa hf J2 f2 c2 => rb_Reader_takesPart_43 ?_) (fun x hx J2 f2 s2 C2 d2 => rb_Reader_takesPart_43 ?_)
      · obtain ⟨c3, z, hz, e62⟩ := c2
        refine rs_R_addF hz e62 (fun J3 f3 f4 c4 => rb_Reader_takesPart_54 ?_)
        have F := K0 fa (sb_l hf) J3 (fun p j q1 q2 q3 q4 => by
          by_cases e2 : p = 62
          · subst e2; rw [f4 j (by omega), f2 62 j (by omega) (by omega) (by omega) (by omega), fJ1 62 j (by omega) (by omega) (by omega) (by omega)]
          · rw [f3 p j e2 (by omega), f2 p j q1 q2 q3 (by omega), fJ1 p j q1 q2 q3 (by omega)]) ⟨⟨by rw [f3 54 3 (by omega) (by omega)]; exact c3.1, by rw [f3 54 4 (by omega) (by omega)]; exact c3.2⟩, c4⟩
        rw [nI_add]
        exact rb_Reader_takesPart_8 ⟨fun _ => ⟨Or.inl rfl, F⟩, fun _ => br_t rfl ⟨Or.inl rfl, F⟩⟩
      · rw [sb_r hx] at K0 K1
        obtain ⟨seg, p', g1, g2, g3, ⟨k1, g4⟩, g5⟩ := hg _ _ _ _ ok1 hx
        have hpN := tk_ok_N g2
        have hN := C.2.2.1
        have el : x.2.length = os.length + seg.length := by rw [g1, List.length_append]
        refine rs_R_add d2 (by omega) (by omega) (by omega) (fun J3 f3 d3 => rb_Reader_takesPart_54 ?_)
        rw [nI_add]
        refine ih (i + 1) x.1 (x.2 ++ [(21, 0)]) J3 p' (by omega) (fun p j q1 q2 q3 q4 => by rw [f3 p j q3 (by omega), f2 p j q1 q2 q3 q4, fJ1 p j q1 q2 q3 q4]) (fun j hj => by rw [f3 54 j (by omega) (by omega), s2 j hj, f1 54 j (by omega), s54 j hj]) (tk_C_c C2 (fun p j q => f3 p j (by omega) (by omega))) (by rw [g4]; exact tk_sm_d (tk_sm_t sm) k1) g2 (by rw [List.length_append]; show 2 * (x.2.length + 1) ≤ p'; omega) (by rw [List.length_append]; omega) d3 K0 K1
  refine rb_Reader_takesPart_0 (hsub _ I ts os p ho C sm ok b hs0 dc (fun f hf J f1 c1 => rb_Reader_takesPart_5 (rb_Reader_takesPart_8 (br_f (nI_ge (b := 400) (by omega) (by omega)) (br_t rfl ⟨Or.inl rfl, H0 f (sb_l hf) J f1 c1⟩)))) (fun x hx J f1 s1 C1 d1 => rb_Reader_takesPart_5 ?_))
  rw [sb_r hx] at H0 H1
  obtain ⟨seg, p', g1, g2, g3, ⟨k1, g4⟩, g5⟩ := hg _ _ _ _ ok hx
  have el : x.2.length = os.length + seg.length := by rw [g1, List.length_append]
  exact loop 400 0 x.1 x.2 J p' (by omega) f1 s1 C1 (by rw [g4]; exact tk_sm_d sm k1) g2 (by omega) (by omega) d1 H0 H1
theorem rs_R_test {k m : Nat} {sub : pr_S} (hk : k ≤ 8) (hc : c ≤ 12) (hg : pr_good N m sub) (hsub : cSp D n L T N s0 c 73 [some (.ref 54), some (.int (nI k)), none, none] sub) : cSp (D + 1) n L T N s0 c 72 [some (.ref 54), some (.int (nI k)), none, none] (pr_ch N 20 sub) := by
  intro Q I ts os p ho C sm ok b hs0 dc H0 H1
  unfold pr_ch at H0 H1
  have loop : ∀ f i (ts : List tk_T) (os : pr_O) (J : Nat → Nat → Int32) (p : Nat), i + f = 400 → fK (s0 + c) I J → (∀ j, j < 5 → J 54 j = I 54 j) → tk_C T N ts J → tk_sm ts → tk_ok N ts p → 2 * os.length ≤ p → s0 ≤ os.length → dC s0 c os J → (∀ fa, pr_lp N 20 sub f ts os = .inl fa → ∀ J, fK 0 I J → cF fa J → Q (some (.int (nI 0))) (br_hp n J L)) → (∀ y, pr_lp N 20 sub f ts os = .inr y → ∀ J, fK (s0 + c) I J → (∀ j, j < 5 → J 54 j = I 54 j) → tk_C T N y.1 J → dC s0 c y.2 J → Q (some (.int (nI 1))) (br_hp n J L)) →
      br_r (D + 1) 72 8 [some (.ref 54), some (.int (nI k)), some (.int (nI 1)), some (.int (nI i))] [] (br_hp n J L) Q := by
    intro f
    induction f with
    | zero =>
      intro i ts os J p hi fJ s54 C sm ok b hs0 dc K0 K1
      exact rb_Reader_takesTest_8 (br_t (nI_le (a := 400) (by omega) (by omega)) ⟨Or.inr rfl, K1 _ rfl J fJ s54 C dc⟩)
    | succ f ih =>
      intro i ts os J p hi fJ s54 C sm ok b hs0 dc K0 K1
      have hb := tk_sm_h sm C.2.2.1
      refine rb_Reader_takesTest_8 (br_f (nI_ge (b := 400) (by omega) (by omega)) (br_f br_10 ?_))
      rw [C.2.2.2.2.2.2.1, nI_eq (a := (tk_hd N ts).1) (b := 20) (by omega) (by omega)]
      refine ⟨fun e => ⟨Or.inr rfl, K1 _ (pr_lp_F e) J fJ s54 C dc⟩, fun e => ?_⟩
      have e' := Classical.not_not.mp e
      rw [pr_lp_T e'] at K0 K1
      obtain ⟨t, r, ets⟩ := tk_hd_c e' (by omega)
      have C' := C
      rw [ets] at C'
      have ok1 := tk_ok_tl ok e' (by omega)
      rw [if_pos (by omega)] at ok1
      refine rs_T_adv C' (fun J1 f1 C1 => rb_Reader_takesTest_38 ?_)
      have er : r = ts.tail := by rw [ets]; rfl
      rw [er] at C1
      have fc1 : fC J J1 := fun p j q1 q2 => f1 p j (by omega)
      have fJ1 := fK_t fJ (fC_K (s := s0 + c) fc1)
      refine hsub _ J1 ts.tail os (p + 2) (br_odx_K ho fJ1) C1 (tk_sm_t sm) ok1 (by omega) hs0 (dC_c dc fc1) (fun fa hf J2 f2 c2 => rb_Reader_takesTest_43 ?_) (fun x hx J2 f2 s2 C2 d2 => rb_Reader_takesTest_43 ?_)
      · obtain ⟨c3, z, hz, e62⟩ := c2
        refine rs_R_addF hz e62 (fun J3 f3 f4 c4 => rb_Reader_takesTest_54 ?_)
        have F := K0 fa (sb_l hf) J3 (fun p j q1 q2 q3 q4 => by
          by_cases e2 : p = 62
          · subst e2; rw [f4 j (by omega), f2 62 j (by omega) (by omega) (by omega) (by omega), fJ1 62 j (by omega) (by omega) (by omega) (by omega)]
          · rw [f3 p j e2 (by omega), f2 p j q1 q2 q3 (by omega), fJ1 p j q1 q2 q3 (by omega)]) ⟨⟨by rw [f3 54 3 (by omega) (by omega)]; exact c3.1, by rw [f3 54 4 (by omega) (by omega)]; exact c3.2⟩, c4⟩
        rw [nI_add]
        exact rb_Reader_takesTest_8 ⟨fun _ => ⟨Or.inl rfl, F⟩, fun _ => br_t rfl ⟨Or.inl rfl, F⟩⟩
      · rw [sb_r hx] at K0 K1
        obtain ⟨seg, p', g1, g2, g3, ⟨k1, g4⟩, g5⟩ := hg _ _ _ _ ok1 hx
        have hpN := tk_ok_N g2
        have hN := C.2.2.1
        have el : x.2.length = os.length + seg.length := by rw [g1, List.length_append]
        refine rs_R_add d2 (by omega) (by omega) (by omega) (fun J3 f3 d3 => rb_Reader_takesTest_54 ?_)
        rw [nI_add]
        refine ih (i + 1) x.1 (x.2 ++ [(20, 0)]) J3 p' (by omega) (fun p j q1 q2 q3 q4 => by rw [f3 p j q3 (by omega), f2 p j q1 q2 q3 q4, fJ1 p j q1 q2 q3 q4]) (fun j hj => by rw [f3 54 j (by omega) (by omega), s2 j hj, f1 54 j (by omega), s54 j hj]) (tk_C_c C2 (fun p j q => f3 p j (by omega) (by omega))) (by rw [g4]; exact tk_sm_d (tk_sm_t sm) k1) g2 (by rw [List.length_append]; show 2 * (x.2.length + 1) ≤ p'; omega) (by rw [List.length_append]; omega) d3 K0 K1
  refine rb_Reader_takesTest_0 (hsub _ I ts os p ho C sm ok b hs0 dc (fun f hf J f1 c1 => rb_Reader_takesTest_5 (rb_Reader_takesTest_8 (br_f (nI_ge (b := 400) (by omega) (by omega)) (br_t rfl ⟨Or.inl rfl, H0 f (sb_l hf) J f1 c1⟩)))) (fun x hx J f1 s1 C1 d1 => rb_Reader_takesTest_5 ?_))
  rw [sb_r hx] at H0 H1
  obtain ⟨seg, p', g1, g2, g3, ⟨k1, g4⟩, g5⟩ := hg _ _ _ _ ok hx
  have el : x.2.length = os.length + seg.length := by rw [g1, List.length_append]
  exact loop 400 0 x.1 x.2 J p' (by omega) f1 s1 C1 (by rw [g4]; exact tk_sm_d sm k1) g2 (by omega) (by omega) d1 H0 H1
theorem rs_R_leaf {k : Nat} (hk : k ≤ 8) (hc : c ≤ 12) {os : pr_O} {p : Nat} (ho : br_odx I) (C : tk_C T N ts I) (sm : tk_sm ts) (ok : tk_ok N ts p) (b : 2 * os.length ≤ p) (hs0 : s0 ≤ os.length) (dc : dC s0 c os I) (n45 : ¬ (tk_hd N ts).1 = 45) (n22 : ¬ (tk_hd N ts).1 = 22)
    (H0 : ∀ f, pr_leaf N ts os = .inl f → ∀ J, fK 0 I J → cF f J → Q (some (.int (nI 0))) (br_hp n J L))
    (H1 : ∀ y, pr_leaf N ts os = .inr y → ∀ J, fK (s0 + c) I J → (∀ j, j < 5 → J 54 j = I 54 j) → tk_C T N y.1 J → dC s0 c y.2 J → Q (some (.int (nI 1))) (br_hp n J L)) : br_r (d + 2) 74 0 [some (.ref 54), some (.int (nI k)), none, none, none] [] (br_hp n I L) Q := by
  have hb := tk_sm_h sm C.2.2.1
  have hN := C.2.2.1
  have hpN := tk_ok_N ok
  unfold pr_leaf at H0 H1
  have a9 := C.2.2.2.2.2.2.1
  generalize hw : (tk_hd N ts).1 = w at *
  have c22 : nI w = nI 22 ↔ w = 22 := nI_eq (by omega) (by omega)
  have c45 : nI w = nI 45 ↔ w = 45 := nI_eq (by omega) (by omega)
  have c11 : nI w = nI 11 ↔ w = 11 := nI_eq (by omega) (by omega)
  have c23 : nI w = nI 23 ↔ w = 23 := nI_eq (by omega) (by omega)
  have c25 : nI w = nI 25 ↔ w = 25 := nI_eq (by omega) (by omega)
  -- the fact stands: it is taken
  have go : ∀ (z3 z4 : Option Value), w = 23 ∨ pr_ask w = true → br_r (d + 1) 62 0 [some (.ref 55), none] [] (br_hp n I L) (fun v h => br_r (d + 2) 74 120 [some (.ref 54), some (.int (nI k)), some (.int (nI w)), z3, z4] (v.toList ++ []) (br_bk h) Q) := by
    intro z3 z4 hask
    have hne : w ≠ 42 := by
      rcases hask with h | h
      · omega
      · have := of_decide_eq_true h; omega
    obtain ⟨t, r, ets⟩ := tk_hd_c hw hne
    have C' := C
    rw [ets] at C'
    refine rs_T_adv C' (fun J1 f1 C1 => rb_Reader_takesFact_120 ?_)
    have er : r = ts.tail := by rw [ets]; rfl
    rw [er] at C1
    have fc1 : fC I J1 := fun p j q1 q2 => f1 p j (by omega)
    have s1 : ∀ j, j < 5 → J1 54 j = I 54 j := fun j hj => f1 54 j (by omega)
    have d1 := dC_c dc fc1
    have sm1 := tk_sm_t sm
    rw [c25, c11]
    by_cases h23 : w = 23
    · subst h23
      rw [if_pos rfl] at H1
      have m0 : J1 2 (23 - 11) = nI 0 := by rw [f1 2 _ (by omega), ho.1]; rfl
      refine br_t (by omega) (br_t (by omega) ?_)
      rw [pk_sub (by omega)]
      refine rs_at_in (l := 17) rfl (show 23 - 11 < 17 by omega) (by omega) ?_
      rw [m0]
      refine rb_Reader_takesFact_153 (br_t rfl (rb_Reader_takesFact_173 (br_f (fun z => z rfl) (rs_R_add d1 (by omega) (by omega) (by omega) (fun J2 f2 d2 => rb_Reader_takesFact_195 (H1 _ rfl J2 (fun p j q1 q2 q3 q4 => by rw [f2 p j q3 (by omega), fc1 p j q1 q2]) (fun j hj => by rw [f2 54 j (by omega) (by omega), s1 j hj]) (tk_C_c C1 (fun p j q => f2 p j (by omega) (by omega))) d2))))))
    · have hask' : pr_ask w = true := by
        rcases hask with h | h
        · exact absurd h h23
        · exact h
      have hw2 := of_decide_eq_true hask'
      rw [if_neg h23, if_pos hask'] at H0 H1
      have hhi : pr_hi w ≤ 200 := by unfold pr_hi; repeat' split
                                     all_goals omega
      have hlo : pr_lo w ≤ 1 := by unfold pr_lo; split <;> omega
      have num : ∀ z4 : Option Value, br_r (d + 2) 74 153 [some (.ref 54), some (.int (nI k)), some (.int (nI w)), some (.int (nI (pr_lo w))), z4] [.int (nI (pr_hi w))] (br_hp n J1 L) Q := by
        intro z4
        refine rb_Reader_takesFact_153 (br_f (by rw [c23]; exact h23) (rs_R_number (by omega) (by omega) C1 sm1 (fun f hf J2 f2 hfl => rb_Reader_takesFact_168 (br_f (fun z => z rfl) (H0 f (sb_l hf) J2 (fK_t (fC_K fc1) (fC_K f2)) (cF_c d1 f2 hfl (by omega))))) (fun x hx J2 f2 s2 C2 h54 => rb_Reader_takesFact_168 (br_t br_10 (rb_Reader_takesFact_173 (br_t (by rw [c23]; exact h23) ?_))))))
        rw [h54]
        have hbx := pt_n_b hx
        exact rs_R_add (dC_c d1 f2) (by omega) (by omega) (by omega) (fun J3 f3 d3 => rb_Reader_takesFact_195 (H1 _ (sb_r hx) J3 (fun p j q1 q2 q3 q4 => by rw [f3 p j q3 (by omega), f2 p j q1 q2, fc1 p j q1 q2]) (fun j hj => by rw [f3 54 j (by omega) (by omega), s2 j hj, s1 j hj]) (tk_C_c C2 (fun p j q => f3 p j (by omega) (by omega))) d3))
      have l25 : w = 25 → pr_lo w = 1 := fun h => if_pos h
      have l0 : ¬ w = 25 → pr_lo w = 0 := fun h => if_neg h
      have at_ : 24 ≤ w → ∀ z3 z4 : Option Value, z3 = some (.int (nI (pr_lo w))) → br_r (d + 1) 26 0 [some (.ref 2), some (.int (nI w - nI 11))] [] (br_hp n J1 L) (fun v h => br_r (d + 2) 74 153 [some (.ref 54), some (.int (nI k)), some (.int (nI w)), z3, z4] (v.toList ++ []) (br_bk h) Q) := by
        intro h24 z3 z4 e3
        rw [pk_sub (by omega)]
        refine rs_at_in (l := 17) rfl (show w - 11 < 17 by omega) (by omega) ?_
        have e2 : J1 2 (w - 11) = nI (pr_hi w) := by rw [f1 2 _ (by omega), ho.1, pr_most w (by omega) h24]
        rw [e2, e3]
        exact num z4
      refine ⟨fun h25 => ⟨fun h11 => at_ (by omega) _ _ (by rw [l0 h25]), fun h11 => ?_⟩, fun h25 => ⟨fun h11 => at_ (by omega) _ _ (by rw [l25 (Classical.not_not.mp h25)]), fun h11 => ?_⟩⟩
      · have h11' := Classical.not_not.mp h11
        have e20 : pr_hi w = 20 := if_pos h11'
        have := num z4
        rw [l0 h25, e20] at this
        exact this
      · have h25' := Classical.not_not.mp h25
        have h11' := Classical.not_not.mp h11
        omega
  have bad : ¬ w = 23 → ¬ pr_ask w = true → br_r (d + 1) 63 0 [some (.ref 54), some (.int (nI 2))] [] (br_hp n I L) (fun v h => br_r (d + 2) 74 112 [some (.ref 54), some (.int (nI k)), some (.int (nI w)), none, none] (v.toList ++ []) (br_bk h) Q) := by
    intro h23 hask
    rw [if_neg h23, if_neg hask] at H0
    have tf := rs_R_fails (d := d + 1) (n := n) (L := L) (k := 2) (Q := fun v h => br_r (d + 2) 74 112 [some (.ref 54), some (.int (nI k)), some (.int (nI w)), none, none] (v.toList ++ []) (br_bk h) Q) C sm (fun J f1 f2 => rb_Reader_takesFact_112 ⟨Or.inl rfl, H0 _ rfl J (fC_K f1) (cF_c dc f1 f2 (by omega))⟩)
    exact tf
  refine rb_Reader_takesFact_0 ?_
  rw [a9, c22, c45, c11]
  refine br_f n22 (br_t n45 ⟨fun h11 => go _ _ (Or.inr (decide_eq_true (Or.inl h11))), fun h11 => ?_⟩)
  by_cases hr : 23 ≤ w ∧ w ≤ 27
  · refine rs_out_F (by rw [nI_toInt (by omega), nI_toInt (by omega), nI_toInt (by omega)]; omega) (rb_Reader_takesFact_104 (br_t rfl (go _ _ ?_)))
    by_cases h23 : w = 23
    · exact Or.inl h23
    · exact Or.inr (decide_eq_true (Or.inr (by omega)))
  · refine rs_out_T (by rw [nI_toInt (by omega), nI_toInt (by omega), nI_toInt (by omega)]; omega) (rb_Reader_takesFact_104 (br_f br_10 (bad (by omega) (fun z => by have := of_decide_eq_true z; omega))))
theorem rs_R_fact (hc : c ≤ 12) : ∀ (k : Nat), k ≤ 8 → ∀ d, cSp (d + (3 * k + 2)) n L T N s0 c 74 [some (.ref 54), some (.int (nI (8 - k))), none, none, none] (pr_f N k)
  | 0, hk, d => by
    intro Q I ts os p ho C sm ok b hs0 dc H0 H1
    have hb := tk_sm_h sm C.2.2.1
    have hN := C.2.2.1
    have hpN := tk_ok_N ok
    have ef : pr_f N 0 ts os = (if (tk_hd N ts).1 = 45 ∨ (tk_hd N ts).1 = 22 then .inl (tk_fail 5 (tk_hd N ts)) else pr_leaf N ts os) := rfl
    rw [ef] at H0 H1
    by_cases h1 : (tk_hd N ts).1 = 45 ∨ (tk_hd N ts).1 = 22
    · rw [if_pos h1] at H0
      have deep : br_r (d + (3 * 0 + 2)) 74 20 [some (.ref 54), some (.int (nI (8 - 0))), some (.int (nI (tk_hd N ts).1)), none, none] [] (br_hp n I L) Q := rb_Reader_takesFact_20 (br_f (nI_nlt (by omega) (by omega)) (rs_R_fails C sm (fun J f1 f2 => rb_Reader_takesFact_31 ⟨Or.inl rfl, H0 _ rfl J (fC_K f1) (cF_c dc f1 f2 (by omega))⟩)))
      refine rb_Reader_takesFact_0 ?_
      rw [C.2.2.2.2.2.2.1, nI_eq (a := (tk_hd N ts).1) (b := 22) (by omega) (by omega), nI_eq (a := (tk_hd N ts).1) (b := 45) (by omega) (by omega)]
      refine ⟨fun _ => deep, fun q => br_f (fun z => z ?_) deep⟩
      omega
    · rw [if_neg h1] at H0 H1
      exact rs_R_leaf (by omega) hc ho C sm ok b hs0 dc (fun z => h1 (Or.inl z)) (fun z => h1 (Or.inr z)) H0 H1
  | k + 1, hk, d => by
    intro Q I ts os p ho C sm ok b hs0 dc H0 H1
    have hb := tk_sm_h sm C.2.2.1
    have hN := C.2.2.1
    have hpN := tk_ok_N ok
    have ef : pr_f N (k + 1) ts os = (if (tk_hd N ts).1 = 45 then sb (pr_ch N 20 (pr_ch N 21 (pr_f N k)) ts.tail os) (fun x => sb (pt_k 46 N x.1) (fun t => .inr (t, x.2))) else if (tk_hd N ts).1 = 22 then sb (pr_f N k ts.tail os) (fun x => .inr (x.1, x.2 ++ [(22, 0)])) else pr_leaf N ts os) := rfl
    rw [ef] at H0 H1
    have e8 : nI (8 - (k + 1)) + nI 1 = nI (8 - k) := by rw [nI_add]; congr 1; omega
    by_cases h1 : (tk_hd N ts).1 = 45 ∨ (tk_hd N ts).1 = 22
    · obtain ⟨t, r, ets⟩ := tk_hd_c (N := N) (ts := ts) rfl (by omega)
      have C' := C
      rw [ets] at C'
      have deep : br_r (d + (3 * (k + 1) + 2)) 74 20 [some (.ref 54), some (.int (nI (8 - (k + 1)))), some (.int (nI (tk_hd N ts).1)), none, none] [] (br_hp n I L) Q := by
        refine rb_Reader_takesFact_20 (br_t (nI_lt (b := 8) (by omega) (by omega)) (rs_T_adv C' (fun J1 f1 C1 => rb_Reader_takesFact_39 ?_)))
        have er : r = ts.tail := by rw [ets]; rfl
        rw [er] at C1
        have fc1 : fC I J1 := fun p j q1 q2 => f1 p j (by omega)
        have s1 : ∀ j, j < 5 → J1 54 j = I 54 j := fun j hj => f1 54 j (by omega)
        have fk1 := fC_K (s := s0 + c) fc1
        rw [e8, nI_eq (a := (tk_hd N ts).1) (b := 45) (by omega) (by omega)]
        refine ⟨fun h45 => ?_, fun h45 => ?_⟩
        · have h22 : (tk_hd N ts).1 = 22 := by omega
          rw [if_neg h45, if_pos h22] at H0 H1
          have ok1 := tk_ok_tl ok h22 (by omega)
          rw [if_pos (by omega)] at ok1
          have sp : cSp (d + (3 * k + 4)) n L T N s0 c 74 [some (.ref 54), some (.int (nI (8 - k))), none, none, none] (pr_f N k) := by
            have h0 := rs_R_fact hc k (by omega) (d + 2)
            rwa [show d + 2 + (3 * k + 2) = d + (3 * k + 4) by omega] at h0
          refine sp _ J1 ts.tail os (p + 2) (br_odx_K ho fk1) C1 (tk_sm_t sm) ok1 (by omega) hs0 (dC_c dc fc1) (fun fa hf J2 f2 c2 => rb_Reader_takesFact_77 ?_) (fun x hx J2 f2 s2 C2 d2 => rb_Reader_takesFact_77 ?_)
          · obtain ⟨c3, z, hz, e62⟩ := c2
            refine rs_R_addF hz e62 (fun J3 f3 f4 c4 => rb_Reader_takesFact_88 ⟨Or.inl rfl, H0 fa (sb_l hf) J3 (fun p j q1 q2 q3 q4 => ?_) ⟨⟨by rw [f3 54 3 (by omega) (by omega)]; exact c3.1, by rw [f3 54 4 (by omega) (by omega)]; exact c3.2⟩, c4⟩⟩)
            by_cases e2 : p = 62
            · subst e2; rw [f4 j (by omega), f2 62 j (by omega) (by omega) (by omega) (by omega), fc1 62 j (by omega) (by omega)]
            · rw [f3 p j e2 (by omega), f2 p j q1 q2 q3 (by omega), fc1 p j q1 q2]
          · obtain ⟨seg, p', g1, g2, g3, ⟨k1, g4⟩, g5⟩ := pr_f_good k _ _ _ _ ok1 hx
            have hpN2 := tk_ok_N g2
            have el : x.2.length = os.length + seg.length := by rw [g1, List.length_append]
            refine rs_R_add d2 (by omega) (by omega) (by omega) (fun J3 f3 d3 => rb_Reader_takesFact_88 ⟨Or.inr rfl, H1 _ (sb_r hx) J3 (fun p j q1 q2 q3 q4 => by rw [f3 p j q3 (by omega), f2 p j q1 q2 q3 q4, fc1 p j q1 q2]) (fun j hj => by rw [f3 54 j (by omega) (by omega), s2 j hj, s1 j hj]) (tk_C_c C2 (fun p j q => f3 p j (by omega) (by omega))) d3⟩)
        · have h45' := Classical.not_not.mp h45
          rw [if_pos h45'] at H0 H1
          have ok1 := tk_ok_tl ok h45' (by omega)
          rw [if_neg (by omega)] at ok1
          have sp := rs_R_test (D := d + (3 * k + 2) + 1) (by omega) hc (pr_ch_good (N := N) (op := 21) (Or.inr rfl) (by omega) (pr_f_good k)) (rs_R_part (by omega) hc (pr_f_good k) (rs_R_fact hc k (by omega) d))
          refine sp _ J1 ts.tail os (p + 1) (br_odx_K ho fk1) C1 (tk_sm_t sm) ok1 (by omega) hs0 (dC_c dc fc1) (fun fa hf J2 f2 c2 => rb_Reader_takesFact_52 (br_t rfl (H0 fa (sb_l hf) J2 (fK_t (fC_K fc1) f2) c2))) (fun x hx J2 f2 s2 C2 d2 => rb_Reader_takesFact_52 (br_f br_10 ?_))
          rw [sb_r hx] at H0 H1
          have g := pr_ch_good (N := N) (op := 20) (Or.inl rfl) (by omega) (pr_ch_good (N := N) (op := 21) (Or.inr rfl) (by omega) (pr_f_good (N := N) k))
          obtain ⟨seg, p', g1, g2, g3, ⟨k1, g4⟩, g5⟩ := g _ _ _ _ ok1 hx
          have hpN2 := tk_ok_N g2
          have el : x.2.length = os.length + seg.length := by rw [g1, List.length_append]
          have sm2 : tk_sm x.1 := by rw [g4]; exact tk_sm_d (tk_sm_t sm) k1
          refine rs_R_takes (d := d + (3 * k + 3)) (by omega) (by omega) C2 sm2 (fun fa hf J3 f3 hfl => rb_Reader_takesFact_61 (br_t rfl (H0 fa (sb_l hf) J3 (fK_t (fK_t (fC_K fc1) (fK_0 f2)) (fC_K f3)) (cF_c d2 f3 hfl (by omega))))) (fun t1 ht J3 f3 s3 C3 => rb_Reader_takesFact_61 (br_f br_10 (H1 _ (sb_r ht) J3 (fK_t (fK_t fk1 f2) (fC_K f3)) (fun j hj => by rw [s3 j hj, s2 j hj, s1 j hj]) C3 (dC_c d2 f3))))
      refine rb_Reader_takesFact_0 ?_
      rw [C.2.2.2.2.2.2.1, nI_eq (a := (tk_hd N ts).1) (b := 22) (by omega) (by omega), nI_eq (a := (tk_hd N ts).1) (b := 45) (by omega) (by omega)]
      refine ⟨fun _ => deep, fun q => br_f (fun z => z ?_) deep⟩
      omega
    · rw [if_neg (fun z => h1 (Or.inl z)), if_neg (fun z => h1 (Or.inr z))] at H0 H1
      exact rs_R_leaf (d := d + (3 * k + 3)) (by omega) hc ho C sm ok b hs0 dc (fun z => h1 (Or.inl z)) (fun z => h1 (Or.inr z)) H0 H1
end
