set_option maxRecDepth 100000
set_option maxHeartbeats 4000000
section
variable {d n : Nat} {Q : br_Q} {I : Nat → Nat → Int32} {L : Nat → Nat → Int64}
theorem bu_nI (b : Bool) : nI b.toNat = nI 0 ∨ nI b.toNat = nI 1 := by cases b; exact Or.inl rfl; exact Or.inr rfl
theorem bu_nI0 {b : Bool} : nI b.toNat = nI 0 ↔ b = false := by
  cases b
  · exact ⟨fun _ => rfl, fun _ => rfl⟩
  · exact ⟨fun h => absurd h br_10, fun h => by cases h⟩
theorem bu_nI1 {b : Bool} : nI b.toNat = nI 1 ↔ b = true := by
  cases b
  · exact ⟨fun h => absurd h.symm br_10, fun h => by cases h⟩
  · exact ⟨fun _ => rfl, fun _ => rfl⟩
theorem bu_dT {p : Prop} [Decidable p] (h : p) : nI (decide p).toNat = nI 1 := by rw [decide_eq_true h]; rfl
theorem bu_dF {p : Prop} [Decidable p] (h : ¬ p) : nI (decide p).toNat = nI 0 := by rw [decide_eq_false h]; rfl
theorem rs_push (b : Bool) {s : List Bool} (h : s.length ≤ 30) {x : Int32} (hx : x = nI b.toNat) (H : Q (some (.int (nI (bu_v (b :: s))))) (br_hp n I L)) : br_r d 101 0 [some (.int (nI (bu_v s))), some (.int x)] [] (br_hp n I L) Q := by
  subst hx
  refine rb_Rules_push_0 ⟨fun h2 => ?_, fun h2 => ?_⟩
  · rw [bu_nI0] at h2
    subst h2
    have := bu_push h false
    rw [← this] at H; exact H
  · have h3 : b = true := by
      cases b
      · exact absurd rfl h2
      · rfl
    subst h3
    have := bu_push h true
    rw [← this] at H; exact H
/-- one step of the class -/
theorem rs_anyStep {wd rm gr wk pt : Int32} {k v i a b S : Nat} {s : List Bool} (hk : br_hs k a b) (hs : s.length = a) (ha : a ≤ 30) (hv : v ≤ 200) (hi : i < S) (hS : S ≤ 400) (hsz : I 29 1 = nI S) (hc : I 30 i = nI (256 * k + v))
    (H : ∀ z8 z9 : Option Value, br_r (d + 1) 100 6 [some (.ref 29), some (.int (nI (decide (nI 1 < wd)).toNat)), some (.int rm), some (.int gr), some (.int wk), some (.int pt), some (.int (nI (bu_v (bu_st (bu_F wd rm gr wk pt) k v s)))), some (.int (nI (i + 1))), z8, z9] [] (br_hp n I L) Q) (z8 z9 : Option Value) :
    br_r (d + 1) 100 6 [some (.ref 29), some (.int (nI (decide (nI 1 < wd)).toNat)), some (.int rm), some (.int gr), some (.int wk), some (.int pt), some (.int (nI (bu_v s))), some (.int (nI i)), z8, z9] [] (br_hp n I L) Q := by
  have hk30 : k < 30 := by unfold br_hs at hk; omega
  have e1 : nI (256 * k + v) >>> (nI 8 &&& 31) = nI k := by
    rw [pk_shrN (by omega) (nI 8 &&& 31) 8 (by decide +kernel)]
    congr 1; omega
  have e2 : nI (256 * k + v) &&& nI 255 = nI v := by
    rw [pk_andN (by omega) (m := nI 255) 8 (by decide +kernel)]
    congr 1; omega
  have hl : s.length ≤ 30 := by omega
  refine rb_Rules_isAnyTrue_6 ⟨rfl, br_f (by rw [hsz]; exact nI_ge hi (by omega)) ⟨rfl, rfl, br_f (nI_ge (b := 400) (by omega) (by omega)) ⟨rfl, rfl, vp_in_nI (n := i) (N := 400) (by omega) (by omega), rfl, rfl, vp_in_nI (n := i) (N := 400) (by omega) (by omega), ?_⟩⟩⟩
  have e3 : br_R0 29 0 = 30 := rfl
  simp only [e3, nI_clamp (show i < 2 ^ 31 by omega), hc, e1, e2]
  rcases hk with ⟨rfl, h1, h2⟩ | ⟨h0, h1, h2⟩ | ⟨h0, h1⟩
  · cases s with
    | nil => simp at hs; omega
    | cons x t =>
      have e : bu_st (bu_F wd rm gr wk pt) 22 v (x :: t) = (!x) :: t := rfl
      rw [e] at H
      repeat (first | refine br_t rfl ?_ | refine br_f (by decide +kernel) ?_)
      refine rb_Rules_isAnyTrue_148 ?_
      rw [bu_not, nI_add]
      exact H _ _
  · match s, hs with
    | [], hs => simp at hs; omega
    | [_], hs => simp at hs; omega
    | x :: y :: t, hs =>
      have sh : ((nI (bu_v (x :: y :: t))).toUInt32 >>> ((nI 1).toUInt32 &&& Int32.toUInt32 31)).toInt32 = nI (bu_v (x :: y :: t) / 2 ^ 1) := pk_ushrN (by have := bu_v_31 hl; omega) (nI 1) 1 (by decide +kernel)
      rcases h0 with rfl | rfl
      · have e : bu_st (bu_F wd rm gr wk pt) 20 v (x :: y :: t) = (x || y) :: t := rfl
        rw [e] at H
        repeat (first | refine br_t rfl ?_ | refine br_f (by decide +kernel) ?_)
        refine rb_Rules_isAnyTrue_178 ?_
        rw [sh, bu_or (bu_v (x :: y :: t)), bu_two (fun a b => a ||| b) (fun a b => a || b) (fun a b i => Nat.testBit_or a b i) hl, nI_add]
        exact H _ _
      · have e : bu_st (bu_F wd rm gr wk pt) 21 v (x :: y :: t) = (x && y) :: t := rfl
        rw [e] at H
        repeat (first | refine br_t rfl ?_ | refine br_f (by decide +kernel) ?_)
        refine rb_Rules_isAnyTrue_157 ?_
        rw [sh, bu_and (bu_v (x :: y :: t)), bu_two (fun a b => a &&& b) (fun a b => a && b) (fun a b i => Nat.testBit_and a b i) hl, nI_add]
        exact H _ _
  · rcases h0 with rfl | rfl | rfl | rfl | rfl | rfl
    · have e : bu_st (bu_F wd rm gr wk pt) 23 v s = decide (nI 1 < wd) :: s := rfl
      rw [e] at H
      repeat (first | refine br_t rfl ?_ | refine br_f (by decide +kernel) ?_)
      refine rb_Rules_isAnyTrue_199 (rs_push _ hl rfl (rb_Rules_isAnyTrue_205 ?_))
      rw [nI_add]
      exact H _ _
    · have e : bu_st (bu_F wd rm gr wk pt) 24 v s = decide (rm = nI v) :: s := rfl
      rw [e] at H
      repeat (first | refine br_t rfl ?_ | refine br_f (by decide +kernel) ?_)
      refine rb_Rules_isAnyTrue_210 ⟨fun h => rs_push (decide (rm = nI v)) hl (bu_dF h).symm (rb_Rules_isAnyTrue_226 ?_), fun h => rs_push (decide (rm = nI v)) hl (bu_dT (Classical.not_not.mp h)).symm (rb_Rules_isAnyTrue_226 ?_)⟩
      · rw [nI_add]; exact H _ _
      · rw [nI_add]; exact H _ _
    · have e : bu_st (bu_F wd rm gr wk pt) 25 v s = decide (gr = nI v) :: s := rfl
      rw [e] at H
      repeat (first | refine br_t rfl ?_ | refine br_f (by decide +kernel) ?_)
      refine rb_Rules_isAnyTrue_231 ⟨fun h => rs_push (decide (gr = nI v)) hl (bu_dF h).symm (rb_Rules_isAnyTrue_247 ?_), fun h => rs_push (decide (gr = nI v)) hl (bu_dT (Classical.not_not.mp h)).symm (rb_Rules_isAnyTrue_247 ?_)⟩
      · rw [nI_add]; exact H _ _
      · rw [nI_add]; exact H _ _
    · have e : bu_st (bu_F wd rm gr wk pt) 11 v s = decide (nI v ≤ wk) :: s := rfl
      rw [e] at H
      repeat (first | refine br_t rfl ?_ | refine br_f (by decide +kernel) ?_)
      refine rb_Rules_isAnyTrue_252 ⟨fun h => rs_push (decide (nI v ≤ wk)) hl (bu_dF (by rw [br_leT]; rw [br_ltT] at h; omega)).symm (rb_Rules_isAnyTrue_269 ?_), fun h => rs_push (decide (nI v ≤ wk)) hl (bu_dT (by rw [br_leT]; rw [br_ltT] at h; omega)).symm (rb_Rules_isAnyTrue_269 ?_)⟩
      · rw [nI_add]; exact H _ _
      · rw [nI_add]; exact H _ _
    · have e : bu_st (bu_F wd rm gr wk pt) 26 v s = decide (pt < nI v) :: s := rfl
      rw [e] at H
      repeat (first | refine br_t rfl ?_ | refine br_f (by decide +kernel) ?_)
      refine rb_Rules_isAnyTrue_274 ⟨fun h => rs_push (decide (pt < nI v)) hl (bu_dF (by rw [br_ltT]; rw [br_leT] at h; omega)).symm (rb_Rules_isAnyTrue_291 ?_), fun h => rs_push (decide (pt < nI v)) hl (bu_dT (by rw [br_ltT]; rw [br_leT] at h; omega)).symm (rb_Rules_isAnyTrue_291 ?_)⟩
      · rw [nI_add]; exact H _ _
      · rw [nI_add]; exact H _ _
    · have e : bu_st (bu_F wd rm gr wk pt) 27 v s = decide (nI v < pt) :: s := rfl
      rw [e] at H
      repeat (first | refine br_t rfl ?_ | refine br_f (by decide +kernel) ?_)
      refine rb_Rules_isAnyTrue_296 ⟨fun h => rs_push (decide (nI v < pt)) hl (bu_dF (by rw [br_ltT]; rw [br_leT] at h; omega)).symm (rb_Rules_isAnyTrue_313 ?_), fun h => rs_push (decide (nI v < pt)) hl (bu_dT (by rw [br_ltT]; rw [br_leT] at h; omega)).symm (rb_Rules_isAnyTrue_313 ?_)⟩
      · rw [nI_add]; exact H _ _
      · rw [nI_add]; exact H _ _
end
