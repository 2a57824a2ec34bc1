set_option maxRecDepth 100000
set_option maxHeartbeats 4000000
/-! those of a room -/
def bs_r (r : Nat) (l : List bs_E) : List bs_E := l.filter (fun e => e.1 == r)
theorem bs_r_T {r : Nat} {l : List bs_E} {e : bs_E} (h : e.1 = r) : bs_r r (l ++ [e]) = bs_r r l ++ [e] := by
  unfold bs_r; rw [List.filter_append, List.filter_cons]; simp [h]
theorem bs_r_F {r : Nat} {l : List bs_E} {e : bs_E} (h : ¬ e.1 = r) : bs_r r (l ++ [e]) = bs_r r l := by
  unfold bs_r; rw [List.filter_append, List.filter_cons]; simp [h]
theorem bs_r_len {r : Nat} (l : List bs_E) : (bs_r r l).length ≤ l.length := List.length_filter_le _ _
def bs_t (l : List bs_E) : Int32 := l.foldl (fun s e => s + e.2.1) (nI 0)
theorem bs_t_s {l : List bs_E} {e : bs_E} : bs_t (l ++ [e]) = bs_t l + e.2.1 := by unfold bs_t; rw [List.foldl_append]; rfl
def bs_fm (f : Int32 → Int32 → Int32) : List bs_E → Int32
  | [] => nI 0
  | e :: t => t.foldl (fun m e => f m e.2.1) e.2.1
theorem bs_fm_0 {f : Int32 → Int32 → Int32} {e : bs_E} : bs_fm f ([] ++ [e]) = e.2.1 := rfl
theorem bs_fm_s {f : Int32 → Int32 → Int32} {l : List bs_E} {e : bs_E} (h : l ≠ []) : bs_fm f (l ++ [e]) = f (bs_fm f l) e.2.1 := by
  cases l with
  | nil => exact absurd rfl h
  | cons a t => show (t ++ [e]).foldl _ _ = _; rw [List.foldl_append]; rfl
theorem bs_n_le {w : Bool} (l : List bs_E) : bs_n w l ≤ l.length := by
  have := bs_n_sum l
  cases w <;> omega
def br_look (s : List bs_E) (J : Nat → Nat → Int32) : Prop := J 64 4 = nI s.length ∧ J 64 5 = nI (bs_n true s) ∧ J 64 6 = bs_t s ∧ (s ≠ [] → J 64 7 = bs_fm br_min s ∧ J 64 8 = bs_fm br_max s)
section
variable {d n : Nat} {Q : br_Q} {I : Nat → Nat → Int32} {L : Nat → Nat → Int64}
theorem rs_S_lookAt {l : List bs_E} {r : Nat} {z2 : Option Value} (hs : br_sam l I) (hr : r < 18) (hl : ∀ e, e ∈ l → e.1 < 18) (H : ∀ J : Nat → Nat → Int32, (∀ p j, ¬ (p = 64 ∧ 4 ≤ j ∧ j ≤ 8) → J p j = I p j) → br_look (bs_r r l) J → Q none (br_hp n J L)) :
    br_r (d + 1) 109 0 [some (.ref 64), some (.int (nI r)), z2] [] (br_hp n I L) Q := by
  obtain ⟨h1, h2, h3⟩ := hs
  have loop : ∀ k i (J : Nat → Nat → Int32), i + k = l.length → (∀ p j, ¬ (p = 64 ∧ 4 ≤ j ∧ j ≤ 8) → J p j = I p j) → br_look (bs_r r (l.take i)) J → br_r (d + 1) 109 17 [some (.ref 64), some (.int (nI r)), some (.int (nI i))] [] (br_hp n J L) Q := by
    intro k
    induction k with
    | zero =>
      intro i J hi hJ hk
      have : i = l.length := by omega
      subst this
      rw [List.take_length] at hk
      exact rb_Sample_lookAt_17 (br_t (by rw [hJ 64 3 (by omega), h2]; exact nI_le (Nat.le_refl _) (by omega)) (H J hJ hk))
    | succ k ih =>
      intro i J hi hJ hk
      obtain ⟨e, he⟩ := bs_get (l := l) (i := i) (by omega)
      obtain ⟨q1, q2, q3⟩ := h3 i e he
      have hem := hl e (List.mem_of_getElem? he)
      have ht := bs_take he
      have hlen := bs_r_len (r := r) (l.take i)
      rw [List.length_take] at hlen
      obtain ⟨k1, k2, k3, k4⟩ := hk
      refine rb_Sample_lookAt_17 (br_f (by rw [hJ 64 3 (by omega), h2]; exact nI_ge (by omega) (by omega)) ⟨vp_in_nI (by omega) (by omega), ?_⟩)
      rw [nI_clamp (by omega), hJ 65 i (by omega), q1, hJ 66 i (by omega), q2, k1, nI_eq (by omega) (by omega), nI_add]
      refine ⟨fun hr2 => ?_, fun hr2 => ?_⟩
      · have fin : ∀ (lo hi : Int32), (lo = bs_fm br_min (bs_r r (l.take i) ++ [e])) → (hi = bs_fm br_max (bs_r r (l.take i) ++ [e])) → br_r (d + 1) 109 101 [some (.ref 64), some (.int (nI r)), some (.int (nI i))] [.int hi, .ref 64] (br_hp n (br_u J 64 7 lo) L) Q := by
          intro lo hi' e1 e2
          have fr : ∀ p j, ¬ (p = 64 ∧ 4 ≤ j ∧ j ≤ 8) → br_u (br_u (br_u (br_u J 64 7 lo) 64 8 hi') 64 4 (nI ((bs_r r (l.take i)).length + 1))) 64 6 (bs_t (bs_r r (l.take i)) + e.2.1) p j = I p j := by
            intro p j hp
            rw [br_u_n (by omega), br_u_n (by omega), br_u_n (by omega), br_u_n (by omega), hJ p j hp]
          refine rb_Sample_lookAt_101 ?_
          simp (disch := omega) only [br_u_s, br_u_n, nI_clamp, k1, k2, k3, nI_add, hJ, q2, q3, bu_nI0]
          refine ⟨vp_in_nI (by omega) (by omega), vp_in_nI (by omega) (by omega), fun h5 => ?_, fun h5 => ?_⟩
          · refine ih (i + 1) _ (by omega) fr ?_
            rw [ht, bs_r_T hr2]
            refine ⟨?_, ?_, ?_, fun _ => ⟨?_, ?_⟩⟩
            · rw [br_u_n (by omega), br_u_s, List.length_append]; rfl
            · rw [br_u_n (by omega), br_u_n (by omega), br_u_n (by omega), br_u_n (by omega), k2, bs_n_F (by rw [h5]; exact fun z => by cases z)]
            · rw [br_u_s, bs_t_s]
            · rw [br_u_n (by omega), br_u_n (by omega), br_u_n (by omega), br_u_s]; exact e1
            · rw [br_u_n (by omega), br_u_n (by omega), br_u_s]; exact e2
          · rw [Bool.not_eq_false] at h5
            refine ih (i + 1) _ (by omega) (fun p j hp => by rw [br_u_n (by omega)]; exact fr p j hp) ?_
            rw [ht, bs_r_T hr2]
            refine ⟨?_, ?_, ?_, fun _ => ⟨?_, ?_⟩⟩
            · rw [br_u_n (by omega), br_u_n (by omega), br_u_s, List.length_append]; rfl
            · rw [br_u_s, bs_n_T h5]
            · rw [br_u_n (by omega), br_u_s, bs_t_s]
            · rw [br_u_n (by omega), br_u_n (by omega), br_u_n (by omega), br_u_n (by omega), br_u_s]; exact e1
            · rw [br_u_n (by omega), br_u_n (by omega), br_u_n (by omega), br_u_s]; exact e2
        by_cases h0 : bs_r r (l.take i) = []
        · have hz : nI (bs_r r (l.take i)).length = nI 0 := by rw [h0]; rfl
          refine br_f (fun z => z hz) ⟨vp_in_nI (by omega) (by omega), rb_Sample_lookAt_68 ?_⟩
          simp (disch := omega) only [br_u_n, k1, nI_clamp, hJ, q2]
          exact br_f (fun z => z hz) ⟨vp_in_nI (by omega) (by omega), fin _ _ (by rw [h0]; rfl) (by rw [h0]; rfl)⟩
        · have hz : ¬ nI (bs_r r (l.take i)).length = nI 0 := by
            rw [nI_eq (by omega) (by omega)]
            exact fun z => h0 (List.length_eq_zero_iff.mp z)
          obtain ⟨k5, k6⟩ := k4 h0
          rw [k5]
          refine br_t hz ⟨vp_in_nI (by omega) (by omega), rs_min (rb_Sample_lookAt_68 ?_)⟩
          simp (disch := omega) only [br_u_n, k1, nI_clamp, hJ, q2, k6]
          exact br_t hz ⟨vp_in_nI (by omega) (by omega), rs_max (fin _ _ (bs_fm_s h0).symm (bs_fm_s h0).symm)⟩
      · refine ih (i + 1) J (by omega) hJ ?_
        rw [ht, bs_r_F hr2]
        exact ⟨k1, k2, k3, k4⟩
  refine rb_Sample_lookAt_0 (loop l.length 0 _ (by omega) (fun p j hp => by rw [br_u_n (by omega), br_u_n (by omega), br_u_n (by omega)]) ?_)
  refine ⟨?_, ?_, ?_, fun h => absurd rfl h⟩
  · rw [br_u_n (by omega), br_u_n (by omega), br_u_s]; rfl
  · rw [br_u_n (by omega), br_u_s]; rfl
  · rw [br_u_s]; rfl
/-- how many, how many named, the sum in a room, as the model counts it -/
theorem rs_M_ofRoom {g : Nat → Int32} {N a b r w : Nat} {P : Nat → Bool} {z5 z6 : Option Value} (hr : br_rdm g N P I) (ha : a < 6) (hb : b < 6) (hr18 : r < 18) (hw : w ≤ 2) (hroom : ∀ c, c < N → ∃ r, r < 18 ∧ g (667 + c) = nI r)
    (H : Q (some (.int (if w = 0 then nI (bs_r r (bs_l P (bs_e g a b) N)).length else if w = 1 then nI (bs_n true (bs_r r (bs_l P (bs_e g a b) N))) else bs_t (bs_r r (bs_l P (bs_e g a b) N))))) (br_hp n I L)) :
    br_r (d + 2) 260 0 [some (.ref 169), some (.int (nI r)), some (.int (nI a)), some (.int (nI b)), some (.int (nI w)), z5, z6] [] (br_hp n I L) Q := by
  obtain ⟨hg, hN, h40, hP⟩ := hr
  have loop : ∀ k c, c + k = N → br_r (d + 2) 260 6 [some (.ref 169), some (.int (nI r)), some (.int (nI a)), some (.int (nI b)), some (.int (nI w)), some (.int (if w = 0 then nI (bs_r r (bs_l P (bs_e g a b) c)).length else if w = 1 then nI (bs_n true (bs_r r (bs_l P (bs_e g a b) c))) else bs_t (bs_r r (bs_l P (bs_e g a b) c)))), some (.int (nI c))] [] (br_hp n I L) Q := by
    intro k
    induction k with
    | zero =>
      intro c hc
      have : c = N := by omega
      subst this
      exact rb_M_ofRoom_6 (br_t (by rw [hg, hN]; exact nI_le (Nat.le_refl _) (by omega)) H)
    | succ k ih =>
      intro c hc
      have h5 := ih (c + 1) (by omega)
      have hp := hP c (by omega)
      rw [decide_eq_true (show c < N by omega), Bool.true_and] at hp
      obtain ⟨rm, hrm, erm⟩ := hroom c (by omega)
      have e1 : (bs_e g a b c).1 = rm := by show (g (667 + c)).toNatClampNeg = rm; rw [erm, nI_clamp (by omega)]
      refine rb_M_ofRoom_6 (br_f (by rw [hg, hN]; exact nI_ge (by omega) (by omega)) ⟨vp_in_nI (by omega) (by omega), ?_⟩)
      simp (disch := omega) only [nI_clamp, hp, bu_nI0, nI_add, hg, erm, nI_eq]
      refine ⟨fun h => ?_, fun h => ⟨vp_in_nI (by omega) (by omega), fun h2 => ?_, fun h2 => ?_⟩⟩
      · rw [bs_l_F h] at h5; exact h5
      · rw [Bool.not_eq_false] at h
        rw [bs_l_T h, bs_r_T (e1.trans h2)] at h5
        rcases (by omega : w = 0 ∨ w = 1 ∨ w = 2) with rfl | rfl | rfl
        · refine br_f (fun z => z rfl) (rb_M_ofRoom_89 ?_)
          rw [if_pos rfl, List.length_append] at h5
          rw [if_pos rfl]
          simp only [nI_add]
          exact h5
        · refine br_t (by decide +kernel) (br_f (fun z => z rfl) (rs_M_isNamed hg (by omega) (rb_M_ofRoom_70 ?_)))
          rw [bu_nI0]
          rw [if_neg (by decide), if_pos rfl] at h5 ⊢
          refine ⟨fun h6 => rb_M_ofRoom_89 ?_, fun h6 => rb_M_ofRoom_89 ?_⟩
          · have he : (bs_e g a b c).2.2 = false := h6
            rw [bs_n_F (by rw [he]; exact fun z => by cases z)] at h5
            simp only [nI_add, Nat.add_zero]; exact h5
          · rw [Bool.not_eq_false] at h6
            have he : (bs_e g a b c).2.2 = true := h6
            rw [bs_n_T he] at h5
            simp only [nI_add]; exact h5
        · refine br_t (by decide +kernel) (br_t (by decide +kernel) (rs_M_grewOf hg ha hb (by omega) (rb_M_ofRoom_89 ?_)))
          rw [if_neg (by decide), if_neg (by decide)] at h5 ⊢
          rw [bs_t_s] at h5
          rw [nI_add]; exact h5
      · rw [Bool.not_eq_false] at h
        rw [bs_l_T h, bs_r_F (by rw [e1]; exact h2)] at h5; exact h5
  have l0 := loop N 0 (by omega)
  refine rb_M_ofRoom_0 ?_
  rcases (by omega : w = 0 ∨ w = 1 ∨ w = 2) with rfl | rfl | rfl
  · exact l0
  · exact l0
  · exact l0
end
