set_option maxRecDepth 100000
set_option maxHeartbeats 4000000
/-! room by room, by the model: all sets of bits -/
theorem ar_shl : ∀ n, n < 19 → (nI 1) <<< ((nI n) &&& 31) = nI (2 ^ n) := by decide +kernel
theorem ar_bits : ∀ r, r < 18 → (((nI r) &&& (31 : Int32)).toBitVec.smod 32).toNat = r := by decide +kernel
theorem ar_bit {s r : Nat} (hs : s < 2 ^ 31) (hr : r < 18) : (nI s >>> ((nI r) &&& 31)) &&& nI 1 = nI (ar_b s r) := by
  rw [pk_shrN hs _ r (ar_bits r hr), pk_andN (Nat.lt_of_le_of_lt (Nat.div_le_self _ _) (by omega)) 1 (by decide)]
  rfl
theorem ar_more {l : List bs_E} {R : Nat} (h : ∀ e, e ∈ l → e.1 < R) : ∀ k, ar_ls l (R + k) = ar_ls l R ∧ ar_k l (R + k) = ar_k l R ∧ ar_w l (R + k) = ar_w l R
  | 0 => ⟨rfl, rfl, rfl⟩
  | k + 1 => by
    obtain ⟨h1, h2, h3⟩ := ar_more h k
    have hn := bs_r_nil (l := l) (r := R + k) (fun e he => by have := h e he; omega)
    have hz : (bs_r (R + k) l).length = 0 := by rw [hn]; rfl
    have hf : ¬ ar_is (bs_r (R + k) l) = true := by rw [ar_is_0 hz]; exact Bool.false_ne_true
    refine ⟨?_, ?_, ?_⟩
    · rw [← h1]; exact if_pos hz
    · rw [← h2]; exact if_neg hf
    · rw [← h3]; exact if_neg hf
theorem ar_pc_le (s : Nat) : ∀ r, ar_pc s r ≤ r
  | 0 => Nat.le_refl 0
  | r + 1 => by
    have := ar_pc_le s r
    show ar_pc s r + s / 2 ^ r % 2 ≤ r + 1
    omega
theorem ar_sm_b {m : Nat → Int} {n : Nat} (hm : ∀ q, q < n → (m q).natAbs ≤ 8000000) (s : Nat) : ∀ r, r ≤ n → (ar_sm m s r).natAbs ≤ 8000000 * r
  | 0, _ => Nat.le_refl 0
  | r + 1, h => by
    have h1 := ar_sm_b hm s r (by omega)
    have h2 := hm r (by omega)
    show (ar_sm m s r + (if ar_b s r = 1 then m r else 0)).natAbs ≤ _
    by_cases h3 : ar_b s r = 1
    · rw [if_pos h3]; omega
    · rw [if_neg h3]; omega
section
variable {d n : Nat} {Q : br_Q} {I J : Nat → Nat → Int32} {L : Nat → Nat → Int64} {g : Nat → Int32}
theorem rs_M_rooms {N a b R : Nat} {P : Nat → Bool} {l : List bs_E} {z3 z4 z5 z6 z7 z8 z9 z10 z11 z12 z13 z14 z15 : Option Value} (hr : br_rdm g N P J) (ha : a < 6) (hb : b < 6) (hl : l = bs_l P (bs_e g a b) N) (eR : g 629 = nI R) (hR : R ≤ 18) (hroom : ∀ c, c < N → ∃ r, r < R ∧ g (667 + c) = nI r) (hb2 : br_b2 l)
    (H : ∀ (J' : Nat → Nat → Int32) (L' : Nat → Nat → Int64), (∀ p j, p ≠ 178 → J' p j = J p j) → (∀ q j, ¬ (q = 169 ∧ (j = 19 ∨ j = 20)) → L' q j = L q j) → L' 169 19 = ar_u l → L' 169 20 = ar_l l → Q (some (.int (br_b (ar_sp l)))) (br_hp n J' L')) :
    br_r (d + 3) 259 0 [some (.ref 169), some (.int (nI a)), some (.int (nI b)), z3, z4, z5, z6, z7, z8, z9, z10, z11, z12, z13, z14, z15] [] (br_hp n J L) Q := by
  obtain ⟨hg, hN, h40, hP⟩ := hr
  have hlen : l.length ≤ 40 := by rw [hl]; have := bs_l_len (P := P) (E := bs_e g a b) N; omega
  have h18 : ∀ c, c < N → ∃ r, r < 18 ∧ g (667 + c) = nI r := fun c hc => by
    obtain ⟨r, h1, h2⟩ := hroom c hc
    exact ⟨r, by omega, h2⟩
  have rooms : ∀ e, e ∈ l → e.1 < R := fun e he => by
    rw [hl] at he
    obtain ⟨c, h1, _, h3⟩ := bs_l_mem N he
    obtain ⟨r, h4, h5⟩ := hroom c h1
    rw [h3]
    show (g (667 + c)).toNatClampNeg < R
    rw [h5, nI_clamp (by omega)]; exact h4
  have more := ar_more rooms (18 - R)
  rw [show R + (18 - R) = 18 by omega] at more
  have hAB := ar_AB l
  have hls := ar_ls_len l 18
  have z0 : (lN 0).toInt = 0 := pk_lT (by omega)
  have loop : ∀ m r (J' : Nat → Nat → Int32) (x5 : Int64) (z8 z9 z10 z11 z12 z13 z14 z15 : Option Value), r + m = R → (∀ p j, p ≠ 178 → J' p j = J p j) → x5.toInt = ar_w l r → (∀ q x, (ar_ls l r)[q]? = some x → J' 178 q = x) →
      br_r (d + 3) 259 11 [some (.ref 169), some (.int (nI a)), some (.int (nI b)), some (.int (nI (ar_ls l r).length)), some (.int (nI (ar_k l r))), some (.long x5), none, some (.int (nI r)), z8, z9, z10, z11, z12, z13, z14, z15] [] (br_hp n J' L) Q := by
    intro m
    induction m with
    | zero =>
      intro r J' x5 z8 z9 z10 z11 z12 z13 z14 z15 hrm hJ hx hq
      have : r = R := by omega
      subst this
      have j171 : J' 171 = g := by rw [← hg]; funext j; exact hJ 171 j (by omega)
      rw [← more.1] at hq
      rw [← more.2.2] at hx
      rw [← more.1, ← more.2.1]
      generalize hnn : (ar_ls l 18).length = k at *
      have hw := ar_w_b hb2 hlen 18
      have no : ¬ ar_sp l → br_r (d + 2) 251 0 [some (.ref 169), some (.long (lN 0)), none, some (.long (lN 0)), none, none, none] [] (br_hp n J' L) (fun v h => br_r (d + 3) 259 150 [some (.ref 169), some (.int (nI a)), some (.int (nI b)), some (.int (nI k)), some (.int (nI (ar_k l 18))), some (.long x5), none, some (.int (nI r)), z8, z9, z10, z11, z12, z13, z14, z15] (v.toList ++ []) (br_bk h) Q) := by
        intro hns
        refine rs_M_tells (by rw [z0]; omega) (by rw [z0]; omega) (rb_M_tellsRooms_150 ?_)
        rw [decide_eq_false (by rw [z0]; omega), bf_uF (by rw [z0]; omega), bf_lF (by rw [z0]; omega)]
        have h9 := H J' (br_u (br_u L 169 19 (lN 0)) 169 20 (lN 0)) hJ (fun q j h1 => by rw [br_u_n (by omega), br_u_n (by omega)]) (by rw [br_u_n (by omega), br_u_s, ar_u_F hns]) (by rw [br_u_s, ar_l_F hns])
        rw [br_b_F hns] at h9
        exact h9
      refine rb_M_tellsRooms_11 (br_t (by rw [j171, eR]; exact nI_le (Nat.le_refl _) (by omega)) ?_)
      rw [nI_eq (by omega) (by omega), nI_eq (by omega) (by omega)]
      refine ⟨fun h => no (fun z => ?_), fun h => ⟨fun h2 => ?_, fun h2 => no (fun z => ?_)⟩⟩
      · have := z.1; omega
      · have hsp : ar_sp l := ⟨by omega, by rw [hnn]; omega⟩
        have hmq : ∀ q, q < k → (J' 178 q).toInt = ar_mq l q ∧ (ar_mq l q).natAbs ≤ 8000000 := fun q hq2 => by
          have hq2' : q < (ar_ls l 18).length := by omega
          have hg' : (ar_ls l 18)[q]? = some (ar_ls l 18)[q] := List.getElem?_eq_getElem hq2'
          have e := hq q _ hg'
          unfold ar_mq
          rw [hg', e]
          exact ⟨rfl, ar_ls_b hb2 hlen 18 _ (List.getElem_mem hq2')⟩
        have hp2 : 2 ^ k ≤ 2 ^ 18 := Nat.pow_le_pow_right (by omega) (by omega)
        have e18 : (2 : Nat) ^ 18 = 262144 := by decide
        have hcl : ∀ (p : Nat → Bool) s, bm_cnt p s ≤ s := fun p s => bm_cnt_le s
        have eA : bm_cnt (fun s => decide (ar_pc s k = ar_k l 18) && decide (ar_w l 18 ≤ ar_sm (ar_mq l) s k)) (2 ^ k) = ar_A l := by
          have := ar_cnt (ar_mq l) k (ar_k l 18) (fun x => decide (ar_w l 18 ≤ x))
          rw [this]
          unfold ar_A
          rw [hnn]
        have eB : bm_cnt (fun s => decide (ar_pc s k = ar_k l 18)) (2 ^ k) = ar_B l := by
          have h1 := ar_cnt (ar_mq l) k (ar_k l 18) (fun x => true)
          have h2 : bm_cnt (fun s => decide (ar_pc s k = ar_k l 18) && true) (2 ^ k) = bm_cnt (fun s => decide (ar_pc s k = ar_k l 18)) (2 ^ k) := bm_cnt_c _ (fun s _ => Bool.and_true _)
          rw [h2, List.countP_true, ar_si_len, ar_rl_len] at h1
          rw [h1]
          unfold ar_B
          rw [hnn]
        have bits : ∀ m s (z12 z13 z14 z15 : Option Value), s + m = 2 ^ k →
            br_r (d + 3) 259 160 [some (.ref 169), some (.int (nI a)), some (.int (nI b)), some (.int (nI k)), some (.int (nI (ar_k l 18))), some (.long x5), none, some (.long (lN (bm_cnt (fun s => decide (ar_pc s k = ar_k l 18)) s))), none, some (.long (lN (bm_cnt (fun s => decide (ar_pc s k = ar_k l 18) && decide (ar_w l 18 ≤ ar_sm (ar_mq l) s k)) s))), none, some (.int (nI s)), z12, z13, z14, z15] [] (br_hp n J' L) Q := by
          intro m
          induction m with
          | zero =>
            intro s z12 z13 z14 z15 hs
            have : s = 2 ^ k := by omega
            subst this
            refine rb_M_tellsRooms_160 (br_t (by rw [ar_shl k (by omega)]; exact nI_le (Nat.le_refl _) (by omega)) ?_)
            rw [eA, eB]
            have tB : (lN (ar_B l)).toInt = ar_B l := pk_lT (by omega)
            have hBp := hAB.2.2 hsp
            refine rs_M_tells (by rw [pk_lT (by omega)]; omega) (by rw [tB]; omega) (rb_M_tellsRooms_277 ?_)
            have h9 := H J' (br_u (br_u L 169 19 (bf_u (lN (ar_A l)) (lN (ar_B l)))) 169 20 (bf_l (lN (ar_A l)) (lN (ar_B l)))) hJ (fun q j h1 => by rw [br_u_n (by omega), br_u_n (by omega)]) (by rw [br_u_n (by omega), br_u_s, ar_u_T hsp]) (by rw [br_u_s, ar_l_T hsp])
            rw [br_b_T hsp] at h9
            rw [decide_eq_true (by rw [tB]; omega)]
            exact h9
          | succ m ihm =>
            intro s z12 z13 z14 z15 hs
            have nx := fun z12 z13 z14 z15 => ihm (s + 1) z12 z13 z14 z15 (by omega)
            refine rb_M_tellsRooms_160 (br_f (by rw [ar_shl k (by omega)]; exact nI_ge (by omega) (by omega)) ?_)
            have inner : ∀ m r (x13 : Int64), r + m = k → x13.toInt = ar_sm (ar_mq l) s r →
                br_r (d + 3) 259 177 [some (.ref 169), some (.int (nI a)), some (.int (nI b)), some (.int (nI k)), some (.int (nI (ar_k l 18))), some (.long x5), none, some (.long (lN (bm_cnt (fun s => decide (ar_pc s k = ar_k l 18)) s))), none, some (.long (lN (bm_cnt (fun s => decide (ar_pc s k = ar_k l 18) && decide (ar_w l 18 ≤ ar_sm (ar_mq l) s k)) s))), none, some (.int (nI s)), some (.int (nI (ar_pc s r))), some (.long x13), none, some (.int (nI r))] [] (br_hp n J' L) Q := by
              intro m
              induction m with
              | zero =>
                intro r x13 hrk hx13
                have : r = k := by omega
                subst this
                have hpl := ar_pc_le s r
                refine rb_M_tellsRooms_177 (br_t (nI_le (Nat.le_refl _) (by omega)) ?_)
                rw [nI_eq (a := ar_pc s r) (b := ar_k l 18) (by omega) (by omega), br_cmp0, Int64.lt_iff_toInt_lt, hx13, hx]
                simp only [nI_add, lN_add]
                refine ⟨fun h5 => ⟨fun h6 => ?_, fun h6 => ?_⟩, fun h5 => ?_⟩
                · rw [bm_cnt_T (decide_eq_true h5), bm_cnt_F (by rw [decide_eq_true h5, decide_eq_false (by omega)]; rfl)] at nx
                  exact nx _ _ _ _
                · rw [bm_cnt_T (decide_eq_true h5), bm_cnt_T (by rw [decide_eq_true h5, decide_eq_true (by omega)]; rfl)] at nx
                  exact nx _ _ _ _
                · rw [bm_cnt_F (decide_eq_false h5), bm_cnt_F (by rw [decide_eq_false h5]; rfl)] at nx
                  exact nx _ _ _ _
              | succ m ihr =>
                intro r x13 hrk hx13
                have hpl := ar_pc_le s r
                obtain ⟨m1, m2⟩ := hmq r (by omega)
                have sb := ar_sm_b (n := k) (fun q hq => (hmq q hq).2) s r (by omega)
                have hb1 : ar_b s r < 2 := Nat.mod_lt _ (by omega)
                refine rb_M_tellsRooms_177 (br_f (nI_ge (by omega) (by omega)) ?_)
                rw [ar_bit (by omega) (by omega), nI_eq (a := ar_b s r) (b := 1) (by omega) (by omega), nI_clamp (by omega), nI_add, nI_add]
                refine ⟨fun h5 => ihr (r + 1) _ (by omega) ?_, fun h5 => ⟨vp_in_nI (by omega) (by omega), ihr (r + 1) _ (by omega) ?_⟩⟩
                · show _ = ar_sm (ar_mq l) s r + (if ar_b s r = 1 then ar_mq l r else 0)
                  rw [if_neg h5, br_laddT (by rw [z0]; omega) (by rw [z0]; omega), z0, hx13]
                · have h5' : ar_b s r = 1 := Classical.not_not.mp h5
                  have e6 : (J' 178 r).toInt64.toInt = ar_mq l r := by rw [Int32.toInt_toInt64, m1]
                  show _ = ar_sm (ar_mq l) s r + (if ar_b s r = 1 then ar_mq l r else 0)
                  rw [if_pos h5', br_laddT (by rw [e6]; omega) (by rw [e6]; omega), e6, hx13]
            exact inner k 0 (lN 0) (by omega) z0
        exact bits (2 ^ k) 0 z12 z13 z14 z15 (by omega)
      · have := z.2; rw [hnn] at this; omega
    | succ m ih =>
      intro r J' x5 z8 z9 z10 z11 z12 z13 z14 z15 hrm hJ hx hq
      have j171 : J' 171 = g := by rw [← hg]; funext j; exact hJ 171 j (by omega)
      have hrd : ∀ J2 : Nat → Nat → Int32, (∀ p j, p ≠ 178 → J2 p j = J p j) → br_rdm g N P J2 := fun J2 h2 => ⟨by rw [← hg]; funext j; exact h2 171 j (by omega), hN, h40, fun q hq => by rw [h2 175 q (by omega)]; exact hP q hq⟩
      have hlr := bs_r_len (r := r) l
      have hnr := bs_n_le (w := true) (bs_r r l)
      have hlsr := ar_ls_len l r
      have hm := ar_m_b (r := r) hb2 hlen
      have hw := ar_w_b hb2 hlen r
      refine rb_M_tellsRooms_11 (br_f (by rw [j171, eR, nI_leI (by omega) (by omega)]; omega) (rs_M_ofRoom (w := 0) (hrd J' hJ) ha hb (by omega) (by omega) h18 (rb_M_tellsRooms_33 ?_)))
      rw [if_pos rfl, ← hl, nI_eq (a := (bs_r r l).length) (b := 0) (by omega) (by omega)]
      refine ⟨fun h => rs_M_ofRoom (w := 2) (hrd J' hJ) ha hb (by omega) (by omega) h18 (rb_M_tellsRooms_60 ⟨fun z => h ((nI_eq (b := 0) (by omega) (by omega)).mp z), vp_in_nI (by omega) (by omega), ?_⟩), fun h => ?_⟩
      · rw [if_neg (by decide), if_neg (by decide), ← hl, nI_clamp (by omega)]
        have em : nI 1000 * bs_t (bs_r r l) / nI (bs_r r l).length = ar_m (bs_r r l) := rfl
        rw [em]
        have fr3 : ∀ p j, p ≠ 178 → br_u J' 178 (ar_ls l r).length (ar_m (bs_r r l)) p j = J p j := fun p j hp => by rw [br_u_n (by omega)]; exact hJ p j hp
        have eL : ar_ls l (r + 1) = ar_ls l r ++ [ar_m (bs_r r l)] := if_neg h
        have eLn : (ar_ls l (r + 1)).length = (ar_ls l r).length + 1 := by rw [eL, List.length_append]; rfl
        have mem : ∀ q x, (ar_ls l (r + 1))[q]? = some x → br_u J' 178 (ar_ls l r).length (ar_m (bs_r r l)) 178 q = x := by
          intro q x h5
          rw [eL] at h5
          by_cases h6 : q < (ar_ls l r).length
          · rw [List.getElem?_append_left h6] at h5
            rw [br_u_n (by omega)]
            exact hq q x h5
          · have h7 : q < (ar_ls l r ++ [ar_m (bs_r r l)]).length := (List.getElem?_eq_some_iff.mp h5).1
            rw [List.length_append] at h7
            have l1 : [ar_m (bs_r r l)].length = 1 := rfl
            have h8 : q = (ar_ls l r).length := by omega
            subst h8
            rw [List.getElem?_append_right (Nat.le_refl _), Nat.sub_self] at h5
            rw [br_u_s]
            exact Option.some.inj h5
        refine rs_M_ofRoom (w := 1) (hrd _ fr3) ha hb (by omega) (by omega) h18 (rb_M_tellsRooms_75 ?_)
        rw [if_neg (by decide), if_pos rfl, ← hl, pk_mul, nI_leI (by omega) (by omega), nI_clamp (by omega), br_u_s]
        simp only [nI_add]
        refine ⟨fun h5 => ?_, fun h5 => ⟨vp_in_nI (by omega) (by omega), ?_⟩⟩
        · have hf : ¬ ar_is (bs_r r l) = true := by unfold ar_is; rw [decide_eq_true_eq]; omega
          have eK : ar_k l (r + 1) = ar_k l r := if_neg hf
          have eW : ar_w l (r + 1) = ar_w l r := if_neg hf
          have nx := fun z9 z10 => ih (r + 1) _ (x5 + lN 0) (some (.int (nI (bs_r r l).length))) z9 z10 z11 z12 z13 z14 z15 (by omega) fr3 (by rw [eW, br_laddT (by rw [z0]; omega) (by rw [z0]; omega), z0, hx, Int.add_zero]) mem
          rw [eLn, eK] at nx
          exact nx _ _
        · have hf : ar_is (bs_r r l) = true := by unfold ar_is; rw [decide_eq_true_eq]; omega
          have eK : ar_k l (r + 1) = ar_k l r + 1 := if_pos hf
          have eW : ar_w l (r + 1) = ar_w l r + (ar_m (bs_r r l)).toInt := if_pos hf
          have e6 : (ar_m (bs_r r l)).toInt64.toInt = (ar_m (bs_r r l)).toInt := Int32.toInt_toInt64 _
          have nx := fun z9 z10 => ih (r + 1) _ (x5 + (ar_m (bs_r r l)).toInt64) (some (.int (nI (bs_r r l).length))) z9 z10 z11 z12 z13 z14 z15 (by omega) fr3 (by rw [eW, br_laddT (by rw [e6]; omega) (by rw [e6]; omega), e6, hx]) mem
          rw [eLn, eK] at nx
          exact nx _ _
      · have h0 : (bs_r r l).length = 0 := Classical.not_not.mp h
        have eL : ar_ls l (r + 1) = ar_ls l r := if_pos h0
        have eK : ar_k l (r + 1) = ar_k l r := if_neg (by rw [ar_is_0 h0]; exact Bool.false_ne_true)
        have eW : ar_w l (r + 1) = ar_w l r := if_neg (by rw [ar_is_0 h0]; exact Bool.false_ne_true)
        have nx := fun z8 => ih (r + 1) J' x5 z8 z9 z10 z11 z12 z13 z14 z15 (by omega) hJ (by rw [eW]; exact hx) (fun q x h5 => by rw [eL] at h5; exact hq q x h5)
        rw [eL, eK] at nx
        rw [nI_add]; exact nx _
  refine rb_M_tellsRooms_0 (loop R 0 J (lN 0) z8 z9 z10 z11 z12 z13 z14 z15 (by omega) (fun _ _ _ => rfl) z0 (fun q x h => by cases h))
end
