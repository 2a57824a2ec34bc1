set_option maxRecDepth 100000
set_option maxHeartbeats 4000000
/-- all ways of the first row, and those that reach a sum -/
def bt_all (W : Nat → Int64) : Nat → Int64
  | 0 => lN 0
  | y + 1 => bt_all W y + W y
def bt_hi (W : Nat → Int64) (a : Int32) : Nat → Int64
  | 0 => lN 0
  | y + 1 => if nI y < a then bt_hi W a y else bt_hi W a y + W y
theorem bt_hi_T {W : Nat → Int64} {a : Int32} {y : Nat} (h : nI y < a) : bt_hi W a (y + 1) = bt_hi W a y := if_pos h
theorem bt_hi_F {W : Nat → Int64} {a : Int32} {y : Nat} (h : ¬ nI y < a) : bt_hi W a (y + 1) = bt_hi W a y + W y := if_neg h
/-- the least of a sample, below 400 -/
def bt_ml (l : List bs_E) : Int32 := l.foldl (fun m e => if m ≤ e.2.1 then m else e.2.1) (nI 400)
theorem bt_ml_T {l : List bs_E} {e : bs_E} (h : bt_ml l ≤ e.2.1) : bt_ml (l ++ [e]) = bt_ml l := by
  unfold bt_ml at h ⊢
  rw [List.foldl_append]
  exact if_pos h
theorem bt_ml_F {l : List bs_E} {e : bs_E} (h : ¬ bt_ml l ≤ e.2.1) : bt_ml (l ++ [e]) = e.2.1 := by
  unfold bt_ml at h ⊢
  rw [List.foldl_append]
  exact if_neg h
section
variable {d n : Nat} {Q : br_Q} {I J : Nat → Nat → Int32} {L : Nat → Nat → Int64} {W : Nat → Nat → Int64} {g : Nat → Int32}
theorem rs_M_tellsWays {s : Nat} {a : Int32} {z2 z3 z4 z5 z6 : Option Value} (hT : bt_T L W) (hs : s ≤ 16000) (e26 : I 169 26 = nI s) (hu : -9223372036854775808 < (bt_hi (W 0) a (s + 1)).toInt) (hl : 0 ≤ (bt_all (W 0) (s + 1)).toInt)
    (H : Q (some (.int (nI (decide (0 < (bt_all (W 0) (s + 1)).toInt)).toNat))) (br_hp n I (br_u (br_u L 169 19 (bf_u (bt_hi (W 0) a (s + 1)) (bt_all (W 0) (s + 1)))) 169 20 (bf_l (bt_hi (W 0) a (s + 1)) (bt_all (W 0) (s + 1)))))) :
    br_r (d + 2) 258 0 [some (.ref 169), some (.int a), z2, z3, z4, z5, z6] [] (br_hp n I L) Q := by
  have loop : ∀ m y, y + m = s + 1 → br_r (d + 2) 258 8 [some (.ref 169), some (.int a), some (.long (bt_hi (W 0) a y)), none, some (.long (bt_all (W 0) y)), none, some (.int (nI y))] [] (br_hp n I L) Q := by
    intro m
    induction m with
    | zero =>
      intro y hy
      have : y = s + 1 := by omega
      subst this
      exact rb_M_tellsWays_8 (br_t (by rw [e26]; exact nI_lt (by omega) (by omega)) (rs_M_tells hu hl (rb_M_tellsWays_62 H)))
    | succ m ih =>
      intro y hy
      have h1 := ih (y + 1) (by omega)
      have q := hT 0 y (by omega) (by omega)
      rw [Nat.mul_zero, Nat.zero_add] at q
      refine rb_M_tellsWays_8 (br_f (by rw [e26]; exact nI_nlt (by omega) (by omega)) ?_)
      rw [nI_clamp (by omega), q, nI_add, br_l0]
      refine ⟨vp_in_nI (by omega) (by omega), fun h => ?_, fun h => ⟨vp_in_nI (by omega) (by omega), ?_⟩⟩
      · rw [bt_hi_T h] at h1; exact h1
      · rw [bt_hi_F h] at h1; exact h1
  exact rb_M_tellsWays_0 (loop (s + 1) 0 (by omega))
theorem rs_M_leastGrew {N a b : Nat} {P : Nat → Bool} {z3 z4 : Option Value} (hr : br_rdm g N P J) (ha : a < 6) (hb : b < 6) (H : Q (some (.int (bt_ml (bs_l P (bs_e g a b) N)))) (br_hp n J L)) :
    br_r (d + 2) 254 0 [some (.ref 169), some (.int (nI a)), some (.int (nI b)), z3, z4] [] (br_hp n J L) Q := by
  obtain ⟨hg, hN, h40, hP⟩ := hr
  have loop : ∀ m c, c + m = N → br_r (d + 2) 254 7 [some (.ref 169), some (.int (nI a)), some (.int (nI b)), some (.int (bt_ml (bs_l P (bs_e g a b) c))), some (.int (nI c))] [] (br_hp n J L) Q := by
    intro m
    induction m with
    | zero =>
      intro c hc
      have : c = N := by omega
      subst this
      exact rb_M_leastGrew_7 (br_t (by rw [hg, hN]; exact nI_le (Nat.le_refl _) (by omega)) H)
    | succ m ih =>
      intro c hc
      have h1 := ih (c + 1) (by omega)
      have hp := hP c (by omega)
      rw [decide_eq_true (show c < N by omega), Bool.true_and] at hp
      refine rb_M_leastGrew_7 (br_f (by rw [hg, hN]; exact nI_ge (by omega) (by omega)) ⟨vp_in_nI (by omega) (by omega), ?_⟩)
      rw [nI_clamp (by omega), hp, nI_add]
      refine ⟨fun h => ?_, fun h => rs_M_grewOf hg ha hb (by omega) (rb_M_leastGrew_38 ⟨fun h2 => ?_, fun h2 => rs_M_grewOf hg ha hb (by omega) (rb_M_leastGrew_50 ?_)⟩)⟩
      · rw [bs_l_F (bd_b0 h)] at h1; exact h1
      · rw [bs_l_T (bd_b1 h), bt_ml_T h2] at h1
        rw [nI_add]; exact h1
      · rw [bs_l_T (bd_b1 h), bt_ml_F h2] at h1
        rw [nI_add]; exact h1
  exact rb_M_leastGrew_0 (loop N 0 (by omega))
end
