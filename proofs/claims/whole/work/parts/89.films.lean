set_option maxRecDepth 100000
set_option maxHeartbeats 4000000
/-! films -/
theorem bf_lt {u l : Int64} (hl : 0 < l.toInt) (hu : -9223372036854775808 < u.toInt) : (bf_u u l).toInt = u.toInt.tdiv (bf_g u l) ∧ (bf_l u l).toInt = l.toInt.tdiv (bf_g u l) := by
  have gl := bf_g_lt (u := u) hl
  rw [bf_uT hl, bf_lT hl, br_ldivT hu, br_ldivT (by omega), pk_lT gl]
  exact ⟨rfl, rfl⟩
/-- what is reduced is a part of it -/
theorem bf_parts {u l : Int64} (hl : 0 < l.toInt) (hu : -9223372036854775808 < u.toInt) : ∃ k : Nat, 0 < k ∧ u.toInt = k * (bf_u u l).toInt ∧ l.toInt = k * (bf_l u l).toInt := by
  obtain ⟨e1, e2⟩ := bf_lt hl hu
  refine ⟨bf_g u l, bf_g_pos hl, ?_, ?_⟩
  · rw [e1, Int.mul_comm]; exact (Int.tdiv_mul_cancel (Int.ofNat_dvd_left.mpr (Nat.gcd_dvd_left _ _))).symm
  · have h : bf_g u l ∣ l.toInt.natAbs := by
      have := Nat.gcd_dvd_right u.toInt.natAbs l.toInt.toNat
      rw [show l.toInt.natAbs = l.toInt.toNat by omega]; exact this
    rw [e2, Int.mul_comm]; exact (Int.tdiv_mul_cancel (Int.ofNat_dvd_left.mpr h)).symm
/-- a fraction made bigger is reduced to the same -/
theorem bf_scale {u l u' l' : Int64} {k : Nat} (hk : 0 < k) (hl : 0 < l.toInt) (hu : -9223372036854775808 < u.toInt) (hu' : -9223372036854775808 < u'.toInt) (e1 : u'.toInt = k * u.toInt) (e2 : l'.toInt = k * l.toInt) : bf_u u' l' = bf_u u l ∧ bf_l u' l' = bf_l u l := by
  have hkI : (0 : Int) < (k : Int) := by omega
  have hl' : 0 < l'.toInt := by rw [e2]; exact Int.mul_pos hkI hl
  have eg : bf_g u' l' = k * bf_g u l := by
    show Nat.gcd _ _ = k * Nat.gcd _ _
    have h1 : l'.toInt.toNat = k * l.toInt.toNat := by
      have h2 : l.toInt = (l.toInt.toNat : Int) := by omega
      rw [e2, h2, ← Int.natCast_mul, Int.toNat_natCast, Int.toNat_natCast]
    rw [e1, h1, Int.natAbs_mul, Int.natAbs_natCast, Nat.gcd_mul_left]
  obtain ⟨a1, a2⟩ := bf_lt hl hu
  obtain ⟨b1, b2⟩ := bf_lt hl' hu'
  have c : ((k * bf_g u l : Nat) : Int) = (k : Int) * (bf_g u l : Int) := Int.natCast_mul _ _
  constructor
  · apply Int64.toInt_inj.mp
    rw [a1, b1, eg, c, e1]; exact Int.mul_tdiv_mul_of_pos _ _ hkI
  · apply Int64.toInt_inj.mp
    rw [a2, b2, eg, c, e2]; exact Int.mul_tdiv_mul_of_pos _ _ hkI
theorem sc4 {u k p l q : Int} : u * (k * q) + k * p * l = k * (u * q + p * l) := by grind
theorem sc5 {k l q : Int} : l * (k * q) = k * (l * q) := by grind
/-- the films of a way -/
def bw_P (g : Nat → Int32) (y : Nat) (k : Nat) : Bool := decide (g (1115 + k) = nI y)
def bw_E (g : Nat → Int32) (k : Nat) : bs_E := (0, g (1163 + k), decide (g (1139 + k) = nI 1))
section
variable {d n : Nat} {Q : br_Q} {I J : Nat → Nat → Int32} {L : Nat → Nat → Int64} {g : Nat → Int32} {F : Nat}
theorem bw_named {f : Nat → Nat → Int32} {g : Nat → Int32} (hW : br_cel 9 0 f g) {k : Nat} (hk : k < 24) : g (1139 + k) = nI (decide (g (1139 + k) = nI 1)).toNat := by
  have b := bb_fnamed hW (j := k) hk
  rw [Nat.zero_add] at b
  obtain ⟨y, ey, hy⟩ := br_nN b.1
  rw [ey]
  rcases (by omega : y = 0 ∨ y = 1) with rfl | rfl
  · rw [decide_eq_false (fun z => br_10 z.symm)]; rfl
  · rw [decide_eq_true rfl]; rfl
theorem bw_bl {f : Nat → Nat → Int32} {g : Nat → Int32} (hW : br_cel 9 0 f g) {y F : Nat} (hF : F ≤ 24) : br_bl (bs_l (bw_P g y) (bw_E g) F) := by
  intro e he
  obtain ⟨c, hc, hp, ee⟩ := bs_l_mem F he
  subst ee
  have b := bb_fseen hW (j := c) (by omega)
  rw [Nat.zero_add] at b
  show -400 ≤ (g (1163 + c)).toInt ∧ (g (1163 + c)).toInt ≤ 400
  omega
theorem rs_gatherF {y : Nat} {z3 : Option Value} (hW : br_cel 9 0 I (I 171)) (hF : F ≤ 24) (eF : I 171 1114 = nI F)
    (H : ∀ J : Nat → Nat → Int32, (∀ p, ¬ (64 ≤ p ∧ p ≤ 67) → J p = I p) → br_sam (bs_l (bw_P (I 171) y) (bw_E (I 171)) F) J → Q none (br_hp n J L)) :
    br_r (d + 1) 151 0 [some (.ref 31), some (.ref 64), some (.int (nI y)), z3] [] (br_hp n I L) Q := by
  have cF : I 31 3 = nI F := (bi_nfilms hW).trans eF
  have loop : ∀ m k (J : Nat → Nat → Int32), k + m = F → (∀ p, ¬ (64 ≤ p ∧ p ≤ 67) → J p = I p) → br_sam (bs_l (bw_P (I 171) y) (bw_E (I 171)) k) J →
      br_r (d + 1) 151 6 [some (.ref 31), some (.ref 64), some (.int (nI y)), some (.int (nI k))] [] (br_hp n J L) Q := by
    intro m
    induction m with
    | zero =>
      intro k J hk hJ hs
      have : k = F := by omega
      subst this
      exact rb_Films_gather_6 (br_t (by rw [hJ 31 (by omega), cF]; exact nI_le (Nat.le_refl _) (by omega)) (H J hJ hs))
    | succ m ih =>
      intro k J hk hJ hs
      have h1 := ih (k + 1)
      have e32 : J 32 k = I 171 (1115 + k) := by rw [hJ 32 (by omega)]; exact bi_fway hW (by omega)
      have e33 : J 33 k = I 171 (1139 + k) := by rw [hJ 33 (by omega)]; exact bi_fnamed hW (by omega)
      have e34 : J 34 k = I 171 (1163 + k) := by rw [hJ 34 (by omega)]; exact bi_fseen hW (by omega)
      have hll := bs_l_len (P := bw_P (I 171) y) (E := bw_E (I 171)) k
      refine rb_Films_gather_6 (br_f (by rw [hJ 31 (by omega), cF]; exact nI_ge (by omega) (by omega)) ?_)
      rw [nI_clamp (by omega), e32, e33, e34]
      refine ⟨vp_in_nI (by omega) (by omega), fun h => rb_Films_gather_41 ?_, fun h => ⟨vp_in_nI (by omega) (by omega), vp_in_nI (by omega) (by omega), ?_⟩⟩
      · rw [nI_add]
        exact h1 J (by omega) hJ (by rw [bs_l_F (decide_eq_false h)]; exact hs)
      · have hp : bw_P (I 171) y k = true := decide_eq_true (Classical.not_not.mp h)
        rw [bw_named hW (show k < 24 by omega)]
        refine rs_S_add (e := bw_E (I 171) k) hs (by omega) (fun J' q1 q2 => rb_Films_gather_41 ?_)
        rw [nI_add]
        exact h1 J' (by omega) (fun p hp => by rw [q1 p hp, hJ p hp]) (by rw [bs_l_T hp]; exact q2)
  exact rb_Films_gather_0 (rs_S_clear (fun J hJ hs => rb_Films_gather_4 (loop F 0 J (by omega) hJ hs)))
theorem rs_M_filmed {y : Nat} {w b : Bool} {f : Nat → Nat → Int32} {z4 z5 z6 : Option Value} (hg : J 171 = g) (hW : br_cel 9 0 f g) (hF : F ≤ 24) (eF : g 1114 = nI F)
    (H : Q (some (.long (if b = true then bs_s w (bs_l (bw_P g y) (bw_E g) F) else lN (bs_n w (bs_l (bw_P g y) (bw_E g) F))))) (br_hp n J L)) :
    br_r d 271 0 [some (.ref 169), some (.int (nI y)), some (.int (nI w.toNat)), some (.int (nI b.toNat)), z4, z5, z6] [] (br_hp n J L) Q := by
  have loop : ∀ m k, k + m = F → br_r d 271 6 [some (.ref 169), some (.int (nI y)), some (.int (nI w.toNat)), some (.int (nI b.toNat)), some (.long (if b = true then bs_s w (bs_l (bw_P g y) (bw_E g) k) else lN (bs_n w (bs_l (bw_P g y) (bw_E g) k)))), none, some (.int (nI k))] [] (br_hp n J L) Q := by
    intro m
    induction m with
    | zero =>
      intro k hk
      have : k = F := by omega
      subst this
      exact rb_M_filmed_6 (br_t (by rw [hg, eF]; exact nI_le (Nat.le_refl _) (by omega)) H)
    | succ m ih =>
      intro k hk
      have h1 := ih (k + 1) (by omega)
      have en := bw_named hW (show k < 24 by omega)
      refine rb_M_filmed_6 (br_f (by rw [hg, eF]; exact nI_ge (by omega) (by omega)) ?_)
      rw [nI_add, nI_add, nI_add, nI_add, nI_clamp (by omega), nI_clamp (by omega), nI_clamp (by omega), hg]
      refine ⟨vp_in_nI (by omega) (by omega), fun h => ?_, fun h => ⟨vp_in_nI (by omega) (by omega), fun h2 => ?_, fun h2 => ?_⟩⟩
      · rw [bs_l_F (decide_eq_false h)] at h1; exact h1
      · have hp : bw_P g y k = true := decide_eq_true (Classical.not_not.mp h)
        have hw : ¬ (bw_E g k).2.2 = w := fun z => h2 (by rw [en]; exact congrArg (fun b : Bool => nI b.toNat) z)
        rw [bs_l_T hp, bs_s_F hw, bs_n_F hw] at h1; exact h1
      · have hp : bw_P g y k = true := decide_eq_true (Classical.not_not.mp h)
        have h3 := Classical.not_not.mp h2
        have hw : (bw_E g k).2.2 = w := by
          show decide (g (1139 + k) = nI 1) = w
          rw [h3]
          cases w
          · exact decide_eq_false (fun z => br_10 z.symm)
          · exact decide_eq_true rfl
        rw [bs_l_T hp, bs_s_T hw, bs_n_T hw] at h1
        cases b with
        | false =>
          refine ⟨fun _ => ?_, fun z => absurd rfl z⟩
          rw [if_neg Bool.false_ne_true] at h1 ⊢
          rw [lN_add]; exact h1
        | true =>
          refine ⟨fun z => absurd z br_10, fun _ => ⟨vp_in_nI (by omega) (by omega), ?_⟩⟩
          rw [if_pos rfl] at h1 ⊢
          exact h1
  have l0 := loop F 0 (by omega)
  have e0 : (if b = true then bs_s w (bs_l (bw_P g y) (bw_E g) 0) else lN (bs_n w (bs_l (bw_P g y) (bw_E g) 0))) = lN 0 := by cases b <;> rfl
  rw [e0] at l0
  exact rb_M_filmed_0 l0
def bw_U (g : Nat → Int32) (F y : Nat) : Int64 := bs_U (bs_l (bw_P g y) (bw_E g) F)
def bw_V (g : Nat → Int32) (F y : Nat) : Int64 := bs_V (bs_l (bw_P g y) (bw_E g) F)
theorem bw_UV {f : Nat → Nat → Int32} {g : Nat → Int32} (hW : br_cel 9 0 f g) {y F : Nat} (hF : F ≤ 24) : (bw_U g F y).toInt.natAbs ≤ 1280000 ∧ 0 ≤ (bw_V g F y).toInt ∧ (bw_V g F y).toInt ≤ 576 := by
  have hl := bs_l_len (P := bw_P g y) (E := bw_E g) F
  have hn := bs_n_sum (bs_l (bw_P g y) (bw_E g) F)
  have hV := (bs_V_T (l := bs_l (bw_P g y) (bw_E g) F) (by omega)).1
  have hU := (bs_U_T (bw_bl hW (y := y) hF) (show (bs_l (bw_P g y) (bw_E g) F).length ≤ 40 by omega)).2
  have hm : bs_n true (bs_l (bw_P g y) (bw_E g) F) * bs_n false (bs_l (bw_P g y) (bw_E g) F) ≤ 24 * 24 := Nat.mul_le_mul (by omega) (by omega)
  unfold bw_U bw_V
  rw [hV]
  exact ⟨hU, by omega, by omega⟩
theorem rs_M_tellsHair {y : Nat} {f : Nat → Nat → Int32} (hg : J 171 = g) (hW : br_cel 9 0 f g) (hF : F ≤ 24) (eF : g 1114 = nI F)
    (H : Q (some (.int (nI (decide (0 < (bw_V g F y).toInt)).toNat))) (br_hp n J (br_u (br_u L 169 19 (bf_u (bw_U g F y) (bw_V g F y))) 169 20 (bf_l (bw_U g F y) (bw_V g F y))))) :
    br_r (d + 3) 270 0 [some (.ref 169), some (.int (nI y))] [] (br_hp n J L) Q := by
  have hb := bw_UV hW (y := y) hF
  refine rb_M_tellsHair_0 (rs_M_filmed (w := true) (b := true) hg hW hF eF (rb_M_tellsHair_8 (rs_M_filmed (w := true) (b := false) hg hW hF eF (rb_M_tellsHair_15 (rs_M_filmed (w := false) (b := true) hg hW hF eF (rb_M_tellsHair_22 (rs_M_filmed (w := false) (b := false) hg hW hF eF (rb_M_tellsHair_29 (rb_M_tellsMeans_0 ?_)))))))))
  exact rs_M_tells (u := bw_U g F y) (l := bw_V g F y) (by omega) hb.2.1 (rb_M_tellsMeans_17 (rb_M_tellsHair_32 H))
end
