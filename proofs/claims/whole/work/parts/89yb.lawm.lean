set_option maxRecDepth 100000
set_option maxHeartbeats 4000000
/-! the model reads a law -/
theorem sb_i {α β : Type} {a : α} {k : α → Sum pt_F β} : sb (.inr a) k = k a := rfl
theorem tk_inj : ∀ k, k < 48 → ∀ j, j < 48 → (k < 28 ∨ 40 ≤ k) → (j < 28 ∨ 40 ≤ j) → (tk_k k = tk_k j ↔ k = j) := by decide +kernel
theorem tk_k35 : ∀ k, k < 48 → tk_k k < 36 := by decide +kernel
def tk_vd (ts : List tk_T) : Prop := ∀ t, t ∈ ts → t.1 < 28 ∨ 40 ≤ t.1 ∧ t.1 ≤ 47 ∧ t.1 ≠ 42
theorem tk_vd_t {ts : List tk_T} (h : tk_vd ts) : tk_vd ts.tail := fun t ht => h t (List.mem_of_mem_tail ht)
theorem tk_vd_h {ts : List tk_T} {N : Nat} (h : tk_vd ts) : (tk_hd N ts).1 < 28 ∨ 40 ≤ (tk_hd N ts).1 ∧ (tk_hd N ts).1 ≤ 47 := by
  cases ts with
  | nil => right; show 40 ≤ 42 ∧ 42 ≤ 47; omega
  | cons t r =>
    rcases h t List.mem_cons_self with h | h
    · exact Or.inl h
    · exact Or.inr ⟨h.1, h.2.1⟩
theorem tk_ok_vd {n : Nat} : ∀ {ts : List tk_T} {p : Nat}, tk_ok n ts p → tk_vd ts
  | [], _, _ => fun t ht => by cases ht
  | t :: ts, p, h => fun u hu => by
    rcases List.mem_cons.mp hu with e | e
    · rw [e]; exact h.2.1
    · exact tk_ok_vd h.2.2 u e
def fM (I J : Nat → Nat → Int32) : Prop := ∀ p j, ¬ (p = 169 ∧ 7 ≤ j ∧ j ≤ 13) → J p j = I p j
def fN (I J : Nat → Nat → Int32) : Prop := ∀ p j, ¬ (p = 169 ∧ 7 ≤ j ∧ j ≤ 11) → J p j = I p j
def mf (f : pt_F) (J : Nat → Nat → Int32) : Prop := ¬ J 169 12 = nI 0 ∧ J 169 12 = nI f.1 ∧ J 169 13 = nI f.2
section
variable {d n : Nat} {Q : br_Q} {I J : Nat → Nat → Int32} {L : Nat → Nat → Int64} {b : Nat → Nat} {N : Nat} {ts : List tk_T}
theorem fN_M (h : fN I J) : fM I J := fun p j a => h p j (by omega)
theorem fM_t {K : Nat → Nat → Int32} (h : fM I J) (h2 : fM J K) : fM I K := fun p j a => by rw [h2 p j a, h p j a]
theorem tk_eq {k j : Nat} (hk : k < 28 ∨ 40 ≤ k ∧ k ≤ 47) (hj : j < 28 ∨ 40 ≤ j ∧ j ≤ 47) : nI (tk_k k) = nI (tk_k j) ↔ k = j := by
  have a := tk_k35 k (by omega)
  have c := tk_k35 j (by omega)
  rw [nI_eq (by omega) (by omega)]
  exact tk_inj k (by omega) j (by omega) (by omega) (by omega)
theorem rs_M_fails {k : Nat} (hk : 1 ≤ k) (hk2 : k ≤ 5) (h : tk_Mr b N ts I) (hs : tk_vd ts) (h12 : I 169 12 = nI 0) (H : ∀ J, fM I J → mf (tk_fail k (tk_hd N ts)) J → Q none (br_hp n J L)) : br_r d 211 0 [some (.ref 169), some (.int (nI k))] [] (br_hp n I L) Q := by
  obtain ⟨a1, a2, a3, a4, a7, a8, a9⟩ := h
  have c35 : nI (tk_k (tk_hd N ts).1) = nI 35 ↔ (tk_hd N ts).1 = 43 := tk_eq (j := 43) (tk_vd_h hs) (by omega)
  have ne : ∀ m, 1 ≤ m → m ≤ 5 → ¬ nI m = nI 0 := fun m q1 q2 z => by rw [nI_eq (by omega) (by omega)] at z; omega
  refine rb_M_fails_0 (br_t h12 ?_)
  rw [a8, c35]
  refine ⟨fun h => H _ (fun p j q => by rw [br_u_n (by omega), br_u_n (by omega)]) ⟨?_, ?_, ?_⟩, fun h => H _ (fun p j q => by rw [br_u_n (by omega), br_u_n (by omega)]) ⟨?_, ?_, ?_⟩⟩
  · rw [br_u_n (by omega), br_u_s]; exact ne k hk hk2
  · rw [br_u_n (by omega), br_u_s]; unfold tk_fail; rw [if_neg h]
  · rw [br_u_s, br_u_n (by omega), a7]; rfl
  · rw [br_u_n (by omega), br_u_s]; exact ne 1 (by omega) (by omega)
  · rw [br_u_n (by omega), br_u_s]; unfold tk_fail; rw [if_pos (Classical.not_not.mp h)]
  · rw [br_u_s, br_u_n (by omega), a7]; rfl
theorem rs_M_failsF {k : Int32} (h12 : ¬ I 169 12 = nI 0) (H : Q none (br_hp n I L)) : br_r d 211 0 [some (.ref 169), some (.int k)] [] (br_hp n I L) Q := rb_M_fails_0 (br_f h12 H)
theorem rs_M_is {k : Nat} (h : tk_Mr b N ts I) (hs : tk_vd ts) (h12 : I 169 12 = nI 0) (hk : k < 28 ∨ 40 ≤ k ∧ k ≤ 47) (H : Q (some (.int (nI (decide ((tk_hd N ts).1 = k)).toNat))) (br_hp n I L)) : br_r d 214 0 [some (.ref 169), some (.int (nI (tk_k k)))] [] (br_hp n I L) Q := by
  refine rb_M_is_0 (br_f (fun z => z h12) ?_)
  rw [h.2.2.2.2.2.1, tk_eq (tk_vd_h hs) hk]
  refine ⟨fun e => ?_, fun e => ?_⟩
  · rw [decide_eq_false e] at H; exact H
  · rw [decide_eq_true (Classical.not_not.mp e)] at H; exact H
theorem rs_M_isF {k : Int32} (h12 : ¬ I 169 12 = nI 0) (H : Q (some (.int (nI 0))) (br_hp n I L)) : br_r d 214 0 [some (.ref 169), some (.int k)] [] (br_hp n I L) Q := rb_M_is_0 (br_t h12 H)
theorem rs_M_eats {k : Nat} (h : tk_Mr b N ts I) (hs : tk_vd ts) (h12 : I 169 12 = nI 0) (hk : k < 28 ∨ 40 ≤ k ∧ k ≤ 47) (hk2 : k ≠ 42) (H0 : ¬ (tk_hd N ts).1 = k → Q (some (.int (nI 0))) (br_hp n I L)) (H1 : (tk_hd N ts).1 = k → ∀ J, fN I J → tk_Mr b N ts.tail J → Q (some (.int (nI 1))) (br_hp n J L)) :
    br_r (d + 8) 213 0 [some (.ref 169), some (.int (nI (tk_k k)))] [] (br_hp n I L) Q := by
  refine rb_M_eats_0 (rs_M_is h hs h12 hk (rb_M_eats_5 ?_))
  rw [bu_nI0, decide_eq_false_iff_not]
  refine ⟨fun e => ?_, fun e => H0 (Classical.not_not.mp e)⟩
  have e' := Classical.not_not.mp e
  obtain ⟨t, r, ets⟩ := tk_hd_c e' hk2
  have h' := h
  rw [ets] at h'
  refine rs_M_next h' (fun J f1 M1 => rb_M_eats_14 (H1 e' J f1 ?_))
  rw [ets]; exact M1
theorem rs_M_eatsF {k : Int32} (h12 : ¬ I 169 12 = nI 0) (H : Q (some (.int (nI 0))) (br_hp n I L)) : br_r (d + 1) 213 0 [some (.ref 169), some (.int k)] [] (br_hp n I L) Q := rb_M_eats_0 (rs_M_isF h12 (rb_M_eats_5 (br_f (fun z => z rfl) H)))
theorem rs_M_needs {k : Nat} (h : tk_Mr b N ts I) (hs : tk_vd ts) (h12 : I 169 12 = nI 0) (hk : k < 28 ∨ 40 ≤ k ∧ k ≤ 47) (hk2 : k ≠ 42) (H0 : ∀ f, pt_k k N ts = .inl f → ∀ J, fM I J → mf f J → Q none (br_hp n J L)) (H1 : ∀ t1, pt_k k N ts = .inr t1 → ∀ J, fN I J → tk_Mr b N t1 J → Q none (br_hp n J L)) :
    br_r (d + 9) 212 0 [some (.ref 169), some (.int (nI (tk_k k)))] [] (br_hp n I L) Q :=
  rb_M_needs_0 (rs_M_eats h hs h12 hk hk2 (fun e => rb_M_needs_5 (br_f (fun z => z rfl) (rs_M_fails (by omega) (by omega) h hs h12 (fun J f1 f2 => rb_M_needs_13 (H0 _ (pt_k_F e) J f1 f2))))) (fun e J f1 M1 => rb_M_needs_5 (br_t br_10 (rb_M_needs_13 (H1 _ (pt_k_T e) J f1 M1)))))
theorem rs_M_needsF {k : Int32} (h12 : ¬ I 169 12 = nI 0) (H : Q none (br_hp n I L)) : br_r (d + 2) 212 0 [some (.ref 169), some (.int k)] [] (br_hp n I L) Q :=
  rb_M_needs_0 (rs_M_eatsF h12 (rb_M_needs_5 (br_f (fun z => z rfl) (rs_M_failsF h12 (rb_M_needs_13 H)))))
theorem rs_M_reads {lo hi : Nat} {z3 : Option Value} (hlo : lo < 1000) (hhi : hi < 1000) (h : tk_Mr b N ts I) (hs : tk_vd ts) (hsm : tk_sm ts) (h12 : I 169 12 = nI 0) (H0 : ∀ f, pt_n lo hi N ts = .inl f → ∀ J v, fM I J → mf f J → Q (some (.int v)) (br_hp n J L)) (H1 : ∀ x, pt_n lo hi N ts = .inr x → ∀ J, fN I J → tk_Mr b N x.2 J → Q (some (.int (nI x.1))) (br_hp n J L)) :
    br_r (d + 8) 215 0 [some (.ref 169), some (.int (nI lo)), some (.int (nI hi)), z3] [] (br_hp n I L) Q := by
  have hb := tk_sm_h hsm h.1.1
  have out : ∀ (J : Nat → Nat → Int32) (f : pt_F) (z1 z2 z3 : Option Value), pt_n lo hi N ts = .inl f → fM I J → mf f J → br_r (d + 8) 215 37 [some (.ref 169), z1, z2, z3] [] (br_hp n J L) Q := fun J f z1 z2 z3 e f1 f2 => rb_M_reads_37 (br_t f2.1 (rb_M_reads_53 (H0 f e J _ f1 f2)))
  refine rb_M_reads_0 (rs_M_is (k := 41) h hs h12 (by omega) (rb_M_reads_6 ?_))
  rw [bu_nI0, decide_eq_false_iff_not]
  refine ⟨fun e => ?_, fun e => rs_M_fails (by omega) (by omega) h hs h12 (fun J f1 f2 => rb_M_reads_14 (out J _ _ _ _ (pt_n_F (Classical.not_not.mp e)) f1 f2))⟩
  have e' := Classical.not_not.mp e
  have h11 := h.2.2.2.2.2.2 e'
  rw [h11, nI_l (by omega), nI_l (by omega), nI_l (by omega)]
  by_cases h2 : lo ≤ (tk_hd N ts).2.2 ∧ (tk_hd N ts).2.2 ≤ hi
  · have e1 := pt_n_T e' h2
    refine rs_wi_T (by rw [pk_lT (by omega), pk_lT (by omega), pk_lT (by omega)]; omega) (rb_M_reads_29 (br_t br_10 (rb_M_reads_37 (br_f (fun z => z h12) ?_))))
    rw [h11]
    obtain ⟨t, r, ets⟩ := tk_hd_c e' (by omega)
    have h' := h
    rw [ets] at h'
    refine rs_M_next h' (fun J f1 M1 => rb_M_reads_53 (H1 _ e1 J f1 ?_))
    rw [ets]; exact M1
  · refine rs_wi_F (by rw [pk_lT (by omega), pk_lT (by omega), pk_lT (by omega)]; omega) (rb_M_reads_29 (br_f (fun z => z rfl) (rs_M_fails (by omega) (by omega) h hs h12 (fun J f1 f2 => out J _ _ _ _ (pt_n_B e' h2) f1 f2))))
theorem rs_M_readsF {lo hi : Int32} {z3 : Option Value} (h12 : ¬ I 169 12 = nI 0) (H : ∀ v, Q (some (.int v)) (br_hp n I L)) : br_r (d + 1) 215 0 [some (.ref 169), some (.int lo), some (.int hi), z3] [] (br_hp n I L) Q :=
  rb_M_reads_0 (rs_M_isF h12 (rb_M_reads_6 (br_f (fun z => z rfl) (rs_M_failsF h12 (rb_M_reads_14 (rb_M_reads_37 (br_t h12 (rb_M_reads_53 (H _)))))))))
/-- the law as the model has it -/
def pm_C (g : Nat → Int32) (c : Nat) (J : Nat → Nat → Int32) : Prop := (∀ j, j < 18 → J 174 (j + 1) = g j) ∧ J 174 19 = nI c
def fQ (I J : Nat → Nat → Int32) : Prop := ∀ p j, ¬ (p = 169 ∧ 7 ≤ j ∧ j ≤ 13) → ¬ (p = 174 ∧ 1 ≤ j ∧ j ≤ 19) → J p j = I p j
theorem fM_Q (h : fM I J) : fQ I J := fun p j a _ => h p j a
theorem fQ_t {K : Nat → Nat → Int32} (h : fQ I J) (h2 : fQ J K) : fQ I K := fun p j a c => by rw [h2 p j a c, h p j a c]
theorem mf_u {f : pt_F} {k : Nat} {x : Int32} (h : mf f I) : mf f (br_u I 174 k x) := ⟨by rw [br_u_n (by omega)]; exact h.1, by rw [br_u_n (by omega)]; exact h.2.1, by rw [br_u_n (by omega)]; exact h.2.2⟩
theorem fQ_u {k : Nat} {x : Int32} (h : fQ I J) (hk : 1 ≤ k) (hk2 : k ≤ 19) : fQ I (br_u J 174 k x) := fun p j a c => by rw [br_u_n (by omega)]; exact h p j a c
theorem pm_C_v {g : Nat → Int32} {c w : Nat} {x : Int32} (h : pm_C g c I) (hw : w < 18) : pm_C (br_v g w x) c (br_u I 174 (w + 1) x) := by
  refine ⟨fun j hj => ?_, by rw [br_u_n (by omega)]; exact h.2⟩
  by_cases e : j = w
  · subst e; rw [br_u_s, br_v_s]
  · rw [br_u_n (by omega), br_v_j e]; exact h.1 j hj
theorem pm_C_c {g : Nat → Int32} {c : Nat} (h : pm_C g c I) (h2 : ∀ j, J 174 j = I 174 j) : pm_C g c J := ⟨fun j hj => by rw [h2]; exact h.1 j hj, by rw [h2]; exact h.2⟩
def pl_one (N c : Nat) (ts : List tk_T) (g : Nat → Int32) : Sum pt_F (List tk_T × (Nat → Int32)) := if pl_bad (tk_hd N ts).1 = true then .inl (tk_fail 2 (tk_hd N ts)) else if c = 30 then .inl (tk_fail 4 (tk_hd N ts)) else sb (pl_line N (tk_hd N ts).1 ts.tail g) (fun x => sb (pt_k 44 N x.1) (fun t => .inr (t, x.2)))
theorem rs_M_line {c : Nat} {g : Nat → Int32} {z1 z2 z3 z4 : Option Value} (h : tk_Mr b N ts I) (hs : tk_vd ts) (hsm : tk_sm ts) (h12 : I 169 12 = nI 0) (hg : pm_C g c I) (hc : c ≤ 30)
    (H0 : ∀ f, pl_one N c ts g = .inl f → ∀ J, fQ I J → mf f J → Q none (br_hp n J L))
    (H1 : ∀ y, pl_one N c ts g = .inr y → ∀ J, fQ I J → tk_Mr b N y.1 J → tk_vd y.1 → tk_sm y.1 → J 169 12 = nI 0 → pm_C y.2 (c + 1) J → Q none (br_hp n J L)) :
    br_r (d + 10) 210 0 [some (.ref 169), z1, z2, z3, z4] [] (br_hp n I L) Q := by
  have hv := tk_vd_h (N := N) hs
  have k35 := tk_k35 (tk_hd N ts).1 (by omega)
  have a8 := h.2.2.2.2.2.1
  unfold pl_one at H0 H1
  -- the end of a line that fell
  have fell : ∀ (f : pt_F) (J : Nat → Nat → Int32) (z1 z2 z3 z4 : Option Value), (∀ J, fQ I J → mf f J → Q none (br_hp n J L)) → fQ I J → mf f J → br_r (d + 10) 210 241 [some (.ref 169), z1, z2, z3, z4] [] (br_hp n J L) Q := fun f J z1 z2 z3 z4 K f1 f2 => rb_M_readLine_241 (K _ (fQ_u f1 (by omega) (by omega)) (mf_u f2))
  have wi : ∀ (lo hi : Nat) (Q' : br_Q), lo < 100 → hi < 100 → Q' (some (.int (nI (decide (lo ≤ tk_k (tk_hd N ts).1 ∧ tk_k (tk_hd N ts).1 ≤ hi)).toNat))) (br_hp n I L) → br_r (d + 9) 192 0 [some (.long (nI (tk_k (tk_hd N ts).1)).toInt64), none, some (.long (lN lo)), none, some (.long (lN hi)), none] [] (br_hp n I L) Q' := by
    intro lo hi Q' h1 h2 K
    rw [nI_l (by omega)]
    by_cases e : lo ≤ tk_k (tk_hd N ts).1 ∧ tk_k (tk_hd N ts).1 ≤ hi
    · rw [decide_eq_true e] at K
      exact rs_wi_T (by rw [pk_lT (by omega), pk_lT (by omega), pk_lT (by omega)]; omega) K
    · rw [decide_eq_false e] at K
      exact rs_wi_F (by rw [pk_lT (by omega), pk_lT (by omega), pk_lT (by omega)]; omega) K
  -- a line begins
  have begins : ∀ z2 : Option Value, pl_bad (tk_hd N ts).1 = false → br_r (d + 10) 210 57 [some (.ref 169), some (.int (nI (tk_k (tk_hd N ts).1))), z2, z3, z4] [] (br_hp n I L) Q := by
    intro z2 hb
    rw [if_neg (by rw [hb]; exact Bool.false_ne_true)] at H0 H1
    have hb2 := of_decide_eq_false hb
    refine rb_M_readLine_57 ?_
    rw [hg.2, nI_eq (a := c) (b := 30) (by omega) (by omega)]
    refine ⟨fun h30 => ?_, fun h30 => ?_⟩
    · rw [if_neg h30] at H0 H1
      obtain ⟨t, r, ets⟩ := tk_hd_c (N := N) (ts := ts) rfl (by omega)
      have h' := h
      rw [ets] at h'
      refine rb_M_readLine_92 (br_t h12 (rs_M_next (d := d + 2) h' (fun J1 f1 M1 => rb_M_readLine_104 ?_)))
      have er : ts.tail = r := by rw [ets]; rfl
      rw [er] at H0 H1
      have hs1 : tk_vd r := by rw [← er]; exact tk_vd_t hs
      have hsm1 : tk_sm r := by rw [← er]; exact tk_sm_t hsm
      have Q1 : fQ I J1 := fM_Q (fN_M f1)
      have j12 : J1 169 12 = nI 0 := by rw [f1 169 12 (by omega)]; exact h12
      have g1 : pm_C g c J1 := pm_C_c hg (fun j => f1 174 j (by omega))
      generalize hw : (tk_hd N ts).1 = w at *
      -- the end of a line that stands
      have stands : ∀ (t2 : List tk_T) (g2 : Nat → Int32) (J : Nat → Nat → Int32) (z1 z2 z3 z4 : Option Value), (∀ f, pt_k 44 N t2 = .inl f → ∀ J, fQ I J → mf f J → Q none (br_hp n J L)) → (∀ t3, pt_k 44 N t2 = .inr t3 → ∀ J, fQ I J → tk_Mr b N t3 J → tk_vd t3 → tk_sm t3 → J 169 12 = nI 0 → pm_C g2 (c + 1) J → Q none (br_hp n J L)) → fQ I J → tk_Mr b N t2 J → tk_vd t2 → tk_sm t2 → J 169 12 = nI 0 → pm_C g2 c J →
          br_r (d + 9) 212 0 [some (.ref 169), some (.int (nI 30))] [] (br_hp n J L) (fun v h => br_r (d + 10) 210 241 [some (.ref 169), z1, z2, z3, z4] (v.toList ++ []) (br_bk h) Q) := by
        intro t2 g2 J z1 z2 z3 z4 K0 K1 f M v s e12 gC
        refine rs_M_needs (k := 44) M v e12 (by omega) (by omega) (fun f2 hf J2 q1 q2 => fell f2 J2 _ _ _ _ (K0 f2 hf) (fQ_t f (fM_Q q1)) q2) (fun t3 ht J2 q1 M2 => rb_M_readLine_241 ?_)
        have gC2 : pm_C g2 c J2 := pm_C_c gC (fun j => q1 174 j (by omega))
        rw [gC2.2, nI_add]
        refine K1 t3 ht _ (fQ_u (fQ_t f (fM_Q (fN_M q1))) (by omega) (by omega)) (tk_Mr_c M2 (fun p j q => br_u_n (by omega))) ?_ ?_ (by rw [br_u_n (by omega), q1 169 12 (by omega)]; exact e12) ⟨fun j hj => by rw [br_u_n (by omega)]; exact gC2.1 j hj, br_u_s⟩
        · rw [(pt_k_t ht).1]; exact tk_vd_t v
        · rw [(pt_k_t ht).1]; exact tk_sm_t s
      have c4 : nI 4 < nI (tk_k w) ↔ 5 ≤ w := by
        have : ∀ w, w < 18 → ¬ (8 ≤ w ∧ w ≤ 10) → (4 < tk_k w ↔ 5 ≤ w) := by decide +kernel
        rw [br_ltT, nI_toInt (by omega), nI_toInt (by omega)]
        have := this w (by omega) (by omega)
        omega
      have c8 : nI 8 < nI (tk_k w) ↔ 8 ≤ w := by
        have : ∀ w, w < 18 → ¬ (8 ≤ w ∧ w ≤ 10) → (8 < tk_k w ↔ 8 ≤ w) := by decide +kernel
        rw [br_ltT, nI_toInt (by omega), nI_toInt (by omega)]
        have := this w (by omega) (by omega)
        omega
      rw [c4, c8]
      unfold pl_line at H0 H1
      refine ⟨fun h5 => ⟨fun h8 => ?_, fun h8 => ?_⟩, fun h5 => ?_⟩
      · -- a number for itself
        rw [if_neg (by omega), if_neg (by omega)] at H0 H1
        have ek : tk_k w = w := by
          have : ∀ w, w < 18 → 11 ≤ w → tk_k w = w := by decide +kernel
          exact this w (by omega) (by omega)
        have mx : pl_mx w ≤ 200 := by unfold pl_mx; repeat' split
                                      all_goals omega
        rw [ek]
        have mo : ∀ Q' : br_Q, Q' (some (.int (nI (pl_mx w)))) (br_hp n J1 L) → br_r (d + 9) 216 0 [some (.int (nI w))] [] (br_hp n J1 L) Q' := by
          intro Q' K
          have e11 : nI w = nI 11 ↔ w = 11 := nI_eq (by omega) (by omega)
          have e15 : nI w = nI 15 ↔ w = 15 := nI_eq (by omega) (by omega)
          have e16 : nI w = nI 16 ↔ w = 16 := nI_eq (by omega) (by omega)
          have e17 : nI w = nI 17 ↔ w = 17 := nI_eq (by omega) (by omega)
          refine rb_M_mostOf_0 ?_
          rw [e11, e15, e16, e17]
          unfold pl_mx at K
          refine ⟨fun q => ⟨fun q2 => ⟨fun q3 => ?_, fun q3 => ⟨fun q4 => ?_, fun q4 => ?_⟩⟩, fun q2 => ?_⟩, fun q => ?_⟩
          · rw [if_neg q, if_neg (by omega), if_neg q2] at K; exact K
          · rw [if_neg q, if_pos (by omega)] at K; exact K
          · rw [if_neg q, if_neg (by omega), if_neg q2] at K; exact K
          · rw [if_neg q, if_neg (by omega), if_pos (Classical.not_not.mp q2)] at K; exact K
          · rw [if_pos (Classical.not_not.mp q)] at K; exact K
        refine mo _ (rb_M_readLine_231 ?_)
        rw [nI_add, pk_sub (by omega), show 12 + w - 11 = w + 1 by omega]
        refine rs_M_reads (d := d + 1) (by omega) (by omega) M1 hs1 hsm1 j12 (fun f hf J2 v q1 q2 => rb_M_readLine_234 ?_) (fun x hx J2 q1 M2 => rb_M_readLine_234 ?_)
        · rw [nI_clamp (by omega)]
          refine ⟨vp_in_nI (by omega) (by omega), rs_M_needsF (mf_u q2).1 (fell f _ _ _ _ _ (fun J a c => H0 f (by rw [sb_l hf]; rfl) J a c) (fQ_u (fQ_t Q1 (fM_Q q1)) (by omega) (by omega)) (mf_u q2))⟩
        · rw [nI_clamp (by omega)]
          rw [sb_r hx] at H0 H1
          have ex := pt_n_t hx
          refine ⟨vp_in_nI (by omega) (by omega), stands x.2 _ _ _ _ _ _ (fun f hf => H0 f (by rw [sb_i]; exact sb_l hf)) (fun t3 ht => H1 _ (by rw [sb_i]; exact sb_r ht)) (fQ_u (fQ_t Q1 (fM_Q (fN_M q1))) (by omega) (by omega)) (tk_Mr_c M2 (fun p j q => br_u_n (by omega))) (by rw [ex.1]; exact tk_vd_t hs1) (by rw [ex.1]; exact tk_sm_t hsm1) (by rw [br_u_n (by omega), q1 169 12 (by omega)]; exact j12) (pm_C_v (pm_C_c g1 (fun j => q1 174 j (by omega))) (by omega))⟩
      · -- a way
        rw [if_neg (by omega), if_pos (by omega)] at H0 H1
        have ek : tk_k w = w + 1 := by
          have : ∀ w, w < 8 → 5 ≤ w → tk_k w = w + 1 := by decide +kernel
          exact this w (by omega) (by omega)
        rw [ek]
        -- from a fall on
        have f210 : ∀ (f : pt_F) (J : Nat → Nat → Int32) (v : Int32) (z1 z2 z3 z4 : Option Value), (∀ J, fQ I J → mf f J → Q none (br_hp n J L)) → fQ I J → mf f J → br_r (d + 10) 210 210 [some (.ref 169), z1, z2, z3, z4] [.int v, .int (nI (w + 4)), .ref 174] (br_hp n J L) Q := by
          intro f J v z1 z2 z3 z4 K q1 q2
          refine rb_M_readLine_210 ?_
          rw [nI_clamp (by omega)]
          exact ⟨vp_in_nI (by omega) (by omega), rs_M_needsF (mf_u q2).1 (fell f _ _ _ _ _ K (fQ_u q1 (by omega) (by omega)) (mf_u q2))⟩
        have f192 : ∀ (f : pt_F) (J : Nat → Nat → Int32) (z2 z3 z4 : Option Value), (∀ J, fQ I J → mf f J → Q none (br_hp n J L)) → fQ I J → mf f J → br_r (d + 10) 210 192 [some (.ref 169), some (.int (nI (w + 1))), z2, z3, z4] [] (br_hp n J L) Q := by
          intro f J z2 z3 z4 K q1 q2
          refine rb_M_readLine_192 (rs_M_readsF q2.1 (fun v => ?_))
          rw [nI_add, pk_sub (by omega), show 9 + (w + 1) - 6 = w + 4 by omega]
          exact f210 f J v _ _ _ _ K q1 q2
        have f185 : ∀ (f : pt_F) (J : Nat → Nat → Int32) (v : Int32) (z2 z3 z4 : Option Value), (∀ J, fQ I J → mf f J → Q none (br_hp n J L)) → fQ I J → mf f J → br_r (d + 10) 210 185 [some (.ref 169), some (.int (nI (w + 1))), z2, z3, z4] [.int v, .int (nI (w + 1)), .ref 174] (br_hp n J L) Q := by
          intro f J v z2 z3 z4 K q1 q2
          refine rb_M_readLine_185 ?_
          rw [nI_clamp (by omega)]
          exact ⟨vp_in_nI (by omega) (by omega), rs_M_needsF (mf_u q2).1 (f192 f _ _ _ _ K (fQ_u q1 (by omega) (by omega)) (mf_u q2))⟩
        refine rs_M_needs (k := 9) M1 hs1 j12 (by omega) (by omega) (fun f hf J2 q1 q2 => rb_M_readLine_167 (rs_M_readsF q2.1 (fun v => ?_))) (fun t1 ht1 J2 q1 M2 => rb_M_readLine_167 ?_)
        · rw [nI_add, pk_sub (by omega), show 6 + (w + 1) - 6 = w + 1 by omega]
          exact f185 f J2 v _ _ _ (fun J a c => H0 f (by rw [sb_l hf]; rfl) J a c) (fQ_t Q1 (fM_Q q1)) q2
        rw [sb_r ht1] at H0 H1
        have e1 := (pt_k_t ht1).1
        have hs2 : tk_vd t1 := by rw [e1]; exact tk_vd_t hs1
        have hsm2 : tk_sm t1 := by rw [e1]; exact tk_sm_t hsm1
        have Q2 := fQ_t Q1 (fM_Q (fN_M q1))
        have j122 : J2 169 12 = nI 0 := by rw [q1 169 12 (by omega)]; exact j12
        rw [nI_add, pk_sub (by omega), show 6 + (w + 1) - 6 = w + 1 by omega]
        refine rs_M_reads (d := d + 1) (by omega) (by omega) M2 hs2 hsm2 j122 (fun f hf J3 v q3 q4 => f185 f J3 v _ _ _ (fun J a c => H0 f (by rw [sb_l hf]; rfl) J a c) (fQ_t Q2 (fM_Q q3)) q4) (fun x hx J3 q3 M3 => rb_M_readLine_185 ?_)
        rw [sb_r hx] at H0 H1
        have e2 := (pt_n_t hx).1
        have hs3 : tk_vd x.2 := by rw [e2]; exact tk_vd_t hs2
        have hsm3 : tk_sm x.2 := by rw [e2]; exact tk_sm_t hsm2
        have Q3 := fQ_t Q2 (fM_Q (fN_M q3))
        have g3 := pm_C_c (pm_C_c g1 (fun j => q1 174 j (by omega))) (fun j => q3 174 j (by omega))
        rw [nI_clamp (by omega)]
        refine ⟨vp_in_nI (by omega) (by omega), rs_M_needs (k := 10) (tk_Mr_c M3 (fun p j q => br_u_n (by omega))) hs3 (by rw [br_u_n (by omega), q3 169 12 (by omega)]; exact j122) (by omega) (by omega) (fun f hf J4 q5 q6 => f192 f J4 _ _ _ (fun J a c => H0 f (by rw [sb_l hf]; rfl) J a c) (fQ_t (fQ_u Q3 (by omega) (by omega)) (fM_Q q5)) q6) (fun t2 ht2 J4 q5 M4 => rb_M_readLine_192 ?_)⟩
        rw [sb_r ht2] at H0 H1
        have e3 := (pt_k_t ht2).1
        have hs4 : tk_vd t2 := by rw [e3]; exact tk_vd_t hs3
        have hsm4 : tk_sm t2 := by rw [e3]; exact tk_sm_t hsm3
        have Q4 := fQ_t (fQ_u (k := w + 1) (x := nI x.1) Q3 (by omega) (by omega)) (fM_Q (fN_M q5))
        have g4 := pm_C_c (pm_C_v (w := w) (x := nI x.1) g3 (by omega)) (fun j => q5 174 j (by omega))
        have j124 : J4 169 12 = nI 0 := by rw [q5 169 12 (by omega), br_u_n (by omega), q3 169 12 (by omega)]; exact j122
        rw [nI_add, pk_sub (by omega), show 9 + (w + 1) - 6 = w + 4 by omega]
        refine rs_M_reads (d := d + 1) (by omega) (by omega) M4 hs4 hsm4 j124 (fun f hf J5 v q7 q8 => f210 f J5 v _ _ _ _ (fun J a c => H0 f (by rw [sb_l hf]; rfl) J a c) (fQ_t Q4 (fM_Q q7)) q8) (fun y hy J5 q7 M5 => rb_M_readLine_210 ?_)
        rw [sb_r hy] at H0 H1
        have e5 := (pt_n_t hy).1
        rw [nI_clamp (by omega)]
        refine ⟨vp_in_nI (by omega) (by omega), stands y.2 _ _ _ _ _ _ (fun f hf => H0 f (by rw [sb_i]; exact sb_l hf)) (fun t3 ht => H1 _ (by rw [sb_i]; exact sb_r ht)) (fQ_u (fQ_t Q4 (fM_Q (fN_M q7))) (by omega) (by omega)) (tk_Mr_c M5 (fun p j q => br_u_n (by omega))) (by rw [e5]; exact tk_vd_t hs4) (by rw [e5]; exact tk_sm_t hsm4) (by rw [br_u_n (by omega), q7 169 12 (by omega)]; exact j124) (pm_C_v (w := w + 3) (pm_C_c g4 (fun j => q7 174 j (by omega))) (by omega))⟩
      · -- it moves
        rw [if_pos (by omega)] at H0 H1
        have ek : tk_k w = w := by
          have : ∀ w, w < 5 → tk_k w = w := by decide +kernel
          exact this w (by omega)
        rw [ek]
        have f128 : ∀ (f : pt_F) (J : Nat → Nat → Int32) (v x3 : Int32) (z2 z4 : Option Value), (∀ J, fQ I J → mf f J → Q none (br_hp n J L)) → fQ I J → mf f J → br_r (d + 10) 210 128 [some (.ref 169), some (.int (nI w)), z2, some (.int x3), z4] [.int v] (br_hp n J L) Q := by
          intro f J v x3 z2 z4 K q1 q2
          refine rb_M_readLine_128 ?_
          rw [nI_add, nI_add, nI_clamp (by omega)]
          refine ⟨fun _ => ⟨vp_in_nI (by omega) (by omega), rs_M_needsF (mf_u q2).1 (fell f _ _ _ _ _ K (fQ_u q1 (by omega) (by omega)) (mf_u q2))⟩, fun _ => ⟨vp_in_nI (by omega) (by omega), rs_M_needsF (mf_u q2).1 (fell f _ _ _ _ _ K (fQ_u q1 (by omega) (by omega)) (mf_u q2))⟩⟩
        refine rs_M_needs (k := 8) M1 hs1 j12 (by omega) (by omega) (fun f hf J2 q1 q2 => rb_M_readLine_114 (rs_M_eatsF q2.1 (rb_M_readLine_120 (rs_M_readsF q2.1 (fun v => f128 f J2 v _ _ _ (fun J a c => H0 f (by rw [sb_l hf]; rfl) J a c) (fQ_t Q1 (fM_Q q1)) q2))))) (fun t1 ht1 J2 q1 M2 => rb_M_readLine_114 ?_)
        rw [sb_r ht1] at H0 H1
        have e1 := (pt_k_t ht1).1
        have hs2 : tk_vd t1 := by rw [e1]; exact tk_vd_t hs1
        have hsm2 : tk_sm t1 := by rw [e1]; exact tk_sm_t hsm1
        have Q2 := fQ_t Q1 (fM_Q (fN_M q1))
        have j122 : J2 169 12 = nI 0 := by rw [q1 169 12 (by omega)]; exact j12
        have g2 := pm_C_c g1 (fun j => q1 174 j (by omega))
        refine rs_M_eats (d := d + 1) (k := 47) M2 hs2 j122 (by omega) (by omega) (fun h47 => rb_M_readLine_120 ?_) (fun h47 J3 q3 M3 => rb_M_readLine_120 ?_)
        · rw [if_neg h47] at H0 H1
          refine rs_M_reads (d := d + 1) (by omega) (by omega) M2 hs2 hsm2 j122 (fun f hf J3 v q3 q4 => f128 f J3 v _ _ _ (fun J a c => H0 f (by rw [sb_l hf]; rfl) J a c) (fQ_t Q2 (fM_Q q3)) q4) (fun x hx J3 q3 M3 => rb_M_readLine_128 ?_)
          rw [sb_r hx] at H0 H1
          have e2 := (pt_n_t hx).1
          rw [nI_add, nI_add, nI_clamp (by omega), show 0 + w + 1 = w + 1 by omega]
          refine br_t rfl ⟨vp_in_nI (by omega) (by omega), stands x.2 _ _ _ _ _ _ (fun f hf => H0 f (by rw [sb_i]; exact sb_l hf)) (fun t3 ht => H1 _ (by rw [sb_i]; exact sb_r ht)) (fQ_u (fQ_t Q2 (fM_Q (fN_M q3))) (by omega) (by omega)) (tk_Mr_c M3 (fun p j q => br_u_n (by omega))) (by rw [e2]; exact tk_vd_t hs2) (by rw [e2]; exact tk_sm_t hsm2) (by rw [br_u_n (by omega), q3 169 12 (by omega)]; exact j122) (pm_C_v (pm_C_c g2 (fun j => q3 174 j (by omega))) (by omega))⟩
        · rw [if_pos h47] at H0 H1
          have hs3 := tk_vd_t hs2
          have hsm3 := tk_sm_t hsm2
          have Q3 := fQ_t Q2 (fM_Q (fN_M q3))
          have j123 : J3 169 12 = nI 0 := by rw [q3 169 12 (by omega)]; exact j122
          refine rs_M_reads (d := d + 1) (by omega) (by omega) M3 hs3 hsm3 j123 (fun f hf J4 v q5 q6 => f128 f J4 v _ _ _ (fun J a c => H0 f (by rw [sb_l hf]; rfl) J a c) (fQ_t Q3 (fM_Q q5)) q6) (fun x hx J4 q5 M4 => rb_M_readLine_128 ?_)
          rw [sb_r hx] at H0 H1
          have e2 := (pt_n_t hx).1
          rw [nI_add, nI_add, nI_clamp (by omega), show 0 + w + 1 = w + 1 by omega]
          refine br_f br_10 ⟨vp_in_nI (by omega) (by omega), stands x.2 _ _ _ _ _ _ (fun f hf => H0 f (by rw [sb_i]; exact sb_l hf)) (fun t3 ht => H1 _ (by rw [sb_i]; exact sb_r ht)) (fQ_u (fQ_t Q3 (fM_Q (fN_M q5))) (by omega) (by omega)) (tk_Mr_c M4 (fun p j q => br_u_n (by omega))) (by rw [e2]; exact tk_vd_t hs3) (by rw [e2]; exact tk_sm_t hsm3) (by rw [br_u_n (by omega), q5 169 12 (by omega)]; exact j123) (pm_C_v (pm_C_c (pm_C_c g2 (fun j => q3 174 j (by omega))) (fun j => q5 174 j (by omega))) (by omega))⟩
    · have h30' := Classical.not_not.mp h30
      rw [if_pos h30'] at H0
      exact rs_M_fails (by omega) (by omega) h hs h12 (fun J f1 f2 => rb_M_readLine_92 (br_f f2.1 (H0 _ rfl J (fM_Q f1) f2)))
  have bads : pl_bad (tk_hd N ts).1 = true → br_r (d + 9) 211 0 [some (.ref 169), some (.int (nI 2))] [] (br_hp n I L) (fun v h => br_r (d + 10) 210 72 [some (.ref 169), some (.int (nI (tk_k (tk_hd N ts).1))), some (.int (nI 0)), z3, z4] (v.toList ++ []) (br_bk h) Q) := by
    intro hb
    rw [if_pos hb] at H0
    exact rs_M_fails (by omega) (by omega) h hs h12 (fun J f1 f2 => rb_M_readLine_72 (rb_M_readLine_92 (br_f f2.1 (H0 _ rfl J (fM_Q f1) f2))))
  have table : ∀ w, w < 48 → (w < 28 ∨ 40 ≤ w) → ((0 ≤ tk_k w ∧ tk_k w ≤ 4) ∨ (6 ≤ tk_k w ∧ tk_k w ≤ 8) ∨ (11 ≤ tk_k w ∧ tk_k w ≤ 17) ↔ pl_bad w = false) := by decide +kernel
  have tb := table (tk_hd N ts).1 (by omega) (by omega)
  refine rb_M_readLine_0 (br_f (fun z => z h12) ?_)
  rw [a8]
  refine wi 0 4 _ (by omega) (by omega) (rb_M_readLine_26 ?_)
  rw [bu_nI0, decide_eq_false_iff_not]
  refine ⟨fun q => begins _ (tb.mp (Or.inl (Classical.not_not.mp q))), fun q => wi 6 8 _ (by omega) (by omega) (rb_M_readLine_40 ?_)⟩
  rw [bu_nI0, decide_eq_false_iff_not]
  refine ⟨fun q2 => begins _ (tb.mp (Or.inr (Or.inl (Classical.not_not.mp q2)))), fun q2 => wi 11 17 _ (by omega) (by omega) (rb_M_readLine_54 ?_)⟩
  rw [bu_nI0, decide_eq_false_iff_not]
  refine ⟨fun q3 => bads ?_, fun q3 => begins _ (tb.mp (Or.inr (Or.inr (Classical.not_not.mp q3))))⟩
  cases hx : pl_bad (tk_hd N ts).1 with
  | true => rfl
  | false =>
    rcases tb.mpr hx with z | z | z
    · exact absurd z (Classical.not_not.mp q)
    · exact absurd z (Classical.not_not.mp q2)
    · exact absurd z q3
end
