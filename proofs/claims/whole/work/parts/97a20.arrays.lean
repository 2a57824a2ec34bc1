section BRA
variable {g0 : Nat → Value} {B0 : Nat} {D : va_G} {cA : Nat → ClassId} {oS : Nat → Nat × Nat} {oI : Nat → Nat → Int32} {oR : Nat → Nat → Nat} {l : Launch} {d j pc : Nat} {ls : br_V} {st : List Value} {h : br_H} {Q : br_Q}
theorem br_in_ge {i : Int32} {n N : Nat} (h : vp_in i n) (hN : n ≤ N) : ¬ (i < 0 ∨ N ≤ i.toNatClampNeg) := fun q => h (q.imp id (Nat.le_trans hN))
theorem br_in_lt {i : Int32} {n : Nat} (h : vp_in i n) : i.toNatClampNeg < n := Nat.not_le.mp fun q => h (Or.inr q)
theorem br_k_iaload (hfix : br_fix g0 oS oI oR) (hdg : decode (br_md j).2.1 pc = .ok (.iaload, 1)) (hk : br_pri (fun a i r => (br_sh h a).1 = 1 ∧ vp_in i (br_sh h a).2 ∧ br_snd g0 B0 D cA oS oI oR l d j (pc + 1) ls (.int (br_I h a i.toNatClampNeg) :: r) h Q) st) : br_snd g0 B0 D cA oS oI oR l d j pc ls st h Q := by
  intro p e R s m args below meth c H locs cells slots L Z hC hr hS hL hn hc hs hret
  obtain ⟨hx, hb, hrt, hml, hown, hts, hlk, hinit, hK, hold, hfr, hlo, hcl, hsl, hB0, hj⟩ := id hC
  obtain ⟨a, i, r, rfl, ha, hi, hk⟩ := br_pri_inv hk
  have hw2 := hk p e R s m args below meth c H locs cells slots L Z hC hr hS hL hn hc hs hret
  rw [List.map_cons, List.map_cons]
  rcases Nat.lt_or_ge a 8 with h8 | h8
  · obtain ⟨t, cell, e1, c1, c2, c3, c4, c5, c6⟩ := br_arr_old hfix hr hold ⟨_, hS⟩ h8 (Or.inl ha)
    rw [e1]
    rw [ha] at c2
    exact W.iald hx hb c1 c2 c3 (br_in_ge hi c4) (c6 _ (br_in_lt hi)) rfl rfl hdg hw2
  · have hg := br_get hr h8 (by rw [ha]; decide)
    rw [br_ce1 ha] at hg
    rw [br_g_ref h8]
    exact va_iald hx hb hK hr.2.2.1 _ 0 hg rfl hi hdg hw2
theorem br_k_baload (hfix : br_fix g0 oS oI oR) (hdg : decode (br_md j).2.1 pc = .ok (.baload, 1)) (hk : br_pri (fun a i r => ((br_sh h a).1 = 3 ∨ (br_sh h a).1 = 4) ∧ vp_in i (br_sh h a).2 ∧ br_snd g0 B0 D cA oS oI oR l d j (pc + 1) ls (.int (br_I h a i.toNatClampNeg) :: r) h Q) st) : br_snd g0 B0 D cA oS oI oR l d j pc ls st h Q := by
  intro p e R s m args below meth c H locs cells slots L Z hC hr hS hL hn hc hs hret
  obtain ⟨hx, hb, hrt, hml, hown, hts, hlk, hinit, hK, hold, hfr, hlo, hcl, hsl, hB0, hj⟩ := id hC
  obtain ⟨a, i, r, rfl, ha, hi, hk⟩ := br_pri_inv hk
  have hw2 := hk p e R s m args below meth c H locs cells slots L Z hC hr hS hL hn hc hs hret
  rw [List.map_cons, List.map_cons]
  rcases ha with ha | ha
  · have h8 := br_new8 hfix hr (by rw [ha]; decide)
    have hg := br_get hr h8 (by rw [ha]; decide)
    rw [br_ce3 ha] at hg
    rw [br_g_ref h8]
    exact va_zald hx hb hK hr.2.2.1 _ 2 hg rfl hi hdg hw2
  · rcases Nat.lt_or_ge a 8 with h8 | h8
    · obtain ⟨t, cell, e1, c1, c2, c3, c4, c5, c6⟩ := br_arr_old hfix hr hold ⟨_, hS⟩ h8 (Or.inr ha)
      rw [e1]
      rw [ha] at c2
      exact W.bald hx hb c1 c2 c3 (br_in_ge hi c4) (c6 _ (br_in_lt hi)) rfl rfl hdg hw2
    · have hg := br_get hr h8 (by rw [ha]; decide)
      rw [br_ce4 ha] at hg
      rw [br_g_ref h8]
      exact va_bald hx hb hK hr.2.2.1 _ 3 hg rfl hi hdg hw2
theorem br_k_laload (hfix : br_fix g0 oS oI oR) (hdg : decode (br_md j).2.1 pc = .ok (.laload, 1)) (hk : br_pri (fun a i r => (br_sh h a).1 = 2 ∧ vp_in i (br_sh h a).2 ∧ br_snd g0 B0 D cA oS oI oR l d j (pc + 1) ls (.long (br_L h a i.toNatClampNeg) :: r) h Q) st) : br_snd g0 B0 D cA oS oI oR l d j pc ls st h Q := by
  intro p e R s m args below meth c H locs cells slots L Z hC hr hS hL hn hc hs hret
  obtain ⟨hx, hb, hrt, hml, hown, hts, hlk, hinit, hK, hold, hfr, hlo, hcl, hsl, hB0, hj⟩ := id hC
  obtain ⟨a, i, r, rfl, ha, hi, hk⟩ := br_pri_inv hk
  have hw2 := hk p e R s m args below meth c H locs cells slots L Z hC hr hS hL hn hc hs hret
  rw [List.map_cons, List.map_cons]
  have h8 := br_new8 hfix hr (by rw [ha]; decide)
  have hg := br_get hr h8 (by rw [ha]; decide)
  rw [br_ce2 ha] at hg
  rw [br_g_ref h8]
  exact va_lald hx hb hK hr.2.2.1 _ 1 hg rfl hi hdg hw2
theorem br_k_aaload (hfix : br_fix g0 oS oI oR) (hdg : decode (br_md j).2.1 pc = .ok (.aaload, 1)) (hk : br_pri (fun a i r => br_ra (br_sh h a).1 = true ∧ vp_in i (br_sh h a).2 ∧ br_snd g0 B0 D cA oS oI oR l d j (pc + 1) ls (.ref (br_R h a i.toNatClampNeg) :: r) h Q) st) : br_snd g0 B0 D cA oS oI oR l d j pc ls st h Q := by
  intro p e R s m args below meth c H locs cells slots L Z hC hr hS hL hn hc hs hret
  obtain ⟨hx, hb, hrt, hml, hown, hts, hlk, hinit, hK, hold, hfr, hlo, hcl, hsl, hB0, hj⟩ := id hC
  obtain ⟨a, i, r, rfl, ha, hi, hk⟩ := br_pri_inv hk
  have hw2 := hk p e R s m args below meth c H locs cells slots L Z hC hr hS hL hn hc hs hret
  rw [List.map_cons] at hw2
  rw [List.map_cons, List.map_cons]
  have hk4 := br_kinds ha
  have h8 := br_new8 hfix hr (a := a) (by omega)
  have hea : br_ar (br_sh h a).1 = true := by rcases hk4 with q | q | q | q <;> rw [q] <;> rfl
  obtain ⟨V, v1, v2, v3, v4, v5⟩ := br_arr hr h8 hea hK
  have hV := v5 ha
  subst hV
  rw [br_g_ref h8]
  rw [← br_refs hfix hr h8] at hw2
  refine W.aald hx hb v1 v2 ?_ (fun q => by cases q) (br_in_ge hi (by rw [arrV_size]; exact Nat.le_refl _)) (by rw [arrV_read _ _ (br_in_lt hi)]) rfl rfl hdg hw2
  rcases hk4 with q | q | q | q <;> rw [q] <;> rfl
theorem br_k_alen (hfix : br_fix g0 oS oI oR) (hdg : decode (br_md j).2.1 pc = .ok (.arraylength, 1)) (hk : br_pr (fun a r => br_ar (br_sh h a).1 = true ∧ br_snd g0 B0 D cA oS oI oR l d j (pc + 1) ls (.int (Int32.ofNat (br_sh h a).2) :: r) h Q) st) : br_snd g0 B0 D cA oS oI oR l d j pc ls st h Q := by
  intro p e R s m args below meth c H locs cells slots L Z hC hr hS hL hn hc hs hret
  obtain ⟨hx, hb, hrt, hml, hown, hts, hlk, hinit, hK, hold, hfr, hlo, hcl, hsl, hB0, hj⟩ := id hC
  obtain ⟨a, r, rfl, ha, hk⟩ := br_pr_inv hk
  have hw2 := hk p e R s m args below meth c H locs cells slots L Z hC hr hS hL hn hc hs hret
  rw [List.map_cons]
  have hk8 := br_kinda ha
  rcases Nat.lt_or_ge a 8 with h8 | h8
  · have e0 := (br_shold hr h8).1
    have hq : (br_sh h a).1 = 1 ∨ (br_sh h a).1 = 4 := by
      rcases hfix.2.2.2.2.2.1 a h8 with q | q | q | q <;> rw [← e0] at q <;> omega
    obtain ⟨t, cell, e1, c1, c2, c3, c4, c5, c6⟩ := br_arr_old hfix hr hold ⟨_, hS⟩ h8 hq
    rw [e1]
    exact W.alen hx hb c1 c2 c5 rfl rfl hdg hw2
  · obtain ⟨V, v1, v2, -⟩ := br_arr hr h8 ha hK
    rw [br_g_ref h8]
    exact W.alen hx hb v1 v2 (by rw [arrV_size] <;> rfl) rfl rfl hdg hw2
theorem br_k_iastore (hfix : br_fix g0 oS oI oR) (hdg : decode (br_md j).2.1 pc = .ok (.iastore, 1)) (hk : br_pi (fun x r => br_pri (fun a i r => (br_sh h a).1 = 1 ∧ 8 ≤ a ∧ vp_in i (br_sh h a).2 ∧ br_snd g0 B0 D cA oS oI oR l d j (pc + 1) ls r (br_wI h a i.toNatClampNeg x) Q) r) st) : br_snd g0 B0 D cA oS oI oR l d j pc ls st h Q := by
  intro p e R s m args below meth c H locs cells slots L Z hC hr hS hL hn hc hs hret
  obtain ⟨hx, hb, hrt, hml, hown, hts, hlk, hinit, hK, hold, hfr, hlo, hcl, hsl, hB0, hj⟩ := id hC
  obtain ⟨x, r, rfl, hk⟩ := br_pi_inv hk
  obtain ⟨a, i, r, rfl, ha, h8, hi, hk⟩ := br_pri_inv hk
  rw [List.map_cons, List.map_cons, List.map_cons, br_g_ref h8]
  have h9 : (br_sh h a).1 ≠ 9 := by rw [ha]; decide
  have hea : br_ar (br_sh h a).1 = true := by rw [ha]; rfl
  obtain ⟨V, v1, v2, v3, v4, v5⟩ := br_arr hr h8 hea hK
  have hV := v3 (Or.inl ha)
  subst hV
  have v2 := v2
  rw [ha] at v2 v1
  refine W.iast hx hb v1 v2 (fun q => by cases q) (br_in_ge hi (by rw [arrV_size]; exact Nat.le_refl _)) rfl rfl hdg fun H1 e1 e2 e3 => ?_
  refine hk p e R s m args below meth c H1 _ cells slots L Z hC ?_ (hS.put e2 e3 (show B0 ≤ _ by omega)) hL hn hc hs hret
  refine br_rel_set hr h8 h9 rfl (fun q _ hq => br_ce_eq rfl rfl (br_u_ne hq) rfl) e2 e3 ?_ (br_inv_I hr.2.2.2 h8 (fun q => by rw [ha] at q; cases q))
  rw [br_ce1 (h := br_wI h a i.toNatClampNeg x) ha]
  show H1[_]? = some (vp_cell _ _)
  rw [e1]
  rw [vp_cell_i, arrV_store]
  congr 2
  funext q
  show _ = Value.int (br_u _ _ _ _ a q)
  rw [br_u_at]
  by_cases hq : q = i.toNatClampNeg
  · subst hq
    simp [updV]
  · simp [updV, hq]
theorem br_k_lastore (hfix : br_fix g0 oS oI oR) (hdg : decode (br_md j).2.1 pc = .ok (.lastore, 1)) (hk : br_pl (fun x r => br_pri (fun a i r => (br_sh h a).1 = 2 ∧ 8 ≤ a ∧ vp_in i (br_sh h a).2 ∧ br_snd g0 B0 D cA oS oI oR l d j (pc + 1) ls r (br_wL h a i.toNatClampNeg x) Q) r) st) : br_snd g0 B0 D cA oS oI oR l d j pc ls st h Q := by
  intro p e R s m args below meth c H locs cells slots L Z hC hr hS hL hn hc hs hret
  obtain ⟨hx, hb, hrt, hml, hown, hts, hlk, hinit, hK, hold, hfr, hlo, hcl, hsl, hB0, hj⟩ := id hC
  obtain ⟨x, r, rfl, hk⟩ := br_pl_inv hk
  obtain ⟨a, i, r, rfl, ha, h8, hi, hk⟩ := br_pri_inv hk
  rw [List.map_cons, List.map_cons, List.map_cons, br_g_ref h8]
  have h9 : (br_sh h a).1 ≠ 9 := by rw [ha]; decide
  have hea : br_ar (br_sh h a).1 = true := by rw [ha]; rfl
  obtain ⟨V, v1, v2, v3, v4, v5⟩ := br_arr hr h8 hea hK
  have hV := v4 ha
  subst hV
  have v2 := v2
  rw [ha] at v2 v1
  refine W.last hx hb v1 v2 (fun q => by cases q) (br_in_ge hi (by rw [arrV_size]; exact Nat.le_refl _)) rfl rfl hdg fun H1 e1 e2 e3 => ?_
  refine hk p e R s m args below meth c H1 _ cells slots L Z hC ?_ (hS.put e2 e3 (show B0 ≤ _ by omega)) hL hn hc hs hret
  refine br_rel_set hr h8 h9 rfl (fun q _ hq => br_ce_eq rfl rfl rfl (br_u_ne hq)) e2 e3 ?_ (br_inv_L hr.2.2.2)
  rw [br_ce2 (h := br_wL h a i.toNatClampNeg x) ha]
  show H1[_]? = some (vp_cell _ _)
  rw [e1]
  rw [vp_cell_l, arrV_store]
  congr 2
  funext q
  show _ = Value.long (br_u _ _ _ _ a q)
  rw [br_u_at]
  by_cases hq : q = i.toNatClampNeg
  · subst hq
    simp [updV]
  · simp [updV, hq]
theorem br_nar_bool (x : Int32) : vp_nar .boolean x = 0 ∨ vp_nar .boolean x = 1 := by
  have h : vp_nar .boolean x = x &&& 1 := rfl
  rw [h]
  have h2 : (x &&& 1).toBitVec = x.toBitVec &&& 1#32 := rfl
  have key : ∀ b : BitVec 32, b &&& 1#32 = 0#32 ∨ b &&& 1#32 = 1#32 := by
    intro b
    by_cases hb : b.getLsbD 0
    · right
      apply BitVec.eq_of_getLsbD_eq
      intro k hk
      rw [BitVec.getLsbD_and]
      by_cases h0 : k = 0
      · subst h0; simp [hb]
      · simp [BitVec.getLsbD_one, h0]
    · left
      apply BitVec.eq_of_getLsbD_eq
      intro k hk
      rw [BitVec.getLsbD_and]
      by_cases h0 : k = 0
      · subst h0
        rw [show b.getLsbD 0 = false by simpa using hb]
        simp
      · simp [BitVec.getLsbD_one, h0]
  rcases key x.toBitVec with q | q
  · left; apply Int32.toBitVec_inj.mp; rw [h2, q]; rfl
  · right; apply Int32.toBitVec_inj.mp; rw [h2, q]; rfl
theorem br_k_bastore (hfix : br_fix g0 oS oI oR) (hdg : decode (br_md j).2.1 pc = .ok (.bastore, 1)) (hk : br_pi (fun x r => br_pri (fun a i r => 8 ≤ a ∧ vp_in i (br_sh h a).2 ∧ (((br_sh h a).1 = 3 ∧ br_snd g0 B0 D cA oS oI oR l d j (pc + 1) ls r (br_wI h a i.toNatClampNeg (vp_nar .boolean x)) Q) ∨ ((br_sh h a).1 = 4 ∧ br_snd g0 B0 D cA oS oI oR l d j (pc + 1) ls r (br_wI h a i.toNatClampNeg (vp_nar .byte x)) Q))) r) st) : br_snd g0 B0 D cA oS oI oR l d j pc ls st h Q := by
  intro p e R s m args below meth c H locs cells slots L Z hC hr hS hL hn hc hs hret
  obtain ⟨hx, hb, hrt, hml, hown, hts, hlk, hinit, hK, hold, hfr, hlo, hcl, hsl, hB0, hj⟩ := id hC
  obtain ⟨x, r, rfl, hk⟩ := br_pi_inv hk
  obtain ⟨a, i, r, rfl, h8, hi, hk⟩ := br_pri_inv hk
  rw [List.map_cons, List.map_cons, List.map_cons, br_g_ref h8]
  rcases hk with ⟨ha, hk⟩ | ⟨ha, hk⟩
  · have h9 : (br_sh h a).1 ≠ 9 := by rw [ha]; decide
    have hea : br_ar (br_sh h a).1 = true := by rw [ha]; rfl
    obtain ⟨V, v1, v2, v3, v4, v5⟩ := br_arr hr h8 hea hK
    have hV := v3 (Or.inr (Or.inl ha))
    subst hV
    rw [ha] at v2 v1
    refine W.zast hx hb v1 v2 (fun q => by cases q) (br_in_ge hi (by rw [arrV_size]; exact Nat.le_refl _)) rfl rfl hdg fun H1 e1 e2 e3 => ?_
    refine hk p e R s m args below meth c H1 _ cells slots L Z hC ?_ (hS.put e2 e3 (show B0 ≤ _ by omega)) hL hn hc hs hret
    refine br_rel_set hr h8 h9 rfl (fun q _ hq => br_ce_eq rfl rfl (br_u_ne hq) rfl) e2 e3 ?_ (br_inv_I hr.2.2.2 h8 (fun _ => br_nar_bool x))
    rw [br_ce3 (h := br_wI h a i.toNatClampNeg (vp_nar .boolean x)) ha]
    show H1[_]? = some (vp_cell _ _)
    rw [e1]
    rw [vp_cell_i, arrV_store]
    congr 2
    funext q
    show _ = Value.int (br_u _ _ _ _ a q)
    rw [br_u_at]
    by_cases hq : q = i.toNatClampNeg
    · subst hq
      simp [updV, vp_nar, narrow]
    · simp [updV, hq]
  · have h9 : (br_sh h a).1 ≠ 9 := by rw [ha]; decide
    have hea : br_ar (br_sh h a).1 = true := by rw [ha]; rfl
    obtain ⟨V, v1, v2, v3, v4, v5⟩ := br_arr hr h8 hea hK
    have hV := v3 (Or.inr (Or.inr ha))
    subst hV
    rw [ha] at v2 v1
    refine W.bast hx hb v1 v2 (fun q => by cases q) (br_in_ge hi (by rw [arrV_size]; exact Nat.le_refl _)) rfl rfl hdg fun H1 e1 e2 e3 => ?_
    refine hk p e R s m args below meth c H1 _ cells slots L Z hC ?_ (hS.put e2 e3 (show B0 ≤ _ by omega)) hL hn hc hs hret
    refine br_rel_set hr h8 h9 rfl (fun q _ hq => br_ce_eq rfl rfl (br_u_ne hq) rfl) e2 e3 ?_ (br_inv_I hr.2.2.2 h8 (fun q => by rw [ha] at q; cases q))
    rw [br_ce4 (h := br_wI h a i.toNatClampNeg (vp_nar .byte x)) ha]
    show H1[_]? = some (vp_cell _ _)
    rw [e1]
    rw [vp_cell_i, arrV_store]
    congr 2
    funext q
    show _ = Value.int (br_u _ _ _ _ a q)
    rw [br_u_at]
    by_cases hq : q = i.toNatClampNeg
    · subst hq
      simp [updV, vp_nar, narrow]
    · simp [updV, hq]
theorem br_k_aastore (hfix : br_fix g0 oS oI oR) (hdg : decode (br_md j).2.1 pc = .ok (.aastore, 1)) (hk : br_pr (fun x r => br_pri (fun a i r => 8 ≤ a ∧ vp_in i (br_sh h a).2 ∧ ((br_sh h a).1 = 7 ∧ br_sh h x = (0, 10) ∨ (br_sh h a).1 = 8 ∧ br_sh h x = (0, 2)) ∧ br_snd g0 B0 D cA oS oI oR l d j (pc + 1) ls r (br_wR h a i.toNatClampNeg x) Q) r) st) : br_snd g0 B0 D cA oS oI oR l d j pc ls st h Q := by
  intro p e R s m args below meth c H locs cells slots L Z hC hr hS hL hn hc hs hret
  obtain ⟨hx, hb, hrt, hml, hown, hts, hlk, hinit, hK, hold, hfr, hlo, hcl, hsl, hB0, hj⟩ := id hC
  obtain ⟨x, r, rfl, hk⟩ := br_pr_inv hk
  obtain ⟨a, i, r, rfl, h8, hi, hx2, hk⟩ := br_pri_inv hk
  have main : ∀ (ci : Nat) (C : String) (T : u_T) (N : Nat), ci < 13 → br_cls[ci]? = some (C, T, N) → br_ra (br_sh h a).1 = true → br_kty (br_sh h a).1 = .object C → br_sh h x = (0, ci) → W p l e R s m args below meth c H locs cells slots Z (F0 m pc L ((Value.ref x :: .int i :: .ref a :: r).map (br_gv g0 B0))) := by
    intro ci C T N hci hcl hra hty hxs
    have hx8 := br_obj8 hfix hr hxs hci
    have hx0 : x ≠ 0 := fun z => by rw [z] at hx8; exact absurd hx8 (by decide)
    have hk4 := br_kinds hra
    have h9 : (br_sh h a).1 ≠ 9 := by omega
    have hea : br_ar (br_sh h a).1 = true := by rcases hk4 with q | q | q | q <;> rw [q] <;> rfl
    have ht := br_tys_at (cA := cA) hea
    rw [hty] at ht
    obtain ⟨kA, comp, k1, k2, k3, -⟩ := (hK.2 _ _ ht).2
    have hcls := (hK.1 ci _ hcl).2
    have hcomp : comp = D.1 ci := Option.some.inj (k3.symm.trans hcls.1)
    subst hcomp
    obtain ⟨kC, hkC, -⟩ := hcls.2
    have hgx := hr.2.2.1 _ _ (br_get hr hx8 (br_ne9 hxs))
    rw [br_ce0 hxs] at hgx
    obtain ⟨r', hr', cellV, g1, g2, g3, -⟩ := hgx
    obtain ⟨V, v1, v2, v3, v4, v5⟩ := br_arr hr h8 hea hK
    have hV := v5 hra
    subst hV
    rw [List.map_cons, List.map_cons, List.map_cons, br_g_ref h8, br_g_ref hx8]
    refine W.aast hx hb v1 (fun q h => by cases h) (fun h => by cases h) k1 k2 rfl hkC ⟨fun q => hi (Or.inl q), by rw [arrV_size]; exact br_in_lt hi⟩ g1 (fun q h => by rw [g3] at h; cases h) (by rw [g2]; exact hkC) (by rw [g2]; exact va_assign hcls) rfl rfl hdg fun H1 e1 e2 e3 => ?_
    refine hk p e R s m args below meth c H1 _ cells slots L Z hC ?_ (hS.put e2 e3 (show B0 ≤ _ by omega)) hL hn hc hs hret
    refine br_rel_set hr h8 h9 rfl (fun q _ hq => br_ce_eq rfl (br_u_ne hq) rfl rfl) e2 e3 ?_ (br_inv_R hr.2.2.2 h8 hx8)
    rw [br_ceR (h := br_wR h a i.toNatClampNeg x) hra]
    show H1[_]? = some (vp_cell _ _)
    rw [e1]
    rw [vp_cell_q, arrV_store]
    congr 2
    funext q
    show _ = va_rf (br_o B0 (br_u _ _ _ _ a q))
    rw [br_u_at]
    by_cases hq : q = i.toNatClampNeg
    · subst hq
      simp [updV, br_o, va_rf, hx0]
    · simp [updV, hq]
  rcases hx2 with ⟨ha, hxs⟩ | ⟨ha, hxs⟩
  · exact main 10 _ _ _ (by decide) rfl (by rw [ha]; rfl) (by rw [ha]; rfl) hxs
  · exact main 2 _ _ _ (by decide) rfl (by rw [ha]; rfl) (by rw [ha]; rfl) hxs
end BRA
