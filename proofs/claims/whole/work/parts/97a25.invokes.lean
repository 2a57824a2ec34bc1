section BRQ
variable {g0 : Nat → Value} {B0 : Nat} {D : va_G} {cA : Nat → ClassId} {oS : Nat → Nat × Nat} {oI : Nat → Nat → Int32} {oR : Nat → Nat → Nat} {l : Launch} {d j pc : Nat} {ls : br_V} {st : List Value} {h : br_H} {Q : br_Q}
theorem br_rel_setB {H : Heap} {b : Nat × Nat} (hr : br_rel B0 D cA oS oI oR h H) : br_rel B0 D cA oS oI oR (br_setB h b) H := by
  refine ⟨hr.1, hr.2.1, ?_, hr.2.2.2⟩
  have e : br_ws B0 cA (br_setB h b) = br_ws B0 cA h := by
    unfold br_ws
    apply List.map_congr_left
    intro i _
    rw [br_ce_eq (h := h) (h' := br_setB h b) rfl rfl rfl rfl]
  rw [e]
  exact hr.2.2.1
theorem br_iv_inv0 {C : br_C} {K : br_K} {n j' na ml mc ms ci : Nat} {r : List Nat} (hk : br_iv C K n ls st h 0 (j' :: na :: ml :: mc :: ms :: ci :: r)) : ∃ as rest, br_sp na st [] = some (as, rest) ∧ br_cat rest ≤ 8 ∧ br_cl C K n ls as rest h j' ml mc ms := by
  unfold br_iv at hk
  cases hsp : br_sp na st [] with
  | none => simp only [hsp] at hk
  | some q =>
    obtain ⟨as, rest⟩ := q
    simp only [hsp] at hk
    cases hb : Nat.ble (br_cat rest) 8 with
    | false => simp only [hb] at hk
    | true =>
      simp only [hb] at hk
      exact ⟨as, rest, rfl, Nat.le_of_ble_eq_true hb, hk⟩
theorem br_iv_inv1 {C : br_C} {K : br_K} {n j' na ml mc ms ci : Nat} {r : List Nat} (hk : br_iv C K n ls st h 1 (j' :: na :: ml :: mc :: ms :: ci :: r)) : ∃ a as2 rest, br_sp na st [] = some (Value.ref a :: as2, rest) ∧ br_cat rest ≤ 8 ∧ br_sh h a = (0, ci) ∧ br_cl C K n ls (Value.ref a :: as2) rest h j' ml mc ms := by
  unfold br_iv at hk
  cases hsp : br_sp na st [] with
  | none => simp only [hsp] at hk
  | some q =>
    obtain ⟨as, rest⟩ := q
    simp only [hsp] at hk
    cases hb : Nat.ble (br_cat rest) 8 with
    | false => simp only [hb] at hk
    | true =>
      simp only [hb] at hk
      cases as with
      | nil => exact hk.elim
      | cons v t =>
        cases v
        case ref a => exact ⟨a, t, rest, rfl, Nat.le_of_ble_eq_true hb, hk.1, hk.2⟩
        all_goals exact hk.elim
theorem br_k_ivS {i j' na ml mc ms ci : Nat} {r hs0 : List Nat} (hfix : br_fix g0 oS oI oR) (hokj : j' < 301 → plainFor (br_md j').1 = true ∧ Jvm.Cond.code (br_md j').1 (br_md j').2.1 (br_md j').2.2.1 (br_md j').2.2.2.1 ∈ br_gt ∧ (br_md j').2.2.1 ≤ 29 ∧ j' ≠ 300)
    (hdg : decode (br_md j).2.1 pc = .ok (.invokestatic i, 3)) (hw : br_ivk (br_md j).1.cls i 0 (j' :: na :: ml :: mc :: ms :: ci :: r) hs0 = true)
    (hk : br_iv (br_call (br_snd g0 B0 D cA oS oI oR l) d) (fun n ls st h => br_snd g0 B0 D cA oS oI oR l d j n ls st h Q) (pc + 3) ls st h 0 (j' :: na :: ml :: mc :: ms :: ci :: r)) : br_snd g0 B0 D cA oS oI oR l d j pc ls st h Q := by
  intro p e R s m args below meth c H locs cells slots L Z hC hr hS hL hn hc hs hret
  obtain ⟨hx, hb, hrt, hml, hown, hts, hlk, hinit, hK, hold, hfr, hlo, hcl, hsl, hB0, hj⟩ := id hC
  obtain ⟨a1, a2, a3, a4, a5, a6, a7, a8⟩ := br_ivk_of hw
  obtain ⟨a8, a9⟩ := a8
  obtain ⟨hpl, hcode, hm29, hj300⟩ := hokj a1
  rw [← br_mc_ne hj300] at a3
  obtain ⟨as, rest, hsp, hcat, hk2⟩ := br_iv_inv0 hk
  obtain ⟨x, rfl, hxl, hax⟩ := br_sp_inv _ _ _ _ _ hsp
  rw [List.append_nil] at hax
  obtain ⟨d', rfl, hal, hb1, hb2, hsn⟩ := br_cl_inv a4 hk2
  have hmc : (br_mc j').1 = mc := by rw [a3]
  have hms : (br_mc j').2 = ms := by rw [a3]
  rw [← a2] at hsn hal
  have hM := br_met (g0 := g0) (D := D) (cA := cA) (as := as) (H := H) hfix hpl a1 hsn (by rw [a3]) hal (h := br_setB h (mc, ms)) (br_rel_setB hr)
  rw [hmc, hms] at hM
  have hcat2 : ((rest.map (br_gv g0 B0)).map fun v => v.category).sum ≤ 8 := by rw [br_cat_eq (br_catg hfix.2.1)]; exact hcat
  have hsize : L.size = (br_md j).2.2.1 := by rw [hL.1]; exact hn
  have hPc : ∀ U : State, U.heap = H → s.WarmedH U.vm → br_Pc g0 B0 D cA oS oI as H (as.map (br_gv g0 B0)).toArray U := fun U hU hW => ⟨rfl, hU, va_K.moved hW.alike hK, (by rw [hU]; exact (br_old.kept hS.2.1 hold).warm hW), (by rw [hU]; exact Nat.le_trans hB0 hS.1)⟩
  rw [List.map_append]
  have hst : x.map (br_gv g0 B0) ++ rest.map (br_gv g0 B0) = (as.map (br_gv g0 B0)).reverse ++ rest.map (br_gv g0 B0) := by rw [hax]; simp
  rw [hst]
  have hlen : (as.map (br_gv g0 B0)).length = na := by rw [hax]; simp [hxl]
  rcases a5 with a5 | a5
  · refine br_after (g0 := g0) (D := D) (cA := cA) (oS := oS) (oI := oI) (oR := oR) (mc := mc) (ms := ms) (rest := rest.map (br_gv g0 B0)) (a := (as.map (br_gv g0 B0)).toArray) (Q' := fun v h' => br_snd g0 B0 D cA oS oI oR l (d' + 1) j (pc + 3) ls (v.toList ++ rest) (br_setB h' ((br_B h).1 - mc, (br_B h).2 - ms)) Q) ?_ hS (fun v h' H1 locs1 hq hr1 hS1 => ?_)
    · exact va_runS (As := as.map (br_gv g0 B0)) (n := na) ⟨hx, hb, hml, hown, hts⟩ hM ⟨callB_of na hts (br_good hcode) rfl hmc hms (hts _ a6) (hts _ a5) ⟨a7.1, a7.2, a9⟩ ⟨by show d' + 1 + 1 ≤ _; omega, by show 8 + ((br_md j').2.2.1 + 11) + 48 * (d' + 1) ≤ _; omega⟩, hts _ a8⟩ ⟨br_blind, hPc⟩ rfl hlen hsize rfl (lv_room hcat2) hdg ⟨by omega, by omega⟩
    · have hw2 := hq p e R s m args below meth c H1 locs1 (cells + mc) (slots + ms) L Z hC (br_rel_setB hr1) hS1 hL hn (by show cells + mc + ((br_B h).1 - mc) ≤ _; omega) (by show slots + ms + ((br_B h).2 - ms) ≤ _; omega) hret
      rw [List.map_append] at hw2
      have e9 : (v.toList).map (br_gv g0 B0) = (v.map (br_gv g0 B0)).toList := by cases v <;> rfl
      rw [e9] at hw2
      exact hw2
  · refine br_after (g0 := g0) (D := D) (cA := cA) (oS := oS) (oI := oI) (oR := oR) (mc := mc) (ms := ms) (rest := rest.map (br_gv g0 B0)) (a := (as.map (br_gv g0 B0)).toArray) (Q' := fun v h' => br_snd g0 B0 D cA oS oI oR l (d' + 1) j (pc + 3) ls (v.toList ++ rest) (br_setB h' ((br_B h).1 - mc, (br_B h).2 - ms)) Q) ?_ hS (fun v h' H1 locs1 hq hr1 hS1 => ?_)
    · exact va_runSN (As := as.map (br_gv g0 B0)) (n := na) ⟨hx, hb, hml, hown, hts⟩ hM ⟨va_cnB na hts (br_good hcode) rfl hmc hms (hold.2.2.2.2.2.2.2.1 _ _ _ _ a5) (hts _ a6) ⟨a7.1, a7.2, a9⟩ ⟨by show d' + 1 + 1 ≤ _; omega, by show 8 + ((br_md j').2.2.1 + 11) + 48 * (d' + 1) ≤ _; omega⟩, hts _ a8, trivial⟩ ⟨br_blind, hPc⟩ rfl hlen hsize rfl (lv_room hcat2) hdg ⟨by omega, by omega⟩
    · have hw2 := hq p e R s m args below meth c H1 locs1 (cells + mc) (slots + ms) L Z hC (br_rel_setB hr1) hS1 hL hn (by show cells + mc + ((br_B h).1 - mc) ≤ _; omega) (by show slots + ms + ((br_B h).2 - ms) ≤ _; omega) hret
      rw [List.map_append] at hw2
      have e9 : (v.toList).map (br_gv g0 B0) = (v.map (br_gv g0 B0)).toList := by cases v <;> rfl
      rw [e9] at hw2
      exact hw2
theorem br_k_ivV {i j' na ml mc ms ci : Nat} {r hs0 : List Nat} (hfix : br_fix g0 oS oI oR) (hne : (br_md j').1.cls ≠ "") (hokj : j' < 301 → plainFor (br_md j').1 = true ∧ Jvm.Cond.code (br_md j').1 (br_md j').2.1 (br_md j').2.2.1 (br_md j').2.2.2.1 ∈ br_gt ∧ (br_md j').2.2.1 ≤ 29 ∧ j' ≠ 300)
    (hdg : decode (br_md j).2.1 pc = .ok (.invokevirtual i, 3)) (hw : br_ivk (br_md j).1.cls i 1 (j' :: na :: ml :: mc :: ms :: ci :: r) hs0 = true)
    (hk : br_iv (br_call (br_snd g0 B0 D cA oS oI oR l) d) (fun n ls st h => br_snd g0 B0 D cA oS oI oR l d j n ls st h Q) (pc + 3) ls st h 1 (j' :: na :: ml :: mc :: ms :: ci :: r)) : br_snd g0 B0 D cA oS oI oR l d j pc ls st h Q := by
  intro p e R s m args below meth c H locs cells slots L Z hC hr hS hL hn hc hs hret
  obtain ⟨hx, hb, hrt, hml, hown, hts, hlk, hinit, hK, hold, hfr, hlo, hcl, hsl, hB0, hj⟩ := id hC
  obtain ⟨a1, a2, a3, a4, a5, a6, a7, a8⟩ := br_ivk_of hw
  obtain ⟨a8, a9, a10, a11⟩ := a8
  obtain ⟨hpl, hcode, hm29, hj300⟩ := hokj a1
  rw [← br_mc_ne hj300] at a3
  obtain ⟨a, as2, rest, hsp, hcat, ha, hk2⟩ := br_iv_inv1 hk
  obtain ⟨x, rfl, hxl, hax⟩ := br_sp_inv _ _ _ _ _ hsp
  rw [List.append_nil] at hax
  obtain ⟨d', rfl, hal, hb1, hb2, hsn⟩ := br_cl_inv a4 hk2
  have hmc : (br_mc j').1 = mc := by rw [a3]
  have hms : (br_mc j').2 = ms := by rw [a3]
  rw [← a2] at hsn hal
  have hM := br_met (g0 := g0) (D := D) (cA := cA) (as := Value.ref a :: as2) (H := H) hfix hpl a1 hsn (by rw [a3]) hal (h := br_setB h (mc, ms)) (br_rel_setB hr)
  rw [hmc, hms] at hM
  have hcat2 : ((rest.map (br_gv g0 B0)).map fun v => v.category).sum ≤ 8 := by rw [br_cat_eq (br_catg hfix.2.1)]; exact hcat
  have hsize : L.size = (br_md j).2.2.1 := by rw [hL.1]; exact hn
  have hPc : ∀ U : State, U.heap = H → s.WarmedH U.vm → br_Pc g0 B0 D cA oS oI (Value.ref a :: as2) H ((Value.ref a :: as2).map (br_gv g0 B0)).toArray U := fun U hU hW => ⟨rfl, hU, va_K.moved hW.alike hK, (by rw [hU]; exact (br_old.kept hS.2.1 hold).warm hW), (by rw [hU]; exact Nat.le_trans hB0 hS.1)⟩
  obtain ⟨bq, hbq, hcell⟩ : ∃ bq : Nat, br_gv g0 B0 (.ref a) = .ref bq ∧ ∃ cellB : Cell, H[bq]? = some cellB ∧ cellB.vm.isStatics = false ∧ s.vm.findClass (br_md j').1.cls = some cellB.cls := by
    rcases a10 with a10 | ⟨a10, rfl⟩
    · have hci : ci < 13 := by
        rcases Nat.lt_or_ge ci 13 with q | q
        · exact q
        · exfalso
          have e0 : br_cnm ci = "" := by
            unfold br_cnm
            rw [List.getElem?_eq_none (by show 13 ≤ ci; exact q)]
          exact hne (a10.trans e0)
      have h8 := br_obj8 hfix hr ha hci
      obtain ⟨C, T, N, Y, q1, -⟩ := br_clsx ci hci
      have e0 : br_cnm ci = C := by unfold br_cnm; rw [q1]
      have hg := br_get hr h8 (br_ne9 ha)
      rw [br_ce0 ha] at hg
      obtain ⟨cell, z1, z2, z3⟩ := va_recv hK hr.2.2.1 q1 hg
      exact ⟨_, br_g_ref h8, cell, z1, z2, by rw [a10, e0]; exact z3⟩
    · have h8 : a < 8 := by
        rcases Nat.lt_or_ge a 8 with q | q
        · exact q
        · have := hr.2.2.2.2.2.2.2 a q (by rw [ha])
          rw [ha] at this
          exact absurd this (by decide)
      have e1 := (br_shold hr h8).1
      have hp := (hfix.2.2.1 a h8 (by rw [← e1, ha])).1
      obtain ⟨t, u, t1, t2, o1, o2, o3⟩ := hold.2.1 a hp
      obtain ⟨cell, z1, z2, z3, -⟩ := o1.kept hS.2.1
      refine ⟨t, ?_, cell, z1, z2, by rw [a10]; exact z3⟩
      show br_g g0 B0 a = _
      unfold br_g
      rw [if_neg (by omega), t1]
  rw [List.map_append]
  have hst : x.map (br_gv g0 B0) ++ rest.map (br_gv g0 B0) = (as2.map (br_gv g0 B0)).reverse ++ .ref bq :: rest.map (br_gv g0 B0) := by
    have e8 : x = (Value.ref a :: as2).reverse := by rw [hax]; simp
    rw [e8, List.map_reverse, List.map_cons, hbq]; simp
  rw [hst]
  have hlen : (as2.map (br_gv g0 B0)).length + 1 = na := by
    have e8 : x.length = (Value.ref a :: as2).length := by rw [hax]; simp
    rw [← hxl, e8]; simp
  obtain ⟨na', rfl⟩ : ∃ na', na = na' + 1 := ⟨_, hlen.symm⟩
  have hpar : (parseMethodDescriptor (br_md j').1.desc).map (fun d => d.parameters.length) = some na' := by
    cases hz : parseMethodDescriptor (br_md j').1.desc with
    | none => rw [hz] at a9; cases a9
    | some y => rw [hz] at a9; simp at a9 ⊢; omega
  have e7 : ((Value.ref a :: as2).map (br_gv g0 B0)).toArray = (Value.ref bq :: as2.map (br_gv g0 B0)).toArray := by rw [List.map_cons, hbq]
  have hPc2 : ∀ U : State, U.heap = H → s.WarmedH U.vm → br_Pc g0 B0 D cA oS oI (Value.ref a :: as2) H (Value.ref bq :: as2.map (br_gv g0 B0)).toArray U := fun U hU hW => by rw [← e7]; exact hPc U hU hW
  rcases a5 with a5 | a5
  · refine br_after (g0 := g0) (D := D) (cA := cA) (oS := oS) (oI := oI) (oR := oR) (mc := mc) (ms := ms) (rest := rest.map (br_gv g0 B0)) (a := (Value.ref bq :: as2.map (br_gv g0 B0)).toArray) (Q' := fun v h' => br_snd g0 B0 D cA oS oI oR l (d' + 1) j (pc + 3) ls (v.toList ++ rest) (br_setB h' ((br_B h).1 - mc, (br_B h).2 - ms)) Q) ?_ hS (fun v h' H1 locs1 hq hr1 hS1 => ?_)
    · exact va_runV (As := as2.map (br_gv g0 B0)) (n := na') (C := (br_md j').1.cls) (b := bq) ⟨hx, hb, hml, hown, hts⟩ hM ⟨callB_of na' hts (br_good hcode) rfl hmc hms (hts _ a6) (hts _ a5) ⟨a7.1, a7.2, hpar⟩ ⟨by show d' + 1 + 1 ≤ _; omega, by show 8 + ((br_md j').2.2.1 + 11) + 48 * (d' + 1) ≤ _; omega⟩, hts _ a8, hts _ a11⟩ ⟨br_blind, hcell, hPc2⟩ rfl (by omega) hsize rfl (lv_room hcat2) hdg ⟨by omega, by omega⟩
    · have hw2 := hq p e R s m args below meth c H1 locs1 (cells + mc) (slots + ms) L Z hC (br_rel_setB hr1) hS1 hL hn (by show cells + mc + ((br_B h).1 - mc) ≤ _; omega) (by show slots + ms + ((br_B h).2 - ms) ≤ _; omega) hret
      rw [List.map_append] at hw2
      have e9 : (v.toList).map (br_gv g0 B0) = (v.map (br_gv g0 B0)).toList := by cases v <;> rfl
      rw [e9] at hw2
      exact hw2
  · refine br_after (g0 := g0) (D := D) (cA := cA) (oS := oS) (oI := oI) (oR := oR) (mc := mc) (ms := ms) (rest := rest.map (br_gv g0 B0)) (a := (Value.ref bq :: as2.map (br_gv g0 B0)).toArray) (Q' := fun v h' => br_snd g0 B0 D cA oS oI oR l (d' + 1) j (pc + 3) ls (v.toList ++ rest) (br_setB h' ((br_B h).1 - mc, (br_B h).2 - ms)) Q) ?_ hS (fun v h' H1 locs1 hq hr1 hS1 => ?_)
    · exact va_runVN (As := as2.map (br_gv g0 B0)) (n := na') (C := (br_md j').1.cls) (b := bq) ⟨hx, hb, hml, hown, hts⟩ hM ⟨va_cnB na' hts (br_good hcode) rfl hmc hms (hold.2.2.2.2.2.2.2.1 _ _ _ _ a5) (hts _ a6) ⟨a7.1, a7.2, hpar⟩ ⟨by show d' + 1 + 1 ≤ _; omega, by show 8 + ((br_md j').2.2.1 + 11) + 48 * (d' + 1) ≤ _; omega⟩, hts _ a8, hts _ a11⟩ ⟨br_blind, hcell, hPc2⟩ rfl (by omega) hsize rfl (lv_room hcat2) hdg ⟨by omega, by omega⟩
    · have hw2 := hq p e R s m args below meth c H1 locs1 (cells + mc) (slots + ms) L Z hC (br_rel_setB hr1) hS1 hL hn (by show cells + mc + ((br_B h).1 - mc) ≤ _; omega) (by show slots + ms + ((br_B h).2 - ms) ≤ _; omega) hret
      rw [List.map_append] at hw2
      have e9 : (v.toList).map (br_gv g0 B0) = (v.map (br_gv g0 B0)).toList := by cases v <;> rfl
      rw [e9] at hw2
      exact hw2
theorem br_k_ivI {i j' na ml mc ms ci : Nat} {r hs0 : List Nat} (hfix : br_fix g0 oS oI oR) (hci : ci ≠ 13) (hokj : j' < 301 → plainFor (br_md j').1 = true ∧ Jvm.Cond.code (br_md j').1 (br_md j').2.1 (br_md j').2.2.1 (br_md j').2.2.2.1 ∈ br_gt ∧ (br_md j').2.2.1 ≤ 29 ∧ j' ≠ 300)
    (hdg : decode (br_md j).2.1 pc = .ok (.invokespecial i, 3)) (hw : br_ivk (br_md j).1.cls i 2 (j' :: na :: ml :: mc :: ms :: ci :: r) hs0 = true)
    (hk : br_iv (br_call (br_snd g0 B0 D cA oS oI oR l) d) (fun n ls st h => br_snd g0 B0 D cA oS oI oR l d j n ls st h Q) (pc + 3) ls st h 1 (j' :: na :: ml :: mc :: ms :: ci :: r)) : br_snd g0 B0 D cA oS oI oR l d j pc ls st h Q := by
  intro p e R s m args below meth c H locs cells slots L Z hC hr hS hL hn hc hs hret
  obtain ⟨hx, hb, hrt, hml, hown, hts, hlk, hinit, hK, hold, hfr, hlo, hcl, hsl, hB0, hj⟩ := id hC
  obtain ⟨a1, a2, a3, a4, a5, a6, a7, a8⟩ := br_ivk_of hw
  obtain ⟨a8, a9, a10, a11⟩ := a8
  obtain ⟨hpl, hcode, hm29, hj300⟩ := hokj a1
  rw [← br_mc_ne hj300] at a3
  obtain ⟨a, as2, rest, hsp, hcat, ha, hk2⟩ := br_iv_inv1 hk
  obtain ⟨x, rfl, hxl, hax⟩ := br_sp_inv _ _ _ _ _ hsp
  rw [List.append_nil] at hax
  obtain ⟨d', rfl, hal, hb1, hb2, hsn⟩ := br_cl_inv a4 hk2
  have hmc : (br_mc j').1 = mc := by rw [a3]
  have hms : (br_mc j').2 = ms := by rw [a3]
  rw [← a2] at hsn hal
  have hM := br_met (g0 := g0) (D := D) (cA := cA) (as := Value.ref a :: as2) (H := H) hfix hpl a1 hsn (by rw [a3]) hal (h := br_setB h (mc, ms)) (br_rel_setB hr)
  rw [hmc, hms] at hM
  have hcat2 : ((rest.map (br_gv g0 B0)).map fun v => v.category).sum ≤ 8 := by rw [br_cat_eq (br_catg hfix.2.1)]; exact hcat
  have hsize : L.size = (br_md j).2.2.1 := by rw [hL.1]; exact hn
  have hPc : ∀ U : State, U.heap = H → s.WarmedH U.vm → br_Pc g0 B0 D cA oS oI (Value.ref a :: as2) H ((Value.ref a :: as2).map (br_gv g0 B0)).toArray U := fun U hU hW => ⟨rfl, hU, va_K.moved hW.alike hK, (by rw [hU]; exact (br_old.kept hS.2.1 hold).warm hW), (by rw [hU]; exact Nat.le_trans hB0 hS.1)⟩
  have h8 : 8 ≤ a := by
    rcases Nat.lt_or_ge a 8 with q | q
    · exfalso
      have e1 := (br_shold hr q).1
      rw [ha] at e1
      have h2 := (hfix.2.2.1 a q (by rw [← e1])).2
      rw [← e1] at h2
      exact hci h2
    · exact q
  obtain ⟨bq, hbq⟩ : ∃ bq : Nat, br_gv g0 B0 (.ref a) = .ref bq := ⟨_, br_g_ref h8⟩
  rw [List.map_append]
  have hst : x.map (br_gv g0 B0) ++ rest.map (br_gv g0 B0) = (as2.map (br_gv g0 B0)).reverse ++ .ref bq :: rest.map (br_gv g0 B0) := by
    have e8 : x = (Value.ref a :: as2).reverse := by rw [hax]; simp
    rw [e8, List.map_reverse, List.map_cons, hbq]; simp
  rw [hst]
  have hlen : (as2.map (br_gv g0 B0)).length + 1 = na := by
    have e8 : x.length = (Value.ref a :: as2).length := by rw [hax]; simp
    rw [← hxl, e8]; simp
  obtain ⟨na', rfl⟩ : ∃ na', na = na' + 1 := ⟨_, hlen.symm⟩
  have hpar : (parseMethodDescriptor (br_md j').1.desc).map (fun d => d.parameters.length) = some na' := by
    cases hz : parseMethodDescriptor (br_md j').1.desc with
    | none => rw [hz] at a9; cases a9
    | some y => rw [hz] at a9; simp at a9 ⊢; omega
  have e7 : ((Value.ref a :: as2).map (br_gv g0 B0)).toArray = (Value.ref bq :: as2.map (br_gv g0 B0)).toArray := by rw [List.map_cons, hbq]
  have hPc2 : ∀ U : State, U.heap = H → s.WarmedH U.vm → br_Pc g0 B0 D cA oS oI (Value.ref a :: as2) H (Value.ref bq :: as2.map (br_gv g0 B0)).toArray U := fun U hU hW => by rw [← e7]; exact hPc U hU hW
  have hgd := br_good hcode
  rw [a11] at hcode
  have hMw : br_wds j' = Jvm.Cond.code (br_md j').1 (br_md j').2.1 (br_md j').2.2.1 none :: br_gt := by unfold br_wds; rw [a11]
  rcases a5 with a5 | a5
  · refine br_after (g0 := g0) (D := D) (cA := cA) (oS := oS) (oI := oI) (oR := oR) (mc := mc) (ms := ms) (rest := rest.map (br_gv g0 B0)) (a := (Value.ref bq :: as2.map (br_gv g0 B0)).toArray) (Q' := fun v h' => br_snd g0 B0 D cA oS oI oR l (d' + 1) j (pc + 3) ls (v.toList ++ rest) (br_setB h' ((br_B h).1 - mc, (br_B h).2 - ms)) Q) ?_ hS (fun v h' H1 locs1 hq hr1 hS1 => ?_)
    · exact va_runI (As := as2.map (br_gv g0 B0)) (n := na') (b := bq) ⟨hx, hb, hml, hown, hts⟩ hM ⟨callB_of na' hts hgd hMw hmc hms (hts _ a6) (hts _ a5) ⟨a7.1, a7.2, hpar⟩ ⟨by show d' + 1 + 1 ≤ _; omega, by show 8 + ((br_md j').2.2.1 + 11) + 48 * (d' + 1) ≤ _; omega⟩, a10, hts _ a8⟩ ⟨br_blind, hPc2⟩ rfl (by omega) hsize rfl (lv_room hcat2) hdg ⟨by omega, by omega⟩
    · have hw2 := hq p e R s m args below meth c H1 locs1 (cells + mc) (slots + ms) L Z hC (br_rel_setB hr1) hS1 hL hn (by show cells + mc + ((br_B h).1 - mc) ≤ _; omega) (by show slots + ms + ((br_B h).2 - ms) ≤ _; omega) hret
      rw [List.map_append] at hw2
      have e9 : (v.toList).map (br_gv g0 B0) = (v.map (br_gv g0 B0)).toList := by cases v <;> rfl
      rw [e9] at hw2
      exact hw2
  · refine br_after (g0 := g0) (D := D) (cA := cA) (oS := oS) (oI := oI) (oR := oR) (mc := mc) (ms := ms) (rest := rest.map (br_gv g0 B0)) (a := (Value.ref bq :: as2.map (br_gv g0 B0)).toArray) (Q' := fun v h' => br_snd g0 B0 D cA oS oI oR l (d' + 1) j (pc + 3) ls (v.toList ++ rest) (br_setB h' ((br_B h).1 - mc, (br_B h).2 - ms)) Q) ?_ hS (fun v h' H1 locs1 hq hr1 hS1 => ?_)
    · exact va_runIN (As := as2.map (br_gv g0 B0)) (n := na') (b := bq) ⟨hx, hb, hml, hown, hts⟩ hM ⟨va_cnB na' hts hgd hMw hmc hms (hold.2.2.2.2.2.2.2.1 _ _ _ _ a5) (hts _ a6) ⟨a7.1, a7.2, hpar⟩ ⟨by show d' + 1 + 1 ≤ _; omega, by show 8 + ((br_md j').2.2.1 + 11) + 48 * (d' + 1) ≤ _; omega⟩, a10, hts _ a8⟩ ⟨br_blind, hPc2⟩ rfl (by omega) hsize rfl (lv_room hcat2) hdg ⟨by omega, by omega⟩
    · have hw2 := hq p e R s m args below meth c H1 locs1 (cells + mc) (slots + ms) L Z hC (br_rel_setB hr1) hS1 hL hn (by show cells + mc + ((br_B h).1 - mc) ≤ _; omega) (by show slots + ms + ((br_B h).2 - ms) ≤ _; omega) hret
      rw [List.map_append] at hw2
      have e9 : (v.toList).map (br_gv g0 B0) = (v.map (br_gv g0 B0)).toList := by cases v <;> rfl
      rw [e9] at hw2
      exact hw2
end BRQ
