section BRH
variable {g0 : Nat → Value} {B0 : Nat} {D : va_G} {cA : Nat → ClassId} {oS : Nat → Nat × Nat} {oI : Nat → Nat → Int32} {oR : Nat → Nat → Nat} {l : Launch} {d j pc : Nat} {ls : br_V} {st : List Value} {h : br_H} {Q : br_Q}
theorem br_k_ldcI {i v : Nat} (hfix : br_fix g0 oS oI oR) (hdg : decode (br_md j).2.1 pc = .ok (.ldc i, 2)) (hw : Jvm.Cond.constant (br_md j).1.cls i (Int32.ofNat v) ∈ br_gt) (hk : br_snd g0 B0 D cA oS oI oR l d j (pc + 2) ls (.int (Int32.ofNat v) :: st) h Q) : br_snd g0 B0 D cA oS oI oR l d j pc ls st h Q := by
  intro p e R s m args below meth c H locs cells slots L Z hC hr hS hL hn hc hs hret
  obtain ⟨hx, hb, hrt, hml, hown, hts, hlk, hinit, hK, hold, hfr, hlo, hcl, hsl, hB0, hj⟩ := id hC
  exact lv_ldc hx hb hown (hts _ hw) hdg (hk p e R s m args below meth c H locs cells slots L Z hC hr hS hL hn hc hs hret)
theorem br_k_ldcW {i v : Nat} (hfix : br_fix g0 oS oI oR) (hdg : decode (br_md j).2.1 pc = .ok (.ldc_w i, 3)) (hw : Jvm.Cond.constant (br_md j).1.cls i (Int32.ofNat v) ∈ br_gt) (hk : br_snd g0 B0 D cA oS oI oR l d j (pc + 3) ls (.int (Int32.ofNat v) :: st) h Q) : br_snd g0 B0 D cA oS oI oR l d j pc ls st h Q := by
  intro p e R s m args below meth c H locs cells slots L Z hC hr hS hL hn hc hs hret
  obtain ⟨hx, hb, hrt, hml, hown, hts, hlk, hinit, hK, hold, hfr, hlo, hcl, hsl, hB0, hj⟩ := id hC
  exact lv_ldcw hx hb hown (hts _ hw) hdg (hk p e R s m args below meth c H locs cells slots L Z hC hr hS hL hn hc hs hret)
theorem br_k_ldc2 {i v : Nat} (hfix : br_fix g0 oS oI oR) (hdg : decode (br_md j).2.1 pc = .ok (.ldc2_w i, 3)) (hw : Jvm.Cond.constantLong (br_md j).1.cls i (Int64.ofNat v) ∈ br_gt) (hk : br_snd g0 B0 D cA oS oI oR l d j (pc + 3) ls (.long (Int64.ofNat v) :: st) h Q) : br_snd g0 B0 D cA oS oI oR l d j pc ls st h Q := by
  intro p e R s m args below meth c H locs cells slots L Z hC hr hS hL hn hc hs hret
  obtain ⟨hx, hb, hrt, hml, hown, hts, hlk, hinit, hK, hold, hfr, hlo, hcl, hsl, hB0, hj⟩ := id hC
  exact lv_ldc2 hx hb hown (hts _ hw) hdg (hk p e R s m args below meth c H locs cells slots L Z hC hr hS hL hn hc hs hret)
theorem br_k_ldcS {i q : Nat} (hfix : br_fix g0 oS oI oR) (hdg : decode (br_md j).2.1 pc = .ok (.ldc i, 2)) (hw : (br_md j).1.cls = "BloomRooms$Tokens" ∧ i = 86 ∧ q = 3 ∨ (br_md j).1.cls = "BloomRoomsModel" ∧ i = 91 ∧ q = 5) (hk : br_snd g0 B0 D cA oS oI oR l d j (pc + 2) ls (.ref q :: st) h Q) : br_snd g0 B0 D cA oS oI oR l d j pc ls st h Q := by
  intro p e R s m args below meth c H locs cells slots L Z hC hr hS hL hn hc hs hret
  obtain ⟨hx, hb, hrt, hml, hown, hts, hlk, hinit, hK, hold, hfr, hlo, hcl, hsl, hB0, hj⟩ := id hC
  have hw2 := hk p e R s m args below meth c H locs cells slots L Z hC hr hS hL hn hc hs hret
  rw [List.map_cons] at hw2
  rcases hw with ⟨e1, rfl, rfl⟩ | ⟨e1, rfl, rfl⟩
  · obtain ⟨tx, t, a1, a2⟩ := hold.2.2.2.2.2.1
    have e2 : br_gv g0 B0 (.ref 3) = .ref t := a1
    rw [e2] at hw2
    exact va_ldcS hx hb hown (by rw [e1]; exact a2) hdg hw2
  · obtain ⟨tx, t, a1, a2⟩ := hold.2.2.2.2.2.2.1
    have e2 : br_gv g0 B0 (.ref 5) = .ref t := a1
    rw [e2] at hw2
    exact va_ldcS hx hb hown (by rw [e1]; exact a2) hdg hw2
theorem br_k_gsI {i : Nat} (hfix : br_fix g0 oS oI oR) (hdg : decode (br_md j).2.1 pc = .ok (.getstatic i, 3)) (hw : Jvm.Cond.fieldLink (br_md j).1.cls i "java/lang/String" "COMPACT_STRINGS" "Z" ∈ br_gt) (hk : br_snd g0 B0 D cA oS oI oR l d j (pc + 3) ls (.int (Int32.ofNat 1) :: st) h Q) : br_snd g0 B0 D cA oS oI oR l d j pc ls st h Q := by
  intro p e R s m args below meth c H locs cells slots L Z hC hr hS hL hn hc hs hret
  obtain ⟨hx, hb, hrt, hml, hown, hts, hlk, hinit, hK, hold, hfr, hlo, hcl, hsl, hB0, hj⟩ := id hC
  exact va_gets hx hb hold.2.2.2.1 hS hown (hts _ hw) (fun _ z => z) hdg (hk p e R s m args below meth c H locs cells slots L Z hC hr hS hL hn hc hs hret)
theorem br_k_gsM {i : Nat} (hfix : br_fix g0 oS oI oR) (hdg : decode (br_md j).2.1 pc = .ok (.getstatic i, 3)) (hw : Jvm.Cond.fieldLink (br_md j).1.cls i "BloomRooms$Reader" "MOST" "[I" ∈ br_gt) (hk : br_snd g0 B0 D cA oS oI oR l d j (pc + 3) ls (.ref 2 :: st) h Q) : br_snd g0 B0 D cA oS oI oR l d j pc ls st h Q := by
  intro p e R s m args below meth c H locs cells slots L Z hC hr hS hL hn hc hs hret
  obtain ⟨hx, hb, hrt, hml, hown, hts, hlk, hinit, hK, hold, hfr, hlo, hcl, hsl, hB0, hj⟩ := id hC
  have e2 : br_gv g0 B0 (.ref 2) = g0 2 := rfl
  have hw2 := hk p e R s m args below meth c H locs cells slots L Z hC hr hS hL hn hc hs hret
  rw [List.map_cons, e2] at hw2
  exact va_gets hx hb hold.2.2.1 hS hown (hts _ hw) (fun _ z => z) hdg hw2
theorem br_k_gsF {i : Nat} (hfix : br_fix g0 oS oI oR) (hdg : decode (br_md j).2.1 pc = .ok (.getstatic i, 3)) (hw : Jvm.Cond.fieldLink (br_md j).1.cls i "jdk/internal/util/Preconditions" "SIOOBE_FORMATTER" "Ljava/util/function/BiFunction;" ∈ br_gt) (hk : br_snd g0 B0 D cA oS oI oR l d j (pc + 3) ls (.ref 7 :: st) h Q) : br_snd g0 B0 D cA oS oI oR l d j pc ls st h Q := by
  intro p e R s m args below meth c H locs cells slots L Z hC hr hS hL hn hc hs hret
  obtain ⟨hx, hb, hrt, hml, hown, hts, hlk, hinit, hK, hold, hfr, hlo, hcl, hsl, hB0, hj⟩ := id hC
  have e2 : br_gv g0 B0 (.ref 7) = g0 7 := rfl
  have hw2 := hk p e R s m args below meth c H locs cells slots L Z hC hr hS hL hn hc hs hret
  rw [List.map_cons, e2] at hw2
  exact va_gets hx hb hold.2.2.2.2.1 hS hown (hts _ hw) (fun _ z => z) hdg hw2
theorem br_k_getf {i ci k ty : Nat} (hfix : br_fix g0 oS oI oR) (hdg : decode (br_md j).2.1 pc = .ok (.getfield i, 3)) (hci : ci < 13) (hw : Jvm.Cond.fieldLink (br_md j).1.cls i (br_fld ci k).1 (br_fld ci k).2.1 (br_fld ci k).2.2.1 ∈ br_gt) (hkN : k < br_cN ci) (hty : (br_tyc.getD ci [])[k]? = some ty) (hk : br_pr (fun a r => br_sh h a = (0, ci) ∧ br_snd g0 B0 D cA oS oI oR l d j (pc + 3) ls (br_fv h ty a k :: r) h Q) st) : br_snd g0 B0 D cA oS oI oR l d j pc ls st h Q := by
  intro p e R s m args below meth c H locs cells slots L Z hC hr hS hL hn hc hs hret
  obtain ⟨hx, hb, hrt, hml, hown, hts, hlk, hinit, hK, hold, hfr, hlo, hcl, hsl, hB0, hj⟩ := id hC
  obtain ⟨a, r, rfl, ha, hk⟩ := br_pr_inv hk
  obtain ⟨C, T, N, Y, q1, q2, q3, q4, q5, q6, q7, q8⟩ := br_clsx ci hci
  have e1 : br_fld ci k = T k := by unfold br_fld; rw [q1]
  have e2 : br_cN ci = N := by unfold br_cN; rw [q1]
  rw [e1] at hw
  rw [e2] at hkN
  have h8 := br_obj8 hfix hr ha hci
  have hg := br_get hr h8 (br_ne9 ha)
  rw [br_ce0 ha] at hg
  have hw2 := hk p e R s m args below meth c H locs cells slots L Z hC hr hS hL hn hc hs hret
  rw [List.map_cons] at hw2 ⊢
  rw [br_g_ref h8]
  refine va_get hx hb hts q2 hown hK hr.2.2.1 (a - 8) hg q1 k hkN (hts _ hw) (fun _ z => z) (v := br_fvc B0 h ty a k) ?_ hdg ?_
  · rw [br_fs_get, hty]; simp
  · have e3 : br_fvc B0 h ty a k = br_gv g0 B0 (br_fv h ty a k) := by
      match ty with
      | 0 => rfl
      | 1 => rfl
      | n + 2 => exact br_refs hfix hr h8
    rw [e3]
    exact hw2
theorem br_k_getS {i k ty : Nat} (hfix : br_fix g0 oS oI oR) (hdg : decode (br_md j).2.1 pc = .ok (.getfield i, 3)) (hw : Jvm.Cond.fieldLink (br_md j).1.cls i "java/lang/String" "value" "[B" ∈ br_gt ∧ k = 0 ∧ ty = 2 ∨ Jvm.Cond.fieldLink (br_md j).1.cls i "java/lang/String" "coder" "B" ∈ br_gt ∧ k = 1 ∧ ty = 0) (hk : br_pr (fun a r => br_sh h a = (0, 13) ∧ br_snd g0 B0 D cA oS oI oR l d j (pc + 3) ls (br_fv h ty a k :: r) h Q) st) : br_snd g0 B0 D cA oS oI oR l d j pc ls st h Q := by
  intro p e R s m args below meth c H locs cells slots L Z hC hr hS hL hn hc hs hret
  obtain ⟨hx, hb, hrt, hml, hown, hts, hlk, hinit, hK, hold, hfr, hlo, hcl, hsl, hB0, hj⟩ := id hC
  obtain ⟨a, r, rfl, ha, hk⟩ := br_pr_inv hk
  have h8 : a < 8 := by
    rcases Nat.lt_or_ge a 8 with q | q
    · exact q
    · have := hr.2.2.2.2.2.2.2 a q (by rw [ha])
      rw [ha] at this
      exact absurd this (by decide)
  obtain ⟨e1, e2, e3⟩ := br_shold hr h8
  have hp := (hfix.2.2.1 a h8 (by rw [← e1, ha])).1
  obtain ⟨t, u, t1, t2, o1, o2, o3⟩ := hold.2.1 a hp
  have e4 : br_gv g0 B0 (.ref a) = .ref t := by
    show br_g g0 B0 a = _
    unfold br_g
    rw [if_neg (by omega), t1]
  have hw2 := hk p e R s m args below meth c H locs cells slots L Z hC hr hS hL hn hc hs hret
  rw [List.map_cons] at hw2 ⊢
  rw [e4]
  rcases hw with ⟨hw, rfl, rfl⟩ | ⟨hw, rfl, rfl⟩
  · have e5 : br_fv h 2 a 0 = .ref (a + 1) := by
      show Value.ref (br_R h a 0) = _
      rw [e3]
      rcases hp with rfl | rfl
      · rw [hfix.2.2.2.2.2.2.1]
      · rw [hfix.2.2.2.2.2.2.2.1]
    have e6 : br_gv g0 B0 (.ref (a + 1)) = .ref u := by
      show br_g g0 B0 (a + 1) = _
      unfold br_g
      rw [if_neg (by omega), t2]
    rw [e5, e6] at hw2
    exact vk_getf hx hb o2 hS hown (hts _ hw) (fun _ z => z) hdg hw2
  · have e5 : br_fv h 0 a 1 = .int 0 := by
      show Value.int (br_I h a 1) = _
      rw [e2]
      rcases hp with rfl | rfl
      · rw [hfix.2.2.2.2.2.2.2.2.1]
      · rw [hfix.2.2.2.2.2.2.2.2.2]
    rw [e5] at hw2
    exact vk_getf hx hb o3 hS hown (hts _ hw) (fun _ z => z) hdg hw2
end BRH
