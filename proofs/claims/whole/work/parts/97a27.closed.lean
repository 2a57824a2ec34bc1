/-- no int that ldc loads is the number of a String's place -/
def br_lno : Instr → List Nat → Bool
  | .ldc _, 0 :: v :: _ => v != 3 && v != 5
  | .invokespecial _, k :: _ :: _ :: _ :: _ :: _ :: ci :: _ => k == 3 || ci != 13
  | .invokevirtual _, j :: _ => (br_md j).1.cls != ""
  | _, _ => true
set_option maxRecDepth 100000 in
theorem br_lnos : (List.range 301).all (fun j => (br_code j).all (fun e => br_lno e.2.1 e.2.2.2)) = true := by decide +kernel
theorem br_lno_of {j pc : Nat} {e : Instr × Nat × List Nat} (hj : j < 301) (h : br_cd j pc = some e) : br_lno e.1 e.2.2 = true := by
  have h1 := List.all_eq_true.mp br_lnos j (List.mem_range.mpr hj)
  exact List.all_eq_true.mp h1 _ (br_find_mem _ _ _ h)
/-- no call of the law itself -/
def br_lnc : Instr → List Nat → Bool
  | .invokestatic _, k :: j :: _ => k == 4 || decide ((br_code j) ≠ [] ∧ j ≠ 300)
  | .invokespecial _, k :: j :: _ => k == 3 || decide ((br_code j) ≠ [] ∧ j ≠ 300)
  | .invokevirtual _, j :: _ => decide ((br_code j) ≠ [] ∧ j ≠ 300)
  | _, _ => true
set_option maxRecDepth 100000 in
theorem br_lncs : (List.range 301).all (fun j => (br_code j).all (fun e => br_lnc e.2.1 e.2.2.2)) = true := by decide +kernel
theorem br_lnc_of {j pc : Nat} {e : Instr × Nat × List Nat} (hj : j < 301) (h : br_cd j pc = some e) : br_lnc e.1 e.2.2 = true := by
  have h1 := List.all_eq_true.mp br_lncs j (List.mem_range.mpr hj)
  exact List.all_eq_true.mp h1 _ (br_find_mem _ _ _ h)
theorem br_okt {j : Nat} (hj : j < 301) (h : br_code j ≠ [] ∧ j ≠ 300) : plainFor (br_md j).1 = true ∧ Jvm.Cond.code (br_md j).1 (br_md j).2.1 (br_md j).2.2.1 (br_md j).2.2.2.1 ∈ br_gt ∧ (br_md j).2.2.1 ≤ 29 ∧ j ≠ 300 := by
  rcases br_okall j hj with q | q
  · obtain ⟨z1, z2, z3⟩ := br_okj j q h.2
    exact ⟨z1, z2, z3, h.2⟩
  · exact absurd q h.1
section BRF
variable {g0 : Nat → Value} {B0 : Nat} {D : va_G} {cA : Nat → ClassId} {oS : Nat → Nat × Nat} {oI : Nat → Nat → Int32} {oR : Nat → Nat → Nat} {l : Launch}
theorem br_chk_st {own : String} {init : Bool} {rt : Option FieldType} {pc i q : Nat} {r hs : List Nat} (h : br_chk own init rt pc (.invokestatic i) (q :: r) hs = true) (hq : q ≠ 4) : br_ivk own i 0 r hs = true := by
  unfold br_chk at h
  split at h <;> simp_all
theorem br_chk_sp {own : String} {init : Bool} {rt : Option FieldType} {pc i q : Nat} {r hs : List Nat} (h : br_chk own init rt pc (.invokespecial i) (q :: r) hs = true) (hq : q ≠ 3) : br_ivk own i 2 r hs = true := by
  unfold br_chk at h
  split at h <;> simp_all
theorem br_k_obj {d j pc i : Nat} {ls : br_V} {st : List Value} {h : br_H} {Q : br_Q} (hfix : br_fix g0 oS oI oR) (hdg : decode (br_md j).2.1 pc = .ok (.invokespecial i, 3)) (w1 : Jvm.Cond.methodLink (br_md j).1.cls i objectInit ∈ br_gt) (w2 : Jvm.Cond.instanceMethod objectInit ∈ br_gt) (w3 : Jvm.Cond.code objectInit ⟨#[0xb1]⟩ 1 none ∈ br_gt) (hcat : br_cat st ≤ 8)
    (hk : br_pr (fun a r => 8 ≤ a ∧ br_snd g0 B0 D cA oS oI oR l d j (pc + 3) ls r h Q) st) : br_snd g0 B0 D cA oS oI oR l d j pc ls st h Q := by
  intro p e R s m args below meth c H locs cells slots L Z hC hr hS hL hn hc hs hret
  obtain ⟨hx, hb, hrt, hml, hown, hts, hlk, hinit, hK, hold, hfr, hlo, hcl, hsl, hB0, hj⟩ := id hC
  obtain ⟨a, r, rfl, h8, hk⟩ := br_pr_inv hk
  rw [List.map_cons, br_g_ref h8]
  refine W.objInit hx hb hown (hts _ w1) (hts _ w2) (hts _ w3) rfl (by rw [hml, ← hn, ← hL.1]) rfl hdg (by omega) ?_ (hk p e R s m args below meth c H locs cells slots L Z hC hr hS hL hn hc hs hret)
  rw [br_cat_eq (br_catg hfix.2.1)]
  have : br_cat (Value.ref a :: r) = 1 + br_cat r := rfl
  show 2 * 0 + br_cat r + 12 ≤ _
  omega
set_option maxHeartbeats 4000000 in
theorem br_closed (hfix : br_fix g0 oS oI oR) : ∀ d j pc ls st h Q, br_stp br_cd (br_snd g0 B0 D cA oS oI oR l) d j pc ls st h Q → br_snd g0 B0 D cA oS oI oR l d j pc ls st h Q := by
  intro d j pc ls st h Q hs p e R s m args below meth c H locs cells slots L Z hC hr hS hL hn hc hs' hret
  have hj : j < 301 := hC.2.2.2.2.2.2.2.2.2.2.2.2.2.2.2
  unfold br_stp at hs
  split at hs
  · exact hs.elim
  next e0 heq =>
  obtain ⟨ins, len, res⟩ := e0
  have hlen := br_len_of hj heq
  have hlni := br_lni_of hj heq
  have hlno := br_lno_of hj heq
  have hlnc := br_lnc_of hj heq
  have hok : br_okm j := by
    rcases br_okall j hj with q | q
    · exact q
    · unfold br_cd at heq
      rw [q] at heq
      cases heq
  obtain ⟨hdg, hs0, hchk⟩ := br_chk_of hok heq
  rw [← hn] at hlni
  refine (?_ : br_snd g0 B0 D cA oS oI oR l d j pc ls st h Q) p e R s m args below meth c H locs cells slots L Z hC hr hS hL hn hc hs' hret
  clear hret hs' hc hn hL hS hr hC
  unfold br_st at hs
  dsimp only at hs hdg hchk hlen hlni hlno hlnc
  cases ins
  all_goals (try exact hs.elim)
  all_goals (try dsimp only at hs)
  case iload i =>
    obtain rfl : len = 2 := by simpa [br_ln] using hlen
    exact br_k_iload hfix hdg hs
  case iload_n i =>
    obtain rfl : len = 1 := by simpa [br_ln] using hlen
    exact br_k_iload_n hfix hdg hs
  case lload i =>
    obtain rfl : len = 2 := by simpa [br_ln] using hlen
    exact br_k_lload hfix hdg hs
  case lload_n i =>
    obtain rfl : len = 1 := by simpa [br_ln] using hlen
    exact br_k_lload_n hfix hdg hs
  case aload i =>
    obtain rfl : len = 2 := by simpa [br_ln] using hlen
    exact br_k_aload hfix hdg hs
  case aload_n i =>
    obtain rfl : len = 1 := by simpa [br_ln] using hlen
    exact br_k_aload_n hfix hdg hs
  case istore i =>
    obtain rfl : len = 2 := by simpa [br_ln] using hlen
    exact br_k_istore hfix hdg (by
      obtain ⟨x, r, rfl, hk⟩ := br_pi_inv hs
      exact ⟨by simpa [br_lni] using hlni, hk⟩)
  case istore_n i =>
    obtain rfl : len = 1 := by simpa [br_ln] using hlen
    exact br_k_istore_n hfix hdg (by
      obtain ⟨x, r, rfl, hk⟩ := br_pi_inv hs
      exact ⟨by simpa [br_lni] using hlni, hk⟩)
  case astore i =>
    obtain rfl : len = 2 := by simpa [br_ln] using hlen
    exact br_k_astore hfix hdg (by
      obtain ⟨x, r, rfl, hk⟩ := br_pr_inv hs
      exact ⟨by simpa [br_lni] using hlni, hk⟩)
  case astore_n i =>
    obtain rfl : len = 1 := by simpa [br_ln] using hlen
    exact br_k_astore_n hfix hdg (by
      obtain ⟨x, r, rfl, hk⟩ := br_pr_inv hs
      exact ⟨by simpa [br_lni] using hlni, hk⟩)
  case lstore i =>
    obtain rfl : len = 2 := by simpa [br_ln] using hlen
    exact br_k_lstore hfix hdg (by
      obtain ⟨x, r, rfl, hk⟩ := br_pl_inv hs
      exact ⟨by simpa [br_lni] using hlni, hk⟩)
  case lstore_n i =>
    obtain rfl : len = 1 := by simpa [br_ln] using hlen
    exact br_k_lstore_n hfix hdg (by
      obtain ⟨x, r, rfl, hk⟩ := br_pl_inv hs
      exact ⟨by simpa [br_lni] using hlni, hk⟩)
  case iconst n =>
    obtain rfl : len = 1 := by simpa [br_ln] using hlen
    exact br_k_iconst hfix hdg hs
  case lconst n =>
    obtain rfl : len = 1 := by simpa [br_ln] using hlen
    exact br_k_lconst hfix hdg hs
  case bipush n =>
    obtain rfl : len = 2 := by simpa [br_ln] using hlen
    exact br_k_bipush hfix hdg hs
  case sipush n =>
    obtain rfl : len = 3 := by simpa [br_ln] using hlen
    exact br_k_sipush hfix hdg hs
  case iadd  =>
    obtain rfl : len = 1 := by simpa [br_ln] using hlen
    exact br_k_iadd hfix hdg hs
  case isub  =>
    obtain rfl : len = 1 := by simpa [br_ln] using hlen
    exact br_k_isub hfix hdg hs
  case imul  =>
    obtain rfl : len = 1 := by simpa [br_ln] using hlen
    exact br_k_imul hfix hdg hs
  case idiv  =>
    obtain rfl : len = 1 := by simpa [br_ln] using hlen
    exact br_k_idiv hfix hdg hs
  case irem  =>
    obtain rfl : len = 1 := by simpa [br_ln] using hlen
    exact br_k_irem hfix hdg hs
  case ineg  =>
    obtain rfl : len = 1 := by simpa [br_ln] using hlen
    exact br_k_ineg hfix hdg hs
  case iand  =>
    obtain rfl : len = 1 := by simpa [br_ln] using hlen
    exact br_k_iand hfix hdg hs
  case ior  =>
    obtain rfl : len = 1 := by simpa [br_ln] using hlen
    exact br_k_ior hfix hdg hs
  case ixor  =>
    obtain rfl : len = 1 := by simpa [br_ln] using hlen
    exact br_k_ixor hfix hdg hs
  case ishl  =>
    obtain rfl : len = 1 := by simpa [br_ln] using hlen
    exact br_k_ishl hfix hdg hs
  case ishr  =>
    obtain rfl : len = 1 := by simpa [br_ln] using hlen
    exact br_k_ishr hfix hdg hs
  case iushr  =>
    obtain rfl : len = 1 := by simpa [br_ln] using hlen
    exact br_k_iushr hfix hdg hs
  case ladd  =>
    obtain rfl : len = 1 := by simpa [br_ln] using hlen
    exact br_k_ladd hfix hdg hs
  case lsub  =>
    obtain rfl : len = 1 := by simpa [br_ln] using hlen
    exact br_k_lsub hfix hdg hs
  case lmul  =>
    obtain rfl : len = 1 := by simpa [br_ln] using hlen
    exact br_k_lmul hfix hdg hs
  case ldiv  =>
    obtain rfl : len = 1 := by simpa [br_ln] using hlen
    exact br_k_ldiv hfix hdg hs
  case lrem  =>
    obtain rfl : len = 1 := by simpa [br_ln] using hlen
    exact br_k_lrem hfix hdg hs
  case lneg  =>
    obtain rfl : len = 1 := by simpa [br_ln] using hlen
    exact br_k_lneg hfix hdg hs
  case land  =>
    obtain rfl : len = 1 := by simpa [br_ln] using hlen
    exact br_k_land hfix hdg hs
  case lor  =>
    obtain rfl : len = 1 := by simpa [br_ln] using hlen
    exact br_k_lor hfix hdg hs
  case lxor  =>
    obtain rfl : len = 1 := by simpa [br_ln] using hlen
    exact br_k_lxor hfix hdg hs
  case lshl  =>
    obtain rfl : len = 1 := by simpa [br_ln] using hlen
    exact br_k_lshl hfix hdg hs
  case lcmp  =>
    obtain rfl : len = 1 := by simpa [br_ln] using hlen
    exact br_k_lcmp hfix hdg hs
  case i2l  =>
    obtain rfl : len = 1 := by simpa [br_ln] using hlen
    exact br_k_i2l hfix hdg hs
  case l2i  =>
    obtain rfl : len = 1 := by simpa [br_ln] using hlen
    exact br_k_l2i hfix hdg hs
  case i2b  =>
    obtain rfl : len = 1 := by simpa [br_ln] using hlen
    exact br_k_i2b hfix hdg hs
  case i2s  =>
    obtain rfl : len = 1 := by simpa [br_ln] using hlen
    exact br_k_i2s hfix hdg hs
  case i2c  =>
    obtain rfl : len = 1 := by simpa [br_ln] using hlen
    exact br_k_i2c hfix hdg hs
  case pop  =>
    obtain rfl : len = 1 := by simpa [br_ln] using hlen
    exact br_k_pop hfix hdg hs
  case dup  =>
    obtain rfl : len = 1 := by simpa [br_ln] using hlen
    exact br_k_dup hfix hdg hs
  case dup2  =>
    obtain rfl : len = 1 := by simpa [br_ln] using hlen
    exact br_k_dup2 hfix hdg hs
  case iinc i n =>
    obtain rfl : len = 3 := by simpa [br_ln] using hlen
    exact br_k_iinc hfix hdg hs
  case ldc i =>
    obtain rfl : len = 2 := by simpa [br_ln] using hlen
    split at hs
    · next v tl =>
      refine br_k_ldcI hfix hdg ?_ hs
      simp only [br_lno, Bool.and_eq_true, bne_iff_ne] at hlno
      cases hs0 with
      | nil =>
        simp only [br_chk, decide_eq_true_eq] at hchk
        omega
      | cons p0 t0 => exact br_is_mem hchk
    · next q w tl hne =>
      refine br_k_ldcS hfix hdg ?_ hs
      cases q with
      | zero => exact absurd rfl hne
      | succ q => simpa only [br_chk, decide_eq_true_eq] using hchk
    · exact hs.elim
  case ldc_w i =>
    obtain rfl : len = 3 := by simpa [br_ln] using hlen
    split at hs
    · cases hs0 with
      | nil => simp [br_chk] at hchk
      | cons p0 t0 => exact br_k_ldcW hfix hdg (br_is_mem hchk) hs
    · exact hs.elim
  case ldc2_w i =>
    obtain rfl : len = 3 := by simpa [br_ln] using hlen
    split at hs
    · cases hs0 with
      | nil => simp [br_chk] at hchk
      | cons p0 t0 => exact br_k_ldc2 hfix hdg (br_is_mem hchk) hs
    · exact hs.elim
  case ifCond cc off =>
    obtain rfl : len = 3 := by simpa [br_ln] using hlen
    split at hs
    · exact br_k_if hfix hdg ⟨by simpa [br_chk] using hchk, hs⟩
    · exact hs.elim
  case if_icmp cc off =>
    obtain rfl : len = 3 := by simpa [br_ln] using hlen
    split at hs
    · exact br_k_icmp hfix hdg ⟨by simpa [br_chk] using hchk, hs⟩
    · exact hs.elim
  case goto off =>
    obtain rfl : len = 3 := by simpa [br_ln] using hlen
    split at hs
    · exact br_k_goto hfix hdg ⟨by simpa [br_chk] using hchk, hs⟩
    · exact hs.elim
  case tableswitch df lo hi offs =>
    split at hs
    · next t0 r0 =>
      obtain ⟨x, r, rfl, hk⟩ := br_pi_inv hs
      simp only [br_chk, Bool.and_eq_true, decide_eq_true_eq] at hchk
      obtain ⟨⟨⟨⟨h1, h2⟩, h3⟩, h4⟩, h5⟩ := hchk
      intro p e R s m args below meth c H locs cells slots L Z hC hr hS hL hn hc hs2 hret
      obtain ⟨hx, hb, -⟩ := id hC
      have hsz : lo + ((0 : Nat) : Int) + offs.toList.length - 1 ≤ 2147483647 := by
        rw [Array.length_toList]; simp; omega
      by_cases hlo : x.toInt < lo
      · have hp := br_tb_lo _ _ 0 h2 h4 hsz hk (by simpa using hlo)
        exact lv_tableOut hx hb hdg (Or.inl hlo) h1 (hp p e R s m args below meth c H locs cells slots L Z hC hr hS hL hn hc hs2 hret)
      · by_cases hhi : hi < x.toInt
        · have hp := (br_tb_sw _ _ 0 h2 h4 hsz hk).1 (Or.inr (by rw [Array.length_toList]; simp; omega))
          rcases hp with hp | hp
          · exact lv_tableOut hx hb hdg (Or.inr hhi) h1 (hp p e R s m args below meth c H locs cells slots L Z hC hr hS hL hn hc hs2 hret)
          · exact absurd (by simpa using hp) hlo
        · obtain ⟨o1, t1, w1, w2, w3⟩ := (br_tb_sw _ _ 0 h2 h4 hsz hk).2 (x.toInt - lo).toNat (by rw [Array.length_toList]; omega) (by simp; omega)
          exact lv_tableIn hx hb hdg hlo hhi (by rw [← Array.getElem?_toList]; exact w1) w2 (w3 p e R s m args below meth c H locs cells slots L Z hC hr hS hL hn hc hs2 hret)
    · exact hs.elim
  case lookupswitch df ps =>
    split at hs
    · next t0 r0 =>
      obtain ⟨x, r, rfl, hk⟩ := br_pi_inv hs
      simp only [br_chk, Bool.and_eq_true, decide_eq_true_eq] at hchk
      obtain ⟨⟨h1, h2⟩, h3⟩ := hchk
      intro p e R s m args below meth c H locs cells slots L Z hC hr hS hL hn hc hs2 hret
      obtain ⟨hx, hb, -⟩ := id hC
      obtain ⟨t1, w1, w2⟩ := br_lk_sw h1 _ _ h2 hk
      exact lv_lookup hx hb hdg h3 rfl w1 (w2 p e R s m args below meth c H locs cells slots L Z hC hr hS hL hn hc hs2 hret)
    · exact hs.elim
  case getstatic i =>
    obtain rfl : len = 3 := by simpa [br_ln] using hlen
    split at hs
    · cases hs0 with
      | nil => simp [br_chk] at hchk
      | cons p0 t0 =>
        simp only [br_chk, Bool.and_eq_true, beq_iff_eq] at hchk
        obtain ⟨h1, rfl⟩ := hchk
        exact br_k_gsI hfix hdg (br_is_mem h1) hs
    · next q w tl hne =>
      cases hs0 with
      | nil => cases q <;> simp [br_chk] at hchk
      | cons p0 t0 =>
        cases q with
        | zero => exact absurd rfl hne
        | succ q =>
          simp only [br_chk, Bool.and_eq_true, Bool.or_eq_true, beq_iff_eq] at hchk
          rcases hchk with ⟨h1, rfl⟩ | ⟨h1, rfl⟩
          · exact br_k_gsM hfix hdg (br_is_mem h1) hs
          · exact br_k_gsF hfix hdg (br_is_mem h1) hs
    · exact hs.elim
  case getfield i =>
    obtain rfl : len = 3 := by simpa [br_ln] using hlen
    split at hs
    · next ci k ty tl =>
      cases hs0 with
      | nil => simp [br_chk] at hchk
      | cons p0 t0 =>
        simp only [br_chk] at hchk
        cases hci : Nat.blt ci 13 with
        | true =>
          rw [hci] at hchk
          simp only [cond_true, Bool.and_eq_true, decide_eq_true_eq] at hchk
          exact br_k_getf hfix hdg (by simpa [Nat.blt_eq] using hci) (br_is_mem hchk.1.1) hchk.1.2 hchk.2 hs
        | false =>
          rw [hci] at hchk
          simp only [cond_false, Bool.and_eq_true, Bool.or_eq_true, decide_eq_true_eq, beq_iff_eq] at hchk
          obtain ⟨rfl, h2⟩ := hchk
          refine br_k_getS hfix hdg ?_ hs
          rcases h2 with ⟨⟨h2, h3⟩, h4⟩ | ⟨⟨h2, h3⟩, h4⟩
          · exact Or.inl ⟨br_is_mem h2, h3, h4⟩
          · exact Or.inr ⟨br_is_mem h2, h3, h4⟩
    · exact hs.elim
  case putfield i =>
    obtain rfl : len = 3 := by simpa [br_ln] using hlen
    have main : ∀ ci k ty tl, res = ci :: k :: ty :: tl → ci < 13 ∧ Jvm.Cond.fieldLink (br_md j).1.cls i (br_fld ci k).1 (br_fld ci k).2.1 (br_fld ci k).2.2.1 ∈ br_gt ∧ k < br_cN ci ∧ (br_tyc.getD ci [])[k]? = some ty ∧ (ty = 0 → (br_fld ci k).2.2.1 = "I") ∧ ty < 3 ∧ ((br_fld ci k).2.2.2 = true → (br_md j).1.name = "<init>" ∧ (br_fld ci k).1 = (br_md j).1.cls) := by
      intro ci k ty tl hre
      subst hre
      cases hs0 with
      | nil => simp [br_chk] at hchk
      | cons p0 t0 =>
        simp only [br_chk, Bool.and_eq_true, Bool.or_eq_true, decide_eq_true_eq, beq_iff_eq, Bool.not_eq_true'] at hchk
        obtain ⟨⟨⟨⟨⟨⟨h1, h2⟩, h3⟩, h4⟩, h5⟩, h6⟩, h7⟩ := hchk
        refine ⟨h1, br_is_mem h2, h3, h4, fun hz => ?_, h6, fun hf => ?_⟩
        · rcases h5 with (h5 | h5) | h5
          · exact h5.1
          · omega
          · omega
        · rcases h7 with h7 | h7
          · rw [hf] at h7; cases h7
          · exact h7
    split at hs
    · obtain ⟨m1, m2, m3, m4, m5, m6, m7⟩ := main _ _ _ _ rfl
      exact br_k_putI hfix hdg m1 m2 m3 m4 (m5 rfl) m7 hs
    · obtain ⟨m1, m2, m3, m4, m5, m6, m7⟩ := main _ _ _ _ rfl
      exact br_k_putL hfix hdg m1 m2 m3 m4 m7 hs
    · next ci k ty tl n0 n1 =>
      obtain ⟨m1, m2, m3, m4, m5, m6, m7⟩ := main _ _ _ _ rfl
      have e2 : ty = 2 := by
        have a0 : ty ≠ 0 := n0
        have a1 : ty ≠ 1 := n1
        omega
      subst e2
      exact br_k_putR hfix hdg m1 m2 m3 m4 m7 hs
    · exact hs.elim
  case iaload  =>
    obtain rfl : len = 1 := by simpa [br_ln] using hlen
    exact br_k_iaload hfix hdg hs
  case baload  =>
    obtain rfl : len = 1 := by simpa [br_ln] using hlen
    exact br_k_baload hfix hdg hs
  case laload  =>
    obtain rfl : len = 1 := by simpa [br_ln] using hlen
    exact br_k_laload hfix hdg hs
  case aaload  =>
    obtain rfl : len = 1 := by simpa [br_ln] using hlen
    exact br_k_aaload hfix hdg hs
  case arraylength  =>
    obtain rfl : len = 1 := by simpa [br_ln] using hlen
    exact br_k_alen hfix hdg hs
  case iastore  =>
    obtain rfl : len = 1 := by simpa [br_ln] using hlen
    exact br_k_iastore hfix hdg hs
  case bastore  =>
    obtain rfl : len = 1 := by simpa [br_ln] using hlen
    exact br_k_bastore hfix hdg hs
  case lastore  =>
    obtain rfl : len = 1 := by simpa [br_ln] using hlen
    exact br_k_lastore hfix hdg hs
  case aastore  =>
    obtain rfl : len = 1 := by simpa [br_ln] using hlen
    exact br_k_aastore hfix hdg hs
  case new i =>
    obtain rfl : len = 3 := by simpa [br_ln] using hlen
    split at hs
    · cases hs0 with
      | nil => simp [br_chk] at hchk
      | cons p0 t0 =>
        rcases t0 with _ | ⟨p1, _ | ⟨p2, t2⟩⟩
        · simp [br_chk] at hchk
        · simp [br_chk] at hchk
        · simp only [br_chk, Bool.and_eq_true, decide_eq_true_eq] at hchk
          obtain ⟨⟨⟨⟨h1, h2⟩, h3⟩, h4⟩, h5⟩ := hchk
          exact br_k_new hdg h1 (br_is_mem h2) (br_is_mem h3) (br_is_mem h4) h5 hs
    · exact hs.elim
  case newarray a =>
    obtain rfl : len = 2 := by simpa [br_ln] using hlen
    split at hs
    · cases hs0 with
      | nil => simp [br_chk] at hchk
      | cons p0 t0 =>
        simp only [br_chk, Bool.and_eq_true, decide_eq_true_eq] at hchk
        exact br_k_newa hdg hchk.1 (br_is_mem hchk.2) hs
    · exact hs.elim
  case anewarray i =>
    obtain rfl : len = 3 := by simpa [br_ln] using hlen
    split at hs
    · cases hs0 with
      | nil => simp [br_chk] at hchk
      | cons p0 t0 =>
        rcases t0 with _ | ⟨p1, t2⟩
        · simp [br_chk] at hchk
        · simp only [br_chk, Bool.and_eq_true, Bool.or_eq_true, beq_iff_eq] at hchk
          rcases hchk with ⟨⟨rfl, h2⟩, h3⟩ | ⟨⟨rfl, h2⟩, h3⟩
          · exact br_k_anew hdg (Or.inl rfl) rfl (br_is_mem h2) (fun s H ho => ho.2.2.2.2.2.2.2.2.1) hs
          · exact br_k_anew hdg (Or.inr rfl) rfl (br_is_mem h2) (fun s H ho => ho.2.2.2.2.2.2.2.2.2.1) hs
    · exact hs.elim
  case multianewarray i dm =>
    obtain rfl : len = 4 := by simpa [br_ln] using hlen
    split at hs
    · cases hs0 with
      | nil => simp [br_chk] at hchk
      | cons p0 t0 =>
        rcases t0 with _ | ⟨p1, _ | ⟨p2, t2⟩⟩
        · simp [br_chk] at hchk
        · simp [br_chk] at hchk
        · simp only [br_chk, Bool.and_eq_true, Bool.or_eq_true, beq_iff_eq] at hchk
          obtain ⟨rfl, hchk⟩ := hchk
          rcases hchk with ⟨⟨⟨⟨rfl, rfl⟩, h2⟩, h3⟩, h4⟩ | ⟨⟨⟨⟨rfl, rfl⟩, h2⟩, h3⟩, h4⟩
          · exact br_k_mna hdg (Or.inl ⟨rfl, rfl, rfl⟩) (br_is_mem h2) (br_is_mem h4) (fun s H ho => ho.2.2.2.2.2.2.2.2.2.2.1) hs
          · exact br_k_mna hdg (Or.inr ⟨rfl, rfl, rfl⟩) (br_is_mem h2) (br_is_mem h4) (fun s H ho => ho.2.2.2.2.2.2.2.2.2.2.2) hs
    · exact hs.elim
  case invokestatic i =>
    obtain rfl : len = 3 := by simpa [br_ln] using hlen
    split at hs
    · rcases hs0 with _ | ⟨p0, _ | ⟨p1, _ | ⟨p2, _ | ⟨p3, t3⟩⟩⟩⟩
      · simp [br_chk] at hchk
      · simp [br_chk] at hchk
      · simp [br_chk] at hchk
      · simp [br_chk] at hchk
      · simp only [br_chk, Bool.and_eq_true] at hchk
        exact br_k_acopy hfix hdg (br_is_mem hchk.1.1.1) (br_is_mem hchk.1.1.2) (br_is_mem hchk.1.2) (br_is_mem hchk.2) hs
    · next q r0 hne =>
      have hq : q ≠ 4 := hne
      have hck := br_chk_st hchk hq
      rcases r0 with _ | ⟨j1, _ | ⟨na, _ | ⟨ml, _ | ⟨mc, _ | ⟨ms, _ | ⟨ci, tl⟩⟩⟩⟩⟩⟩
      · exact hs.elim
      · exact hs.elim
      · exact hs.elim
      · exact hs.elim
      · exact hs.elim
      · exact hs.elim
      · refine br_k_ivS hfix (fun hj1 => br_okt hj1 ?_) hdg hck hs
        simpa [br_lnc, hq] using hlnc
    · exact hs.elim
  case invokevirtual i =>
    obtain rfl : len = 3 := by simpa [br_ln] using hlen
    rcases res with _ | ⟨j1, _ | ⟨na, _ | ⟨ml, _ | ⟨mc, _ | ⟨ms, _ | ⟨ci, tl⟩⟩⟩⟩⟩⟩
    · exact hs.elim
    · exact hs.elim
    · exact hs.elim
    · exact hs.elim
    · exact hs.elim
    · exact hs.elim
    · refine br_k_ivV hfix ?_ (fun hj1 => br_okt hj1 ?_) hdg hchk hs
      · simpa [br_lno] using hlno
      · simpa [br_lnc] using hlnc
  case invokespecial i =>
    obtain rfl : len = 3 := by simpa [br_ln] using hlen
    split at hs
    · split at hs
      · next hble =>
        rcases hs0 with _ | ⟨p0, _ | ⟨p1, _ | ⟨p2, t3⟩⟩⟩
        · simp [br_chk] at hchk
        · simp [br_chk] at hchk
        · simp [br_chk] at hchk
        · simp only [br_chk, Bool.and_eq_true] at hchk
          exact br_k_obj hfix hdg (br_is_mem hchk.1.1) (br_is_mem hchk.1.2) (br_is_mem hchk.2) (Nat.le_of_ble_eq_true hble) hs
      · exact hs.elim
    · next q r0 hne =>
      have hq : q ≠ 3 := hne
      have hck := br_chk_sp hchk hq
      rcases r0 with _ | ⟨j1, _ | ⟨na, _ | ⟨ml, _ | ⟨mc, _ | ⟨ms, _ | ⟨ci, tl⟩⟩⟩⟩⟩⟩
      · exact hs.elim
      · exact hs.elim
      · exact hs.elim
      · exact hs.elim
      · exact hs.elim
      · exact hs.elim
      · refine br_k_ivI hfix ?_ (fun hj1 => br_okt hj1 ?_) hdg hck hs
        · simpa [br_lno, hq] using hlno
        · simpa [br_lnc, hq] using hlnc
    · exact hs.elim
  case ireturn  =>
    obtain rfl : len = 1 := by simpa [br_ln] using hlen
    split at hs
    · next t0 tl =>
      intro p e R s m args below meth c H locs cells slots L Z hC hr hS hL hn hc hs2 hret
      match t0, hs with
      | 0, hs =>
        obtain ⟨x, r, rfl, rfl, hq⟩ := br_pi_inv hs
        exact hret _ h H locs cells slots L pc _ hq hr hS (by omega) (by omega) hdg ⟨rfl, .int, by simpa [br_chk] using hchk, rfl⟩
      | 1, hs =>
        obtain ⟨x, r, rfl, rfl, hx, hq⟩ := br_pi_inv hs
        refine hret _ h H locs cells slots L pc _ hq hr hS (by omega) (by omega) hdg ⟨rfl, .boolean, by simpa [br_chk] using hchk, ?_⟩
        rcases hx with rfl | rfl <;> rfl
      | 2, hs =>
        obtain ⟨x, r, rfl, rfl, hx, hq⟩ := br_pi_inv hs
        refine hret _ h H locs cells slots L pc _ hq hr hS (by omega) (by omega) hdg ⟨rfl, .byte, by simpa [br_chk] using hchk, ?_⟩
        exact congrArg Value.int hx
      | n + 3, hs =>
        obtain ⟨x, r, rfl, rfl, hx, hq⟩ := br_pi_inv hs
        refine hret _ h H locs cells slots L pc _ hq hr hS (by omega) (by omega) hdg ⟨rfl, .char, by simpa [br_chk] using hchk, ?_⟩
        exact congrArg Value.int hx
    · exact hs.elim
  case lreturn  =>
    obtain rfl : len = 1 := by simpa [br_ln] using hlen
    intro p e R s m args below meth c H locs cells slots L Z hC hr hS hL hn hc hs2 hret
    obtain ⟨x, r, rfl, rfl, hq⟩ := br_pl_inv hs
    exact hret _ h H locs cells slots L pc _ hq hr hS (by omega) (by omega) hdg ⟨rfl, by simpa [br_chk] using hchk⟩
  case return_  =>
    obtain rfl : len = 1 := by simpa [br_ln] using hlen
    intro p e R s m args below meth c H locs cells slots L Z hC hr hS hL hn hc hs2 hret
    obtain ⟨rfl, hq⟩ := hs
    exact hret _ h H locs cells slots L pc _ hq hr hS (by omega) (by omega) hdg ⟨rfl, by simpa [br_chk] using hchk⟩
end BRF
