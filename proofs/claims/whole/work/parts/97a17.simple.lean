section BRK
variable {g0 : Nat → Value} {B0 : Nat} {D : va_G} {cA : Nat → ClassId} {oS : Nat → Nat × Nat} {oI : Nat → Nat → Int32} {oR : Nat → Nat → Nat} {l : Launch} {d j pc : Nat} {ls : br_V} {st : List Value} {h : br_H} {Q : br_Q}
theorem br_k_iconst {n : Int} (hfix : br_fix g0 oS oI oR) (hdg : decode (br_md j).2.1 pc = .ok (.iconst n, 1)) (hk : br_snd g0 B0 D cA oS oI oR l d j (pc + 1) ls (.int (Int32.ofInt n) :: st) h Q) : br_snd g0 B0 D cA oS oI oR l d j pc ls st h Q := by
  intro p e R s m args below meth c H locs cells slots L Z hC hr hS hL hn hc hs hret
  obtain ⟨hx, hb, hrt, hml, hown, hts, hlk, hinit, hK, hold, hfr, hlo, hcl, hsl, hB0, hj⟩ := id hC
  exact lv_iconst hx hb hdg rfl (hk p e R s m args below meth c H locs cells slots L Z hC hr hS hL hn hc hs hret)
theorem br_k_lconst {n : Fin 2} (hfix : br_fix g0 oS oI oR) (hdg : decode (br_md j).2.1 pc = .ok (.lconst n, 1)) (hk : br_snd g0 B0 D cA oS oI oR l d j (pc + 1) ls (.long (Int64.ofNat (n : Nat)) :: st) h Q) : br_snd g0 B0 D cA oS oI oR l d j pc ls st h Q := by
  intro p e R s m args below meth c H locs cells slots L Z hC hr hS hL hn hc hs hret
  obtain ⟨hx, hb, hrt, hml, hown, hts, hlk, hinit, hK, hold, hfr, hlo, hcl, hsl, hB0, hj⟩ := id hC
  exact lv_lconst hx hb hdg rfl (hk p e R s m args below meth c H locs cells slots L Z hC hr hS hL hn hc hs hret)
theorem br_k_bipush {n : Int} (hfix : br_fix g0 oS oI oR) (hdg : decode (br_md j).2.1 pc = .ok (.bipush n, 2)) (hk : br_snd g0 B0 D cA oS oI oR l d j (pc + 2) ls (.int (Int8.ofInt n).toInt32 :: st) h Q) : br_snd g0 B0 D cA oS oI oR l d j pc ls st h Q := by
  intro p e R s m args below meth c H locs cells slots L Z hC hr hS hL hn hc hs hret
  obtain ⟨hx, hb, hrt, hml, hown, hts, hlk, hinit, hK, hold, hfr, hlo, hcl, hsl, hB0, hj⟩ := id hC
  exact lv_bipush hx hb hdg rfl (hk p e R s m args below meth c H locs cells slots L Z hC hr hS hL hn hc hs hret)
theorem br_k_sipush {n : Int} (hfix : br_fix g0 oS oI oR) (hdg : decode (br_md j).2.1 pc = .ok (.sipush n, 3)) (hk : br_snd g0 B0 D cA oS oI oR l d j (pc + 3) ls (.int (Int16.ofInt n).toInt32 :: st) h Q) : br_snd g0 B0 D cA oS oI oR l d j pc ls st h Q := by
  intro p e R s m args below meth c H locs cells slots L Z hC hr hS hL hn hc hs hret
  obtain ⟨hx, hb, hrt, hml, hown, hts, hlk, hinit, hK, hold, hfr, hlo, hcl, hsl, hB0, hj⟩ := id hC
  exact lv_sipush hx hb hdg rfl (hk p e R s m args below meth c H locs cells slots L Z hC hr hS hL hn hc hs hret)
theorem br_k_iload {i : Nat} (hfix : br_fix g0 oS oI oR) (hdg : decode (br_md j).2.1 pc = .ok (.iload i, 2)) (hk : br_li (br_ld ls i) fun x => br_snd g0 B0 D cA oS oI oR l d j (pc + 2) ls (.int x :: st) h Q) : br_snd g0 B0 D cA oS oI oR l d j pc ls st h Q := by
  intro p e R s m args below meth c H locs cells slots L Z hC hr hS hL hn hc hs hret
  obtain ⟨hx, hb, hrt, hml, hown, hts, hlk, hinit, hK, hold, hfr, hlo, hcl, hsl, hB0, hj⟩ := id hC
  obtain ⟨x, hv, hk⟩ := br_li_inv hk
  exact lv_iload hx hb hdg (hL.2.2 i _ hv) (hk p e R s m args below meth c H locs cells slots L Z hC hr hS hL hn hc hs hret)
theorem br_k_iload_n {i : Fin 4} (hfix : br_fix g0 oS oI oR) (hdg : decode (br_md j).2.1 pc = .ok (.iload_n i, 1)) (hk : br_li (br_ld ls i) fun x => br_snd g0 B0 D cA oS oI oR l d j (pc + 1) ls (.int x :: st) h Q) : br_snd g0 B0 D cA oS oI oR l d j pc ls st h Q := by
  intro p e R s m args below meth c H locs cells slots L Z hC hr hS hL hn hc hs hret
  obtain ⟨hx, hb, hrt, hml, hown, hts, hlk, hinit, hK, hold, hfr, hlo, hcl, hsl, hB0, hj⟩ := id hC
  obtain ⟨x, hv, hk⟩ := br_li_inv hk
  exact lv_iload_n hx hb hdg rfl (hL.2.2 i _ hv) (hk p e R s m args below meth c H locs cells slots L Z hC hr hS hL hn hc hs hret)
theorem br_k_lload {i : Nat} (hfix : br_fix g0 oS oI oR) (hdg : decode (br_md j).2.1 pc = .ok (.lload i, 2)) (hk : br_ll (br_ld ls i) fun x => br_snd g0 B0 D cA oS oI oR l d j (pc + 2) ls (.long x :: st) h Q) : br_snd g0 B0 D cA oS oI oR l d j pc ls st h Q := by
  intro p e R s m args below meth c H locs cells slots L Z hC hr hS hL hn hc hs hret
  obtain ⟨hx, hb, hrt, hml, hown, hts, hlk, hinit, hK, hold, hfr, hlo, hcl, hsl, hB0, hj⟩ := id hC
  obtain ⟨x, hv, hk⟩ := br_ll_inv hk
  exact lv_lload hx hb hdg (hL.2.2 i _ hv) (hk p e R s m args below meth c H locs cells slots L Z hC hr hS hL hn hc hs hret)
theorem br_k_lload_n {i : Fin 4} (hfix : br_fix g0 oS oI oR) (hdg : decode (br_md j).2.1 pc = .ok (.lload_n i, 1)) (hk : br_ll (br_ld ls i) fun x => br_snd g0 B0 D cA oS oI oR l d j (pc + 1) ls (.long x :: st) h Q) : br_snd g0 B0 D cA oS oI oR l d j pc ls st h Q := by
  intro p e R s m args below meth c H locs cells slots L Z hC hr hS hL hn hc hs hret
  obtain ⟨hx, hb, hrt, hml, hown, hts, hlk, hinit, hK, hold, hfr, hlo, hcl, hsl, hB0, hj⟩ := id hC
  obtain ⟨x, hv, hk⟩ := br_ll_inv hk
  exact lv_lload_n hx hb hdg rfl (hL.2.2 i _ hv) (hk p e R s m args below meth c H locs cells slots L Z hC hr hS hL hn hc hs hret)
theorem br_k_aload {i : Nat} (hfix : br_fix g0 oS oI oR) (hdg : decode (br_md j).2.1 pc = .ok (.aload i, 2)) (hk : br_lr (br_ld ls i) fun x => br_snd g0 B0 D cA oS oI oR l d j (pc + 2) ls (.ref x :: st) h Q) : br_snd g0 B0 D cA oS oI oR l d j pc ls st h Q := by
  intro p e R s m args below meth c H locs cells slots L Z hC hr hS hL hn hc hs hret
  obtain ⟨hx, hb, hrt, hml, hown, hts, hlk, hinit, hK, hold, hfr, hlo, hcl, hsl, hB0, hj⟩ := id hC
  obtain ⟨x, hv, hk⟩ := br_lr_inv hk
  have hl := hL.2.2 i _ hv
  have hw := hk p e R s m args below meth c H locs cells slots L Z hC hr hS hL hn hc hs hret
  rw [List.map_cons] at hw
  rcases br_gv_ref (B0 := B0) hfix.2.1 x with z | ⟨t, z⟩
  · rw [z] at hl hw
    exact lv_aloadN hx hb hdg  hl hw
  · rw [z] at hl hw
    exact lv_aload hx hb hdg  hl hw
theorem br_k_aload_n {i : Fin 4} (hfix : br_fix g0 oS oI oR) (hdg : decode (br_md j).2.1 pc = .ok (.aload_n i, 1)) (hk : br_lr (br_ld ls i) fun x => br_snd g0 B0 D cA oS oI oR l d j (pc + 1) ls (.ref x :: st) h Q) : br_snd g0 B0 D cA oS oI oR l d j pc ls st h Q := by
  intro p e R s m args below meth c H locs cells slots L Z hC hr hS hL hn hc hs hret
  obtain ⟨hx, hb, hrt, hml, hown, hts, hlk, hinit, hK, hold, hfr, hlo, hcl, hsl, hB0, hj⟩ := id hC
  obtain ⟨x, hv, hk⟩ := br_lr_inv hk
  have hl := hL.2.2 i _ hv
  have hw := hk p e R s m args below meth c H locs cells slots L Z hC hr hS hL hn hc hs hret
  rw [List.map_cons] at hw
  rcases br_gv_ref (B0 := B0) hfix.2.1 x with z | ⟨t, z⟩
  · rw [z] at hl hw
    exact lv_aload_nN hx hb hdg rfl hl hw
  · rw [z] at hl hw
    exact lv_aload_n hx hb hdg rfl hl hw
theorem br_k_istore {i : Nat} (hfix : br_fix g0 oS oI oR) (hdg : decode (br_md j).2.1 pc = .ok (.istore i, 2)) (hk : br_pi (fun x r => (i : Nat) < ls.length ∧ br_snd g0 B0 D cA oS oI oR l d j (pc + 2) (br_s1 ls i (.int x)) r h Q) st) : br_snd g0 B0 D cA oS oI oR l d j pc ls st h Q := by
  intro p e R s m args below meth c H locs cells slots L Z hC hr hS hL hn hc hs hret
  obtain ⟨hx, hb, hrt, hml, hown, hts, hlk, hinit, hK, hold, hfr, hlo, hcl, hsl, hB0, hj⟩ := id hC
  obtain ⟨x, r, rfl, hi, hk⟩ := br_pi_inv hk
  exact lv_istore hx hb hdg (br_lv_has hL) hi rfl (fun L1 h1 => hk p e R s m args below meth c H locs cells slots L1 Z hC hr hS (br_lv_s1 (br_catg hfix.2.1) h1) (by rw [br_s1_len]; exact hn) hc hs hret)
theorem br_k_lstore {i : Nat} (hfix : br_fix g0 oS oI oR) (hdg : decode (br_md j).2.1 pc = .ok (.lstore i, 2)) (hk : br_pl (fun x r => (i : Nat) + 1 < ls.length ∧ br_snd g0 B0 D cA oS oI oR l d j (pc + 2) (br_s2 ls i (.long x)) r h Q) st) : br_snd g0 B0 D cA oS oI oR l d j pc ls st h Q := by
  intro p e R s m args below meth c H locs cells slots L Z hC hr hS hL hn hc hs hret
  obtain ⟨hx, hb, hrt, hml, hown, hts, hlk, hinit, hK, hold, hfr, hlo, hcl, hsl, hB0, hj⟩ := id hC
  obtain ⟨x, r, rfl, hi, hk⟩ := br_pl_inv hk
  exact lv_lstore hx hb hdg (br_lv_has hL) hi rfl (fun L1 h1 => hk p e R s m args below meth c H locs cells slots L1 Z hC hr hS (br_lv_s2 (br_catg hfix.2.1) h1) (by unfold br_s2; rw [br_n1_len, br_s1_len]; exact hn) hc hs hret)
theorem br_k_astore {i : Nat} (hfix : br_fix g0 oS oI oR) (hdg : decode (br_md j).2.1 pc = .ok (.astore i, 2)) (hk : br_pr (fun x r => (i : Nat) < ls.length ∧ br_snd g0 B0 D cA oS oI oR l d j (pc + 2) (br_s1 ls i (.ref x)) r h Q) st) : br_snd g0 B0 D cA oS oI oR l d j pc ls st h Q := by
  intro p e R s m args below meth c H locs cells slots L Z hC hr hS hL hn hc hs hret
  obtain ⟨hx, hb, hrt, hml, hown, hts, hlk, hinit, hK, hold, hfr, hlo, hcl, hsl, hB0, hj⟩ := id hC
  obtain ⟨x, r, rfl, hi, hk⟩ := br_pr_inv hk
  have hw := fun (L1 : Array Slot) (h1 : lv_has L1 ls.length (((i : Nat), br_gv g0 B0 (.ref x)) :: (br_ll2 g0 B0 ls).filter (fun q => !(q.1 == (i : Nat)) && !(q.1 + 1 == (i : Nat) && q.2.category == 2)))) => hk p e R s m args below meth c H locs cells slots L1 Z hC hr hS (br_lv_s1 (br_catg hfix.2.1) h1) (by rw [br_s1_len]; exact hn) hc hs hret
  rw [List.map_cons]
  rcases br_gv_ref (B0 := B0) hfix.2.1 x with z | ⟨t, z⟩
  · rw [z] at hw ⊢
    exact lv_astoreN hx hb hdg (br_lv_has hL) hi rfl hw
  · rw [z] at hw ⊢
    exact lv_astore hx hb hdg (br_lv_has hL) hi rfl hw
theorem br_k_istore_n {i : Fin 4} (hfix : br_fix g0 oS oI oR) (hdg : decode (br_md j).2.1 pc = .ok (.istore_n i, 1)) (hk : br_pi (fun x r => (i : Nat) < ls.length ∧ br_snd g0 B0 D cA oS oI oR l d j (pc + 1) (br_s1 ls i (.int x)) r h Q) st) : br_snd g0 B0 D cA oS oI oR l d j pc ls st h Q := by
  intro p e R s m args below meth c H locs cells slots L Z hC hr hS hL hn hc hs hret
  obtain ⟨hx, hb, hrt, hml, hown, hts, hlk, hinit, hK, hold, hfr, hlo, hcl, hsl, hB0, hj⟩ := id hC
  obtain ⟨x, r, rfl, hi, hk⟩ := br_pi_inv hk
  exact lv_istore_n hx hb hdg rfl (br_lv_has hL) hi rfl (fun L1 h1 => hk p e R s m args below meth c H locs cells slots L1 Z hC hr hS (br_lv_s1 (br_catg hfix.2.1) h1) (by rw [br_s1_len]; exact hn) hc hs hret)
theorem br_k_lstore_n {i : Fin 4} (hfix : br_fix g0 oS oI oR) (hdg : decode (br_md j).2.1 pc = .ok (.lstore_n i, 1)) (hk : br_pl (fun x r => (i : Nat) + 1 < ls.length ∧ br_snd g0 B0 D cA oS oI oR l d j (pc + 1) (br_s2 ls i (.long x)) r h Q) st) : br_snd g0 B0 D cA oS oI oR l d j pc ls st h Q := by
  intro p e R s m args below meth c H locs cells slots L Z hC hr hS hL hn hc hs hret
  obtain ⟨hx, hb, hrt, hml, hown, hts, hlk, hinit, hK, hold, hfr, hlo, hcl, hsl, hB0, hj⟩ := id hC
  obtain ⟨x, r, rfl, hi, hk⟩ := br_pl_inv hk
  exact lv_lstore_n hx hb hdg rfl (br_lv_has hL) hi rfl (fun L1 h1 => hk p e R s m args below meth c H locs cells slots L1 Z hC hr hS (br_lv_s2 (br_catg hfix.2.1) h1) (by unfold br_s2; rw [br_n1_len, br_s1_len]; exact hn) hc hs hret)
theorem br_k_astore_n {i : Fin 4} (hfix : br_fix g0 oS oI oR) (hdg : decode (br_md j).2.1 pc = .ok (.astore_n i, 1)) (hk : br_pr (fun x r => (i : Nat) < ls.length ∧ br_snd g0 B0 D cA oS oI oR l d j (pc + 1) (br_s1 ls i (.ref x)) r h Q) st) : br_snd g0 B0 D cA oS oI oR l d j pc ls st h Q := by
  intro p e R s m args below meth c H locs cells slots L Z hC hr hS hL hn hc hs hret
  obtain ⟨hx, hb, hrt, hml, hown, hts, hlk, hinit, hK, hold, hfr, hlo, hcl, hsl, hB0, hj⟩ := id hC
  obtain ⟨x, r, rfl, hi, hk⟩ := br_pr_inv hk
  have hw := fun (L1 : Array Slot) (h1 : lv_has L1 ls.length (((i : Nat), br_gv g0 B0 (.ref x)) :: (br_ll2 g0 B0 ls).filter (fun q => !(q.1 == (i : Nat)) && !(q.1 + 1 == (i : Nat) && q.2.category == 2)))) => hk p e R s m args below meth c H locs cells slots L1 Z hC hr hS (br_lv_s1 (br_catg hfix.2.1) h1) (by rw [br_s1_len]; exact hn) hc hs hret
  rw [List.map_cons]
  rcases br_gv_ref (B0 := B0) hfix.2.1 x with z | ⟨t, z⟩
  · rw [z] at hw ⊢
    exact lv_astore_nN hx hb hdg rfl (br_lv_has hL) hi rfl hw
  · rw [z] at hw ⊢
    exact lv_astore_n hx hb hdg rfl (br_lv_has hL) hi rfl hw
theorem br_k_iinc {i : Nat} {n : Int} (hfix : br_fix g0 oS oI oR) (hdg : decode (br_md j).2.1 pc = .ok (.iinc i n, 3)) (hk : br_li (br_ld ls i) fun x => br_snd g0 B0 D cA oS oI oR l d j (pc + 3) (br_s1 ls i (.int (x + Int32.ofInt n))) st h Q) : br_snd g0 B0 D cA oS oI oR l d j pc ls st h Q := by
  intro p e R s m args below meth c H locs cells slots L Z hC hr hS hL hn hc hs hret
  obtain ⟨hx, hb, hrt, hml, hown, hts, hlk, hinit, hK, hold, hfr, hlo, hcl, hsl, hB0, hj⟩ := id hC
  obtain ⟨x, hv, hk⟩ := br_li_inv hk
  obtain ⟨k, hkk⟩ := List.getElem?_of_mem (br_ll2_mem (g0 := g0) (B0 := B0) hv)
  exact lv_iinc hx hb hdg (br_lv_has hL) hkk rfl (br_ld_lt _ _ _ hv) rfl (fun L1 h1 => hk p e R s m args below meth c H locs cells slots L1 Z hC hr hS (br_lv_s1 (br_catg hfix.2.1) h1) (by rw [br_s1_len]; exact hn) hc hs hret)
theorem br_k_iadd (hfix : br_fix g0 oS oI oR) (hdg : decode (br_md j).2.1 pc = .ok (.iadd, 1)) (hk : br_pii (fun x y r => br_snd g0 B0 D cA oS oI oR l d j (pc + 1) ls (.int (x + y) :: r) h Q) st) : br_snd g0 B0 D cA oS oI oR l d j pc ls st h Q := by
  intro p e R s m args below meth c H locs cells slots L Z hC hr hS hL hn hc hs hret
  obtain ⟨hx, hb, hrt, hml, hown, hts, hlk, hinit, hK, hold, hfr, hlo, hcl, hsl, hB0, hj⟩ := id hC
  obtain ⟨x, y, r, rfl, hk⟩ := br_pii_inv hk
  exact lv_iadd hx hb hdg (hk p e R s m args below meth c H locs cells slots L Z hC hr hS hL hn hc hs hret)
theorem br_k_isub (hfix : br_fix g0 oS oI oR) (hdg : decode (br_md j).2.1 pc = .ok (.isub, 1)) (hk : br_pii (fun x y r => br_snd g0 B0 D cA oS oI oR l d j (pc + 1) ls (.int (x - y) :: r) h Q) st) : br_snd g0 B0 D cA oS oI oR l d j pc ls st h Q := by
  intro p e R s m args below meth c H locs cells slots L Z hC hr hS hL hn hc hs hret
  obtain ⟨hx, hb, hrt, hml, hown, hts, hlk, hinit, hK, hold, hfr, hlo, hcl, hsl, hB0, hj⟩ := id hC
  obtain ⟨x, y, r, rfl, hk⟩ := br_pii_inv hk
  exact lv_isub hx hb hdg (hk p e R s m args below meth c H locs cells slots L Z hC hr hS hL hn hc hs hret)
theorem br_k_imul (hfix : br_fix g0 oS oI oR) (hdg : decode (br_md j).2.1 pc = .ok (.imul, 1)) (hk : br_pii (fun x y r => br_snd g0 B0 D cA oS oI oR l d j (pc + 1) ls (.int (x * y) :: r) h Q) st) : br_snd g0 B0 D cA oS oI oR l d j pc ls st h Q := by
  intro p e R s m args below meth c H locs cells slots L Z hC hr hS hL hn hc hs hret
  obtain ⟨hx, hb, hrt, hml, hown, hts, hlk, hinit, hK, hold, hfr, hlo, hcl, hsl, hB0, hj⟩ := id hC
  obtain ⟨x, y, r, rfl, hk⟩ := br_pii_inv hk
  exact lv_imul hx hb hdg (hk p e R s m args below meth c H locs cells slots L Z hC hr hS hL hn hc hs hret)
theorem br_k_iand (hfix : br_fix g0 oS oI oR) (hdg : decode (br_md j).2.1 pc = .ok (.iand, 1)) (hk : br_pii (fun x y r => br_snd g0 B0 D cA oS oI oR l d j (pc + 1) ls (.int (x &&& y) :: r) h Q) st) : br_snd g0 B0 D cA oS oI oR l d j pc ls st h Q := by
  intro p e R s m args below meth c H locs cells slots L Z hC hr hS hL hn hc hs hret
  obtain ⟨hx, hb, hrt, hml, hown, hts, hlk, hinit, hK, hold, hfr, hlo, hcl, hsl, hB0, hj⟩ := id hC
  obtain ⟨x, y, r, rfl, hk⟩ := br_pii_inv hk
  exact lv_iand hx hb hdg (hk p e R s m args below meth c H locs cells slots L Z hC hr hS hL hn hc hs hret)
theorem br_k_ior (hfix : br_fix g0 oS oI oR) (hdg : decode (br_md j).2.1 pc = .ok (.ior, 1)) (hk : br_pii (fun x y r => br_snd g0 B0 D cA oS oI oR l d j (pc + 1) ls (.int (x ||| y) :: r) h Q) st) : br_snd g0 B0 D cA oS oI oR l d j pc ls st h Q := by
  intro p e R s m args below meth c H locs cells slots L Z hC hr hS hL hn hc hs hret
  obtain ⟨hx, hb, hrt, hml, hown, hts, hlk, hinit, hK, hold, hfr, hlo, hcl, hsl, hB0, hj⟩ := id hC
  obtain ⟨x, y, r, rfl, hk⟩ := br_pii_inv hk
  exact lv_ior hx hb hdg (hk p e R s m args below meth c H locs cells slots L Z hC hr hS hL hn hc hs hret)
theorem br_k_ixor (hfix : br_fix g0 oS oI oR) (hdg : decode (br_md j).2.1 pc = .ok (.ixor, 1)) (hk : br_pii (fun x y r => br_snd g0 B0 D cA oS oI oR l d j (pc + 1) ls (.int (x ^^^ y) :: r) h Q) st) : br_snd g0 B0 D cA oS oI oR l d j pc ls st h Q := by
  intro p e R s m args below meth c H locs cells slots L Z hC hr hS hL hn hc hs hret
  obtain ⟨hx, hb, hrt, hml, hown, hts, hlk, hinit, hK, hold, hfr, hlo, hcl, hsl, hB0, hj⟩ := id hC
  obtain ⟨x, y, r, rfl, hk⟩ := br_pii_inv hk
  exact lv_ixor hx hb hdg (hk p e R s m args below meth c H locs cells slots L Z hC hr hS hL hn hc hs hret)
theorem br_k_ishl (hfix : br_fix g0 oS oI oR) (hdg : decode (br_md j).2.1 pc = .ok (.ishl, 1)) (hk : br_pii (fun x y r => br_snd g0 B0 D cA oS oI oR l d j (pc + 1) ls (.int (x <<< (y &&& 31)) :: r) h Q) st) : br_snd g0 B0 D cA oS oI oR l d j pc ls st h Q := by
  intro p e R s m args below meth c H locs cells slots L Z hC hr hS hL hn hc hs hret
  obtain ⟨hx, hb, hrt, hml, hown, hts, hlk, hinit, hK, hold, hfr, hlo, hcl, hsl, hB0, hj⟩ := id hC
  obtain ⟨x, y, r, rfl, hk⟩ := br_pii_inv hk
  exact lv_ishl hx hb hdg (hk p e R s m args below meth c H locs cells slots L Z hC hr hS hL hn hc hs hret)
theorem br_k_ishr (hfix : br_fix g0 oS oI oR) (hdg : decode (br_md j).2.1 pc = .ok (.ishr, 1)) (hk : br_pii (fun x y r => br_snd g0 B0 D cA oS oI oR l d j (pc + 1) ls (.int (x >>> (y &&& 31)) :: r) h Q) st) : br_snd g0 B0 D cA oS oI oR l d j pc ls st h Q := by
  intro p e R s m args below meth c H locs cells slots L Z hC hr hS hL hn hc hs hret
  obtain ⟨hx, hb, hrt, hml, hown, hts, hlk, hinit, hK, hold, hfr, hlo, hcl, hsl, hB0, hj⟩ := id hC
  obtain ⟨x, y, r, rfl, hk⟩ := br_pii_inv hk
  exact lv_ishr hx hb hdg (hk p e R s m args below meth c H locs cells slots L Z hC hr hS hL hn hc hs hret)
theorem br_k_idiv (hfix : br_fix g0 oS oI oR) (hdg : decode (br_md j).2.1 pc = .ok (.idiv, 1)) (hk : br_pii (fun x y r => ¬ y = 0 ∧ br_snd g0 B0 D cA oS oI oR l d j (pc + 1) ls (.int (x / y) :: r) h Q) st) : br_snd g0 B0 D cA oS oI oR l d j pc ls st h Q := by
  intro p e R s m args below meth c H locs cells slots L Z hC hr hS hL hn hc hs hret
  obtain ⟨hx, hb, hrt, hml, hown, hts, hlk, hinit, hK, hold, hfr, hlo, hcl, hsl, hB0, hj⟩ := id hC
  obtain ⟨x, y, r, rfl, hne, hk⟩ := br_pii_inv hk
  exact lv_idiv hx hb hdg hne (hk p e R s m args below meth c H locs cells slots L Z hC hr hS hL hn hc hs hret)
theorem br_k_irem (hfix : br_fix g0 oS oI oR) (hdg : decode (br_md j).2.1 pc = .ok (.irem, 1)) (hk : br_pii (fun x y r => ¬ y = 0 ∧ br_snd g0 B0 D cA oS oI oR l d j (pc + 1) ls (.int (x - x / y * y) :: r) h Q) st) : br_snd g0 B0 D cA oS oI oR l d j pc ls st h Q := by
  intro p e R s m args below meth c H locs cells slots L Z hC hr hS hL hn hc hs hret
  obtain ⟨hx, hb, hrt, hml, hown, hts, hlk, hinit, hK, hold, hfr, hlo, hcl, hsl, hB0, hj⟩ := id hC
  obtain ⟨x, y, r, rfl, hne, hk⟩ := br_pii_inv hk
  exact lv_irem hx hb hdg hne (hk p e R s m args below meth c H locs cells slots L Z hC hr hS hL hn hc hs hret)
theorem br_k_iushr (hfix : br_fix g0 oS oI oR) (hdg : decode (br_md j).2.1 pc = .ok (.iushr, 1)) (hk : br_pii (fun x y r => br_snd g0 B0 D cA oS oI oR l d j (pc + 1) ls (.int (x.toUInt32 >>> (y.toUInt32 &&& Int32.toUInt32 31)).toInt32 :: r) h Q) st) : br_snd g0 B0 D cA oS oI oR l d j pc ls st h Q := by
  intro p e R s m args below meth c H locs cells slots L Z hC hr hS hL hn hc hs hret
  obtain ⟨hx, hb, hrt, hml, hown, hts, hlk, hinit, hK, hold, hfr, hlo, hcl, hsl, hB0, hj⟩ := id hC
  obtain ⟨x, y, r, rfl, hk⟩ := br_pii_inv hk
  exact lv_iushr hx hb hdg rfl (hk p e R s m args below meth c H locs cells slots L Z hC hr hS hL hn hc hs hret)
theorem br_k_ladd (hfix : br_fix g0 oS oI oR) (hdg : decode (br_md j).2.1 pc = .ok (.ladd, 1)) (hk : br_pll (fun x y r => br_snd g0 B0 D cA oS oI oR l d j (pc + 1) ls (.long (x + y) :: r) h Q) st) : br_snd g0 B0 D cA oS oI oR l d j pc ls st h Q := by
  intro p e R s m args below meth c H locs cells slots L Z hC hr hS hL hn hc hs hret
  obtain ⟨hx, hb, hrt, hml, hown, hts, hlk, hinit, hK, hold, hfr, hlo, hcl, hsl, hB0, hj⟩ := id hC
  obtain ⟨x, y, r, rfl, hk⟩ := br_pll_inv hk
  exact lv_ladd hx hb hdg (hk p e R s m args below meth c H locs cells slots L Z hC hr hS hL hn hc hs hret)
theorem br_k_lsub (hfix : br_fix g0 oS oI oR) (hdg : decode (br_md j).2.1 pc = .ok (.lsub, 1)) (hk : br_pll (fun x y r => br_snd g0 B0 D cA oS oI oR l d j (pc + 1) ls (.long (x - y) :: r) h Q) st) : br_snd g0 B0 D cA oS oI oR l d j pc ls st h Q := by
  intro p e R s m args below meth c H locs cells slots L Z hC hr hS hL hn hc hs hret
  obtain ⟨hx, hb, hrt, hml, hown, hts, hlk, hinit, hK, hold, hfr, hlo, hcl, hsl, hB0, hj⟩ := id hC
  obtain ⟨x, y, r, rfl, hk⟩ := br_pll_inv hk
  exact lv_lsub hx hb hdg (hk p e R s m args below meth c H locs cells slots L Z hC hr hS hL hn hc hs hret)
theorem br_k_lmul (hfix : br_fix g0 oS oI oR) (hdg : decode (br_md j).2.1 pc = .ok (.lmul, 1)) (hk : br_pll (fun x y r => br_snd g0 B0 D cA oS oI oR l d j (pc + 1) ls (.long (x * y) :: r) h Q) st) : br_snd g0 B0 D cA oS oI oR l d j pc ls st h Q := by
  intro p e R s m args below meth c H locs cells slots L Z hC hr hS hL hn hc hs hret
  obtain ⟨hx, hb, hrt, hml, hown, hts, hlk, hinit, hK, hold, hfr, hlo, hcl, hsl, hB0, hj⟩ := id hC
  obtain ⟨x, y, r, rfl, hk⟩ := br_pll_inv hk
  exact lv_lmul hx hb hdg (hk p e R s m args below meth c H locs cells slots L Z hC hr hS hL hn hc hs hret)
theorem br_k_land (hfix : br_fix g0 oS oI oR) (hdg : decode (br_md j).2.1 pc = .ok (.land, 1)) (hk : br_pll (fun x y r => br_snd g0 B0 D cA oS oI oR l d j (pc + 1) ls (.long (x &&& y) :: r) h Q) st) : br_snd g0 B0 D cA oS oI oR l d j pc ls st h Q := by
  intro p e R s m args below meth c H locs cells slots L Z hC hr hS hL hn hc hs hret
  obtain ⟨hx, hb, hrt, hml, hown, hts, hlk, hinit, hK, hold, hfr, hlo, hcl, hsl, hB0, hj⟩ := id hC
  obtain ⟨x, y, r, rfl, hk⟩ := br_pll_inv hk
  exact lv_land hx hb hdg (hk p e R s m args below meth c H locs cells slots L Z hC hr hS hL hn hc hs hret)
theorem br_k_lor (hfix : br_fix g0 oS oI oR) (hdg : decode (br_md j).2.1 pc = .ok (.lor, 1)) (hk : br_pll (fun x y r => br_snd g0 B0 D cA oS oI oR l d j (pc + 1) ls (.long (x ||| y) :: r) h Q) st) : br_snd g0 B0 D cA oS oI oR l d j pc ls st h Q := by
  intro p e R s m args below meth c H locs cells slots L Z hC hr hS hL hn hc hs hret
  obtain ⟨hx, hb, hrt, hml, hown, hts, hlk, hinit, hK, hold, hfr, hlo, hcl, hsl, hB0, hj⟩ := id hC
  obtain ⟨x, y, r, rfl, hk⟩ := br_pll_inv hk
  exact lv_lor hx hb hdg (hk p e R s m args below meth c H locs cells slots L Z hC hr hS hL hn hc hs hret)
theorem br_k_lxor (hfix : br_fix g0 oS oI oR) (hdg : decode (br_md j).2.1 pc = .ok (.lxor, 1)) (hk : br_pll (fun x y r => br_snd g0 B0 D cA oS oI oR l d j (pc + 1) ls (.long (x ^^^ y) :: r) h Q) st) : br_snd g0 B0 D cA oS oI oR l d j pc ls st h Q := by
  intro p e R s m args below meth c H locs cells slots L Z hC hr hS hL hn hc hs hret
  obtain ⟨hx, hb, hrt, hml, hown, hts, hlk, hinit, hK, hold, hfr, hlo, hcl, hsl, hB0, hj⟩ := id hC
  obtain ⟨x, y, r, rfl, hk⟩ := br_pll_inv hk
  exact lv_lxor hx hb hdg (hk p e R s m args below meth c H locs cells slots L Z hC hr hS hL hn hc hs hret)
theorem br_k_ldiv (hfix : br_fix g0 oS oI oR) (hdg : decode (br_md j).2.1 pc = .ok (.ldiv, 1)) (hk : br_pll (fun x y r => ¬ y = 0 ∧ br_snd g0 B0 D cA oS oI oR l d j (pc + 1) ls (.long (x / y) :: r) h Q) st) : br_snd g0 B0 D cA oS oI oR l d j pc ls st h Q := by
  intro p e R s m args below meth c H locs cells slots L Z hC hr hS hL hn hc hs hret
  obtain ⟨hx, hb, hrt, hml, hown, hts, hlk, hinit, hK, hold, hfr, hlo, hcl, hsl, hB0, hj⟩ := id hC
  obtain ⟨x, y, r, rfl, hne, hk⟩ := br_pll_inv hk
  exact lv_ldiv hx hb hdg hne (hk p e R s m args below meth c H locs cells slots L Z hC hr hS hL hn hc hs hret)
theorem br_k_lrem (hfix : br_fix g0 oS oI oR) (hdg : decode (br_md j).2.1 pc = .ok (.lrem, 1)) (hk : br_pll (fun x y r => ¬ y = 0 ∧ br_snd g0 B0 D cA oS oI oR l d j (pc + 1) ls (.long (x - x / y * y) :: r) h Q) st) : br_snd g0 B0 D cA oS oI oR l d j pc ls st h Q := by
  intro p e R s m args below meth c H locs cells slots L Z hC hr hS hL hn hc hs hret
  obtain ⟨hx, hb, hrt, hml, hown, hts, hlk, hinit, hK, hold, hfr, hlo, hcl, hsl, hB0, hj⟩ := id hC
  obtain ⟨x, y, r, rfl, hne, hk⟩ := br_pll_inv hk
  exact lv_lrem hx hb hdg hne (hk p e R s m args below meth c H locs cells slots L Z hC hr hS hL hn hc hs hret)
theorem br_k_lcmp (hfix : br_fix g0 oS oI oR) (hdg : decode (br_md j).2.1 pc = .ok (.lcmp, 1)) (hk : br_pll (fun x y r => br_snd g0 B0 D cA oS oI oR l d j (pc + 1) ls (.int (lg_cmp x y) :: r) h Q) st) : br_snd g0 B0 D cA oS oI oR l d j pc ls st h Q := by
  intro p e R s m args below meth c H locs cells slots L Z hC hr hS hL hn hc hs hret
  obtain ⟨hx, hb, hrt, hml, hown, hts, hlk, hinit, hK, hold, hfr, hlo, hcl, hsl, hB0, hj⟩ := id hC
  obtain ⟨x, y, r, rfl, hk⟩ := br_pll_inv hk
  exact W.lcmp hx hb hdg (hk p e R s m args below meth c H locs cells slots L Z hC hr hS hL hn hc hs hret)
theorem br_k_lshl (hfix : br_fix g0 oS oI oR) (hdg : decode (br_md j).2.1 pc = .ok (.lshl, 1)) (hk : br_pi (fun y r => br_pl (fun x r => br_snd g0 B0 D cA oS oI oR l d j (pc + 1) ls (.long (x <<< (y.toInt64 &&& 63)) :: r) h Q) r) st) : br_snd g0 B0 D cA oS oI oR l d j pc ls st h Q := by
  intro p e R s m args below meth c H locs cells slots L Z hC hr hS hL hn hc hs hret
  obtain ⟨hx, hb, hrt, hml, hown, hts, hlk, hinit, hK, hold, hfr, hlo, hcl, hsl, hB0, hj⟩ := id hC
  obtain ⟨y, r, rfl, hk⟩ := br_pi_inv hk
  obtain ⟨x, r, rfl, hk⟩ := br_pl_inv hk
  exact lv_lshl hx hb hdg rfl (hk p e R s m args below meth c H locs cells slots L Z hC hr hS hL hn hc hs hret)
theorem br_k_ineg (hfix : br_fix g0 oS oI oR) (hdg : decode (br_md j).2.1 pc = .ok (.ineg, 1)) (hk : br_pi (fun x r => br_snd g0 B0 D cA oS oI oR l d j (pc + 1) ls (.int (-x) :: r) h Q) st) : br_snd g0 B0 D cA oS oI oR l d j pc ls st h Q := by
  intro p e R s m args below meth c H locs cells slots L Z hC hr hS hL hn hc hs hret
  obtain ⟨hx, hb, hrt, hml, hown, hts, hlk, hinit, hK, hold, hfr, hlo, hcl, hsl, hB0, hj⟩ := id hC
  obtain ⟨x, r, rfl, hk⟩ := br_pi_inv hk
  exact lv_ineg hx hb hdg (hk p e R s m args below meth c H locs cells slots L Z hC hr hS hL hn hc hs hret)
theorem br_k_lneg (hfix : br_fix g0 oS oI oR) (hdg : decode (br_md j).2.1 pc = .ok (.lneg, 1)) (hk : br_pl (fun x r => br_snd g0 B0 D cA oS oI oR l d j (pc + 1) ls (.long (-x) :: r) h Q) st) : br_snd g0 B0 D cA oS oI oR l d j pc ls st h Q := by
  intro p e R s m args below meth c H locs cells slots L Z hC hr hS hL hn hc hs hret
  obtain ⟨hx, hb, hrt, hml, hown, hts, hlk, hinit, hK, hold, hfr, hlo, hcl, hsl, hB0, hj⟩ := id hC
  obtain ⟨x, r, rfl, hk⟩ := br_pl_inv hk
  exact lv_lneg hx hb hdg (hk p e R s m args below meth c H locs cells slots L Z hC hr hS hL hn hc hs hret)
theorem br_k_i2l (hfix : br_fix g0 oS oI oR) (hdg : decode (br_md j).2.1 pc = .ok (.i2l, 1)) (hk : br_pi (fun x r => br_snd g0 B0 D cA oS oI oR l d j (pc + 1) ls (.long x.toInt64 :: r) h Q) st) : br_snd g0 B0 D cA oS oI oR l d j pc ls st h Q := by
  intro p e R s m args below meth c H locs cells slots L Z hC hr hS hL hn hc hs hret
  obtain ⟨hx, hb, hrt, hml, hown, hts, hlk, hinit, hK, hold, hfr, hlo, hcl, hsl, hB0, hj⟩ := id hC
  obtain ⟨x, r, rfl, hk⟩ := br_pi_inv hk
  exact lv_i2l hx hb hdg rfl (hk p e R s m args below meth c H locs cells slots L Z hC hr hS hL hn hc hs hret)
theorem br_k_l2i (hfix : br_fix g0 oS oI oR) (hdg : decode (br_md j).2.1 pc = .ok (.l2i, 1)) (hk : br_pl (fun x r => br_snd g0 B0 D cA oS oI oR l d j (pc + 1) ls (.int x.toInt32 :: r) h Q) st) : br_snd g0 B0 D cA oS oI oR l d j pc ls st h Q := by
  intro p e R s m args below meth c H locs cells slots L Z hC hr hS hL hn hc hs hret
  obtain ⟨hx, hb, hrt, hml, hown, hts, hlk, hinit, hK, hold, hfr, hlo, hcl, hsl, hB0, hj⟩ := id hC
  obtain ⟨x, r, rfl, hk⟩ := br_pl_inv hk
  exact lv_l2i hx hb hdg rfl (hk p e R s m args below meth c H locs cells slots L Z hC hr hS hL hn hc hs hret)
theorem br_k_i2b (hfix : br_fix g0 oS oI oR) (hdg : decode (br_md j).2.1 pc = .ok (.i2b, 1)) (hk : br_pi (fun x r => br_snd g0 B0 D cA oS oI oR l d j (pc + 1) ls (.int x.toInt8.toInt32 :: r) h Q) st) : br_snd g0 B0 D cA oS oI oR l d j pc ls st h Q := by
  intro p e R s m args below meth c H locs cells slots L Z hC hr hS hL hn hc hs hret
  obtain ⟨hx, hb, hrt, hml, hown, hts, hlk, hinit, hK, hold, hfr, hlo, hcl, hsl, hB0, hj⟩ := id hC
  obtain ⟨x, r, rfl, hk⟩ := br_pi_inv hk
  exact lv_i2b hx hb hdg rfl (hk p e R s m args below meth c H locs cells slots L Z hC hr hS hL hn hc hs hret)
theorem br_k_i2s (hfix : br_fix g0 oS oI oR) (hdg : decode (br_md j).2.1 pc = .ok (.i2s, 1)) (hk : br_pi (fun x r => br_snd g0 B0 D cA oS oI oR l d j (pc + 1) ls (.int x.toInt16.toInt32 :: r) h Q) st) : br_snd g0 B0 D cA oS oI oR l d j pc ls st h Q := by
  intro p e R s m args below meth c H locs cells slots L Z hC hr hS hL hn hc hs hret
  obtain ⟨hx, hb, hrt, hml, hown, hts, hlk, hinit, hK, hold, hfr, hlo, hcl, hsl, hB0, hj⟩ := id hC
  obtain ⟨x, r, rfl, hk⟩ := br_pi_inv hk
  exact lv_i2s hx hb hdg rfl (hk p e R s m args below meth c H locs cells slots L Z hC hr hS hL hn hc hs hret)
theorem br_k_i2c (hfix : br_fix g0 oS oI oR) (hdg : decode (br_md j).2.1 pc = .ok (.i2c, 1)) (hk : br_pi (fun x r => br_snd g0 B0 D cA oS oI oR l d j (pc + 1) ls (.int (x.toUInt32 % 65536).toInt32 :: r) h Q) st) : br_snd g0 B0 D cA oS oI oR l d j pc ls st h Q := by
  intro p e R s m args below meth c H locs cells slots L Z hC hr hS hL hn hc hs hret
  obtain ⟨hx, hb, hrt, hml, hown, hts, hlk, hinit, hK, hold, hfr, hlo, hcl, hsl, hB0, hj⟩ := id hC
  obtain ⟨x, r, rfl, hk⟩ := br_pi_inv hk
  exact lv_i2c hx hb hdg rfl (hk p e R s m args below meth c H locs cells slots L Z hC hr hS hL hn hc hs hret)
theorem br_k_pop (hfix : br_fix g0 oS oI oR) (hdg : decode (br_md j).2.1 pc = .ok (.pop, 1)) (hk : br_pi (fun _ r => br_snd g0 B0 D cA oS oI oR l d j (pc + 1) ls r h Q) st) : br_snd g0 B0 D cA oS oI oR l d j pc ls st h Q := by
  intro p e R s m args below meth c H locs cells slots L Z hC hr hS hL hn hc hs hret
  obtain ⟨hx, hb, hrt, hml, hown, hts, hlk, hinit, hK, hold, hfr, hlo, hcl, hsl, hB0, hj⟩ := id hC
  obtain ⟨x, r, rfl, hk⟩ := br_pi_inv hk
  exact lv_pop hx hb hdg rfl (hk p e R s m args below meth c H locs cells slots L Z hC hr hS hL hn hc hs hret)
theorem br_k_dup (hfix : br_fix g0 oS oI oR) (hdg : decode (br_md j).2.1 pc = .ok (.dup, 1)) (hk : match st with
    | .int x :: r => br_snd g0 B0 D cA oS oI oR l d j (pc + 1) ls (.int x :: .int x :: r) h Q
    | .ref x :: r => br_snd g0 B0 D cA oS oI oR l d j (pc + 1) ls (.ref x :: .ref x :: r) h Q
    | _ => False) : br_snd g0 B0 D cA oS oI oR l d j pc ls st h Q := by
  intro p e R s m args below meth c H locs cells slots L Z hC hr hS hL hn hc hs hret
  obtain ⟨hx, hb, hrt, hml, hown, hts, hlk, hinit, hK, hold, hfr, hlo, hcl, hsl, hB0, hj⟩ := id hC
  split at hk
  · exact lv_dup hx hb hdg rfl (hk p e R s m args below meth c H locs cells slots L Z hC hr hS hL hn hc hs hret)
  · exact lv_dup hx hb hdg (br_gv_cat (br_catg hfix.2.1) _) (hk p e R s m args below meth c H locs cells slots L Z hC hr hS hL hn hc hs hret)
  · exact hk.elim
theorem br_k_dup2 (hfix : br_fix g0 oS oI oR) (hdg : decode (br_md j).2.1 pc = .ok (.dup2, 1)) (hk : br_pri (fun a i r => br_snd g0 B0 D cA oS oI oR l d j (pc + 1) ls (.int i :: .ref a :: .int i :: .ref a :: r) h Q) st) : br_snd g0 B0 D cA oS oI oR l d j pc ls st h Q := by
  intro p e R s m args below meth c H locs cells slots L Z hC hr hS hL hn hc hs hret
  obtain ⟨hx, hb, hrt, hml, hown, hts, hlk, hinit, hK, hold, hfr, hlo, hcl, hsl, hB0, hj⟩ := id hC
  obtain ⟨a, i, r, rfl, hk⟩ := br_pri_inv hk
  exact lv_dup2_11 hx hb hdg rfl (br_gv_cat (br_catg hfix.2.1) _) (hk p e R s m args below meth c H locs cells slots L Z hC hr hS hL hn hc hs hret)
theorem br_k_if {cc : Jvm.ClassFile.Cond} {off : Int} {t : Nat} (hfix : br_fix g0 oS oI oR) (hdg : decode (br_md j).2.1 pc = .ok (.ifCond cc off, 3)) (hk : ((pc : Int) + off = (t : Int)) ∧ br_pi (fun x r => (br_cc cc x 0 → br_snd g0 B0 D cA oS oI oR l d j t ls r h Q) ∧ (¬ br_cc cc x 0 → br_snd g0 B0 D cA oS oI oR l d j (pc + 3) ls r h Q)) st) : br_snd g0 B0 D cA oS oI oR l d j pc ls st h Q := by
  intro p e R s m args below meth c H locs cells slots L Z hC hr hS hL hn hc hs hret
  obtain ⟨hx, hb, hrt, hml, hown, hts, hlk, hinit, hK, hold, hfr, hlo, hcl, hsl, hB0, hj⟩ := id hC
  obtain ⟨ht, hk⟩ := hk
  obtain ⟨x, r, rfl, k1, k2⟩ := br_pi_inv hk
  have w1 := fun q => k1 q p e R s m args below meth c H locs cells slots L Z hC hr hS hL hn hc hs hret
  have w2 := fun q => k2 q p e R s m args below meth c H locs cells slots L Z hC hr hS hL hn hc hs hret
  cases cc
  · exact lv_if_eq hx hb hdg ht w1 w2
  · exact lv_if_ne hx hb hdg ht w1 (fun q => w2 (fun z => z q))
  · exact lv_if_lt hx hb hdg ht w1 w2
  · exact lv_if_ge hx hb hdg ht w1 w2
  · exact lv_if_gt hx hb hdg ht w1 w2
  · exact lv_if_le hx hb hdg ht w1 w2
theorem br_k_icmp {cc : Jvm.ClassFile.Cond} {off : Int} {t : Nat} (hfix : br_fix g0 oS oI oR) (hdg : decode (br_md j).2.1 pc = .ok (.if_icmp cc off, 3)) (hk : ((pc : Int) + off = (t : Int)) ∧ br_pii (fun x y r => (br_cc cc x y → br_snd g0 B0 D cA oS oI oR l d j t ls r h Q) ∧ (¬ br_cc cc x y → br_snd g0 B0 D cA oS oI oR l d j (pc + 3) ls r h Q)) st) : br_snd g0 B0 D cA oS oI oR l d j pc ls st h Q := by
  intro p e R s m args below meth c H locs cells slots L Z hC hr hS hL hn hc hs hret
  obtain ⟨hx, hb, hrt, hml, hown, hts, hlk, hinit, hK, hold, hfr, hlo, hcl, hsl, hB0, hj⟩ := id hC
  obtain ⟨ht, hk⟩ := hk
  obtain ⟨x, y, r, rfl, k1, k2⟩ := br_pii_inv hk
  have w1 := fun q => k1 q p e R s m args below meth c H locs cells slots L Z hC hr hS hL hn hc hs hret
  have w2 := fun q => k2 q p e R s m args below meth c H locs cells slots L Z hC hr hS hL hn hc hs hret
  cases cc
  · exact lv_icmp_eq hx hb hdg ht w1 w2
  · exact lv_icmp_ne hx hb hdg ht w1 (fun q => w2 (fun z => z q))
  · exact lv_icmp_lt hx hb hdg ht w1 w2
  · exact lv_icmp_ge hx hb hdg ht w1 w2
  · exact lv_icmp_gt hx hb hdg ht w1 w2
  · exact lv_icmp_le hx hb hdg ht w1 w2
theorem br_k_goto {off : Int} {t : Nat} (hfix : br_fix g0 oS oI oR) (hdg : decode (br_md j).2.1 pc = .ok (.goto off, 3)) (hk : ((pc : Int) + off = (t : Int)) ∧ br_snd g0 B0 D cA oS oI oR l d j t ls st h Q) : br_snd g0 B0 D cA oS oI oR l d j pc ls st h Q := by
  intro p e R s m args below meth c H locs cells slots L Z hC hr hS hL hn hc hs hret
  obtain ⟨hx, hb, hrt, hml, hown, hts, hlk, hinit, hK, hold, hfr, hlo, hcl, hsl, hB0, hj⟩ := id hC
  exact lv_goto hx hb hdg hk.1 (hk.2 p e R s m args below meth c H locs cells slots L Z hC hr hS hL hn hc hs hret)
end BRK
