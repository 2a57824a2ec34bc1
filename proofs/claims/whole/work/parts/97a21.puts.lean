section BRP
variable {g0 : Nat → Value} {B0 : Nat} {D : va_G} {cA : Nat → ClassId} {oS : Nat → Nat × Nat} {oI : Nat → Nat → Int32} {oR : Nat → Nat → Nat} {l : Launch} {d j pc : Nat} {ls : br_V} {st : List Value} {h : br_H} {Q : br_Q}
/-- a field of an object is written -/
theorem br_put {p : Program} {e : Env} {R : Room} {s : State} {m : MethodId} {args : Array Value} {below : List Frame} {meth : Method} {c : Code} {H : Heap} {locs : List Loc} {cells slots : Nat} {L : Array Slot} {Z : State → Prop} {h' : br_H} {w : Value} {rest : List Value} {i ci k ty a : Nat}
    (hC : br_ctx g0 B0 D cA oS oI p s m args meth c R d j) (hr : br_rel B0 D cA oS oI oR h H) (hS : va_S (br_A B0) s.heap H locs) (hdg : decode (br_md j).2.1 pc = .ok (.putfield i, 3)) (hci : ci < 13)
    (hw : Jvm.Cond.fieldLink (br_md j).1.cls i (br_fld ci k).1 (br_fld ci k).2.1 (br_fld ci k).2.2.1 ∈ br_gt) (hkN : k < br_cN ci) (hty : (br_tyc.getD ci [])[k]? = some ty) (hfin : (br_fld ci k).2.2.2 = true → (br_md j).1.name = "<init>" ∧ (br_fld ci k).1 = (br_md j).1.cls)
    (h8 : 8 ≤ a) (ha : br_sh h a = (0, ci)) (hfit : ∀ Y : FieldType, (∀ C T N Y0, br_clsok ci C T N Y0 → Y = Y0 k) → narrow Y w = w ∧ fits Y w = true)
    (hN : br_N h' = br_N h) (hsh : br_sh h' a = (0, ci)) (hs : ∀ q, 8 ≤ q → q ≠ a → br_ce B0 cA h' q = br_ce B0 cA h q) (hv : br_fvc B0 h' ty a k = w) (ho : ∀ t x, x ≠ k → br_fvc B0 h' t a x = br_fvc B0 h t a x) (hi' : br_inv oS oI oR h')
    (kk : ∀ (H1 : Heap) (locs1 : List Loc), br_rel B0 D cA oS oI oR h' H1 → va_S (br_A B0) s.heap H1 locs1 → W p l e R s m args below meth c H1 locs1 cells slots Z (F0 m (pc + 3) L rest)) :
    W p l e R s m args below meth c H locs cells slots Z (F0 m pc L (w :: .ref (B0 + (a - 8)) :: rest)) := by
  obtain ⟨hx, hb, hrt, hml, hown, hts, hlk, hinit, hK, hold, hfr, hlo, hcl, hsl, hB0, hj⟩ := id hC
  obtain ⟨C, T, N, Y, hok⟩ := br_clsx ci hci
  obtain ⟨q1, q2, q3, q4, q5, q6, q7, q8, q9⟩ := id hok
  have e1 : br_fld ci k = T k := by unfold br_fld; rw [q1]
  have e2 : br_cN ci = N := by unfold br_cN; rw [q1]
  rw [e1] at hw hfin
  rw [e2] at hkN
  have hg := br_get hr h8 (br_ne9 ha)
  rw [br_ce0 ha] at hg
  have hap := va_apart (own := (br_md j).1.cls) hts q2 Y q3 q4 hK q1
  obtain ⟨r, h1, cell, g1, g2, g3, g4⟩ := hr.2.2.1 _ _ hg
  have hr2 : r = (C, T, N) := Option.some.inj (h1.symm.trans q1)
  subst hr2
  obtain ⟨hSS, hfc, kC, hkC, hkind⟩ := hK.1 ci _ q1
  obtain ⟨cf, kf, fi, f, hi, hsl2⟩ := hSS k hkN
  have hlay := hts _ (q2 _ (u_in_lay hkN))
  have hst := (u_facts hfc hkC (u_lays hts q2 hkN) hi).1
  have hnf := hfit (Y k) (fun C' T' N' Y0 ho' => by
    obtain ⟨z1, -, z3, -⟩ := ho'
    have hz : (C, T, N) = (C', T', N') := Option.some.inj (q1.symm.trans z1)
    cases hz
    exact Option.some.inj ((q3 k hkN).symm.trans (z3 k hkN)))
  have fin : ∀ H' : Heap, H'[B0 + (a - 8)]? = some (cell.setSlot f.slot w) → H'.size = H.size → (∀ q, q ≠ B0 + (a - 8) → H'[q]? = H[q]?) → br_rel B0 D cA oS oI oR h' H' ∧ va_S (br_A B0) s.heap H' (locs ++ [⟨B0 + (a - 8), f.slot⟩]) := by
    intro H' z1 z2 z3
    rw [hsl2] at z1
    refine ⟨br_rel_set hr h8 (br_ne9 ha) hN hs z2 z3 ?_ hi', hS.put z2 z3 (show B0 ≤ _ by omega)⟩
    rw [br_ce0 hsh, br_fs_set (h := h) (br_tyc.getD ci []) hty hv ho]
    exact ⟨_, q1, t_OB.to (V := updV (vp_V (br_fs B0 h a (br_tyc.getD ci []) 0)) k w) ⟨_, z1, g2, g3, t_set g4 hap hkN w⟩ (fun x _ => vp_updV_set (by rw [br_fs_len, q5]; exact hkN) w x)⟩
  unfold u_lay at hlay
  by_cases hf : (T k).2.2.2 = true
  · rw [if_pos hf] at hlay
    obtain ⟨f1, f2⟩ := hfin hf
    have hcf : m.cls = cf := by
      obtain ⟨_, _, c', _, _, _, -, -, hf', -, -, -, hown2, -⟩ := Cond.laysFinal_spec hlay
      have e3 : c' = cf := by have := hi.symm.trans hf'; simp at this; exact this.1.symm
      rw [f2] at hown2
      rw [← e3]; exact Option.some.inj (hown.symm.trans hown2)
    have h6 := u_fits hfc hkC hkind (Or.inr hlay) hi (q3 k hkN) hnf.1 hnf.2
    refine W.putFinK hx hb hown (hts _ hw) hi hst hcf (hinit f1) (by rw [g2]; exact h6) g1 g3 (by rw [hsl2]; exact k2_hasslot (g4 k hkN)) rfl rfl hdg fun H' z1 z2 z3 => ?_
    exact kk H' _ (fin H' z1 z2 z3).1 (fin H' z1 z2 z3).2
  · rw [if_neg hf] at hlay
    have h6 := u_store hfc hkC hkind hlay hi (q3 k hkN) hnf.1 hnf.2
    refine W.putK hx hb (f := f) ⟨hown, hts _ hw, ⟨_, _, _, hi⟩, hst⟩ (by rw [g2]; exact h6) g1 g3 (by rw [hsl2]; exact k2_hasslot (g4 k hkN)) rfl rfl hdg fun H' z1 z2 z3 => ?_
    exact kk H' _ (fin H' z1 z2 z3).1 (fin H' z1 z2 z3).2
theorem br_k_putI {i ci k : Nat} (hfix : br_fix g0 oS oI oR) (hdg : decode (br_md j).2.1 pc = .ok (.putfield i, 3)) (hci : ci < 13)
    (hw : Jvm.Cond.fieldLink (br_md j).1.cls i (br_fld ci k).1 (br_fld ci k).2.1 (br_fld ci k).2.2.1 ∈ br_gt) (hkN : k < br_cN ci) (hty : (br_tyc.getD ci [])[k]? = some 0) (hI : (br_fld ci k).2.2.1 = "I") (hfin : (br_fld ci k).2.2.2 = true → (br_md j).1.name = "<init>" ∧ (br_fld ci k).1 = (br_md j).1.cls)
    (hk : br_pi (fun x r => br_pr (fun a r => br_sh h a = (0, ci) ∧ br_snd g0 B0 D cA oS oI oR l d j (pc + 3) ls r (br_wI h a k x) Q) r) st) : br_snd g0 B0 D cA oS oI oR l d j pc ls st h Q := by
  intro p e R s m args below meth c H locs cells slots L Z hC hr hS hL hn hc hs hret
  obtain ⟨x, r, rfl, hk⟩ := br_pi_inv hk
  obtain ⟨a, r, rfl, ha, hk⟩ := br_pr_inv hk
  have h8 := br_obj8 hfix hr ha hci
  rw [List.map_cons, List.map_cons, br_g_ref h8]
  refine br_put (h' := br_wI h a k x) (ty := 0) hC hr hS hdg hci hw hkN hty hfin h8 ha (fun Y hY => ?_) rfl ha (fun q _ hq => br_ce_eq rfl rfl (br_u_ne hq) rfl) ?_ (fun t y hy => ?_) (br_inv_I hr.2.2.2 h8 (fun q => by rw [ha] at q; cases q)) (fun H1 locs1 hr1 hS1 => hk p e R s m args below meth c H1 locs1 cells slots L Z hC hr1 hS1 hL hn hc hs hret)
  · obtain ⟨C, T, N, Y0, hok⟩ := br_clsx ci hci
    have e := hY C T N Y0 hok
    obtain ⟨q1, q2, q3, q4, q5, q6, q7, q8, q9⟩ := hok
    have e1 : br_fld ci k = T k := by unfold br_fld; rw [q1]
    have e2 : br_cN ci = N := by unfold br_cN; rw [q1]
    rw [e, q8 k (by rw [← e2]; exact hkN) (by rw [← e1]; exact hI)]
    exact ⟨rfl, rfl⟩
  · show Value.int (br_u _ _ _ _ a k) = _
    rw [br_u_at, if_pos rfl]; rfl
  · match t with
    | 0 => show Value.int (br_u _ _ _ _ a y) = _; rw [br_u_at, if_neg hy]; rfl
    | 1 => rfl
    | n + 2 => rfl
theorem br_k_putL {i ci k : Nat} (hfix : br_fix g0 oS oI oR) (hdg : decode (br_md j).2.1 pc = .ok (.putfield i, 3)) (hci : ci < 13)
    (hw : Jvm.Cond.fieldLink (br_md j).1.cls i (br_fld ci k).1 (br_fld ci k).2.1 (br_fld ci k).2.2.1 ∈ br_gt) (hkN : k < br_cN ci) (hty : (br_tyc.getD ci [])[k]? = some 1) (hfin : (br_fld ci k).2.2.2 = true → (br_md j).1.name = "<init>" ∧ (br_fld ci k).1 = (br_md j).1.cls)
    (hk : br_pl (fun x r => br_pr (fun a r => br_sh h a = (0, ci) ∧ br_snd g0 B0 D cA oS oI oR l d j (pc + 3) ls r (br_wL h a k x) Q) r) st) : br_snd g0 B0 D cA oS oI oR l d j pc ls st h Q := by
  intro p e R s m args below meth c H locs cells slots L Z hC hr hS hL hn hc hs hret
  obtain ⟨x, r, rfl, hk⟩ := br_pl_inv hk
  obtain ⟨a, r, rfl, ha, hk⟩ := br_pr_inv hk
  have h8 := br_obj8 hfix hr ha hci
  rw [List.map_cons, List.map_cons, br_g_ref h8]
  refine br_put (h' := br_wL h a k x) (ty := 1) hC hr hS hdg hci hw hkN hty hfin h8 ha (fun Y hY => ?_) rfl ha (fun q _ hq => br_ce_eq rfl rfl rfl (br_u_ne hq)) ?_ (fun t y hy => ?_) (br_inv_L hr.2.2.2) (fun H1 locs1 hr1 hS1 => hk p e R s m args below meth c H1 locs1 cells slots L Z hC hr1 hS1 hL hn hc hs hret)
  · obtain ⟨C, T, N, Y0, hok⟩ := br_clsx ci hci
    have e := hY C T N Y0 hok
    obtain ⟨q1, q2, q3, q4, q5, q6, q7, q8, q9⟩ := hok
    have e2 : br_cN ci = N := by unfold br_cN; rw [q1]
    rw [e, q7 k (by rw [← e2]; exact hkN) (by rw [List.getD_eq_getElem?_getD, hty]; rfl)]
    exact ⟨rfl, rfl⟩
  · show Value.long (br_u _ _ _ _ a k) = _
    rw [br_u_at, if_pos rfl]; rfl
  · match t with
    | 0 => rfl
    | 1 => show Value.long (br_u _ _ _ _ a y) = _; rw [br_u_at, if_neg hy]; rfl
    | n + 2 => rfl
theorem br_ref_fits {Y : FieldType} (h : Y.isReference = true) (a : Nat) : narrow Y (.ref a) = .ref a ∧ fits Y (.ref a) = true := by
  cases Y <;> first | exact ⟨rfl, rfl⟩ | (cases h)
theorem br_k_putR {i ci k : Nat} (hfix : br_fix g0 oS oI oR) (hdg : decode (br_md j).2.1 pc = .ok (.putfield i, 3)) (hci : ci < 13)
    (hw : Jvm.Cond.fieldLink (br_md j).1.cls i (br_fld ci k).1 (br_fld ci k).2.1 (br_fld ci k).2.2.1 ∈ br_gt) (hkN : k < br_cN ci) (hty : (br_tyc.getD ci [])[k]? = some 2) (hfin : (br_fld ci k).2.2.2 = true → (br_md j).1.name = "<init>" ∧ (br_fld ci k).1 = (br_md j).1.cls)
    (hk : br_pr (fun x r => br_pr (fun a r => br_sh h a = (0, ci) ∧ 8 ≤ x ∧ br_snd g0 B0 D cA oS oI oR l d j (pc + 3) ls r (br_wR h a k x) Q) r) st) : br_snd g0 B0 D cA oS oI oR l d j pc ls st h Q := by
  intro p e R s m args below meth c H locs cells slots L Z hC hr hS hL hn hc hs hret
  obtain ⟨x, r1, rfl, hk1⟩ := br_pr_inv hk
  clear hk
  obtain ⟨a, r, rfl, ha, hx8, hk⟩ := br_pr_inv hk1
  have h8 := br_obj8 hfix hr ha hci
  rw [List.map_cons, List.map_cons, br_g_ref h8, br_g_ref hx8]
  refine br_put (h' := br_wR h a k x) (ty := 2) hC hr hS hdg hci hw hkN hty hfin h8 ha (fun Y hY => ?_) rfl ha (fun q _ hq => br_ce_eq rfl (br_u_ne hq) rfl rfl) ?_ (fun t y hy => ?_) (br_inv_R hr.2.2.2 h8 hx8) (fun H1 locs1 hr1 hS1 => hk p e R s m args below meth c H1 locs1 cells slots L Z hC hr1 hS1 hL hn hc hs hret)
  · obtain ⟨C, T, N, Y0, hok⟩ := br_clsx ci hci
    have e := hY C T N Y0 hok
    obtain ⟨q1, q2, q3, q4, q5, q6, q7, q8, q9⟩ := hok
    have e2 : br_cN ci = N := by unfold br_cN; rw [q1]
    rw [e]
    exact br_ref_fits (q9 k (by rw [← e2]; exact hkN) (by rw [List.getD_eq_getElem?_getD, hty]; rfl)) _
  · show va_rf (br_o B0 (br_u _ _ _ _ a k)) = _
    rw [br_u_at, if_pos rfl]
    have hx0 : x ≠ 0 := fun z => by rw [z] at hx8; exact absurd hx8 (by decide)
    simp [br_o, va_rf, hx0]
  · match t with
    | 0 => rfl
    | 1 => rfl
    | n + 2 => show va_rf (br_o B0 (br_u _ _ _ _ a y)) = _; rw [br_u_at, if_neg hy]; rfl
end BRP
