section BRK2
variable {g0 : Nat → Value} {B0 : Nat} {D : va_G} {cA : Nat → ClassId} {oS : Nat → Nat × Nat} {oI : Nat → Nat → Int32} {oR : Nat → Nat → Nat} {l : Launch} {d j pc : Nat} {ls : br_V} {st : List Value} {h : br_H} {Q : br_Q}
def br_wds (j : Nat) : List Jvm.Cond := Jvm.Cond.code (br_md j).1 (br_md j).2.1 (br_md j).2.2.1 (br_md j).2.2.2.1 :: br_gt
theorem br_good (hc : Jvm.Cond.code (br_md j).1 (br_md j).2.1 (br_md j).2.2.1 (br_md j).2.2.2.1 ∈ br_gt) : GoodIn br_gt (br_wds j) := by
  have key : ∀ w ∈ br_gt, w ∈ br_gt ∧ ((w.onTables && w.keeps) = true ∨ ∃ ty, w = .arrayClass ty) := fun w hw => ⟨hw, good_of_word (List.mem_filter.mp hw).2⟩
  intro w hw
  rcases List.mem_cons.mp hw with rfl | hw
  · exact key _ hc
  · exact key w hw
theorem br_MofW {y : MethodName} {ws ws' : List Jvm.Cond} {rm : Room} {Pc : Array Value → State → Prop} {Qc : Array Value → State → Outcome → State → Prop} {mc ms : Nat} {free : Addr → Prop} {cc : ByteArray} {maxL : Nat} {ret : Option FieldType}
    (hy : plainFor y = true) (hw : ws = Jvm.Cond.code y cc maxL ret :: ws')
    (body : ∀ p e s m args below meth c s₁, BodyLoose p l y (headSpec ws rm) cc maxL ret e s m args below meth c s₁ → c.maxLocals = maxL → Pc args s →
      W p l e (headSpec ws rm).room s m args below meth c s.heap [] 0 0 (MQ below Qc args s mc ms free) (entryFrame m args maxL)) : Met l y ws rm Pc Qc mc ms free := by
  refine MetFree.of_bodySF (code := cc) (maxLocals := maxL) (ret := ret) hy ?_ ?_
  · intro args s m h hn
    obtain ⟨meth, c, h1, h2, h3, h4, h5, h6, -, -⟩ := Cond.code_spec hn (atoms_spec (ws := ws) h _ (by rw [hw]; exact List.mem_cons_self))
    exact ⟨meth, c, h1, h2, h3, h4, h5, h6⟩
  · intro p e s m args below meth c s₁ B hml hP _
    have hh0 : s₁.heap = s.heap := by rw [B.state]; rfl
    obtain ⟨t, a1, o, b1, b2, b3⟩ := body p e s m args below meth c s₁ B hml hP s₁ hh0 (Stand.of_body B)
    exact ⟨t, o, a1, b1, b2, ⟨b3.1, b3.2⟩⟩
def br_Pc (g0 : Nat → Value) (B0 : Nat) (D : va_G) (cA : Nat → ClassId) (oS : Nat → Nat × Nat) (oI : Nat → Nat → Int32) (as : List Value) (H : Heap) : Array Value → State → Prop := fun v U =>
  v = (as.map (br_gv g0 B0)).toArray ∧ U.heap = H ∧ va_K D br_cls (br_tys cA) U ∧ br_old g0 B0 oS oI U U.heap ∧ B0 ≤ U.heap.size
def br_Qc (g0 : Nat → Value) (B0 : Nat) (D : va_G) (cA : Nat → ClassId) (oS : Nat → Nat × Nat) (oI : Nat → Nat → Int32) (oR : Nat → Nat → Nat) (Q : br_Q) : Array Value → State → Outcome → State → Prop := fun _ st o t =>
  (∃ (v : Option Value) (h' : br_H), o = .returned (v.map (br_gv g0 B0)) ∧ Q v h' ∧ br_rel B0 D cA oS oI oR h' t.heap) ∧ va_F (br_A B0) st t
def br_rm (d j : Nat) : Room := { frames := d + 1, cells := (br_mc j).1, slots := (br_mc j).2, locals := 48 * (d + 1) }
theorem br_blind {as : List Value} {H : Heap} : FrameBlind (br_Pc g0 B0 D cA oS oI as H) := fun a U g mk ⟨h1, h2, h3, h4, h5⟩ =>
  ⟨h1, h2, va_K.moved (u := U) (U := U.calling g mk a) (Vm.Alike.refl U.vm) h3, br_old.same (s := U) (U := U.calling g mk a) rfl h4, h5⟩
theorem br_met {as : List Value} {H : Heap} (hfix : br_fix g0 oS oI oR) (hpl : plainFor (br_md j).1 = true) (hj : j < 301) (hs : br_snd g0 B0 D cA oS oI oR l d j 0 (br_ent (br_md j).2.2.1 as) [] h Q) (hB : br_B h = br_mc j) (hlen : (br_arg as).length ≤ (br_md j).2.2.1) (hr : br_rel B0 D cA oS oI oR h H) :
    Met l (br_md j).1 (br_wds j) (br_rm d j) (br_Pc g0 B0 D cA oS oI as H) (br_Qc g0 B0 D cA oS oI oR Q) (br_mc j).1 (br_mc j).2 (br_A B0) := by
  refine br_MofW (cc := (br_md j).2.1) (maxL := (br_md j).2.2.1) (ret := (br_md j).2.2.2.1) hpl rfl ?_
  intro p e s m args below meth c s₁ B hml hv
  obtain ⟨rfl, hH, hK, hold, hB0⟩ := hv
  have hx := B.exec
  have hb := B.bytes
  have hrr := B.returns
  have hts := atoms_spec (ws := br_wds j) B.pre
  have hlocks := B.notSynchronized
  have hg := br_catg hfix.2.1
  have hl := lv_entry (as.map (br_gv g0 B0)) (n := (br_md j).2.2.1) (by rw [← br_arg_len hg]; exact hlen)
  rw [lg_entry_eq]
  generalize (lg_sl (as.map (br_gv g0 B0)) ++ List.replicate ((br_md j).2.2.1 - (lg_sl (as.map (br_gv g0 B0))).length) Slot.unset).toArray = L at hl ⊢
  have hent : (br_ent (br_md j).2.2.1 as).length = (br_md j).2.2.1 := br_pad_len _ _ hlen
  have hlv : br_lv g0 B0 (br_ent (br_md j).2.2.1 as) L := ⟨by rw [hent]; exact hl.1, hl.2.1, fun i v hi => by
    have := hl.2.2 _ (br_arg_ld (B0 := B0) hg as 0 i v (br_pad_ld _ _ _ _ hi))
    simpa using this⟩
  refine hs p e _ s m _ below meth c s.heap [] 0 0 L _ ⟨hx, hb, hrr, hml, findClass_of_methodNamed B.named, fun w hw => hts w (List.mem_cons_of_mem _ hw), hlocks, fun hi => ?_, hK, hold, Nat.le_refl _, Nat.le_refl _, Nat.le_refl _, Nat.le_refl _, hB0, hj⟩ (by rw [hH]; exact hr) va_S.rf hlv hent (by rw [hB]; simp) (by rw [hB]; simp) ?_
  · rw [(name_of_methodNamed B.named B.method).1]; exact hi
  · intro v h' H' locs' cells' slots' L' pc' ins hq hr' hS' hc hs' hdg hret1
    refine W.widen hc hs' ?_
    match v, hret1, hq with
    | some (.int x), ⟨hi, ty, hty, hnn⟩, hq =>
      subst hi
      exact W.zret hx hb (by rw [hrr]; exact hty) hnn (fun t ht hW => ⟨⟨some (.int x), h', rfl, hq, by rw [ht]; exact hr'⟩, hS'.F ht⟩) hS'.2.2 hdg
    | some (.long x), ⟨hi, hty⟩, hq =>
      subst hi
      exact W.lret hx hb (by rw [hrr]; exact hty) (fun t ht hW => ⟨⟨some (.long x), h', rfl, hq, by rw [ht]; exact hr'⟩, hS'.F ht⟩) hS'.2.2 hdg
    | none, ⟨hi, hty⟩, hq =>
      subst hi
      exact W.vret hx hb (by rw [hrr]; exact hty) (fun t ht hW => ⟨⟨none, h', rfl, hq, by rw [ht]; exact hr'⟩, hS'.F ht⟩) hS'.2.2 hdg
theorem br_after {p : Program} {e : Env} {R : Room} {s : State} {m : MethodId} {args : Array Value} {below : List Frame} {meth : Method} {c : Code} {H : Heap} {locs : List Loc} {cells slots mc ms : Nat} {L : Array Slot} {Z : State → Prop} {st0 rest : List Value} {a : Array Value} {Q' : br_Q}
    (hr : va_Run p l e R s m args below meth c H locs cells slots mc ms (F0 m pc L st0) rest (br_Qc g0 B0 D cA oS oI oR Q' a) (br_A B0)) (hS : va_S (br_A B0) s.heap H locs)
    (kk : ∀ (v : Option Value) (h' : br_H) (H1 : Heap) (locs1 : List Loc), Q' v h' → br_rel B0 D cA oS oI oR h' H1 → va_S (br_A B0) s.heap H1 locs1 → W p l e R s m args below meth c H1 locs1 (cells + mc) (slots + ms) Z (F0 m (pc + 3) L ((v.map (br_gv g0 B0)).toList ++ rest))) :
    W p l e R s m args below meth c H locs cells slots Z (F0 m pc L st0) := by
  intro T hT X
  obtain ⟨v, st₀, t, T', L1, h0, X', hL, e1, e2, ⟨⟨v2, h', hv, hp, hb⟩, hz, hk⟩, stp⟩ := hr T hT X
  cases hv
  rw [h0] at hz hk
  obtain ⟨t2, a1, b1⟩ := kk v2 h' T'.heap (locs ++ L1) hp (by rw [e1]; exact hb)
    ⟨Nat.le_trans hS.1 (by rw [e1]; exact hz), fun q h1 h2 => by rw [e1, hk q (Nat.lt_of_lt_of_le h1 hS.1) h2]; exact hS.2.1 q h1 h2, fun q hq => by
      rcases List.mem_append.mp hq with h | h
      · exact hS.2.2 q h
      · exact hL q h⟩ T' rfl X'
  exact ⟨t2, stp t2 a1, b1⟩
theorem br_cl_inv {n ml mc ms : Nat} {as rest : List Value} {K : br_K} (h0 : mc = 0 → ms = 0) (hk : br_cl (br_call (br_snd g0 B0 D cA oS oI oR l) d) K n ls as rest h j ml mc ms) :
    ∃ d', d = d' + 1 ∧ (br_arg as).length ≤ ml ∧ mc ≤ (br_B h).1 ∧ ms ≤ (br_B h).2 ∧ br_snd g0 B0 D cA oS oI oR l d' j 0 (br_ent ml as) [] (br_setB h (mc, ms)) (fun v h' => K n ls (v.toList ++ rest) (br_setB h' ((br_B h).1 - mc, (br_B h).2 - ms))) := by
  have call : ∀ {x : br_H} {Q' : br_Q}, br_call (br_snd g0 B0 D cA oS oI oR l) d j ml as x Q' → ∃ d', d = d' + 1 ∧ (br_arg as).length ≤ ml ∧ br_snd g0 B0 D cA oS oI oR l d' j 0 (br_ent ml as) [] x Q' := by
    intro x Q' hc
    unfold br_call at hc
    split at hc
    · exact hc.elim
    · next d' =>
      split at hc
      · next hb => exact ⟨d', rfl, Nat.le_of_ble_eq_true hb, hc⟩
      · exact hc.elim
  unfold br_cl at hk
  split at hk
  · have := h0 rfl
    subst this
    obtain ⟨d', e1, e2, e3⟩ := call hk
    exact ⟨d', e1, e2, Nat.zero_le _, Nat.zero_le _, e3⟩
  · obtain ⟨k1, k2, hk⟩ := hk
    obtain ⟨d', e1, e2, e3⟩ := call hk
    exact ⟨d', e1, e2, k1, k2, e3⟩
theorem br_sp_inv : ∀ (n : Nat) (st acc as rest : List Value), br_sp n st acc = some (as, rest) → ∃ x : List Value, st = x ++ rest ∧ x.length = n ∧ as = x.reverse ++ acc
  | 0, st, acc, as, rest, h => by
    simp [br_sp] at h
    obtain ⟨rfl, rfl⟩ := h
    exact ⟨[], rfl, rfl, rfl⟩
  | n + 1, [], acc, as, rest, h => by simp [br_sp] at h
  | n + 1, v :: t, acc, as, rest, h => by
    obtain ⟨x, rfl, h2, rfl⟩ := br_sp_inv n t (v :: acc) as rest h
    exact ⟨v :: x, rfl, by simp [h2], by simp⟩
/-- what the check says of a call -/
theorem br_ivk_of {own : String} {i kd ci na ml mc ms j' : Nat} {r hs : List Nat} (h : br_ivk own i kd (j' :: na :: ml :: mc :: ms :: ci :: r) hs = true) : j' < 301 ∧ (br_md j').2.2.1 = ml ∧ (br_md j').2.2.2.2 = (mc, ms) ∧ (mc = 0 → ms = 0) ∧
    (Jvm.Cond.methodLink own i (br_md j').1 ∈ br_gt ∨ Jvm.Cond.methodLinkNest own i (br_md j').1 "BloomRooms" ∈ lw_tbl) ∧ Jvm.Cond.initialized (br_md j').1.cls ∈ br_gt ∧ ((br_md j').1.cls ≠ "java/lang/invoke/MethodHandle" ∧ (br_md j').1.cls ≠ "java/lang/invoke/VarHandle") ∧
    match kd with
    | 0 => Jvm.Cond.static (br_md j').1 ∈ br_gt ∧ (parseMethodDescriptor (br_md j').1.desc).map (fun d => d.parameters.length) = some na
    | 1 => Jvm.Cond.instanceMethod (br_md j').1 ∈ br_gt ∧ (parseMethodDescriptor (br_md j').1.desc).map (fun d => d.parameters.length + 1) = some na ∧ ((br_md j').1.cls = br_cnm ci ∨ (br_md j').1.cls = "java/lang/String" ∧ ci = 13) ∧ Jvm.Cond.selects (br_md j').1.cls (br_md j').1 (br_md j').1 ∈ br_gt
    | _ => Jvm.Cond.instanceMethod (br_md j').1 ∈ br_gt ∧ (parseMethodDescriptor (br_md j').1.desc).map (fun d => d.parameters.length + 1) = some na ∧ (br_md j').1.name = "<init>" ∧ (br_md j').2.2.2.1 = none := by
  rcases hs with _ | ⟨nest, _ | ⟨h0, _ | ⟨h1, _ | ⟨h2, hs1⟩⟩⟩⟩
  · cases h
  · cases h
  · cases h
  · cases h
  · unfold br_ivk at h
    simp only [Bool.and_eq_true, decide_eq_true_eq] at h
    obtain ⟨⟨⟨⟨⟨⟨⟨⟨a1, a2⟩, a3⟩, a4⟩, a5⟩, a6⟩, a7⟩, a8⟩, a9⟩ := h
    refine ⟨a1, a2, a3, fun hz => by subst hz; simpa using a4, ?_, br_is_mem a6, ⟨a7, a8⟩, ?_⟩
    · split at a5
      · exact Or.inl (br_is_mem a5)
      · exact Or.inr (br_isN_mem a5)
    · match kd, a9 with
      | 0, a9 =>
        simp only [Bool.and_eq_true, decide_eq_true_eq] at a9
        exact ⟨br_is_mem a9.1, a9.2⟩
      | 1, a9 =>
        simp only [Bool.and_eq_true, Bool.or_eq_true, decide_eq_true_eq] at a9
        obtain ⟨⟨⟨b1, b2⟩, b3⟩, b4⟩ := a9
        refine ⟨br_is_mem b1, b2, b3, ?_⟩
        split at b4
        · exact br_is_mem b4
        · cases b4
      | n + 2, a9 =>
        simp only [Bool.and_eq_true, decide_eq_true_eq] at a9
        exact ⟨br_is_mem a9.1.1.1, a9.1.1.2, a9.1.2, a9.2⟩
end BRK2
