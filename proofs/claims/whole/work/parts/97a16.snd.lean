theorem br_pi_inv {K : Int32 → List Value → Prop} {st : List Value} (h : br_pi K st) : ∃ x r, st = .int x :: r ∧ K x r := by
  unfold br_pi at h; split at h
  · exact ⟨_, _, rfl, h⟩
  · exact h.elim
theorem br_pl_inv {K : Int64 → List Value → Prop} {st : List Value} (h : br_pl K st) : ∃ x r, st = .long x :: r ∧ K x r := by
  unfold br_pl at h; split at h
  · exact ⟨_, _, rfl, h⟩
  · exact h.elim
theorem br_pr_inv {K : Nat → List Value → Prop} {st : List Value} (h : br_pr K st) : ∃ x r, st = .ref x :: r ∧ K x r := by
  unfold br_pr at h; split at h
  · exact ⟨_, _, rfl, h⟩
  · exact h.elim
theorem br_pii_inv {K : Int32 → Int32 → List Value → Prop} {st : List Value} (h : br_pii K st) : ∃ x y r, st = .int y :: .int x :: r ∧ K x y r := by
  obtain ⟨y, r, rfl, h1⟩ := br_pi_inv h
  obtain ⟨x, r2, rfl, h2⟩ := br_pi_inv h1
  exact ⟨x, y, r2, rfl, h2⟩
theorem br_pll_inv {K : Int64 → Int64 → List Value → Prop} {st : List Value} (h : br_pll K st) : ∃ x y r, st = .long y :: .long x :: r ∧ K x y r := by
  obtain ⟨y, r, rfl, h1⟩ := br_pl_inv h
  obtain ⟨x, r2, rfl, h2⟩ := br_pl_inv h1
  exact ⟨x, y, r2, rfl, h2⟩
theorem br_pri_inv {K : Nat → Int32 → List Value → Prop} {st : List Value} (h : br_pri K st) : ∃ a i r, st = .int i :: .ref a :: r ∧ K a i r := by
  obtain ⟨i, r, rfl, h1⟩ := br_pi_inv h
  obtain ⟨a, r2, rfl, h2⟩ := br_pr_inv h1
  exact ⟨a, i, r2, rfl, h2⟩
theorem br_li_inv {K : Int32 → Prop} {o : Option Value} (h : br_li o K) : ∃ x, o = some (.int x) ∧ K x := by
  unfold br_li at h; split at h
  · exact ⟨_, rfl, h⟩
  · exact h.elim
theorem br_ll_inv {K : Int64 → Prop} {o : Option Value} (h : br_ll o K) : ∃ x, o = some (.long x) ∧ K x := by
  unfold br_ll at h; split at h
  · exact ⟨_, rfl, h⟩
  · exact h.elim
theorem br_lr_inv {K : Nat → Prop} {o : Option Value} (h : br_lr o K) : ∃ x, o = some (.ref x) ∧ K x := by
  unfold br_lr at h; split at h
  · exact ⟨_, rfl, h⟩
  · exact h.elim
def br_AOA (t : FieldType) (U : State) : Prop := (Jvm.Cond.arrayOver (.array t)).before #[] U = true
theorem br_AOA.moved {t : FieldType} {u U : State} (hvm : u.vm.Alike U.vm) (h : br_AOA t u) : br_AOA t U := by
  obtain ⟨comp, c, k, h1, h2, h3, h4, h5⟩ := arrayOverA_spec h
  obtain ⟨k', hk', he⟩ := hvm.2.2 _ _ h3
  have hi : (U.vm.classes.findIdx? fun (x : Class) => match x.kind with | .array component _ => component == comp | _ => false) = some c := by
    have e1 := va_idx_bare U.vm comp
    have e2 := va_idx_bare u.vm comp
    first | rw [hvm.bare_eq] at e1 | rw [← hvm.bare_eq] at e1
    exact e1.symm.trans (e2.trans h2)
  have hkind : k'.kind = .array comp (.array t) := by rw [he]; exact h4
  have f1 : U.vm.findClass (FieldType.array t).toString = some comp := by rw [hvm.findClass]; exact h1
  have f2 : U.vm.findClass ("[" ++ (FieldType.array t).toString) = some c := by rw [hvm.findClass]; exact h5
  unfold br_AOA Cond.before Cond.holds
  simp only [Cond.value]
  rw [f1, Option.bind_some]
  refine (congrArg (fun o : Option Nat => (o.bind (fun c => (U.vm.classes[c]?).map fun (k : Class) => match k.kind with | .array _ ty => decide (ty = FieldType.array t) && decide (U.vm.findClass ("[" ++ (FieldType.array t).toString) = some c) | _ => false) == some true)) hi).trans ?_
  simp [hk', hkind, f2]
/-- what was there before: the script, the table MOST, the two Strings and their bytes, the three statics -/
def br_old (g0 : Nat → Value) (B0 : Nat) (oS : Nat → Nat × Nat) (oI : Nat → Nat → Int32) (s : State) (H : Heap) : Prop :=
  (∀ p, p = 1 ∨ p = 2 ∨ p = 4 ∨ p = 6 → ∃ t, g0 p = .ref t ∧ va_T (if p ≤ 2 then .int else .byte) t (oS p).2 (fun j => .int (oI p j)) (br_A B0) s H) ∧
  (∀ p, p = 3 ∨ p = 5 → ∃ t u, g0 p = .ref t ∧ g0 (p + 1) = .ref u ∧ va_O "java/lang/String" t (br_A B0) s H ∧ va_OF "java/lang/String" "value" "[B" (.ref u) t (br_A B0) s H ∧ va_OF "java/lang/String" "coder" "B" (.int 0) t (br_A B0) s H) ∧
  va_Z "BloomRooms$Reader" "MOST" "[I" (g0 2) (br_A B0) s H ∧ va_Z "java/lang/String" "COMPACT_STRINGS" "Z" (.int 1) (br_A B0) s H ∧ va_Z "jdk/internal/util/Preconditions" "SIOOBE_FORMATTER" "Ljava/util/function/BiFunction;" (g0 7) (br_A B0) s H ∧
  (∃ tx t, g0 3 = .ref t ∧ vk_R "BloomRooms$Tokens" 86 tx t s) ∧ (∃ tx t, g0 5 = .ref t ∧ vk_R "BloomRoomsModel" 91 tx t s) ∧ (∀ (a : String) (i : Nat) (x : MethodName) (h : String), Jvm.Cond.methodLinkNest a i x h ∈ lw_tbl → va_Nw (.methodLinkNest a i x h) s) ∧ va_AO "BloomRooms$World" s ∧ va_AO "BloomRooms$Law" s ∧ br_AOA .int s ∧ br_AOA .long s
def br_fix (g0 : Nat → Value) (oS : Nat → Nat × Nat) (oI : Nat → Nat → Int32) (oR : Nat → Nat → Nat) : Prop :=
  g0 0 = .null ∧ (∀ p, p < 8 → g0 p = .null ∨ ∃ t, g0 p = .ref t) ∧ (∀ p, p < 8 → (oS p).1 = 0 → (p = 3 ∨ p = 5) ∧ (oS p).2 = 13) ∧ (∀ p, p < 8 → (oS p).1 = 1 → p = 1 ∨ p = 2) ∧ (∀ p, p < 8 → (oS p).1 = 4 → p = 4 ∨ p = 6) ∧
  (∀ p, p < 8 → (oS p).1 = 0 ∨ (oS p).1 = 1 ∨ (oS p).1 = 4 ∨ (oS p).1 = 9) ∧ oR 3 0 = 4 ∧ oR 5 0 = 6 ∧ oI 3 1 = 0 ∧ oI 5 1 = 0
section BRO
variable {g0 : Nat → Value} {B0 : Nat} {oS : Nat → Nat × Nat} {oI : Nat → Nat → Int32} {s U : State} {H H1 : Heap}
theorem br_old.warm (hW : s.WarmedH U.vm) (h : br_old g0 B0 oS oI s H) : br_old g0 B0 oS oI U H := by
  obtain ⟨h1, h2, h3, h4, h5, ⟨tx, t, e1, r1⟩, ⟨tx2, t2, e2, r2⟩, hN, w1, w2, w3, w4⟩ := h
  have hv := hW.alike
  refine ⟨fun p hp => ?_, fun p hp => ?_, va_Z.moved hv h3, va_Z.moved hv h4, va_Z.moved hv h5, ⟨tx, t, e1, r1.warm hW⟩, ⟨tx2, t2, e2, r2.warm hW⟩, fun a i x h hm => (hN a i x h hm).warmM hW, w1.moved hv, w2.moved hv, w3.moved hv, w4.moved hv⟩
  · obtain ⟨t, a, b⟩ := h1 p hp
    exact ⟨t, a, va_T.moved hv b⟩
  · obtain ⟨t, u, a, b, c1, c2, c3⟩ := h2 p hp
    exact ⟨t, u, a, b, va_O.moved hv c1, va_OF.moved hv c2, va_OF.moved hv c3⟩
theorem br_old.same (hv : U.vm = s.vm) (h : br_old g0 B0 oS oI s H) : br_old g0 B0 oS oI U H := by
  obtain ⟨h1, h2, h3, h4, h5, ⟨tx, t, e1, r1⟩, ⟨tx2, t2, e2, r2⟩, hN, w1, w2, w3, w4⟩ := h
  have hal : s.vm.Alike U.vm := by rw [hv]; exact Vm.Alike.refl _
  refine ⟨fun p hp => ?_, fun p hp => ?_, va_Z.moved hal h3, va_Z.moved hal h4, va_Z.moved hal h5, ⟨tx, t, e1, r1.same hv⟩, ⟨tx2, t2, e2, r2.same hv⟩, fun a i x h hm => (hN a i x h hm).same rfl hv.symm, w1.moved hal, w2.moved hal, w3.moved hal, w4.moved hal⟩
  · obtain ⟨t, a, b⟩ := h1 p hp
    exact ⟨t, a, va_T.moved hal b⟩
  · obtain ⟨t, u, a, b, c1, c2, c3⟩ := h2 p hp
    exact ⟨t, u, a, b, va_O.moved hal c1, va_OF.moved hal c2, va_OF.moved hal c3⟩
theorem br_old.kept (hq : ∀ a : Nat, a < H.size → ¬ br_A B0 a → H1[a]? = H[a]?) (h : br_old g0 B0 oS oI s H) : br_old g0 B0 oS oI s H1 := by
  obtain ⟨h1, h2, h3, h4, h5, r⟩ := h
  refine ⟨fun p hp => ?_, fun p hp => ?_, h3.kept hq, h4.kept hq, h5.kept hq, r⟩
  · obtain ⟨t, a, b⟩ := h1 p hp
    exact ⟨t, a, b.kept hq⟩
  · obtain ⟨t, u, a, b, c1, c2, c3⟩ := h2 p hp
    exact ⟨t, u, a, b, c1.kept hq, c2.kept hq, c3.kept hq⟩
end BRO
/-- how much a method may make: the law's own is the whole -/
def br_mc (j : Nat) : Nat × Nat := bif Nat.beq j 300 then (174, 836114) else (br_md j).2.2.2.2
theorem br_mc_ne {j : Nat} (h : j ≠ 300) : br_mc j = (br_md j).2.2.2.2 := by
  unfold br_mc
  cases hb : Nat.beq j 300 with
  | true => exact absurd (Nat.eq_of_beq_eq_true hb) h
  | false => rfl
def br_ctx (g0 : Nat → Value) (B0 : Nat) (D : va_G) (cA : Nat → ClassId) (oS : Nat → Nat × Nat) (oI : Nat → Nat → Int32) (p : Program) (s : State) (m : MethodId) (args : Array Value) (meth : Method) (c : Code) (R : Room) (d j : Nat) : Prop :=
  p.tables.exec = Jvm.exec ∧ c.code = (br_md j).2.1 ∧ meth.sig.returnType = (br_md j).2.2.2.1 ∧ c.maxLocals = (br_md j).2.2.1 ∧ s.vm.findClass (br_md j).1.cls = some m.cls ∧ (∀ w ∈ br_gt, w.before args s = true) ∧ meth.locks = false ∧ ((br_md j).1.name = "<init>" → meth.name = "<init>") ∧
  va_K D br_cls (br_tys cA) s ∧ br_old g0 B0 oS oI s s.heap ∧ d + 1 ≤ R.frames ∧ 48 * (d + 1) ≤ R.locals ∧ (br_mc j).1 ≤ R.cells ∧ (br_mc j).2 ≤ R.slots ∧ B0 ≤ s.heap.size ∧ j < 301
def br_ret1 (j : Nat) (v : Option Value) (ins : Instr) : Prop := match v with
  | some (.int x) => ins = .ireturn ∧ ∃ ty, (br_md j).2.2.2.1 = some ty ∧ narrow ty (.int x) = .int x
  | some (.long _) => ins = .lreturn ∧ (br_md j).2.2.2.1 = some .long
  | none => ins = .return_ ∧ (br_md j).2.2.2.1 = none
  | _ => False
def br_rets (g0 : Nat → Value) (B0 : Nat) (D : va_G) (cA : Nat → ClassId) (oS : Nat → Nat × Nat) (oI : Nat → Nat → Int32) (oR : Nat → Nat → Nat) (p : Program) (l : Launch) (e : Env) (R : Room) (s : State) (m : MethodId) (args : Array Value) (below : List Frame) (meth : Method) (c : Code) (Z : State → Prop) (j : Nat) (Q : br_Q) : Prop :=
  ∀ (v : Option Value) (h' : br_H) (H' : Heap) (locs' : List Loc) (cells' slots' : Nat) (L' : Array Slot) (pc' : Nat) (ins : Instr), Q v h' → br_rel B0 D cA oS oI oR h' H' → va_S (br_A B0) s.heap H' locs' → cells' ≤ (br_mc j).1 → slots' ≤ (br_mc j).2 → decode (br_md j).2.1 pc' = .ok (ins, 1) → br_ret1 j v ins →
    W p l e R s m args below meth c H' locs' cells' slots' Z (F0 m pc' L' (v.map (br_gv g0 B0)).toList)
def br_snd (g0 : Nat → Value) (B0 : Nat) (D : va_G) (cA : Nat → ClassId) (oS : Nat → Nat × Nat) (oI : Nat → Nat → Int32) (oR : Nat → Nat → Nat) (l : Launch) : br_P := fun d j pc ls st h Q =>
  ∀ (p : Program) (e : Env) (R : Room) (s : State) (m : MethodId) (args : Array Value) (below : List Frame) (meth : Method) (c : Code) (H : Heap) (locs : List Loc) (cells slots : Nat) (L : Array Slot) (Z : State → Prop),
    br_ctx g0 B0 D cA oS oI p s m args meth c R d j → br_rel B0 D cA oS oI oR h H → va_S (br_A B0) s.heap H locs → br_lv g0 B0 ls L → ls.length = (br_md j).2.2.1 → cells + (br_B h).1 ≤ (br_mc j).1 → slots + (br_B h).2 ≤ (br_mc j).2 →
    br_rets g0 B0 D cA oS oI oR p l e R s m args below meth c Z j Q →
    W p l e R s m args below meth c H locs cells slots Z (F0 m pc L (st.map (br_gv g0 B0)))
theorem br_snd_m {g0 : Nat → Value} {B0 : Nat} {D : va_G} {cA : Nat → ClassId} {oS : Nat → Nat × Nat} {oI : Nat → Nat → Int32} {oR : Nat → Nat → Nat} {l : Launch} : br_Pm (br_snd g0 B0 D cA oS oI oR l) :=
  fun _ _ _ _ _ _ _ _ hQ hp p e R s m args below meth c H locs cells slots L Z hC hr hS hL hn h1 h2 hret => hp p e R s m args below meth c H locs cells slots L Z hC hr hS hL hn h1 h2
    (fun v h' H' locs' cells' slots' L' pc' ins hq => hret v h' H' locs' cells' slots' L' pc' ins (hQ v h' hq))
theorem br_gv_ref {g0 : Nat → Value} {B0 : Nat} (hg : ∀ p, p < 8 → g0 p = .null ∨ ∃ t, g0 p = .ref t) (x : Nat) : br_gv g0 B0 (.ref x) = .null ∨ ∃ t, br_gv g0 B0 (.ref x) = .ref t := by
  by_cases h8 : 8 ≤ x
  · exact Or.inr ⟨_, br_g_ref h8⟩
  · have e : br_gv g0 B0 (.ref x) = g0 x := by
      show br_g g0 B0 x = _
      unfold br_g
      rw [if_neg h8]
    rw [e]
    exact hg x (by omega)
theorem br_catg {g0 : Nat → Value} (hg : ∀ p, p < 8 → g0 p = .null ∨ ∃ t, g0 p = .ref t) : ∀ p, p < 8 → (g0 p).category = 1 := fun p hp => by
  rcases hg p hp with h | ⟨t, h⟩ <;> rw [h] <;> rfl
/-- how long the instructions are -/
def br_ln : Instr → Nat → Bool
  | .iload _, n | .lload _, n | .aload _, n | .istore _, n | .lstore _, n | .astore _, n | .bipush _, n | .ldc _, n | .newarray _, n => n == 2
  | .sipush _, n | .ldc_w _, n | .ldc2_w _, n | .iinc _ _, n | .ifCond _ _, n | .if_icmp _ _, n | .goto _, n | .getstatic _, n | .getfield _, n | .putfield _, n | .new _, n | .anewarray _, n | .invokestatic _, n | .invokevirtual _, n | .invokespecial _, n => n == 3
  | .multianewarray _ _, n => n == 4
  | .tableswitch _ _ _ _, _ | .lookupswitch _ _, _ => true
  | _, n => n == 1
/-- the locals that they write are there -/
def br_lni (ml : Nat) : Instr → Bool
  | .istore i => decide (i < ml)
  | .istore_n i => decide ((i : Nat) < ml)
  | .astore i => decide (i < ml)
  | .astore_n i => decide ((i : Nat) < ml)
  | .lstore i => decide (i + 1 < ml)
  | .lstore_n i => decide ((i : Nat) + 1 < ml)
  | _ => true
set_option maxRecDepth 100000 in
theorem br_lnis : (List.range 301).all (fun j => (br_code j).all (fun e => br_lni (br_md j).2.2.1 e.2.1)) = true := by decide +kernel
set_option maxRecDepth 100000 in
theorem br_lens : (List.range 301).all (fun j => (br_code j).all (fun e => br_ln e.2.1 e.2.2.1)) = true := by decide +kernel
theorem br_find_mem {α : Type} : ∀ (l : List (Nat × α)) (n : Nat) (v : α), br_find l n = some v → (n, v) ∈ l
  | [], n, v, h => by cases h
  | (k, w) :: t, n, v, h => by
    unfold br_find at h
    cases hk : Nat.beq k n with
    | true =>
      rw [hk] at h
      have : k = n := Nat.eq_of_beq_eq_true hk
      subst this
      cases h
      exact List.mem_cons_self
    | false =>
      rw [hk] at h
      exact List.mem_cons_of_mem _ (br_find_mem t n v h)
theorem br_len_of {j pc : Nat} {e : Instr × Nat × List Nat} (hj : j < 301) (h : br_cd j pc = some e) : br_ln e.1 e.2.1 = true := by
  have h1 := List.all_eq_true.mp br_lens j (List.mem_range.mpr hj)
  exact List.all_eq_true.mp h1 _ (br_find_mem _ _ _ h)
theorem br_lni_of {j pc : Nat} {e : Instr × Nat × List Nat} (hj : j < 301) (h : br_cd j pc = some e) : br_lni (br_md j).2.2.1 e.1 = true := by
  have h1 := List.all_eq_true.mp br_lnis j (List.mem_range.mpr hj)
  exact List.all_eq_true.mp h1 _ (br_find_mem _ _ _ h)
theorem br_chkL_of {own : String} {init : Bool} {rt : Option FieldType} {bytes : ByteArray} : ∀ (l : List (Nat × Instr × Nat × List Nat)) (hs : List (List Nat)), br_chkL own init rt bytes l hs = true → ∀ e ∈ l, decode bytes e.1 = .ok (e.2.1, e.2.2.1) ∧ ∃ h, br_chk own init rt e.1 e.2.1 e.2.2.2 h = true
  | [], _, _, e, he => by cases he
  | a :: t, [], h, _, _ => by cases h
  | a :: t, b :: bs, h, e, he => by
    simp only [br_chkL, Bool.and_eq_true, decide_eq_true_eq] at h
    rcases List.mem_cons.mp he with rfl | he
    · exact ⟨h.1.1, b, h.1.2⟩
    · exact br_chkL_of t bs h.2 e he
theorem br_chkM_eq (j p : Nat) (hs : List (List Nat)) : br_chkM j p hs = ((j == 300 || br_is p (.code (br_md j).1 (br_md j).2.1 (br_md j).2.2.1 (br_md j).2.2.2.1)) && plainFor (br_md j).1 && decide ((br_md j).2.2.1 ≤ 29) && br_chkL (br_md j).1.cls ((br_md j).1.name == "<init>") (br_md j).2.2.2.1 (br_md j).2.1 (br_code j) hs) := rfl
theorem br_chk_of {j pc : Nat} {e : Instr × Nat × List Nat} (hok : br_okm j) (h : br_cd j pc = some e) : decode (br_md j).2.1 pc = .ok (e.1, e.2.1) ∧ ∃ hs, br_chk (br_md j).1.cls ((br_md j).1.name == "<init>") (br_md j).2.2.2.1 pc e.1 e.2.2 hs = true := by
  obtain ⟨p, hs, hc⟩ := hok
  have hc' : br_chkL (br_md j).1.cls ((br_md j).1.name == "<init>") (br_md j).2.2.2.1 (br_md j).2.1 (br_code j) hs = true := by
    rw [br_chkM_eq, Bool.and_eq_true] at hc
    exact hc.2
  exact br_chkL_of (br_code j) hs hc' (pc, e) (br_find_mem (br_code j) pc e h)
