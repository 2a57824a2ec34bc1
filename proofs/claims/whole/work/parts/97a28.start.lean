/-! THE CLAIM OUT OF ONE WALK OF THE LAW'S BODY. Your part is whole_start (and what it stands on); all else here is the same for every law, but numbers. -/
def R_law : String := "BloomRoomsLaw"
def lw_P (b : Addr) (xs : List Int32) (args : Array Value) (s : State) : Prop := args = #[.ref b] ∧ s.IntsAt b xs ∧ xs.length ≤ 3072 ∧ (Jvm.Cond.and given_1 narrow_1).before args s = true
def lw_Q (_ : Array Value) (s : State) (o : Outcome) (t : State) : Prop := o = .returned (some (.int 1)) ∧ Framed s o t [] 600000 7302250
def lw_Z (below : List Frame) (a : Array Value) (s : State) : State → Prop := fun t => ∃ o, t.status = .running ∧ Ended t below o ∧ lw_Q a s o t
/-- the law's own end, with 1 on the stack, nothing written that was there before, its room as the claim has it -/
theorem lw_ret {p : Program} {l : Launch} {e : Env} {s : State} {m : MethodId} {below : List Frame} {meth : Method} {c : Code} {b : Nat} (hx : p.tables.exec = Jvm.exec) (hb : c.code = code) (hr : meth.sig.returnType = ret) (hlocks : meth.locks = false) {pc : Nat} {H : Heap} {ls : Array Slot} (hdg : decode code pc = .ok (.ireturn, 1)) : W p l e room_1 s m #[Value.ref b] below meth c H [] 600000 7302250 (lw_Z below #[Value.ref b] s) (F0 m pc ls [.int 1]) := by
  intro T hT X
  obtain ⟨fs, hret, hrun, hended, hW, hframe⟩ := X.leave (v := some (.int 1)) (hlocks := hlocks) (fun h => by rw [hr] at h; cases h)
  have hmeth' : T.vm.method? m = some meth := X.method'
  refine ⟨T.setFrames fs, ?_, .returned (some (.int 1)), hrun, hended, rfl, ⟨_, rfl⟩, hW, hframe⟩
  jvm_step X.here [X.here.top, hx, hb, hdg, hmeth', hr, ret, narrow_b1]
  (try refine ⟨rfl, ?_⟩); (try refine ⟨rfl, ?_⟩)
  first | (intro acts; rw [hret _ acts rfl rfl rfl]) | rw [hret _ _ rfl rfl rfl]
  exact Steps.refl _
/-- what holds at the law's entry: the machine, the code, the tables' words (any of lw_tbl by 'hts w (by decide +kernel)'), the script of L ints xs at the cell b, what the Statement gives of the start (any of its parts by flat_of_before) -/
def lw_At (p : Program) (s : State) (m : MethodId) (meth : Method) (c : Code) (b L : Nat) (xs : Nat → Int32) : Prop :=
  p.tables.exec = Jvm.exec ∧ c.code = code ∧ meth.sig.returnType = ret ∧ c.maxLocals = 4 ∧ s.vm.findClass R_law = some m.cls ∧ (∀ w ∈ lw_tbl, w.before #[Value.ref b] s = true) ∧ va_X b L xs s s.heap ∧ b < s.heap.size ∧ meth.locks = false ∧ (Jvm.Cond.and given_1 narrow_1).before #[Value.ref b] s = true
/-! THE START: what the Statement gives, as the abstract machine's first world -/
def br_stT : Nat → Jvm.Term
  | 0 => .string "BloomRooms$Tokens" 86
  | _ => .string "BloomRoomsModel" 91
def br_stL : List Nat := [151, 152]
def br_stB : List (List Int32) := [br_wordsL, br_keysL]
def br_flat : List Jvm.Cond := flatC (Jvm.Cond.and given_1 narrow_1)
theorem br_flat_len : br_flat.length = 368 := by decide +kernel
theorem br_fm : (br_flat.drop 12).take 17 = (List.range 17).map (fun j => Jvm.Cond.eq (.elem (.static "BloomRooms$Reader" "MOST" "[I") (.int (Int32.ofNat j))) (.int (br_mostL.getD j 0))) := by decide +kernel
theorem br_fw : (br_flat.drop 59).take 151 = (List.range 151).map (fun j => Jvm.Cond.eq (.elem (.field (br_stT 0) "java/lang/String" "value" "[B") (.int (Int32.ofNat j))) (.int (br_wordsL.getD j 0))) := by decide +kernel
theorem br_fkeys : (br_flat.drop 214).take 152 = (List.range 152).map (fun j => Jvm.Cond.eq (.elem (.field (br_stT 1) "java/lang/String" "value" "[B") (.int (Int32.ofNat j))) (.int (br_keysL.getD j 0))) := by decide +kernel
theorem br_f_of {a k n : Nat} {g : Nat → Jvm.Cond} (h : (br_flat.drop a).take n = (List.range n).map g) (hk : k < n) : g k ∈ br_flat := by
  have h1 : g k ∈ (br_flat.drop a).take n := by rw [h]; exact List.mem_map.mpr ⟨k, List.mem_range.mpr hk, rfl⟩
  exact List.mem_of_mem_drop (List.mem_of_mem_take h1)
theorem br_startK {s : State} {args : Array Value} (hts : ∀ w ∈ lw_tbl, w.before args s = true) : ∃ (D : va_G) (cA : Nat → ClassId), va_K D br_cls (br_tys cA) s := by
  have hg : ∀ w ∈ br_gt, w.before args s = true := fun w hw => hts w (List.mem_filter.mp hw).1
  have h0 : ∀ c : Nat, ∃ r : ClassId × (Nat → Nat), ∀ q, br_cls[c]? = some q → u_Kn s q.1 q.2.1 q.2.2 r.1 r.2 := by
    intro c
    match c with
    | 0 => obtain ⟨cC, iS, h⟩ := u_known (C := "BloomRooms$Films") (T := br_T0) (N := 4) (n := 4) hg br_cls0.2.1 (hts (.instantiable "BloomRooms$Films" 4) (List.mem_of_getElem? (i := 170) (by decide +kernel))); exact ⟨(cC, iS), fun q hq => by cases hq; exact h⟩
    | 1 => obtain ⟨cC, iS, h⟩ := u_known (C := "BloomRooms$Fraction") (T := br_T1) (N := 2) (n := 2) hg br_cls1.2.1 (hts (.instantiable "BloomRooms$Fraction" 2) (List.mem_of_getElem? (i := 449) (by decide +kernel))); exact ⟨(cC, iS), fun q hq => by cases hq; exact h⟩
    | 2 => obtain ⟨cC, iS, h⟩ := u_known (C := "BloomRooms$Law") (T := br_T2) (N := 2) (n := 2) hg br_cls2.2.1 (hts (.instantiable "BloomRooms$Law" 2) (List.mem_of_getElem? (i := 125) (by decide +kernel))); exact ⟨(cC, iS), fun q hq => by cases hq; exact h⟩
    | 3 => obtain ⟨cC, iS, h⟩ := u_known (C := "BloomRooms$Marks") (T := br_T3) (N := 4) (n := 4) hg br_cls3.2.1 (hts (.instantiable "BloomRooms$Marks" 4) (List.mem_of_getElem? (i := 190) (by decide +kernel))); exact ⟨(cC, iS), fun q hq => by cases hq; exact h⟩
    | 4 => obtain ⟨cC, iS, h⟩ := u_known (C := "BloomRooms$Reader") (T := br_T4) (N := 6) (n := 6) hg br_cls4.2.1 (hts (.instantiable "BloomRooms$Reader" 6) (List.mem_of_getElem? (i := 310) (by decide +kernel))); exact ⟨(cC, iS), fun q hq => by cases hq; exact h⟩
    | 5 => obtain ⟨cC, iS, h⟩ := u_known (C := "BloomRooms$Rules") (T := br_T5) (N := 3) (n := 3) hg br_cls5.2.1 (hts (.instantiable "BloomRooms$Rules" 3) (List.mem_of_getElem? (i := 152) (by decide +kernel))); exact ⟨(cC, iS), fun q hq => by cases hq; exact h⟩
    | 6 => obtain ⟨cC, iS, h⟩ := u_known (C := "BloomRooms$Sample") (T := br_T6) (N := 10) (n := 10) hg br_cls6.2.1 (hts (.instantiable "BloomRooms$Sample" 10) (List.mem_of_getElem? (i := 389) (by decide +kernel))); exact ⟨(cC, iS), fun q hq => by cases hq; exact h⟩
    | 7 => obtain ⟨cC, iS, h⟩ := u_known (C := "BloomRooms$Tokens") (T := br_T7) (N := 11) (n := 11) hg br_cls7.2.1 (hts (.instantiable "BloomRooms$Tokens" 11) (List.mem_of_getElem? (i := 316) (by decide +kernel))); exact ⟨(cC, iS), fun q hq => by cases hq; exact h⟩
    | 8 => obtain ⟨cC, iS, h⟩ := u_known (C := "BloomRooms$Trials") (T := br_T8) (N := 5) (n := 5) hg br_cls8.2.1 (hts (.instantiable "BloomRooms$Trials" 5) (List.mem_of_getElem? (i := 210) (by decide +kernel))); exact ⟨(cC, iS), fun q hq => by cases hq; exact h⟩
    | 9 => obtain ⟨cC, iS, h⟩ := u_known (C := "BloomRooms$Ways") (T := br_T9) (N := 4) (n := 4) hg br_cls9.2.1 (hts (.instantiable "BloomRooms$Ways" 4) (List.mem_of_getElem? (i := 428) (by decide +kernel))); exact ⟨(cC, iS), fun q hq => by cases hq; exact h⟩
    | 10 => obtain ⟨cC, iS, h⟩ := u_known (C := "BloomRooms$World") (T := br_T10) (N := 19) (n := 19) hg br_cls10.2.1 (hts (.instantiable "BloomRooms$World" 19) (List.mem_of_getElem? (i := 117) (by decide +kernel))); exact ⟨(cC, iS), fun q hq => by cases hq; exact h⟩
    | 11 => obtain ⟨cC, iS, h⟩ := u_known (C := "BloomRooms") (T := br_T11) (N := 13) (n := 13) hg br_cls11.2.1 (hts (.instantiable "BloomRooms" 13) (List.mem_of_getElem? (i := 109) (by decide +kernel))); exact ⟨(cC, iS), fun q hq => by cases hq; exact h⟩
    | 12 => obtain ⟨cC, iS, h⟩ := u_known (C := "BloomRoomsModel") (T := br_T12) (N := 35) (n := 35) hg br_cls12.2.1 (hts (.instantiable "BloomRoomsModel" 35) (List.mem_of_getElem? (i := 1252) (by decide +kernel))); exact ⟨(cC, iS), fun q hq => by cases hq; exact h⟩
    | c + 13 => exact ⟨(0, fun _ => 0), fun q hq => by simp [br_cls] at hq⟩
  obtain ⟨r, hr⟩ := Classical.axiomOfChoice h0
  have arr : ∀ t : FieldType, (∀ C, t ≠ .object C) → (Jvm.Cond.arrayClass t).before args s = true → ∃ c, ArrOfT s c t ∧ va_RA s c t := by
    intro t ht h
    obtain ⟨c, k, comp, h1, h2, h3⟩ := Cond.arrayClass_spec h
    refine ⟨c, fun n z => ⟨fun k h => (by cases h), k, h2, comp, h3⟩, ?_⟩
    cases t with
    | object C => exact absurd rfl (ht C)
    | _ => exact h1
  have ovA : ∀ t : FieldType, (Jvm.Cond.arrayOver (.array t)).before args s = true → ∃ c, ArrOfT s c (.array t) ∧ va_RA s c (.array t) := by
    intro t h
    obtain ⟨comp, c, k, h1, h2, h3, h4, h5⟩ := arrayOverA_spec h
    exact ⟨c, fun n z => ⟨fun k h => (by cases h), k, h3, comp, h4⟩, h5⟩
  have ovO : ∀ C : String, (Jvm.Cond.arrayOver (.object C)).before args s = true → ∃ c, ArrOfT s c (.object C) ∧ va_RA s c (.object C) := by
    intro C h
    obtain ⟨comp, c, k, h1, h2, h3, h4, h5⟩ := Cond.arrayOver_spec h
    exact ⟨c, fun n z => ⟨fun k h => (by cases h), k, h3, comp, h4⟩, k, comp, h3, h4, h1, h5⟩
  obtain ⟨c1, a1, b1⟩ := arr .int (fun C h => by cases h) (hts _ (List.mem_of_getElem? (i := 148) (by decide +kernel)))
  obtain ⟨c2, a2, b2⟩ := arr .long (fun C h => by cases h) (hts _ (List.mem_of_getElem? (i := 447) (by decide +kernel)))
  obtain ⟨c3, a3, b3⟩ := arr .boolean (fun C h => by cases h) (hts _ (List.mem_of_getElem? (i := 149) (by decide +kernel)))
  obtain ⟨c4, a4, b4⟩ := arr .byte (fun C h => by cases h) (hts _ (List.mem_of_getElem? (i := 359) (by decide +kernel)))
  obtain ⟨c5, a5, b5⟩ := ovA .int (hts _ (List.mem_of_getElem? (i := 123) (by decide +kernel)))
  obtain ⟨c6, a6, b6⟩ := ovA .long (hts _ (List.mem_of_getElem? (i := 464) (by decide +kernel)))
  obtain ⟨c7, a7, b7⟩ := ovO "BloomRooms$World" (hts _ (List.mem_of_getElem? (i := 308) (by decide +kernel)))
  obtain ⟨c8, a8, b8⟩ := ovO "BloomRooms$Law" (hts _ (List.mem_of_getElem? (i := 150) (by decide +kernel)))
  refine ⟨(fun c => (r c).1, fun c => (r c).2), fun k => match k with
    | 1 => c1
    | 2 => c2
    | 3 => c3
    | 4 => c4
    | 5 => c5
    | 6 => c6
    | 7 => c7
    | _ => c8, fun c q hq => hr c q hq, fun k q hk => ?_⟩
  match k, hk with
  | 0, hk => cases hk; exact ⟨a1, b1⟩
  | 1, hk => cases hk; exact ⟨a2, b2⟩
  | 2, hk => cases hk; exact ⟨a3, b3⟩
  | 3, hk => cases hk; exact ⟨a4, b4⟩
  | 4, hk => cases hk; exact ⟨a5, b5⟩
  | 5, hk => cases hk; exact ⟨a6, b6⟩
  | 6, hk => cases hk; exact ⟨a7, b7⟩
  | 7, hk => cases hk; exact ⟨a8, b8⟩
  | k + 8, hk => simp [br_tys] at hk
theorem br_startO {s : State} {b L : Nat} {xs : Nat → Int32} (hL : L ≤ 3072) (hts : ∀ w ∈ lw_tbl, w.before #[Value.ref b] s = true) (hX : va_X b L xs s s.heap) (hbl : b < s.heap.size) (hgv : (Jvm.Cond.and given_1 narrow_1).before #[Value.ref b] s = true) :
    ∃ g0 : Nat → Value, g0 1 = .ref b ∧ br_fix g0 (br_oS L) (br_oI xs) br_oR ∧ br_old g0 s.heap.size (br_oS L) (br_oI xs) s s.heap := by
  have hF : ∀ w ∈ br_flat, w.before #[Value.ref b] s = true := flat_of_before _ hgv
  have hA : ∀ a : Nat, a < s.heap.size → ¬ br_A s.heap.size a := fun a h1 h2 => by have h3 : s.heap.size ≤ a := h2; omega
  obtain ⟨m, hm, hmT⟩ := va_Tof (ty := .int) (N := 17) (f := fun j => .int (br_mostL.getD j 0)) (tm := .static "BloomRooms$Reader" "MOST" "[I") (A := br_A s.heap.size) (by decide) (hF _ (List.mem_of_getElem? (i := 10) (by decide +kernel))) (va_eqt (z := Int32.ofNat 17) (hF _ (List.mem_of_getElem? (i := 11) (by decide +kernel)))) (fun j hj => va_eqt (hF _ (br_f_of br_fm hj))) hA
  obtain ⟨adK, adV, hS, hSe⟩ := vk_Sof (N := 2) (tm := br_stT) (len := br_stL) (byt := br_stB) (A := br_A s.heap.size) (args := #[Value.ref b]) (s := s)
    (fun i hi => by rcases (show i = 0 ∨ i = 1 by omega) with rfl | rfl <;> decide)
    (fun i hi => by rcases (show i = 0 ∨ i = 1 by omega) with rfl | rfl <;> first | exact hF _ (List.mem_of_getElem? (i := 55) (by decide +kernel)) | exact hF _ (List.mem_of_getElem? (i := 210) (by decide +kernel)))
    (fun i hi => by rcases (show i = 0 ∨ i = 1 by omega) with rfl | rfl <;> first | exact hF _ (List.mem_of_getElem? (i := 56) (by decide +kernel)) | exact hF _ (List.mem_of_getElem? (i := 211) (by decide +kernel)))
    (fun i hi => by rcases (show i = 0 ∨ i = 1 by omega) with rfl | rfl <;> first | exact hF _ (List.mem_of_getElem? (i := 57) (by decide +kernel)) | exact hF _ (List.mem_of_getElem? (i := 212) (by decide +kernel)))
    (fun i hi => by rcases (show i = 0 ∨ i = 1 by omega) with rfl | rfl <;> first | exact hF _ (List.mem_of_getElem? (i := 58) (by decide +kernel)) | exact hF _ (List.mem_of_getElem? (i := 213) (by decide +kernel)))
    (fun i hi j hj => by rcases (show i = 0 ∨ i = 1 by omega) with rfl | rfl <;> first | exact hF _ (br_f_of br_fw hj) | exact hF _ (br_f_of br_fkeys hj))
    (fun i j hi hj hij => by
      rcases (show i = 0 ∨ i = 1 by omega) with rfl | rfl <;> rcases (show j = 0 ∨ j = 1 by omega) with rfl | rfl <;> first | exact absurd rfl hij | exact Or.inl (hF _ (List.mem_of_getElem? (i := 366) (by decide +kernel))) | exact Or.inr (hF _ (List.mem_of_getElem? (i := 366) (by decide +kernel))))
    hA
  obtain ⟨v, hv, hvr⟩ := Cond.isRef_spec (hF (.isRef (.static "jdk/internal/util/Preconditions" "SIOOBE_FORMATTER" "Ljava/util/function/BiFunction;")) (List.mem_of_getElem? (i := 5) (by decide +kernel)))
  have hv2 : v = .null ∨ ∃ t, v = .ref t := by
    cases v with
    | null => exact Or.inl rfl
    | ref t => exact Or.inr ⟨t, rfl⟩
    | _ => simp [Value.isRef] at hvr
  refine ⟨fun p => match p with
    | 1 => .ref b
    | 2 => .ref m
    | 3 => .ref (adK 0)
    | 4 => .ref (adV 0)
    | 5 => .ref (adK 1)
    | 6 => .ref (adV 1)
    | 7 => v
    | _ => .null, rfl, ?_, ?_⟩
  · refine ⟨rfl, fun p hp => ?_, ?_, ?_, ?_, ?_, rfl, rfl, rfl, rfl⟩
    · match p, hp with
      | 0, _ => exact Or.inl rfl
      | 1, _ => exact Or.inr ⟨_, rfl⟩
      | 2, _ => exact Or.inr ⟨_, rfl⟩
      | 3, _ => exact Or.inr ⟨_, rfl⟩
      | 4, _ => exact Or.inr ⟨_, rfl⟩
      | 5, _ => exact Or.inr ⟨_, rfl⟩
      | 6, _ => exact Or.inr ⟨_, rfl⟩
      | 7, _ => exact hv2
      | p + 8, hp => exact absurd hp (by omega)
    · intro p hp h
      match p, hp, h with
      | 0, _, h => exact (by cases h)
      | 1, _, h => exact (by cases h)
      | 2, _, h => exact (by cases h)
      | 3, _, h => exact ⟨Or.inl rfl, rfl⟩
      | 4, _, h => exact (by cases h)
      | 5, _, h => exact ⟨Or.inr rfl, rfl⟩
      | 6, _, h => exact (by cases h)
      | 7, _, h => exact (by cases h)
      | p + 8, hp, _ => exact absurd hp (by omega)
    · intro p hp h
      match p, hp, h with
      | 0, _, h => exact (by cases h)
      | 1, _, h => exact Or.inl rfl
      | 2, _, h => exact Or.inr rfl
      | 3, _, h => exact (by cases h)
      | 4, _, h => exact (by cases h)
      | 5, _, h => exact (by cases h)
      | 6, _, h => exact (by cases h)
      | 7, _, h => exact (by cases h)
      | p + 8, hp, _ => exact absurd hp (by omega)
    · intro p hp h
      match p, hp, h with
      | 0, _, h => exact (by cases h)
      | 1, _, h => exact (by cases h)
      | 2, _, h => exact (by cases h)
      | 3, _, h => exact (by cases h)
      | 4, _, h => exact Or.inl rfl
      | 5, _, h => exact (by cases h)
      | 6, _, h => exact Or.inr rfl
      | 7, _, h => exact (by cases h)
      | p + 8, hp, _ => exact absurd hp (by omega)
    · intro p hp
      match p, hp with
      | 0, _ => exact Or.inr (Or.inr (Or.inr rfl))
      | 1, _ => exact Or.inr (Or.inl rfl)
      | 2, _ => exact Or.inr (Or.inl rfl)
      | 3, _ => exact Or.inl rfl
      | 4, _ => exact Or.inr (Or.inr (Or.inl rfl))
      | 5, _ => exact Or.inl rfl
      | 6, _ => exact Or.inr (Or.inr (Or.inl rfl))
      | 7, _ => exact Or.inr (Or.inr (Or.inr rfl))
      | p + 8, hp => exact absurd hp (by omega)
  · obtain ⟨scr, x1, x2, x3, x4, x5⟩ := hX
    refine ⟨fun p hp => ?_, fun p hp => ?_, ?_, ?_, ?_, ?_, ?_, ?_, ?_, ?_, ?_, ?_⟩
    · rcases hp with rfl | rfl | rfl | rfl
      · exact ⟨b, rfl, scr, x1, x2, x3, Nat.le_of_eq x4.symm, by rw [x4]; rfl, x5, hA b hbl⟩
      · exact ⟨m, rfl, hmT⟩
      · exact ⟨adV 0, rfl, (hS.1 0 (by omega)).2.2.2⟩
      · exact ⟨adV 1, rfl, (hS.1 1 (by omega)).2.2.2⟩
    · rcases hp with rfl | rfl
      · exact ⟨adK 0, adV 0, rfl, rfl, (hS.1 0 (by omega)).1, (hS.1 0 (by omega)).2.2.1, (hS.1 0 (by omega)).2.1⟩
      · exact ⟨adK 1, adV 1, rfl, rfl, (hS.1 1 (by omega)).1, (hS.1 1 (by omega)).2.2.1, (hS.1 1 (by omega)).2.1⟩
    · exact va_Zof (hts _ (List.mem_of_getElem? (i := 732) (by decide +kernel))) (hts _ (List.mem_of_getElem? (i := 95) (by decide +kernel))) hm hA
    · exact va_Zof (hts _ (List.mem_of_getElem? (i := 650) (by decide +kernel))) (hts _ (List.mem_of_getElem? (i := 102) (by decide +kernel))) (va_eqi (hF _ (List.mem_of_getElem? (i := 4) (by decide +kernel)))) hA
    · exact va_Zof (hts _ (List.mem_of_getElem? (i := 666) (by decide +kernel))) (hts _ (List.mem_of_getElem? (i := 104) (by decide +kernel))) hv hA
    · exact ⟨_, adK 0, rfl, vk_R.of (hts (.stringRef "BloomRooms$Tokens" 86 "named true bad marked heard warmth time harder moves gives grows known gift hears marks noise floor roof out if or and not told room grade below above ") (List.mem_of_getElem? (i := 640) (by decide +kernel))) (hSe 0 (by omega))⟩
    · exact ⟨_, adK 1, rfl, vk_R.of (hts (.stringRef "BloomRoomsModel" 91 " named true bad marked heard moves warmth time harder gives grows known gift hears marks noise floor roof out if or and not told room grade below above ") (List.mem_of_getElem? (i := 1435) (by decide +kernel))) (hSe 1 (by omega))⟩
    · exact fun a i x h hm => va_Nw.of rfl (hts _ hm)
    · exact va_AO.of (hts _ (List.mem_of_getElem? (i := 308) (by decide +kernel)))
    · exact va_AO.of (hts _ (List.mem_of_getElem? (i := 150) (by decide +kernel)))
    · exact hts (.arrayOver (.array .int)) (List.mem_of_getElem? (i := 123) (by decide +kernel))
    · exact hts (.arrayOver (.array .long)) (List.mem_of_getElem? (i := 464) (by decide +kernel))
/-- one run of the law in the abstract machine gives the walk -/
theorem br_begin {p : Program} {e : Env} {s : State} {m : MethodId} {below : List Frame} {meth : Method} {c : Code} (l : Launch) {b L : Nat} {xs : Nat → Int32} (hL : L ≤ 3072) (C0 : lw_At p s m meth c b L xs)
    (hrun : br_run br_cd 1000 300 0 [some (.ref 1), none, none, none] [] (br_w0 L xs) (fun v _ => v = some (.int 1))) :
    W p l e room_1 s m #[Value.ref b] below meth c s.heap [] 0 0 (lw_Z below #[Value.ref b] s) (entryFrame m ([Value.ref b] : List Value).toArray 4) := by
  obtain ⟨hx, hb, hr, hml, hown, hts, hX, hbl, hlocks, hgv⟩ := id C0
  obtain ⟨D, cA, hK⟩ := br_startK hts
  obtain ⟨g0, g1, hfix, hold⟩ := br_startO hL hts hX hbl hgv
  have hl := lv_entry ([.ref b]) (n := 4) (Nat.le_of_ble_eq_true rfl)
  rw [lg_entry_eq]
  generalize (lg_sl ([.ref b]) ++ List.replicate (4 - (lg_sl ([.ref b])).length) Slot.unset).toArray = ls at hl ⊢
  have hl : lv_has ls 4 [(0, .ref b)] := hl
  have hlv : br_lv g0 s.heap.size [some (.ref 1), none, none, none] ls := ⟨hl.1, hl.2.1, fun i v hi => by
    match i, hi with
    | 0, hi =>
      cases hi
      have : br_gv g0 s.heap.size (.ref 1) = .ref b := by
        show br_g g0 s.heap.size 1 = _
        unfold br_g
        rw [if_neg (by omega)]
        exact g1
      rw [this]
      exact hl.2.2 (0, .ref b) List.mem_cons_self
    | 1, hi => cases hi
    | 2, hi => cases hi
    | 3, hi => cases hi
    | i + 4, hi => cases hi⟩
  have hrel : br_rel s.heap.size D cA (br_oS L) (br_oI xs) br_oR (br_w0 L xs) s.heap := by
    refine ⟨Nat.le_refl 8, by show _ = _ + (8 - 8); omega, fun k q hq => ?_, fun p hp => ⟨rfl, rfl, rfl⟩, fun p hp => ?_, fun p hp j => ?_, fun p hp j => ?_, fun p hp h => ?_⟩
    · have := (br_ws_of hq).1
      exact absurd this (Nat.not_lt_zero _)
    · match p, hp with
      | p + 8, _ => rfl
    · match p, hp with
      | 0, hp => cases hp
      | 1, hp => cases hp
      | 2, hp => cases hp
      | 3, hp => cases hp
      | 4, hp => cases hp
      | 5, hp => cases hp
      | 6, hp => cases hp
      | 7, hp => cases hp
      | p + 8, hp => cases hp
    · match p, hp with
      | p + 8, _ => exact Or.inl rfl
    · match p, hp, h with
      | p + 8, _, h => cases h
  have hS := hrun (br_snd g0 s.heap.size D cA (br_oS L) (br_oI xs) br_oR l) br_snd_m (br_closed hfix)
  refine hS p e room_1 s m _ below meth c s.heap [] 0 0 ls _ ⟨hx, hb, hr, hml, hown, fun w hw => hts w (List.mem_filter.mp hw).1, hlocks, fun hi => ?_, hK, hold, Nat.le_of_ble_eq_true rfl, Nat.le_of_ble_eq_true rfl, Nat.le_of_ble_eq_true rfl, Nat.le_of_ble_eq_true rfl, Nat.le_refl _, Nat.le_of_ble_eq_true rfl⟩ hrel va_S.rf hlv rfl (Nat.le_of_ble_eq_true rfl) (Nat.le_of_ble_eq_true rfl) ?_
  · exact absurd hi (by decide)
  · intro v h' H' locs' cells' slots' L' pc' ins hq hr' hS' hc hs' hdg hret1
    subst hq
    obtain ⟨rfl, ty, hty, hnn⟩ := hret1
    refine va_forget (fun q hq => hS'.2.2 q hq) ?_
    refine W.widen (k := 600000) (n := 7302250) (Nat.le_trans hc (Nat.le_of_ble_eq_true rfl)) (Nat.le_trans hs' (Nat.le_of_ble_eq_true rfl)) ?_
    exact lw_ret hx hb hr hlocks hdg
