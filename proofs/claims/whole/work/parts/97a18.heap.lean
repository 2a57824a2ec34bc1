/-! what the classes' tables give -/
def br_dv : Nat → Value
  | 0 => .int 0
  | 1 => .long 0
  | _ => .null
def br_clsok (ci : Nat) (C : String) (T : u_T) (N : Nat) (Y : Nat → FieldType) : Prop :=
  br_cls[ci]? = some (C, T, N) ∧ (∀ w ∈ u_ws C T N, w ∈ br_gt) ∧ (∀ k, k < N → parseFieldDescriptor (T k).2.2.1 = some (Y k)) ∧ (∀ a, a < N → ∀ b, b < N → a ≠ b → (T a).2.1 ≠ (T b).2.1) ∧ (br_tyc.getD ci []).length = N ∧
  (∀ k, k < N → defaultValue (Y k) = br_dv ((br_tyc.getD ci []).getD k 0)) ∧ (∀ k, k < N → (br_tyc.getD ci []).getD k 0 = 1 → Y k = .long) ∧ (∀ k, k < N → (T k).2.2.1 = "I" → Y k = .int) ∧ (∀ k, k < N → (br_tyc.getD ci []).getD k 0 = 2 → (Y k).isReference = true)
theorem br_mem_all {l big : List Jvm.Cond} (h : l.all (fun w => decide (w ∈ big)) = true) : ∀ w ∈ l, w ∈ big := fun w hw => of_decide_eq_true (List.all_eq_true.mp h w hw)
set_option maxRecDepth 100000 in
theorem br_cls0 : br_clsok 0 "BloomRooms$Films" br_T0 4 br_Y0 := ⟨rfl, br_mem_all (by decide +kernel), by decide +kernel, by decide +kernel, rfl, by decide +kernel, by decide +kernel, by decide +kernel, by decide +kernel⟩
set_option maxRecDepth 100000 in
theorem br_cls1 : br_clsok 1 "BloomRooms$Fraction" br_T1 2 br_Y1 := ⟨rfl, br_mem_all (by decide +kernel), by decide +kernel, by decide +kernel, rfl, by decide +kernel, by decide +kernel, by decide +kernel, by decide +kernel⟩
set_option maxRecDepth 100000 in
theorem br_cls2 : br_clsok 2 "BloomRooms$Law" br_T2 2 br_Y2 := ⟨rfl, br_mem_all (by decide +kernel), by decide +kernel, by decide +kernel, rfl, by decide +kernel, by decide +kernel, by decide +kernel, by decide +kernel⟩
set_option maxRecDepth 100000 in
theorem br_cls3 : br_clsok 3 "BloomRooms$Marks" br_T3 4 br_Y3 := ⟨rfl, br_mem_all (by decide +kernel), by decide +kernel, by decide +kernel, rfl, by decide +kernel, by decide +kernel, by decide +kernel, by decide +kernel⟩
set_option maxRecDepth 100000 in
theorem br_cls4 : br_clsok 4 "BloomRooms$Reader" br_T4 6 br_Y4 := ⟨rfl, br_mem_all (by decide +kernel), by decide +kernel, by decide +kernel, rfl, by decide +kernel, by decide +kernel, by decide +kernel, by decide +kernel⟩
set_option maxRecDepth 100000 in
theorem br_cls5 : br_clsok 5 "BloomRooms$Rules" br_T5 3 br_Y5 := ⟨rfl, br_mem_all (by decide +kernel), by decide +kernel, by decide +kernel, rfl, by decide +kernel, by decide +kernel, by decide +kernel, by decide +kernel⟩
set_option maxRecDepth 100000 in
theorem br_cls6 : br_clsok 6 "BloomRooms$Sample" br_T6 10 br_Y6 := ⟨rfl, br_mem_all (by decide +kernel), by decide +kernel, by decide +kernel, rfl, by decide +kernel, by decide +kernel, by decide +kernel, by decide +kernel⟩
set_option maxRecDepth 100000 in
theorem br_cls7 : br_clsok 7 "BloomRooms$Tokens" br_T7 11 br_Y7 := ⟨rfl, br_mem_all (by decide +kernel), by decide +kernel, by decide +kernel, rfl, by decide +kernel, by decide +kernel, by decide +kernel, by decide +kernel⟩
set_option maxRecDepth 100000 in
theorem br_cls8 : br_clsok 8 "BloomRooms$Trials" br_T8 5 br_Y8 := ⟨rfl, br_mem_all (by decide +kernel), by decide +kernel, by decide +kernel, rfl, by decide +kernel, by decide +kernel, by decide +kernel, by decide +kernel⟩
set_option maxRecDepth 100000 in
theorem br_cls9 : br_clsok 9 "BloomRooms$Ways" br_T9 4 br_Y9 := ⟨rfl, br_mem_all (by decide +kernel), by decide +kernel, by decide +kernel, rfl, by decide +kernel, by decide +kernel, by decide +kernel, by decide +kernel⟩
set_option maxRecDepth 100000 in
theorem br_cls10 : br_clsok 10 "BloomRooms$World" br_T10 19 br_Y10 := ⟨rfl, br_mem_all (by decide +kernel), by decide +kernel, by decide +kernel, rfl, by decide +kernel, by decide +kernel, by decide +kernel, by decide +kernel⟩
set_option maxRecDepth 100000 in
theorem br_cls11 : br_clsok 11 "BloomRooms" br_T11 13 br_Y11 := ⟨rfl, br_mem_all (by decide +kernel), by decide +kernel, by decide +kernel, rfl, by decide +kernel, by decide +kernel, by decide +kernel, by decide +kernel⟩
set_option maxRecDepth 100000 in
theorem br_cls12 : br_clsok 12 "BloomRoomsModel" br_T12 35 br_Y12 := ⟨rfl, br_mem_all (by decide +kernel), by decide +kernel, by decide +kernel, rfl, by decide +kernel, by decide +kernel, by decide +kernel, by decide +kernel⟩
theorem br_clsx : ∀ ci, ci < 13 → ∃ C T N Y, br_clsok ci C T N Y
  | 0, _ => ⟨_, _, _, _, br_cls0⟩
  | 1, _ => ⟨_, _, _, _, br_cls1⟩
  | 2, _ => ⟨_, _, _, _, br_cls2⟩
  | 3, _ => ⟨_, _, _, _, br_cls3⟩
  | 4, _ => ⟨_, _, _, _, br_cls4⟩
  | 5, _ => ⟨_, _, _, _, br_cls5⟩
  | 6, _ => ⟨_, _, _, _, br_cls6⟩
  | 7, _ => ⟨_, _, _, _, br_cls7⟩
  | 8, _ => ⟨_, _, _, _, br_cls8⟩
  | 9, _ => ⟨_, _, _, _, br_cls9⟩
  | 10, _ => ⟨_, _, _, _, br_cls10⟩
  | 11, _ => ⟨_, _, _, _, br_cls11⟩
  | 12, _ => ⟨_, _, _, _, br_cls12⟩
  | n + 13, h => absurd h (by omega)
/-! the relation, used -/
section BRR
variable {g0 : Nat → Value} {B0 : Nat} {D : va_G} {cA : Nat → ClassId} {oS : Nat → Nat × Nat} {oI : Nat → Nat → Int32} {oR : Nat → Nat → Nat} {h h' : br_H} {H H' : Heap}
theorem br_valid (hr : br_rel B0 D cA oS oI oR h H) {a : Nat} (ha : (br_sh h a).1 ≠ 9) : a < br_N h := by
  rcases Nat.lt_or_ge a (br_N h) with q | q
  · exact q
  · exact absurd (hr.2.2.2.2.1 a q) ha
theorem br_shold (hr : br_rel B0 D cA oS oI oR h H) {a : Nat} (h8 : a < 8) : br_sh h a = oS a ∧ br_I h a = oI a ∧ br_R h a = oR a := hr.2.2.2.1 a h8
/-- a place of a kind that none of the old ones is of -/
theorem br_new8 (hfix : br_fix g0 oS oI oR) (hr : br_rel B0 D cA oS oI oR h H) {a : Nat} (ha : (br_sh h a).1 ≠ 0 ∧ (br_sh h a).1 ≠ 1 ∧ (br_sh h a).1 ≠ 4 ∧ (br_sh h a).1 ≠ 9) : 8 ≤ a := by
  rcases Nat.lt_or_ge a 8 with q | q
  · rw [(br_shold hr q).1] at ha
    rcases hfix.2.2.2.2.2.1 a q with e | e | e | e
    · exact absurd e ha.1
    · exact absurd e ha.2.1
    · exact absurd e ha.2.2.1
    · exact absurd e ha.2.2.2
  · exact q
theorem br_obj8 (hfix : br_fix g0 oS oI oR) (hr : br_rel B0 D cA oS oI oR h H) {a ci : Nat} (ha : br_sh h a = (0, ci)) (hci : ci < 13) : 8 ≤ a := by
  rcases Nat.lt_or_ge a 8 with q | q
  · have e := (br_shold hr q).1
    rw [ha] at e
    have h2 := (hfix.2.2.1 a q (by rw [← e])).2
    rw [← e] at h2
    omega
  · exact q
theorem br_ne9 {a ci : Nat} (e : br_sh h a = (0, ci)) : (br_sh h a).1 ≠ 9 := by rw [e]; exact (by decide : (0 : Nat) ≠ 9)
theorem br_get (hr : br_rel B0 D cA oS oI oR h H) {a : Nat} (h8 : 8 ≤ a) (ha : (br_sh h a).1 ≠ 9) : (br_ws B0 cA h)[a - 8]? = some (B0 + (a - 8), br_ce B0 cA h a) := br_ws_get h8 (br_valid hr ha)
theorem br_refs (hfix : br_fix g0 oS oI oR) (hr : br_rel B0 D cA oS oI oR h H) {a k : Nat} (h8 : 8 ≤ a) : va_rf (br_o B0 (br_R h a k)) = br_gv g0 B0 (.ref (br_R h a k)) := br_o_g hfix.1 (hr.2.2.2.2.2.2.1 a h8 k)
/-- one place changed -/
theorem br_rel_set (hr : br_rel B0 D cA oS oI oR h H) {a : Nat} (h8 : 8 ≤ a) (ha : (br_sh h a).1 ≠ 9) (hN : br_N h' = br_N h) (hs : ∀ q, 8 ≤ q → q ≠ a → br_ce B0 cA h' q = br_ce B0 cA h q) (hz : H'.size = H.size) (ho : ∀ q, q ≠ B0 + (a - 8) → H'[q]? = H[q]?)
    (he : va_at D br_cls (B0 + (a - 8), br_ce B0 cA h' a) H') (hi : br_inv oS oI oR h') : br_rel B0 D cA oS oI oR h' H' := by
  refine ⟨by rw [hN]; exact hr.1, by rw [hN, hz]; exact hr.2.1, ?_, hi⟩
  rw [br_ws_set hN h8 hs]
  exact hr.2.2.1.set br_D (br_get hr h8 ha) he ho
theorem br_ce_eq {q : Nat} (h1 : br_sh h' q = br_sh h q) (h2 : br_R h' q = br_R h q) (h3 : br_I h' q = br_I h q) (h4 : br_L h' q = br_L h q) : br_ce B0 cA h' q = br_ce B0 cA h q := by
  have hf : ∀ (l : List Nat) (k : Nat), br_fs B0 h' q l k = br_fs B0 h q l k := by
    intro l
    induction l with
    | nil => intro k; rfl
    | cons t r ih =>
      intro k
      show br_fvc B0 h' t q k :: _ = br_fvc B0 h t q k :: _
      rw [ih]
      congr 1
      unfold br_fvc
      rw [h2, h3, h4]
  unfold br_ce
  rw [h1, h2, h3, h4, hf]
theorem br_u_ne {α : Type} {f : Nat → Nat → α} {a k q : Nat} {x : α} (hq : q ≠ a) : br_u f a k x q = f q := by
  funext j
  simp [br_u, hq]
theorem br_u_at {α : Type} {f : Nat → Nat → α} {a k : Nat} {x : α} (j : Nat) : br_u f a k x a j = if j = k then x else f a j := by
  simp [br_u]
theorem br_inv_I (hi : br_inv oS oI oR h) {a k : Nat} {x : Int32} (h8 : 8 ≤ a) (hx : (br_sh h a).1 = 3 → x = 0 ∨ x = 1) : br_inv oS oI oR (br_wI h a k x) := by
  obtain ⟨h1, h2, h3, h4⟩ := hi
  refine ⟨fun p hp => ?_, h2, fun p hp j => ?_, h4⟩
  · obtain ⟨a1, a2, a3⟩ := h1 p hp
    exact ⟨a1, by show br_u _ _ _ _ p = _; rw [br_u_ne (by omega)]; exact a2, a3⟩
  · show br_u _ _ _ _ p j = 0 ∨ br_u _ _ _ _ p j = 1
    by_cases e : p = a
    · subst e
      rw [br_u_at]
      by_cases e2 : j = k
      · rw [if_pos e2]; exact hx hp
      · rw [if_neg e2]; exact h3 p hp j
    · rw [br_u_ne e]; exact h3 p hp j
theorem br_inv_L (hi : br_inv oS oI oR h) {a k : Nat} {x : Int64} : br_inv oS oI oR (br_wL h a k x) := hi
theorem br_inv_R (hi : br_inv oS oI oR h) {a k x : Nat} (h8 : 8 ≤ a) (hx : 8 ≤ x) : br_inv oS oI oR (br_wR h a k x) := by
  obtain ⟨h1, h2, h3, h4, h5⟩ := hi
  refine ⟨fun p hp => ?_, h2, h3, fun p hp j => ?_, h5⟩
  · obtain ⟨a1, a2, a3⟩ := h1 p hp
    exact ⟨a1, a2, by show br_u _ _ _ _ p = _; rw [br_u_ne (by omega)]; exact a3⟩
  · show br_u _ _ _ _ p j = 0 ∨ 8 ≤ br_u _ _ _ _ p j
    by_cases e : p = a
    · subst e
      rw [br_u_at]
      by_cases e2 : j = k
      · rw [if_pos e2]; exact Or.inr hx
      · rw [if_neg e2]; exact h4 p hp j
    · rw [br_u_ne e]; exact h4 p hp j
theorem br_kinds {k : Nat} (h : br_ra k = true) : k = 5 ∨ k = 6 ∨ k = 7 ∨ k = 8 := by
  simp [br_ra] at h; omega
theorem br_kinda {k : Nat} (h : br_ar k = true) : k = 1 ∨ k = 2 ∨ k = 3 ∨ k = 4 ∨ k = 5 ∨ k = 6 ∨ k = 7 ∨ k = 8 := by
  simp [br_ar] at h; omega
theorem br_ce1 {a : Nat} (e : (br_sh h a).1 = 1) : br_ce B0 cA h a = .inl (cA 1, (br_sh h a).2, .inl (br_I h a)) := by unfold br_ce; rw [e]; rfl
theorem br_ce2 {a : Nat} (e : (br_sh h a).1 = 2) : br_ce B0 cA h a = .inl (cA 2, (br_sh h a).2, .inr (.inl (br_L h a))) := by unfold br_ce; rw [e]; rfl
theorem br_ce3 {a : Nat} (e : (br_sh h a).1 = 3) : br_ce B0 cA h a = .inl (cA 3, (br_sh h a).2, .inl (br_I h a)) := by unfold br_ce; rw [e]; rfl
theorem br_ce4 {a : Nat} (e : (br_sh h a).1 = 4) : br_ce B0 cA h a = .inl (cA 4, (br_sh h a).2, .inl (br_I h a)) := by unfold br_ce; rw [e]; rfl
theorem br_ceR {a : Nat} (e : br_ra (br_sh h a).1 = true) : br_ce B0 cA h a = .inl (cA (br_sh h a).1, (br_sh h a).2, .inr (.inr (.inr (.inr (fun j => br_o B0 (br_R h a j)))))) := by
  unfold br_ce
  rcases br_kinds e with e | e | e | e <;> rw [e] <;> rfl
theorem br_ce0 {a ci : Nat} (e : br_sh h a = (0, ci)) : br_ce B0 cA h a = .inr (ci, br_fs B0 h a (br_tyc.getD ci []) 0) := by unfold br_ce; rw [e]; rfl
def br_kty : Nat → FieldType
  | 1 => .int
  | 2 => .long
  | 3 => .boolean
  | 4 => .byte
  | 5 => .array .int
  | 6 => .array .long
  | 7 => .object "BloomRooms$World"
  | _ => .object "BloomRooms$Law"
theorem br_tys_at {k : Nat} (h : br_ar k = true) : (br_tys cA)[k - 1]? = some (cA k, br_kty k) := by
  rcases br_kinda h with e | e | e | e | e | e | e | e <;> subst e <;> rfl
/-- an array that is there: the cell, its type -/
theorem br_arr (hr : br_rel B0 D cA oS oI oR h H) {a : Nat} (h8 : 8 ≤ a) (e : br_ar (br_sh h a).1 = true) {s : State} (hK : va_K D br_cls (br_tys cA) s) :
    ∃ V : Nat → Value, H[B0 + (a - 8)]? = some (arrV (cA (br_sh h a).1) (br_sh h a).2 V) ∧ s.isArrayOf (arrV (cA (br_sh h a).1) (br_sh h a).2 V) (br_kty (br_sh h a).1) ∧
      (((br_sh h a).1 = 1 ∨ (br_sh h a).1 = 3 ∨ (br_sh h a).1 = 4) → V = fun j => .int (br_I h a j)) ∧ ((br_sh h a).1 = 2 → V = fun j => .long (br_L h a j)) ∧ (br_ra (br_sh h a).1 = true → V = fun j => va_rf (br_o B0 (br_R h a j))) := by
  have hg := hr.2.2.1 _ _ (br_get hr h8 (by intro q; rw [q] at e; cases e))
  have hA := (hK.2 _ _ (br_tys_at (cA := cA) e)).1 (br_sh h a).2
  rcases br_kinda e with k | k | k | k | k | k | k | k
  · refine ⟨_, by rw [br_ce1 k] at hg; rw [k]; exact hg, ?_, fun _ => rfl, fun q => ?_, fun q => ?_⟩
    · exact hA _
    · rw [k] at q; cases q
    · rw [k] at q; cases q
  · refine ⟨_, by rw [br_ce2 k] at hg; rw [k]; exact hg, hA _, fun q => ?_, fun _ => rfl, fun q => ?_⟩
    · rw [k] at q; omega
    · rw [k] at q; cases q
  · refine ⟨_, by rw [br_ce3 k] at hg; rw [k]; exact hg, hA _, fun _ => rfl, fun q => ?_, fun q => ?_⟩
    · rw [k] at q; cases q
    · rw [k] at q; cases q
  · refine ⟨_, by rw [br_ce4 k] at hg; rw [k]; exact hg, hA _, fun _ => rfl, fun q => ?_, fun q => ?_⟩
    · rw [k] at q; cases q
    · rw [k] at q; cases q
  all_goals
    refine ⟨_, by rw [br_ceR (by rw [k]; rfl)] at hg; exact hg, hA _, fun q => ?_, fun q => ?_, fun _ => rfl⟩
    · rw [k] at q; omega
    · rw [k] at q; omega
/-- an array that was there before -/
theorem br_arr_old (hfix : br_fix g0 oS oI oR) (hr : br_rel B0 D cA oS oI oR h H) {s : State} (hold : br_old g0 B0 oS oI s s.heap) (hS : ∃ locs, va_S (br_A B0) s.heap H locs) {a : Nat} (h8 : a < 8) (e : (br_sh h a).1 = 1 ∨ (br_sh h a).1 = 4) :
    ∃ (t : Nat) (cell : Cell), br_gv g0 B0 (.ref a) = .ref t ∧ H[t]? = some cell ∧ s.isArrayOf cell (br_kty (br_sh h a).1) ∧ cell.vm ≠ .unknown ∧ (br_sh h a).2 ≤ cell.slots.size ∧ cell.slots.size.toInt32 = Int32.ofNat (br_sh h a).2 ∧ ∀ j : Nat, j < (br_sh h a).2 → cell.slots[j]? = some (.int (br_I h a j)) := by
  obtain ⟨e1, e2, -⟩ := br_shold hr h8
  obtain ⟨locs, hS⟩ := hS
  have hp : a = 1 ∨ a = 2 ∨ a = 4 ∨ a = 6 := by
    rcases e with e | e
    · rcases hfix.2.2.2.1 a h8 (by rw [← e1]; exact e) with q | q <;> omega
    · rcases hfix.2.2.2.2.1 a h8 (by rw [← e1]; exact e) with q | q <;> omega
  obtain ⟨t, ht, hT⟩ := hold.1 a hp
  obtain ⟨cell, c1, c2, c3, c4, c5, c6, -⟩ := va_T.kept (H1 := H) hT hS.2.1
  refine ⟨t, cell, ?_, c1, ?_, c3, by rw [e1]; exact c4, by rw [e1]; exact c5, fun j hj => by rw [e2]; exact c6 j (by rw [← e1]; exact hj)⟩
  · show br_g g0 B0 a = _
    unfold br_g
    rw [if_neg (by omega), ht]
  · rcases e with e | e
    · have : a ≤ 2 := by rcases hfix.2.2.2.1 a h8 (by rw [← e1]; exact e) with q | q <;> omega
      rw [if_pos this] at c2
      rw [e]; exact c2
    · have : ¬ a ≤ 2 := by rcases hfix.2.2.2.2.1 a h8 (by rw [← e1]; exact e) with q | q <;> omega
      rw [if_neg this] at c2
      rw [e]; exact c2
end BRR
