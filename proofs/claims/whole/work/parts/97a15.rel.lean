/-! HOW THE ABSTRACT WORLD LIES IN THE MACHINE'S HEAP: the places from 8 on one behind another from B0 on; those below 8 were there before -/
def br_g (g0 : Nat → Value) (B0 p : Nat) : Value := if 8 ≤ p then .ref (B0 + (p - 8)) else g0 p
def br_gv (g0 : Nat → Value) (B0 : Nat) : Value → Value
  | .ref p => br_g g0 B0 p
  | v => v
def br_o (B0 r : Nat) : Option Nat := if r = 0 then none else some (B0 + (r - 8))
def br_fvc (B0 : Nat) (h : br_H) (ty p k : Nat) : Value := match ty with
  | 0 => .int (br_I h p k)
  | 1 => .long (br_L h p k)
  | _ => va_rf (br_o B0 (br_R h p k))
def br_fs (B0 : Nat) (h : br_H) (p : Nat) : List Nat → Nat → List Value
  | [], _ => []
  | t :: r, k => br_fvc B0 h t p k :: br_fs B0 h p r (k + 1)
def br_ce (B0 : Nat) (cA : Nat → ClassId) (h : br_H) (p : Nat) : va_E := match (br_sh h p).1 with
  | 0 => .inr ((br_sh h p).2, br_fs B0 h p (br_tyc.getD (br_sh h p).2 []) 0)
  | 1 => .inl (cA 1, (br_sh h p).2, .inl (br_I h p))
  | 2 => .inl (cA 2, (br_sh h p).2, .inr (.inl (br_L h p)))
  | 3 => .inl (cA 3, (br_sh h p).2, .inl (br_I h p))
  | 4 => .inl (cA 4, (br_sh h p).2, .inl (br_I h p))
  | k => .inl (cA k, (br_sh h p).2, .inr (.inr (.inr (.inr (fun j => br_o B0 (br_R h p j))))))
def br_ws (B0 : Nat) (cA : Nat → ClassId) (h : br_H) : va_W := (List.range (br_N h - 8)).map (fun i => (B0 + i, br_ce B0 cA h (8 + i)))
def br_tys (cA : Nat → ClassId) : List (ClassId × FieldType) := [(cA 1, .int), (cA 2, .long), (cA 3, .boolean), (cA 4, .byte), (cA 5, .array .int), (cA 6, .array .long), (cA 7, .object "BloomRooms$World"), (cA 8, .object "BloomRooms$Law")]
abbrev br_A (B0 : Nat) : Nat → Prop := fun q => B0 ≤ q
def br_inv (oS : Nat → Nat × Nat) (oI : Nat → Nat → Int32) (oR : Nat → Nat → Nat) (h : br_H) : Prop :=
  (∀ p, p < 8 → br_sh h p = oS p ∧ br_I h p = oI p ∧ br_R h p = oR p) ∧ (∀ p, br_N h ≤ p → (br_sh h p).1 = 9) ∧ (∀ p, (br_sh h p).1 = 3 → ∀ j, br_I h p j = 0 ∨ br_I h p j = 1) ∧ (∀ p, 8 ≤ p → ∀ j, br_R h p j = 0 ∨ 8 ≤ br_R h p j) ∧ (∀ p, 8 ≤ p → (br_sh h p).1 = 0 → (br_sh h p).2 < 13)
def br_rel (B0 : Nat) (D : va_G) (cA : Nat → ClassId) (oS : Nat → Nat × Nat) (oI : Nat → Nat → Int32) (oR : Nat → Nat → Nat) (h : br_H) (H : Heap) : Prop :=
  8 ≤ br_N h ∧ H.size = B0 + (br_N h - 8) ∧ va_P D br_cls (br_ws B0 cA h) H ∧ br_inv oS oI oR h
theorem br_ws_get {B0 : Nat} {cA : Nat → ClassId} {h : br_H} {p : Nat} (h8 : 8 ≤ p) (hp : p < br_N h) : (br_ws B0 cA h)[p - 8]? = some (B0 + (p - 8), br_ce B0 cA h p) := by
  unfold br_ws
  rw [List.getElem?_map, List.getElem?_range (by omega)]
  show some (B0 + (p - 8), br_ce B0 cA h (8 + (p - 8))) = _
  rw [show 8 + (p - 8) = p by omega]
theorem br_ws_of {B0 : Nat} {cA : Nat → ClassId} {h : br_H} {k : Nat} {q : Nat × va_E} (hk : (br_ws B0 cA h)[k]? = some q) : k < br_N h - 8 ∧ q = (B0 + k, br_ce B0 cA h (8 + k)) := by
  unfold br_ws at hk
  rw [List.getElem?_map] at hk
  by_cases hl : k < br_N h - 8
  · rw [List.getElem?_range hl] at hk
    exact ⟨hl, (Option.some.inj hk).symm⟩
  · rw [List.getElem?_eq_none (by simpa using hl)] at hk
    cases hk
theorem br_D {B0 : Nat} {cA : Nat → ClassId} {h : br_H} : va_D (br_A B0) (br_ws B0 cA h) := by
  refine ⟨fun i j x y hi hj hxy => ?_, fun k q hk => ?_⟩
  · obtain ⟨-, rfl⟩ := br_ws_of hi
    obtain ⟨-, rfl⟩ := br_ws_of hj
    have : B0 + i = B0 + j := hxy
    omega
  · obtain ⟨-, rfl⟩ := br_ws_of hk
    show B0 ≤ B0 + k
    omega
/-- what differs in one place alone -/
theorem br_ws_set {B0 : Nat} {cA : Nat → ClassId} {h h' : br_H} {p : Nat} (hN : br_N h' = br_N h) (h8 : 8 ≤ p) (hs : ∀ q, 8 ≤ q → q ≠ p → br_ce B0 cA h' q = br_ce B0 cA h q) :
    br_ws B0 cA h' = (br_ws B0 cA h).set (p - 8) (B0 + (p - 8), br_ce B0 cA h' p) := by
  apply List.ext_getElem?
  intro i
  rw [List.getElem?_set]
  by_cases hl : i < br_N h - 8
  · have e1 := br_ws_get (B0 := B0) (cA := cA) (h := h') (p := 8 + i) (by omega) (by omega)
    have e2 := br_ws_get (B0 := B0) (cA := cA) (h := h) (p := 8 + i) (by omega) (by omega)
    rw [show 8 + i - 8 = i by omega] at e1 e2
    rw [e1]
    by_cases hi : p - 8 = i
    · have hl2 : p - 8 < (br_ws B0 cA h).length := by unfold br_ws; simp; omega
      rw [if_pos hi, if_pos hl2]
      rw [show 8 + i = p by omega, ← hi]
    · rw [if_neg hi, e2, hs (8 + i) (by omega) (by omega)]
  · have e1 : (br_ws B0 cA h')[i]? = none := by unfold br_ws; simp; omega
    have e2 : (br_ws B0 cA h)[i]? = none := by unfold br_ws; simp; omega
    rw [e1]
    by_cases hi : p - 8 = i
    · have hl2 : ¬ p - 8 < (br_ws B0 cA h).length := by unfold br_ws; simp; omega
      rw [if_pos hi, if_neg hl2]
    · rw [if_neg hi, e2]
theorem br_fs_get {B0 : Nat} {h : br_H} {p : Nat} : ∀ (l : List Nat) (k i : Nat), (br_fs B0 h p l k)[i]? = (l[i]?).map (fun t => br_fvc B0 h t p (k + i))
  | [], k, i => by simp [br_fs]
  | t :: r, k, 0 => by simp [br_fs]
  | t :: r, k, i + 1 => by
    show (br_fs B0 h p r (k + 1))[i]? = (r[i]?).map _
    rw [br_fs_get r (k + 1) i, show k + 1 + i = k + (i + 1) by omega]
theorem br_fs_len {B0 : Nat} {h : br_H} {p : Nat} : ∀ (l : List Nat) (k : Nat), (br_fs B0 h p l k).length = l.length
  | [], _ => rfl
  | t :: r, k => by simp [br_fs, br_fs_len r (k + 1)]
theorem br_fs_set {B0 : Nat} {h h' : br_H} {p k : Nat} {v : Value} (l : List Nat) {ty : Nat} (hk : l[k]? = some ty) (hv : br_fvc B0 h' ty p k = v) (ho : ∀ t i, i ≠ k → br_fvc B0 h' t p i = br_fvc B0 h t p i) : br_fs B0 h' p l 0 = (br_fs B0 h p l 0).set k v := by
  apply List.ext_getElem?
  intro i
  rw [List.getElem?_set, br_fs_get, br_fs_get]
  have hl := (List.getElem?_eq_some_iff.mp hk).1
  by_cases hi : k = i
  · subst hi
    rw [if_pos rfl, if_pos (by rw [br_fs_len]; exact hl), hk]
    simp [hv]
  · rw [if_neg hi]
    cases l[i]? with
    | none => rfl
    | some t => simp only [Option.map_some]; rw [ho t (0 + i) (by omega)]
theorem br_gv_int {g0 : Nat → Value} {B0 : Nat} {x : Int32} : br_gv g0 B0 (.int x) = .int x := rfl
theorem br_g_ref {g0 : Nat → Value} {B0 p : Nat} (h8 : 8 ≤ p) : br_gv g0 B0 (.ref p) = .ref (B0 + (p - 8)) := by
  show br_g g0 B0 p = _
  unfold br_g
  rw [if_pos h8]
theorem br_o_g {g0 : Nat → Value} {B0 r : Nat} (h0 : g0 0 = .null) (hr : r = 0 ∨ 8 ≤ r) : va_rf (br_o B0 r) = br_gv g0 B0 (.ref r) := by
  show _ = br_g g0 B0 r
  unfold br_g br_o
  rcases hr with rfl | hr
  · rw [if_pos rfl, if_neg (by omega), h0]; rfl
  · rw [if_pos hr, if_neg (by omega)]; rfl
/-- the locals -/
def br_lv (g0 : Nat → Value) (B0 : Nat) (ls : br_V) (L : Array Slot) : Prop := L.size = ls.length ∧ lv_wf L ∧ ∀ i v, br_ld ls i = some v → L[i]? = some (.val (br_gv g0 B0 v))
def br_ll2 (g0 : Nat → Value) (B0 : Nat) (ls : br_V) : List (Nat × Value) := (List.range ls.length).filterMap (fun i => (br_ld ls i).map (fun v => (i, br_gv g0 B0 v)))
theorem br_ld_lt : ∀ (ls : br_V) (i : Nat) (v : Value), br_ld ls i = some v → i < ls.length
  | [], _, _, h => by cases h
  | a :: t, 0, _, _ => by simp
  | a :: t, i + 1, v, h => by have := br_ld_lt t i v h; simp; omega
theorem br_lv_has {g0 : Nat → Value} {B0 : Nat} {ls : br_V} {L : Array Slot} (h : br_lv g0 B0 ls L) : lv_has L ls.length (br_ll2 g0 B0 ls) := by
  refine ⟨h.1, h.2.1, fun q hq => ?_⟩
  obtain ⟨i, -, hi⟩ := List.mem_filterMap.mp hq
  cases hv : br_ld ls i with
  | none => rw [hv] at hi; cases hi
  | some v =>
    rw [hv] at hi
    cases hi
    exact h.2.2 i v hv
theorem br_ll2_mem {g0 : Nat → Value} {B0 : Nat} {ls : br_V} {i : Nat} {v : Value} (h : br_ld ls i = some v) : (i, br_gv g0 B0 v) ∈ br_ll2 g0 B0 ls :=
  List.mem_filterMap.mpr ⟨i, List.mem_range.mpr (br_ld_lt ls i v h), by rw [h]; rfl⟩
theorem br_s1_len : ∀ (ls : br_V) (i : Nat) (v : Value), (br_s1 ls i v).length = ls.length
  | [], _, _ => by simp [br_s1]
  | a :: t, 0, v => by simp [br_s1]
  | a :: t, 1, v => by simp [br_s1, br_s1_len t 0 v]
  | a :: t, i + 2, v => by simp [br_s1, br_s1_len t (i + 1) v]
theorem br_kl_some {a : Option Value} {w : Value} (h : br_kl a = some w) : a = some w ∧ br_kl (some w) = some w := by
  cases a with
  | none => cases h
  | some v => cases v <;> first | (cases h; done) | (cases h; exact ⟨rfl, rfl⟩)
theorem br_s1_ld : ∀ (ls : br_V) (i k : Nat) (v w : Value), br_ld (br_s1 ls i v) k = some w → (k = i ∧ w = v) ∨ (k ≠ i ∧ br_ld ls k = some w ∧ (k + 1 = i → br_kl (some w) = some w))
  | [], i, k, v, w, h => by simp [br_s1, br_ld] at h
  | a :: t, 0, 0, v, w, h => by simp [br_s1, br_ld] at h; exact Or.inl ⟨rfl, h.symm⟩
  | a :: t, 0, k + 1, v, w, h => Or.inr ⟨by omega, h, by omega⟩
  | a :: t, 1, 0, v, w, h => by
    simp [br_s1, br_ld] at h
    exact Or.inr ⟨by omega, (br_kl_some h).1, fun _ => (br_kl_some h).2⟩
  | a :: t, 1, k + 1, v, w, h => by
    rcases br_s1_ld t 0 k v w h with ⟨h1, h2⟩ | ⟨h1, h2, h3⟩
    · exact Or.inl ⟨by omega, h2⟩
    · exact Or.inr ⟨by omega, h2, fun q => h3 (by omega)⟩
  | a :: t, i + 2, 0, v, w, h => Or.inr ⟨by omega, h, by omega⟩
  | a :: t, i + 2, k + 1, v, w, h => by
    rcases br_s1_ld t (i + 1) k v w h with ⟨h1, h2⟩ | ⟨h1, h2, h3⟩
    · exact Or.inl ⟨by omega, h2⟩
    · exact Or.inr ⟨by omega, h2, fun q => h3 (by omega)⟩
theorem br_n1_len : ∀ (ls : br_V) (i : Nat), (br_n1 ls i).length = ls.length
  | [], _ => by simp [br_n1]
  | a :: t, 0 => by simp [br_n1]
  | a :: t, i + 1 => by simp [br_n1, br_n1_len t i]
theorem br_n1_ld : ∀ (ls : br_V) (i k : Nat) (w : Value), br_ld (br_n1 ls i) k = some w → k ≠ i ∧ br_ld ls k = some w
  | [], i, k, w, h => by simp [br_n1, br_ld] at h
  | a :: t, 0, 0, w, h => by simp [br_n1, br_ld] at h
  | a :: t, 0, k + 1, w, h => ⟨by omega, h⟩
  | a :: t, i + 1, 0, w, h => ⟨by omega, h⟩
  | a :: t, i + 1, k + 1, w, h => by
    obtain ⟨h1, h2⟩ := br_n1_ld t i k w h
    exact ⟨by omega, h2⟩
theorem br_kl_cat {w : Value} (h : br_kl (some w) = some w) : w.category = 1 := by
  cases w <;> first | rfl | (simp [br_kl] at h)
theorem br_gv_cat {g0 : Nat → Value} {B0 : Nat} (hg : ∀ p, p < 8 → (g0 p).category = 1) (w : Value) : (br_gv g0 B0 w).category = w.category := by
  cases w with
  | ref p =>
    show (br_g g0 B0 p).category = 1
    unfold br_g
    split
    · rfl
    · next h => exact hg p (by omega)
  | _ => rfl
/-- behind a store of one slot, of two -/
theorem br_lv_s1 {g0 : Nat → Value} {B0 : Nat} (hg : ∀ p, p < 8 → (g0 p).category = 1) {ls : br_V} {L : Array Slot} {i : Nat} {v : Value} (hL : lv_has L ls.length ((i, br_gv g0 B0 v) :: (br_ll2 g0 B0 ls).filter (fun q => !(q.1 == i) && !(q.1 + 1 == i && q.2.category == 2)))) : br_lv g0 B0 (br_s1 ls i v) L := by
  refine ⟨by rw [br_s1_len]; exact hL.1, hL.2.1, fun k w hk => ?_⟩
  rcases br_s1_ld ls i k v w hk with ⟨rfl, rfl⟩ | ⟨h1, h2, h3⟩
  · exact hL.2.2 _ List.mem_cons_self
  · refine hL.2.2 (k, br_gv g0 B0 w) (List.mem_cons_of_mem _ (List.mem_filter.mpr ⟨br_ll2_mem h2, ?_⟩))
    by_cases h4 : k + 1 = i
    · have h5 := br_kl_cat (h3 h4)
      simp [h1, br_gv_cat hg, h5]
    · simp [h1, h4]
theorem br_lv_s2 {g0 : Nat → Value} {B0 : Nat} (hg : ∀ p, p < 8 → (g0 p).category = 1) {ls : br_V} {L : Array Slot} {i : Nat} {v : Value} (hL : lv_has L ls.length ((i, br_gv g0 B0 v) :: (br_ll2 g0 B0 ls).filter (fun q => !(q.1 == i) && (!(q.1 == i + 1) && !(q.1 + 1 == i && q.2.category == 2))))) : br_lv g0 B0 (br_s2 ls i v) L := by
  refine ⟨by unfold br_s2; rw [br_n1_len, br_s1_len]; exact hL.1, hL.2.1, fun k w hk => ?_⟩
  obtain ⟨h0, hk⟩ := br_n1_ld _ _ _ _ hk
  rcases br_s1_ld ls i k v w hk with ⟨rfl, rfl⟩ | ⟨h1, h2, h3⟩
  · exact hL.2.2 _ List.mem_cons_self
  · refine hL.2.2 (k, br_gv g0 B0 w) (List.mem_cons_of_mem _ (List.mem_filter.mpr ⟨br_ll2_mem h2, ?_⟩))
    by_cases h4 : k + 1 = i
    · have h5 := br_kl_cat (h3 h4)
      simp [h1, h0, br_gv_cat hg, h5]
    · simp [h1, h0, h4]
/-- at a method's entry -/
theorem br_pad_len : ∀ (n : Nat) (l : br_V), l.length ≤ n → (br_pad n l).length = n
  | 0, l, h => by simp at h; subst h; rfl
  | n + 1, [], _ => by simp [br_pad, br_pad_len n [] (by simp)]
  | n + 1, a :: t, h => by simp [br_pad, br_pad_len n t (by simp at h; omega)]
theorem br_pad_ld : ∀ (n : Nat) (l : br_V) (i : Nat) (v : Value), br_ld (br_pad n l) i = some v → br_ld l i = some v
  | 0, l, i, v, h => h
  | n + 1, [], 0, v, h => by simp [br_pad, br_ld] at h
  | n + 1, [], i + 1, v, h => by simpa [br_ld] using br_pad_ld n [] i v h
  | n + 1, a :: t, 0, v, h => h
  | n + 1, a :: t, i + 1, v, h => br_pad_ld n t i v h
theorem br_arg_ld {g0 : Nat → Value} {B0 : Nat} (hg : ∀ p, p < 8 → (g0 p).category = 1) : ∀ (as : List Value) (o i : Nat) (v : Value), br_ld (br_arg as) i = some v → (o + i, br_gv g0 B0 v) ∈ lv_args o (as.map (br_gv g0 B0))
  | [], o, i, v, h => by simp [br_arg, br_ld] at h
  | a :: t, o, i, v, h => by
    have one : a.category = 1 → br_arg (a :: t) = some a :: br_arg t := by cases a <;> first | (intro _; rfl) | (intro z; cases z)
    have two : a.category = 2 → br_arg (a :: t) = some a :: none :: br_arg t := by cases a <;> first | (intro _; rfl) | (intro z; cases z)
    show _ ∈ (o, br_gv g0 B0 a) :: lv_args (if (br_gv g0 B0 a).category = 2 then o + 2 else o + 1) (t.map (br_gv g0 B0))
    rw [br_gv_cat hg]
    rcases lv_cat a with hc | hc
    · rw [one hc] at h
      rw [if_neg (by omega)]
      cases i with
      | zero => simp [br_ld] at h; subst h; exact List.mem_cons_self
      | succ i => exact List.mem_cons_of_mem _ (by rw [show o + (i + 1) = o + 1 + i by omega]; exact br_arg_ld hg t (o + 1) i v h)
    · rw [two hc] at h
      rw [if_pos hc]
      match i, h with
      | 0, h => simp [br_ld] at h; subst h; exact List.mem_cons_self
      | 1, h => simp [br_ld] at h
      | i + 2, h => exact List.mem_cons_of_mem _ (by rw [show o + (i + 2) = o + 2 + i by omega]; exact br_arg_ld hg t (o + 2) i v h)
theorem br_arg_len {g0 : Nat → Value} {B0 : Nat} (hg : ∀ p, p < 8 → (g0 p).category = 1) : ∀ as : List Value, (br_arg as).length = (lg_sl (as.map (br_gv g0 B0))).length
  | [] => rfl
  | a :: t => by
    have ih := br_arg_len (B0 := B0) hg t
    have one : a.category = 1 → br_arg (a :: t) = some a :: br_arg t := by cases a <;> first | (intro _; rfl) | (intro z; cases z)
    have two : a.category = 2 → br_arg (a :: t) = some a :: none :: br_arg t := by cases a <;> first | (intro _; rfl) | (intro z; cases z)
    unfold lg_sl at ih ⊢
    rw [List.map_cons, List.flatMap_cons, List.length_append, br_gv_cat hg]
    rcases lv_cat a with hc | hc
    · rw [one hc, if_neg (by omega)]; simp [ih]; omega
    · rw [two hc, if_pos hc]; simp [ih]; omega
