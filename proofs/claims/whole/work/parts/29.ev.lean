/-! AN EVALUATOR for the constructors: the world's kinds and references as data, ints and longs as a log -/
abbrev br_cell : Type := (Nat × Nat) × (Nat × List Nat)
abbrev br_op : Type := Nat × Nat × Nat × Int32
abbrev br_dt : Type := List br_cell × List br_op × (Nat × Nat)
def br_fl (f : Nat → Nat → Int32) (a n : Nat) (x : Int32) : Nat → Nat → Int32 := fun p j => if p = a ∧ j < n then x else f p j
def br_lgI (I0 : Nat → Nat → Int32) : List br_op → Nat → Nat → Int32
  | [] => I0
  | (p, 0, _, _) :: t => br_z (br_lgI I0 t) p 0
  | (p, 1, k, x) :: t => br_u (br_lgI I0 t) p k x
  | (p, 2, n, x) :: t => br_fl (br_lgI I0 t) p n x
  | (p, _, n, _) :: t => br_zz (br_lgI I0 t) p n 0
def br_lgL (L0 : Nat → Nat → Int64) : List br_op → Nat → Nat → Int64
  | [] => L0
  | (p, 0, _, _) :: t => br_z (br_lgL L0 t) p 0
  | (_, 1, _, _) :: t => br_lgL L0 t
  | (_, 2, _, _) :: t => br_lgL L0 t
  | (p, _, n, _) :: t => br_zz (br_lgL L0 t) p n 0
def br_cval : Nat × List Nat → Nat → Nat
  | (0, l), j => l.getD j 0
  | (b + 1, _), j => b + 1 + j
def br_cg (cs : List br_cell) (p : Nat) : br_cell := cs.getD (p - 8) ((9, 0), (0, []))
def br_shc (oS : Nat → Nat × Nat) (cs : List br_cell) (p : Nat) : Nat × Nat := if p < 8 then oS p else (br_cg cs p).1
def br_rc (oR : Nat → Nat → Nat) (cs : List br_cell) (p j : Nat) : Nat := if p < 8 then oR p j else br_cval (br_cg cs p).2 j
def br_ls (D : br_dt) : Nat := 8 + D.1.length
section BREV
variable {oS : Nat → Nat × Nat} {oR : Nat → Nat → Nat} {I0 : Nat → Nat → Int32} {L0 : Nat → Nat → Int64}
def br_hd (oS : Nat → Nat × Nat) (oR : Nat → Nat → Nat) (I0 : Nat → Nat → Int32) (L0 : Nat → Nat → Int64) (D : br_dt) : br_H := (br_ls D, br_shc oS D.1, br_rc oR D.1, br_lgI I0 D.2.1, br_lgL L0 D.2.1, D.2.2)
def br_dB (D : br_dt) (b : Nat × Nat) : br_dt := (D.1, D.2.1, b)
def br_dN (D : br_dt) (q : Nat × Nat) (ms : Nat) : br_dt := (D.1 ++ [(q, (0, []))], (br_ls D, 0, 0, 0) :: D.2.1, (D.2.2.1 - 1, D.2.2.2 - ms))
def br_dM (D : br_dt) (ok ik n k : Nat) : br_dt := (D.1 ++ (((ok, n), (br_ls D + 1, [])) :: List.replicate n ((ik, k), (0, []))), (br_ls D, 3, br_ls D + 1 + n, 0) :: D.2.1, (D.2.2.1 - (1 + n), D.2.2.2 - (n + n * k)))
def br_lset : List Nat → Nat → Nat → List Nat
  | [], 0, x => [x]
  | [], k + 1, x => 0 :: br_lset [] k x
  | _ :: t, 0, x => x :: t
  | a :: t, k + 1, x => a :: br_lset t k x
def br_dR (D : br_dt) (a k x : Nat) : br_dt := (D.1.set (a - 8) ((br_cg D.1 a).1, (0, br_lset (br_cg D.1 a).2.2 k x)), D.2)
def br_dI (D : br_dt) (a k : Nat) (x : Int32) : br_dt := (D.1, (a, 1, k, x) :: D.2.1, D.2.2)
def br_dF (D : br_dt) (a n : Nat) (x : Int32) : br_dt := (D.1, (a, 2, n, x) :: D.2.1, D.2.2)
theorem br_lset_get : ∀ (l : List Nat) (k x j : Nat), (br_lset l k x).getD j 0 = if j = k then x else l.getD j 0
  | [], 0, x, 0 => rfl
  | [], 0, x, j + 1 => by simp [br_lset]
  | [], k + 1, x, 0 => by simp [br_lset]
  | [], k + 1, x, j + 1 => by
    have := br_lset_get [] k x j
    simpa [br_lset] using this
  | a :: t, 0, x, 0 => rfl
  | a :: t, 0, x, j + 1 => by simp [br_lset]
  | a :: t, k + 1, x, 0 => by simp [br_lset]
  | a :: t, k + 1, x, j + 1 => by
    have := br_lset_get t k x j
    simpa [br_lset] using this
theorem br_hd_B {D : br_dt} {b : Nat × Nat} : br_hd oS oR I0 L0 (br_dB D b) = br_setB (br_hd oS oR I0 L0 D) b := rfl
theorem br_hd_I {D : br_dt} {a k : Nat} {x : Int32} : br_hd oS oR I0 L0 (br_dI D a k x) = br_wI (br_hd oS oR I0 L0 D) a k x := rfl
theorem br_cg_app {cs ds : List br_cell} {p : Nat} (h8 : 8 ≤ p) : br_cg (cs ++ ds) p = if p < 8 + cs.length then br_cg cs p else ds.getD (p - 8 - cs.length) ((9, 0), (0, [])) := by
  unfold br_cg
  rw [List.getD_eq_getElem?_getD, List.getElem?_append, List.getD_eq_getElem?_getD, List.getD_eq_getElem?_getD]
  by_cases h : p < 8 + cs.length
  · rw [if_pos h, if_pos (by omega)]
  · rw [if_neg h, if_neg (by omega)]
theorem br_hd_N {D : br_dt} {q : Nat × Nat} {ms : Nat} : br_hd oS oR I0 L0 (br_dN D q ms) = br_new (br_hd oS oR I0 L0 D) q ms := by
  have e1 : br_ls (br_dN D q ms) = br_ls D + 1 := by simp [br_ls, br_dN]; omega
  have e2 : br_shc oS (br_dN D q ms).1 = fun p => if p = br_ls D then q else br_shc oS D.1 p := by
    funext p
    show br_shc oS (D.1 ++ [(q, (0, []))]) p = _
    unfold br_shc
    by_cases h8 : p < 8
    · rw [if_pos h8, if_neg (by unfold br_ls; omega), if_pos h8]
    · rw [if_neg h8, if_neg h8, br_cg_app (by omega)]
      by_cases h : p < 8 + D.1.length
      · rw [if_pos h, if_neg (by unfold br_ls; omega)]
      · rw [if_neg h]
        by_cases h2 : p = br_ls D
        · rw [if_pos h2, show p - 8 - D.1.length = 0 by unfold br_ls at h2; omega]; rfl
        · rw [if_neg h2]
          have h3 : p - 8 - D.1.length = (p - 8 - D.1.length - 1) + 1 := by unfold br_ls at h2; omega
          rw [h3]
          unfold br_cg
          rw [List.getD_eq_getElem?_getD, List.getD_eq_getElem?_getD, List.getElem?_eq_none (by simp), List.getElem?_eq_none (by omega)]
  have e3 : br_rc oR (br_dN D q ms).1 = br_z (br_rc oR D.1) (br_ls D) 0 := by
    funext p j
    show br_rc oR (D.1 ++ [(q, (0, []))]) p j = if p = br_ls D then 0 else br_rc oR D.1 p j
    unfold br_rc
    by_cases h8 : p < 8
    · rw [if_pos h8, if_neg (by unfold br_ls; omega), if_pos h8]
    · rw [if_neg h8, if_neg h8, br_cg_app (by omega)]
      by_cases h : p < 8 + D.1.length
      · rw [if_pos h, if_neg (by unfold br_ls; omega)]
      · rw [if_neg h]
        by_cases h2 : p = br_ls D
        · rw [if_pos h2, show p - 8 - D.1.length = 0 by unfold br_ls at h2; omega]; rfl
        · rw [if_neg h2]
          have h3 : p - 8 - D.1.length = (p - 8 - D.1.length - 1) + 1 := by unfold br_ls at h2; omega
          rw [h3]
          unfold br_cg
          rw [List.getD_eq_getElem?_getD, List.getD_eq_getElem?_getD, List.getElem?_eq_none (by simp), List.getElem?_eq_none (by omega)]
  show (br_ls (br_dN D q ms), br_shc oS (br_dN D q ms).1, br_rc oR (br_dN D q ms).1, _, _, _) = _
  rw [e1, e2, e3]
  rfl
theorem br_hd_R {D : br_dt} {a k x : Nat} (h8 : 8 ≤ a) (hl : a < br_ls D) (hz : (br_cg D.1 a).2.1 = 0) : br_hd oS oR I0 L0 (br_dR D a k x) = br_wR (br_hd oS oR I0 L0 D) a k x := by
  have g : ∀ p, 8 ≤ p → br_cg (br_dR D a k x).1 p = if p = a then ((br_cg D.1 a).1, (0, br_lset (br_cg D.1 a).2.2 k x)) else br_cg D.1 p := by
    intro p hp
    show br_cg (D.1.set (a - 8) _) p = _
    unfold br_cg
    rw [List.getD_eq_getElem?_getD, List.getElem?_set]
    by_cases h : p = a
    · subst h
      rw [if_pos rfl, if_pos (by unfold br_ls at hl; omega), if_pos rfl]; rfl
    · rw [if_neg (by omega), if_neg h, List.getD_eq_getElem?_getD]
  have e1 : br_ls (br_dR D a k x) = br_ls D := by simp [br_ls, br_dR]
  have e2 : br_shc oS (br_dR D a k x).1 = br_shc oS D.1 := by
    funext p
    unfold br_shc
    by_cases h : p < 8
    · rw [if_pos h, if_pos h]
    · rw [if_neg h, if_neg h, g p (by omega)]
      by_cases h2 : p = a
      · rw [if_pos h2, h2]
      · rw [if_neg h2]
  have e3 : br_rc oR (br_dR D a k x).1 = br_u (br_rc oR D.1) a k x := by
    funext p j
    show _ = if p = a ∧ j = k then x else br_rc oR D.1 p j
    unfold br_rc
    by_cases h : p < 8
    · rw [if_pos h, if_pos h, if_neg (by omega)]
    · rw [if_neg h, if_neg h, g p (by omega)]
      by_cases h2 : p = a
      · subst h2
        rw [if_pos rfl]
        have hc : br_cval (br_cg D.1 p).2 j = (br_cg D.1 p).2.2.getD j 0 := by
          generalize hq : (br_cg D.1 p).2 = q at hz ⊢
          obtain ⟨b, l⟩ := q
          cases hz
          rfl
        rw [hc]
        show (br_lset _ k x).getD j 0 = _
        rw [br_lset_get]
        by_cases h3 : j = k
        · rw [if_pos h3, if_pos ⟨rfl, h3⟩]
        · rw [if_neg h3, if_neg (fun h => h3 h.2)]
      · rw [if_neg h2, if_neg (fun h => h2 h.1)]
  show (br_ls (br_dR D a k x), br_shc oS (br_dR D a k x).1, br_rc oR (br_dR D a k x).1, _, _, _) = _
  rw [e1, e2, e3]
  rfl
theorem br_hd_M {D : br_dt} {ok ik n k : Nat} : br_hd oS oR I0 L0 (br_dM D ok ik n k) = br_newM (br_hd oS oR I0 L0 D) ok ik n k := by
  have e1 : br_ls (br_dM D ok ik n k) = br_ls D + 1 + n := by simp [br_ls, br_dM]; omega
  have g : ∀ p, 8 ≤ p → br_cg (br_dM D ok ik n k).1 p = if p = br_ls D then ((ok, n), (br_ls D + 1, [])) else if br_ls D < p ∧ p < br_ls D + 1 + n then ((ik, k), (0, [])) else br_cg D.1 p := by
    intro p hp
    show br_cg (D.1 ++ (((ok, n), (br_ls D + 1, [])) :: List.replicate n ((ik, k), (0, [])))) p = _
    rw [br_cg_app hp]
    by_cases h : p < 8 + D.1.length
    · rw [if_pos h, if_neg (by unfold br_ls; omega), if_neg (by unfold br_ls; omega)]
    · rw [if_neg h]
      by_cases h2 : p = br_ls D
      · rw [if_pos h2, show p - 8 - D.1.length = 0 by unfold br_ls at h2; omega]; rfl
      · rw [if_neg h2]
        have h3 : p - 8 - D.1.length = (p - 8 - D.1.length - 1) + 1 := by unfold br_ls at h2; omega
        rw [h3, List.getD_cons_succ, List.getD_eq_getElem?_getD, List.getElem?_replicate]
        by_cases h4 : br_ls D < p ∧ p < br_ls D + 1 + n
        · rw [if_pos h4, if_pos (by unfold br_ls at h4 h2; omega)]; rfl
        · rw [if_neg h4, if_neg (by unfold br_ls at h4 h2; omega)]
          unfold br_cg
          rw [List.getD_eq_getElem?_getD, List.getElem?_eq_none (by omega)]
  have e2 : br_shc oS (br_dM D ok ik n k).1 = fun p => if p = br_ls D then (ok, n) else if br_ls D < p ∧ p < br_ls D + 1 + n then (ik, k) else br_shc oS D.1 p := by
    funext p
    unfold br_shc
    by_cases h : p < 8
    · rw [if_pos h, if_neg (by unfold br_ls; omega), if_neg (by unfold br_ls; omega), if_pos h]
    · rw [if_neg h, if_neg h, g p (by omega)]
      by_cases h2 : p = br_ls D
      · rw [if_pos h2, if_pos h2]
      · rw [if_neg h2, if_neg h2]
        by_cases h4 : br_ls D < p ∧ p < br_ls D + 1 + n
        · rw [if_pos h4, if_pos h4]
        · rw [if_neg h4, if_neg h4]
  have e3 : br_rc oR (br_dM D ok ik n k).1 = fun p j => if p = br_ls D then br_ls D + 1 + j else if br_ls D < p ∧ p < br_ls D + 1 + n then 0 else br_rc oR D.1 p j := by
    funext p j
    unfold br_rc
    by_cases h : p < 8
    · rw [if_pos h, if_neg (by unfold br_ls; omega), if_neg (by unfold br_ls; omega), if_pos h]
    · rw [if_neg h, if_neg h, g p (by omega)]
      by_cases h2 : p = br_ls D
      · rw [if_pos h2, if_pos h2]; rfl
      · rw [if_neg h2, if_neg h2]
        by_cases h4 : br_ls D < p ∧ p < br_ls D + 1 + n
        · rw [if_pos h4, if_pos h4]
          show ([] : List Nat).getD j 0 = 0
          rfl
        · rw [if_neg h4, if_neg h4]
  show (br_ls (br_dM D ok ik n k), br_shc oS (br_dM D ok ik n k).1, br_rc oR (br_dM D ok ik n k).1, _, _, _) = _
  rw [e1, e2, e3]
  rfl
end BREV
/-! one step and all steps of the evaluator -/
def br_qi {α : Type} (K : Int32 → List Value → Option α) : List Value → Option α
  | .int x :: r => K x r
  | _ => none
def br_qr {α : Type} (K : Nat → List Value → Option α) : List Value → Option α
  | .ref x :: r => K x r
  | _ => none
def br_qli {α : Type} (K : Int32 → Option α) : Option Value → Option α
  | some (.int x) => K x
  | _ => none
def br_qlr {α : Type} (K : Nat → Option α) : Option Value → Option α
  | some (.ref x) => K x
  | _ => none
def br_q {α : Type} (g : Bool) (x : Option α) : Option α := bif g then x else none
theorem br_q_inv {α : Type} {g : Bool} {x : Option α} {r : α} (h : br_q g x = some r) : g = true ∧ x = some r := by
  cases g with
  | true => exact ⟨rfl, h⟩
  | false => cases h
theorem br_qi_inv {α : Type} {K : Int32 → List Value → Option α} {st : List Value} {r : α} (h : br_qi K st = some r) : ∃ x t, st = .int x :: t ∧ K x t = some r := by
  unfold br_qi at h; split at h
  · exact ⟨_, _, rfl, h⟩
  · cases h
theorem br_qr_inv {α : Type} {K : Nat → List Value → Option α} {st : List Value} {r : α} (h : br_qr K st = some r) : ∃ x t, st = .ref x :: t ∧ K x t = some r := by
  unfold br_qr at h; split at h
  · exact ⟨_, _, rfl, h⟩
  · cases h
theorem br_qli_inv {α : Type} {K : Int32 → Option α} {o : Option Value} {r : α} (h : br_qli K o = some r) : ∃ x, o = some (.int x) ∧ K x = some r := by
  unfold br_qli at h; split at h
  · exact ⟨_, rfl, h⟩
  · cases h
theorem br_qlr_inv {α : Type} {K : Nat → Option α} {o : Option Value} {r : α} (h : br_qlr K o = some r) : ∃ x, o = some (.ref x) ∧ K x = some r := by
  unfold br_qlr at h; split at h
  · exact ⟨_, rfl, h⟩
  · cases h
def br_ccb (c : Jvm.ClassFile.Cond) (x y : Int32) : Bool := match c with
  | .eq => decide (x = y)
  | .ne => !decide (x = y)
  | .lt => decide (x < y)
  | .ge => decide (y ≤ x)
  | .gt => decide (y < x)
  | .le => decide (x ≤ y)
theorem br_ccb_iff {c : Jvm.ClassFile.Cond} {x y : Int32} : br_ccb c x y = true ↔ br_cc c x y := by
  cases c <;> simp [br_ccb, br_cc]
def br_vin (i : Int32) (n : Nat) : Bool := decide (¬ i < 0) && Nat.blt i.toNatClampNeg n
theorem br_vin_of {i : Int32} {n : Nat} (h : br_vin i n = true) : vp_in i n := by
  simp only [br_vin, Bool.and_eq_true, decide_eq_true_eq] at h
  have h2 : i.toNatClampNeg < n := by simpa using h.2
  rintro (h3 | h3)
  · exact h.1 h3
  · omega
abbrev br_KD : Type := Nat → br_V → List Value → br_dt → Option br_dt
abbrev br_CD : Type := Nat → Nat → List Value → br_dt → Option br_dt
def br_clE (C : br_CD) (K : br_KD) (n : Nat) (ls : br_V) (as rest : List Value) (D : br_dt) (j ml mc ms : Nat) : Option br_dt := match mc with
  | 0 => match C j ml as (br_dB D (0, 0)) with
    | some D1 => K n ls rest (br_dB D1 D.2.2)
    | none => none
  | mc + 1 => br_q (Nat.ble (mc + 1) D.2.2.1 && Nat.ble ms D.2.2.2) (match C j ml as (br_dB D (mc + 1, ms)) with
    | some D1 => K n ls rest (br_dB D1 (D.2.2.1 - (mc + 1), D.2.2.2 - ms))
    | none => none)
def br_ivE (C : br_CD) (K : br_KD) (n : Nat) (ls : br_V) (st : List Value) (D : br_dt) (kd : Nat) : List Nat → Option br_dt
  | j :: na :: ml :: mc :: ms :: ci :: _ => match br_sp na st [] with
    | some (as, rest) => br_q (Nat.ble (br_cat rest) 8) (match kd with
        | 0 => br_clE C K n ls as rest D j ml mc ms
        | _ + 1 => match as with
          | .ref a :: _ => br_q (Nat.ble 8 a && decide ((br_cg D.1 a).1 = (0, ci))) (br_clE C K n ls as rest D j ml mc ms)
          | _ => none)
    | none => none
  | _ => none
def br_e1 (C : br_CD) (K : br_KD) (e : br_E) (ls : br_V) (st : List Value) (D : br_dt) : Option br_dt := match e.2.1 with
  | .aload_n i => br_qlr (fun x => K (e.1 + 1) ls (.ref x :: st) D) (br_ld ls i)
  | .iload_n i => br_qli (fun x => K (e.1 + 1) ls (.int x :: st) D) (br_ld ls i)
  | .istore_n i => br_qi (fun x r => K (e.1 + 1) (br_s1 ls i (.int x)) r D) st
  | .iconst n => K (e.1 + 1) ls (.int (Int32.ofInt n) :: st) D
  | .bipush n => K (e.1 + 2) ls (.int (Int8.ofInt n).toInt32 :: st) D
  | .sipush n => K (e.1 + 3) ls (.int (Int16.ofInt n).toInt32 :: st) D
  | .ldc _ => match e.2.2.2 with
    | 0 :: v :: _ => K (e.1 + 2) ls (.int (Int32.ofNat v) :: st) D
    | _ => none
  | .iadd => br_qi (fun y r => br_qi (fun x r => K (e.1 + 1) ls (.int (x + y) :: r) D) r) st
  | .iinc i n => br_qli (fun x => K (e.1 + 3) (br_s1 ls i (.int (x + Int32.ofInt n))) st D) (br_ld ls i)
  | .if_icmp c _ => match e.2.2.2 with
    | t :: _ => br_qi (fun y r => br_qi (fun x r => bif br_ccb c x y then K t ls r D else K (e.1 + 3) ls r D) r) st
    | _ => none
  | .goto _ => match e.2.2.2 with
    | t :: _ => K t ls st D
    | _ => none
  | .dup => br_qr (fun x r => K (e.1 + 1) ls (.ref x :: .ref x :: r) D) st
  | .getfield _ => match e.2.2.2 with
    | ci :: k :: (_ + 2) :: _ => br_qr (fun a r => br_q (Nat.ble 8 a && decide ((br_cg D.1 a).1 = (0, ci))) (K (e.1 + 3) ls (.ref (br_cval (br_cg D.1 a).2 k) :: r) D)) st
    | _ => none
  | .putfield _ => match e.2.2.2 with
    | ci :: k :: 0 :: _ => br_qi (fun x r => br_qr (fun a r => br_q (Nat.ble 8 a && decide ((br_cg D.1 a).1 = (0, ci))) (K (e.1 + 3) ls r (br_dI D a k x))) r) st
    | ci :: k :: (_ + 2) :: _ => br_qr (fun x r => br_qr (fun a r => br_q (Nat.ble 8 a && Nat.ble 8 x && Nat.blt a (br_ls D) && decide ((br_cg D.1 a).1 = (0, ci)) && Nat.beq (br_cg D.1 a).2.1 0) (K (e.1 + 3) ls r (br_dR D a k x))) r) st
    | _ => none
  | .aaload => br_qi (fun i r => br_qr (fun a r => br_q (Nat.ble 8 a && br_ra (br_cg D.1 a).1.1 && br_vin i (br_cg D.1 a).1.2) (K (e.1 + 1) ls (.ref (br_cval (br_cg D.1 a).2 i.toNatClampNeg) :: r) D)) r) st
  | .arraylength => br_qr (fun a r => br_q (Nat.ble 8 a && br_ar (br_cg D.1 a).1.1) (K (e.1 + 1) ls (.int (Int32.ofNat (br_cg D.1 a).1.2) :: r) D)) st
  | .iastore => br_qi (fun x r => br_qi (fun i r => br_qr (fun a r => br_q (Nat.ble 8 a && Nat.beq (br_cg D.1 a).1.1 1 && br_vin i (br_cg D.1 a).1.2) (K (e.1 + 1) ls r (br_dI D a i.toNatClampNeg x))) r) r) st
  | .aastore => br_qr (fun x r => br_qi (fun i r => br_qr (fun a r => br_q (Nat.ble 8 a && Nat.ble 8 x && Nat.blt a (br_ls D) && (Nat.beq (br_cg D.1 a).1.1 7 && decide ((br_cg D.1 x).1 = (0, 10)) || Nat.beq (br_cg D.1 a).1.1 8 && decide ((br_cg D.1 x).1 = (0, 2))) && br_vin i (br_cg D.1 a).1.2 && Nat.beq (br_cg D.1 a).2.1 0) (K (e.1 + 1) ls r (br_dR D a i.toNatClampNeg x))) r) r) st
  | .new _ => match e.2.2.2 with
    | ci :: nf :: _ => br_q (Nat.ble 1 D.2.2.1 && Nat.ble nf D.2.2.2) (K (e.1 + 3) ls (.ref (br_ls D) :: st) (br_dN D (0, ci) nf))
    | _ => none
  | .newarray _ => match e.2.2.2 with
    | kd :: _ => br_qi (fun n r => br_q (decide (¬ n < 0) && Nat.ble (n.toNatClampNeg * 8) 536870912 && Nat.ble 1 D.2.2.1 && Nat.ble n.toNatClampNeg D.2.2.2) (K (e.1 + 2) ls (.ref (br_ls D) :: r) (br_dN D (kd, n.toNatClampNeg) n.toNatClampNeg))) st
    | _ => none
  | .anewarray _ => match e.2.2.2 with
    | kd :: _ => br_qi (fun n r => br_q (decide (¬ n < 0) && Nat.ble (n.toNatClampNeg * 8) 536870912 && Nat.ble 1 D.2.2.1 && Nat.ble n.toNatClampNeg D.2.2.2) (K (e.1 + 3) ls (.ref (br_ls D) :: r) (br_dN D (kd, n.toNatClampNeg) n.toNatClampNeg))) st
    | _ => none
  | .multianewarray _ _ => match e.2.2.2 with
    | ok :: ik :: _ => br_qi (fun k r => br_qi (fun n r => br_q (decide (¬ n < 0) && decide (¬ k < 0) && Nat.ble (n.toNatClampNeg * 8) 536870912 && Nat.ble (k.toNatClampNeg * 8) 536870912 && Nat.ble (1 + n.toNatClampNeg) D.2.2.1 && Nat.ble (n.toNatClampNeg + n.toNatClampNeg * k.toNatClampNeg) D.2.2.2)
        (K (e.1 + 4) ls (.ref (br_ls D) :: r) (br_dM D ok ik n.toNatClampNeg k.toNatClampNeg))) r) st
    | _ => none
  | .invokestatic _ => match e.2.2.2 with
    | 0 :: r => br_ivE C K (e.1 + 3) ls st D 0 r
    | _ => none
  | .invokevirtual _ => br_ivE C K (e.1 + 3) ls st D 1 e.2.2.2
  | .invokespecial _ => match e.2.2.2 with
    | 3 :: _ => br_q (Nat.ble (br_cat st) 8) (br_qr (fun a r => br_q (Nat.ble 8 a) (K (e.1 + 3) ls r D)) st)
    | 2 :: r => br_ivE C K (e.1 + 3) ls st D 1 r
    | _ => none
  | .return_ => match st with
    | [] => some D
    | _ => none
  | _ => none
section BRE1
variable {oS : Nat → Nat × Nat} {oR : Nat → Nat → Nat} {I0 : Nat → Nat → Int32} {L0 : Nat → Nat → Int64}
theorem br_hd_sh {D : br_dt} {a : Nat} (h8 : 8 ≤ a) : br_sh (br_hd oS oR I0 L0 D) a = (br_cg D.1 a).1 := by
  show br_shc oS D.1 a = _
  unfold br_shc
  rw [if_neg (by omega)]
theorem br_hd_rr {D : br_dt} {a k : Nat} (h8 : 8 ≤ a) : br_R (br_hd oS oR I0 L0 D) a k = br_cval (br_cg D.1 a).2 k := by
  show br_rc oR D.1 a k = _
  unfold br_rc
  rw [if_neg (by omega)]
variable {C : br_CD} {K : br_KD} {C' : br_C} {K' : br_K} {Q : br_Q} {r : br_dt}
theorem br_clE_ok (hK : ∀ n ls st D, K n ls st D = some r → K' n ls st (br_hd oS oR I0 L0 D)) (hC : ∀ j ml as D D1 (Q' : br_Q), C j ml as D = some D1 → Q' none (br_hd oS oR I0 L0 D1) → C' j ml as (br_hd oS oR I0 L0 D) Q') {n : Nat} {ls : br_V} {as rest : List Value} {D : br_dt} {j ml mc ms : Nat} (h : br_clE C K n ls as rest D j ml mc ms = some r) :
    br_cl C' K' n ls as rest (br_hd oS oR I0 L0 D) j ml mc ms := by
  unfold br_clE at h
  unfold br_cl
  cases mc with
  | zero =>
    dsimp only at h ⊢
    split at h
    · next D1 hD1 =>
      exact hC _ _ _ (br_dB D (0, 0)) D1 _ hD1 (hK _ _ _ (br_dB D1 D.2.2) h)
    · cases h
  | succ mc =>
    dsimp only at h ⊢
    obtain ⟨g, h⟩ := br_q_inv h
    simp only [Bool.and_eq_true, Nat.ble_eq] at g
    refine ⟨g.1, g.2, ?_⟩
    split at h
    · next D1 hD1 =>
      exact hC _ _ _ (br_dB D (mc + 1, ms)) D1 _ hD1 (hK _ _ _ (br_dB D1 _) h)
    · cases h
theorem br_ivE_ok (hK : ∀ n ls st D, K n ls st D = some r → K' n ls st (br_hd oS oR I0 L0 D)) (hC : ∀ j ml as D D1 (Q' : br_Q), C j ml as D = some D1 → Q' none (br_hd oS oR I0 L0 D1) → C' j ml as (br_hd oS oR I0 L0 D) Q') {n : Nat} {ls : br_V} {st : List Value} {D : br_dt} {kd : Nat} {l : List Nat} (h : br_ivE C K n ls st D kd l = some r) :
    br_iv C' K' n ls st (br_hd oS oR I0 L0 D) kd l := by
  unfold br_ivE at h
  unfold br_iv
  split at h
  · next j na ml mc ms ci tl =>
    dsimp only at h ⊢
    split at h
    · next as rest hsp =>
      rw [hsp]
      dsimp only at h ⊢
      obtain ⟨g, h⟩ := br_q_inv h
      rw [g]
      dsimp only
      cases kd with
      | zero => exact br_clE_ok hK hC h
      | succ kd =>
        dsimp only at h ⊢
        split at h
        · next a tl2 =>
          obtain ⟨g2, h⟩ := br_q_inv h
          simp only [Bool.and_eq_true, Nat.ble_eq, decide_eq_true_eq] at g2
          exact ⟨by rw [br_hd_sh g2.1]; exact g2.2, br_clE_ok hK hC h⟩
        · cases h
    · cases h
  · cases h
set_option maxHeartbeats 4000000 in
theorem br_e1_ok (hK : ∀ n ls st D, K n ls st D = some r → K' n ls st (br_hd oS oR I0 L0 D)) (hC : ∀ j ml as D D1 (Q' : br_Q), C j ml as D = some D1 → Q' none (br_hd oS oR I0 L0 D1) → C' j ml as (br_hd oS oR I0 L0 D) Q') (hQ : Q none (br_hd oS oR I0 L0 r)) {pc : Nat} {ins : Instr} {len : Nat} {rs : List Nat} {ls : br_V} {st : List Value} {D : br_dt}
    (h : br_e1 C K (pc, ins, len, rs) ls st D = some r) : br_st C' K' Q (pc, ins, len, rs) ls st (br_hd oS oR I0 L0 D) := by
  unfold br_e1 at h
  dsimp only at h
  unfold br_st
  dsimp only
  split at h
  · obtain ⟨x, hx, h⟩ := br_qlr_inv h
    dsimp only; rw [hx]
    exact hK _ _ _ _ h
  · obtain ⟨x, hx, h⟩ := br_qli_inv h
    dsimp only; rw [hx]
    exact hK _ _ _ _ h
  · have q := br_qi_inv h; clear h; obtain ⟨x, t, rfl, h⟩ := q
    exact hK _ _ _ _ h
  · exact hK _ _ _ _ h
  · exact hK _ _ _ _ h
  · exact hK _ _ _ _ h
  · dsimp only; split at h
    · exact hK _ _ _ _ h
    · cases h
  · have q := br_qi_inv h; clear h; obtain ⟨y, t, rfl, h⟩ := q
    have q := br_qi_inv h; clear h; obtain ⟨x, t, rfl, h⟩ := q
    exact hK _ _ _ _ h
  · obtain ⟨x, hx, h⟩ := br_qli_inv h
    dsimp only; rw [hx]
    exact hK _ _ _ _ h
  · dsimp only; split at h
    · have q := br_qi_inv h; clear h; obtain ⟨y, t, rfl, h⟩ := q
      have q := br_qi_inv h; clear h; obtain ⟨x, t, rfl, h⟩ := q
      refine ⟨fun g => ?_, fun g => ?_⟩
      · rw [br_ccb_iff.mpr g] at h
        exact hK _ _ _ _ h
      · rw [Bool.eq_false_iff.mpr (fun g2 => g (br_ccb_iff.mp g2))] at h
        exact hK _ _ _ _ h
    · cases h
  · dsimp only; split at h
    · exact hK _ _ _ _ h
    · cases h
  · have q := br_qr_inv h; clear h; obtain ⟨x, t, rfl, h⟩ := q
    exact hK _ _ _ _ h
  · dsimp only; split at h
    · have q := br_qr_inv h; clear h; obtain ⟨a, t, rfl, h⟩ := q
      obtain ⟨g, h⟩ := br_q_inv h
      simp only [Bool.and_eq_true, Nat.ble_eq, decide_eq_true_eq] at g
      refine ⟨by rw [br_hd_sh g.1]; exact g.2, ?_⟩
      have := hK _ _ _ _ h
      rw [← br_hd_rr (oS := oS) (oR := oR) (I0 := I0) (L0 := L0) g.1] at this
      exact this
    · cases h
  · dsimp only; split at h
    · have q := br_qi_inv h; clear h; obtain ⟨x, t, rfl, h⟩ := q
      have q := br_qr_inv h; clear h; obtain ⟨a, t, rfl, h⟩ := q
      obtain ⟨g, h⟩ := br_q_inv h
      simp only [Bool.and_eq_true, Nat.ble_eq, decide_eq_true_eq] at g
      exact ⟨by rw [br_hd_sh g.1]; exact g.2, hK _ _ _ _ h⟩
    · have q := br_qr_inv h; clear h; obtain ⟨x, t, rfl, h⟩ := q
      have q := br_qr_inv h; clear h; obtain ⟨a, t, rfl, h⟩ := q
      obtain ⟨g, h⟩ := br_q_inv h
      simp only [Bool.and_eq_true, Nat.ble_eq, Nat.blt_eq, Nat.beq_eq, decide_eq_true_eq] at g
      obtain ⟨⟨⟨⟨g1, g2⟩, g3⟩, g4⟩, g5⟩ := g
      refine ⟨by rw [br_hd_sh g1]; exact g4, g2, ?_⟩
      have := hK _ _ _ _ h
      rw [br_hd_R g1 g3 g5] at this
      exact this
    · cases h
  · have q := br_qi_inv h; clear h; obtain ⟨i, t, rfl, h⟩ := q
    have q := br_qr_inv h; clear h; obtain ⟨a, t, rfl, h⟩ := q
    obtain ⟨g, h⟩ := br_q_inv h
    simp only [Bool.and_eq_true, Nat.ble_eq] at g
    obtain ⟨⟨g1, g2⟩, g3⟩ := g
    refine ⟨by rw [br_hd_sh g1]; exact g2, by rw [br_hd_sh g1]; exact br_vin_of g3, ?_⟩
    have := hK _ _ _ _ h
    rw [← br_hd_rr (oS := oS) (oR := oR) (I0 := I0) (L0 := L0) g1] at this
    exact this
  · have q := br_qr_inv h; clear h; obtain ⟨a, t, rfl, h⟩ := q
    obtain ⟨g, h⟩ := br_q_inv h
    simp only [Bool.and_eq_true, Nat.ble_eq] at g
    refine ⟨by rw [br_hd_sh g.1]; exact g.2, ?_⟩
    have := hK _ _ _ _ h
    rw [← br_hd_sh (oS := oS) (oR := oR) (I0 := I0) (L0 := L0) g.1] at this
    exact this
  · have q := br_qi_inv h; clear h; obtain ⟨x, t, rfl, h⟩ := q
    have q := br_qi_inv h; clear h; obtain ⟨i, t, rfl, h⟩ := q
    have q := br_qr_inv h; clear h; obtain ⟨a, t, rfl, h⟩ := q
    obtain ⟨g, h⟩ := br_q_inv h
    simp only [Bool.and_eq_true, Nat.ble_eq, Nat.beq_eq] at g
    obtain ⟨⟨g1, g2⟩, g3⟩ := g
    exact ⟨by rw [br_hd_sh g1]; exact g2, g1, by rw [br_hd_sh g1]; exact br_vin_of g3, hK _ _ _ _ h⟩
  · have q := br_qr_inv h; clear h; obtain ⟨x, t, rfl, h⟩ := q
    have q := br_qi_inv h; clear h; obtain ⟨i, t, rfl, h⟩ := q
    have q := br_qr_inv h; clear h; obtain ⟨a, t, rfl, h⟩ := q
    obtain ⟨g, h⟩ := br_q_inv h
    simp only [Bool.and_eq_true, Bool.or_eq_true, Nat.ble_eq, Nat.blt_eq, Nat.beq_eq, decide_eq_true_eq] at g
    obtain ⟨⟨⟨⟨⟨g1, g2⟩, g3⟩, g4⟩, g5⟩, g6⟩ := g
    refine ⟨g1, by rw [br_hd_sh g1]; exact br_vin_of g5, ?_, ?_⟩
    · rw [br_hd_sh g1, br_hd_sh g2]; exact g4
    · have := hK _ _ _ _ h
      rw [br_hd_R g1 g3 g6] at this
      exact this
  · dsimp only; split at h
    · obtain ⟨g, h⟩ := br_q_inv h
      simp only [Bool.and_eq_true, Nat.ble_eq] at g
      have := hK _ _ _ _ h
      rw [br_hd_N] at this
      exact ⟨g.1, g.2, this⟩
    · cases h
  · dsimp only; split at h
    · have q := br_qi_inv h; clear h; obtain ⟨n, t, rfl, h⟩ := q
      obtain ⟨g, h⟩ := br_q_inv h
      simp only [Bool.and_eq_true, Nat.ble_eq, decide_eq_true_eq] at g
      have := hK _ _ _ _ h
      rw [br_hd_N] at this
      exact ⟨g.1.1.1, g.1.1.2, g.1.2, g.2, this⟩
    · cases h
  · dsimp only; split at h
    · have q := br_qi_inv h; clear h; obtain ⟨n, t, rfl, h⟩ := q
      obtain ⟨g, h⟩ := br_q_inv h
      simp only [Bool.and_eq_true, Nat.ble_eq, decide_eq_true_eq] at g
      have := hK _ _ _ _ h
      rw [br_hd_N] at this
      exact ⟨g.1.1.1, g.1.1.2, g.1.2, g.2, this⟩
    · cases h
  · dsimp only; split at h
    · have q := br_qi_inv h; clear h; obtain ⟨k, t, rfl, h⟩ := q
      have q := br_qi_inv h; clear h; obtain ⟨n, t, rfl, h⟩ := q
      obtain ⟨g, h⟩ := br_q_inv h
      simp only [Bool.and_eq_true, Nat.ble_eq, decide_eq_true_eq] at g
      have := hK _ _ _ _ h
      rw [br_hd_M] at this
      exact ⟨g.1.1.1.1.1, g.1.1.1.1.2, g.1.1.1.2, g.1.1.2, g.1.2, g.2, this⟩
    · cases h
  · dsimp only; split at h
    · exact br_ivE_ok hK hC h
    · cases h
  · exact br_ivE_ok hK hC h
  · dsimp only; split at h
    · obtain ⟨g, h1⟩ := br_q_inv h
      rw [g]
      obtain ⟨a, t, rfl, h2⟩ := br_qr_inv h1
      obtain ⟨g2, h3⟩ := br_q_inv h2
      exact ⟨by simpa using g2, hK _ _ _ _ h3⟩
    · exact br_ivE_ok hK hC h
    · cases h
  · dsimp only; split at h
    · cases h
      exact ⟨rfl, hQ⟩
    · cases h
  · cases h
end BRE1
/-! Arrays.fill of ints -/
def br_hF (h : br_H) (a n : Nat) (x : Int32) : br_H := (h.1, h.2.1, h.2.2.1, br_fl h.2.2.2.1 a n x, h.2.2.2.2.1, h.2.2.2.2.2)
theorem br_fl_1 {f : Nat → Nat → Int32} {a n : Nat} {x : Int32} : br_u (br_fl f a n x) a n x = br_fl f a (n + 1) x := by
  funext p j
  unfold br_u br_fl
  by_cases h : p = a
  · by_cases h2 : j = n
    · rw [if_pos ⟨h, h2⟩, if_pos ⟨h, by omega⟩]
    · rw [if_neg (fun q => h2 q.2)]
      by_cases h3 : j < n
      · rw [if_pos ⟨h, h3⟩, if_pos ⟨h, by omega⟩]
      · rw [if_neg (fun q => h3 q.2), if_neg (fun q => by have := q.2; omega)]
  · rw [if_neg (fun q => h q.1), if_neg (fun q => h q.1), if_neg (fun q => h q.1)]
theorem br_fl_0 {f : Nat → Nat → Int32} {a : Nat} {x : Int32} : br_fl f a 0 x = f := by
  funext p j
  unfold br_fl
  rw [if_neg (fun q => by have := q.2; omega)]
theorem br_fill_5 {d a : Nat} {x i n : Int32} {h : br_H} {Q : br_Q} (H : ((n ≤ i) → (([] : List Value) = [] ∧ Q none h)) ∧ ((¬ n ≤ i) → ((br_sh h a).1 = 1 ∧ 8 ≤ a ∧ vp_in i (br_sh h a).2 ∧ br_run br_cd d 5 5 [some (.ref a), some (.int x), some (.int (i + Int32.ofInt 1)), some (.int n)] [] (br_wI h a i.toNatClampNeg x) Q))) :
    br_run br_cd d 5 5 [some (.ref a), some (.int x), some (.int i), some (.int n)] [] h Q := br_run_blk [5] 12 H
theorem br_fill_0 {d a : Nat} {x : Int32} {h : br_H} {Q : br_Q} (H : br_ar (br_sh h a).1 = true ∧ br_run br_cd d 5 5 [some (.ref a), some (.int x), some (.int (Int32.ofInt 0)), some (.int (Int32.ofNat (br_sh h a).2))] [] h Q) :
    br_run br_cd d 5 0 [some (.ref a), some (.int x), none, none] [] h Q := br_run_blk [5] 12 H
theorem br_fill_l {d a n : Nat} {x : Int32} {h : br_H} {Q : br_Q} (h8 : 8 ≤ a) (hs : br_sh h a = (1, n)) (hn : n < 2 ^ 31) (hQ : Q none (br_hF h a n x)) : ∀ m k, k + m = n →
    br_run br_cd d 5 5 [some (.ref a), some (.int x), some (.int (nI k)), some (.int (nI n))] [] (br_hF h a k x) Q := by
  intro m
  induction m with
  | zero =>
    intro k hk
    obtain rfl : k = n := by omega
    exact br_fill_5 ⟨fun _ => ⟨rfl, hQ⟩, fun z => absurd (nI_le (Nat.le_refl k) hn) z⟩
  | succ m ih =>
    intro k hk
    refine br_fill_5 ⟨fun z => ?_, fun z => ⟨?_, h8, ?_, ?_⟩⟩
    · have := (nI_leI hn (by omega)).mp z
      omega
    · show (br_sh h a).1 = 1
      rw [hs]
    · show vp_in (nI k) (br_sh h a).2
      rw [hs]
      exact vp_in_nI (by omega) hn
    · have e1 : nI k + Int32.ofInt 1 = nI (k + 1) := nI_1 k
      have e2 : (nI k).toNatClampNeg = k := nI_clamp (by omega)
      rw [e1, e2]
      have e3 : br_wI (br_hF h a k x) a k x = br_hF h a (k + 1) x := by
        show (h.1, h.2.1, h.2.2.1, br_u (br_fl h.2.2.2.1 a k x) a k x, h.2.2.2.2.1, h.2.2.2.2.2) = _
        rw [br_fl_1]; rfl
      rw [e3]
      exact ih (k + 1) (by omega)
theorem br_fill {d a n : Nat} {x : Int32} {h : br_H} {Q : br_Q} (h8 : 8 ≤ a) (hs : br_sh h a = (1, n)) (hn : n < 2 ^ 31) (hQ : Q none (br_hF h a n x)) : br_run br_cd d 5 0 [some (.ref a), some (.int x), none, none] [] h Q := by
  refine br_fill_0 ⟨by rw [hs]; rfl, ?_⟩
  have := br_fill_l (d := d) h8 hs hn hQ n 0 (by omega)
  have e : br_hF h a 0 x = h := by unfold br_hF; rw [br_fl_0]
  rw [e] at this
  rw [hs]
  exact this
/-! all steps -/
def br_f2 {α : Type} : List (Nat × α) → Nat → Option (Nat × α)
  | [], _ => none
  | (k, v) :: t, n => bif Nat.beq k n then some (k, v) else br_f2 t n
theorem br_f2_of {α : Type} : ∀ (l : List (Nat × α)) (n k : Nat) (v : α), br_f2 l n = some (k, v) → k = n ∧ br_find l n = some v
  | [], n, k, v, h => by cases h
  | (a, w) :: t, n, k, v, h => by
    unfold br_f2 at h
    unfold br_find
    cases hb : Nat.beq a n with
    | true =>
      rw [hb] at h
      cases h
      exact ⟨Nat.eq_of_beq_eq_true hb, rfl⟩
    | false =>
      rw [hb] at h
      exact br_f2_of t n k v h
def br_fil (as : List Value) (D : br_dt) : Option br_dt := match as with
  | .ref a :: .int x :: [] => br_q (Nat.ble 8 a && Nat.beq (br_cg D.1 a).1.1 1 && Nat.blt (br_cg D.1 a).1.2 2147483648) (some (br_dF D a (br_cg D.1 a).1.2 x))
  | _ => none
def br_ev : Nat → Nat → Nat → Nat → br_V → List Value → br_dt → Option br_dt
  | 0, _, _, _, _, _, _ => none
  | f + 1, d, j, pc, ls, st, D => match br_f2 (br_code j) pc with
    | none => none
    | some e => br_e1 (fun j' ml as D => match d with
        | 0 => none
        | d' + 1 => br_q (Nat.ble (br_arg as).length ml) (bif Nat.beq j' 5 then br_q (Nat.beq ml 4) (br_fil as D) else br_ev f d' j' 0 (br_ent ml as) [] D)) (fun n ls st D => br_ev f d j n ls st D) e ls st D
theorem br_ev_ok {oS : Nat → Nat × Nat} {oR : Nat → Nat → Nat} {I0 : Nat → Nat → Int32} {L0 : Nat → Nat → Int64} : ∀ (f d j pc : Nat) (ls : br_V) (st : List Value) (D r : br_dt) (Q : br_Q), br_ev f d j pc ls st D = some r → Q none (br_hd oS oR I0 L0 r) → br_run br_cd d j pc ls st (br_hd oS oR I0 L0 D) Q
  | 0, _, _, _, _, _, _, _, _, h, _ => by cases h
  | f + 1, d, j, pc, ls, st, D, r, Q, h, hQ => by
    unfold br_ev at h
    refine br_run_step ?_
    unfold br_stp
    split at h
    · cases h
    · next _ e he =>
      obtain ⟨k, ins, len, rs⟩ := e
      obtain ⟨hk0, hf⟩ := br_f2_of _ _ _ _ he
      subst hk0
      rw [show br_cd j k = some (ins, len, rs) from hf]
      refine br_e1_ok (r := r) (fun n ls st D hk => br_ev_ok f d j n ls st D r Q hk hQ) (fun j' ml as D1 D2 Q' hc hq => ?_) hQ h
      unfold br_call
      cases d with
      | zero => cases hc
      | succ d' =>
        dsimp only at hc ⊢
        obtain ⟨g, hc1⟩ := br_q_inv hc
        rw [g]
        dsimp only
        cases hj : Nat.beq j' 5 with
        | false =>
          rw [hj] at hc1
          exact br_ev_ok f d' j' 0 _ _ D1 D2 Q' hc1 hq
        | true =>
          rw [hj] at hc1
          obtain rfl : j' = 5 := Nat.eq_of_beq_eq_true hj
          obtain ⟨g2, hc2⟩ := br_q_inv hc1
          obtain rfl : ml = 4 := Nat.eq_of_beq_eq_true g2
          unfold br_fil at hc2
          split at hc2
          · next a x =>
            obtain ⟨g3, hc3⟩ := br_q_inv hc2
            simp only [Bool.and_eq_true, Nat.ble_eq, Nat.beq_eq, Nat.blt_eq] at g3
            obtain ⟨⟨g4, g5⟩, g6⟩ := g3
            cases hc3
            refine br_fill (n := (br_cg D1.1 a).1.2) g4 ?_ g6 hq
            rw [br_hd_sh g4, ← g5]
          · cases hc2
