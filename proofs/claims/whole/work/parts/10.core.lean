/-! THE ABSTRACT MACHINE. A world is: how many places are made; of each place its kind and number; what each holds: references (places; 0 is null), ints, longs; what may still be made in this call. -/
abbrev br_V : Type := List (Option Value)
abbrev br_H : Type := Nat × (Nat → Nat × Nat) × (Nat → Nat → Nat) × (Nat → Nat → Int32) × (Nat → Nat → Int64) × (Nat × Nat)
abbrev br_Q : Type := Option Value → br_H → Prop
abbrev br_E : Type := Nat × Instr × Nat × List Nat
abbrev br_N (h : br_H) : Nat := h.1
abbrev br_sh (h : br_H) : Nat → Nat × Nat := h.2.1
abbrev br_R (h : br_H) : Nat → Nat → Nat := h.2.2.1
abbrev br_I (h : br_H) : Nat → Nat → Int32 := h.2.2.2.1
abbrev br_L (h : br_H) : Nat → Nat → Int64 := h.2.2.2.2.1
abbrev br_B (h : br_H) : Nat × Nat := h.2.2.2.2.2
abbrev br_setB (h : br_H) (b : Nat × Nat) : br_H := (h.1, h.2.1, h.2.2.1, h.2.2.2.1, h.2.2.2.2.1, b)
def br_u {α : Type} (f : Nat → Nat → α) (a k : Nat) (x : α) : Nat → Nat → α := fun p j => if p = a ∧ j = k then x else f p j
abbrev br_wR (h : br_H) (a k : Nat) (x : Nat) : br_H := (h.1, h.2.1, br_u h.2.2.1 a k x, h.2.2.2.1, h.2.2.2.2.1, h.2.2.2.2.2)
abbrev br_wI (h : br_H) (a k : Nat) (x : Int32) : br_H := (h.1, h.2.1, h.2.2.1, br_u h.2.2.2.1 a k x, h.2.2.2.2.1, h.2.2.2.2.2)
abbrev br_wL (h : br_H) (a k : Nat) (x : Int64) : br_H := (h.1, h.2.1, h.2.2.1, h.2.2.2.1, br_u h.2.2.2.2.1 a k x, h.2.2.2.2.2)
/-- n elements of a from sp on go to b from dp on -/
def br_cp {α : Type} (f : Nat → Nat → α) (a b sp dp n : Nat) : Nat → Nat → α := fun p j => if p = b ∧ (dp ≤ j ∧ j < dp + n) then f a (sp + (j - dp)) else f p j
abbrev br_cpI (h : br_H) (a b sp dp n : Nat) : br_H := (h.1, h.2.1, h.2.2.1, br_cp h.2.2.2.1 a b sp dp n, h.2.2.2.2.1, h.2.2.2.2.2)
abbrev br_cpL (h : br_H) (a b sp dp n : Nat) : br_H := (h.1, h.2.1, h.2.2.1, h.2.2.2.1, br_cp h.2.2.2.2.1 a b sp dp n, h.2.2.2.2.2)
/-- f, but x at all that the place a holds -/
def br_z {α : Type} (f : Nat → Nat → α) (a : Nat) (x : α) : Nat → Nat → α := fun p j => if p = a then x else f p j
/-- f, but x at all that the places from a to b, b not with them, hold -/
def br_zz {α : Type} (f : Nat → Nat → α) (a b : Nat) (x : α) : Nat → Nat → α := fun p j => if a ≤ p ∧ p < b then x else f p j
/-- a new place of a kind -/
def br_new (h : br_H) (q : Nat × Nat) (ms : Nat) : br_H := (h.1 + 1, fun p => if p = h.1 then q else h.2.1 p, br_z h.2.2.1 h.1 0, br_z h.2.2.2.1 h.1 0, br_z h.2.2.2.2.1 h.1 0, (h.2.2.2.2.2.1 - 1, h.2.2.2.2.2.2 - ms))
/-- a new place of references to n new ones -/
def br_newM (h : br_H) (ok ik n k : Nat) : br_H := (h.1 + 1 + n, fun p => if p = h.1 then (ok, n) else if h.1 < p ∧ p < h.1 + 1 + n then (ik, k) else h.2.1 p,
  fun p j => if p = h.1 then h.1 + 1 + j else if h.1 < p ∧ p < h.1 + 1 + n then 0 else h.2.2.1 p j, br_zz h.2.2.2.1 h.1 (h.1 + 1 + n) 0, br_zz h.2.2.2.2.1 h.1 (h.1 + 1 + n) 0, (h.2.2.2.2.2.1 - (1 + n), h.2.2.2.2.2.2 - (n + n * k)))
def br_kl : Option Value → Option Value
  | some (.long _) => none
  | some (.double _) => none
  | x => x
def br_ld : br_V → Nat → Option Value
  | [], _ => none
  | a :: _, 0 => a
  | _ :: t, n + 1 => br_ld t n
def br_s1 : br_V → Nat → Value → br_V
  | [], _, _ => []
  | _ :: t, 0, v => some v :: t
  | a :: t, 1, v => br_kl a :: br_s1 t 0 v
  | a :: t, n + 2, v => a :: br_s1 t (n + 1) v
def br_n1 : br_V → Nat → br_V
  | [], _ => []
  | _ :: t, 0 => none :: t
  | a :: t, n + 1 => a :: br_n1 t n
def br_s2 (ls : br_V) (i : Nat) (v : Value) : br_V := br_n1 (br_s1 ls i v) (i + 1)
def br_arg : List Value → br_V
  | [] => []
  | .long x :: t => some (.long x) :: none :: br_arg t
  | .double x :: t => some (.double x) :: none :: br_arg t
  | v :: t => some v :: br_arg t
def br_pad : Nat → br_V → br_V
  | 0, l => l
  | n + 1, [] => none :: br_pad n []
  | n + 1, a :: t => a :: br_pad n t
def br_ent (ml : Nat) (as : List Value) : br_V := br_pad ml (br_arg as)
def br_cc (c : Jvm.ClassFile.Cond) (x y : Int32) : Prop := match c with
  | .eq => x = y
  | .ne => ¬ x = y
  | .lt => x < y
  | .ge => y ≤ x
  | .gt => y < x
  | .le => x ≤ y
def br_sw (x : Int32) (K : Nat → Prop) (d : Nat) : List Nat → Prop
  | v :: t :: r => (x = Int32.ofNat v → K t) ∧ (¬ x = Int32.ofNat v → br_sw x K d r)
  | _ => K d
def br_fv (h : br_H) (ty a k : Nat) : Value := match ty with
  | 0 => .int (br_I h a k)
  | 1 => .long (br_L h a k)
  | _ => .ref (br_R h a k)
def br_li (o : Option Value) (K : Int32 → Prop) : Prop := match o with
  | some (.int x) => K x
  | _ => False
def br_ll (o : Option Value) (K : Int64 → Prop) : Prop := match o with
  | some (.long x) => K x
  | _ => False
def br_lr (o : Option Value) (K : Nat → Prop) : Prop := match o with
  | some (.ref x) => K x
  | _ => False
def br_pi (K : Int32 → List Value → Prop) : List Value → Prop
  | .int x :: r => K x r
  | _ => False
def br_pl (K : Int64 → List Value → Prop) : List Value → Prop
  | .long x :: r => K x r
  | _ => False
def br_pr (K : Nat → List Value → Prop) : List Value → Prop
  | .ref x :: r => K x r
  | _ => False
/-- two ints, the upper one second -/
def br_pii (K : Int32 → Int32 → List Value → Prop) (st : List Value) : Prop := br_pi (fun y r => br_pi (fun x r => K x y r) r) st
def br_pll (K : Int64 → Int64 → List Value → Prop) (st : List Value) : Prop := br_pl (fun y r => br_pl (fun x r => K x y r) r) st
def br_pri (K : Nat → Int32 → List Value → Prop) (st : List Value) : Prop := br_pi (fun i r => br_pr (fun a r => K a i r) r) st
def br_cat : List Value → Nat
  | [] => 0
  | v :: t => v.category + br_cat t
def br_sp : Nat → List Value → List Value → Option (List Value × List Value)
  | 0, st, acc => some (acc, st)
  | _ + 1, [], _ => none
  | k + 1, v :: t, acc => br_sp k t (v :: acc)
def br_ra (k : Nat) : Bool := k == 5 || k == 6 || k == 7 || k == 8
def br_ar (k : Nat) : Bool := k == 1 || k == 2 || k == 3 || k == 4 || k == 5 || k == 6 || k == 7 || k == 8
abbrev br_C : Type := Nat → Nat → List Value → br_H → br_Q → Prop
abbrev br_K : Type := Nat → br_V → List Value → br_H → Prop
/-- a call: what the callee may make is set, and taken off behind it -/
def br_cl (C : br_C) (K : br_K) (n : Nat) (ls : br_V) (as rest : List Value) (h : br_H) (j ml mc ms : Nat) : Prop := match mc with
  | 0 => C j ml as (br_setB h (0, 0)) (fun v h' => K n ls (v.toList ++ rest) (br_setB h' h.2.2.2.2.2))
  | mc + 1 => mc + 1 ≤ h.2.2.2.2.2.1 ∧ ms ≤ h.2.2.2.2.2.2 ∧ C j ml as (br_setB h (mc + 1, ms)) (fun v h' => K n ls (v.toList ++ rest) (br_setB h' (h.2.2.2.2.2.1 - (mc + 1), h.2.2.2.2.2.2 - ms)))
def br_iv (C : br_C) (K : br_K) (n : Nat) (ls : br_V) (st : List Value) (h : br_H) (kd : Nat) : List Nat → Prop
  | j :: na :: ml :: mc :: ms :: ci :: _ => match br_sp na st [] with
    | some (as, rest) => match Nat.ble (br_cat rest) 8 with
      | true => match kd with
        | 0 => br_cl C K n ls as rest h j ml mc ms
        | _ + 1 => match as with
          | .ref a :: _ => br_sh h a = (0, ci) ∧ br_cl C K n ls as rest h j ml mc ms
          | _ => False
      | false => False
    | none => False
  | _ => False
/-- System.arraycopy -/
def br_ac (K : br_K) (n : Nat) (ls : br_V) (st : List Value) (h : br_H) : Prop := match st with
  | .int k :: .int dp :: .ref b :: .int sp :: .ref a :: r => 8 ≤ a ∧ 8 ≤ b ∧ ¬ sp < 0 ∧ ¬ dp < 0 ∧ ¬ k < 0 ∧ sp.toNatClampNeg + k.toNatClampNeg ≤ (br_sh h a).2 ∧ dp.toNatClampNeg + k.toNatClampNeg ≤ (br_sh h b).2 ∧ br_cat r ≤ 8 ∧
      ((((br_sh h a).1 = 1 ∧ (br_sh h b).1 = 1 ∨ (br_sh h a).1 = 3 ∧ (br_sh h b).1 = 3) ∧ K n ls r (br_cpI h a b sp.toNatClampNeg dp.toNatClampNeg k.toNatClampNeg)) ∨
       (((br_sh h a).1 = 2 ∧ (br_sh h b).1 = 2) ∧ K n ls r (br_cpL h a b sp.toNatClampNeg dp.toNatClampNeg k.toNatClampNeg)))
  | _ => False
def br_ret (Q : br_Q) (h : br_H) (st : List Value) : Nat → Prop
  | 0 => br_pi (fun x r => r = [] ∧ Q (some (.int x)) h) st
  | 1 => br_pi (fun x r => r = [] ∧ (x = 0 ∨ x = 1) ∧ Q (some (.int x)) h) st
  | 2 => br_pi (fun x r => r = [] ∧ vp_nar .byte x = x ∧ Q (some (.int x)) h) st
  | _ => br_pi (fun x r => r = [] ∧ vp_nar .char x = x ∧ Q (some (.int x)) h) st
def br_st (C : br_C) (K : br_K) (Q : br_Q) (e : br_E) (ls : br_V) (st : List Value) (h : br_H) : Prop :=
  match e.2.1 with
  | .iload i => br_li (br_ld ls i) fun x => K (e.1 + 2) ls (.int x :: st) h
  | .iload_n i => br_li (br_ld ls i) fun x => K (e.1 + 1) ls (.int x :: st) h
  | .lload i => br_ll (br_ld ls i) fun x => K (e.1 + 2) ls (.long x :: st) h
  | .lload_n i => br_ll (br_ld ls i) fun x => K (e.1 + 1) ls (.long x :: st) h
  | .aload i => br_lr (br_ld ls i) fun x => K (e.1 + 2) ls (.ref x :: st) h
  | .aload_n i => br_lr (br_ld ls i) fun x => K (e.1 + 1) ls (.ref x :: st) h
  | .istore i => br_pi (fun x r => K (e.1 + 2) (br_s1 ls i (.int x)) r h) st
  | .istore_n i => br_pi (fun x r => K (e.1 + 1) (br_s1 ls i (.int x)) r h) st
  | .lstore i => br_pl (fun x r => K (e.1 + 2) (br_s2 ls i (.long x)) r h) st
  | .lstore_n i => br_pl (fun x r => K (e.1 + 1) (br_s2 ls i (.long x)) r h) st
  | .astore i => br_pr (fun x r => K (e.1 + 2) (br_s1 ls i (.ref x)) r h) st
  | .astore_n i => br_pr (fun x r => K (e.1 + 1) (br_s1 ls i (.ref x)) r h) st
  | .iconst n => K (e.1 + 1) ls (.int (Int32.ofInt n) :: st) h
  | .lconst n => K (e.1 + 1) ls (.long (Int64.ofNat (n : Nat)) :: st) h
  | .bipush n => K (e.1 + 2) ls (.int (Int8.ofInt n).toInt32 :: st) h
  | .sipush n => K (e.1 + 3) ls (.int (Int16.ofInt n).toInt32 :: st) h
  | .ldc _ => match e.2.2.2 with
    | 0 :: v :: _ => K (e.1 + 2) ls (.int (Int32.ofNat v) :: st) h
    | _ :: q :: _ => K (e.1 + 2) ls (.ref q :: st) h
    | _ => False
  | .ldc_w _ => match e.2.2.2 with
    | v :: _ => K (e.1 + 3) ls (.int (Int32.ofNat v) :: st) h
    | _ => False
  | .ldc2_w _ => match e.2.2.2 with
    | v :: _ => K (e.1 + 3) ls (.long (Int64.ofNat v) :: st) h
    | _ => False
  | .iadd => br_pii (fun x y r => K (e.1 + 1) ls (.int (x + y) :: r) h) st
  | .isub => br_pii (fun x y r => K (e.1 + 1) ls (.int (x - y) :: r) h) st
  | .imul => br_pii (fun x y r => K (e.1 + 1) ls (.int (x * y) :: r) h) st
  | .idiv => br_pii (fun x y r => ¬ y = 0 ∧ K (e.1 + 1) ls (.int (x / y) :: r) h) st
  | .irem => br_pii (fun x y r => ¬ y = 0 ∧ K (e.1 + 1) ls (.int (x - x / y * y) :: r) h) st
  | .ineg => br_pi (fun x r => K (e.1 + 1) ls (.int (-x) :: r) h) st
  | .iand => br_pii (fun x y r => K (e.1 + 1) ls (.int (x &&& y) :: r) h) st
  | .ior => br_pii (fun x y r => K (e.1 + 1) ls (.int (x ||| y) :: r) h) st
  | .ixor => br_pii (fun x y r => K (e.1 + 1) ls (.int (x ^^^ y) :: r) h) st
  | .ishl => br_pii (fun x y r => K (e.1 + 1) ls (.int (x <<< (y &&& 31)) :: r) h) st
  | .ishr => br_pii (fun x y r => K (e.1 + 1) ls (.int (x >>> (y &&& 31)) :: r) h) st
  | .iushr => br_pii (fun x y r => K (e.1 + 1) ls (.int (x.toUInt32 >>> (y.toUInt32 &&& Int32.toUInt32 31)).toInt32 :: r) h) st
  | .ladd => br_pll (fun x y r => K (e.1 + 1) ls (.long (x + y) :: r) h) st
  | .lsub => br_pll (fun x y r => K (e.1 + 1) ls (.long (x - y) :: r) h) st
  | .lmul => br_pll (fun x y r => K (e.1 + 1) ls (.long (x * y) :: r) h) st
  | .ldiv => br_pll (fun x y r => ¬ y = 0 ∧ K (e.1 + 1) ls (.long (x / y) :: r) h) st
  | .lrem => br_pll (fun x y r => ¬ y = 0 ∧ K (e.1 + 1) ls (.long (x - x / y * y) :: r) h) st
  | .lneg => br_pl (fun x r => K (e.1 + 1) ls (.long (-x) :: r) h) st
  | .land => br_pll (fun x y r => K (e.1 + 1) ls (.long (x &&& y) :: r) h) st
  | .lor => br_pll (fun x y r => K (e.1 + 1) ls (.long (x ||| y) :: r) h) st
  | .lxor => br_pll (fun x y r => K (e.1 + 1) ls (.long (x ^^^ y) :: r) h) st
  | .lshl => br_pi (fun y r => br_pl (fun x r => K (e.1 + 1) ls (.long (x <<< (y.toInt64 &&& 63)) :: r) h) r) st
  | .lcmp => br_pll (fun x y r => K (e.1 + 1) ls (.int (lg_cmp x y) :: r) h) st
  | .i2l => br_pi (fun x r => K (e.1 + 1) ls (.long x.toInt64 :: r) h) st
  | .l2i => br_pl (fun x r => K (e.1 + 1) ls (.int x.toInt32 :: r) h) st
  | .i2b => br_pi (fun x r => K (e.1 + 1) ls (.int x.toInt8.toInt32 :: r) h) st
  | .i2s => br_pi (fun x r => K (e.1 + 1) ls (.int x.toInt16.toInt32 :: r) h) st
  | .i2c => br_pi (fun x r => K (e.1 + 1) ls (.int (x.toUInt32 % 65536).toInt32 :: r) h) st
  | .iinc i n => br_li (br_ld ls i) fun x => K (e.1 + 3) (br_s1 ls i (.int (x + Int32.ofInt n))) st h
  | .ifCond c _ => match e.2.2.2 with
    | t :: _ => br_pi (fun x r => (br_cc c x 0 → K t ls r h) ∧ (¬ br_cc c x 0 → K (e.1 + 3) ls r h)) st
    | _ => False
  | .if_icmp c _ => match e.2.2.2 with
    | t :: _ => br_pii (fun x y r => (br_cc c x y → K t ls r h) ∧ (¬ br_cc c x y → K (e.1 + 3) ls r h)) st
    | _ => False
  | .goto _ => match e.2.2.2 with
    | t :: _ => K t ls st h
    | _ => False
  | .tableswitch _ _ _ _ => match e.2.2.2 with
    | d :: r => br_pi (fun x st => br_sw x (fun t => K t ls st h) d r) st
    | _ => False
  | .lookupswitch _ _ => match e.2.2.2 with
    | d :: r => br_pi (fun x st => br_sw x (fun t => K t ls st h) d r) st
    | _ => False
  | .dup => match st with
    | .int x :: r => K (e.1 + 1) ls (.int x :: .int x :: r) h
    | .ref x :: r => K (e.1 + 1) ls (.ref x :: .ref x :: r) h
    | _ => False
  | .dup2 => br_pri (fun a i r => K (e.1 + 1) ls (.int i :: .ref a :: .int i :: .ref a :: r) h) st
  | .pop => br_pi (fun _ r => K (e.1 + 1) ls r h) st
  | .getstatic _ => match e.2.2.2 with
    | 0 :: v :: _ => K (e.1 + 3) ls (.int (Int32.ofNat v) :: st) h
    | _ :: q :: _ => K (e.1 + 3) ls (.ref q :: st) h
    | _ => False
  | .getfield _ => match e.2.2.2 with
    | ci :: k :: ty :: _ => br_pr (fun a r => br_sh h a = (0, ci) ∧ K (e.1 + 3) ls (br_fv h ty a k :: r) h) st
    | _ => False
  | .putfield _ => match e.2.2.2 with
    | ci :: k :: 0 :: _ => br_pi (fun x r => br_pr (fun a r => br_sh h a = (0, ci) ∧ K (e.1 + 3) ls r (br_wI h a k x)) r) st
    | ci :: k :: 1 :: _ => br_pl (fun x r => br_pr (fun a r => br_sh h a = (0, ci) ∧ K (e.1 + 3) ls r (br_wL h a k x)) r) st
    | ci :: k :: _ :: _ => br_pr (fun x r => br_pr (fun a r => br_sh h a = (0, ci) ∧ 8 ≤ x ∧ K (e.1 + 3) ls r (br_wR h a k x)) r) st
    | _ => False
  | .iaload => br_pri (fun a i r => (br_sh h a).1 = 1 ∧ vp_in i (br_sh h a).2 ∧ K (e.1 + 1) ls (.int (br_I h a i.toNatClampNeg) :: r) h) st
  | .baload => br_pri (fun a i r => ((br_sh h a).1 = 3 ∨ (br_sh h a).1 = 4) ∧ vp_in i (br_sh h a).2 ∧ K (e.1 + 1) ls (.int (br_I h a i.toNatClampNeg) :: r) h) st
  | .laload => br_pri (fun a i r => (br_sh h a).1 = 2 ∧ vp_in i (br_sh h a).2 ∧ K (e.1 + 1) ls (.long (br_L h a i.toNatClampNeg) :: r) h) st
  | .aaload => br_pri (fun a i r => br_ra (br_sh h a).1 = true ∧ vp_in i (br_sh h a).2 ∧ K (e.1 + 1) ls (.ref (br_R h a i.toNatClampNeg) :: r) h) st
  | .arraylength => br_pr (fun a r => br_ar (br_sh h a).1 = true ∧ K (e.1 + 1) ls (.int (Int32.ofNat (br_sh h a).2) :: r) h) st
  | .iastore => br_pi (fun x r => br_pri (fun a i r => (br_sh h a).1 = 1 ∧ 8 ≤ a ∧ vp_in i (br_sh h a).2 ∧ K (e.1 + 1) ls r (br_wI h a i.toNatClampNeg x)) r) st
  | .bastore => br_pi (fun x r => br_pri (fun a i r => 8 ≤ a ∧ vp_in i (br_sh h a).2 ∧ (((br_sh h a).1 = 3 ∧ K (e.1 + 1) ls r (br_wI h a i.toNatClampNeg (vp_nar .boolean x))) ∨ ((br_sh h a).1 = 4 ∧ K (e.1 + 1) ls r (br_wI h a i.toNatClampNeg (vp_nar .byte x))))) r) st
  | .lastore => br_pl (fun x r => br_pri (fun a i r => (br_sh h a).1 = 2 ∧ 8 ≤ a ∧ vp_in i (br_sh h a).2 ∧ K (e.1 + 1) ls r (br_wL h a i.toNatClampNeg x)) r) st
  | .aastore => br_pr (fun x r => br_pri (fun a i r => 8 ≤ a ∧ vp_in i (br_sh h a).2 ∧ ((br_sh h a).1 = 7 ∧ br_sh h x = (0, 10) ∨ (br_sh h a).1 = 8 ∧ br_sh h x = (0, 2)) ∧ K (e.1 + 1) ls r (br_wR h a i.toNatClampNeg x)) r) st
  | .new _ => match e.2.2.2 with
    | ci :: nf :: _ => 1 ≤ h.2.2.2.2.2.1 ∧ nf ≤ h.2.2.2.2.2.2 ∧ K (e.1 + 3) ls (.ref h.1 :: st) (br_new h (0, ci) nf)
    | _ => False
  | .newarray _ => match e.2.2.2 with
    | kd :: _ => br_pi (fun n r => ¬ n < 0 ∧ n.toNatClampNeg * 8 ≤ 536870912 ∧ 1 ≤ h.2.2.2.2.2.1 ∧ n.toNatClampNeg ≤ h.2.2.2.2.2.2 ∧ K (e.1 + 2) ls (.ref h.1 :: r) (br_new h (kd, n.toNatClampNeg) n.toNatClampNeg)) st
    | _ => False
  | .anewarray _ => match e.2.2.2 with
    | kd :: _ => br_pi (fun n r => ¬ n < 0 ∧ n.toNatClampNeg * 8 ≤ 536870912 ∧ 1 ≤ h.2.2.2.2.2.1 ∧ n.toNatClampNeg ≤ h.2.2.2.2.2.2 ∧ K (e.1 + 3) ls (.ref h.1 :: r) (br_new h (kd, n.toNatClampNeg) n.toNatClampNeg)) st
    | _ => False
  | .multianewarray _ _ => match e.2.2.2 with
    | ok :: ik :: _ => br_pii (fun n k r => ¬ n < 0 ∧ ¬ k < 0 ∧ n.toNatClampNeg * 8 ≤ 536870912 ∧ k.toNatClampNeg * 8 ≤ 536870912 ∧ 1 + n.toNatClampNeg ≤ h.2.2.2.2.2.1 ∧ n.toNatClampNeg + n.toNatClampNeg * k.toNatClampNeg ≤ h.2.2.2.2.2.2 ∧
        K (e.1 + 4) ls (.ref h.1 :: r) (br_newM h ok ik n.toNatClampNeg k.toNatClampNeg)) st
    | _ => False
  | .invokestatic _ => match e.2.2.2 with
    | 4 :: _ => br_ac K (e.1 + 3) ls st h
    | _ :: r => br_iv C K (e.1 + 3) ls st h 0 r
    | _ => False
  | .invokevirtual _ => br_iv C K (e.1 + 3) ls st h 1 e.2.2.2
  | .invokespecial _ => match e.2.2.2 with
    | 3 :: _ => match Nat.ble (br_cat st) 8 with
      | true => br_pr (fun a r => 8 ≤ a ∧ K (e.1 + 3) ls r h) st
      | false => False
    | _ :: r => br_iv C K (e.1 + 3) ls st h 1 r
    | _ => False
  | .ireturn => match e.2.2.2 with
    | t :: _ => br_ret Q h st t
    | _ => False
  | .lreturn => br_pl (fun x r => r = [] ∧ Q (some (.long x)) h) st
  | .return_ => st = [] ∧ Q none h
  | _ => False
