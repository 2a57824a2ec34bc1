section BRC
variable {g0 : Nat → Value} {B0 : Nat} {D : va_G} {cA : Nat → ClassId} {oS : Nat → Nat × Nat} {oI : Nat → Nat → Int32} {oR : Nat → Nat → Nat} {l : Launch} {d j pc : Nat} {ls : br_V} {st : List Value} {h : br_H} {Q : br_Q}
theorem br_cat_eq (hg : ∀ p, p < 8 → (g0 p).category = 1) : ∀ r : List Value, ((r.map (br_gv g0 B0)).map fun v => v.category).sum = br_cat r
  | [] => rfl
  | v :: t => by
    have ih := br_cat_eq hg t
    simp only [List.map_cons, List.sum_cons, br_gv_cat hg, br_cat]
    omega
theorem br_cp_ne {α : Type} {f : Nat → Nat → α} {a b sp dp n q : Nat} (hq : q ≠ b) : br_cp f a b sp dp n q = f q := by
  funext y; simp [br_cp, hq]
theorem br_cp_at {α : Type} {f : Nat → Nat → α} {a b sp dp n : Nat} : br_cp f a b sp dp n b = va_cpy (f a) (f b) sp dp n := by
  funext y; simp [br_cp, va_cpy]
theorem br_acoreI {p : Program} {e : Env} {R : Room} {s : State} {m : MethodId} {args : Array Value} {below : List Frame} {meth : Method} {c : Code} {H : Heap} {locs : List Loc} {cells slots : Nat} {L : Array Slot} {Z : State → Prop} {cc : ByteArray} {own : String} {i : Nat} {rest : List Value}
    (hx : p.tables.exec = Jvm.exec) (hb : c.code = cc) (hml : c.maxLocals = L.size) (hown : s.vm.findClass own = some m.cls) (hlink : (Cond.methodLink own i arraycopyName).before args s = true) (hnat : (Cond.native arraycopyName).before args s = true) (hstat : (Cond.static arraycopyName).before args s = true) (hini : (Cond.initialized "java/lang/System").before args s = true)
    {a0 a1 n0 n1 : Nat} {c0 c1 : ClassId} {f g : Nat → Int32} {ty : FieldType} (hc0 : H[a0]? = some (arrV c0 n0 (fun y => .int (f y)))) (hc1 : H[a1]? = some (arrV c1 n1 (fun y => .int (g y)))) (ho0 : s.isArrayOf (arrV c0 n0 (fun y => .int (f y))) ty) (ho1 : s.isArrayOf (arrV c1 n1 (fun y => .int (g y))) ty) (hprim : refKind ty = false)
    {sp dp n : Int32} (h1 : ¬ sp < 0) (h2 : ¬ dp < 0) (h3 : ¬ n < 0) (h4 : sp.toNatClampNeg + n.toNatClampNeg ≤ n0) (h5 : dp.toNatClampNeg + n.toNatClampNeg ≤ n1) (hfit : ∀ y, y < n.toNatClampNeg → fits ty (.int (f (sp.toNatClampNeg + y))) = true)
    (hframes : 1 ≤ R.frames) (hlocals : (rest.map fun v => v.category).sum + (nativeFrameWords "java/lang/System" "arraycopy" 5 + 11) ≤ R.locals) (hdg : decode cc pc = .ok (.invokestatic i, 3))
    (kk : ∀ (H1 : Heap) (locs1 : List Loc), H1[a1]? = some (arrV c1 n1 (fun y => .int (va_cpy f g sp.toNatClampNeg dp.toNatClampNeg n.toNatClampNeg y))) → H1.size = H.size → (∀ q, q ≠ a1 → H1[q]? = H[q]?) → (∀ q ∈ locs1, q.base = a1) → W p l e R s m args below meth c H1 (locs ++ locs1) cells slots Z (F0 m (pc + 3) L rest)) :
    W p l e R s m args below meth c H locs cells slots Z (F0 m pc L (.int n :: .int dp :: .ref a1 :: .int sp :: .ref a0 :: rest)) := by
  have nn : ∀ z : Int32, ¬ z < 0 → z.toInt = (z.toNatClampNeg : Int) := by
    intro z hz
    have hz0 : (0 : Int) ≤ z.toInt := by
      have := Int32.not_lt.mp hz
      simpa using Int32.le_iff_toInt_le.mp this
    show z.toInt = ((z.toInt.toNat : Nat) : Int)
    omega
  intro Tt hT X
  obtain ⟨-, k0, hk0, cm0, hkk0⟩ := ho0
  obtain ⟨-, k1, hk1, cm1, hkk1⟩ := ho1
  obtain ⟨vm', X', step⟩ := X.arraycopy hx hown hlink hnat hstat hini (src := a0) (dst := a1) (cs := arrV c0 n0 (fun y => .int (f y))) (cd := arrV c1 n1 (fun y => .int (g y))) (srcPos := sp) (destPos := dp) (n := n) (by rw [hT]; exact hc0) (by rw [hT]; exact hc1)
    (fun _ h => by cases h) (fun _ h => by cases h) (fun h => by cases h) (fun h => by cases h) hk0 hk1 hkk0 hkk1 (by simp [hprim]) h1 h2 h3
    (by rw [nn sp h1, nn n h3, arrV_size]; omega)
    (by rw [nn dp h2, nn n h3, arrV_size]; omega)
    (fun vm₁ _ y hy => by
      have e : (arrV c0 n0 (fun y => .int (f y))).slots.getD (sp.toNatClampNeg + y) .null = .int (f (sp.toNatClampNeg + y)) := by
        rw [Array.getD_eq_getD_getElem?, arrV_read _ _ (by omega)]
        rfl
      refine ⟨?_, ?_⟩
      · rw [e]
        exact hfit y hy
      · rw [e]
        exact trivial)
    (g := F0 m pc L (.int n :: .int dp :: .ref a1 :: .int sp :: .ref a0 :: rest)) rfl (by rw [hml]) (rest := rest) rfl (by rw [hb]; exact hdg) hframes (by show 2 * 0 + _ + _ ≤ _; omega)
  have e1 : copied (arrV c0 n0 (fun y => .int (f y))) (arrV c1 n1 (fun y => .int (g y))) sp dp n = arrV c1 n1 (fun y => .int (va_cpy f g sp.toNatClampNeg dp.toNatClampNeg n.toNatClampNeg y)) := va_copied (fun z => .int z) c0 c1 f g h4
  rw [e1] at X' step
  have hl : a1 < H.size := (Array.getElem?_eq_some_iff.mp hc1).1
  have hheap : ((Tt.setVm vm').setCell a1 (arrV c1 n1 (fun y => .int (va_cpy f g sp.toNatClampNeg dp.toNatClampNeg n.toNatClampNeg y)))).heap = H.setIfInBounds a1 (arrV c1 n1 (fun y => .int (va_cpy f g sp.toNatClampNeg dp.toNatClampNeg n.toNatClampNeg y))) := by rw [← hT]; rfl
  obtain ⟨t, b1, b2⟩ := kk _ _ (by simp [Array.getElem?_setIfInBounds, hl]) (by simp) (fun q hq => by simp [Array.getElem?_setIfInBounds, Ne.symm hq]) (fun q hq => by
      obtain ⟨z, -, hz⟩ := List.mem_map.mp hq
      rw [← hz]) _ hheap X'
  exact ⟨t, step t b1, b2⟩
theorem br_acoreL {p : Program} {e : Env} {R : Room} {s : State} {m : MethodId} {args : Array Value} {below : List Frame} {meth : Method} {c : Code} {H : Heap} {locs : List Loc} {cells slots : Nat} {L : Array Slot} {Z : State → Prop} {cc : ByteArray} {own : String} {i : Nat} {rest : List Value}
    (hx : p.tables.exec = Jvm.exec) (hb : c.code = cc) (hml : c.maxLocals = L.size) (hown : s.vm.findClass own = some m.cls) (hlink : (Cond.methodLink own i arraycopyName).before args s = true) (hnat : (Cond.native arraycopyName).before args s = true) (hstat : (Cond.static arraycopyName).before args s = true) (hini : (Cond.initialized "java/lang/System").before args s = true)
    {a0 a1 n0 n1 : Nat} {c0 c1 : ClassId} {f g : Nat → Int64} {ty : FieldType} (hc0 : H[a0]? = some (arrV c0 n0 (fun y => .long (f y)))) (hc1 : H[a1]? = some (arrV c1 n1 (fun y => .long (g y)))) (ho0 : s.isArrayOf (arrV c0 n0 (fun y => .long (f y))) ty) (ho1 : s.isArrayOf (arrV c1 n1 (fun y => .long (g y))) ty) (hprim : refKind ty = false)
    {sp dp n : Int32} (h1 : ¬ sp < 0) (h2 : ¬ dp < 0) (h3 : ¬ n < 0) (h4 : sp.toNatClampNeg + n.toNatClampNeg ≤ n0) (h5 : dp.toNatClampNeg + n.toNatClampNeg ≤ n1) (hfit : ∀ y, y < n.toNatClampNeg → fits ty (.long (f (sp.toNatClampNeg + y))) = true)
    (hframes : 1 ≤ R.frames) (hlocals : (rest.map fun v => v.category).sum + (nativeFrameWords "java/lang/System" "arraycopy" 5 + 11) ≤ R.locals) (hdg : decode cc pc = .ok (.invokestatic i, 3))
    (kk : ∀ (H1 : Heap) (locs1 : List Loc), H1[a1]? = some (arrV c1 n1 (fun y => .long (va_cpy f g sp.toNatClampNeg dp.toNatClampNeg n.toNatClampNeg y))) → H1.size = H.size → (∀ q, q ≠ a1 → H1[q]? = H[q]?) → (∀ q ∈ locs1, q.base = a1) → W p l e R s m args below meth c H1 (locs ++ locs1) cells slots Z (F0 m (pc + 3) L rest)) :
    W p l e R s m args below meth c H locs cells slots Z (F0 m pc L (.int n :: .int dp :: .ref a1 :: .int sp :: .ref a0 :: rest)) := by
  have nn : ∀ z : Int32, ¬ z < 0 → z.toInt = (z.toNatClampNeg : Int) := by
    intro z hz
    have hz0 : (0 : Int) ≤ z.toInt := by
      have := Int32.not_lt.mp hz
      simpa using Int32.le_iff_toInt_le.mp this
    show z.toInt = ((z.toInt.toNat : Nat) : Int)
    omega
  intro Tt hT X
  obtain ⟨-, k0, hk0, cm0, hkk0⟩ := ho0
  obtain ⟨-, k1, hk1, cm1, hkk1⟩ := ho1
  obtain ⟨vm', X', step⟩ := X.arraycopy hx hown hlink hnat hstat hini (src := a0) (dst := a1) (cs := arrV c0 n0 (fun y => .long (f y))) (cd := arrV c1 n1 (fun y => .long (g y))) (srcPos := sp) (destPos := dp) (n := n) (by rw [hT]; exact hc0) (by rw [hT]; exact hc1)
    (fun _ h => by cases h) (fun _ h => by cases h) (fun h => by cases h) (fun h => by cases h) hk0 hk1 hkk0 hkk1 (by simp [hprim]) h1 h2 h3
    (by rw [nn sp h1, nn n h3, arrV_size]; omega)
    (by rw [nn dp h2, nn n h3, arrV_size]; omega)
    (fun vm₁ _ y hy => by
      have e : (arrV c0 n0 (fun y => .long (f y))).slots.getD (sp.toNatClampNeg + y) .null = .long (f (sp.toNatClampNeg + y)) := by
        rw [Array.getD_eq_getD_getElem?, arrV_read _ _ (by omega)]
        rfl
      refine ⟨?_, ?_⟩
      · rw [e]
        exact hfit y hy
      · rw [e]
        exact trivial)
    (g := F0 m pc L (.int n :: .int dp :: .ref a1 :: .int sp :: .ref a0 :: rest)) rfl (by rw [hml]) (rest := rest) rfl (by rw [hb]; exact hdg) hframes (by show 2 * 0 + _ + _ ≤ _; omega)
  have e1 : copied (arrV c0 n0 (fun y => .long (f y))) (arrV c1 n1 (fun y => .long (g y))) sp dp n = arrV c1 n1 (fun y => .long (va_cpy f g sp.toNatClampNeg dp.toNatClampNeg n.toNatClampNeg y)) := va_copied (fun z => .long z) c0 c1 f g h4
  rw [e1] at X' step
  have hl : a1 < H.size := (Array.getElem?_eq_some_iff.mp hc1).1
  have hheap : ((Tt.setVm vm').setCell a1 (arrV c1 n1 (fun y => .long (va_cpy f g sp.toNatClampNeg dp.toNatClampNeg n.toNatClampNeg y)))).heap = H.setIfInBounds a1 (arrV c1 n1 (fun y => .long (va_cpy f g sp.toNatClampNeg dp.toNatClampNeg n.toNatClampNeg y))) := by rw [← hT]; rfl
  obtain ⟨t, b1, b2⟩ := kk _ _ (by simp [Array.getElem?_setIfInBounds, hl]) (by simp) (fun q hq => by simp [Array.getElem?_setIfInBounds, Ne.symm hq]) (fun q hq => by
      obtain ⟨z, -, hz⟩ := List.mem_map.mp hq
      rw [← hz]) _ hheap X'
  exact ⟨t, step t b1, b2⟩
theorem br_k_acopy {i : Nat} (hfix : br_fix g0 oS oI oR) (hdg : decode (br_md j).2.1 pc = .ok (.invokestatic i, 3)) (w0 : Jvm.Cond.methodLink (br_md j).1.cls i arraycopyName ∈ br_gt) (w1 : Jvm.Cond.native arraycopyName ∈ br_gt) (w2 : Jvm.Cond.static arraycopyName ∈ br_gt) (w3 : Jvm.Cond.initialized "java/lang/System" ∈ br_gt)
    (hk : br_ac (fun n ls st h => br_snd g0 B0 D cA oS oI oR l d j n ls st h Q) (pc + 3) ls st h) : br_snd g0 B0 D cA oS oI oR l d j pc ls st h Q := by
  intro p e R s m args below meth c H locs cells slots L Z hC hr hS hL hn hc hs hret
  obtain ⟨hx, hb, hrt, hml, hown, hts, hlk, hinit, hK, hold, hfr, hlo, hcl, hsl, hB0, hj⟩ := id hC
  unfold br_ac at hk
  split at hk
  · next k dp b sp a r =>
    obtain ⟨ha8, hb8, h1, h2, h3, h4, h5, hcat, hk⟩ := hk
    have hml2 : c.maxLocals = L.size := by rw [hml, hL.1, hn]
    have hlocals : ((r.map (br_gv g0 B0)).map fun v => v.category).sum + (nativeFrameWords "java/lang/System" "arraycopy" 5 + 11) ≤ R.locals := by
      rw [br_cat_eq (br_catg hfix.2.1)]
      have : nativeFrameWords "java/lang/System" "arraycopy" 5 = 7 := by decide
      omega
    rw [List.map_cons, List.map_cons, List.map_cons, List.map_cons, List.map_cons, br_g_ref ha8, br_g_ref hb8]
    have hSS : ∀ {H1 : Heap} {locs1 : List Loc}, H1.size = H.size → (∀ q, q ≠ B0 + (b - 8) → H1[q]? = H[q]?) → (∀ q ∈ locs1, q.base = B0 + (b - 8)) → va_S (br_A B0) s.heap H1 (locs ++ locs1) := by
      intro H1 locs1 z1 z2 z3
      refine ⟨by rw [z1]; exact hS.1, fun q q1 q2 => ?_, fun q hq => ?_⟩
      · rw [z2 q (fun e => q2 (by show B0 ≤ q; omega))]
        exact hS.2.1 q q1 q2
      · rcases List.mem_append.mp hq with hq | hq
        · exact hS.2.2 q hq
        · show B0 ≤ q.base
          rw [z3 q hq]; omega
    rcases hk with ⟨hkd, hk⟩ | ⟨⟨ka, kb⟩, hk⟩
    · have hkab : (br_sh h a).1 = (br_sh h b).1 ∧ ((br_sh h a).1 = 1 ∨ (br_sh h a).1 = 3) := by omega
      obtain ⟨hkab, hk13⟩ := hkab
      have hea : br_ar (br_sh h a).1 = true := by rcases hk13 with q | q <;> rw [q] <;> rfl
      obtain ⟨V, v1, v2, v3, -⟩ := br_arr hr ha8 hea hK
      obtain ⟨V', u1, u2, u3, -⟩ := br_arr hr hb8 (by rw [← hkab]; exact hea) hK
      have hV := v3 (by omega)
      have hV' := u3 (by omega)
      subst hV
      subst hV'
      have u2' : s.isArrayOf (arrV (cA (br_sh h b).1) (br_sh h b).2 fun y => Value.int (br_I h b y)) (br_kty (br_sh h a).1) := by rw [hkab]; exact u2
      refine br_acoreI hx hb hml2 hown (hts _ w0) (hts _ w1) (hts _ w2) (hts _ w3) v1 u1 v2 u2' ?_ h1 h2 h3 h4 h5 ?_ (by omega) hlocals hdg fun H1 locs1 z1 z2 z3 z4 => ?_
      · rcases hk13 with q | q <;> rw [q] <;> rfl
      · intro y hy
        rcases hk13 with q | q
        · rw [q]; rfl
        · rw [q]
          rcases hr.2.2.2.2.2.1 a q (sp.toNatClampNeg + y) with w | w <;> rw [w] <;> rfl
      · refine hk p e R s m args below meth c H1 _ cells slots L Z hC ?_ (hSS z2 z3 z4) hL hn hc hs hret
        refine br_rel_set hr hb8 (by omega) rfl (fun q _ hq => br_ce_eq rfl rfl (br_cp_ne hq) rfl) z2 z3 ?_ ?_
        · rcases hk13 with q | q
          · rw [br_ce1 (h := br_cpI h a b _ _ _) (by show (br_sh h b).1 = 1; omega)]
            show H1[_]? = some (arrV _ _ fun y => .int (br_cp _ _ _ _ _ _ b y))
            rw [br_cp_at, z1, show (br_sh h b).1 = 1 by omega]
          · rw [br_ce3 (h := br_cpI h a b _ _ _) (by show (br_sh h b).1 = 3; omega)]
            show H1[_]? = some (arrV _ _ fun y => .int (br_cp _ _ _ _ _ _ b y))
            rw [br_cp_at, z1, show (br_sh h b).1 = 3 by omega]
        · obtain ⟨i1, i2, i3, i4⟩ := hr.2.2.2
          refine ⟨fun q hq => ?_, i2, fun q hq y => ?_, i4⟩
          · obtain ⟨x1, x2, x3⟩ := i1 q hq
            have hqb : q ≠ b := fun z => absurd (z ▸ hq : b < 8) (Nat.not_lt.mpr hb8)
            exact ⟨x1, by show br_cp _ _ _ _ _ _ q = _; rw [br_cp_ne hqb]; exact x2, x3⟩
          · show br_cp _ _ _ _ _ _ q y = 0 ∨ br_cp _ _ _ _ _ _ q y = 1
            by_cases e2 : q = b
            · subst e2
              rw [br_cp_at]
              unfold va_cpy
              have hq' : (br_sh h q).1 = 3 := hq
              split
              · exact i3 a (by omega) _
              · exact i3 q hq _
            · rw [br_cp_ne e2]; exact i3 q hq y
    · have hea : br_ar (br_sh h a).1 = true := by rw [ka]; rfl
      obtain ⟨V, v1, v2, -, v4, -⟩ := br_arr hr ha8 hea hK
      obtain ⟨V', u1, u2, -, u4, -⟩ := br_arr hr hb8 (by rw [kb]; rfl) hK
      have hV := v4 ka
      have hV' := u4 kb
      subst hV
      subst hV'
      have v2' : s.isArrayOf (arrV (cA (br_sh h a).1) (br_sh h a).2 fun y => Value.long (br_L h a y)) .long := by
        have z := v2
        rw [show br_kty (br_sh h a).1 = .long by rw [ka]; rfl] at z
        exact z
      have u2' : s.isArrayOf (arrV (cA (br_sh h b).1) (br_sh h b).2 fun y => Value.long (br_L h b y)) .long := by
        have z := u2
        rw [show br_kty (br_sh h b).1 = .long by rw [kb]; rfl] at z
        exact z
      refine br_acoreL hx hb hml2 hown (hts _ w0) (hts _ w1) (hts _ w2) (hts _ w3) v1 u1 v2' u2' rfl h1 h2 h3 h4 h5 (fun _ _ => rfl) (by omega) hlocals hdg fun H1 locs1 z1 z2 z3 z4 => ?_
      refine hk p e R s m args below meth c H1 _ cells slots L Z hC ?_ (hSS z2 z3 z4) hL hn hc hs hret
      refine br_rel_set hr hb8 (by omega) rfl (fun q _ hq => br_ce_eq rfl rfl rfl (br_cp_ne hq)) z2 z3 ?_ hr.2.2.2
      rw [br_ce2 (h := br_cpL h a b _ _ _) kb]
      show H1[_]? = some (arrV _ _ fun y => .long (br_cp _ _ _ _ _ _ b y))
      rw [br_cp_at, z1, kb]
  · exact hk.elim
end BRC
