section BRN
variable {g0 : Nat → Value} {B0 : Nat} {D : va_G} {cA : Nat → ClassId} {oS : Nat → Nat × Nat} {oI : Nat → Nat → Int32} {oR : Nat → Nat → Nat} {l : Launch} {d j pc : Nat} {ls : br_V} {st : List Value} {h h' : br_H} {Q : br_Q}
theorem br_zat {α : Type} {f : Nat → Nat → α} {a : Nat} {x : α} : br_z f a x a = fun _ => x := by funext y; simp [br_z]
theorem br_zne {α : Type} {f : Nat → Nat → α} {a p : Nat} {x : α} (hp : p ≠ a) : br_z f a x p = f p := by funext y; simp [br_z, hp]
theorem br_dv_get (l : List Nat) (k : Nat) (hl : k < l.length) : br_dv (l.getD k 0) = (l.map br_dv).getD k .null := by
  rw [List.getD_eq_getElem?_getD, List.getD_eq_getElem?_getD, List.getElem?_map, List.getElem?_eq_getElem hl]
  rfl
theorem br_inv_new (hi : br_inv oS oI oR h) (h8 : 8 ≤ br_N h) {q : Nat × Nat} {ms : Nat} (hq : q.1 = 0 → q.2 < 13) : br_inv oS oI oR (br_new h q ms) := by
  obtain ⟨h1, h2, h3, h4, h5⟩ := hi
  have hz : ∀ {α : Type} (f : Nat → Nat → α) (x : α) (p : Nat), p ≠ h.1 → br_z f h.1 x p = f p := fun f x p hp => by funext y; simp [br_z, hp]
  have hzz : ∀ {α : Type} (f : Nat → Nat → α) (x : α) (y : Nat), br_z f h.1 x h.1 y = x := fun f x y => by simp [br_z]
  have hs : ∀ p, p ≠ h.1 → br_sh (br_new h q ms) p = br_sh h p := fun p hp => if_neg hp
  have hss : br_sh (br_new h q ms) h.1 = q := if_pos rfl
  have h8' : 8 ≤ h.1 := h8
  refine ⟨fun p hp => ?_, fun p hp => ?_, fun p hp y => ?_, fun p hp y => ?_, fun p hp hp0 => ?_⟩
  · obtain ⟨a1, a2, a3⟩ := h1 p hp
    have hne : p ≠ h.1 := by omega
    exact ⟨(hs p hne).trans a1, (hz _ _ p hne).trans a2, (hz _ _ p hne).trans a3⟩
  · have hp' : h.1 + 1 ≤ p := hp
    rw [hs p (by omega)]
    exact h2 p (by show h.1 ≤ p; omega)
  · by_cases e : p = h.1
    · subst e; exact Or.inl (hzz _ _ y)
    · have := h3 p (by rw [← hs p e]; exact hp) y
      show br_z _ _ _ p y = 0 ∨ br_z _ _ _ p y = 1
      rw [hz _ _ p e]; exact this
  · by_cases e : p = h.1
    · subst e; exact Or.inl (hzz _ _ y)
    · have := h4 p hp y
      show br_z _ _ _ p y = 0 ∨ 8 ≤ br_z _ _ _ p y
      rw [hz _ _ p e]; exact this
  · by_cases e : p = h.1
    · subst e; rw [hss] at hp0 ⊢; exact hq hp0
    · rw [hs p e] at hp0 ⊢; exact h5 p hp hp0
theorem br_rel_new {H H1 : Heap} (hr : br_rel B0 D cA oS oI oR h H) {q : Nat × Nat} {ms : Nat} (hq : q.1 = 0 → q.2 < 13) (hz : H1.size = H.size + 1) (ho : ∀ x, x < H.size → H1[x]? = H[x]?) (he : va_at D br_cls (H.size, br_ce B0 cA (br_new h q ms) h.1) H1) : br_rel B0 D cA oS oI oR (br_new h q ms) H1 := by
  obtain ⟨h8, hsz, hP, hi⟩ := hr
  have h8' : 8 ≤ h.1 := h8
  have hsz' : H.size = B0 + (h.1 - 8) := hsz
  refine ⟨by show 8 ≤ h.1 + 1; omega, by show H1.size = B0 + (h.1 + 1 - 8); omega, fun k x hx => ?_, br_inv_new hi h8 hq⟩
  obtain ⟨hk, rfl⟩ := br_ws_of hx
  have hk' : k < h.1 + 1 - 8 := hk
  by_cases e : 8 + k = h.1
  · have e2 : B0 + k = H.size := by omega
    rw [e, e2]; exact he
  · have e3 : br_ce B0 cA (br_new h q ms) (8 + k) = br_ce B0 cA h (8 + k) := by
      exact br_ce_eq (if_neg e) (br_zne e) (br_zne e) (br_zne e)
    rw [e3]
    have hg := br_ws_get (B0 := B0) (cA := cA) (h := h) (p := 8 + k) (by omega) (by show 8 + k < h.1; omega)
    rw [show 8 + k - 8 = k by omega] at hg
    have := hP _ _ hg
    exact this.kept (ho _ (this.lt))
theorem br_fs_new {q : Nat × Nat} {ms : Nat} : ∀ (l : List Nat) (k : Nat), br_fs B0 (br_new h q ms) h.1 l k = l.map br_dv
  | [], _ => rfl
  | t :: r, k => by
    show br_fvc B0 (br_new h q ms) t h.1 k :: br_fs B0 (br_new h q ms) h.1 r (k + 1) = br_dv t :: r.map br_dv
    rw [br_fs_new r (k + 1)]
    congr 1
    match t with
    | 0 => show Value.int (br_z _ _ _ h.1 k) = _; simp [br_z, br_dv]
    | 1 => show Value.long (br_z _ _ _ h.1 k) = _; simp [br_z, br_dv]
    | n + 2 => show va_rf (br_o B0 (br_z _ _ _ h.1 k)) = _; simp [br_z, br_o, va_rf, br_dv]
theorem br_g_new {H : Heap} (hr : br_rel B0 D cA oS oI oR h H) : br_gv g0 B0 (.ref h.1) = .ref H.size := by
  have h8 : 8 ≤ h.1 := hr.1
  rw [br_g_ref h8, show B0 + (h.1 - 8) = H.size from hr.2.1.symm]
theorem br_S_new {s : State} {H H1 : Heap} {locs : List Loc} (hS : va_S (br_A B0) s.heap H locs) (hz : H.size ≤ H1.size) (ho : ∀ x, x < H.size → H1[x]? = H[x]?) : va_S (br_A B0) s.heap H1 locs :=
  ⟨Nat.le_trans hS.1 hz, fun x h1 h2 => (ho x (Nat.lt_of_lt_of_le h1 hS.1)).trans (hS.2.1 x h1 h2), hS.2.2⟩
theorem br_k_new {i ci nf : Nat} (hdg : decode (br_md j).2.1 pc = .ok (.new i, 3)) (hci : ci < 13) (w1 : Jvm.Cond.classLink (br_md j).1.cls i (br_cnm ci) ∈ br_gt) (w2 : Jvm.Cond.instantiable (br_cnm ci) (br_cN ci) ∈ br_gt) (w3 : Jvm.Cond.initialized (br_cnm ci) ∈ br_gt) (hnf : nf = br_cN ci)
    (hk : 1 ≤ h.2.2.2.2.2.1 ∧ nf ≤ h.2.2.2.2.2.2 ∧ br_snd g0 B0 D cA oS oI oR l d j (pc + 3) ls (.ref h.1 :: st) (br_new h (0, ci) nf) Q) : br_snd g0 B0 D cA oS oI oR l d j pc ls st h Q := by
  intro p e R s m args below meth c H locs cells slots L Z hC hr hS hL hn hc hs hret
  obtain ⟨hx, hb, hrt, hml, hown, hts, hlk, hinit, hK, hold, hfr, hlo, hcl, hsl, hB0, hj⟩ := id hC
  obtain ⟨b1, b2, hk⟩ := hk
  obtain ⟨C, T, N, Y, q1, q2, q3, q4, q5, q6, q7, q8, q9⟩ := br_clsx ci hci
  have e0 : br_cnm ci = C := by unfold br_cnm; rw [q1]
  have e2 : br_cN ci = N := by unfold br_cN; rw [q1]
  rw [e0] at w1 w2 w3
  rw [e2] at w2 hnf
  subst hnf
  have hKn := hK.1 ci _ q1
  have hc' : cells + h.2.2.2.2.2.1 ≤ (br_mc j).1 := hc
  have hs' : slots + h.2.2.2.2.2.2 ≤ (br_mc j).2 := hs
  refine W.newcK hx hb hown (hts _ w1) (hts _ w2) (hts _ w3) rfl hdg (by omega) (by omega) hKn.2.1 rfl fun H1 kC hkC e1 z1 o1 => ?_
  have hw := hk p e R s m args below meth c H1 locs (cells + 1) (slots + nf) L Z hC (br_rel_new hr (fun _ => hci) z1 o1 ?_) (br_S_new hS (by omega) o1) hL hn (by show cells + 1 + (h.2.2.2.2.2.1 - 1) ≤ _; omega) (by show slots + nf + (h.2.2.2.2.2.2 - nf) ≤ _; omega) hret
  · rw [List.map_cons, br_g_new hr] at hw
    exact hw
  · rw [br_ce0 (h := br_new h (0, ci) nf) (ci := ci) (if_pos rfl), br_fs_new]
    refine ⟨_, q1, (u_born Y hts q2 hKn hkC e1 q3).to (fun k hkk => ?_)⟩
    rw [q6 k hkk]
    exact br_dv_get _ k (by rw [q5]; exact hkk)
theorem br_dfl {kd : Nat} {a : ArrayType} (ha : br_at kd = some a) : br_ar kd = true ∧ br_kty kd = newarray.typeOf a ∧ (br_ra kd = false) ∧ componentBytes (newarray.typeOf a) ≤ 8 ∧ kd ≠ 0 := by
  match kd, ha with
  | 1, ha => cases ha; exact ⟨rfl, rfl, rfl, by decide, by decide⟩
  | 2, ha => cases ha; exact ⟨rfl, rfl, rfl, by decide, by decide⟩
  | 3, ha => cases ha; exact ⟨rfl, rfl, rfl, by decide, by decide⟩
  | 4, ha => cases ha; exact ⟨rfl, rfl, rfl, by decide, by decide⟩
theorem br_k_newa {a : ArrayType} {kd : Nat} (hdg : decode (br_md j).2.1 pc = .ok (.newarray a, 2)) (hat : br_at kd = some a) (w1 : Jvm.Cond.arrayClass (newarray.typeOf a) ∈ br_gt)
    (hk : br_pi (fun n r => ¬ n < 0 ∧ n.toNatClampNeg * 8 ≤ 536870912 ∧ 1 ≤ h.2.2.2.2.2.1 ∧ n.toNatClampNeg ≤ h.2.2.2.2.2.2 ∧ br_snd g0 B0 D cA oS oI oR l d j (pc + 2) ls (.ref h.1 :: r) (br_new h (kd, n.toNatClampNeg) n.toNatClampNeg) Q) st) : br_snd g0 B0 D cA oS oI oR l d j pc ls st h Q := by
  intro p e R s m args below meth c H locs cells slots L Z hC hr hS hL hn hc hs hret
  obtain ⟨hx, hb, hrt, hml, hown, hts, hlk, hinit, hK, hold, hfr, hlo, hcl, hsl, hB0, hj⟩ := id hC
  obtain ⟨n, r, rfl, n0, nb, b1, b2, hk⟩ := br_pi_inv hk
  obtain ⟨har, hkt, hnr, hcb, hk0⟩ := br_dfl hat
  have hc' : cells + h.2.2.2.2.2.1 ≤ (br_mc j).1 := hc
  have hs' : slots + h.2.2.2.2.2.2 ≤ (br_mc j).2 := hs
  refine va_newaK hx hb (hts _ w1) rfl hdg rfl n0 rfl (Nat.le_trans (Nat.mul_le_mul_left _ hcb) nb) (by omega) (by omega) rfl fun H1 cB e1 z1 o1 hA hnm => ?_
  have ht := (hK.2 _ _ (br_tys_at (cA := cA) har)).2
  have hcB : cB = cA kd := by
    rw [hkt] at ht
    have h2 : s.vm.findClass ("[" ++ (newarray.typeOf a).toString) = some (cA kd) := by
      revert ht
      cases a <;> exact id
    exact Option.some.inj (hnm.symm.trans h2)
  subst hcB
  have hw := hk p e R s m args below meth c H1 locs (cells + 1) (slots + n.toNatClampNeg) L Z hC (br_rel_new hr (fun q => absurd q hk0) z1 o1 ?_) (br_S_new hS (by omega) o1) hL hn (by show cells + 1 + (h.2.2.2.2.2.1 - 1) ≤ _; omega) (by show slots + n.toNatClampNeg + (h.2.2.2.2.2.2 - n.toNatClampNeg) ≤ _; omega) hret
  · rw [List.map_cons, br_g_new hr] at hw
    exact hw
  · have hkd : kd = 1 ∨ kd = 2 ∨ kd = 3 ∨ kd = 4 := by
      match kd, hat with
      | 1, _ => omega
      | 2, _ => omega
      | 3, _ => omega
      | 4, _ => omega
    have hsh : (br_sh (br_new h (kd, n.toNatClampNeg) n.toNatClampNeg) h.1) = (kd, n.toNatClampNeg) := if_pos rfl
    have hf : (br_sh (br_new h (kd, n.toNatClampNeg) n.toNatClampNeg) h.1).1 = kd := by rw [hsh]
    have hI : br_I (br_new h (kd, n.toNatClampNeg) n.toNatClampNeg) h.1 = fun _ => 0 := br_zat
    have hL2 : br_L (br_new h (kd, n.toNatClampNeg) n.toNatClampNeg) h.1 = fun _ => 0 := br_zat
    rcases hkd with rfl | rfl | rfl | rfl
    · cases hat
      rw [br_ce1 hf, hsh, hI]; exact e1
    · cases hat
      rw [br_ce2 hf, hsh, hL2]; exact e1
    · cases hat
      rw [br_ce3 hf, hsh, hI]; exact e1
    · cases hat
      rw [br_ce4 hf, hsh, hI]; exact e1
theorem br_k_anew {i kd : Nat} {C : String} (hdg : decode (br_md j).2.1 pc = .ok (.anewarray i, 3)) (hkd : kd = 7 ∨ kd = 8) (hty : br_kty kd = .object C) (w1 : Jvm.Cond.classLink (br_md j).1.cls i C ∈ br_gt) (hAO : ∀ s H, br_old g0 B0 oS oI s H → va_AO C s)
    (hk : br_pi (fun n r => ¬ n < 0 ∧ n.toNatClampNeg * 8 ≤ 536870912 ∧ 1 ≤ h.2.2.2.2.2.1 ∧ n.toNatClampNeg ≤ h.2.2.2.2.2.2 ∧ br_snd g0 B0 D cA oS oI oR l d j (pc + 3) ls (.ref h.1 :: r) (br_new h (kd, n.toNatClampNeg) n.toNatClampNeg) Q) st) : br_snd g0 B0 D cA oS oI oR l d j pc ls st h Q := by
  intro p e R s m args below meth c H locs cells slots L Z hC hr hS hL hn hc hs hret
  obtain ⟨hx, hb, hrt, hml, hown, hts, hlk, hinit, hK, hold, hfr, hlo, hcl, hsl, hB0, hj⟩ := id hC
  obtain ⟨n, r, rfl, n0, nb, b1, b2, hk⟩ := br_pi_inv hk
  have har : br_ar kd = true := by rcases hkd with rfl | rfl <;> rfl
  have hra : br_ra kd = true := by rcases hkd with rfl | rfl <;> rfl
  have hc' : cells + h.2.2.2.2.2.1 ≤ (br_mc j).1 := hc
  have hs' : slots + h.2.2.2.2.2.2 ≤ (br_mc j).2 := hs
  refine W.anew hx hb hown (hts _ w1) (va_AO.use (hAO s _ hold)) rfl hdg rfl n0 (by omega) (by omega) (by omega) fun cB kA comp f1 f2 f3 f4 => ?_
  generalize hH1 : H.push ({ cls := cB, slots := Array.replicate n.toNatClampNeg .null, vm := .none } : Cell) = H1
  have z1 : H1.size = H.size + 1 := by rw [← hH1, Array.size_push]
  have e1 : H1[H.size]? = some (arrV cB n.toNatClampNeg (fun _ => .null)) := by rw [← hH1, Array.getElem?_push_size, ← arrV_new]
  have o1 : ∀ q : Nat, q < H.size → H1[q]? = H[q]? := fun q hq => by rw [← hH1, Array.getElem?_push, if_neg (Nat.ne_of_lt hq)]
  have ht := (hK.2 _ _ (br_tys_at (cA := cA) har)).2
  have hcB : cB = cA kd := by
    rw [hty] at ht
    obtain ⟨_, _, _, _, _, h2⟩ := ht
    exact Option.some.inj (f1.symm.trans h2)
  subst hcB
  have hw := hk p e R s m args below meth c H1 locs (cells + 1) (slots + n.toNatClampNeg) L Z hC (br_rel_new hr (fun q => by rcases hkd with rfl | rfl <;> cases q) z1 o1 ?_) (br_S_new hS (by omega) o1) hL hn (by show cells + 1 + (h.2.2.2.2.2.1 - 1) ≤ _; omega) (by show slots + n.toNatClampNeg + (h.2.2.2.2.2.2 - n.toNatClampNeg) ≤ _; omega) hret
  · rw [List.map_cons, br_g_new hr] at hw
    exact hw
  · have hsh : (br_sh (br_new h (kd, n.toNatClampNeg) n.toNatClampNeg) h.1) = (kd, n.toNatClampNeg) := if_pos rfl
    have hf : br_ra (br_sh (br_new h (kd, n.toNatClampNeg) n.toNatClampNeg) h.1).1 = true := by rw [hsh]; exact hra
    have hR : br_R (br_new h (kd, n.toNatClampNeg) n.toNatClampNeg) h.1 = fun _ => 0 := br_zat
    rw [br_ceR hf, hsh, hR]; exact e1
/-- arrays of arrays -/
theorem br_inv_newM (hi : br_inv oS oI oR h) (h8 : 8 ≤ br_N h) {ok ik n k : Nat} (hok : ok ≠ 0) (hik : ik ≠ 0) : br_inv oS oI oR (br_newM h ok ik n k) := by
  obtain ⟨h1, h2, h3, h4, h5⟩ := hi
  have h8' : 8 ≤ h.1 := h8
  have hI : ∀ p y, br_I (br_newM h ok ik n k) p y = if h.1 ≤ p ∧ p < h.1 + 1 + n then 0 else br_I h p y := fun p y => rfl
  have hR : ∀ p y, br_R (br_newM h ok ik n k) p y = if p = h.1 then h.1 + 1 + y else if h.1 < p ∧ p < h.1 + 1 + n then 0 else br_R h p y := fun p y => rfl
  have hs : ∀ p, br_sh (br_newM h ok ik n k) p = if p = h.1 then (ok, n) else if h.1 < p ∧ p < h.1 + 1 + n then (ik, k) else br_sh h p := fun p => rfl
  refine ⟨fun p hp => ?_, fun p hp => ?_, fun p hp y => ?_, fun p hp y => ?_, fun p hp hp0 => ?_⟩
  · obtain ⟨a1, a2, a3⟩ := h1 p hp
    refine ⟨?_, ?_, ?_⟩
    · rw [hs, if_neg (by omega), if_neg (by omega)]; exact a1
    · funext y; rw [hI, if_neg (by omega), a2]
    · funext y; rw [hR, if_neg (by omega), if_neg (by omega), a3]
  · have hp' : h.1 + 1 + n ≤ p := hp
    rw [hs, if_neg (by omega), if_neg (by omega)]
    exact h2 p (by show h.1 ≤ p; omega)
  · rw [hI]
    by_cases e : h.1 ≤ p ∧ p < h.1 + 1 + n
    · rw [if_pos e]; exact Or.inl rfl
    · rw [if_neg e]
      rw [hs, if_neg (by omega), if_neg (by omega)] at hp
      exact h3 p hp y
  · rw [hR]
    by_cases e : p = h.1
    · rw [if_pos e]; exact Or.inr (by omega)
    · rw [if_neg e]
      by_cases e2 : h.1 < p ∧ p < h.1 + 1 + n
      · rw [if_pos e2]; exact Or.inl rfl
      · rw [if_neg e2]; exact h4 p hp y
  · rw [hs] at hp0 ⊢
    by_cases e : p = h.1
    · rw [if_pos e] at hp0; exact absurd hp0 hok
    · rw [if_neg e] at hp0 ⊢
      by_cases e2 : h.1 < p ∧ p < h.1 + 1 + n
      · rw [if_pos e2] at hp0; exact absurd hp0 hik
      · rw [if_neg e2] at hp0 ⊢; exact h5 p hp hp0
theorem br_outer (c : ClassId) (N a : Nat) : ∀ i : Nat, Jvm.Free.Multi.outerC c N a i = arrV c N (fun x => if x < i then .ref (a + 1 + x) else .null)
  | 0 => by
    show ({ cls := c, slots := Array.replicate N .null, vm := .none } : Cell) = _
    rw [arrV_new]
    congr 1
  | i + 1 => by
    show (Jvm.Free.Multi.outerC c N a i).setSlot i (.ref (a + 1 + i)) = _
    rw [br_outer c N a i, arrV_store]
    congr 1
    funext x
    by_cases e : x = i
    · subst e
      simp [updV]
    · by_cases h : x < i
      · simp [updV, e, h, Nat.lt_succ_of_lt h]
      · simp [updV, e, h, show ¬ x < i + 1 by omega]
theorem br_arrV_congr {c : ClassId} {N : Nat} {f f' : Nat → Value} (h : ∀ x, x < N → f x = f' x) : arrV c N f = arrV c N f' := by
  unfold arrV
  congr 1
  apply Array.ext
  · simp
  · intro i h1 h2
    simp
    exact h i (by simpa using h1)
theorem br_k_mna {i ok ik : Nat} {ty : FieldType} (hdg : decode (br_md j).2.1 pc = .ok (.multianewarray i 2, 4)) (hok : ok = 5 ∧ ik = 1 ∧ ty = .int ∨ ok = 6 ∧ ik = 2 ∧ ty = .long) (w1 : Jvm.Cond.classLink (br_md j).1.cls i ("[" ++ (FieldType.array ty).toString) ∈ br_gt) (w3 : Jvm.Cond.arrayClass ty ∈ br_gt) (hAO : ∀ s H, br_old g0 B0 oS oI s H → br_AOA ty s)
    (hk : br_pii (fun n k r => ¬ n < 0 ∧ ¬ k < 0 ∧ n.toNatClampNeg * 8 ≤ 536870912 ∧ k.toNatClampNeg * 8 ≤ 536870912 ∧ 1 + n.toNatClampNeg ≤ h.2.2.2.2.2.1 ∧ n.toNatClampNeg + n.toNatClampNeg * k.toNatClampNeg ≤ h.2.2.2.2.2.2 ∧ br_snd g0 B0 D cA oS oI oR l d j (pc + 4) ls (.ref h.1 :: r) (br_newM h ok ik n.toNatClampNeg k.toNatClampNeg) Q) st) : br_snd g0 B0 D cA oS oI oR l d j pc ls st h Q := by
  intro p e R s m args below meth c H locs cells slots L Z hC hr hS hL hn hc hs hret
  obtain ⟨hx, hb, hrt, hml, hown, hts, hlk, hinit, hK, hold, hfr, hlo, hcl, hsl, hB0, hj⟩ := id hC
  obtain ⟨n, k, r, rfl, n0, k0, nb, kb, b1, b2, hk⟩ := br_pii_inv hk
  have hc' : cells + h.2.2.2.2.2.1 ≤ (br_mc j).1 := hc
  have hs' : slots + h.2.2.2.2.2.2 ≤ (br_mc j).2 := hs
  have hcb : componentBytes ty ≤ 8 ∧ fits ty (defaultValue ty) = true ∧ (defaultValue ty).isDefault = true := by
    rcases hok with ⟨-, -, rfl⟩ | ⟨-, -, rfl⟩
    · exact ⟨by decide, rfl, rfl⟩
    · exact ⟨by decide, rfl, rfl⟩
  intro Tt hT Xs
  obtain ⟨vm₁, cB, comp, -, fA, fC, X', step⟩ := Xs.multianewarray2 hx hown (hts _ w1) (hAO s _ hold) (hts _ w3) (g := F0 m pc L ((Value.int k :: .int n :: r).map (br_gv g0 B0))) rfl (by rw [hb]; exact hdg) (n := n) (k := k) (rest := r.map (br_gv g0 B0)) rfl n0 k0 (by omega) (Nat.le_trans (Nat.mul_le_mul_left _ hcb.1) kb) (by omega) hcb.2.1 hcb.2.2 (by omega) (by omega)
  generalize hF : Jvm.Free.Multi.fill (Tt.setVm vm₁) cB comp n.toNatClampNeg k.toNatClampNeg (defaultValue ty) n.toNatClampNeg = F at X' step
  have hTh : (Tt.setVm vm₁).heap = H := hT
  obtain ⟨f1, f2, -, -⟩ := Jvm.Free.Multi.fill_facts (Tt.setVm vm₁) cB comp n.toNatClampNeg k.toNatClampNeg (defaultValue ty) n.toNatClampNeg
  rw [hF, hTh] at f1 f2
  have ho1 : ∀ x : Nat, x < H.size → F.heap[x]? = H[x]? := fun x hx => by
    have := Jvm.Free.Multi.fill_old (Tt.setVm vm₁) cB comp n.toNatClampNeg k.toNatClampNeg (defaultValue ty) (a := x) (by rw [hTh]; exact hx) n.toNatClampNeg
    rw [hF, hTh] at this
    exact this
  have hrow : ∀ y : Nat, y < n.toNatClampNeg → F.heap[H.size + 1 + y]? = some (Jvm.Free.Multi.innerC comp k.toNatClampNeg (defaultValue ty)) := fun y hy => by
    have := Jvm.Free.Multi.fill_inner (Tt.setVm vm₁) cB comp n.toNatClampNeg k.toNatClampNeg (defaultValue ty) n.toNatClampNeg y hy
    rw [hF, hTh] at this
    exact this
  have hok2 : br_ar ok = true ∧ br_ra ok = true ∧ ok ≠ 0 ∧ ik ≠ 0 ∧ br_kty ok = .array ty ∧ br_kty ik = ty ∧ br_ar ik = true := by rcases hok with ⟨rfl, rfl, rfl⟩ | ⟨rfl, rfl, rfl⟩ <;> exact ⟨rfl, rfl, by decide, by decide, rfl, rfl, rfl⟩
  obtain ⟨r1, r2, r3, r4, r5, r6, r7⟩ := hok2
  have hcB : cB = cA ok := by
    have ht := (hK.2 _ _ (br_tys_at (cA := cA) r1)).2
    rw [r5] at ht
    have h2 : s.vm.findClass ("[" ++ (FieldType.array ty).toString) = some (cA ok) := ht
    exact Option.some.inj (fA.symm.trans h2)
  have hcomp : comp = cA ik := by
    have ht := (hK.2 _ _ (br_tys_at (cA := cA) r7)).2
    rw [r6] at ht
    have h2 : s.vm.findClass ("[" ++ ty.toString) = some (cA ik) := by
      rcases hok with ⟨-, -, rfl⟩ | ⟨-, -, rfl⟩ <;> exact ht
    have h3 : s.vm.findClass ("[" ++ ty.toString) = some comp := by
      rcases hok with ⟨-, -, rfl⟩ | ⟨-, -, rfl⟩ <;> exact fC
    exact Option.some.inj (h3.symm.trans h2)
  subst hcB
  subst hcomp
  obtain ⟨h8, hsz, hP, hi⟩ := id hr
  have h8' : 8 ≤ h.1 := h8
  have hsz' : H.size = B0 + (h.1 - 8) := hsz
  have hsh : ∀ q, br_sh (br_newM h ok ik n.toNatClampNeg k.toNatClampNeg) q = if q = h.1 then (ok, n.toNatClampNeg) else if h.1 < q ∧ q < h.1 + 1 + n.toNatClampNeg then (ik, k.toNatClampNeg) else br_sh h q := fun q => rfl
  have hrel : br_rel B0 D cA oS oI oR (br_newM h ok ik n.toNatClampNeg k.toNatClampNeg) F.heap := by
    refine ⟨by show 8 ≤ h.1 + 1 + _; omega, by show F.heap.size = B0 + (h.1 + 1 + n.toNatClampNeg - 8); omega, fun x y hy => ?_, br_inv_newM hi h8 r3 r4⟩
    obtain ⟨hxl, rfl⟩ := br_ws_of hy
    have hxl' : x < h.1 + 1 + n.toNatClampNeg - 8 := hxl
    by_cases e1 : 8 + x = h.1
    · have hs1 := hsh (8 + x)
      rw [if_pos e1] at hs1
      rw [br_ceR (by rw [hs1]; exact r2), hs1]
      show F.heap[B0 + x]? = _
      rw [show B0 + x = H.size by omega, f2, br_outer]
      refine congrArg some (?_ : arrV (cA ok) n.toNatClampNeg (fun y => if y < n.toNatClampNeg then Value.ref (H.size + 1 + y) else .null) = arrV (cA ok) n.toNatClampNeg (fun y => va_rf (br_o B0 (br_R (br_newM h ok ik n.toNatClampNeg k.toNatClampNeg) (8 + x) y))))
      refine br_arrV_congr fun y hy => ?_
      rw [if_pos hy]
      have hR : br_R (br_newM h ok ik n.toNatClampNeg k.toNatClampNeg) (8 + x) y = h.1 + 1 + y := if_pos e1
      rw [hR]
      unfold br_o
      rw [if_neg (by omega)]
      show Value.ref (H.size + 1 + y) = Value.ref (B0 + (h.1 + 1 + y - 8))
      rw [show B0 + (h.1 + 1 + y - 8) = H.size + 1 + y by omega]
    · by_cases e2 : h.1 < 8 + x
      · have hs1 := hsh (8 + x)
        rw [if_neg e1, if_pos ⟨e2, by omega⟩] at hs1
        have hr0 := hrow (8 + x - (h.1 + 1)) (by omega)
        rw [show H.size + 1 + (8 + x - (h.1 + 1)) = B0 + x by omega] at hr0
        have hI : br_I (br_newM h ok ik n.toNatClampNeg k.toNatClampNeg) (8 + x) = fun _ => 0 := by
          funext y; exact if_pos ⟨by omega, by omega⟩
        have hL2 : br_L (br_newM h ok ik n.toNatClampNeg k.toNatClampNeg) (8 + x) = fun _ => 0 := by
          funext y; exact if_pos ⟨by omega, by omega⟩
        have hin : Jvm.Free.Multi.innerC (cA ik) k.toNatClampNeg (defaultValue ty) = arrV (cA ik) k.toNatClampNeg (fun _ => defaultValue ty) := by rw [← arrV_new]; rfl
        rw [hin] at hr0
        rcases hok with ⟨rfl, rfl, rfl⟩ | ⟨rfl, rfl, rfl⟩
        · rw [br_ce1 (by rw [hs1]), hs1, hI]; exact hr0
        · rw [br_ce2 (by rw [hs1]), hs1, hL2]; exact hr0
      · have e3 : br_ce B0 cA (br_newM h ok ik n.toNatClampNeg k.toNatClampNeg) (8 + x) = br_ce B0 cA h (8 + x) := by
          refine br_ce_eq (by rw [hsh, if_neg e1, if_neg (by omega)]) ?_ ?_ ?_
          · funext y; show (if _ then _ else if _ then _ else _) = _; rw [if_neg e1, if_neg (by omega)]
          · funext y; show (if _ then _ else _) = _; rw [if_neg (by omega)]
          · funext y; show (if _ then _ else _) = _; rw [if_neg (by omega)]
        rw [e3]
        have hg := br_ws_get (B0 := B0) (cA := cA) (h := h) (p := 8 + x) (by omega) (by show 8 + x < h.1; omega)
        rw [show 8 + x - 8 = x by omega] at hg
        have := hP _ _ hg
        exact this.kept (ho1 _ (this.lt))
  have hS1 : va_S (br_A B0) s.heap F.heap (locs ++ (List.range n.toNatClampNeg).map fun y => ⟨H.size, y⟩) := by
    refine ⟨Nat.le_trans hS.1 (by omega), fun x h1 h2 => (ho1 x (Nat.lt_of_lt_of_le h1 hS.1)).trans (hS.2.1 x h1 h2), fun q hq => ?_⟩
    rcases List.mem_append.mp hq with hq | hq
    · exact hS.2.2 q hq
    · obtain ⟨y, -, rfl⟩ := List.mem_map.mp hq
      show B0 ≤ H.size
      omega
  have eH : Tt.heap.size = H.size := by rw [hT]
  rw [eH] at X' step
  have hw := hk p e R s m args below meth c F.heap _ (cells + 1 + n.toNatClampNeg) (slots + n.toNatClampNeg + n.toNatClampNeg * k.toNatClampNeg) L Z hC hrel hS1 hL hn (by show cells + 1 + n.toNatClampNeg + (h.2.2.2.2.2.1 - (1 + n.toNatClampNeg)) ≤ _; omega) (by show slots + n.toNatClampNeg + n.toNatClampNeg * k.toNatClampNeg + (h.2.2.2.2.2.2 - (n.toNatClampNeg + n.toNatClampNeg * k.toNatClampNeg)) ≤ _; omega) hret
  rw [List.map_cons, br_g_new hr] at hw
  obtain ⟨t, a1, b1⟩ := hw F rfl X'
  exact ⟨t, step t a1, b1⟩
end BRN
