def br_okp (j : Nat) : Prop := br_okm j ∨ br_code j = []
theorem br_oka20 : ∀ a, a < 20 → br_okp a := lt_s (lt_s (lt_s (lt_s (lt_s (lt_s (lt_s (lt_s (lt_s (lt_s (lt_s (lt_s (lt_s (lt_s (lt_s (lt_s (lt_s (lt_s (lt_s (lt_s (lt_0) (Or.inl br_ok0)) (Or.inr rfl)) (Or.inl br_ok2)) (Or.inl br_ok3)) (Or.inl br_ok4)) (Or.inl br_ok5)) (Or.inl br_ok6)) (Or.inl br_ok7)) (Or.inl br_ok8)) (Or.inl br_ok9)) (Or.inl br_ok10)) (Or.inl br_ok11)) (Or.inl br_ok12)) (Or.inl br_ok13)) (Or.inl br_ok14)) (Or.inl br_ok15)) (Or.inl br_ok16)) (Or.inl br_ok17)) (Or.inl br_ok18)) (Or.inl br_ok19)
theorem br_oka40 : ∀ a, a < 40 → br_okp a := lt_s (lt_s (lt_s (lt_s (lt_s (lt_s (lt_s (lt_s (lt_s (lt_s (lt_s (lt_s (lt_s (lt_s (lt_s (lt_s (lt_s (lt_s (lt_s (lt_s (br_oka20) (Or.inl br_ok20)) (Or.inl br_ok21)) (Or.inl br_ok22)) (Or.inl br_ok23)) (Or.inl br_ok24)) (Or.inl br_ok25)) (Or.inl br_ok26)) (Or.inl br_ok27)) (Or.inl br_ok28)) (Or.inl br_ok29)) (Or.inl br_ok30)) (Or.inl br_ok31)) (Or.inl br_ok32)) (Or.inl br_ok33)) (Or.inl br_ok34)) (Or.inl br_ok35)) (Or.inl br_ok36)) (Or.inl br_ok37)) (Or.inl br_ok38)) (Or.inl br_ok39)
theorem br_oka60 : ∀ a, a < 60 → br_okp a := lt_s (lt_s (lt_s (lt_s (lt_s (lt_s (lt_s (lt_s (lt_s (lt_s (lt_s (lt_s (lt_s (lt_s (lt_s (lt_s (lt_s (lt_s (lt_s (lt_s (br_oka40) (Or.inl br_ok40)) (Or.inl br_ok41)) (Or.inl br_ok42)) (Or.inl br_ok43)) (Or.inl br_ok44)) (Or.inl br_ok45)) (Or.inl br_ok46)) (Or.inl br_ok47)) (Or.inl br_ok48)) (Or.inl br_ok49)) (Or.inl br_ok50)) (Or.inl br_ok51)) (Or.inl br_ok52)) (Or.inl br_ok53)) (Or.inl br_ok54)) (Or.inl br_ok55)) (Or.inr rfl)) (Or.inr rfl)) (Or.inr rfl)) (Or.inl br_ok59)
theorem br_oka80 : ∀ a, a < 80 → br_okp a := lt_s (lt_s (lt_s (lt_s (lt_s (lt_s (lt_s (lt_s (lt_s (lt_s (lt_s (lt_s (lt_s (lt_s (lt_s (lt_s (lt_s (lt_s (lt_s (lt_s (br_oka60) (Or.inl br_ok60)) (Or.inl br_ok61)) (Or.inl br_ok62)) (Or.inl br_ok63)) (Or.inl br_ok64)) (Or.inl br_ok65)) (Or.inl br_ok66)) (Or.inl br_ok67)) (Or.inl br_ok68)) (Or.inl br_ok69)) (Or.inl br_ok70)) (Or.inl br_ok71)) (Or.inl br_ok72)) (Or.inl br_ok73)) (Or.inl br_ok74)) (Or.inl br_ok75)) (Or.inl br_ok76)) (Or.inl br_ok77)) (Or.inl br_ok78)) (Or.inl br_ok79)
theorem br_oka100 : ∀ a, a < 100 → br_okp a := lt_s (lt_s (lt_s (lt_s (lt_s (lt_s (lt_s (lt_s (lt_s (lt_s (lt_s (lt_s (lt_s (lt_s (lt_s (lt_s (lt_s (lt_s (lt_s (lt_s (br_oka80) (Or.inl br_ok80)) (Or.inl br_ok81)) (Or.inl br_ok82)) (Or.inl br_ok83)) (Or.inl br_ok84)) (Or.inl br_ok85)) (Or.inl br_ok86)) (Or.inl br_ok87)) (Or.inl br_ok88)) (Or.inl br_ok89)) (Or.inl br_ok90)) (Or.inl br_ok91)) (Or.inl br_ok92)) (Or.inl br_ok93)) (Or.inl br_ok94)) (Or.inl br_ok95)) (Or.inl br_ok96)) (Or.inl br_ok97)) (Or.inl br_ok98)) (Or.inl br_ok99)
theorem br_oka120 : ∀ a, a < 120 → br_okp a := lt_s (lt_s (lt_s (lt_s (lt_s (lt_s (lt_s (lt_s (lt_s (lt_s (lt_s (lt_s (lt_s (lt_s (lt_s (lt_s (lt_s (lt_s (lt_s (lt_s (br_oka100) (Or.inl br_ok100)) (Or.inl br_ok101)) (Or.inl br_ok102)) (Or.inl br_ok103)) (Or.inl br_ok104)) (Or.inl br_ok105)) (Or.inl br_ok106)) (Or.inl br_ok107)) (Or.inl br_ok108)) (Or.inl br_ok109)) (Or.inl br_ok110)) (Or.inl br_ok111)) (Or.inl br_ok112)) (Or.inl br_ok113)) (Or.inl br_ok114)) (Or.inl br_ok115)) (Or.inl br_ok116)) (Or.inl br_ok117)) (Or.inl br_ok118)) (Or.inl br_ok119)
theorem br_oka140 : ∀ a, a < 140 → br_okp a := lt_s (lt_s (lt_s (lt_s (lt_s (lt_s (lt_s (lt_s (lt_s (lt_s (lt_s (lt_s (lt_s (lt_s (lt_s (lt_s (lt_s (lt_s (lt_s (lt_s (br_oka120) (Or.inl br_ok120)) (Or.inl br_ok121)) (Or.inl br_ok122)) (Or.inl br_ok123)) (Or.inl br_ok124)) (Or.inl br_ok125)) (Or.inl br_ok126)) (Or.inl br_ok127)) (Or.inl br_ok128)) (Or.inl br_ok129)) (Or.inl br_ok130)) (Or.inl br_ok131)) (Or.inl br_ok132)) (Or.inl br_ok133)) (Or.inl br_ok134)) (Or.inl br_ok135)) (Or.inl br_ok136)) (Or.inl br_ok137)) (Or.inl br_ok138)) (Or.inl br_ok139)
theorem br_oka160 : ∀ a, a < 160 → br_okp a := lt_s (lt_s (lt_s (lt_s (lt_s (lt_s (lt_s (lt_s (lt_s (lt_s (lt_s (lt_s (lt_s (lt_s (lt_s (lt_s (lt_s (lt_s (lt_s (lt_s (br_oka140) (Or.inl br_ok140)) (Or.inl br_ok141)) (Or.inl br_ok142)) (Or.inl br_ok143)) (Or.inl br_ok144)) (Or.inl br_ok145)) (Or.inl br_ok146)) (Or.inl br_ok147)) (Or.inl br_ok148)) (Or.inl br_ok149)) (Or.inl br_ok150)) (Or.inl br_ok151)) (Or.inl br_ok152)) (Or.inl br_ok153)) (Or.inl br_ok154)) (Or.inl br_ok155)) (Or.inl br_ok156)) (Or.inl br_ok157)) (Or.inl br_ok158)) (Or.inl br_ok159)
theorem br_oka180 : ∀ a, a < 180 → br_okp a := lt_s (lt_s (lt_s (lt_s (lt_s (lt_s (lt_s (lt_s (lt_s (lt_s (lt_s (lt_s (lt_s (lt_s (lt_s (lt_s (lt_s (lt_s (lt_s (lt_s (br_oka160) (Or.inl br_ok160)) (Or.inl br_ok161)) (Or.inl br_ok162)) (Or.inl br_ok163)) (Or.inl br_ok164)) (Or.inl br_ok165)) (Or.inl br_ok166)) (Or.inl br_ok167)) (Or.inl br_ok168)) (Or.inl br_ok169)) (Or.inl br_ok170)) (Or.inl br_ok171)) (Or.inl br_ok172)) (Or.inl br_ok173)) (Or.inl br_ok174)) (Or.inl br_ok175)) (Or.inl br_ok176)) (Or.inl br_ok177)) (Or.inl br_ok178)) (Or.inl br_ok179)
theorem br_oka200 : ∀ a, a < 200 → br_okp a := lt_s (lt_s (lt_s (lt_s (lt_s (lt_s (lt_s (lt_s (lt_s (lt_s (lt_s (lt_s (lt_s (lt_s (lt_s (lt_s (lt_s (lt_s (lt_s (lt_s (br_oka180) (Or.inl br_ok180)) (Or.inl br_ok181)) (Or.inl br_ok182)) (Or.inl br_ok183)) (Or.inl br_ok184)) (Or.inl br_ok185)) (Or.inl br_ok186)) (Or.inl br_ok187)) (Or.inl br_ok188)) (Or.inl br_ok189)) (Or.inl br_ok190)) (Or.inl br_ok191)) (Or.inl br_ok192)) (Or.inl br_ok193)) (Or.inl br_ok194)) (Or.inl br_ok195)) (Or.inl br_ok196)) (Or.inl br_ok197)) (Or.inl br_ok198)) (Or.inl br_ok199)
theorem br_oka220 : ∀ a, a < 220 → br_okp a := lt_s (lt_s (lt_s (lt_s (lt_s (lt_s (lt_s (lt_s (lt_s (lt_s (lt_s (lt_s (lt_s (lt_s (lt_s (lt_s (lt_s (lt_s (lt_s (lt_s (br_oka200) (Or.inl br_ok200)) (Or.inl br_ok201)) (Or.inl br_ok202)) (Or.inl br_ok203)) (Or.inl br_ok204)) (Or.inl br_ok205)) (Or.inl br_ok206)) (Or.inl br_ok207)) (Or.inl br_ok208)) (Or.inl br_ok209)) (Or.inl br_ok210)) (Or.inl br_ok211)) (Or.inl br_ok212)) (Or.inl br_ok213)) (Or.inl br_ok214)) (Or.inl br_ok215)) (Or.inl br_ok216)) (Or.inl br_ok217)) (Or.inl br_ok218)) (Or.inl br_ok219)
theorem br_oka240 : ∀ a, a < 240 → br_okp a := lt_s (lt_s (lt_s (lt_s (lt_s (lt_s (lt_s (lt_s (lt_s (lt_s (lt_s (lt_s (lt_s (lt_s (lt_s (lt_s (lt_s (lt_s (lt_s (lt_s (br_oka220) (Or.inl br_ok220)) (Or.inl br_ok221)) (Or.inl br_ok222)) (Or.inl br_ok223)) (Or.inl br_ok224)) (Or.inl br_ok225)) (Or.inl br_ok226)) (Or.inl br_ok227)) (Or.inl br_ok228)) (Or.inl br_ok229)) (Or.inl br_ok230)) (Or.inl br_ok231)) (Or.inl br_ok232)) (Or.inl br_ok233)) (Or.inl br_ok234)) (Or.inl br_ok235)) (Or.inl br_ok236)) (Or.inl br_ok237)) (Or.inl br_ok238)) (Or.inl br_ok239)
theorem br_oka260 : ∀ a, a < 260 → br_okp a := lt_s (lt_s (lt_s (lt_s (lt_s (lt_s (lt_s (lt_s (lt_s (lt_s (lt_s (lt_s (lt_s (lt_s (lt_s (lt_s (lt_s (lt_s (lt_s (lt_s (br_oka240) (Or.inl br_ok240)) (Or.inl br_ok241)) (Or.inl br_ok242)) (Or.inl br_ok243)) (Or.inl br_ok244)) (Or.inl br_ok245)) (Or.inl br_ok246)) (Or.inl br_ok247)) (Or.inl br_ok248)) (Or.inl br_ok249)) (Or.inl br_ok250)) (Or.inl br_ok251)) (Or.inl br_ok252)) (Or.inl br_ok253)) (Or.inl br_ok254)) (Or.inl br_ok255)) (Or.inl br_ok256)) (Or.inl br_ok257)) (Or.inl br_ok258)) (Or.inl br_ok259)
theorem br_oka280 : ∀ a, a < 280 → br_okp a := lt_s (lt_s (lt_s (lt_s (lt_s (lt_s (lt_s (lt_s (lt_s (lt_s (lt_s (lt_s (lt_s (lt_s (lt_s (lt_s (lt_s (lt_s (lt_s (lt_s (br_oka260) (Or.inl br_ok260)) (Or.inl br_ok261)) (Or.inl br_ok262)) (Or.inl br_ok263)) (Or.inl br_ok264)) (Or.inl br_ok265)) (Or.inl br_ok266)) (Or.inl br_ok267)) (Or.inl br_ok268)) (Or.inl br_ok269)) (Or.inl br_ok270)) (Or.inl br_ok271)) (Or.inl br_ok272)) (Or.inl br_ok273)) (Or.inl br_ok274)) (Or.inl br_ok275)) (Or.inl br_ok276)) (Or.inl br_ok277)) (Or.inl br_ok278)) (Or.inl br_ok279)
theorem br_oka300 : ∀ a, a < 300 → br_okp a := lt_s (lt_s (lt_s (lt_s (lt_s (lt_s (lt_s (lt_s (lt_s (lt_s (lt_s (lt_s (lt_s (lt_s (lt_s (lt_s (lt_s (lt_s (lt_s (lt_s (br_oka280) (Or.inl br_ok280)) (Or.inl br_ok281)) (Or.inl br_ok282)) (Or.inl br_ok283)) (Or.inl br_ok284)) (Or.inl br_ok285)) (Or.inl br_ok286)) (Or.inl br_ok287)) (Or.inl br_ok288)) (Or.inl br_ok289)) (Or.inl br_ok290)) (Or.inl br_ok291)) (Or.inl br_ok292)) (Or.inl br_ok293)) (Or.inl br_ok294)) (Or.inl br_ok295)) (Or.inl br_ok296)) (Or.inl br_ok297)) (Or.inl br_ok298)) (Or.inl br_ok299)
theorem br_oka301 : ∀ a, a < 301 → br_okp a := lt_s (br_oka300) (Or.inl br_ok300)
theorem br_okall : ∀ a, a < 301 → br_okp a := br_oka301
/-- the call targets' own words -/
theorem br_okj (j : Nat) (h : br_okm j) (h3 : j ≠ 300) : plainFor (br_md j).1 = true ∧ Jvm.Cond.code (br_md j).1 (br_md j).2.1 (br_md j).2.2.1 (br_md j).2.2.2.1 ∈ br_gt ∧ (br_md j).2.2.1 ≤ 29 := by
  obtain ⟨p, hs, hc⟩ := h
  rw [br_chkM_eq, Bool.and_eq_true, Bool.and_eq_true, Bool.and_eq_true, Bool.or_eq_true, decide_eq_true_eq, beq_iff_eq] at hc
  obtain ⟨⟨⟨h1, h2⟩, h3'⟩, -⟩ := hc
  rcases h1 with h1 | h1
  · exact absurd h1 h3
  · exact ⟨h2, br_is_mem h1, h3'⟩
section BRZ
variable {g0 : Nat → Value} {B0 : Nat} {D : va_G} {cA : Nat → ClassId} {oS : Nat → Nat × Nat} {oI : Nat → Nat → Int32} {oR : Nat → Nat → Nat} {l : Launch}
theorem br_tb_sw {pc : Nat} {x : Int32} {lo : Int} {P : Nat → Prop} {dt : Nat} : ∀ (os : List Int) (r : List Nat) (i : Nat), br_tb pc lo i os r = true → -2147483648 ≤ lo → lo + i + os.length - 1 ≤ 2147483647 → br_sw x P dt r → (x.toInt < lo + i ∨ lo + i + os.length - 1 < x.toInt → P dt ∨ x.toInt < lo + i) ∧ ∀ k : Nat, k < os.length → x.toInt = lo + i + k → ∃ (o : Int) (t : Nat), os[k]? = some o ∧ (pc : Int) + o = (t : Int) ∧ P t
  | [], [], i, _, _, _, hs => by
    refine ⟨fun _ => Or.inl hs, fun k hk => ?_⟩
    simp at hk
  | [], _ :: _, i, h, _, _, _ => by simp [br_tb] at h
  | o :: os, [], i, h, _, _, _ => by simp [br_tb] at h
  | o :: os, [_], i, h, _, _, _ => by simp [br_tb] at h
  | o :: os, v :: t :: r, i, h, h1, h2, hs => by
    simp only [br_tb, Bool.and_eq_true, decide_eq_true_eq] at h
    obtain ⟨⟨e1, e2⟩, e3⟩ := h
    simp only [List.length_cons] at h2
    have hv : (Int32.ofNat v).toInt = lo + i := by
      rw [e1]
      exact Int32.toInt_ofInt_of_le (by simp; omega) (by simp; omega)
    obtain ⟨k1, k2⟩ := hs
    by_cases hx : x = Int32.ofNat v
    · have hxi : x.toInt = lo + i := by rw [hx, hv]
      refine ⟨fun q => ?_, fun k hk hkx => ?_⟩
      · rcases q with q | q
        · omega
        · simp only [List.length_cons] at q; omega
      · have : k = 0 := by omega
        subst this
        exact ⟨o, t, rfl, e2, k1 hx⟩
    · have hne : x.toInt ≠ lo + i := fun q => hx (Int32.toInt_inj.mp (q.trans hv.symm))
      obtain ⟨r1, r2⟩ := br_tb_sw os r (i + 1) e3 h1 (by omega) (k2 hx)
      refine ⟨fun q => ?_, fun k hk hkx => ?_⟩
      · rcases q with q | q
        · exact Or.inr q
        · simp only [List.length_cons] at q
          rcases r1 (Or.inr (by omega)) with w | w
          · exact Or.inl w
          · right; omega
      · match k, hk, hkx with
        | 0, _, hkx => exact absurd (by simpa using hkx) hne
        | k + 1, hk, hkx =>
          obtain ⟨o', t', w1, w2, w3⟩ := r2 k (by simpa using hk) (by omega)
          exact ⟨o', t', w1, w2, w3⟩
theorem br_tb_lo {x : Int32} {P : Nat → Prop} {dt : Nat} {pc : Nat} {lo : Int} : ∀ (os : List Int) (r : List Nat) (i : Nat), br_tb pc lo i os r = true → -2147483648 ≤ lo → lo + i + os.length - 1 ≤ 2147483647 → br_sw x P dt r → x.toInt < lo + i → P dt
  | [], [], _, _, _, _, hs, _ => hs
  | [], _ :: _, i, h, _, _, _, _ => by simp [br_tb] at h
  | o :: os, [], i, h, _, _, _, _ => by simp [br_tb] at h
  | o :: os, [_], i, h, _, _, _, _ => by simp [br_tb] at h
  | o :: os, v :: t :: r, i, h, h1, h2, hs, hx => by
    simp only [br_tb, Bool.and_eq_true, decide_eq_true_eq] at h
    obtain ⟨⟨e1, e2⟩, e3⟩ := h
    simp only [List.length_cons] at h2
    have hv : (Int32.ofNat v).toInt = lo + i := by
      rw [e1]
      exact Int32.toInt_ofInt_of_le (by simp; omega) (by simp; omega)
    have hne : ¬ x = Int32.ofNat v := fun q => by rw [q, hv] at hx; omega
    exact br_tb_lo os r (i + 1) e3 h1 (by omega) (hs.2 hne) (by omega)
theorem br_lk_sw {pc : Nat} {x : Int32} {P : Nat → Prop} {dt : Nat} {do_ : Int} (hd : (pc : Int) + do_ = (dt : Int)) : ∀ (ps : List (Int × Int)) (r : List Nat), br_lk pc ps r = true → br_sw x P dt r → ∃ t : Nat, (pc : Int) + Op.lookupswitch.offset ps do_ x.toInt = (t : Int) ∧ P t
  | [], [], _, hs => ⟨dt, by simpa [Op.lookupswitch.offset] using hd, hs⟩
  | [], _ :: _, h, _ => by simp [br_lk] at h
  | _ :: _, [], h, _ => by simp [br_lk] at h
  | _ :: _, [_], h, _ => by simp [br_lk] at h
  | (a, o) :: ps, v :: t :: r, h, hs => by
    simp only [br_lk, Bool.and_eq_true, decide_eq_true_eq] at h
    obtain ⟨⟨e1, e2⟩, e3⟩ := h
    obtain ⟨k1, k2⟩ := hs
    by_cases hx : x = Int32.ofNat v
    · refine ⟨t, ?_, k1 hx⟩
      have hxa : x.toInt = a := by rw [hx, e1]
      simp [Op.lookupswitch.offset, hxa]
      exact e2
    · have hne : x.toInt ≠ a := fun q => hx (Int32.toInt_inj.mp (q.trans e1.symm))
      obtain ⟨t', w1, w2⟩ := br_lk_sw hd ps r e3 (k2 hx)
      refine ⟨t', ?_, w2⟩
      rw [← w1]
      simp [Op.lookupswitch.offset, List.find?, Ne.symm hne, hne]
end BRZ
