set_option maxRecDepth 100000
set_option maxHeartbeats 4000000
theorem br_u_n {α : Type} {f : Nat → Nat → α} {a k p j : Nat} {x : α} (h : ¬ (p = a ∧ j = k)) : br_u f a k x p j = f p j := if_neg h
/-- what holds of a world beside its cells: rooms of children, those not yet come, the words' first cells -/
def br_ex (o : Nat) (g : Nat → Int32) : Prop := ∃ N R : Nat, N ≤ 40 ∧ R ≤ 18 ∧ g (o + 666) = nI N ∧ g (o + 629) = nI R ∧ (∀ c, c < N → ∃ r, r < R ∧ g (o + (667 + c)) = nI r) ∧
  (∀ c, N ≤ c → c < 40 → g (o + (787 + c)) = nI 0 ∧ g (o + (827 + c)) = nI 0 ∧ ∀ t, t < 6 → g (o + (867 + (40 * t + c))) = -(nI 1)) ∧ (∀ i, i < 5 → g (o + 20 * i) = nI 0)
/-- one step of a rule: the height of the stack before and behind it -/
def br_hs (k a b : Nat) : Prop := (k = 22 ∧ 1 ≤ a ∧ b = a) ∨ ((k = 20 ∨ k = 21) ∧ 2 ≤ a ∧ b + 1 = a) ∨ ((k = 23 ∨ k = 24 ∨ k = 25 ∨ k = 11 ∨ k = 26 ∨ k = 27) ∧ b = a + 1)
/-- the rules: the class's steps are the model's, each rule's closed by out -/
def br_ru (w o : Nat) (f : Nat → Nat → Int32) (g : Nat → Int32) : Prop := ∃ (m : Nat) (fr : Nat → Nat) (ht : Nat → Nat → Nat), m ≤ 12 ∧ g (o + 104) = nI m ∧ fr 0 = 0 ∧ f (w + 20) 1 = nI (fr m + m) ∧ fr m ≤ 250 ∧ fr m + m ≤ 400 ∧
  ∀ r, r < m → fr r ≤ fr (r + 1) ∧ fr (r + 1) ≤ fr m ∧ g (o + (105 + r)) = nI (fr r) ∧ g (o + (117 + r)) = nI (fr (r + 1)) ∧ f (w + 21) (fr (r + 1) + r) = nI (18 * 256) ∧ ht r (fr r) = 0 ∧ ht r (fr (r + 1)) = 1 ∧
    ∀ i, fr r ≤ i → i < fr (r + 1) → ht r i ≤ 30 ∧ ∃ k v, v ≤ 200 ∧ g (o + (129 + 2 * i)) = nI k ∧ g (o + (130 + 2 * i)) = nI v ∧ f (w + 21) (i + r) = nI (256 * k + v) ∧ br_hs k (ht r i) (ht r (i + 1))
def br_W (w o : Nat) (I : Nat → Nat → Int32) : Prop := br_cel w o I (I 171) ∧ br_ex o (I 171) ∧ br_ru w o I (I 171)
theorem br_ex_c {o : Nat} {g g' : Nat → Int32} (h : br_ex o g) (hg : ∀ k, k < 1389 → g' (o + k) = g (o + k)) : br_ex o g' := by
  obtain ⟨N, R, hN, hR, h1, h2, h3, h4, h5⟩ := h
  refine ⟨N, R, hN, hR, ?_, ?_, fun c hc => ?_, fun c h6 h7 => ?_, fun i hi => ?_⟩
  · rw [hg _ (by omega)]; exact h1
  · rw [hg _ (by omega)]; exact h2
  · obtain ⟨r, hr, e⟩ := h3 c hc
    exact ⟨r, hr, by rw [hg _ (by omega)]; exact e⟩
  · obtain ⟨e1, e2, e3⟩ := h4 c h6 h7
    refine ⟨by rw [hg _ (by omega)]; exact e1, by rw [hg _ (by omega)]; exact e2, fun t ht => ?_⟩
    rw [hg _ (by omega)]; exact e3 t ht
  · rw [hg _ (by omega)]; exact h5 i hi
theorem br_ru_c {w o : Nat} {f f' : Nat → Nat → Int32} {g g' : Nat → Int32} (h : br_ru w o f g) (hs : f' (w + 20) 1 = f (w + 20) 1) (hf : ∀ j, f' (w + 21) j = f (w + 21) j) (hg : ∀ k, 104 ≤ k → k < 629 → g' (o + k) = g (o + k)) : br_ru w o f' g' := by
  obtain ⟨m, fr, ht, hm, h1, h2, h3, h4, h5, h6⟩ := h
  refine ⟨m, fr, ht, hm, ?_, h2, ?_, h4, h5, fun r hr => ?_⟩
  · rw [hg _ (by omega) (by omega)]; exact h1
  · rw [hs]; exact h3
  · obtain ⟨e1, e2, e3, e4, e5, e6, e7, e8⟩ := h6 r hr
    refine ⟨e1, e2, ?_, ?_, ?_, e6, e7, fun i hi hi2 => ?_⟩
    · rw [hg _ (by omega) (by omega)]; exact e3
    · rw [hg _ (by omega) (by omega)]; exact e4
    · rw [hf]; exact e5
    · obtain ⟨q0, k, v, q1, q2, q3, q4, q5⟩ := e8 i hi hi2
      refine ⟨q0, k, v, q1, ?_, ?_, ?_, q5⟩
      · rw [hg _ (by omega) (by omega)]; exact q2
      · rw [hg _ (by omega) (by omega)]; exact q3
      · rw [hf]; exact q4
theorem br_W_c {w o : Nat} {I I' : Nat → Nat → Int32} (h : br_W w o I) (hf : ∀ p j, w ≤ p → p ≤ w + 42 → I' p j = I p j) (hg : ∀ k, k < 1389 → I' 171 (o + k) = I 171 (o + k)) : br_W w o I' :=
  ⟨br_cel_c h.1 (fun p j h1 h2 _ _ => hf p j h1 h2) (fun k hk _ => hg k hk), br_ex_c h.2.1 hg, br_ru_c h.2.2 (hf _ _ (by omega) (by omega)) (fun j => hf _ _ (by omega) (by omega)) (fun k _ hk => hg k (by omega))⟩
/-- a world goes over into another one -/
theorem br_W_to {w o w' o' : Nat} {I I' : Nat → Nat → Int32} (h : br_W w o I) (hf : ∀ q j, q ≤ 42 → I' (w' + q) j = I (w + q) j) (hg : ∀ k, k < 1389 → I' 171 (o' + k) = I 171 (o + k)) : br_W w' o' I' := by
  obtain ⟨h1, ⟨N, R, hN, hR, a1, a2, a3, a4, a5⟩, ⟨m, fr, ht, hm, b1, b2, b3, b4, b5, b6⟩⟩ := h
  refine ⟨fun r hr j hj => ?_, ⟨N, R, hN, hR, ?_, ?_, fun c hc => ?_, fun c h6 h7 => ?_, fun i hi => ?_⟩, ⟨m, fr, ht, hm, ?_, b2, ?_, b4, b5, fun r hr => ?_⟩⟩
  · have h2 := List.all_eq_true.mp br_rows_in r hr
    simp only [Bool.and_eq_true, Bool.or_eq_true, Nat.ble_eq] at h2
    obtain ⟨⟨⟨⟨h2, h3⟩, _⟩, _⟩, _⟩ := h2
    rw [hf _ _ h2, hg _ (by omega)]
    exact h1 r hr j hj
  · rw [hg _ (by omega)]; exact a1
  · rw [hg _ (by omega)]; exact a2
  · obtain ⟨r, hr, e⟩ := a3 c hc
    exact ⟨r, hr, by rw [hg _ (by omega)]; exact e⟩
  · obtain ⟨e1, e2, e3⟩ := a4 c h6 h7
    refine ⟨by rw [hg _ (by omega)]; exact e1, by rw [hg _ (by omega)]; exact e2, fun t ht => ?_⟩
    rw [hg _ (by omega)]; exact e3 t ht
  · rw [hg _ (by omega)]; exact a5 i hi
  · rw [hg _ (by omega)]; exact b1
  · rw [hf _ _ (by omega)]; exact b3
  · obtain ⟨e1, e2, e3, e4, e5, e6, e7, e8⟩ := b6 r hr
    refine ⟨e1, e2, ?_, ?_, ?_, e6, e7, fun i hi hi2 => ?_⟩
    · rw [hg _ (by omega)]; exact e3
    · rw [hg _ (by omega)]; exact e4
    · rw [hf _ _ (by omega)]; exact e5
    · obtain ⟨q0, k, v, q1, q2, q3, q4, q5⟩ := e8 i hi hi2
      refine ⟨q0, k, v, q1, ?_, ?_, ?_, q5⟩
      · rw [hg _ (by omega)]; exact q2
      · rw [hg _ (by omega)]; exact q3
      · rw [hf _ _ (by omega)]; exact q4
def br_im (I : Nat → Nat → Int32) : Prop := ∀ i, i < 2 → (I 53 i = nI 0 ∧ I 172 i = nI 0) ∨ (I 53 i = nI 1 ∧ I 172 i = nI 1 ∧ br_W (83 + 43 * i) (1389 * (i + 1)) I)
def br_rw (I : Nat → Nat → Int32) (L : Nat → Nat → Int64) : Prop := ∀ r, r < 4 → (I 81 r = -(nI 1) ∧ I 179 r = -(nI 1)) ∨ ∃ m s, m ≤ 40 ∧ s ≤ 3 ∧ I 81 r = nI m ∧ I 180 r = nI m ∧ I 80 r = nI s ∧ I 179 r = nI s ∧ ∀ k, k < m → L (76 + r) k = L 181 (40 * r + k)
def br_rf (I : Nat → Nat → Int32) : Prop := ∀ k, k < 8 → I 82 k = I 170 k
def br_fr (L : Nat → Nat → Int64) : Prop := L 72 0 = L 169 19 ∧ L 72 1 = L 169 20 ∧ 0 ≤ (L 72 1).toInt
def br_tp (I : Nat → Nat → Int32) : Prop := ∃ T, T ≤ 400 ∧ I 55 1 = nI T ∧ I 169 6 = nI T ∧ ∀ k, k < T → ∃ b, b < 256 ∧ I 56 k &&& nI 255 = nI b ∧ I 173 k = nI b
def br_ft (I : Nat → Nat → Int32) : Prop := I 54 3 = I 169 16 ∧ I 54 4 = I 169 17
def br_wy (I : Nat → Nat → Int32) (L : Nat → Nat → Int64) : Prop := ∃ t s, t ≤ 40 ∧ s ≤ 16000 ∧ I 169 25 = nI t ∧ I 169 26 = nI s ∧ ∀ k x, k ≤ 40 → x ≤ 16000 → (t < k ∨ s < x) → L 177 (16001 * k + x) = lN 0
def br_od (xs : Nat → Int32) (I : Nat → Nat → Int32) : Prop := ∀ p j, p < 8 → I p j = br_oI xs p j
def br_oth (xs : Nat → Int32) (I : Nat → Nat → Int32) (L : Nat → Nat → Int64) : Prop := br_im I ∧ br_rw I L ∧ br_tp I ∧ br_ft I ∧ br_od xs I
def br_Inv (xs : Nat → Int32) (I : Nat → Nat → Int32) (L : Nat → Nat → Int64) : Prop := br_W 9 0 I ∧ br_oth xs I L ∧ br_rf I ∧ br_fr L ∧ br_wy I L
/-- the cells that the rest rests on -/
def br_kO (p j : Nat) : Prop := p < 8 ∨ p = 53 ∨ (p = 54 ∧ (j = 3 ∨ j = 4)) ∨ (p = 55 ∧ j = 1) ∨ p = 56 ∨ p = 80 ∨ p = 81 ∨ (83 ≤ p ∧ p ≤ 168) ∨ (p = 169 ∧ (j = 6 ∨ j = 16 ∨ j = 17)) ∨ (p = 171 ∧ 1389 ≤ j) ∨ p = 172 ∨ p = 173 ∨ p = 179 ∨ p = 180
def br_kL (p : Nat) : Prop := p = 76 ∨ p = 77 ∨ p = 78 ∨ p = 79 ∨ p = 181
theorem br_im_c {I I' : Nat → Nat → Int32} (h : br_im I) (hI : ∀ p j, br_kO p j → I' p j = I p j) : br_im I' := by
  intro i hi
  rw [hI 53 i (by unfold br_kO; omega), hI 172 i (by unfold br_kO; omega)]
  rcases h i hi with h1 | ⟨h1, h2, h3⟩
  · exact Or.inl h1
  · exact Or.inr ⟨h1, h2, br_W_c h3 (fun p j h4 h5 => hI p j (by unfold br_kO; omega)) (fun k hk => hI 171 _ (by unfold br_kO; omega))⟩
theorem br_rw_c {I I' : Nat → Nat → Int32} {L L' : Nat → Nat → Int64} (h : br_rw I L) (hI : ∀ p j, br_kO p j → I' p j = I p j) (hL : ∀ p j, br_kL p → L' p j = L p j) : br_rw I' L' := by
  intro r hr
  rw [hI 81 r (by unfold br_kO; omega), hI 179 r (by unfold br_kO; omega), hI 80 r (by unfold br_kO; omega), hI 180 r (by unfold br_kO; omega)]
  rcases h r hr with h1 | ⟨m, s, h1, h2, h3, h4, h5, h6, h7⟩
  · exact Or.inl h1
  · refine Or.inr ⟨m, s, h1, h2, h3, h4, h5, h6, fun k hk => ?_⟩
    rw [hL (76 + r) k (by unfold br_kL; omega), hL 181 _ (by unfold br_kL; omega)]
    exact h7 k hk
theorem br_tp_c {I I' : Nat → Nat → Int32} (h : br_tp I) (hI : ∀ p j, br_kO p j → I' p j = I p j) : br_tp I' := by
  obtain ⟨T, h1, h2, h3, h4⟩ := h
  refine ⟨T, h1, ?_, ?_, fun k hk => ?_⟩
  · rw [hI 55 1 (by unfold br_kO; omega)]; exact h2
  · rw [hI 169 6 (by unfold br_kO; omega)]; exact h3
  · rw [hI 56 k (by unfold br_kO; omega), hI 173 k (by unfold br_kO; omega)]; exact h4 k hk
theorem br_ft_c {I I' : Nat → Nat → Int32} (h : br_ft I) (hI : ∀ p j, br_kO p j → I' p j = I p j) : br_ft I' := by
  unfold br_ft
  rw [hI 54 3 (by unfold br_kO; omega), hI 54 4 (by unfold br_kO; omega), hI 169 16 (by unfold br_kO; omega), hI 169 17 (by unfold br_kO; omega)]
  exact h
theorem br_oth_c {xs : Nat → Int32} {I I' : Nat → Nat → Int32} {L L' : Nat → Nat → Int64} (h : br_oth xs I L) (hI : ∀ p j, br_kO p j → I' p j = I p j) (hL : ∀ p j, br_kL p → L' p j = L p j) : br_oth xs I' L' :=
  ⟨br_im_c h.1 hI, br_rw_c h.2.1 hI hL, br_tp_c h.2.2.1 hI, br_ft_c h.2.2.2.1 hI, fun p j hp => by rw [hI p j (by unfold br_kO; omega)]; exact h.2.2.2.2 p j hp⟩
theorem br_rf_c {I I' : Nat → Nat → Int32} (h : br_rf I) (h1 : ∀ j, I' 82 j = I 82 j) (h2 : ∀ j, I' 170 j = I 170 j) : br_rf I' := fun k hk => by rw [h1, h2]; exact h k hk
theorem br_wy_c {I I' : Nat → Nat → Int32} {L L' : Nat → Nat → Int64} (h : br_wy I L) (h1 : I' 169 25 = I 169 25) (h2 : I' 169 26 = I 169 26) (hL : ∀ j, L' 177 j = L 177 j) : br_wy I' L' := by
  obtain ⟨t, s, a1, a2, a3, a4, a5⟩ := h
  exact ⟨t, s, a1, a2, by rw [h1]; exact a3, by rw [h2]; exact a4, fun k x b1 b2 b3 => by rw [hL]; exact a5 k x b1 b2 b3⟩
theorem br_fr_c {L L' : Nat → Nat → Int64} (h : br_fr L) (h1 : L' 72 0 = L 72 0) (h2 : L' 72 1 = L 72 1) (h3 : L' 169 19 = L 169 19) (h4 : L' 169 20 = L 169 20) : br_fr L' := by
  unfold br_fr
  rw [h1, h2, h3, h4]
  exact h
/-- kept cells of a call that changes nothing but what is not looked at any more -/
def br_kA (p j : Nat) : Prop := br_kO p j ∨ (9 ≤ p ∧ p ≤ 51) ∨ (p = 171 ∧ j < 1389) ∨ p = 82 ∨ p = 170 ∨ (p = 169 ∧ (j = 25 ∨ j = 26))
theorem br_Inv_c {xs : Nat → Int32} {I I' : Nat → Nat → Int32} {L L' : Nat → Nat → Int64} (h : br_Inv xs I L) (hI : ∀ p j, br_kA p j → I' p j = I p j) (hL : ∀ p j, br_kL p ∨ p = 177 → L' p j = L p j) (hF : br_fr L') : br_Inv xs I' L' :=
  ⟨br_W_c h.1 (fun p j h1 h2 => hI p j (by unfold br_kA; omega)) (fun k hk => hI _ _ (by unfold br_kA; omega)), br_oth_c h.2.1 (fun p j hp => hI p j (Or.inl hp)) (fun p j hp => hL p j (Or.inl hp)),
    br_rf_c h.2.2.1 (fun j => hI _ _ (by unfold br_kA; omega)) (fun j => hI _ _ (by unfold br_kA; omega)), hF, br_wy_c h.2.2.2.2 (hI _ _ (by unfold br_kA; omega)) (hI _ _ (by unfold br_kA; omega)) (fun j => hL _ _ (Or.inr rfl))⟩
/-- a call that is refused -/
theorem br_Inv_no {xs : Nat → Int32} {I : Nat → Nat → Int32} {L : Nat → Nat → Int64} (h : br_Inv xs I L) {k : Nat} (hk : k < 8) {I' : Nat → Nat → Int32} (h1 : I' 82 k = I 82 k + nI 1) (h2 : I' 170 k = I 170 k + nI 1)
    (hI : ∀ p j, br_kA p j → ¬ (p = 82 ∧ j = k) → ¬ (p = 170 ∧ j = k) → I' p j = I p j) : br_Inv xs I' L := by
  refine ⟨br_W_c h.1 (fun p j h1 h2 => hI p j (by unfold br_kA; omega) (by omega) (by omega)) (fun k hk => hI _ _ (by unfold br_kA; omega) (by omega) (by omega)), br_oth_c h.2.1 (fun p j hp => hI p j (Or.inl hp) (by unfold br_kO at hp; omega) (by unfold br_kO at hp; omega)) (fun p j hp => rfl), fun j hj => ?_, h.2.2.2.1,
    br_wy_c h.2.2.2.2 (hI _ _ (by unfold br_kA; omega) (by omega) (by omega)) (hI _ _ (by unfold br_kA; omega) (by omega) (by omega)) (fun j => rfl)⟩
  by_cases e : j = k
  · subst e
    rw [h1, h2, h.2.2.1 j hj]
  · rw [hI _ _ (by unfold br_kA; omega) (by omega) (by omega), hI _ _ (by unfold br_kA; omega) (by omega) (by omega)]
    exact h.2.2.1 j hj
