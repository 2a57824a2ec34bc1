set_option maxRecDepth 100000
set_option maxHeartbeats 4000000
/-! the tokens of a text: kind (as the class numbers them), place, number -/
abbrev tk_T : Type := Nat × Nat × Nat
def tk_sp (c : Nat) : Bool := decide (c = 10 ∨ c = 32)
def tk_lt (c : Nat) : Bool := decide (97 ≤ c ∧ c ≤ 122)
def tk_dg (c : Nat) : Bool := decide (48 ≤ c ∧ c ≤ 57)
def tk_e (b : Nat → Nat) (n : Nat) (q : Nat → Bool) : Nat → Nat → Nat
  | 0, i => i
  | f + 1, i => if i < n ∧ q (b i) = true then tk_e b n q f (i + 1) else i
theorem tk_e_T {b : Nat → Nat} {n f i : Nat} {q : Nat → Bool} (h : i < n) (h2 : q (b i) = true) : tk_e b n q (f + 1) i = tk_e b n q f (i + 1) := if_pos ⟨h, h2⟩
theorem tk_e_F {b : Nat → Nat} {n i : Nat} {q : Nat → Bool} (h : i < n → q (b i) = false) : ∀ f, tk_e b n q f i = i
  | 0 => rfl
  | f + 1 => if_neg (fun z => by rw [h z.1] at z; exact Bool.false_ne_true z.2)
theorem tk_e_b {b : Nat → Nat} {n : Nat} {q : Nat → Bool} : ∀ f i, i ≤ tk_e b n q f i ∧ (i ≤ n → tk_e b n q f i ≤ n)
  | 0, i => ⟨Nat.le_refl _, fun h => h⟩
  | f + 1, i => by
    by_cases h : i < n ∧ q (b i) = true
    · rw [tk_e_T h.1 h.2]
      have := tk_e_b (b := b) (n := n) (q := q) f (i + 1)
      exact ⟨by omega, fun _ => this.2 (by omega)⟩
    · have e : tk_e b n q (f + 1) i = i := if_neg h
      rw [e]; exact ⟨Nat.le_refl _, fun h => h⟩
theorem tk_e_f {b : Nat → Nat} {n : Nat} {q : Nat → Bool} : ∀ f g i, n ≤ i + f → n ≤ i + g → tk_e b n q f i = tk_e b n q g i
  | 0, g, i, h, _ => (tk_e_F (i := i) (fun z => absurd z (by omega)) g).symm
  | f + 1, 0, i, _, h => tk_e_F (i := i) (fun z => absurd z (by omega)) (f + 1)
  | f + 1, g + 1, i, h1, h2 => by
    by_cases h : i < n ∧ q (b i) = true
    · rw [tk_e_T h.1 h.2, tk_e_T h.1 h.2, tk_e_f f g (i + 1) (by omega) (by omega)]
    · rw [show tk_e b n q (f + 1) i = i from if_neg h, show tk_e b n q (g + 1) i = i from if_neg h]
/-- what follows is all of the sort -/
theorem tk_e_q {b : Nat → Nat} {n : Nat} {q : Nat → Bool} : ∀ f i j, i ≤ j → j < tk_e b n q f i → q (b j) = true
  | 0, i, j, h1, h2 => by
    have h3 : j < i := h2
    omega
  | f + 1, i, j, h1, h2 => by
    by_cases h : i < n ∧ q (b i) = true
    · rw [tk_e_T h.1 h.2] at h2
      by_cases e : j = i
      · rw [e]; exact h.2
      · exact tk_e_q f (i + 1) j (by omega) h2
    · rw [show tk_e b n q (f + 1) i = i from if_neg h] at h2; omega
/-! words -/
def tk_CW : List (List Nat) := [[110, 97, 109, 101, 100], [116, 114, 117, 101], [98, 97, 100], [109, 97, 114, 107, 101, 100], [104, 101, 97, 114, 100], [119, 97, 114, 109, 116, 104], [116, 105, 109, 101], [104, 97, 114, 100, 101, 114], [109, 111, 118, 101, 115], [103, 105, 118, 101, 115], [103, 114, 111, 119, 115], [107, 110, 111, 119, 110], [103, 105, 102, 116], [104, 101, 97, 114, 115], [109, 97, 114, 107, 115], [110, 111, 105, 115, 101], [102, 108, 111, 111, 114], [114, 111, 111, 102], [111, 117, 116], [105, 102], [111, 114], [97, 110, 100], [110, 111, 116], [116, 111, 108, 100], [114, 111, 111, 109], [103, 114, 97, 100, 101], [98, 101, 108, 111, 119], [97, 98, 111, 118, 101]]
def tk_KW : List (List Nat) := [[110, 97, 109, 101, 100], [116, 114, 117, 101], [98, 97, 100], [109, 97, 114, 107, 101, 100], [104, 101, 97, 114, 100], [109, 111, 118, 101, 115], [119, 97, 114, 109, 116, 104], [116, 105, 109, 101], [104, 97, 114, 100, 101, 114], [103, 105, 118, 101, 115], [103, 114, 111, 119, 115], [107, 110, 111, 119, 110], [103, 105, 102, 116], [104, 101, 97, 114, 115], [109, 97, 114, 107, 115], [110, 111, 105, 115, 101], [102, 108, 111, 111, 114], [114, 111, 111, 102], [111, 117, 116], [105, 102], [111, 114], [97, 110, 100], [110, 111, 116], [116, 111, 108, 100], [114, 111, 111, 109], [103, 114, 97, 100, 101], [98, 101, 108, 111, 119], [97, 98, 111, 118, 101]]
def tk_enc : List (List Nat) → List Nat
  | [] => []
  | w :: ws => w ++ 32 :: tk_enc ws
theorem tk_wordsL : br_wordsL = (tk_enc tk_CW).map nI := by decide +kernel
theorem tk_keysL : br_keysL = (32 :: tk_enc tk_KW).map nI := by decide +kernel
def tk_m (b : Nat → Nat) (e : Nat) : List Nat → Nat → Bool
  | [], i => decide (i = e)
  | c :: w, i => decide (i < e ∧ b i = c) && tk_m b e w (i + 1)
def tk_g (b : Nat → Nat) : Nat → Nat → List Nat
  | 0, _ => []
  | k + 1, p => b p :: tk_g b k (p + 1)
theorem tk_m_g {b : Nat → Nat} : ∀ (w : List Nat) (k p : Nat), tk_m b (p + k) w p = decide (tk_g b k p = w)
  | [], 0, p => by
    show decide (p = p + 0) = decide (([] : List Nat) = [])
    rw [decide_eq_true rfl, decide_eq_true (by omega)]
  | [], k + 1, p => by
    show decide (p = p + (k + 1)) = decide (b p :: tk_g b k (p + 1) = [])
    rw [decide_eq_false (by omega), decide_eq_false (by simp)]
  | c :: w, 0, p => by
    show (decide (p < p + 0 ∧ b p = c) && _) = decide (([] : List Nat) = c :: w)
    rw [decide_eq_false (by omega), decide_eq_false (by simp)]; rfl
  | c :: w, k + 1, p => by
    have ih := tk_m_g (b := b) w k (p + 1)
    show (decide (p < p + (k + 1) ∧ b p = c) && tk_m b (p + (k + 1)) w (p + 1)) = decide (b p :: tk_g b k (p + 1) = c :: w)
    rw [show p + (k + 1) = p + 1 + k by omega, ih]
    by_cases h : b p = c
    · rw [decide_eq_true (show p < p + 1 + k ∧ b p = c from ⟨by omega, h⟩), Bool.true_and, h]
      refine decide_eq_decide.mpr ?_
      simp
    · rw [decide_eq_false (fun z => h z.2), decide_eq_false (fun z => h (List.cons.inj z).1)]; rfl
def tk_ix (P : List Nat → Bool) (o : Nat) : List (List Nat) → Nat → Nat
  | [], _ => o
  | w :: ws, k => if P w = true then k else tk_ix P o ws (k + 1)
theorem tk_ix_c {P R : List Nat → Bool} {o : Nat} (h : ∀ w, P w = R w) : ∀ ws k, tk_ix P o ws k = tk_ix R o ws k
  | [], _ => rfl
  | w :: ws, k => by
    show (if P w = true then k else _) = (if R w = true then k else _)
    rw [h, tk_ix_c h ws]
theorem tk_ix_no {s : List Nat} {o : Nat} : ∀ (ws : List (List Nat)) (k : Nat), ¬ s ∈ ws → tk_ix (fun w => decide (s = w)) o ws k = o
  | [], _, _ => rfl
  | w :: ws, k, h => by
    show (if decide (s = w) = true then k else _) = o
    rw [if_neg (fun z => h (by rw [of_decide_eq_true z]; exact List.mem_cons_self))]
    exact tk_ix_no ws (k + 1) (fun z => h (List.mem_cons_of_mem _ z))
/-- the class's kinds as the model numbers them -/
def tk_k (k : Nat) : Nat := if k < 5 then k else if k < 8 then k + 1 else if k = 8 then 5 else if k < 28 then k else if k = 40 then 28 else if k = 41 then 29 else if k = 42 then 34 else if k = 44 then 30 else if k = 45 then 31 else if k = 46 then 32 else if k = 47 then 33 else 35
def tk_cw (s : List Nat) : Nat := tk_ix (fun w => decide (s = w)) 40 tk_CW 0
theorem tk_cw_k (s : List Nat) : tk_ix (fun w => decide (s = w)) 28 tk_KW 0 = tk_k (tk_cw s) := by
  unfold tk_cw
  by_cases h : s ∈ tk_CW
  · have : ∀ s, s ∈ tk_CW → tk_ix (fun w => decide (s = w)) 28 tk_KW 0 = tk_k (tk_ix (fun w => decide (s = w)) 40 tk_CW 0) := by decide +kernel
    exact this s h
  · have hs : ∀ w, w ∈ tk_KW → w ∈ tk_CW := by decide +kernel
    have h2 : ¬ s ∈ tk_KW := fun z => h (hs s z)
    rw [tk_ix_no _ _ h, tk_ix_no _ _ h2]; rfl
theorem tk_cw_b (s : List Nat) : (tk_cw s < 28 ∧ 2 ≤ s.length) ∨ tk_cw s = 40 := by
  unfold tk_cw
  by_cases h : s ∈ tk_CW
  · have : ∀ s, s ∈ tk_CW → tk_ix (fun w => decide (s = w)) 40 tk_CW 0 < 28 ∧ 2 ≤ s.length := by decide +kernel
    exact Or.inl (this s h)
  · exact Or.inr (tk_ix_no _ _ h)
theorem tk_g_len {b : Nat → Nat} : ∀ k p, (tk_g b k p).length = k
  | 0, _ => rfl
  | k + 1, p => by show (tk_g b k (p + 1)).length + 1 = k + 1; rw [tk_g_len k]
/-- the class looks a word up letter by letter -/
def tk_wa (b : Nat → Nat) (p e : Nat) : List Nat → Nat → Nat → Bool → Nat
  | [], _, _, _ => 40
  | c :: cs, w, i, s => if c = 32 then (if s = true ∧ i = e then w else tk_wa b p e cs (w + 1) p true) else if s = true ∧ i < e ∧ b i = c then tk_wa b p e cs w (i + 1) true else tk_wa b p e cs w i false
theorem tk_wa_F {b : Nat → Nat} {p e k : Nat} {cs : List Nat} : ∀ (w : List Nat) (i : Nat), ¬ 32 ∈ w → tk_wa b p e (w ++ 32 :: cs) k i false = tk_wa b p e cs (k + 1) p true
  | [], i, _ => by
    show (if (32 : Nat) = 32 then (if false = true ∧ i = e then k else _) else _) = _
    rw [if_pos rfl, if_neg (fun z => Bool.false_ne_true z.1)]
  | c :: w, i, h => by
    show (if c = 32 then _ else if false = true ∧ i < e ∧ b i = c then _ else tk_wa b p e (w ++ 32 :: cs) k i false) = _
    rw [if_neg (fun z => h (by rw [z]; exact List.mem_cons_self)), if_neg (fun z => Bool.false_ne_true z.1)]
    exact tk_wa_F w i (fun z => h (List.mem_cons_of_mem _ z))
theorem tk_wa_T {b : Nat → Nat} {p e k : Nat} {cs : List Nat} : ∀ (w : List Nat) (i : Nat), ¬ 32 ∈ w → tk_wa b p e (w ++ 32 :: cs) k i true = if tk_m b e w i = true then k else tk_wa b p e cs (k + 1) p true
  | [], i, _ => by
    show (if (32 : Nat) = 32 then (if true = true ∧ i = e then k else _) else _) = (if decide (i = e) = true then k else _)
    rw [if_pos rfl]
    by_cases h : i = e
    · rw [if_pos ⟨rfl, h⟩, if_pos (decide_eq_true h)]
    · rw [if_neg (fun z => h z.2), if_neg (fun z => h (of_decide_eq_true z))]
  | c :: w, i, h => by
    show (if c = 32 then _ else if true = true ∧ i < e ∧ b i = c then tk_wa b p e (w ++ 32 :: cs) k (i + 1) true else tk_wa b p e (w ++ 32 :: cs) k i false) = (if (decide (i < e ∧ b i = c) && tk_m b e w (i + 1)) = true then k else _)
    rw [if_neg (fun z => h (by rw [z]; exact List.mem_cons_self))]
    have hw : ¬ 32 ∈ w := fun z => h (List.mem_cons_of_mem _ z)
    by_cases h2 : i < e ∧ b i = c
    · rw [if_pos ⟨rfl, h2⟩, decide_eq_true h2, Bool.true_and, tk_wa_T w (i + 1) hw]
    · rw [if_neg (fun z => h2 z.2), decide_eq_false h2, Bool.false_and, if_neg Bool.false_ne_true, tk_wa_F w i hw]
theorem tk_wa_ix {b : Nat → Nat} {p e : Nat} : ∀ (ws : List (List Nat)) (k : Nat), (∀ w, w ∈ ws → ¬ 32 ∈ w) → tk_wa b p e (tk_enc ws) k p true = tk_ix (fun w => tk_m b e w p) 40 ws k
  | [], _, _ => rfl
  | w :: ws, k, h => by
    show tk_wa b p e (w ++ 32 :: tk_enc ws) k p true = if tk_m b e w p = true then k else _
    rw [tk_wa_T w p (h w List.mem_cons_self), tk_wa_ix ws (k + 1) (fun w hw => h w (List.mem_cons_of_mem _ hw))]
theorem tk_CW32 : ∀ w, w ∈ tk_CW → ¬ 32 ∈ w := by decide +kernel
theorem tk_KW32 : ∀ w, w ∈ tk_KW → ¬ 32 ∈ w := by decide +kernel
theorem tk_wa_cw {b : Nat → Nat} {p k : Nat} : tk_wa b p (p + k) (tk_enc tk_CW) 0 p true = tk_cw (tk_g b k p) := by
  rw [tk_wa_ix tk_CW 0 tk_CW32]
  exact tk_ix_c (fun w => tk_m_g w k p) _ _
/-! numbers -/
def tk_nu (b : Nat → Nat) : Nat → Nat → Nat → Nat
  | 0, _, a => a
  | k + 1, p, a => tk_nu b k (p + 1) (10 * a + b p - 48)
def tk_sg (c : Nat) : Nat := if c = 40 then 45 else if c = 41 then 46 else if c = 45 then 47 else if c = 59 then 44 else 43
/-- the token at a place, and its end -/
def tk_at (b : Nat → Nat) (n p : Nat) : tk_T × Nat :=
  if tk_lt (b p) = true then ((tk_cw (tk_g b (tk_e b n tk_lt n (p + 1) - p) p), p, 0), tk_e b n tk_lt n (p + 1))
  else if tk_dg (b p) = true then (if tk_e b n tk_dg n (p + 1) - p ≤ 3 then ((41, p, tk_nu b (tk_e b n tk_dg n (p + 1) - p) p 0), tk_e b n tk_dg n (p + 1)) else ((43, p, 0), tk_e b n tk_dg n (p + 1)))
  else ((tk_sg (b p), p, 0), p + 1)
theorem tk_at_L {b : Nat → Nat} {n p : Nat} (h : tk_lt (b p) = true) : tk_at b n p = ((tk_cw (tk_g b (tk_e b n tk_lt n (p + 1) - p) p), p, 0), tk_e b n tk_lt n (p + 1)) := if_pos h
theorem tk_at_D {b : Nat → Nat} {n p : Nat} (h : ¬ tk_lt (b p) = true) (h2 : tk_dg (b p) = true) (h3 : tk_e b n tk_dg n (p + 1) - p ≤ 3) : tk_at b n p = ((41, p, tk_nu b (tk_e b n tk_dg n (p + 1) - p) p 0), tk_e b n tk_dg n (p + 1)) := by unfold tk_at; rw [if_neg h, if_pos h2, if_pos h3]
theorem tk_at_B {b : Nat → Nat} {n p : Nat} (h : ¬ tk_lt (b p) = true) (h2 : tk_dg (b p) = true) (h3 : ¬ tk_e b n tk_dg n (p + 1) - p ≤ 3) : tk_at b n p = ((43, p, 0), tk_e b n tk_dg n (p + 1)) := by unfold tk_at; rw [if_neg h, if_pos h2, if_neg h3]
theorem tk_at_S {b : Nat → Nat} {n p : Nat} (h : ¬ tk_lt (b p) = true) (h2 : ¬ tk_dg (b p) = true) : tk_at b n p = ((tk_sg (b p), p, 0), p + 1) := by unfold tk_at; rw [if_neg h, if_neg h2]
theorem tk_sg_b (c : Nat) : 43 ≤ tk_sg c ∧ tk_sg c ≤ 47 := by
  unfold tk_sg
  repeat' split
  all_goals omega
theorem tk_at_b {b : Nat → Nat} {n p : Nat} (hp : p < n) : (tk_at b n p).1.2.1 = p ∧ p < (tk_at b n p).2 ∧ (tk_at b n p).2 ≤ n ∧ ((tk_at b n p).1.1 < 28 ∧ p + 2 ≤ (tk_at b n p).2 ∨ 40 ≤ (tk_at b n p).1.1 ∧ (tk_at b n p).1.1 ≤ 47 ∧ (tk_at b n p).1.1 ≠ 42) := by
  by_cases h : tk_lt (b p) = true
  · rw [tk_at_L h]
    have h1 := tk_e_b (b := b) (n := n) (q := tk_lt) n (p + 1)
    have h2 := tk_cw_b (tk_g b (tk_e b n tk_lt n (p + 1) - p) p)
    rw [tk_g_len] at h2
    refine ⟨rfl, by show p < tk_e b n tk_lt n (p + 1); omega, h1.2 (by omega), ?_⟩
    show (tk_cw _ < 28 ∧ p + 2 ≤ tk_e b n tk_lt n (p + 1)) ∨ _
    rcases h2 with h2 | h2
    · exact Or.inl ⟨h2.1, by omega⟩
    · refine Or.inr ?_
      show 40 ≤ tk_cw _ ∧ tk_cw _ ≤ 47 ∧ tk_cw _ ≠ 42
      rw [h2]; omega
  · by_cases h2 : tk_dg (b p) = true
    · have h1 := tk_e_b (b := b) (n := n) (q := tk_dg) n (p + 1)
      by_cases h3 : tk_e b n tk_dg n (p + 1) - p ≤ 3
      · rw [tk_at_D h h2 h3]
        refine ⟨rfl, by show p < tk_e b n tk_dg n (p + 1); omega, h1.2 (by omega), Or.inr ?_⟩
        show 40 ≤ 41 ∧ 41 ≤ 47 ∧ 41 ≠ 42
        omega
      · rw [tk_at_B h h2 h3]
        refine ⟨rfl, by show p < tk_e b n tk_dg n (p + 1); omega, h1.2 (by omega), Or.inr ?_⟩
        show 40 ≤ 43 ∧ 43 ≤ 47 ∧ 43 ≠ 42
        omega
    · rw [tk_at_S h h2]
      have h3 := tk_sg_b (b p)
      refine ⟨rfl, by show p < p + 1; omega, hp, Or.inr ?_⟩
      show 40 ≤ tk_sg (b p) ∧ tk_sg (b p) ≤ 47 ∧ tk_sg (b p) ≠ 42
      omega
def tk_l (b : Nat → Nat) (n : Nat) : Nat → Nat → List tk_T
  | 0, _ => []
  | f + 1, i => if i < n then (if tk_sp (b i) = true then tk_l b n f (i + 1) else (tk_at b n i).1 :: tk_l b n f (tk_at b n i).2) else []
theorem tk_l_0 {b : Nat → Nat} {n i : Nat} (h : n ≤ i) : ∀ f, tk_l b n f i = []
  | 0 => rfl
  | f + 1 => if_neg (by omega)
theorem tk_l_S {b : Nat → Nat} {n f i : Nat} (h : i < n) (h2 : tk_sp (b i) = true) : tk_l b n (f + 1) i = tk_l b n f (i + 1) := by
  show (if i < n then _ else _) = _
  rw [if_pos h, if_pos h2]
theorem tk_l_T {b : Nat → Nat} {n f i : Nat} (h : i < n) (h2 : ¬ tk_sp (b i) = true) : tk_l b n (f + 1) i = (tk_at b n i).1 :: tk_l b n f (tk_at b n i).2 := by
  show (if i < n then _ else _) = _
  rw [if_pos h, if_neg h2]
theorem tk_l_f {b : Nat → Nat} {n : Nat} : ∀ f g i, n ≤ i + f → n ≤ i + g → tk_l b n f i = tk_l b n g i
  | 0, g, i, h, _ => by rw [tk_l_0 (by omega) g]; rfl
  | f + 1, 0, i, _, h => by rw [tk_l_0 (by omega) (f + 1)]; rfl
  | f + 1, g + 1, i, h1, h2 => by
    by_cases h : i < n
    · by_cases h3 : tk_sp (b i) = true
      · rw [tk_l_S h h3, tk_l_S h h3, tk_l_f f g (i + 1) (by omega) (by omega)]
      · have hb := tk_at_b (b := b) h
        rw [tk_l_T h h3, tk_l_T h h3, tk_l_f f g _ (by omega) (by omega)]
    · rw [tk_l_0 (by omega), tk_l_0 (by omega)]
theorem tk_l_len {b : Nat → Nat} {n : Nat} : ∀ f i, (tk_l b n f i).length ≤ n - i
  | 0, i => Nat.zero_le _
  | f + 1, i => by
    by_cases h : i < n
    · by_cases h3 : tk_sp (b i) = true
      · rw [tk_l_S h h3]
        have := tk_l_len (b := b) (n := n) f (i + 1)
        omega
      · have hb := tk_at_b (b := b) h
        rw [tk_l_T h h3]
        have := tk_l_len (b := b) (n := n) f (tk_at b n i).2
        show (tk_l b n f (tk_at b n i).2).length + 1 ≤ n - i
        omega
    · rw [tk_l_0 (by omega)]; exact Nat.zero_le _
/-- a list of tokens that comes one behind another from a place on -/
def tk_ok (n : Nat) : List tk_T → Nat → Prop
  | [], p => p ≤ n
  | t :: ts, p => p ≤ t.2.1 ∧ (t.1 < 28 ∨ 40 ≤ t.1 ∧ t.1 ≤ 47 ∧ t.1 ≠ 42) ∧ tk_ok n ts (t.2.1 + (if t.1 < 28 then 2 else 1))
theorem tk_ok_le {n : Nat} : ∀ {ts : List tk_T} {p q : Nat}, tk_ok n ts p → q ≤ p → tk_ok n ts q
  | [], p, q, h, h2 => Nat.le_trans h2 h
  | t :: ts, p, q, h, h2 => ⟨Nat.le_trans h2 h.1, h.2⟩
theorem tk_l_ok {b : Nat → Nat} {n : Nat} : ∀ f i, i ≤ n → tk_ok n (tk_l b n f i) i
  | 0, i, h => h
  | f + 1, i, h0 => by
    by_cases h : i < n
    · by_cases h3 : tk_sp (b i) = true
      · rw [tk_l_S h h3]
        exact tk_ok_le (tk_l_ok f (i + 1) h) (by omega)
      · obtain ⟨h4, h5, h6, h7⟩ := tk_at_b (b := b) h
        rw [tk_l_T h h3]
        refine ⟨by omega, ?_, tk_ok_le (tk_l_ok f _ h6) ?_⟩
        · rcases h7 with h7 | h7
          · exact Or.inl h7.1
          · exact Or.inr h7
        · rw [h4]
          rcases h7 with h7 | h7
          · rw [if_pos h7.1]; exact h7.2
          · rw [if_neg (by omega)]; omega
    · rw [tk_l_0 (by omega)]; exact h0
def tk_hd (n : Nat) : List tk_T → tk_T
  | [] => (42, n, 0)
  | t :: _ => t
