set_option maxRecDepth 20000 in
example : br_cd 300 1200 = br_cd 300 1200 := rfl
set_option maxRecDepth 20000 in
theorem xx_1 (X : br_P) (d : Nat) (h : br_H) (Q : br_Q) (a : Nat) (b : Int32) : (¬ b < 0 → X d 26 5 [some (.ref a), some (.int b)] [] h Q) → br_stk br_cd X 3 d 300 1200 [some (.ref a), some (.int b)] [] h Q := by
  intro H
  whnf
  trace_state
  sorry
