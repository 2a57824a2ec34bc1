section
variable {n : Nat} {xs : Nat → Int32} {I : Nat → Nat → Int32} {L : Nat → Nat → Int64}
theorem bp_text (hI : br_Inv xs I L) (x1 : Int32) (x2 : Int32)  : br_pair n xs 38 203 [some (.ref 8), some (.int x1), some (.int x2), none] [some (.ref 169), some (.int x1), some (.int x2), none, none, none] I L := by sorry
end
