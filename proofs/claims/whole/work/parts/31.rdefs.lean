abbrev br_r : br_P := br_run br_cd
theorem br_ccT {c : Jvm.ClassFile.Cond} {x y : Int32} (z : ¬ br_cc c x y) (h : br_ccb c x y = true) : False := z (br_ccb_iff.mp h)
theorem br_ccF {c : Jvm.ClassFile.Cond} {x y : Int32} (z : br_cc c x y) (h : br_ccb c x y = false) : False := by rw [br_ccb_iff.mpr z] at h; cases h
/-- a world behind a call, its budget as it was -/
def br_bk : br_H → br_H := fun ⟨a, b, c, d, e, _⟩ => (a, b, c, d, e, (0, 0))
