theorem br_imp {c A B : Prop} (h : A → B) : (c → A) → (c → B) := fun g z => h (g z)
theorem br_pi_mono {K K' : Int32 → List Value → Prop} {st : List Value} (h : ∀ x r, K x r → K' x r) : br_pi K st → br_pi K' st := by
  unfold br_pi; split
  · exact h _ _
  · exact id
theorem br_pl_mono {K K' : Int64 → List Value → Prop} {st : List Value} (h : ∀ x r, K x r → K' x r) : br_pl K st → br_pl K' st := by
  unfold br_pl; split
  · exact h _ _
  · exact id
theorem br_pr_mono {K K' : Nat → List Value → Prop} {st : List Value} (h : ∀ x r, K x r → K' x r) : br_pr K st → br_pr K' st := by
  unfold br_pr; split
  · exact h _ _
  · exact id
theorem br_li_mono {K K' : Int32 → Prop} {o : Option Value} (h : ∀ x, K x → K' x) : br_li o K → br_li o K' := by
  unfold br_li; split
  · exact h _
  · exact id
theorem br_ll_mono {K K' : Int64 → Prop} {o : Option Value} (h : ∀ x, K x → K' x) : br_ll o K → br_ll o K' := by
  unfold br_ll; split
  · exact h _
  · exact id
theorem br_lr_mono {K K' : Nat → Prop} {o : Option Value} (h : ∀ x, K x → K' x) : br_lr o K → br_lr o K' := by
  unfold br_lr; split
  · exact h _
  · exact id
theorem br_sw_mono {x : Int32} {K K' : Nat → Prop} {d : Nat} (h : ∀ t, K t → K' t) : ∀ l : List Nat, br_sw x K d l → br_sw x K' d l
  | [] => h _
  | [_] => h _
  | v :: t :: r => And.imp (br_imp (h _)) (br_imp (br_sw_mono h r))
theorem br_ret_mono {Q Q' : br_Q} (h : ∀ v w, Q v w → Q' v w) {w : br_H} {st : List Value} : ∀ t : Nat, br_ret Q w st t → br_ret Q' w st t
  | 0 => br_pi_mono (fun _ _ => And.imp id (h _ _))
  | 1 => br_pi_mono (fun _ _ => And.imp id (And.imp id (h _ _)))
  | 2 => br_pi_mono (fun _ _ => And.imp id (And.imp id (h _ _)))
  | _ + 3 => br_pi_mono (fun _ _ => And.imp id (And.imp id (h _ _)))
def br_Cm (C C' : br_C) : Prop := ∀ (j ml : Nat) (as : List Value) (h : br_H) (Q Q' : br_Q), (∀ v w, Q v w → Q' v w) → C j ml as h Q → C' j ml as h Q'
section BRM
variable {C C' : br_C} {K K' : br_K} {Q Q' : br_Q}
theorem br_cl_mono (hC : br_Cm C C') (hK : ∀ n ls st h, K n ls st h → K' n ls st h) {n : Nat} {ls : br_V} {as rest : List Value} {h : br_H} {j ml mc ms : Nat} : br_cl C K n ls as rest h j ml mc ms → br_cl C' K' n ls as rest h j ml mc ms := by
  unfold br_cl; split
  · exact hC _ _ _ _ _ _ (fun _ _ => hK _ _ _ _)
  · exact And.imp id (And.imp id (hC _ _ _ _ _ _ (fun _ _ => hK _ _ _ _)))
theorem br_iv_mono (hC : br_Cm C C') (hK : ∀ n ls st h, K n ls st h → K' n ls st h) {n : Nat} {ls : br_V} {st : List Value} {h : br_H} {kd : Nat} {l : List Nat} : br_iv C K n ls st h kd l → br_iv C' K' n ls st h kd l := by
  unfold br_iv
  repeat' split
  all_goals first | exact id | exact br_cl_mono hC hK | exact And.imp id (br_cl_mono hC hK)
theorem br_ac_mono (hK : ∀ n ls st h, K n ls st h → K' n ls st h) {n : Nat} {ls : br_V} {st : List Value} {h : br_H} : br_ac K n ls st h → br_ac K' n ls st h := by
  unfold br_ac; split
  · exact And.imp id (And.imp id (And.imp id (And.imp id (And.imp id (And.imp id (And.imp id (And.imp id (Or.imp (And.imp id (hK _ _ _ _)) (And.imp id (hK _ _ _ _))))))))))
  · exact id
set_option maxHeartbeats 4000000 in
theorem br_st_mono (hC : br_Cm C C') (hK : ∀ n ls st h, K n ls st h → K' n ls st h) (hQ : ∀ v w, Q v w → Q' v w) {e : br_E} {ls : br_V} {st : List Value} {h : br_H} : br_st C K Q e ls st h → br_st C' K' Q' e ls st h := by
  unfold br_st
  split <;> (repeat' (first
    | exact id | exact hK _ _ _ _ | exact hQ _ _ | exact br_ret_mono hQ _ | exact br_sw_mono (fun _ => hK _ _ _ _) _ | exact br_iv_mono hC hK | exact br_ac_mono hK
    | refine And.imp ?_ ?_ | refine Or.imp ?_ ?_ | refine br_imp ?_ | refine br_pi_mono (fun _ _ => ?_) | refine br_pl_mono (fun _ _ => ?_) | refine br_pr_mono (fun _ _ => ?_)
    | refine br_li_mono (fun _ => ?_) | refine br_ll_mono (fun _ => ?_) | refine br_lr_mono (fun _ => ?_) | split))
end BRM
/-- what the machine comes to: the least predicate that holds where it holds one step on -/
abbrev br_P : Type := Nat → Nat → Nat → br_V → List Value → br_H → br_Q → Prop
def br_call (P : br_P) (d : Nat) : br_C := fun j ml as h Q => match d with
  | 0 => False
  | d + 1 => match Nat.ble (br_arg as).length ml with
    | true => P d j 0 (br_ent ml as) [] h Q
    | false => False
def br_stp (cd : Nat → Nat → Option (Instr × Nat × List Nat)) (P : br_P) : br_P := fun d j pc ls st h Q => match cd j pc with
  | none => False
  | some e => br_st (br_call P d) (fun n ls st h => P d j n ls st h Q) Q (pc, e) ls st h
def br_Pm (P : br_P) : Prop := ∀ d j pc ls st h (Q Q' : br_Q), (∀ v w, Q v w → Q' v w) → P d j pc ls st h Q → P d j pc ls st h Q'
theorem br_stp_mono {cd : Nat → Nat → Option (Instr × Nat × List Nat)} {P P' : br_P} (hm : br_Pm P') (hP : ∀ d j pc ls st h Q, P d j pc ls st h Q → P' d j pc ls st h Q) {d j pc : Nat} {ls : br_V} {st : List Value} {h : br_H} {Q Q' : br_Q} (hQ : ∀ v w, Q v w → Q' v w) :
    br_stp cd P d j pc ls st h Q → br_stp cd P' d j pc ls st h Q' := by
  unfold br_stp; split
  · exact id
  · refine br_st_mono (fun j ml as h Q1 Q2 h12 => ?_) (fun _ _ _ _ hk => hm _ _ _ _ _ _ _ _ hQ (hP _ _ _ _ _ _ _ hk)) hQ
    unfold br_call; split
    · exact id
    · split
      · exact fun hc => hm _ _ _ _ _ _ _ _ h12 (hP _ _ _ _ _ _ _ hc)
      · exact id
def br_run (cd : Nat → Nat → Option (Instr × Nat × List Nat)) : br_P := fun d j pc ls st h Q =>
  ∀ P : br_P, br_Pm P → (∀ d j pc ls st h Q, br_stp cd P d j pc ls st h Q → P d j pc ls st h Q) → P d j pc ls st h Q
theorem br_run_m {cd : Nat → Nat → Option (Instr × Nat × List Nat)} : br_Pm (br_run cd) := fun _ _ _ _ _ _ _ _ hQ hr P hm hc => hm _ _ _ _ _ _ _ _ hQ (hr P hm hc)
theorem br_run_step {cd : Nat → Nat → Option (Instr × Nat × List Nat)} {d j pc : Nat} {ls : br_V} {st : List Value} {h : br_H} {Q : br_Q} (hs : br_stp cd (br_run cd) d j pc ls st h Q) : br_run cd d j pc ls st h Q :=
  fun _ hm hc => hc _ _ _ _ _ _ _ (br_stp_mono hm (fun _ _ _ _ _ _ _ hr => hr _ hm hc) (fun _ _ h => h) hs)
def br_el : List Nat → Nat → Bool
  | [], _ => false
  | a :: t, n => bif Nat.beq a n then true else br_el t n
/-- on from here, at most k steps, the calls within as they are, up to one of the stops -/
def br_blk (cd : Nat → Nat → Option (Instr × Nat × List Nat)) (P : br_P) (stops : List Nat) : Nat → br_P
  | 0 => P
  | k + 1 => fun d j pc ls st h Q => match cd j pc with
    | none => False
    | some e => br_st (br_call P d) (fun n ls st h => bif br_el stops n then P d j n ls st h Q else br_blk cd P stops k d j n ls st h Q) Q (pc, e) ls st h
theorem br_run_blk {cd : Nat → Nat → Option (Instr × Nat × List Nat)} (stops : List Nat) : ∀ (k : Nat) {d j pc : Nat} {ls : br_V} {st : List Value} {h : br_H} {Q : br_Q}, br_blk cd (br_run cd) stops k d j pc ls st h Q → br_run cd d j pc ls st h Q
  | 0, _, _, _, _, _, _, _, hs => hs
  | k + 1, d, j, pc, ls, st, h, Q, hs => by
    refine br_run_step ?_
    unfold br_blk at hs
    unfold br_stp
    split at hs
    · exact hs.elim
    · exact br_st_mono (fun j ml as h Q1 Q2 h12 => by
        unfold br_call; split
        · exact id
        · split
          · exact br_run_m _ _ _ _ _ _ _ _ h12
          · exact id) (fun n _ _ _ hk => by
        cases hn : br_el stops n with
        | true => rw [hn] at hk; exact hk
        | false => rw [hn] at hk; exact br_run_blk stops k hk) (fun _ _ h => h) hs
