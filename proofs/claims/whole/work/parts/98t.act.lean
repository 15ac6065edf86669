/-! ===== acts: the relation after =====  -/
section ACTF
variable {w z : gW} {s : Nat × (Nat → Int32)}
theorem act_fin (h : Sim w) (f : Fr [75, 177] [(74, 1), (133, 66)] w z) (hs : s.1 ≤ 1000) (q : TRc z s) (q' : TRm z s) : Sim z := by
  refine h.u_act f (fun j hj => ?_) ?_ ?_
  · rw [q.2 j hj, q'.2 j hj]
  · unfold S_ran eqC; rw [ti_eq, q.1, q'.1]
  · unfold S_ranr rgC; rw [q'.1]; omega
end ACTF
