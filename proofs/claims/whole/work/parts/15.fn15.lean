/-! ===== the methods as functions (15) ===== -/
def f148_503 (μ : xMu) (ν : xNu) : Option (Int32) :=
  some (μ 503 0)
theorem K148_503 {d : Nat} {μ : xMu} {ν : xNu} {Q : xR} (h : xP (f148_503 μ ν) (fun r => Q (some (.int r)) μ ν)) : xT xF (d + 1) 148 [.ref 503] μ ν Q := by
  unfold f148_503 at h
  refine xcall (T := xT_148) (ls := [.ref 503]) rfl rfl rfl ?_
  refine xw_go (cut := []) 400 ?_
  have h := xP_some h
  exact h
