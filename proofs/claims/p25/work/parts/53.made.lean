/-! ===== the class, made ===== -/
def g0 : xG := fun _ _ => nI 0
/-- the class's constructor's end -/
def yB : Option (xW × xG) := y_ev 200 9 m_Bc_init 0 [some (.ref 1)] [] [.inr (.inl (8, x_new 8))] (x_z g0 1)
def y_facts (q : xW × xG) : Bool := decide (q.1 = SK) && [(2, 3, 0), (2, 4, 1), (2, 5, 0), (2, 6, 0), (2, 7, 0), (2, 8, 0), (2, 9, 0), (3, 3, 0), (7, 8, 0), (7, 9, 0), (16, 5, 0), (16, 6, 0), (22, 1, 0), (22, 2, 0), (134, 1, 0)].all (fun k => decide (q.2 k.1 k.2.1 = nI k.2.2))
set_option maxRecDepth 1000000 in
set_option maxHeartbeats 40000000 in
theorem y_runs : (match yB with
  | none => false
  | some q => y_facts q) = true := by decide +kernel
