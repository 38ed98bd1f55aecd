/-! THE START: the memories of two new objects; the walk to the law's loop -/
def gs_x (k : Nat) : Nat → Int32 := if k = 4 then (fun j => if j = 5 then -1 else 0) else if k = 25 then (fun j => if j = 4 then 1 else 0) else if 41 ≤ k ∧ k ≤ 46 then (fun j => if j = 1 ∨ j = 2 then -1 else 0) else fun _ => 0
def gs_mx : gk_M := (gs_x, fun _ _ => 0)
def gs_m (k : Nat) : Nat → Int32 := if k = 0 then (fun j => if j = 18 then -1 else 0) else if k = 23 then (upd (upd (upd (upd (upd (upd (fun _ => 0) 0 (-1)) 1 (-1)) 2 (-1)) 3 (-1)) 4 (-1)) 5 (-1)) else fun _ => 0
def gs_mm : gk_M := (gs_m, fun _ _ => 0)
