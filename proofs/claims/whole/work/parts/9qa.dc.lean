section
/-! the start, decided -/
set_option maxRecDepth 100000 in
theorem q_cA : ((List.range 139).all (fun a => match x_at w_K a with
  | some kd => (List.range (q_kb kd)).all (fun k => q_hF.2.2.2 a k == w_A false a k)
  | none => false)) = true := by decide +kernel
set_option maxRecDepth 100000 in
theorem q_cR : ((List.range 139).all (fun a => match x_at w_K a, x_at (w_At false) a with
  | some kd, some row => decide (row.length ≤ q_kb kd)
  | _, _ => false) && decide (w_K.length = 139) && decide ((w_At false).length = 139)) = true := by decide +kernel
def q_L : List (Nat × Nat × Int) := [(0, 1, 0), (0, 2, -1), (104, 0, 0), (104, 9, -1), (2, 5, 0), (2, 6, 1), (2, 7, 3), (2, 8, 0), (2, 10, 0), (6, 0, 0), (6, 1, 1), (6, 2, 2), (6, 3, 3), (7, 0, 1), (7, 1, 2), (7, 2, 3), (7, 3, 4), (5, 0, 1), (5, 1, 10009), (5, 2, 1), (5, 3, 0), (20, 13, 0), (20, 14, 0), (20, 15, 0), (20, 16, 0), (49, 0, 0), (49, 1, 0), (121, 2, 0), (121, 3, 0)]
set_option maxRecDepth 100000 in
theorem q_cI : (q_L.all (fun x => (q_hF.2.1 x.1 x.2.1).toInt == x.2.2) && (List.range 24).all (fun k => (q_hF.2.1 30 k).toInt == -1) && (List.range 800).all (fun k => (q_hF.2.1 115 k).toInt == 0)) = true := by decide +kernel
end
