theorem sim_cleared {i j : Int} : simOp qX8_cleared qX9_cleared [vi i, vi j] := sorry
