def tG0 : zG := znew (0, 0, fun _ => (999, 0), fun _ _ => znul) 8 11
def tH0 : zH := fun _ _ => 0
def tr : Option (Option zV × zG × zH) := zexec 3000 none 14 qX8_init 0 (zloc qX8_init [vr 0]) [] tG0 tH0
theorem tr_n : (match tr with | some (_, G, _) => G.1 | none => 0) = 130 := by decide +kernel
