/-! both objects are made -/
def tr1 : Option (Option zV × zG × zH) := zexec 4000 none 3 qX8_init 0 (zloc qX8_init [vr 0]) [] (znew zG0 8 (zNN 8)) (zset zH0 0 (fun _ => 0))
def tr2f (G : zG) (H : zH) : Option (Option zV × zG × zH) := zexec 4000 none 2 qX9_init 0 (zloc qX9_init [vr G.1]) [] (znew G 9 (zNN 9)) (zset H G.1 (fun _ => 0))
def oc (x : Option (Option zV × zG × zH)) (p : zG → zH → Bool) : Bool := match x with
  | some (none, G, H) => p G H
  | _ => false
theorem oc_ex {x : Option (Option zV × zG × zH)} {p : zG → zH → Bool} (h : oc x p = true) : ∃ G H, x = some (none, G, H) ∧ p G H = true := by
  match x, h with
  | some (none, G, H), h => exact ⟨G, H, rfl, h⟩
def chkG (G : zG) : Bool := decide (G.1 = 147) && ((List.range 147).all (fun a => decide (G.2.2.1 a = zSHf a)) && ((List.range 147).all (fun a => (List.range 28).all (fun k => decide (a = 39) || (!(zisR a k) || decide (G.2.2.2 a (k : Int) = zRFf a k)))) && ((List.range 6).all (fun k => decide (G.2.2.2 39 (k : Int) = 40 + 9 * k)) && decide (G.2.1 ≤ 100000))))
def ckl : List (Nat × Int × Int) := [(3, 1, 2), (3, 2, 10), (3, 3, 0), (3, 4, 0), (130, 4, 2), (130, 6, 10), (130, 7, 0), (130, 8, 0), (4, 0, 50), (4, 1, 80), (133, 0, 50), (133, 1, 80), (1, 1, 0), (130, 2, 0), (7, 9, 0), (134, 12, 0), (7, 10, 0), (134, 45, 0), (38, 1, 0), (130, 12, 0), (94, 1, 0), (130, 14, 0), (114, 3, 0), (130, 16, 0)]
def chkH (H : zH) : Bool := ckl.all (fun x => decide (H x.1 x.2.1 = x.2.2)) && ((List.range 6).all (fun p => decide (H 8 (p : Int) = [50, 80, 0, 0, 0, 0].getD p 0) && (decide (H 134 (p : Int) = [50, 80, 0, 0, 0, 0].getD p 0) && (decide (H 9 (p : Int) = 0) && decide (H 134 (6 + (p : Int)) = 0)))) && (List.range 8).all (fun k => decide (H 14 (k : Int) = 0) && decide (H 139 (k : Int) = 0)))
theorem tr_ok : oc tr1 (fun G H => decide (G.1 = 130) && oc (tr2f G H) (fun G H => chkG G && chkH H)) = true := by decide +kernel
