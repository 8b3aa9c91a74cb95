/-! how they stand at first -/
theorem rng_all {n : Nat} {p : Nat → Bool} (h : (List.range n).all p = true) {k : Nat} (hk : k < n) : p k = true := List.all_eq_true.mp h k (List.mem_range.mpr hk)
theorem zrf_lt {c k : Nat} (hc : c < 10) (h : zrf c k = true) : k < 28 := by
  rcases Nat.lt_or_ge k 28 with q | q
  · exact q
  · exfalso
    unfold zrf at h
    rcases (show c = 0 ∨ c = 1 ∨ c = 2 ∨ c = 3 ∨ c = 4 ∨ c = 5 ∨ c = 6 ∨ c = 7 ∨ c = 8 ∨ c = 9 by omega) with rfl | rfl | rfl | rfl | rfl | rfl | rfl | rfl | rfl | rfl
    all_goals
      rw [List.getD_eq_getElem?_getD, List.getElem?_eq_none] at h
      · cases h
      · exact Nat.le_trans (Nat.le_of_ble_eq_true rfl) q
theorem zisR_lt {a k : Nat} (ha : a < 147) (h : zisR a k = true) : k < 28 := by
  unfold zisR at h
  rw [Bool.or_eq_true] at h
  rcases h with h | h
  · rw [Bool.and_eq_true, decide_eq_true_eq] at h
    exact zrf_lt h.1 h.2
  · rw [Bool.and_eq_true, decide_eq_true_eq] at h
    have e : ∀ a, a < 147 → (zSHf a).2 ≤ 300 ∧ (((zSHf a).1 = 102 ∨ (zSHf a).1 = 103) → (zSHf a).2 ≤ 6) := by decide +kernel
    have h1 := h.1
    rw [Bool.or_eq_true, decide_eq_true_eq, decide_eq_true_eq] at h1
    have := (e a ha).2 h1
    omega
theorem chkG_ok {G : zG} (h : chkG G = true) : zOK G := by
  unfold chkG at h
  simp only [Bool.and_eq_true, decide_eq_true_eq] at h
  obtain ⟨h1, h2, h3, h4, h5⟩ := h
  have h6 : ∀ k : Int, 0 ≤ k → k < 6 → G.2.2.2 39 k = 40 + 9 * k.toNat := fun k k0 k1 => by
    obtain ⟨j, rfl⟩ := nat_of k0
    have := rng_all h4 (show j < 6 by omega)
    rw [decide_eq_true_eq] at this
    rw [this]
    rfl
  refine ⟨h1, fun a ha => by have := rng_all h2 ha; rw [decide_eq_true_eq] at this; exact this, fun a k ha h9 hr => ?_, fun k k0 k1 => ?_, fun j k j0 j1 k0 k1 e => ?_, h5⟩
  · have := rng_all (rng_all h3 ha) (zisR_lt ha hr)
    rw [Bool.or_eq_true, Bool.or_eq_true, decide_eq_true_eq, decide_eq_true_eq] at this
    rcases this with q | q | q
    · exact absurd q h9
    · rw [hr] at q
      cases q
    · exact q
  · rw [h6 k k0 k1]
    rcases six k0 k1 with rfl | rfl | rfl | rfl | rfl | rfl <;> decide
  · rw [h6 j j0 j1, h6 k k0 k1] at e
    omega
theorem SR_first {G : zG} {H : zH} (hg : chkG G = true) (hh : chkH H = true) : SR G H := by
  have hG := chkG_ok hg
  unfold chkH at hh
  simp only [Bool.and_eq_true] at hh
  obtain ⟨h1, h2, h3⟩ := hh
  have v : ∀ a k x, (a, k, x) ∈ ckl → H a k = x := fun a k x hm => by
    have := List.all_eq_true.mp h1 _ hm
    rw [decide_eq_true_eq] at this
    exact this
  have v31 := v 3 1 2 (by decide)
  have v32 := v 3 2 10 (by decide)
  have v33 := v 3 3 0 (by decide)
  have v34 := v 3 4 0 (by decide)
  have w : ∀ p : Int, 0 ≤ p → p < 6 → H 8 p = [50, 80, 0, 0, 0, 0].getD p.toNat 0 ∧ H 134 p = [50, 80, 0, 0, 0, 0].getD p.toNat 0 ∧ H 9 p = 0 ∧ H 134 (6 + p) = 0 := fun p p0 p1 => by
    obtain ⟨j, rfl⟩ := nat_of p0
    have := rng_all h2 (show j < 6 by omega)
    simp only [Bool.and_eq_true, decide_eq_true_eq] at this
    exact this
  have u : ∀ k : Int, 0 ≤ k → k < 8 → H 14 k = 0 ∧ H 139 k = 0 := fun p p0 p1 => by
    obtain ⟨j, rfl⟩ := nat_of p0
    have := rng_all h3 (show j < 8 by omega)
    simp only [Bool.and_eq_true, decide_eq_true_eq] at this
    exact this
  refine ⟨hG, ⟨⟨by rw [v31]; omega, by rw [v32]; omega, by rw [v33]; omega, by rw [v34]; omega⟩, ⟨by rw [v31, v 130 4 2 (by decide)], by rw [v32, v 130 6 10 (by decide)], by rw [v33, v 130 7 0 (by decide)], by rw [v34, v 130 8 0 (by decide)]⟩, fun p p0 p1 => ?_⟩, ⟨by rw [v 1 1 0 (by decide)]; omega, by rw [v 1 1 0 (by decide), v 130 2 0 (by decide)], fun k k0 k1 => by rw [v 1 1 0 (by decide)] at k1; omega⟩, ⟨⟨[], ⟨by simp, fun c hc => by simp at hc⟩, ⟨by rw [v 7 9 0 (by decide)]; rfl, fun k c hc => by simp at hc⟩, ⟨by rw [v 134 12 0 (by decide)]; rfl, fun k c hc => by simp at hc⟩, fun p p0 p1 => ?_, ?_, by rw [v 7 10 0 (by decide), v 134 45 0 (by decide)]⟩, fun k k0 k1 => ?_, fun k k0 k1 => ?_⟩, ⟨0, by omega, by rw [v 38 1 0 (by decide)]; rfl, by rw [v 130 12 0 (by decide)]; rfl, fun k hk => by omega⟩, ⟨0, by omega, by rw [v 94 1 0 (by decide)]; rfl, by rw [v 130 14 0 (by decide)]; rfl, fun k hk => by omega⟩, ⟨0, by omega, by rw [v 114 3 0 (by decide)]; rfl, by rw [v 130 16 0 (by decide)]; rfl, fun k hk => by omega⟩⟩
  · rw [v31] at p1
    rcases (show p = 0 ∨ p = 1 by omega) with rfl | rfl
    · rw [v 133 0 50 (by decide), v 4 0 50 (by decide)]
      omega
    · rw [v 133 1 80 (by decide), v 4 1 80 (by decide)]
      omega
  · obtain ⟨w1, w2, w3, w4⟩ := w p p0 p1
    have e8 : H (7 + 1) p = H 8 p := rfl
    have e9 : H (7 + 2) p = H 9 p := rfl
    rw [e8, e9, w1, w2, w3, w4]
    exact ⟨rfl, rfl⟩
  · have s0 := (w 0 (by omega) (by omega)).2.1
    have s1 := (w 1 (by omega) (by omega)).2.1
    have s2 := (w 2 (by omega) (by omega)).2.1
    have s3 := (w 3 (by omega) (by omega)).2.1
    have s4 := (w 4 (by omega) (by omega)).2.1
    have s5 := (w 5 (by omega) (by omega)).2.1
    have s0 : H 134 0 = 50 := s0
    have s1 : H 134 1 = 80 := s1
    have s2 : H 134 2 = 0 := s2
    have s3 : H 134 3 = 0 := s3
    have s4 : H 134 4 = 0 := s4
    have s5 : H 134 5 = 0 := s5
    refine ⟨fun p p0 p1 => ?_, ?_⟩
    · rcases six p0 p1 with rfl | rfl | rfl | rfl | rfl | rfl <;> omega
    · unfold ssum
      omega
  · rw [(u k k0 k1).1]
    omega
  · rw [(u k k0 k1).2]
    omega
section ZNW
variable {o : Option (Nat × (Int → Int))} {d : Nat} {q : zM} {pc : Nat} {L S : List zV} {G : zG} {H : zH} {Q : Option zV → zG → zH → Prop}
theorem zr_newo {i c : Nat} (hd : decode q.2.2.1 pc = .ok (.new i, 3)) (hc : zct q.1 i = some c) (h10 : c < 10) (hG : G.1 < znul) : zRunD o d q pc L S G H Q ↔ zRunD o d q (pc + 3) L (vr G.1 :: S) (znew G c (zNN c)) (zset H G.1 (fun _ => 0)) Q := by
  refine zR_go ?_
  rw [zst_of hd rfl]
  show znewo q i (pc + 3) L S G H = _
  unfold znewo
  rw [hc]
  show zif (decide (c < 10) && decide (G.1 < znul)) _ = _
  rw [decide_eq_true h10, decide_eq_true hG]
  rfl
theorem zr_callsp {i a d' : Nat} {m' : zM} (hd : decode q.2.2.1 pc = .ok (.invokespecial i, 3)) (hb : zbt q.1 i = none) (hm : zmt q.1 i = some (3, m', 1)) (h1 : 1 ≤ d) (hd' : zdn d m' = d') (hlx : 1 ≤ m'.2.2.2.1) (h4 : S.length ≤ 4) : zRunD o d q pc L (vr a :: S) G H Q ↔ zCallD d' m' [vr a] G H (fun r G H => zRunD o d q (pc + 3) L (r.toList ++ S) G H Q) := by
  subst hd'
  refine zR_call ?_
  rw [zst_of hd rfl]
  show zif (decide (1 ≤ d)) (zinv q 3 i (pc + 3) L (vr a :: S) G H) = _
  rw [decide_eq_true h1]
  show zinv q 3 i (pc + 3) L (vr a :: S) G H = _
  unfold zinv
  rw [hb]
  dsimp only
  rw [hm]
  dsimp only
  have hn : (((decide (1 ≤ (vr a :: S).length) && decide ((vr a :: S).length ≤ 1 + 4)) && decide ((zlx ((vr a :: S).take 1).reverse).length ≤ m'.2.2.2.1)) && decide (3 = 3 ∨ (3 ≠ 0 ∧ 3 = 3 + 1))) = true := by
    simp only [Bool.and_eq_true, decide_eq_true_eq]
    refine ⟨⟨⟨by simp, by simp; omega⟩, ?_⟩, Or.inl trivial⟩
    exact hlx
  rw [hn]
  rfl
end ZNW
theorem rL_law_0 {n : Nat} {f : Int → Int} {L S : List zV} {G : zG} {H : zH} {Q : Option zV → zG → zH → Prop} (hG : G.1 < znul) : zRunD (some (n, f)) 14 qL_law 0 L S G H Q ↔ zRunD (some (n, f)) 14 qL_law 3 L (vr G.1 :: S) (znew G 8 (zNN 8)) (zset H G.1 (fun _ => 0)) Q := zr_newo (c := 8) dL_law_0 rfl (by decide) hG
theorem rL_law_8 {n : Nat} {f : Int → Int} {L S : List zV} {G : zG} {H : zH} {Q : Option zV → zG → zH → Prop} (hG : G.1 < znul) : zRunD (some (n, f)) 14 qL_law 8 L S G H Q ↔ zRunD (some (n, f)) 14 qL_law 11 L (vr G.1 :: S) (znew G 9 (zNN 9)) (zset H G.1 (fun _ => 0)) Q := zr_newo (c := 9) dL_law_8 rfl (by decide) hG
theorem rL_law_4 {n a : Nat} {f : Int → Int} {L : List zV} {s : zV} {G : zG} {H : zH} {Q : Option zV → zG → zH → Prop} : zRunD (some (n, f)) 14 qL_law 4 L [vr a, s] G H Q ↔ zCallD 3 qX8_init [vr a] G H (fun r G H => zRunD (some (n, f)) 14 qL_law 7 L (r.toList ++ [s]) G H Q) := zr_callsp (m' := qX8_init) (S := [s]) dL_law_4 bn_10_9 mt_10_9 (Nat.le_of_ble_eq_true rfl) rfl (Nat.le_of_ble_eq_true rfl) (Nat.le_of_ble_eq_true rfl)
theorem rL_law_12 {n a : Nat} {f : Int → Int} {L : List zV} {s : zV} {G : zG} {H : zH} {Q : Option zV → zG → zH → Prop} : zRunD (some (n, f)) 14 qL_law 12 L [vr a, s] G H Q ↔ zCallD 2 qX9_init [vr a] G H (fun r G H => zRunD (some (n, f)) 14 qL_law 15 L (r.toList ++ [s]) G H Q) := zr_callsp (m' := qX9_init) (S := [s]) dL_law_12 bn_10_12 mt_10_12 (Nat.le_of_ble_eq_true rfl) rfl (Nat.le_of_ble_eq_true rfl) (Nat.le_of_ble_eq_true rfl)
/-- the law up to its loop -/
theorem law_begin {n : Nat} {f : Int → Int} {Q : Option zV → zG → zH → Prop} (hq : ∀ (G : zG) (H : zH), SR G H → zRunD (some (n, f)) 14 qL_law 18 [vx, vr 0, vr 130, vi 0] [] G H Q) : zRunD (some (n, f)) 14 qL_law 0 [vx, vu, vu, vu] [] zG0 zH0 Q := by
  obtain ⟨G1, H1, e1, h1⟩ := oc_ex tr_ok
  rw [Bool.and_eq_true, decide_eq_true_eq] at h1
  obtain ⟨h130, h2⟩ := h1
  obtain ⟨G2, H2, e2, h3⟩ := oc_ex h2
  rw [Bool.and_eq_true] at h3
  have hSR := SR_first h3.1 h3.2
  rw [rL_law_0 (by decide), rL_law_3, rL_law_4]
  refine ⟨4000, none, G1, H1, e1, ?_⟩
  simp only [rL_law_7, true_and, and_true, true_or, or_true, false_or, or_false, Option.toList_some, Option.toList_none, List.nil_append, List.cons_append, zn1]
  rw [rL_law_8 (by rw [h130]; decide), rL_law_11, rL_law_12]
  refine ⟨4000, none, G2, H2, e2, ?_⟩
  simp only [rL_law_15, rL_law_16, rL_law_17, true_and, and_true, true_or, or_true, false_or, or_false, Option.toList_some, Option.toList_none, List.nil_append, List.cons_append, zn1, h130]
  exact hq G2 H2 hSR
