/-! Shelf: books put, and taken -/
/-- the same cells, but for the copies of deeds -/
def Gw (G G' : zG) : Prop := G'.1 = G.1 ∧ G'.2.1 = G.2.1 ∧ G'.2.2.1 = G.2.2.1 ∧ ∀ a, a ≠ 39 → G'.2.2.2 a = G.2.2.2 a
theorem Gw.C {G G' : zG} (h : Gw G G') {a c : Nat} : zC G' a c ↔ zC G a c := by
  unfold zC
  rw [h.1, h.2.2.1]
theorem Gw.L {G G' : zG} (h : Gw G G') {a : Nat} : zlen G' a = zlen G a := by
  unfold zlen
  rw [h.2.2.1]
theorem Gw.R {G G' : zG} (h : Gw G G') {a : Nat} {k : Int} (ha : a ≠ 39) : zR G' a k = zR G a k := by
  unfold zR
  rw [h.2.2.2 a ha]
theorem Gw.T {G G' : zG} (h : Gw G G') {a : Nat} : zlt G' a ↔ zlt G a := by
  unfold zlt
  rw [h.1]
theorem sW {G G' : zG} (hG : zOK G) (h : Gw G G') : zC G' 38 3 ∧ zR G' 38 0 = 39 ∧ zlt G' 39 ∧ zC G' 39 102 ∧ zlen G' 39 = 6 ∧ (39 < G'.1 ∧ (100 ≤ (G'.2.2.1 39).1 ∧ (G'.2.2.1 39).1 ≤ 103) ∧ (G'.2.2.1 39).2 < 2147483648) := by
  refine ⟨h.C.mpr (sO_38 hG).1, by rw [h.R (by omega)]; exact (sO_38 hG).2.1, h.T.mpr (sO_38 hG).2.2, h.C.mpr (zOK_C hG (by decide) rfl), by rw [h.L]; exact zOK_L hG (by decide) rfl, ?_⟩
  rw [h.1, h.2.2.1, hG.1, hG.2.1 39 (by omega)]
  exact ⟨by omega, ⟨by decide, by decide⟩, by decide⟩
/-- the copies turned by one -/
def zaG (G : zG) (i : Int) (x : Nat) : zG := (G.1, G.2.1, G.2.2.1, zrset G.2.2.2 39 (zru (G.2.2.2 39) i x))
theorem zaG_R {G : zG} {i k : Int} {x : Nat} : zR (zaG G i x) 39 k = if k = i then x else zR G 39 k := by
  unfold zR zaG zrset zru
  simp
theorem zaG_w {G G' : zG} {i : Int} {x : Nat} (h : Gw G G') : Gw G (zaG G' i x) := by
  refine ⟨h.1, h.2.1, h.2.2.1, fun a ha => ?_⟩
  show zrset G'.2.2.2 39 _ a = _
  unfold zrset
  rw [if_neg ha]
  exact h.2.2.2 a ha
theorem deed_C {G G' : zG} (hG : zOK G) (h : Gw G G') {x : Nat} (hx : x ∈ [40, 49, 58, 67, 76, 85]) : zC G' x 0 ∧ zlt G' x := by
  obtain ⟨x0, x1, hb⟩ := dcp_rng hx
  exact ⟨h.C.mpr (kB hG hb).1, h.T.mpr (zOK_T hG (by omega))⟩
theorem zOK_turn {G G' : zG} (hG : zOK G) (h : Gw G G') (hr : ∀ j : Int, 0 ≤ j → j < 6 → zR G' 39 j = if j = 5 then zR G 39 0 else zR G 39 (j + 1)) : zOK G' := by
  obtain ⟨g1, g2, g3, g4, g5, g6⟩ := hG
  have hr' : ∀ j : Int, 0 ≤ j → j < 6 → ∃ i : Int, 0 ≤ i ∧ i < 6 ∧ G'.2.2.2 39 j = G.2.2.2 39 i ∧ (i = if j = 5 then 0 else j + 1) := fun j j0 j1 => by
    have := hr j j0 j1
    by_cases c : j = 5
    · rw [if_pos c] at this
      exact ⟨0, by omega, by omega, this, by rw [if_pos c]⟩
    · rw [if_neg c] at this
      exact ⟨j + 1, by omega, by omega, this, by rw [if_neg c]⟩
  refine ⟨by rw [h.1]; exact g1, fun a ha => by rw [h.2.2.1]; exact g2 a ha, fun a k ha hk => by rw [h.2.2.2 a hk]; exact g3 a k ha hk, fun j j0 j1 => ?_, fun j k j0 j1 k0 k1 e => ?_, by rw [h.2.1]; exact g6⟩
  · obtain ⟨i, i0, i1, e, -⟩ := hr' j j0 j1
    rw [e]
    exact g4 i i0 i1
  · obtain ⟨i, i0, i1, e1, e2⟩ := hr' j j0 j1
    obtain ⟨i', i0', i1', e1', e2'⟩ := hr' k k0 k1
    rw [e1, e1'] at e
    have := g5 i i' i0 i1 i0' i1' e
    by_cases c : j = 5
    · rw [if_pos c] at e2
      by_cases c' : k = 5
      · omega
      · rw [if_neg c'] at e2'
        omega
    · rw [if_neg c] at e2
      by_cases c' : k = 5
      · rw [if_pos c'] at e2'
        omega
      · rw [if_neg c'] at e2'
        omega
theorem kX3_moveLowestUp {G : zG} {H : zH} {Q' : Option zV → zG → zH → Prop} (hG : zOK G)
    (hq : ∀ G' : zG, zOK G' → (∀ j : Int, 0 ≤ j → j < 6 → zR G' 39 j = if j = 5 then zR G 39 0 else zR G 39 (j + 1)) → Q' none G' (zset H 38 (zfu (H 38) 1 5))) : zCall qX3_moveLowestUp [vr 38] G H Q' := by
  have rf : Gw G G := ⟨rfl, rfl, rfl, fun _ _ => rfl⟩
  have d0 := dcp hG (show 0 < 6 by omega)
  have dC := deed_C hG rf d0
  have zd : ((0 : Nat) : Int) = 0 := rfl
  rw [zd] at d0 dC
  have c06 : (0 : Int) ≤ 0 ∧ (0 : Int) < 6 := by omega
  rw [rX3_moveLowestUp_in]
  simp only [rX3_moveLowestUp_0, rX3_moveLowestUp_1, rX3_moveLowestUp_4, rX3_moveLowestUp_5, rX3_moveLowestUp_6, rX3_moveLowestUp_7, rX3_moveLowestUp_8, rX3_moveLowestUp_10, rX3_moveLowestUp_11, rX3_moveLowestUp_14, rX3_moveLowestUp_15, rX3_moveLowestUp_18, rX3_moveLowestUp_19, rX3_moveLowestUp_22, rX3_moveLowestUp_23, rX3_moveLowestUp_24, rX3_moveLowestUp_25, rX3_moveLowestUp_26, rX3_moveLowestUp_29, rX3_moveLowestUp_30, rX3_moveLowestUp_31, rX3_moveLowestUp_32, rX3_moveLowestUp_35, rX3_moveLowestUp_38, rX3_moveLowestUp_39, rX3_moveLowestUp_40, rX3_moveLowestUp_43, rX3_moveLowestUp_44, rX3_moveLowestUp_45, rX3_moveLowestUp_46, rX3_moveLowestUp_49, rX3_moveLowestUp_50, rX3_moveLowestUp_53, rX3_moveLowestUp_54, rX3_moveLowestUp_57, rX3_moveLowestUp_58, rX3_moveLowestUp_59, true_and, and_true, true_or, or_true, false_or, or_false, Option.toList_some, Option.toList_none, List.nil_append, List.cons_append, zn1, sW hG rf, dC, c06, true_or]
  have loop : ∀ (m k : Nat) (G1 : zG), 1 ≤ k → k + m = 6 → Gw G G1 → (∀ j : Int, 0 ≤ j → j < 6 → zR G1 39 j = if j + 1 < (k : Int) then zR G 39 (j + 1) else zR G 39 j) → zRun qX3_moveLowestUp 9 [vr 38, vr (zR G 39 0), vi (k : Int)] [] G1 H Q' := by
    intro m
    induction m with
    | zero =>
      intro k G1 hk1 hk w1 r1
      have : k = 6 := by omega
      subst this
      have e5 : zw ((6 : Int) - 1) = 5 := zw_id (by omega) (by omega)
      have dC1 := deed_C hG w1 d0
      have c56 : (0 : Int) ≤ 5 ∧ (5 : Int) < 6 := by omega
      rw [rX3_moveLowestUp_9]
      simp only [rX3_moveLowestUp_0, rX3_moveLowestUp_1, rX3_moveLowestUp_4, rX3_moveLowestUp_5, rX3_moveLowestUp_6, rX3_moveLowestUp_7, rX3_moveLowestUp_8, rX3_moveLowestUp_10, rX3_moveLowestUp_11, rX3_moveLowestUp_14, rX3_moveLowestUp_15, rX3_moveLowestUp_18, rX3_moveLowestUp_19, rX3_moveLowestUp_22, rX3_moveLowestUp_23, rX3_moveLowestUp_24, rX3_moveLowestUp_25, rX3_moveLowestUp_26, rX3_moveLowestUp_29, rX3_moveLowestUp_30, rX3_moveLowestUp_31, rX3_moveLowestUp_32, rX3_moveLowestUp_35, rX3_moveLowestUp_38, rX3_moveLowestUp_39, rX3_moveLowestUp_40, rX3_moveLowestUp_43, rX3_moveLowestUp_44, rX3_moveLowestUp_45, rX3_moveLowestUp_46, rX3_moveLowestUp_49, rX3_moveLowestUp_50, rX3_moveLowestUp_53, rX3_moveLowestUp_54, rX3_moveLowestUp_57, rX3_moveLowestUp_58, rX3_moveLowestUp_59, true_and, and_true, true_or, or_true, false_or, or_false, Option.toList_some, Option.toList_none, List.nil_append, List.cons_append, zn1, sW hG w1, e5, zup_def, zset_eq, zfu_at, if_true, c56, dC1]
      rw [if_pos (by omega)]
      refine hq (zaG G1 5 (zR G 39 0)) (zOK_turn hG (zaG_w w1) (fun j j0 j1 => ?_)) (fun j j0 j1 => ?_)
      · rw [zaG_R]
        by_cases c : j = 5
        · rw [if_pos c, if_pos c]
        · rw [if_neg c, if_neg c, r1 j j0 j1, if_pos (by omega)]
      · rw [zaG_R]
        by_cases c : j = 5
        · rw [if_pos c, if_pos c]
        · rw [if_neg c, if_neg c, r1 j j0 j1, if_pos (by omega)]
    | succ m ih =>
      intro k G1 hk1 hk w1 r1
      have hk6 : (0 : Int) ≤ k ∧ (k : Int) < 6 := by omega
      have hj6 : (0 : Int) ≤ (k : Int) - 1 ∧ (k : Int) - 1 < 6 := by omega
      have ek : zR G1 39 k = zR G 39 k := by rw [r1 k (by omega) (by omega), if_neg (by omega)]
      have dk := dcp hG (show k < 6 by omega)
      have dCk := deed_C hG w1 dk
      have e1 := zw_id (z := (k : Int) - 1) (by omega) (by omega)
      rw [rX3_moveLowestUp_9]
      simp only [rX3_moveLowestUp_0, rX3_moveLowestUp_1, rX3_moveLowestUp_4, rX3_moveLowestUp_5, rX3_moveLowestUp_6, rX3_moveLowestUp_7, rX3_moveLowestUp_8, rX3_moveLowestUp_10, rX3_moveLowestUp_11, rX3_moveLowestUp_14, rX3_moveLowestUp_15, rX3_moveLowestUp_18, rX3_moveLowestUp_19, rX3_moveLowestUp_22, rX3_moveLowestUp_23, rX3_moveLowestUp_24, rX3_moveLowestUp_25, rX3_moveLowestUp_26, rX3_moveLowestUp_29, rX3_moveLowestUp_30, rX3_moveLowestUp_31, rX3_moveLowestUp_32, rX3_moveLowestUp_35, rX3_moveLowestUp_38, rX3_moveLowestUp_39, rX3_moveLowestUp_40, rX3_moveLowestUp_43, rX3_moveLowestUp_44, rX3_moveLowestUp_45, rX3_moveLowestUp_46, rX3_moveLowestUp_49, rX3_moveLowestUp_50, rX3_moveLowestUp_53, rX3_moveLowestUp_54, rX3_moveLowestUp_57, rX3_moveLowestUp_58, rX3_moveLowestUp_59, true_and, and_true, true_or, or_true, false_or, or_false, Option.toList_some, Option.toList_none, List.nil_append, List.cons_append, zn1, sW hG w1, e1, ek, hk6, hj6, dCk, zwk (show k < 2000000000 by omega), true_or]
      rw [if_neg (by omega)]
      refine ih (k + 1) (zaG G1 ((k : Int) - 1) (zR G 39 k)) (by omega) (by omega) (zaG_w w1) (fun j j0 j1 => ?_)
      rw [zaG_R]
      by_cases c : j = (k : Int) - 1
      · rw [if_pos c, if_pos (by omega), show j + 1 = (k : Int) by omega]
      · rw [if_neg c, r1 j j0 j1]
        by_cases c2 : j + 1 < (k : Int)
        · rw [if_pos c2, if_pos (by omega)]
        · rw [if_neg c2, if_neg (by omega)]
  exact loop 5 1 G (by omega) (by omega) rf (fun j j0 j1 => by rw [if_neg (by omega)])
/-- the main book is put among the deeds: m stay, the oldest sh go -/
theorem kput_deeds {n : Nat} {G : zG} {H : zH} {Q' : Option zV → zG → zH → Prop} (hG : zOK G) (hn : H 38 1 = (n : Int)) (h6 : n ≤ 6)
    (hq : ∀ (G' : zG) (H' : zH) (m sh : Nat), zOK G' → m + sh = n → m < 6 → (sh = if n = 6 then 1 else 0) → (∀ k : Nat, k < m → zR G' 39 k = zR G 39 ((k + sh : Nat) : Int)) → (∀ b, b ≠ 38 → (b < zR G' 39 m ∨ zR G' 39 m + 8 < b) → H' b = H b) → cpB H 7 H' (zR G' 39 m) → H' 38 1 = ((m + 1 : Nat) : Int) → Q' none G' H') : zCall qX3_put [vr 38, vr 7] G H Q' := by
  have rf : Gw G G := ⟨rfl, rfl, rfl, fun _ _ => rfl⟩
  -- the copying
  have fin : ∀ (G' : zG) (H1 : zH) (m sh : Nat), zOK G' → m + sh = n → m < 6 → (sh = if n = 6 then 1 else 0) → (∀ k : Nat, k < m → zR G' 39 k = zR G 39 ((k + sh : Nat) : Int)) → (∀ b, b ≠ 38 → H1 b = H b) → H1 38 1 = (m : Int) → zRun qX3_put 16 [vr 38, vr 7] [] G' H1 Q' := by
    intro G' H1 m sh hG' hm hm6 hsh hr f1 e1
    have rf' : Gw G' G' := ⟨rfl, rfl, rfl, fun _ _ => rfl⟩
    have dm := dcp hG' hm6
    obtain ⟨x0, x1, xb⟩ := dcp_rng dm
    have dC := deed_C hG' rf' dm
    have m6 : (0 : Int) ≤ m ∧ (m : Int) < 6 := by omega
    simp only [rX3_put_0, rX3_put_1, rX3_put_4, rX3_put_5, rX3_put_8, rX3_put_9, rX3_put_12, rX3_put_13, rX3_put_16, rX3_put_17, rX3_put_20, rX3_put_21, rX3_put_24, rX3_put_25, rX3_put_26, rX3_put_29, rX3_put_30, rX3_put_31, rX3_put_34, rX3_put_35, rX3_put_36, rX3_put_39, true_and, and_true, true_or, or_true, false_or, or_false, Option.toList_some, Option.toList_none, List.nil_append, List.cons_append, zn1, sW hG' rf', e1, m6, dC, true_or, kB hG' bk7]
    refine kX0_copyFrom hG' xb bk7 (by omega) (fun H2 f2 c2 _ _ => ?_)
    have e2 : H2 38 1 = (m : Int) := by rw [f2 38 (by omega)]; exact e1
    simp only [rX3_put_0, rX3_put_1, rX3_put_4, rX3_put_5, rX3_put_8, rX3_put_9, rX3_put_12, rX3_put_13, rX3_put_16, rX3_put_17, rX3_put_20, rX3_put_21, rX3_put_24, rX3_put_25, rX3_put_26, rX3_put_29, rX3_put_30, rX3_put_31, rX3_put_34, rX3_put_35, rX3_put_36, rX3_put_39, true_and, and_true, true_or, or_true, false_or, or_false, Option.toList_some, Option.toList_none, List.nil_append, List.cons_append, zn1, sW hG' rf', e2, zup_def, zwk (show m < 2000000000 by omega)]
    refine hq G' _ m sh hG' hm hm6 hsh hr (fun b hb hb2 => ?_) ?_ ?_
    · rw [zset_ne hb, f2 b hb2]
      exact f1 b hb
    · obtain ⟨q1, q2, q3, q4⟩ := c2
      refine ⟨fun p p0 p1 => ?_, fun k k0 k1 => ?_, ?_, ?_⟩
      · rw [zset_ne (by omega), zset_ne (by omega), (q1 p p0 p1).1, (q1 p p0 p1).2, f1 _ (by omega), f1 _ (by omega)]
        exact ⟨rfl, rfl⟩
      · obtain ⟨y1, y2, y3, y4⟩ := q2 k k0 k1
        rw [zset_ne (by omega), zset_ne (by omega), zset_ne (by omega), zset_ne (by omega), y1, y2, y3, y4, f1 _ (by omega), f1 _ (by omega), f1 _ (by omega), f1 _ (by omega)]
        exact ⟨rfl, rfl, rfl, rfl⟩
      · rw [zset_ne (by omega), q3, f1 _ (by omega)]
      · rw [zset_ne (by omega), q4, f1 _ (by omega)]
    · rw [zset_eq, zfu_at, if_pos rfl]
  rw [rX3_put_in]
  simp only [rX3_put_0, rX3_put_1, rX3_put_4, rX3_put_5, rX3_put_8, rX3_put_9, rX3_put_12, rX3_put_13, true_and, and_true, true_or, or_true, false_or, or_false, Option.toList_some, Option.toList_none, List.nil_append, List.cons_append, zn1, sW hG rf, hn]
  by_cases c : n < 6
  · rw [if_pos (by omega)]
    exact fin G H n 0 hG (by omega) c (by rw [if_neg (by omega)]) (fun k hk => rfl) (fun _ _ => rfl) hn
  · rw [if_neg (by omega)]
    have : n = 6 := by omega
    subst this
    refine kX3_moveLowestUp hG (fun G' hG' hr => ?_)
    simp only [true_and, and_true, true_or, or_true, false_or, or_false, Option.toList_some, Option.toList_none, List.nil_append, List.cons_append, zn1]
    refine fin G' _ 5 1 hG' (by omega) (by omega) rfl (fun k hk => ?_) (fun b hb => zset_ne hb) (by rw [zset_eq, zfu_at, if_pos rfl]; rfl)
    rw [hr k (by omega) (by omega), if_neg (by omega)]
    rfl
theorem bk96 : isBk 96 := by unfold isBk; decide
theorem bk105 : isBk 105 := by unfold isBk; decide
theorem kK {G : zG} (hG : zOK G) : (zC G 94 3 ∧ zR G 94 0 = 95 ∧ zlt G 95) ∧ zC G 95 102 ∧ zlen G 95 = 2 ∧ (95 < G.1 ∧ (100 ≤ (G.2.2.1 95).1 ∧ (G.2.2.1 95).1 ≤ 103) ∧ (G.2.2.1 95).2 < 2147483648) := by
  refine ⟨sO_94 hG, zOK_C hG (by decide) rfl, zOK_L hG (by decide) rfl, ?_⟩
  rw [hG.1, hG.2.1 95 (by omega)]
  exact ⟨by omega, ⟨by decide, by decide⟩, by decide⟩
theorem kKr {G : zG} (hG : zOK G) {k : Nat} (h : k < 2) : zR G 95 k = 96 + 9 * k ∧ isBk (96 + 9 * k) ∧ zlt G (96 + 9 * k) := by
  rcases (show k = 0 ∨ k = 1 by omega) with rfl | rfl
  · exact ⟨zOK_R hG (k := 0) (by decide) (by decide) (by decide) rfl, bk96, zOK_T hG (by decide)⟩
  · exact ⟨zOK_R hG (k := 1) (by decide) (by decide) (by decide) rfl, bk105, zOK_T hG (by decide)⟩
theorem kput_kept {n : Nat} {G : zG} {H : zH} {Q' : Option zV → zG → zH → Prop} (hG : zOK G) (hn : H 94 1 = (n : Int)) (h2 : n < 2)
    (hq : ∀ H' : zH, (∀ b, b ≠ 94 → (b < 96 + 9 * n ∨ 96 + 9 * n + 8 < b) → H' b = H b) → cpB H 7 H' (96 + 9 * n) → H' 94 1 = ((n + 1 : Nat) : Int) → Q' none G H') : zCall qX3_put [vr 94, vr 7] G H Q' := by
  obtain ⟨hr, xb, xt⟩ := kKr hG h2
  have n2 : (0 : Int) ≤ n ∧ (n : Int) < 2 := by omega
  rw [rX3_put_in]
  simp only [rX3_put_0, rX3_put_1, rX3_put_4, rX3_put_5, rX3_put_8, rX3_put_9, rX3_put_12, rX3_put_13, rX3_put_16, rX3_put_17, rX3_put_20, rX3_put_21, rX3_put_24, rX3_put_25, rX3_put_26, rX3_put_29, rX3_put_30, rX3_put_31, rX3_put_34, rX3_put_35, rX3_put_36, rX3_put_39, true_and, and_true, true_or, or_true, false_or, or_false, Option.toList_some, Option.toList_none, List.nil_append, List.cons_append, zn1, kK hG, hn, n2, hr, xt, true_or, kB hG bk7, kB hG xb, if_true]
  refine kX0_copyFrom hG xb bk7 (by omega) (fun H2 f2 c2 _ _ => ?_)
  have e2 : H2 94 1 = (n : Int) := by rw [f2 94 (by omega)]; exact hn
  simp only [rX3_put_0, rX3_put_1, rX3_put_4, rX3_put_5, rX3_put_8, rX3_put_9, rX3_put_12, rX3_put_13, rX3_put_16, rX3_put_17, rX3_put_20, rX3_put_21, rX3_put_24, rX3_put_25, rX3_put_26, rX3_put_29, rX3_put_30, rX3_put_31, rX3_put_34, rX3_put_35, rX3_put_36, rX3_put_39, true_and, and_true, true_or, or_true, false_or, or_false, Option.toList_some, Option.toList_none, List.nil_append, List.cons_append, zn1, kK hG, e2, zup_def, zwk (show n < 2000000000 by omega)]
  refine hq _ (fun b hb hb2 => ?_) ?_ ?_
  · rw [zset_ne hb, f2 b hb2]
  · obtain ⟨q1, q2, q3, q4⟩ := c2
    refine ⟨fun p p0 p1 => ?_, fun k k0 k1 => ?_, ?_, ?_⟩
    · rw [zset_ne (by omega), zset_ne (by omega)]
      exact q1 p p0 p1
    · rw [zset_ne (by omega), zset_ne (by omega), zset_ne (by omega), zset_ne (by omega)]
      exact q2 k k0 k1
    · rw [zset_ne (by omega), q3]
    · rw [zset_ne (by omega), q4]
  · rw [zset_eq, zfu_at, if_pos rfl]
/-- taken: the last of the deeds, or of what is kept, into the main book -/
theorem ktake_deeds {n : Nat} {G : zG} {H : zH} {Q' : Option zV → zG → zH → Prop} (hG : zOK G) (hn : H 38 1 = (n : Int)) (h6 : n ≤ 6)
    (hq0 : n = 0 → Q' (some (vi (-2))) G H)
    (hq : ∀ (H' : zH) (m : Nat), m + 1 = n → (∀ b, b ≠ 38 → (b < 7 ∨ 15 < b) → H' b = H b) → cpB H (zR G 39 m) H' 7 → H' 14 = H 14 → H' 38 1 = (m : Int) → Q' (some (vi (m : Int))) G H') : zCall qX3_takeInto [vr 38, vr 7] G H Q' := by
  have rf : Gw G G := ⟨rfl, rfl, rfl, fun _ _ => rfl⟩
  rw [rX3_takeInto_in]
  simp only [rX3_takeInto_0, rX3_takeInto_1, rX3_takeInto_4, rX3_takeInto_5, rX3_takeInto_6, rX3_takeInto_9, rX3_takeInto_10, rX3_takeInto_13, rX3_takeInto_16, rX3_takeInto_18, rX3_takeInto_19, rX3_takeInto_20, rX3_takeInto_21, rX3_takeInto_24, rX3_takeInto_25, rX3_takeInto_26, rX3_takeInto_29, rX3_takeInto_30, rX3_takeInto_31, rX3_takeInto_34, rX3_takeInto_35, rX3_takeInto_38, rX3_takeInto_39, rX3_takeInto_42, rX3_takeInto_43, rX3_takeInto_46, true_and, and_true, true_or, or_true, false_or, or_false, Option.toList_some, Option.toList_none, List.nil_append, List.cons_append, zn1, sW hG rf, hn, kX8_within, bi_ne0]
  by_cases c : n = 0
  · rw [if_neg (by omega)]
    exact hq0 c
  · rw [if_pos (by omega)]
    obtain ⟨m, rfl⟩ : ∃ m, n = m + 1 := ⟨n - 1, by omega⟩
    have e1 : zw (((m + 1 : Nat) : Int) - 1) = (m : Int) := by rw [zw_id (by omega) (by omega)]; omega
    have dm := dcp hG (show m < 6 by omega)
    obtain ⟨x0, x1, xb⟩ := dcp_rng dm
    have dC := deed_C hG rf dm
    have m6 : (0 : Int) ≤ m ∧ (m : Int) < 6 := by omega
    simp only [e1, zup_def, zset_eq, zfu_at, if_true, m6, dC, true_and, kB hG bk7]
    refine kX0_copyFrom hG bk7 xb (by omega) (fun H2 f2 c2 c7 _ => ?_)
    have e2 : H2 38 1 = (m : Int) := by rw [f2 38 (by omega), zset_eq, zfu_at, if_pos rfl]
    simp only [rX3_takeInto_0, rX3_takeInto_1, rX3_takeInto_4, rX3_takeInto_5, rX3_takeInto_6, rX3_takeInto_9, rX3_takeInto_10, rX3_takeInto_13, rX3_takeInto_16, rX3_takeInto_18, rX3_takeInto_19, rX3_takeInto_20, rX3_takeInto_21, rX3_takeInto_24, rX3_takeInto_25, rX3_takeInto_26, rX3_takeInto_29, rX3_takeInto_30, rX3_takeInto_31, rX3_takeInto_34, rX3_takeInto_35, rX3_takeInto_38, rX3_takeInto_39, rX3_takeInto_42, rX3_takeInto_43, rX3_takeInto_46, true_and, and_true, true_or, or_true, false_or, or_false, Option.toList_some, Option.toList_none, List.nil_append, List.cons_append, zn1, sW hG rf, e2]
    refine hq _ m rfl (fun b hb hb2 => ?_) ?_ ?_ e2
    · rw [f2 b hb2, zset_ne hb]
    · obtain ⟨q1, q2, q3, q4⟩ := c2
      refine ⟨fun p p0 p1 => ?_, fun k k0 k1 => ?_, ?_, ?_⟩
      · rw [(q1 p p0 p1).1, (q1 p p0 p1).2, zset_ne (by omega), zset_ne (by omega)]
        exact ⟨rfl, rfl⟩
      · obtain ⟨y1, y2, y3, y4⟩ := q2 k k0 k1
        rw [y1, y2, y3, y4, zset_ne (by omega), zset_ne (by omega), zset_ne (by omega), zset_ne (by omega)]
        exact ⟨rfl, rfl, rfl, rfl⟩
      · rw [q3, zset_ne (by omega)]
      · rw [q4, zset_ne (by omega)]
    · have : H2 14 = _ := c7
      rw [this, zset_ne (by omega)]
theorem ktake_kept {n : Nat} {G : zG} {H : zH} {Q' : Option zV → zG → zH → Prop} (hG : zOK G) (hn : H 94 1 = (n : Int)) (h2 : n ≤ 2)
    (hq0 : n = 0 → Q' (some (vi (-2))) G H)
    (hq : ∀ (H' : zH) (m : Nat), m + 1 = n → (∀ b, b ≠ 94 → (b < 7 ∨ 15 < b) → H' b = H b) → cpB H (96 + 9 * m) H' 7 → H' 14 = H 14 → H' 94 1 = (m : Int) → Q' (some (vi (m : Int))) G H') : zCall qX3_takeInto [vr 94, vr 7] G H Q' := by
  rw [rX3_takeInto_in]
  simp only [rX3_takeInto_0, rX3_takeInto_1, rX3_takeInto_4, rX3_takeInto_5, rX3_takeInto_6, rX3_takeInto_9, rX3_takeInto_10, rX3_takeInto_13, rX3_takeInto_16, rX3_takeInto_18, rX3_takeInto_19, rX3_takeInto_20, rX3_takeInto_21, rX3_takeInto_24, rX3_takeInto_25, rX3_takeInto_26, rX3_takeInto_29, rX3_takeInto_30, rX3_takeInto_31, rX3_takeInto_34, rX3_takeInto_35, rX3_takeInto_38, rX3_takeInto_39, rX3_takeInto_42, rX3_takeInto_43, rX3_takeInto_46, true_and, and_true, true_or, or_true, false_or, or_false, Option.toList_some, Option.toList_none, List.nil_append, List.cons_append, zn1, kK hG, hn, kX8_within, bi_ne0]
  by_cases c : n = 0
  · rw [if_neg (by omega)]
    exact hq0 c
  · rw [if_pos (by omega)]
    obtain ⟨m, rfl⟩ : ∃ m, n = m + 1 := ⟨n - 1, by omega⟩
    have e1 : zw (((m + 1 : Nat) : Int) - 1) = (m : Int) := by rw [zw_id (by omega) (by omega)]; omega
    obtain ⟨hr, xb, xt⟩ := kKr hG (show m < 2 by omega)
    have m6 : (0 : Int) ≤ m ∧ (m : Int) < 2 := by omega
    simp only [e1, zup_def, zset_eq, zfu_at, if_true, m6, hr, xt, true_and, kB hG bk7]
    refine kX0_copyFrom hG bk7 xb (by omega) (fun H2 f2 c2 c7 _ => ?_)
    have e2 : H2 94 1 = (m : Int) := by rw [f2 94 (by omega), zset_eq, zfu_at, if_pos rfl]
    simp only [rX3_takeInto_0, rX3_takeInto_1, rX3_takeInto_4, rX3_takeInto_5, rX3_takeInto_6, rX3_takeInto_9, rX3_takeInto_10, rX3_takeInto_13, rX3_takeInto_16, rX3_takeInto_18, rX3_takeInto_19, rX3_takeInto_20, rX3_takeInto_21, rX3_takeInto_24, rX3_takeInto_25, rX3_takeInto_26, rX3_takeInto_29, rX3_takeInto_30, rX3_takeInto_31, rX3_takeInto_34, rX3_takeInto_35, rX3_takeInto_38, rX3_takeInto_39, rX3_takeInto_42, rX3_takeInto_43, rX3_takeInto_46, true_and, and_true, true_or, or_true, false_or, or_false, Option.toList_some, Option.toList_none, List.nil_append, List.cons_append, zn1, kK hG, e2]
    refine hq _ m rfl (fun b hb hb2 => ?_) ?_ ?_ e2
    · rw [f2 b hb2, zset_ne hb]
    · obtain ⟨q1, q2, q3, q4⟩ := c2
      refine ⟨fun p p0 p1 => ?_, fun k k0 k1 => ?_, ?_, ?_⟩
      · rw [(q1 p p0 p1).1, (q1 p p0 p1).2, zset_ne (by omega), zset_ne (by omega)]
        exact ⟨rfl, rfl⟩
      · obtain ⟨y1, y2, y3, y4⟩ := q2 k k0 k1
        rw [y1, y2, y3, y4, zset_ne (by omega), zset_ne (by omega), zset_ne (by omega), zset_ne (by omega)]
        exact ⟨rfl, rfl, rfl, rfl⟩
      · rw [q3, zset_ne (by omega)]
      · rw [q4, zset_ne (by omega)]
    · have : H2 14 = _ := c7
      rw [this, zset_ne (by omega)]
