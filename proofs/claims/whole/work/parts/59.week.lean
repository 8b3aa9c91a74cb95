/-! a week; what is undone, kept, had back -/
theorem slive_ag {P : Int} {w v : Int → Int} (hP : P ≤ 6) (h : ag6 w v) : slive P w = slive P v := by
  unfold slive
  refine zfor_congr (n := P.toNat) (fun k s hk => ?_) _ _ _ (by omega)
  rw [h k (by omega) (by omega)]
theorem slost_ag {P : Int} {w v : Int → Int} (hP : P ≤ 6) (h : ag6 w v) : slost P w = slost P v := by
  unfold slost
  refine zfor_congr (n := P.toNat) (fun k s hk => ?_) _ _ _ (by omega)
  rw [h k (by omega) (by omega)]
theorem EB_B {P : Int} {B : sB} {H : zH} {o : Nat} {a nm : Int → Int} {ls : List zLn} (hb : bok P B) (hne : ∀ x ∈ B.2, x.1 ≠ x.2.1) (hw : ∀ p : Int, 0 ≤ p → p < 6 → H (o + 1) p = B.1.1 p ∧ H (o + 2) p = B.1.2.1 p) (hL : LA H o B.2) (ha : ∀ p : Int, 0 ≤ p → p < 6 → a p = B.1.1 p ∧ a (6 + p) = B.1.2.1 p) (hM : LM a nm ls) (hc : ls.map cor = B.2.map cor) (h45 : H o 10 = a 45) : EB P H o a (B.2.map cor) := by
  refine ⟨bok_cok hb hne, CB_of hL, by rw [← hc]; exact RB_of hM, fun p p0 p1 => ?_, sWok_ag (fun p p0 p1 => (ha p p0 p1).1) hb.1, h45⟩
  rw [(hw p p0 p1).1, (hw p p0 p1).2, (ha p p0 p1).1, (ha p p0 p1).2]
  exact ⟨rfl, rfl⟩
theorem th0_130 {H : zH} {q : Int} (hq : q ≠ 0) : th0 H 130 q = H 130 q := by
  unfold th0
  rw [zset_eq, zfu_at, if_neg hq]
theorem th0_ne {H : zH} {b : Nat} (hb : b ≠ 130) : th0 H b = H b := by
  unfold th0
  rw [zset_ne hb]
theorem sim_week : simOp qX8_week qX9_week [] := by
  intro G H h
  obtain ⟨hG, ht, hx, ⟨⟨cs, hB⟩, hm8, hn8⟩, ⟨dn, d0, d1, d2, d3⟩, hk', ho⟩ := h
  have ht' := ht
  obtain ⟨hT, ⟨m4, m6, m7, m8⟩, -⟩ := ht'
  have hT' := hT
  obtain ⟨⟨P0, P1⟩, ⟨r0, r1⟩, -⟩ := hT'
  have hBk : EBk (H 3 1) H 7 (H 134) := ⟨cs, hB⟩
  obtain ⟨⟨h8, hc⟩, hb1, hb2, hb3, hb4, hb5⟩ := hB
  have ag : ag6 (H 8) (H 134) := fun p p0 p1 => (hb3 p p0 p1).1
  have hbok : bok (H 3 1) ((H 8, H 9, H 15), wm (H 14) 0 cs) := bok_wm h8 hc (sWok_ag ag hb4) hm8
  rw [rX8_week_in]
  simp only [rX8_week_0, rX8_week_1, rX8_week_4, rX8_week_5, rX8_week_8, rX8_week_11, rX8_week_12, rX8_week_15, rX8_week_16, rX8_week_19, rX8_week_20, rX8_week_23, rX8_week_26, true_and, and_true, true_or, or_true, false_or, or_false, Option.toList_some, Option.toList_none, List.nil_append, List.cons_append, zn1, sO_0 hG, sO_38 hG]
  refine kput_deeds hG d1 d0 (fun G1 H1 m sh hG1 hm hm6 hsh hr f1 cp1 e38 => ?_)
  obtain ⟨x0, x1, xb⟩ := dcp_rng (dcp hG1 hm6)
  have e1_7 : ∀ b, 7 ≤ b → b ≤ 15 → H1 b = H b := fun b b0 b1 => f1 b (by omega) (by omega)
  have e13 : H1 3 = H 3 := f1 3 (by omega) (by omega)
  have hT1 : tOK H1 := by
    unfold tOK at hT ⊢
    rw [e13]
    exact hT
  have hL1 : LA H1 7 (wm (H 14) 0 cs) := by
    have := LA_of (H := H1) (o := 7) (cs := cs) ⟨by rw [e1_7 7 (by omega) (by omega)]; exact hb1.1, fun k c hk => by
      rw [e1_7 _ (by omega) (by omega), e1_7 _ (by omega) (by omega), e1_7 _ (by omega) (by omega), e1_7 _ (by omega) (by omega)]
      exact hb1.2 k c hk⟩
    rw [e1_7 (7 + 7) (by omega) (by omega)] at this
    exact this
  simp only [rX8_week_0, rX8_week_1, rX8_week_4, rX8_week_5, rX8_week_8, rX8_week_11, rX8_week_12, rX8_week_15, rX8_week_16, rX8_week_19, rX8_week_20, rX8_week_23, rX8_week_26, true_and, and_true, true_or, or_true, false_or, or_false, Option.toList_some, Option.toList_none, List.nil_append, List.cons_append, zn1, sO_0 hG1, kB hG1 bk7]
  refine kX0_pass hG1 bk7 hT1 (by rw [e1_7 (7 + 1) (by omega) (by omega)]; exact hbok.1) hL1 hbok.2.1 (fun x hx => by rw [e13]; exact (hbok.2.2 x hx).1) (fun x hx => by have := (hbok.2.2 x hx).2; omega) (by omega) (by omega) (fun H2 s hs f2 w2 l2 p2 hL2 g2 k2 => ?_)
  rw [e13, e1_7 (7 + 1) (by omega) (by omega), e1_7 (7 + 2) (by omega) (by omega), e1_7 (7 + 8) (by omega) (by omega)] at hs
  have hwk : wk1 (H 3 1) (H 3 2) (H 3 3) ((H 8, H 9, H 15), wm (H 14) 0 cs) = (s, ((wm (H 14) 0 cs).map (sdn 1)).filter nd) := by
    rw [hs]
    rfl
  have hbok2 := leap_ok (kind := H 3 3) P1 r0 r1 (show (0 : Int) ≤ 1 by omega) hbok
  have hwk' : leap (H 3 1) (H 3 2) (H 3 3) 1 ((H 8, H 9, H 15), wm (H 14) 0 cs) = (s, ((wm (H 14) 0 cs).map (sdn 1)).filter nd) := hwk
  rw [hwk'] at hbok2
  have hne2 : ∀ x ∈ ((wm (H 14) 0 cs).map (sdn 1)).filter nd, x.1 ≠ x.2.1 := fun x hx => by
    obtain ⟨y, hy, rfl⟩ := List.mem_map.mp (List.mem_filter.mp hx).1
    obtain ⟨j, hj, rfl⟩ := List.getElem_of_mem hy
    obtain ⟨c, hc', e⟩ := wm_get' (List.getElem?_eq_getElem hj)
    rw [e]
    exact (hc c (List.mem_of_getElem? hc')).2.2.2.2.2
  have e23 : H2 3 = H 3 := by rw [f2 3 (by omega), e13]
  simp only [rX8_week_0, rX8_week_1, rX8_week_4, rX8_week_5, rX8_week_8, rX8_week_11, rX8_week_12, rX8_week_15, rX8_week_16, rX8_week_19, rX8_week_20, rX8_week_23, rX8_week_26, true_and, and_true, true_or, or_true, false_or, or_false, Option.toList_some, Option.toList_none, List.nil_append, List.cons_append, zn1, sO_0 hG1, kB hG1 bk7, kX0_living hG1 bk7 (show 1 ≤ H2 3 1 by rw [e23]; exact P0) (show H2 3 1 ≤ 6 by rw [e23]; exact P1)]
  refine ⟨_, rfl, ?_⟩
  have cF : ∀ b, (b < 7 ∨ 15 < b) → b ≠ 38 → (b < zR G1 39 m ∨ zR G1 39 m + 8 < b) → H2 b = H b := fun b b0 b1 b2 => by
    rw [f2 b (by omega)]
    exact f1 b b1 b2
  have t130 : ∀ q : Int, q ≠ 0 → th0 H2 130 q = H 130 q := fun q hq => by
    rw [th0_130 hq, cF 130 (by omega) (by omega) (by omega)]
  have et : zset H2 130 (zfu (H2 130) 0 0) = th0 H2 := rfl
  rw [rX9_week_in]
  simp only [rX9_week_0, rX9_week_1, rX9_week_2, rX9_week_5, rX9_week_6, rX9_week_9, rX9_week_10, rX9_week_13, rX9_week_14, rX9_week_17, true_and, and_true, true_or, or_true, false_or, or_false, Option.toList_some, Option.toList_none, List.nil_append, List.cons_append, zn1, kM hG1, zup_def, et]
  refine kX9_notes (n := dn) hG1 (by rw [t130 12 (by omega)]; exact d2) d0 (fun H3 m' sh' hm' hsh' f3 g3 e12 u1 u2 => ?_)
  have : sh' = sh := by rw [hsh, hsh']
  subst this
  have : m' = m := by omega
  subst this
  have tF : ∀ b, b ≠ 130 → b ≠ 136 → H3 b = H2 b := fun b b1 b2 => by rw [f3 b b1 b2, th0_ne b1]
  have e134 : H3 134 = H 134 := by rw [tF 134 (by omega) (by omega), cF 134 (by omega) (by omega) (by omega)]
  have e139 : H3 139 = H 139 := by rw [tF 139 (by omega) (by omega), cF 139 (by omega) (by omega) (by omega)]
  have q4 : H3 130 4 = H 3 1 := by rw [g3 4 (by omega), t130 4 (by omega), m4]
  have q6 : H3 130 6 = H 3 2 := by rw [g3 6 (by omega), t130 6 (by omega), m6]
  have q7 : H3 130 7 = H 3 3 := by rw [g3 7 (by omega), t130 7 (by omega), m7]
  have q8 : H3 130 8 = H 3 4 := by rw [g3 8 (by omega), t130 8 (by omega), m8]
  have hT3 : tOKm H3 := by
    unfold tOKm
    rw [q4, q6, q7, q8]
    exact hT
  simp only [rX9_week_0, rX9_week_1, rX9_week_2, rX9_week_5, rX9_week_6, rX9_week_9, rX9_week_10, rX9_week_13, rX9_week_14, rX9_week_17, true_and, and_true, true_or, or_true, false_or, or_false, Option.toList_some, Option.toList_none, List.nil_append, List.cons_append, zn1, kM hG1]
  refine goesB (B := ((H 8, H 9, H 15), wm (H 14) 0 cs)) hG1 hT3 q4 q6 q7 ⟨fun p p0 p1 => ?_, wm (H3 139) 0 cs, by rw [e134]; exact LM_of hb2, by rw [wm_cor, wm_cor]⟩ hbok (by rw [e139]; exact hn8) (fun H4 f4 b4 e45 n4 => ?_)
  · show H3 134 p = H 8 p ∧ H3 134 (6 + p) = H 9 p
    rw [e134]
    exact ⟨(hb3 p p0 p1).1.symm, (hb3 p p0 p1).2.symm⟩
  have q44 : H4 130 4 = H 3 1 := by rw [f4 130 (by omega) (by omega) (by omega), q4]
  rw [hwk] at b4
  obtain ⟨a4, ls4, l4, c4⟩ := b4
  have ag4 : ag6 (H2 (7 + 1)) (H4 134) := fun p p0 p1 => by
    rw [w2]
    exact (a4 p p0 p1).1.symm
  simp only [rX9_week_0, rX9_week_1, rX9_week_2, rX9_week_5, rX9_week_6, rX9_week_9, rX9_week_10, rX9_week_13, rX9_week_14, rX9_week_17, true_and, and_true, true_or, or_true, false_or, or_false, Option.toList_some, Option.toList_none, List.nil_append, List.cons_append, zn1, kM hG1, kX9_living hG1 (show 1 ≤ H4 130 4 by rw [q44]; exact P0) (show H4 130 4 ≤ 6 by rw [q44]; exact P1)]
  have mF : ∀ b, b ≠ 130 → b ≠ 136 → b ≠ 134 → b ≠ 139 → b ≠ 140 → H4 b = H2 b := fun b b1 b2 b3 b4 b5 => by
    rw [f4 b b3 b4 b5, tF b b1 b2]
  have aF : ∀ b, b ≠ 130 → b ≠ 136 → b ≠ 134 → b ≠ 139 → b ≠ 140 → (b < 7 ∨ 15 < b) → b ≠ 38 → (b < zR G1 39 m' ∨ zR G1 39 m' + 8 < b) → H4 b = H b := fun b b1 b2 b3 b4 b8 b5 b6 b7 => by
    rw [mF b b1 b2 b3 b4 b8]
    exact cF b b5 b6 b7
  have m130 : ∀ q : Int, q ≠ 0 → q ≠ 12 → H4 130 q = H 130 q := fun q q1 q2 => by
    rw [f4 130 (by omega) (by omega) (by omega), g3 q q2]
    exact t130 q q1
  have e3 : H4 3 = H 3 := aF 3 (by omega) (by omega) (by omega) (by omega) (by omega) (by omega) (by omega) (by omega)
  have e136 : H4 136 = H3 136 := f4 136 (by omega) (by omega) (by omega)
  have e2136 : th0 H2 136 = H 136 := by rw [th0_ne (by omega), cF 136 (by omega) (by omega) (by omega)]
  have e2134 : th0 H2 134 = H 134 := by rw [th0_ne (by omega), cF 134 (by omega) (by omega) (by omega)]
  rw [e2136] at u1
  rw [e2134] at u2
  refine ⟨?_, hG1, SRt_c ht e3 ?_ ?_ (m130 4 (by omega) (by omega)) (m130 6 (by omega) (by omega)) (m130 7 (by omega) (by omega)) (m130 8 (by omega) (by omega)), SRx_c hx ?_ ?_ ?_ (m130 2 (by omega) (by omega)), ⟨⟨_, EB_B (B := (s, ((wm (H 14) 0 cs).map (sdn 1)).filter nd)) (by rw [e3]; exact hbok2) hne2 (fun p p0 p1 => ?_) ?_ (fun p p0 p1 => a4 p p0 p1) l4 c4 ?_⟩, ?_, n4⟩, ?_, SRk_c hk' (by rw [e3]) ?_ (m130 14 (by omega) (by omega)) (fun b b0 b1 => ?_) ?_, SRo_c ho e3 ?_ (m130 16 (by omega) (by omega)) ?_ ?_ ?_ ?_⟩
  · rw [q44, e23, slive_ag P1 ag4]
  · exact aF 4 (by omega) (by omega) (by omega) (by omega) (by omega) (by omega) (by omega) (by omega)
  · exact aF 133 (by omega) (by omega) (by omega) (by omega) (by omega) (by omega) (by omega) (by omega)
  · rw [aF 1 (by omega) (by omega) (by omega) (by omega) (by omega) (by omega) (by omega) (by omega)]
  · exact aF 2 (by omega) (by omega) (by omega) (by omega) (by omega) (by omega) (by omega) (by omega)
  · exact aF 131 (by omega) (by omega) (by omega) (by omega) (by omega) (by omega) (by omega) (by omega)
  · rw [mF (7 + 1) (by omega) (by omega) (by omega) (by omega) (by omega), mF (7 + 2) (by omega) (by omega) (by omega) (by omega) (by omega), w2, l2]
    exact ⟨rfl, rfl⟩
  · refine ⟨by rw [mF 7 (by omega) (by omega) (by omega) (by omega) (by omega)]; exact hL2.1, fun j x hj => ?_⟩
    have := hL2.2 j x hj
    unfold AR at this ⊢
    rw [mF _ (by omega) (by omega) (by omega) (by omega) (by omega), mF _ (by omega) (by omega) (by omega) (by omega) (by omega), mF _ (by omega) (by omega) (by omega) (by omega) (by omega), mF _ (by omega) (by omega) (by omega) (by omega) (by omega), mF _ (by omega) (by omega) (by omega) (by omega) (by omega)]
    exact this
  · rw [mF 7 (by omega) (by omega) (by omega) (by omega) (by omega), g2, e45, e134, e1_7 7 (by omega) (by omega), hb5]
  · rw [mF 14 (by omega) (by omega) (by omega) (by omega) (by omega)]
    exact k2 (by rw [e1_7 (7 + 7) (by omega) (by omega)]; exact hm8)
  · refine SRd_put (H1 := H1) hG hG1 d3 hBk hm d0 hm6 hr (by rw [e3]) ?_ ?_ (fun b b0 b1 b2 => aF b (by omega) (by omega) (by omega) (by omega) (by omega) (by omega) (by omega) b2) cp1 (fun b b0 b1 => ?_) (fun i i0 i1 => ?_) (fun i i0 i1 => ?_)
    · rw [mF 38 (by omega) (by omega) (by omega) (by omega) (by omega), f2 38 (by omega)]
      exact e38
    · rw [f4 130 (by omega) (by omega) (by omega)]
      exact e12
    · rw [mF b (by omega) (by omega) (by omega) (by omega) (by omega), f2 b (by omega)]
    · rw [e136]
      exact u1 i i0 i1
    · rw [e136]
      exact u2 i i0 i1
  · rw [aF 94 (by omega) (by omega) (by omega) (by omega) (by omega) (by omega) (by omega) (by omega)]
  · exact aF b (by omega) (by omega) (by omega) (by omega) (by omega) (by omega) (by omega) (by omega)
  · exact aF 137 (by omega) (by omega) (by omega) (by omega) (by omega) (by omega) (by omega) (by omega)
  · rw [aF 114 (by omega) (by omega) (by omega) (by omega) (by omega) (by omega) (by omega) (by omega)]
  · exact aF 115 (by omega) (by omega) (by omega) (by omega) (by omega) (by omega) (by omega) (by omega)
  · exact aF 116 (by omega) (by omega) (by omega) (by omega) (by omega) (by omega) (by omega) (by omega)
  · exact aF 117 (by omega) (by omega) (by omega) (by omega) (by omega) (by omega) (by omega) (by omega)
  · exact aF 138 (by omega) (by omega) (by omega) (by omega) (by omega) (by omega) (by omega) (by omega)
/-! undone, kept, had back -/
theorem kX9_undo {n : Nat} {G : zG} {H : zH} {Q' : Option zV → zG → zH → Prop} (hG : zOK G) (hn : H 130 12 = (n : Int)) (h6 : n ≤ 6)
    (hq0 : n = 0 → Q' (some (vi (-2))) G (th0 H))
    (hq : ∀ (H' : zH) (m : Nat), m + 1 = n → (∀ b, b ≠ 130 → b ≠ 134 → H' b = H b) → (∀ i : Int, i ≠ 0 → i ≠ 12 → H' 130 i = H 130 i) → H' 130 12 = (m : Int) → (∀ i : Int, 0 ≤ i → i < 46 → H' 134 i = H 136 (46 * (m : Int) + i)) → Q' (some (vi (m : Int))) G H') : zCall qX9_undo [vr 130] G H Q' := by
  have et : zset H 130 (zfu (H 130) 0 0) = th0 H := rfl
  have t12 : th0 H 130 12 = (n : Int) := by rw [th0_130 (by omega)]; exact hn
  rw [rX9_undo_in]
  simp only [rX9_undo_0, rX9_undo_1, rX9_undo_2, rX9_undo_5, rX9_undo_6, rX9_undo_9, rX9_undo_12, rX9_undo_14, rX9_undo_15, rX9_undo_16, rX9_undo_17, rX9_undo_20, rX9_undo_21, rX9_undo_22, rX9_undo_25, rX9_undo_26, rX9_undo_28, rX9_undo_30, rX9_undo_33, rX9_undo_34, rX9_undo_37, rX9_undo_38, rX9_undo_39, rX9_undo_42, rX9_undo_44, rX9_undo_45, rX9_undo_48, rX9_undo_49, rX9_undo_50, rX9_undo_51, rX9_undo_52, rX9_undo_53, rX9_undo_56, rX9_undo_59, rX9_undo_60, rX9_undo_63, true_and, and_true, true_or, or_true, false_or, or_false, Option.toList_some, Option.toList_none, List.nil_append, List.cons_append, zn1, kM hG, zup_def, et, t12]
  by_cases c : n = 0
  · rw [if_neg (by omega)]
    exact hq0 c
  · rw [if_pos (by omega)]
    obtain ⟨m, rfl⟩ : ∃ m, n = m + 1 := ⟨n - 1, by omega⟩
    have e1 : zw (((m + 1 : Nat) : Int) - 1) = (m : Int) := by rw [zw_id (by omega) (by omega)]; omega
    rw [e1]
    have e46 : zw (46 * (m : Int)) = 46 * (m : Int) := zw_id (by omega) (by omega)
    generalize hH1 : zset (th0 H) 130 (zfu (th0 H 130) 12 m) = H1
    have f1 : ∀ b, b ≠ 130 → H1 b = H b := fun b hb => by rw [← hH1, zset_ne hb, th0_ne hb]
    have g1 : ∀ i : Int, i ≠ 0 → i ≠ 12 → H1 130 i = H 130 i := fun i i1 i2 => by rw [← hH1, zset_eq, zfu_at, if_neg i2, th0_130 i1]
    have g12 : H1 130 12 = (m : Int) := by rw [← hH1, zset_eq, zfu_at, if_pos rfl]
    have loop : ∀ (l k : Nat), k + l = 46 → zRun qX9_undo 27 [vr 130, vi (k : Int)] [] G (zset H1 134 (cpyo (H1 134) (fun i => H 136 (46 * (m : Int) + i)) 0 k)) Q' := by
      intro l
      induction l with
      | zero =>
        intro k hk
        have : k = 46 := by omega
        subst this
        rw [rX9_undo_27]
        simp only [rX9_undo_0, rX9_undo_1, rX9_undo_2, rX9_undo_5, rX9_undo_6, rX9_undo_9, rX9_undo_12, rX9_undo_14, rX9_undo_15, rX9_undo_16, rX9_undo_17, rX9_undo_20, rX9_undo_21, rX9_undo_22, rX9_undo_25, rX9_undo_26, rX9_undo_28, rX9_undo_30, rX9_undo_33, rX9_undo_34, rX9_undo_37, rX9_undo_38, rX9_undo_39, rX9_undo_42, rX9_undo_44, rX9_undo_45, rX9_undo_48, rX9_undo_49, rX9_undo_50, rX9_undo_51, rX9_undo_52, rX9_undo_53, rX9_undo_56, rX9_undo_59, rX9_undo_60, rX9_undo_63, true_and, and_true, true_or, or_true, false_or, or_false, Option.toList_some, Option.toList_none, List.nil_append, List.cons_append, zn1, kM hG, zset_at, Nat.reduceEqDiff, reduceIte, g12]
        rw [if_pos (by omega)]
        refine hq _ m rfl (fun b b1 b2 => ?_) (fun i i1 i2 => ?_) ?_ (fun i i0 i1 => ?_)
        · rw [zset_ne b2]
          exact f1 b b1
        · rw [zset_ne (by omega)]
          exact g1 i i1 i2
        · rw [zset_ne (by omega)]
          exact g12
        · rw [zset_eq, cpyo_in0 i0 (by omega)]
      | succ l ih =>
        intro k hk
        have hih := ih (k + 1) (by omega)
        rw [← cpyo_s, Int.zero_add] at hih
        have e2 : zw (46 * (m : Int) + (k : Int)) = 46 * (m : Int) + (k : Int) := zw_id (by omega) (by omega)
        have e136 : H1 136 = H 136 := f1 136 (by omega)
        rw [rX9_undo_27]
        simp only [rX9_undo_0, rX9_undo_1, rX9_undo_2, rX9_undo_5, rX9_undo_6, rX9_undo_9, rX9_undo_12, rX9_undo_14, rX9_undo_15, rX9_undo_16, rX9_undo_17, rX9_undo_20, rX9_undo_21, rX9_undo_22, rX9_undo_25, rX9_undo_26, rX9_undo_28, rX9_undo_30, rX9_undo_33, rX9_undo_34, rX9_undo_37, rX9_undo_38, rX9_undo_39, rX9_undo_42, rX9_undo_44, rX9_undo_45, rX9_undo_48, rX9_undo_49, rX9_undo_50, rX9_undo_51, rX9_undo_52, rX9_undo_53, rX9_undo_56, rX9_undo_59, rX9_undo_60, rX9_undo_63, true_and, and_true, true_or, or_true, false_or, or_false, Option.toList_some, Option.toList_none, List.nil_append, List.cons_append, zn1, kM hG, zup_def, zset_set, zset_at, Nat.reduceEqDiff, reduceIte, g12, e46, e2, e136, zwk (show k < 2000000000 by omega)]
        rw [if_neg (by omega)]
        exact ⟨by omega, by omega, hih⟩
    have := loop 46 0 (by omega)
    rw [show ((0 : Nat) : Int) = 0 from rfl, cpyo_0, zset_self] at this
    exact this
theorem sim_undo : simOp qX8_undo qX9_undo [] := by
  intro G H h
  have hS := h
  obtain ⟨hG, ht, hx, ⟨hBk, hm8, hn8⟩, ⟨dn, d0, d1, d2, d3⟩, hk', ho⟩ := h
  rw [rX8_undo_in]
  simp only [rX8_undo_0, rX8_undo_1, rX8_undo_4, rX8_undo_5, rX8_undo_8, rX8_undo_11, true_and, and_true, true_or, or_true, false_or, or_false, Option.toList_some, Option.toList_none, List.nil_append, List.cons_append, zn1, sO_0 hG, sO_38 hG]
  refine ktake_deeds hG d1 d0 (fun h0 => ?_) (fun H1 m hm f1 cp1 e14 e38 => ?_)
  · simp only [rX8_undo_0, rX8_undo_1, rX8_undo_4, rX8_undo_5, rX8_undo_8, rX8_undo_11, true_and, and_true, true_or, or_true, false_or, or_false, Option.toList_some, Option.toList_none, List.nil_append, List.cons_append, zn1]
    refine ⟨_, rfl, kX9_undo (n := dn) hG d2 d0 (fun _ => ⟨rfl, SR_th hS⟩) (fun H' m hm => by omega)⟩
  · simp only [rX8_undo_0, rX8_undo_1, rX8_undo_4, rX8_undo_5, rX8_undo_8, rX8_undo_11, true_and, and_true, true_or, or_true, false_or, or_false, Option.toList_some, Option.toList_none, List.nil_append, List.cons_append, zn1]
    refine ⟨_, rfl, kX9_undo (n := dn) hG (by rw [f1 130 (by omega) (by omega)]; exact d2) d0 (fun z => by omega) (fun H2 m' hm' f2 g2 e12 a2 => ?_)⟩
    have : m' = m := by omega
    subst this
    obtain ⟨x0, x1, xb⟩ := dcp_rng (dcp hG (show m' < 6 by omega))
    have aF : ∀ b, b ≠ 130 → b ≠ 134 → b ≠ 38 → (b < 7 ∨ 15 < b) → H2 b = H b := fun b b1 b2 b3 b4 => by
      rw [f2 b b1 b2]
      exact f1 b b3 b4
    have m130 : ∀ q : Int, q ≠ 0 → q ≠ 12 → H2 130 q = H 130 q := fun q q1 q2 => by
      rw [g2 q q1 q2, f1 130 (by omega) (by omega)]
    have e3 : H2 3 = H 3 := aF 3 (by omega) (by omega) (by omega) (by omega)
    rw [f1 136 (by omega) (by omega)] at a2
    refine ⟨rfl, hG, SRt_c ht e3 ?_ ?_ (m130 4 (by omega) (by omega)) (m130 6 (by omega) (by omega)) (m130 7 (by omega) (by omega)) (m130 8 (by omega) (by omega)), SRx_c hx ?_ ?_ ?_ (m130 2 (by omega) (by omega)), ⟨?_, ?_, ?_⟩, ⟨m', by omega, ?_, e12, fun k hk => ?_⟩, SRk_c hk' (by rw [e3]) ?_ (m130 14 (by omega) (by omega)) (fun b b0 b1 => ?_) ?_, SRo_c ho e3 ?_ (m130 16 (by omega) (by omega)) ?_ ?_ ?_ ?_⟩
    · exact aF 4 (by omega) (by omega) (by omega) (by omega)
    · exact aF 133 (by omega) (by omega) (by omega) (by omega)
    · rw [aF 1 (by omega) (by omega) (by omega) (by omega)]
    · exact aF 2 (by omega) (by omega) (by omega) (by omega)
    · exact aF 131 (by omega) (by omega) (by omega) (by omega)
    · rw [e3]
      exact EBk_congr (H := H1) (fun b b0 b1 => f2 b (by omega) (by omega)) a2 (EBk_copy cp1 (fun _ _ _ => rfl) (d3 m' (by omega)))
    · rw [f2 14 (by omega) (by omega), e14]
      exact hm8
    · rw [aF 139 (by omega) (by omega) (by omega) (by omega)]
      exact hn8
    · rw [f2 38 (by omega) (by omega)]
      exact e38
    · obtain ⟨y0, y1, yb⟩ := dcp_rng (dcp hG (show k < 6 by omega))
      rw [e3, aF 136 (by omega) (by omega) (by omega) (by omega)]
      exact EBk_congr (fun b b0 b1 => aF b (by omega) (by omega) (by omega) (by omega)) (fun _ _ _ => rfl) (d3 k (by omega))
    · rw [aF 94 (by omega) (by omega) (by omega) (by omega)]
    · exact aF b (by omega) (by omega) (by omega) (by omega)
    · exact aF 137 (by omega) (by omega) (by omega) (by omega)
    · rw [aF 114 (by omega) (by omega) (by omega) (by omega)]
    · exact aF 115 (by omega) (by omega) (by omega) (by omega)
    · exact aF 116 (by omega) (by omega) (by omega) (by omega)
    · exact aF 117 (by omega) (by omega) (by omega) (by omega)
    · exact aF 138 (by omega) (by omega) (by omega) (by omega)
