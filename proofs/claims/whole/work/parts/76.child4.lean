/-! a child: both -/
theorem uu_pos {P : Int} {w : Int → Int} {i : Int} (hP : P ≤ 6) (hw : sWok w) (i0 : 0 ≤ i) (i1 : i < P) (hi : 0 < w i) : 1 ≤ ssum (uu P w) := by
  obtain ⟨h1, -⟩ := uu_rng hP hw rfl
  have h2 := h1 i i0 (by omega)
  have h3 : uu P w i = w i := by
    unfold uu
    rw [if_pos ⟨i0, i1⟩]
  omega
theorem sim_child {W i : Int} : simOp qX8_child qX9_child [vi W, vi i] := by
  intro G H h
  have hS := h
  obtain ⟨hG, ht, hx, ⟨⟨cs, hB⟩, hm8, hn8⟩, -⟩ := h
  obtain ⟨hT, ⟨m4, m6, m7, m8⟩, -⟩ := ht
  have hT' := hT
  obtain ⟨⟨P0, P1⟩, -⟩ := hT'
  obtain ⟨⟨h8, hc⟩, hb1, hb2, hb3, hb4, hb5⟩ := hB
  have ag : ag6 (H 134) (H 8) := fun p p0 p1 => (hb3 p p0 p1).1.symm
  have hw : sWok (H 8) := sWok_ag (fun p p0 p1 => (hb3 p p0 p1).1) hb4
  have et : zset H 130 (zfu (H 130) 0 0) = th0 H := rfl
  have t4 : th0 H 130 4 = H 3 1 := by rw [th0_130 (by omega)]; exact m4
  have t134 : th0 H 134 = H 134 := th0_ne (by omega)
  have hwi : 0 ≤ i ∧ i < H 3 1 → 0 ≤ H 134 i ∧ H (7 + 1) i = H 134 i := fun z => ⟨hb4.1 i z.1 (by omega), (hb3 i z.1 (by omega)).1⟩
  have hbad : ¬ ((1 ≤ W ∧ W ≤ 99) ∧ ((0 ≤ i ∧ i < H 3 1) ∧ 0 < H (7 + 1) i)) → ∃ v' : Int, some (vi (-1)) = some (vi v') ∧ zCall qX9_child [vr 130, vi W, vi i] G H (fun r' G2 H2 => r' = some (vi v') ∧ SR G2 H2) := by
    intro hc
    refine ⟨_, rfl, ?_⟩
    rw [rX9_child_in]
    simp only [rX9_child_0, rX9_child_1, rX9_child_2, rX9_child_5, rX9_child_6, rX9_child_7, rX9_child_9, rX9_child_12, rX9_child_15, rX9_child_16, rX9_child_17, rX9_child_20, rX9_child_23, rX9_child_24, rX9_child_27, rX9_child_28, rX9_child_29, rX9_child_32, rX9_child_33, rX9_child_34, rX9_child_35, rX9_child_36, rX9_child_39, rX9_child_42, rX9_child_43, rX9_child_46, rX9_child_47, rX9_child_48, rX9_child_51, rX9_child_53, true_and, and_true, true_or, or_true, false_or, or_false, Option.toList_some, Option.toList_none, List.nil_append, List.cons_append, zn1, kM hG, zup_def, et, kX9_in, kX9_isPerson hG (show 1 ≤ th0 H 130 4 by omega) (show th0 H 130 4 ≤ 6 by omega), bi_ne0, bi_eq0, t4, t134]
    by_cases c1 : 1 ≤ W ∧ W ≤ 99
    · rw [if_neg (fun z => z c1)]
      by_cases c2 : 0 ≤ i ∧ i < H 3 1
      · have := hwi c2
        rw [if_neg (fun z => z c2), if_neg (fun z => hc ⟨c1, c2, by omega⟩)]
        exact ⟨by omega, SR_th hS⟩
      · rw [if_pos c2]
        exact SR_th hS
    · rw [if_pos c1]
      exact SR_th hS
  rw [rX8_child_in]
  simp only [rX8_child_0, rX8_child_1, rX8_child_2, rX8_child_4, rX8_child_7, rX8_child_10, rX8_child_11, rX8_child_14, rX8_child_15, rX8_child_18, rX8_child_21, rX8_child_22, rX8_child_23, rX8_child_24, rX8_child_27, rX8_child_28, rX8_child_29, rX8_child_32, rX8_child_35, rX8_child_36, rX8_child_39, rX8_child_40, rX8_child_43, rX8_child_46, rX8_child_49, rX8_child_51, rX8_child_54, rX8_child_55, rX8_child_58, rX8_child_61, rX8_child_62, rX8_child_63, true_and, and_true, true_or, or_true, false_or, or_false, Option.toList_some, Option.toList_none, List.nil_append, List.cons_append, zn1, sO_0 hG, kX8_within, kB hG bk7, kGf hG, kX0_isAlive hG bk7 P0 P1, bi_ne0, bi_eq0]
  by_cases c1 : 1 ≤ W ∧ W ≤ 99
  · rw [if_neg (fun z => z c1)]
    by_cases c2 : (0 ≤ i ∧ i < H 3 1) ∧ 0 < H (7 + 1) i
    · rw [if_pos c2]
      have hA1 := uu_pos P1 hw c2.1.1 c2.1.2 c2.2
      refine kX1_share hG P0 P1 rfl rfl hw rfl hA1 c1.1 c1.2 (fun H1 f1 a1 => ?_)
      have hS1 : SR G H1 := SR_C hS ⟨fun b hb => f1 b (by omega) (by omega), by rw [f1 1 (by omega) (by omega)], fun b hb => f1 b (by omega) (by omega)⟩
      simp only [rX8_child_0, rX8_child_1, rX8_child_2, rX8_child_4, rX8_child_7, rX8_child_10, rX8_child_11, rX8_child_14, rX8_child_15, rX8_child_18, rX8_child_21, rX8_child_22, rX8_child_23, rX8_child_24, rX8_child_27, rX8_child_28, rX8_child_29, rX8_child_32, rX8_child_35, rX8_child_36, rX8_child_39, rX8_child_40, rX8_child_43, rX8_child_46, rX8_child_49, rX8_child_51, rX8_child_54, rX8_child_55, rX8_child_58, rX8_child_61, rX8_child_62, rX8_child_63, true_and, and_true, true_or, or_true, false_or, or_false, Option.toList_some, Option.toList_none, List.nil_append, List.cons_append, zn1, sO_0 hG, kGf hG]
      have hi6 : 0 ≤ i ∧ i < 6 := by omega
      have e130 : H1 130 = H 130 := f1 130 (by omega) (by omega)
      have e134 : H1 134 = H 134 := f1 134 (by omega) (by omega)
      have u4 : th0 H1 130 4 = H 3 1 := by rw [th0_130 (by omega), e130]; exact m4
      have u134 : th0 H1 134 = H 134 := by rw [th0_ne (by omega), e134]
      have et1 : zset H1 130 (zfu (H1 130) 0 0) = th0 H1 := rfl
      have mod : ∀ v : Int, (∀ (H2 : zH) (x : Int), (∀ p : Int, 0 ≤ p → p < H 3 1 → H2 142 p = H1 128 p) → ((x = 1 ∧ ∀ p : Int, 0 ≤ p → p < H 3 1 → 0 < H 8 p → H2 142 p < H 8 p) ∨ (x = 0 ∧ ∃ p : Int, 0 ≤ p ∧ p < H 3 1 ∧ 0 < H 8 p ∧ H 8 p ≤ H2 142 p)) → (if x = 0 then -2 else H2 142 i) = v) → (∃ v' : Int, some (vi v) = some (vi v') ∧ zCall qX9_child [vr 130, vi W, vi i] G H1 (fun r' G2 H2 => r' = some (vi v') ∧ SR G2 H2)) := by
        intro v hv
        refine ⟨v, rfl, ?_⟩
        have hw1 := hwi c2.1
        rw [rX9_child_in]
        simp only [rX9_child_0, rX9_child_1, rX9_child_2, rX9_child_5, rX9_child_6, rX9_child_7, rX9_child_9, rX9_child_12, rX9_child_15, rX9_child_16, rX9_child_17, rX9_child_20, rX9_child_23, rX9_child_24, rX9_child_27, rX9_child_28, rX9_child_29, rX9_child_32, rX9_child_33, rX9_child_34, rX9_child_35, rX9_child_36, rX9_child_39, rX9_child_42, rX9_child_43, rX9_child_46, rX9_child_47, rX9_child_48, rX9_child_51, rX9_child_53, true_and, and_true, true_or, or_true, false_or, or_false, Option.toList_some, Option.toList_none, List.nil_append, List.cons_append, zn1, kM hG, zup_def, et1, kX9_in, kX9_isPerson hG (show 1 ≤ th0 H1 130 4 by omega) (show th0 H1 130 4 ≤ 6 by omega), bi_ne0, bi_eq0, u4, u134]
        rw [if_neg (fun z => z c1), if_neg (fun z => z c2.1), if_pos (by omega)]
        refine ⟨by omega, kX9_shares (w := H 8) hG P0 P1 u4 (by rw [u134]; exact ag) hw rfl hA1 c1.1 c1.2 (fun H2 x f2 a2 h2 => ?_)⟩
        have hv2 := hv H2 x (fun p p0 p1 => by rw [a2 p p0 p1, a1 p p0 (by omega)]) h2
        have hS2 : SR G H2 := by
          refine SR_M (SR_th hS1) ⟨fun b hb => f2 b (by omega) (by omega), ⟨f2 _ (by omega) (by omega), f2 _ (by omega) (by omega), f2 _ (by omega) (by omega), f2 _ (by omega) (by omega), f2 _ (by omega) (by omega)⟩, fun q _ _ => by rw [f2 134 (by omega) (by omega)], fun q _ _ _ => by rw [f2 130 (by omega) (by omega)], ?_⟩
          rw [f2 139 (by omega) (by omega), th0_ne (by omega)]
          exact hS1.2.2.2.1.2.2
        simp only [rX9_child_0, rX9_child_1, rX9_child_2, rX9_child_5, rX9_child_6, rX9_child_7, rX9_child_9, rX9_child_12, rX9_child_15, rX9_child_16, rX9_child_17, rX9_child_20, rX9_child_23, rX9_child_24, rX9_child_27, rX9_child_28, rX9_child_29, rX9_child_32, rX9_child_33, rX9_child_34, rX9_child_35, rX9_child_36, rX9_child_39, rX9_child_42, rX9_child_43, rX9_child_46, rX9_child_47, rX9_child_48, rX9_child_51, rX9_child_53, true_and, and_true, true_or, or_true, false_or, or_false, Option.toList_some, Option.toList_none, List.nil_append, List.cons_append, zn1, kM hG]
        by_cases cx : x = 0
        · rw [if_pos cx]
          rw [if_pos cx] at hv2
          exact ⟨by rw [← hv2], hS2⟩
        · rw [if_neg cx]
          rw [if_neg cx] at hv2
          exact ⟨hi6, by rw [← hv2], hS2⟩
      refine kX1_takeAllOfOne (P := H 3 1) (w := H 8) hG P0 P1 (by rw [f1 3 (by omega) (by omega)]) (f1 8 (by omega) (by omega)) (fun z => ?_) (fun z => ?_)
      · simp only [rX8_child_0, rX8_child_1, rX8_child_2, rX8_child_4, rX8_child_7, rX8_child_10, rX8_child_11, rX8_child_14, rX8_child_15, rX8_child_18, rX8_child_21, rX8_child_22, rX8_child_23, rX8_child_24, rX8_child_27, rX8_child_28, rX8_child_29, rX8_child_32, rX8_child_35, rX8_child_36, rX8_child_39, rX8_child_40, rX8_child_43, rX8_child_46, rX8_child_49, rX8_child_51, rX8_child_54, rX8_child_55, rX8_child_58, rX8_child_61, rX8_child_62, rX8_child_63, true_and, and_true, true_or, or_true, false_or, or_false, Option.toList_some, Option.toList_none, List.nil_append, List.cons_append, zn1]
        rw [if_neg (by omega)]
        refine mod _ (fun H2 x e hx => ?_)
        rcases hx with ⟨-, hx⟩ | ⟨rfl, -⟩
        · obtain ⟨p, p0, p1, p2, p3⟩ := z
          have := hx p p0 p1 p2
          rw [e p p0 p1] at this
          omega
        · rw [if_pos rfl]
      · simp only [rX8_child_0, rX8_child_1, rX8_child_2, rX8_child_4, rX8_child_7, rX8_child_10, rX8_child_11, rX8_child_14, rX8_child_15, rX8_child_18, rX8_child_21, rX8_child_22, rX8_child_23, rX8_child_24, rX8_child_27, rX8_child_28, rX8_child_29, rX8_child_32, rX8_child_35, rX8_child_36, rX8_child_39, rX8_child_40, rX8_child_43, rX8_child_46, rX8_child_49, rX8_child_51, rX8_child_54, rX8_child_55, rX8_child_58, rX8_child_61, rX8_child_62, rX8_child_63, true_and, and_true, true_or, or_true, false_or, or_false, Option.toList_some, Option.toList_none, List.nil_append, List.cons_append, zn1, sO_0 hG, kGf hG, if_true]
        refine ⟨hi6, mod _ (fun H2 x e hx => ?_)⟩
        rcases hx with ⟨rfl, hx⟩ | ⟨-, p, p0, p1, p2, p3⟩
        · rw [if_neg (by omega)]
          exact e i c2.1.1 c2.1.2
        · have := z p p0 p1 p2
          rw [e p p0 p1] at p3
          omega
    · rw [if_neg c2]
      exact hbad (fun z => c2 z.2)
  · rw [if_pos c1]
    exact hbad (fun z => c1 z.1)
