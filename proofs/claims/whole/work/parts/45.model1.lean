/-! the model: reads; who gives whom; a loan is paid -/
theorem kM {G : zG} (h : zOK G) : ((zC G 130 9 ∧ zR G 130 1 = 131 ∧ zlt G 131 ∧ zR G 130 3 = 132 ∧ zlt G 132 ∧ zR G 130 5 = 133 ∧ zlt G 133 ∧ zR G 130 9 = 134 ∧ zlt G 134 ∧ zR G 130 10 = 135 ∧ zlt G 135 ∧ zR G 130 11 = 136 ∧ zlt G 136 ∧ zR G 130 13 = 137 ∧ zlt G 137 ∧ zR G 130 15 = 138 ∧ zlt G 138 ∧ zR G 130 17 = 139 ∧ zlt G 139 ∧ zR G 130 18 = 140 ∧ zlt G 140 ∧ zR G 130 19 = 141 ∧ zlt G 141 ∧ zR G 130 20 = 142 ∧ zlt G 142 ∧ zR G 130 21 = 143 ∧ zlt G 143 ∧ zR G 130 22 = 144 ∧ zlt G 144 ∧ zR G 130 23 = 145 ∧ zlt G 145 ∧ zR G 130 26 = 146 ∧ zlt G 146) ∧ (zC G 131 100 ∧ zlen G 131 = 300)) ∧ ((zC G 132 100 ∧ zlen G 132 = 10) ∧ (zC G 133 100 ∧ zlen G 133 = 6) ∧ (zC G 134 100 ∧ zlen G 134 = 46) ∧ (zC G 135 100 ∧ zlen G 135 = 46)) ∧ ((zC G 136 100 ∧ zlen G 136 = 276) ∧ (zC G 137 100 ∧ zlen G 137 = 92) ∧ (zC G 138 100 ∧ zlen G 138 = 48) ∧ (zC G 139 100 ∧ zlen G 139 = 8) ∧ (zC G 140 100 ∧ zlen G 140 = 9)) ∧ ((zC G 141 100 ∧ zlen G 141 = 8) ∧ (zC G 142 100 ∧ zlen G 142 = 6) ∧ (zC G 143 100 ∧ zlen G 143 = 6) ∧ (zC G 144 100 ∧ zlen G 144 = 36) ∧ (zC G 145 100 ∧ zlen G 145 = 6) ∧ (zC G 146 100 ∧ zlen G 146 = 4)) :=
  ⟨⟨sO_130 h, sO_131 h⟩, ⟨sO_132 h, sO_133 h, sO_134 h, sO_135 h⟩, ⟨sO_136 h, sO_137 h, sO_138 h, sO_139 h, sO_140 h⟩, sO_141 h, sO_142 h, sO_143 h, sO_144 h, sO_145 h, sO_146 h⟩
def tOKm (H : zH) : Prop := (1 ≤ H 130 4 ∧ H 130 4 ≤ 6) ∧ (0 ≤ H 130 6 ∧ H 130 6 ≤ 99) ∧ (0 ≤ H 130 7 ∧ H 130 7 ≤ 3) ∧ (0 ≤ H 130 8 ∧ H 130 8 ≤ 2)
theorem ix4 {k : Nat} (h : k ≤ 8) : zw (4 * (k : Int)) = 4 * (k : Int) ∧ zw (13 + 4 * (k : Int)) = 13 + 4 * (k : Int) ∧ zw (13 + 4 * (k : Int) + 1) = 13 + 4 * (k : Int) + 1 ∧ zw (13 + 4 * (k : Int) + 2) = 13 + 4 * (k : Int) + 2 ∧ zw (13 + 4 * (k : Int) + 3) = 13 + 4 * (k : Int) + 3 := ⟨zw_id (by omega) (by omega), zw_id (by omega) (by omega), zw_id (by omega) (by omega), zw_id (by omega) (by omega), zw_id (by omega) (by omega)⟩
theorem kX9_isPerson {i : Int} {G : zG} {H : zH} {Q : Option zV → zG → zH → Prop} (hG : zOK G) (h1 : 1 ≤ H 130 4) (h2 : H 130 4 ≤ 6) : zCall qX9_isPerson [vr 130, vi i] G H Q ↔ Q (some (vi (bi (0 ≤ i ∧ i < H 130 4)))) G H := by
  refine zCall_det (fun Q' hq => ?_)
  rw [rX9_isPerson_in]
  have e := zw_id (z := H 130 4 - 1) (by omega) (by omega)
  simp only [rX9_isPerson_0, rX9_isPerson_1, rX9_isPerson_2, rX9_isPerson_3, rX9_isPerson_6, rX9_isPerson_7, rX9_isPerson_8, rX9_isPerson_11, true_and, and_true, true_or, or_true, false_or, or_false, Option.toList_some, Option.toList_none, List.nil_append, List.cons_append, zn1, kM hG, kX9_in, e]
  have : bi (0 ≤ i ∧ i ≤ H 130 4 - 1) = bi (0 ≤ i ∧ i < H 130 4) := by
    unfold bi
    split <;> split <;> first | rfl | omega
  rw [this]
  refine ⟨?_, hq⟩
  unfold bi
  split <;> simp
theorem kX9_dueOf {n : Int} {G : zG} {H : zH} {Q : Option zV → zG → zH → Prop} (hG : zOK G) : zCall qX9_dueOf [vr 130, vi n] G H Q ↔ Q (some (vi (zdue (H 130 6) n))) G H := by
  rw [rX9_dueOf_in]
  simp only [rX9_dueOf_0, rX9_dueOf_1, rX9_dueOf_2, rX9_dueOf_3, rX9_dueOf_6, rX9_dueOf_7, rX9_dueOf_9, rX9_dueOf_10, rX9_dueOf_11, true_and, and_true, true_or, or_true, false_or, or_false, Option.toList_some, Option.toList_none, List.nil_append, List.cons_append, zn1, kM hG]
  exact ⟨fun h => h.2, fun h => ⟨by decide, h⟩⟩
theorem kX9_mayAsk {i j n d : Int} {G : zG} {H : zH} {Q : Option zV → zG → zH → Prop} (hG : zOK G) (h1 : 1 ≤ H 130 4) (h2 : H 130 4 ≤ 6) : zCall qX9_mayAsk [vr 130, vi i, vi j, vi n, vi d] G H Q ↔ Q (some (vi (bi ((i ≠ j ∧ ((0 ≤ i ∧ i < H 130 4) ∧ 0 < H 134 i)) ∧ ((0 ≤ j ∧ j < H 130 4) ∧ 0 < H 134 j) ∧ ((1 ≤ n ∧ n ≤ 200) ∧ (1 ≤ d ∧ d ≤ 200)))))) G H := by
  refine zCall_det (fun Q' hq => ?_)
  rw [rX9_mayAsk_in]
  simp only [rX9_mayAsk_0, rX9_mayAsk_1, rX9_mayAsk_2, rX9_mayAsk_5, rX9_mayAsk_8, rX9_mayAsk_9, rX9_mayAsk_10, rX9_mayAsk_13, rX9_mayAsk_16, rX9_mayAsk_17, rX9_mayAsk_18, rX9_mayAsk_21, rX9_mayAsk_22, rX9_mayAsk_25, rX9_mayAsk_28, rX9_mayAsk_30, rX9_mayAsk_33, rX9_mayAsk_36, rX9_mayAsk_37, rX9_mayAsk_40, rX9_mayAsk_41, rX9_mayAsk_42, rX9_mayAsk_45, rX9_mayAsk_46, rX9_mayAsk_49, rX9_mayAsk_50, rX9_mayAsk_51, rX9_mayAsk_54, rX9_mayAsk_55, rX9_mayAsk_58, rX9_mayAsk_59, true_and, and_true, true_or, or_true, false_or, or_false, Option.toList_some, Option.toList_none, List.nil_append, List.cons_append, zn1, kX9_isPerson hG h1 h2, kX9_isSpan, kM hG, bi_eq0]
  repeat' (first | split | refine And.intro ?_ ?_)
  all_goals first | omega | exact hq | (rw [bi_t (by omega)] at hq; exact hq) | (rw [bi_f (by omega)] at hq; exact hq) | (exfalso; omega)
theorem kX9_living {G : zG} {H : zH} {Q : Option zV → zG → zH → Prop} (hG : zOK G) (h1 : 1 ≤ H 130 4) (h2 : H 130 4 ≤ 6) : zCall qX9_living [vr 130] G H Q ↔ Q (some (vi (slive (H 130 4) (H 134)))) G H := by
  refine zCall_det (fun Q' hq => ?_)
  rw [rX9_living_in]
  simp only [rX9_living_0, rX9_living_1, rX9_living_2, rX9_living_3, rX9_living_5, rX9_living_6, rX9_living_9, rX9_living_12, rX9_living_13, rX9_living_14, rX9_living_17, rX9_living_18, rX9_living_19, rX9_living_22, rX9_living_23, rX9_living_26, rX9_living_27, rX9_living_28, rX9_living_29, rX9_living_32, rX9_living_35, rX9_living_36, true_and, and_true, true_or, or_true, false_or, or_false, Option.toList_some, Option.toList_none, List.nil_append, List.cons_append, zn1]
  obtain ⟨P, hP⟩ := nat_of (show 0 ≤ H 130 4 by omega)
  refine zfor_go (R := fun k acc => zRun qX9_living 4 [vr 130, vi acc, vi (k : Int)] [] G H Q') (F := fun k acc => zw (acc + bi ((0 ≤ (k : Int) ∧ (k : Int) < H 130 4) ∧ 0 < H 134 k))) (n := P) (fun k acc hk hq => ?_) 0 ?_
  · rw [rX9_living_4]
    simp only [rX9_living_0, rX9_living_1, rX9_living_2, rX9_living_3, rX9_living_5, rX9_living_6, rX9_living_9, rX9_living_12, rX9_living_13, rX9_living_14, rX9_living_17, rX9_living_18, rX9_living_19, rX9_living_22, rX9_living_23, rX9_living_26, rX9_living_27, rX9_living_28, rX9_living_29, rX9_living_32, rX9_living_35, rX9_living_36, true_and, and_true, true_or, or_true, false_or, or_false, Option.toList_some, Option.toList_none, List.nil_append, List.cons_append, zn1, kM hG, zwk (show k < 2000000000 by omega)]
    repeat' (first | split | refine And.intro ?_ ?_)
    all_goals first | omega | exact hq | (rw [bi_t (by omega)] at hq; exact hq) | (rw [bi_f (by omega)] at hq; exact hq) | (exfalso; omega)
  · rw [rX9_living_4]
    simp only [rX9_living_0, rX9_living_1, rX9_living_2, rX9_living_3, rX9_living_5, rX9_living_6, rX9_living_9, rX9_living_12, rX9_living_13, rX9_living_14, rX9_living_17, rX9_living_18, rX9_living_19, rX9_living_22, rX9_living_23, rX9_living_26, rX9_living_27, rX9_living_28, rX9_living_29, rX9_living_32, rX9_living_35, rX9_living_36, true_and, and_true, true_or, or_true, false_or, or_false, Option.toList_some, Option.toList_none, List.nil_append, List.cons_append, zn1, kM hG]
    rw [if_pos (by omega)]
    unfold slive at hq
    rw [hP] at hq ⊢
    exact hq
theorem kX9_gives {g t a : Int} {G : zG} {H : zH} {Q : Option zV → zG → zH → Prop} (hG : zOK G) (h2 : H 130 4 ≤ 6) (hw : ∀ p : Int, 0 ≤ p → p < 6 → 0 ≤ H 134 p ∧ H 134 p ≤ 6000) (hg0 : 0 ≤ g) (hg : g < H 130 4) (ht0 : 0 ≤ t) (ht : t < 6) (ha0 : 0 ≤ a) (ha : a ≤ 400) : zCall qX9_gives [vr 130, vi g, vi t, vi a] G H Q ↔ Q (some (vi (sgv (H 130 4) (H 134) g a))) G (zset H 134 (smv (H 134) g t (sgv (H 130 4) (H 134) g a))) := by
  refine zCall_det (fun Q' hq => ?_)
  rw [rX9_gives_in]
  simp only [rX9_gives_0, rX9_gives_1, rX9_gives_2, rX9_gives_5, rX9_gives_6, rX9_gives_7, rX9_gives_8, rX9_gives_9, rX9_gives_12, rX9_gives_14, rX9_gives_16, rX9_gives_19, rX9_gives_20, rX9_gives_23, rX9_gives_25, rX9_gives_27, rX9_gives_28, rX9_gives_31, rX9_gives_32, rX9_gives_33, rX9_gives_34, rX9_gives_36, rX9_gives_37, rX9_gives_38, rX9_gives_39, rX9_gives_42, rX9_gives_43, rX9_gives_44, rX9_gives_45, rX9_gives_47, rX9_gives_48, rX9_gives_49, rX9_gives_51, true_and, and_true, true_or, or_true, false_or, or_false, Option.toList_some, Option.toList_none, List.nil_append, List.cons_append, zn1, kM hG, kX9_lesser, zup_def, zset_at, if_true, zset_set]
  have hwg := hw g (by omega) (by omega)
  have hwt := hw t (by omega) (by omega)
  rw [zw_id (z := H 134 g - 1) (by omega) (by omega)]
  have e : sgv (H 130 4) (H 134) g a = if min a (H 134 g - 1) < 0 then 0 else min a (H 134 g - 1) := by
    unfold sgv
    by_cases c : 0 < H 134 g
    · rw [if_pos ⟨⟨hg0, hg⟩, c⟩, if_neg (by omega)]
    · rw [if_neg (fun z => c z.2), if_pos (by omega)]
  have fin : ∀ v : Int, v = sgv (H 130 4) (H 134) g a → Q' (some (vi v)) G (zset H 134 (zfu (zfu (H 134) g (zw (H 134 g - v))) t (zw (zfu (H 134) g (zw (H 134 g - v)) t + v)))) := by
    intro v hv
    have hr := sgv_rng (g := g) (a := a) h2 hw ha0
    rw [← hv] at hr hq
    rw [zw_id (z := H 134 g - v) (by omega) (by omega)]
    have b : 0 ≤ zfu (H 134) g (H 134 g - v) t ∧ zfu (H 134) g (H 134 g - v) t ≤ 6000 := by
      rw [zfu_at]
      split <;> omega
    rw [zw_id (z := zfu (H 134) g (H 134 g - v) t + v) (by omega) (by omega)]
    exact hq
  refine ⟨by omega, ?_⟩
  by_cases c : 0 ≤ min a (H 134 g - 1)
  · rw [if_pos c]
    exact ⟨by omega, by omega, by omega, by omega, fin _ (by rw [e, if_neg (by omega)])⟩
  · rw [if_neg c]
    exact ⟨by omega, by omega, by omega, by omega, fin _ (by rw [e, if_pos (by omega)])⟩
