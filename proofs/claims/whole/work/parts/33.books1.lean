/-! Books: reads -/
theorem tm3 : isTm 3 := by unfold isTm; decide
theorem tm5 : isTm 5 := by unfold isTm; decide
theorem bk7 : isBk 7 := by unfold isBk; decide
theorem bk18 : isBk 18 := by unfold isBk; decide
theorem bk29 : isBk 29 := by unfold isBk; decide
theorem tr16 : isTr 16 := by unfold isTr; decide
theorem tr27 : isTr 27 := by unfold isTr; decide
theorem kX4_interestOn {t : Nat} {n : Int} {G : zG} {H : zH} {Q : Option zV → zG → zH → Prop} (hG : zOK G) (ht : isTm t) : zCall qX4_interestOn [vr t, vi n] G H Q ↔ Q (some (vi (zint (H t 2) n))) G H := by
  rw [rX4_interestOn_in]
  simp only [rX4_interestOn_0, rX4_interestOn_1, rX4_interestOn_2, rX4_interestOn_5, rX4_interestOn_6, rX4_interestOn_8, rX4_interestOn_9, true_and, and_true, true_or, or_true, false_or, or_false, Option.toList_some, Option.toList_none, List.nil_append, List.cons_append, zn1, kT hG ht]
  exact ⟨fun h => h.2, fun h => ⟨by decide, h⟩⟩
/-- what is due -/
def zdue (r n : Int) : Int := zw (n + zint r n)
theorem kX0_dueOn {o : Nat} {n : Int} {G : zG} {H : zH} {Q : Option zV → zG → zH → Prop} (hG : zOK G) (ho : isBk o) : zCall qX0_dueOn [vr o, vi n] G H Q ↔ Q (some (vi (zdue (H 3 2) n))) G H := by
  rw [rX0_dueOn_in]
  simp only [rX0_dueOn_0, rX0_dueOn_1, rX0_dueOn_2, rX0_dueOn_5, rX0_dueOn_6, rX0_dueOn_9, rX0_dueOn_10, true_and, and_true, true_or, or_true, false_or, or_false, Option.toList_some, Option.toList_none, List.nil_append, List.cons_append, zn1, kB hG ho, sO_3 hG, kX4_interestOn hG tm3]
  rfl
theorem kX0_isAlive {o : Nat} {i : Int} {G : zG} {H : zH} {Q : Option zV → zG → zH → Prop} (hG : zOK G) (ho : isBk o) (h1 : 1 ≤ H 3 1) (h2 : H 3 1 ≤ 6) : zCall qX0_isAlive [vr o, vi i] G H Q ↔ Q (some (vi (bi ((0 ≤ i ∧ i < H 3 1) ∧ 0 < H (o + 1) i)))) G H := by
  refine zCall_det (fun Q' hq => ?_)
  rw [rX0_isAlive_in]
  have e := zw_id (z := H 3 1 - 1) (by omega) (by omega)
  simp only [rX0_isAlive_0, rX0_isAlive_1, rX0_isAlive_2, rX0_isAlive_3, rX0_isAlive_6, rX0_isAlive_9, rX0_isAlive_10, rX0_isAlive_11, rX0_isAlive_14, rX0_isAlive_17, rX0_isAlive_18, rX0_isAlive_21, rX0_isAlive_22, rX0_isAlive_23, rX0_isAlive_26, rX0_isAlive_27, rX0_isAlive_30, rX0_isAlive_31, true_and, and_true, true_or, or_true, false_or, or_false, Option.toList_some, Option.toList_none, List.nil_append, List.cons_append, zn1, kB hG ho, sO_3 hG, kX8_within, bi_eq0, e]
  repeat' (first | split | refine And.intro ?_ ?_)
  all_goals first | omega | exact hq | (rw [bi_t (by omega)] at hq; exact hq) | (rw [bi_f (by omega)] at hq; exact hq) | (exfalso; omega)
theorem kX0_isDue {o : Nat} {k : Int} {G : zG} {H : zH} {Q : Option zV → zG → zH → Prop} (hG : zOK G) (ho : isBk o) (h1 : 0 ≤ k) (h2 : k < 8) : zCall qX0_isDue [vr o, vi k] G H Q ↔ Q (some (vi (bi (H (o + 6) k ≤ 0)))) G H := by
  refine zCall_det (fun Q' hq => ?_)
  rw [rX0_isDue_in]
  simp only [rX0_isDue_0, rX0_isDue_1, rX0_isDue_4, rX0_isDue_5, rX0_isDue_6, rX0_isDue_9, rX0_isDue_10, rX0_isDue_13, rX0_isDue_14, true_and, and_true, true_or, or_true, false_or, or_false, Option.toList_some, Option.toList_none, List.nil_append, List.cons_append, zn1, kB hG ho]
  repeat' (first | split | refine And.intro ?_ ?_)
  all_goals first | omega | exact hq | (rw [bi_t (by omega)] at hq; exact hq) | (rw [bi_f (by omega)] at hq; exact hq) | (exfalso; omega)
theorem kX0_isFit {o : Nat} {i j n d : Int} {G : zG} {H : zH} {Q : Option zV → zG → zH → Prop} (hG : zOK G) (ho : isBk o) (h1 : 1 ≤ H 3 1) (h2 : H 3 1 ≤ 6) : zCall qX0_isFit [vr o, vi i, vi j, vi n, vi d] G H Q ↔ Q (some (vi (bi ((i ≠ j ∧ ((0 ≤ i ∧ i < H 3 1) ∧ 0 < H (o + 1) i)) ∧ ((0 ≤ j ∧ j < H 3 1) ∧ 0 < H (o + 1) j) ∧ ((1 ≤ n ∧ n ≤ 200) ∧ (1 ≤ d ∧ d ≤ 200)))))) G H := by
  refine zCall_det (fun Q' hq => ?_)
  rw [rX0_isFit_in]
  simp only [rX0_isFit_0, rX0_isFit_1, rX0_isFit_2, rX0_isFit_5, rX0_isFit_6, rX0_isFit_7, rX0_isFit_10, rX0_isFit_13, rX0_isFit_14, rX0_isFit_15, rX0_isFit_18, rX0_isFit_21, rX0_isFit_22, rX0_isFit_24, rX0_isFit_27, rX0_isFit_30, rX0_isFit_31, rX0_isFit_34, rX0_isFit_35, true_and, and_true, true_or, or_true, false_or, or_false, Option.toList_some, Option.toList_none, List.nil_append, List.cons_append, zn1, kX0_isAlive hG ho h1 h2, kX8_isLoanOf, kB hG ho, bi_eq0]
  repeat' (first | split | refine And.intro ?_ ?_)
  all_goals first | omega | exact hq | (rw [bi_t (by omega)] at hq; exact hq) | (rw [bi_f (by omega)] at hq; exact hq) | (exfalso; omega)
