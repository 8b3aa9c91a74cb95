/-! Books: reads -/
theorem tm3 : isTm 3 := by unfold isTm; decide
theorem tm5 : isTm 5 := by unfold isTm; decide
theorem bk7 : isBk 7 := by unfold isBk; decide
theorem bk18 : isBk 18 := by unfold isBk; decide
theorem bk29 : isBk 29 := by unfold isBk; decide
theorem tr16 : isTr 16 := by unfold isTr; decide
theorem tr27 : isTr 27 := by unfold isTr; decide
theorem kX4_interestOn {t : Nat} {n : Int} {G : zG} {H : zH} {Q : Option zV → zG → zH → Prop} (hG : zOK G) (ht : isTm t) : zCall qX4_interestOn [vr t, vi n] G H Q ↔ Q (some (vi (zint (H t 2) n))) G H := by
  rw [rX4_interestOn_in]
  simp only [rX4_interestOn_0, rX4_interestOn_1, rX4_interestOn_2, rX4_interestOn_5, rX4_interestOn_6, rX4_interestOn_8, rX4_interestOn_9, true_and, and_true, true_or, or_true, false_or, or_false, Option.toList_some, Option.toList_none, List.nil_append, List.cons_append, zn1, kT hG ht]
  exact ⟨fun h => h.2, fun h => ⟨by decide, h⟩⟩
/-- what is due -/
def zdue (r n : Int) : Int := zw (n + zint r n)
theorem kX0_dueOn {o : Nat} {n : Int} {G : zG} {H : zH} {Q : Option zV → zG → zH → Prop} (hG : zOK G) (ho : isBk o) : zCall qX0_dueOn [vr o, vi n] G H Q ↔ Q (some (vi (zdue (H 3 2) n))) G H := by
  rw [rX0_dueOn_in]
  simp only [rX0_dueOn_0, rX0_dueOn_1, rX0_dueOn_2, rX0_dueOn_5, rX0_dueOn_6, rX0_dueOn_9, rX0_dueOn_10, true_and, and_true, true_or, or_true, false_or, or_false, Option.toList_some, Option.toList_none, List.nil_append, List.cons_append, zn1, kB hG ho, sO_3 hG, kX4_interestOn hG tm3]
  rfl
theorem kX0_isAlive {o : Nat} {i : Int} {G : zG} {H : zH} {Q : Option zV → zG → zH → Prop} (hG : zOK G) (ho : isBk o) (h1 : 1 ≤ H 3 1) (h2 : H 3 1 ≤ 6) : zCall qX0_isAlive [vr o, vi i] G H Q ↔ Q (some (vi (bi ((0 ≤ i ∧ i < H 3 1) ∧ 0 < H (o + 1) i)))) G H := by
  refine zCall_det (fun Q' hq => ?_)
  rw [rX0_isAlive_in]
  have e := zw_id (z := H 3 1 - 1) (by omega) (by omega)
  simp only [rX0_isAlive_0, rX0_isAlive_1, rX0_isAlive_2, rX0_isAlive_3, rX0_isAlive_6, rX0_isAlive_9, rX0_isAlive_10, rX0_isAlive_11, rX0_isAlive_14, rX0_isAlive_17, rX0_isAlive_18, rX0_isAlive_21, rX0_isAlive_22, rX0_isAlive_23, rX0_isAlive_26, rX0_isAlive_27, rX0_isAlive_30, rX0_isAlive_31, true_and, and_true, true_or, or_true, false_or, or_false, Option.toList_some, Option.toList_none, List.nil_append, List.cons_append, zn1, kB hG ho, sO_3 hG, kX8_within, bi_eq0, e]
  repeat' (first | split | refine And.intro ?_ ?_)
  all_goals first | omega | exact hq | (rw [bi_t (by omega)] at hq; exact hq) | (rw [bi_f (by omega)] at hq; exact hq) | (exfalso; omega)
theorem kX0_isDue {o : Nat} {k : Int} {G : zG} {H : zH} {Q : Option zV → zG → zH → Prop} (hG : zOK G) (ho : isBk o) (h1 : 0 ≤ k) (h2 : k < 8) : zCall qX0_isDue [vr o, vi k] G H Q ↔ Q (some (vi (bi (H (o + 6) k ≤ 0)))) G H := by
  refine zCall_det (fun Q' hq => ?_)
  rw [rX0_isDue_in]
  simp only [rX0_isDue_0, rX0_isDue_1, rX0_isDue_4, rX0_isDue_5, rX0_isDue_6, rX0_isDue_9, rX0_isDue_10, rX0_isDue_13, rX0_isDue_14, true_and, and_true, true_or, or_true, false_or, or_false, Option.toList_some, Option.toList_none, List.nil_append, List.cons_append, zn1, kB hG ho]
  repeat' (first | split | refine And.intro ?_ ?_)
  all_goals first | omega | exact hq | (rw [bi_t (by omega)] at hq; exact hq) | (rw [bi_f (by omega)] at hq; exact hq) | (exfalso; omega)
theorem kX0_isFit {o : Nat} {i j n d : Int} {G : zG} {H : zH} {Q : Option zV → zG → zH → Prop} (hG : zOK G) (ho : isBk o) (h1 : 1 ≤ H 3 1) (h2 : H 3 1 ≤ 6) : zCall qX0_isFit [vr o, vi i, vi j, vi n, vi d] G H Q ↔ Q (some (vi (bi ((i ≠ j ∧ ((0 ≤ i ∧ i < H 3 1) ∧ 0 < H (o + 1) i)) ∧ ((0 ≤ j ∧ j < H 3 1) ∧ 0 < H (o + 1) j) ∧ ((1 ≤ n ∧ n ≤ 200) ∧ (1 ≤ d ∧ d ≤ 200)))))) G H := by
  refine zCall_det (fun Q' hq => ?_)
  rw [rX0_isFit_in]
  simp only [rX0_isFit_0, rX0_isFit_1, rX0_isFit_2, rX0_isFit_5, rX0_isFit_6, rX0_isFit_7, rX0_isFit_10, rX0_isFit_13, rX0_isFit_14, rX0_isFit_15, rX0_isFit_18, rX0_isFit_21, rX0_isFit_22, rX0_isFit_24, rX0_isFit_27, rX0_isFit_30, rX0_isFit_31, rX0_isFit_34, rX0_isFit_35, true_and, and_true, true_or, or_true, false_or, or_false, Option.toList_some, Option.toList_none, List.nil_append, List.cons_append, zn1, kX0_isAlive hG ho h1 h2, kX8_isLoanOf, kB hG ho, bi_eq0]
  repeat' (first | split | refine And.intro ?_ ?_)
  all_goals first | omega | exact hq | (rw [bi_t (by omega)] at hq; exact hq) | (rw [bi_f (by omega)] at hq; exact hq) | (exfalso; omega)
/-- how many live -/
def slive (P : Int) (w : Int → Int) : Int := zfor (fun k acc => zw (acc + bi ((0 ≤ (k : Int) ∧ (k : Int) < P) ∧ 0 < w k))) 0 P.toNat 0
theorem kX0_living {o : Nat} {G : zG} {H : zH} {Q : Option zV → zG → zH → Prop} (hG : zOK G) (ho : isBk o) (h1 : 1 ≤ H 3 1) (h2 : H 3 1 ≤ 6) : zCall qX0_living [vr o] G H Q ↔ Q (some (vi (slive (H 3 1) (H (o + 1))))) G H := by
  refine zCall_det (fun Q' hq => ?_)
  rw [rX0_living_in]
  simp only [rX0_living_0, rX0_living_1, rX0_living_2, rX0_living_3, rX0_living_5, rX0_living_6, rX0_living_9, rX0_living_12, rX0_living_15, rX0_living_16, rX0_living_17, rX0_living_18, rX0_living_21, rX0_living_24, rX0_living_25, rX0_living_28, rX0_living_29, rX0_living_30, rX0_living_31, rX0_living_34, rX0_living_37, rX0_living_38, true_and, and_true, true_or, or_true, false_or, or_false, Option.toList_some, Option.toList_none, List.nil_append, List.cons_append, zn1]
  obtain ⟨P, hP⟩ := nat_of (show 0 ≤ H 3 1 by omega)
  refine zfor_go (R := fun k acc => zRun qX0_living 4 [vr o, vi acc, vi (k : Int)] [] G H Q') (F := fun k acc => zw (acc + bi ((0 ≤ (k : Int) ∧ (k : Int) < H 3 1) ∧ 0 < H (o + 1) k))) (n := P) (fun k acc hk hq => ?_) 0 ?_
  · rw [rX0_living_4]
    simp only [rX0_living_0, rX0_living_1, rX0_living_2, rX0_living_3, rX0_living_5, rX0_living_6, rX0_living_9, rX0_living_12, rX0_living_15, rX0_living_16, rX0_living_17, rX0_living_18, rX0_living_21, rX0_living_24, rX0_living_25, rX0_living_28, rX0_living_29, rX0_living_30, rX0_living_31, rX0_living_34, rX0_living_37, rX0_living_38, true_and, and_true, true_or, or_true, false_or, or_false, Option.toList_some, Option.toList_none, List.nil_append, List.cons_append, zn1, kB hG ho, sO_3 hG, kX0_isAlive hG ho h1 h2, bi_eq0, zwk (show k < 2000000000 by omega)]
    repeat' (first | split | refine And.intro ?_ ?_)
    all_goals first | omega | exact hq | (rw [bi_t (by omega)] at hq; exact hq) | (rw [bi_f (by omega)] at hq; exact hq) | (exfalso; omega)
  · rw [rX0_living_4]
    simp only [rX0_living_0, rX0_living_1, rX0_living_2, rX0_living_3, rX0_living_5, rX0_living_6, rX0_living_9, rX0_living_12, rX0_living_15, rX0_living_16, rX0_living_17, rX0_living_18, rX0_living_21, rX0_living_24, rX0_living_25, rX0_living_28, rX0_living_29, rX0_living_30, rX0_living_31, rX0_living_34, rX0_living_37, rX0_living_38, true_and, and_true, true_or, or_true, false_or, or_false, Option.toList_some, Option.toList_none, List.nil_append, List.cons_append, zn1, kB hG ho, sO_3 hG]
    rw [if_pos (by omega)]
    unfold slive at hq
    rw [hP] at hq ⊢
    exact hq
def slost (P : Int) (l : Int → Int) : Int := zfor (fun k acc => zw (acc + l k)) 0 P.toNat 0
theorem kX0_lostByAll {o : Nat} {G : zG} {H : zH} {Q : Option zV → zG → zH → Prop} (hG : zOK G) (ho : isBk o) (h1 : 1 ≤ H 3 1) (h2 : H 3 1 ≤ 6) : zCall qX0_lostByAll [vr o] G H Q ↔ Q (some (vi (slost (H 3 1) (H (o + 2))))) G H := by
  refine zCall_det (fun Q' hq => ?_)
  rw [rX0_lostByAll_in]
  simp only [rX0_lostByAll_0, rX0_lostByAll_1, rX0_lostByAll_2, rX0_lostByAll_3, rX0_lostByAll_5, rX0_lostByAll_6, rX0_lostByAll_9, rX0_lostByAll_12, rX0_lostByAll_15, rX0_lostByAll_16, rX0_lostByAll_17, rX0_lostByAll_20, rX0_lostByAll_21, rX0_lostByAll_22, rX0_lostByAll_23, rX0_lostByAll_24, rX0_lostByAll_27, rX0_lostByAll_30, rX0_lostByAll_31, true_and, and_true, true_or, or_true, false_or, or_false, Option.toList_some, Option.toList_none, List.nil_append, List.cons_append, zn1]
  obtain ⟨P, hP⟩ := nat_of (show 0 ≤ H 3 1 by omega)
  refine zfor_go (R := fun k acc => zRun qX0_lostByAll 4 [vr o, vi acc, vi (k : Int)] [] G H Q') (F := fun k acc => zw (acc + H (o + 2) k)) (n := P) (fun k acc hk hq => ?_) 0 ?_
  · rw [rX0_lostByAll_4]
    simp only [rX0_lostByAll_0, rX0_lostByAll_1, rX0_lostByAll_2, rX0_lostByAll_3, rX0_lostByAll_5, rX0_lostByAll_6, rX0_lostByAll_9, rX0_lostByAll_12, rX0_lostByAll_15, rX0_lostByAll_16, rX0_lostByAll_17, rX0_lostByAll_20, rX0_lostByAll_21, rX0_lostByAll_22, rX0_lostByAll_23, rX0_lostByAll_24, rX0_lostByAll_27, rX0_lostByAll_30, rX0_lostByAll_31, true_and, and_true, true_or, or_true, false_or, or_false, Option.toList_some, Option.toList_none, List.nil_append, List.cons_append, zn1, kB hG ho, sO_3 hG, zwk (show k < 2000000000 by omega)]
    repeat' (first | split | refine And.intro ?_ ?_)
    all_goals first | omega | exact hq | (rw [bi_t (by omega)] at hq; exact hq) | (rw [bi_f (by omega)] at hq; exact hq) | (exfalso; omega)
  · rw [rX0_lostByAll_4]
    simp only [rX0_lostByAll_0, rX0_lostByAll_1, rX0_lostByAll_2, rX0_lostByAll_3, rX0_lostByAll_5, rX0_lostByAll_6, rX0_lostByAll_9, rX0_lostByAll_12, rX0_lostByAll_15, rX0_lostByAll_16, rX0_lostByAll_17, rX0_lostByAll_20, rX0_lostByAll_21, rX0_lostByAll_22, rX0_lostByAll_23, rX0_lostByAll_24, rX0_lostByAll_27, rX0_lostByAll_30, rX0_lostByAll_31, true_and, and_true, true_or, or_true, false_or, or_false, Option.toList_some, Option.toList_none, List.nil_append, List.cons_append, zn1, kB hG ho, sO_3 hG]
    rw [if_pos (by omega)]
    unfold slost at hq
    rw [hP] at hq
    exact hq
/-- what one owes all: borrowers, amounts -/
def sowed (n : Nat) (bo am : Int → Int) (i : Int) : Int := zfor (fun k acc => zw (acc + if bo k = i then am k else 0)) 0 n 0
theorem kX0_owedToAll {o n : Nat} {i : Int} {G : zG} {H : zH} {Q : Option zV → zG → zH → Prop} (hG : zOK G) (ho : isBk o) (hn : H o 9 = (n : Int)) (h8 : n ≤ 8) : zCall qX0_owedToAll [vr o, vi i] G H Q ↔ Q (some (vi (sowed n (H (o + 4)) (H (o + 5)) i))) G H := by
  refine zCall_det (fun Q' hq => ?_)
  rw [rX0_owedToAll_in]
  simp only [rX0_owedToAll_0, rX0_owedToAll_1, rX0_owedToAll_2, rX0_owedToAll_3, rX0_owedToAll_5, rX0_owedToAll_6, rX0_owedToAll_9, rX0_owedToAll_12, rX0_owedToAll_13, rX0_owedToAll_14, rX0_owedToAll_17, rX0_owedToAll_18, rX0_owedToAll_19, rX0_owedToAll_20, rX0_owedToAll_23, rX0_owedToAll_24, rX0_owedToAll_27, rX0_owedToAll_28, rX0_owedToAll_29, rX0_owedToAll_32, rX0_owedToAll_33, rX0_owedToAll_34, rX0_owedToAll_35, rX0_owedToAll_38, rX0_owedToAll_41, rX0_owedToAll_42, true_and, and_true, true_or, or_true, false_or, or_false, Option.toList_some, Option.toList_none, List.nil_append, List.cons_append, zn1]
  refine zfor_go (R := fun k acc => zRun qX0_owedToAll 4 [vr o, vi i, vi acc, vi (k : Int)] [] G H Q') (F := fun k acc => zw (acc + if H (o + 4) k = i then H (o + 5) k else 0)) (n := n) (fun k acc hk hq => ?_) 0 ?_
  · rw [rX0_owedToAll_4]
    simp only [rX0_owedToAll_0, rX0_owedToAll_1, rX0_owedToAll_2, rX0_owedToAll_3, rX0_owedToAll_5, rX0_owedToAll_6, rX0_owedToAll_9, rX0_owedToAll_12, rX0_owedToAll_13, rX0_owedToAll_14, rX0_owedToAll_17, rX0_owedToAll_18, rX0_owedToAll_19, rX0_owedToAll_20, rX0_owedToAll_23, rX0_owedToAll_24, rX0_owedToAll_27, rX0_owedToAll_28, rX0_owedToAll_29, rX0_owedToAll_32, rX0_owedToAll_33, rX0_owedToAll_34, rX0_owedToAll_35, rX0_owedToAll_38, rX0_owedToAll_41, rX0_owedToAll_42, true_and, and_true, true_or, or_true, false_or, or_false, Option.toList_some, Option.toList_none, List.nil_append, List.cons_append, zn1, kB hG ho, hn, zwk (show k < 2000000000 by omega)]
    rw [if_neg (by omega)]
    refine ⟨by omega, ?_⟩
    split
    · rename_i h
      rw [if_neg h] at hq
      exact hq
    · rename_i h
      rw [if_pos (by simpa using h)] at hq
      exact ⟨by omega, hq⟩
  · rw [rX0_owedToAll_4]
    simp only [rX0_owedToAll_0, rX0_owedToAll_1, rX0_owedToAll_2, rX0_owedToAll_3, rX0_owedToAll_5, rX0_owedToAll_6, rX0_owedToAll_9, rX0_owedToAll_12, rX0_owedToAll_13, rX0_owedToAll_14, rX0_owedToAll_17, rX0_owedToAll_18, rX0_owedToAll_19, rX0_owedToAll_20, rX0_owedToAll_23, rX0_owedToAll_24, rX0_owedToAll_27, rX0_owedToAll_28, rX0_owedToAll_29, rX0_owedToAll_32, rX0_owedToAll_33, rX0_owedToAll_34, rX0_owedToAll_35, rX0_owedToAll_38, rX0_owedToAll_41, rX0_owedToAll_42, true_and, and_true, true_or, or_true, false_or, or_false, Option.toList_some, Option.toList_none, List.nil_append, List.cons_append, zn1, kB hG ho, hn]
    rw [if_pos (by omega)]
    exact hq
def sdueF (r : Int) (n : Nat) (bo am du : Int → Int) (j d : Int) : Int := zfor (fun k acc => zw (acc + if bo k = j ∧ du k ≤ d then zdue r (am k) else 0)) 0 n 0
theorem kX0_dueFrom {o n : Nat} {j d : Int} {G : zG} {H : zH} {Q : Option zV → zG → zH → Prop} (hG : zOK G) (ho : isBk o) (hn : H o 9 = (n : Int)) (h8 : n ≤ 8) : zCall qX0_dueFrom [vr o, vi j, vi d] G H Q ↔ Q (some (vi (sdueF (H 3 2) n (H (o + 4)) (H (o + 5)) (H (o + 6)) j d))) G H := by
  refine zCall_det (fun Q' hq => ?_)
  rw [rX0_dueFrom_in]
  simp only [rX0_dueFrom_0, rX0_dueFrom_1, rX0_dueFrom_2, rX0_dueFrom_3, rX0_dueFrom_7, rX0_dueFrom_8, rX0_dueFrom_11, rX0_dueFrom_14, rX0_dueFrom_15, rX0_dueFrom_16, rX0_dueFrom_19, rX0_dueFrom_21, rX0_dueFrom_22, rX0_dueFrom_23, rX0_dueFrom_26, rX0_dueFrom_27, rX0_dueFrom_30, rX0_dueFrom_32, rX0_dueFrom_33, rX0_dueFrom_34, rX0_dueFrom_37, rX0_dueFrom_38, rX0_dueFrom_39, rX0_dueFrom_42, rX0_dueFrom_44, rX0_dueFrom_45, rX0_dueFrom_48, rX0_dueFrom_51, rX0_dueFrom_52, rX0_dueFrom_53, rX0_dueFrom_54, rX0_dueFrom_57, rX0_dueFrom_60, rX0_dueFrom_61, true_and, and_true, true_or, or_true, false_or, or_false, Option.toList_some, Option.toList_none, List.nil_append, List.cons_append, zn1]
  refine zfor_go (R := fun k acc => zRun qX0_dueFrom 5 [vr o, vi j, vi d, vi acc, vi (k : Int)] [] G H Q') (F := fun k acc => zw (acc + if H (o + 4) k = j ∧ H (o + 6) k ≤ d then zdue (H 3 2) (H (o + 5) k) else 0)) (n := n) (fun k acc hk hq => ?_) 0 ?_
  · rw [rX0_dueFrom_5]
    simp only [rX0_dueFrom_0, rX0_dueFrom_1, rX0_dueFrom_2, rX0_dueFrom_3, rX0_dueFrom_7, rX0_dueFrom_8, rX0_dueFrom_11, rX0_dueFrom_14, rX0_dueFrom_15, rX0_dueFrom_16, rX0_dueFrom_19, rX0_dueFrom_21, rX0_dueFrom_22, rX0_dueFrom_23, rX0_dueFrom_26, rX0_dueFrom_27, rX0_dueFrom_30, rX0_dueFrom_32, rX0_dueFrom_33, rX0_dueFrom_34, rX0_dueFrom_37, rX0_dueFrom_38, rX0_dueFrom_39, rX0_dueFrom_42, rX0_dueFrom_44, rX0_dueFrom_45, rX0_dueFrom_48, rX0_dueFrom_51, rX0_dueFrom_52, rX0_dueFrom_53, rX0_dueFrom_54, rX0_dueFrom_57, rX0_dueFrom_60, rX0_dueFrom_61, true_and, and_true, true_or, or_true, false_or, or_false, Option.toList_some, Option.toList_none, List.nil_append, List.cons_append, zn1, kB hG ho, hn, kX0_dueOn hG ho, zwk (show k < 2000000000 by omega)]
    rw [if_neg (by omega)]
    refine ⟨by omega, ?_⟩
    split
    · rename_i h
      rw [if_neg (fun z => h z.1)] at hq
      exact hq
    · rename_i h
      refine ⟨by omega, ?_⟩
      split
      · rename_i h'
        rw [if_neg (fun z => by omega)] at hq
        exact hq
      · rename_i h'
        rw [if_pos ⟨by simpa using h, by omega⟩] at hq
        exact ⟨by omega, hq⟩
  · rw [rX0_dueFrom_5]
    simp only [rX0_dueFrom_0, rX0_dueFrom_1, rX0_dueFrom_2, rX0_dueFrom_3, rX0_dueFrom_7, rX0_dueFrom_8, rX0_dueFrom_11, rX0_dueFrom_14, rX0_dueFrom_15, rX0_dueFrom_16, rX0_dueFrom_19, rX0_dueFrom_21, rX0_dueFrom_22, rX0_dueFrom_23, rX0_dueFrom_26, rX0_dueFrom_27, rX0_dueFrom_30, rX0_dueFrom_32, rX0_dueFrom_33, rX0_dueFrom_34, rX0_dueFrom_37, rX0_dueFrom_38, rX0_dueFrom_39, rX0_dueFrom_42, rX0_dueFrom_44, rX0_dueFrom_45, rX0_dueFrom_48, rX0_dueFrom_51, rX0_dueFrom_52, rX0_dueFrom_53, rX0_dueFrom_54, rX0_dueFrom_57, rX0_dueFrom_60, rX0_dueFrom_61, true_and, and_true, true_or, or_true, false_or, or_false, Option.toList_some, Option.toList_none, List.nil_append, List.cons_append, zn1, kB hG ho, hn]
    rw [if_pos (by omega)]
    exact hq
def snext (n : Nat) (du : Int → Int) (most : Int) : Int := max 1 (zfor (fun k acc => min acc (du k)) 0 n most)
theorem kX0_weeksToNextDue {o n : Nat} {most : Int} {G : zG} {H : zH} {Q : Option zV → zG → zH → Prop} (hG : zOK G) (ho : isBk o) (hn : H o 9 = (n : Int)) (h8 : n ≤ 8) : zCall qX0_weeksToNextDue [vr o, vi most] G H Q ↔ Q (some (vi (snext n (H (o + 6)) most))) G H := by
  refine zCall_det (fun Q' hq => ?_)
  rw [rX0_weeksToNextDue_in]
  simp only [rX0_weeksToNextDue_0, rX0_weeksToNextDue_1, rX0_weeksToNextDue_2, rX0_weeksToNextDue_3, rX0_weeksToNextDue_5, rX0_weeksToNextDue_6, rX0_weeksToNextDue_9, rX0_weeksToNextDue_12, rX0_weeksToNextDue_13, rX0_weeksToNextDue_14, rX0_weeksToNextDue_17, rX0_weeksToNextDue_18, rX0_weeksToNextDue_19, rX0_weeksToNextDue_22, rX0_weeksToNextDue_23, rX0_weeksToNextDue_26, rX0_weeksToNextDue_29, rX0_weeksToNextDue_30, rX0_weeksToNextDue_31, rX0_weeksToNextDue_34, true_and, and_true, true_or, or_true, false_or, or_false, Option.toList_some, Option.toList_none, List.nil_append, List.cons_append, zn1]
  refine zfor_go (R := fun k acc => zRun qX0_weeksToNextDue 4 [vr o, vi most, vi acc, vi (k : Int)] [] G H Q') (F := fun k acc => min acc (H (o + 6) k)) (n := n) (fun k acc hk hq => ?_) most ?_
  · rw [rX0_weeksToNextDue_4]
    simp only [rX0_weeksToNextDue_0, rX0_weeksToNextDue_1, rX0_weeksToNextDue_2, rX0_weeksToNextDue_3, rX0_weeksToNextDue_5, rX0_weeksToNextDue_6, rX0_weeksToNextDue_9, rX0_weeksToNextDue_12, rX0_weeksToNextDue_13, rX0_weeksToNextDue_14, rX0_weeksToNextDue_17, rX0_weeksToNextDue_18, rX0_weeksToNextDue_19, rX0_weeksToNextDue_22, rX0_weeksToNextDue_23, rX0_weeksToNextDue_26, rX0_weeksToNextDue_29, rX0_weeksToNextDue_30, rX0_weeksToNextDue_31, rX0_weeksToNextDue_34, true_and, and_true, true_or, or_true, false_or, or_false, Option.toList_some, Option.toList_none, List.nil_append, List.cons_append, zn1, kB hG ho, hn, zwk (show k < 2000000000 by omega)]
    rw [if_neg (by omega)]
    exact ⟨by omega, hq⟩
  · rw [rX0_weeksToNextDue_4]
    simp only [rX0_weeksToNextDue_0, rX0_weeksToNextDue_1, rX0_weeksToNextDue_2, rX0_weeksToNextDue_3, rX0_weeksToNextDue_5, rX0_weeksToNextDue_6, rX0_weeksToNextDue_9, rX0_weeksToNextDue_12, rX0_weeksToNextDue_13, rX0_weeksToNextDue_14, rX0_weeksToNextDue_17, rX0_weeksToNextDue_18, rX0_weeksToNextDue_19, rX0_weeksToNextDue_22, rX0_weeksToNextDue_23, rX0_weeksToNextDue_26, rX0_weeksToNextDue_29, rX0_weeksToNextDue_30, rX0_weeksToNextDue_31, rX0_weeksToNextDue_34, true_and, and_true, true_or, or_true, false_or, or_false, Option.toList_some, Option.toList_none, List.nil_append, List.cons_append, zn1, kB hG ho, hn]
    rw [if_pos (by omega)]
    exact hq
/-- the place of the greatest that is due -/
def sgreat (n : Nat) (am du : Int → Int) : Int := zfor (fun k g => if du k ≤ 0 ∧ (g = -4 ∨ am g < am k) then (k : Int) else g) 0 n (-4)
theorem kX0_greatestDue {o n : Nat} {G : zG} {H : zH} {Q : Option zV → zG → zH → Prop} (hG : zOK G) (ho : isBk o) (hn : H o 9 = (n : Int)) (h8 : n ≤ 8) : zCall qX0_greatestDue [vr o] G H Q ↔ Q (some (vi (sgreat n (H (o + 5)) (H (o + 6))))) G H := by
  refine zCall_det (fun Q' hq => ?_)
  rw [rX0_greatestDue_in]
  simp only [rX0_greatestDue_0, rX0_greatestDue_2, rX0_greatestDue_3, rX0_greatestDue_4, rX0_greatestDue_6, rX0_greatestDue_7, rX0_greatestDue_10, rX0_greatestDue_13, rX0_greatestDue_14, rX0_greatestDue_15, rX0_greatestDue_18, rX0_greatestDue_21, rX0_greatestDue_22, rX0_greatestDue_24, rX0_greatestDue_27, rX0_greatestDue_28, rX0_greatestDue_31, rX0_greatestDue_32, rX0_greatestDue_33, rX0_greatestDue_34, rX0_greatestDue_37, rX0_greatestDue_38, rX0_greatestDue_39, rX0_greatestDue_42, rX0_greatestDue_43, rX0_greatestDue_44, rX0_greatestDue_47, rX0_greatestDue_50, rX0_greatestDue_51, true_and, and_true, true_or, or_true, false_or, or_false, Option.toList_some, Option.toList_none, List.nil_append, List.cons_append, zn1]
  refine zfor_goI (R := fun k acc => zRun qX0_greatestDue 5 [vr o, vi acc, vi (k : Int)] [] G H Q') (fun k g => g = -4 ∨ (0 ≤ g ∧ g < 8)) (F := fun k g => if H (o + 6) k ≤ 0 ∧ (g = -4 ∨ H (o + 5) g < H (o + 5) k) then (k : Int) else g) (n := n) (fun k g hk hi => ?_) (fun k g hk hi hq => ?_) (-4) (Or.inl rfl) ?_
  · split <;> omega
  · rw [rX0_greatestDue_5]
    simp only [rX0_greatestDue_0, rX0_greatestDue_2, rX0_greatestDue_3, rX0_greatestDue_4, rX0_greatestDue_6, rX0_greatestDue_7, rX0_greatestDue_10, rX0_greatestDue_13, rX0_greatestDue_14, rX0_greatestDue_15, rX0_greatestDue_18, rX0_greatestDue_21, rX0_greatestDue_22, rX0_greatestDue_24, rX0_greatestDue_27, rX0_greatestDue_28, rX0_greatestDue_31, rX0_greatestDue_32, rX0_greatestDue_33, rX0_greatestDue_34, rX0_greatestDue_37, rX0_greatestDue_38, rX0_greatestDue_39, rX0_greatestDue_42, rX0_greatestDue_43, rX0_greatestDue_44, rX0_greatestDue_47, rX0_greatestDue_50, rX0_greatestDue_51, true_and, and_true, true_or, or_true, false_or, or_false, Option.toList_some, Option.toList_none, List.nil_append, List.cons_append, zn1, kB hG ho, hn, kX0_isDue hG ho (show (0 : Int) ≤ k by omega) (show (k : Int) < 8 by omega), bi_eq0, zwk (show k < 2000000000 by omega)]
    rw [if_neg (by omega)]
    split
    · rename_i h
      rw [if_neg (fun z => h z.1)] at hq
      exact hq
    · rename_i h
      split
      · rename_i h'
        rw [if_pos ⟨by simpa using h, Or.inl h'⟩] at hq
        exact hq
      · rename_i h'
        refine ⟨by omega, by omega, ?_⟩
        split
        · rename_i h''
          rw [if_neg (fun z => by omega)] at hq
          exact hq
        · rename_i h''
          rw [if_pos ⟨by simpa using h, Or.inr (by omega)⟩] at hq
          exact hq
  · rw [rX0_greatestDue_5]
    simp only [rX0_greatestDue_0, rX0_greatestDue_2, rX0_greatestDue_3, rX0_greatestDue_4, rX0_greatestDue_6, rX0_greatestDue_7, rX0_greatestDue_10, rX0_greatestDue_13, rX0_greatestDue_14, rX0_greatestDue_15, rX0_greatestDue_18, rX0_greatestDue_21, rX0_greatestDue_22, rX0_greatestDue_24, rX0_greatestDue_27, rX0_greatestDue_28, rX0_greatestDue_31, rX0_greatestDue_32, rX0_greatestDue_33, rX0_greatestDue_34, rX0_greatestDue_37, rX0_greatestDue_38, rX0_greatestDue_39, rX0_greatestDue_42, rX0_greatestDue_43, rX0_greatestDue_44, rX0_greatestDue_47, rX0_greatestDue_50, rX0_greatestDue_51, true_and, and_true, true_or, or_true, false_or, or_false, Option.toList_some, Option.toList_none, List.nil_append, List.cons_append, zn1, kB hG ho, hn]
    rw [if_pos (by omega)]
    exact hq
/-- the first place from k on, of m -/
def zff (c : Nat → Bool) : Nat → Nat → Int
  | _, 0 => -4
  | k, m + 1 => if c k = true then (k : Int) else zff c (k + 1) m
def soth (P : Int) (w : Int → Int) (i j : Int) : Int := zff (fun p => decide (((p : Int) ≠ i ∧ (p : Int) ≠ j) ∧ 0 < w p)) 0 P.toNat
theorem kX0_lowestOther {o : Nat} {i j : Int} {G : zG} {H : zH} {Q : Option zV → zG → zH → Prop} (hG : zOK G) (ho : isBk o) (h1 : 1 ≤ H 3 1) (h2 : H 3 1 ≤ 6) : zCall qX0_lowestOther [vr o, vi i, vi j] G H Q ↔ Q (some (vi (soth (H 3 1) (H (o + 1)) i j))) G H := by
  refine zCall_det (fun Q' hq => ?_)
  rw [rX0_lowestOther_in]
  simp only [rX0_lowestOther_0, rX0_lowestOther_1, rX0_lowestOther_3, rX0_lowestOther_4, rX0_lowestOther_7, rX0_lowestOther_10, rX0_lowestOther_13, rX0_lowestOther_14, rX0_lowestOther_15, rX0_lowestOther_18, rX0_lowestOther_19, rX0_lowestOther_20, rX0_lowestOther_23, rX0_lowestOther_24, rX0_lowestOther_25, rX0_lowestOther_28, rX0_lowestOther_31, rX0_lowestOther_32, rX0_lowestOther_33, rX0_lowestOther_36, rX0_lowestOther_39, rX0_lowestOther_41, true_and, and_true, true_or, or_true, false_or, or_false, Option.toList_some, Option.toList_none, List.nil_append, List.cons_append, zn1]
  obtain ⟨P, hP⟩ := nat_of (show 0 ≤ H 3 1 by omega)
  unfold soth at hq
  rw [show (H 3 1).toNat = P by omega] at hq
  have key : ∀ (m k : Nat), k + m = P → Q' (some (vi (zff (fun p => decide (((p : Int) ≠ i ∧ (p : Int) ≠ j) ∧ 0 < H (o + 1) p)) k m))) G H → zRun qX0_lowestOther 2 [vr o, vi i, vi j, vi (k : Int)] [] G H Q' := by
    intro m
    induction m with
    | zero =>
      intro k hk hq
      rw [rX0_lowestOther_2]
      simp only [rX0_lowestOther_0, rX0_lowestOther_1, rX0_lowestOther_3, rX0_lowestOther_4, rX0_lowestOther_7, rX0_lowestOther_10, rX0_lowestOther_13, rX0_lowestOther_14, rX0_lowestOther_15, rX0_lowestOther_18, rX0_lowestOther_19, rX0_lowestOther_20, rX0_lowestOther_23, rX0_lowestOther_24, rX0_lowestOther_25, rX0_lowestOther_28, rX0_lowestOther_31, rX0_lowestOther_32, rX0_lowestOther_33, rX0_lowestOther_36, rX0_lowestOther_39, rX0_lowestOther_41, true_and, and_true, true_or, or_true, false_or, or_false, Option.toList_some, Option.toList_none, List.nil_append, List.cons_append, zn1, kB hG ho, sO_3 hG]
      rw [if_pos (by omega)]
      exact hq
    | succ m ih =>
      intro k hk hq
      rw [rX0_lowestOther_2]
      simp only [rX0_lowestOther_0, rX0_lowestOther_1, rX0_lowestOther_3, rX0_lowestOther_4, rX0_lowestOther_7, rX0_lowestOther_10, rX0_lowestOther_13, rX0_lowestOther_14, rX0_lowestOther_15, rX0_lowestOther_18, rX0_lowestOther_19, rX0_lowestOther_20, rX0_lowestOther_23, rX0_lowestOther_24, rX0_lowestOther_25, rX0_lowestOther_28, rX0_lowestOther_31, rX0_lowestOther_32, rX0_lowestOther_33, rX0_lowestOther_36, rX0_lowestOther_39, rX0_lowestOther_41, true_and, and_true, true_or, or_true, false_or, or_false, Option.toList_some, Option.toList_none, List.nil_append, List.cons_append, zn1, kB hG ho, sO_3 hG, kX0_isAlive hG ho h1 h2, bi_eq0, zwk (show k < 2000000000 by omega)]
      rw [if_neg (by omega)]
      rw [zff] at hq
      by_cases hc : ((k : Int) ≠ i ∧ (k : Int) ≠ j) ∧ 0 < H (o + 1) k
      · rw [if_pos (by simpa using hc)] at hq
        rw [if_neg hc.1.1, if_neg hc.1.2, if_neg (fun z => z ⟨⟨by omega, by omega⟩, hc.2⟩)]
        exact hq
      · rw [if_neg (by simpa using hc)] at hq
        have hr := ih (k + 1) (by omega) hq
        split
        · exact hr
        · split
          · exact hr
          · rw [if_pos (fun z => hc ⟨⟨by assumption, by assumption⟩, z.2⟩)]
            exact hr
  exact key P 0 (by omega) hq
