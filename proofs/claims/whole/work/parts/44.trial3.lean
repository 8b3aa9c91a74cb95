/-! Trial: without one; two trials beside each other -/
theorem kX7_startWithout {t s : Nat} {i : Int} {ls : List zLn} {G : zG} {H : zH} {Q' : Option zV → zG → zH → Prop} (hG : zOK G) (ht : isTr t) (hs : isBk s) (hts : t + 2 ≠ s) (h1 : 1 ≤ H 3 1) (h2 : H 3 1 ≤ 6) (hL : LA H s ls) (h8 : ls.length ≤ 8) (i0 : 0 ≤ i) (i1 : i < H 3 1) (hi : 0 < H (s + 1) i)
    (hq : ∀ H' : zH, frT t H H' → (∀ p : Int, 0 ≤ p → p < 6 → H' (t + 2 + 1) p = zfu (H (s + 1)) i 0 p ∧ H' (t + 2 + 2) p = H (s + 2) p) → (∀ k : Int, 0 ≤ k → k < 8 → H' (t + 2 + 8) k = 0) → LA H' (t + 2) (mkL 0 ls) → H' t 2 = 0 → (∀ p : Int, 0 ≤ p → p < 6 → H' (t + 1) p = if p < H 3 1 ∧ 0 < zfu (H (s + 1)) i 0 p then 1000000 else 0) → Q' none G H') : zCall qX7_startWithout [vr t, vi i, vr s] G H Q' := by
  have hb := tr_ge ht
  have ho := tr_bk ht
  rw [rX7_startWithout_in]
  simp only [rX7_startWithout_0, rX7_startWithout_1, rX7_startWithout_2, rX7_startWithout_5, rX7_startWithout_6, rX7_startWithout_9, rX7_startWithout_10, rX7_startWithout_13, rX7_startWithout_16, rX7_startWithout_17, rX7_startWithout_20, rX7_startWithout_23, rX7_startWithout_24, rX7_startWithout_25, rX7_startWithout_26, rX7_startWithout_27, rX7_startWithout_30, rX7_startWithout_31, rX7_startWithout_32, rX7_startWithout_33, true_and, and_true, true_or, or_true, false_or, or_false, Option.toList_some, Option.toList_none, List.nil_append, List.cons_append, zn1, kTr hG ht]
  refine kX7_start hG ht hs hts h1 h2 hL h8 (fun H1 f1 w1 p1 l1 t1 d1 _ => ?_)
  have e3 : H1 3 = H 3 := f1 3 (by omega)
  simp only [rX7_startWithout_0, rX7_startWithout_1, rX7_startWithout_2, rX7_startWithout_5, rX7_startWithout_6, rX7_startWithout_9, rX7_startWithout_10, rX7_startWithout_13, rX7_startWithout_16, rX7_startWithout_17, rX7_startWithout_20, rX7_startWithout_23, rX7_startWithout_24, rX7_startWithout_25, rX7_startWithout_26, rX7_startWithout_27, rX7_startWithout_30, rX7_startWithout_31, rX7_startWithout_32, rX7_startWithout_33, true_and, and_true, true_or, or_true, false_or, or_false, Option.toList_some, Option.toList_none, List.nil_append, List.cons_append, zn1, kTr hG ht, kB hG ho, kX0_isAlive hG ho (show 1 ≤ H1 3 1 by rw [e3]; exact h1) (show H1 3 1 ≤ 6 by rw [e3]; exact h2), bi_eq0, e3, zup_def]
  rw [if_neg (fun z => z ⟨⟨i0, i1⟩, by rw [(w1 i i0 (by omega)).1]; exact hi⟩)]
  refine ⟨by omega, by omega, ?_⟩
  refine hq _ (fun b hb' => ?_) (fun p p0 p1 => ?_) (fun k k0 k1 => ?_) ⟨?_, fun j x hj => ?_⟩ ?_ (fun p p0 p1 => ?_)
  · rw [zset_ne (by omega), zset_ne (by omega)]
    exact f1 b hb'
  · refine ⟨?_, ?_⟩
    · rw [zset_ne (by omega), zset_eq, zfu_at, zfu_at, (w1 p p0 p1).1]
    · rw [zset_ne (by omega), zset_ne (by omega)]
      exact (w1 p p0 p1).2
  · rw [zset_ne (by omega), zset_ne (by omega)]
    exact p1 k k0 k1
  · rw [zset_ne (by omega), zset_ne (by omega)]
    exact l1.1
  · have := l1.2 j x hj
    unfold AR at this ⊢
    simp only [zset_at]
    repeat' rw [if_neg (by omega)]
    exact this
  · rw [zset_ne (by omega), zset_ne (by omega)]
    exact t1
  · rw [zset_eq, zfu_at, zfu_at, zset_ne (by omega)]
    by_cases c : p = i
    · rw [if_pos c, if_pos c, if_neg (by omega)]
    · rw [if_neg c, if_neg c]
      exact d1 p p0 p1
def sless (f g : Int → Int) : Int := zfor (fun k acc => zw (acc + bi (f k < g k))) 0 8 0
theorem kX7_loansPaidLessThan {t u : Nat} {G : zG} {H : zH} {Q : Option zV → zG → zH → Prop} (hG : zOK G) (ht : isTr t) (hu : isTr u) : zCall qX7_loansPaidLessThan [vr t, vr u] G H Q ↔ Q (some (vi (sless (H (t + 2 + 8)) (H (u + 2 + 8))))) G H := by
  have ho := tr_bk ht
  have ho' := tr_bk hu
  refine zCall_det (fun Q' hq => ?_)
  rw [rX7_loansPaidLessThan_in]
  simp only [rX7_loansPaidLessThan_0, rX7_loansPaidLessThan_1, rX7_loansPaidLessThan_2, rX7_loansPaidLessThan_3, rX7_loansPaidLessThan_5, rX7_loansPaidLessThan_7, rX7_loansPaidLessThan_10, rX7_loansPaidLessThan_11, rX7_loansPaidLessThan_12, rX7_loansPaidLessThan_15, rX7_loansPaidLessThan_18, rX7_loansPaidLessThan_19, rX7_loansPaidLessThan_20, rX7_loansPaidLessThan_21, rX7_loansPaidLessThan_24, rX7_loansPaidLessThan_27, rX7_loansPaidLessThan_28, rX7_loansPaidLessThan_29, rX7_loansPaidLessThan_32, rX7_loansPaidLessThan_33, rX7_loansPaidLessThan_36, rX7_loansPaidLessThan_37, rX7_loansPaidLessThan_38, rX7_loansPaidLessThan_39, rX7_loansPaidLessThan_42, rX7_loansPaidLessThan_45, rX7_loansPaidLessThan_46, true_and, and_true, true_or, or_true, false_or, or_false, Option.toList_some, Option.toList_none, List.nil_append, List.cons_append, zn1]
  refine zfor_go (R := fun k acc => zRun qX7_loansPaidLessThan 4 [vr t, vr u, vi acc, vi (k : Int)] [] G H Q') (F := fun k acc => zw (acc + bi (H (t + 2 + 8) k < H (u + 2 + 8) k))) (n := 8) (fun k acc hk hq => ?_) 0 ?_
  · rw [rX7_loansPaidLessThan_4]
    simp only [rX7_loansPaidLessThan_0, rX7_loansPaidLessThan_1, rX7_loansPaidLessThan_2, rX7_loansPaidLessThan_3, rX7_loansPaidLessThan_5, rX7_loansPaidLessThan_7, rX7_loansPaidLessThan_10, rX7_loansPaidLessThan_11, rX7_loansPaidLessThan_12, rX7_loansPaidLessThan_15, rX7_loansPaidLessThan_18, rX7_loansPaidLessThan_19, rX7_loansPaidLessThan_20, rX7_loansPaidLessThan_21, rX7_loansPaidLessThan_24, rX7_loansPaidLessThan_27, rX7_loansPaidLessThan_28, rX7_loansPaidLessThan_29, rX7_loansPaidLessThan_32, rX7_loansPaidLessThan_33, rX7_loansPaidLessThan_36, rX7_loansPaidLessThan_37, rX7_loansPaidLessThan_38, rX7_loansPaidLessThan_39, rX7_loansPaidLessThan_42, rX7_loansPaidLessThan_45, rX7_loansPaidLessThan_46, true_and, and_true, true_or, or_true, false_or, or_false, Option.toList_some, Option.toList_none, List.nil_append, List.cons_append, zn1, kTr hG ht, kB hG ho, kTr hG hu, kB hG ho', zwk (show k < 2000000000 by omega)]
    repeat' (first | split | refine And.intro ?_ ?_)
    all_goals first | omega | exact hq | (rw [bi_t (by omega)] at hq; exact hq) | (rw [bi_f (by omega)] at hq; exact hq) | (exfalso; omega)
  · rw [rX7_loansPaidLessThan_4]
    simp only [rX7_loansPaidLessThan_0, rX7_loansPaidLessThan_1, rX7_loansPaidLessThan_2, rX7_loansPaidLessThan_3, rX7_loansPaidLessThan_5, rX7_loansPaidLessThan_7, rX7_loansPaidLessThan_10, rX7_loansPaidLessThan_11, rX7_loansPaidLessThan_12, rX7_loansPaidLessThan_15, rX7_loansPaidLessThan_18, rX7_loansPaidLessThan_19, rX7_loansPaidLessThan_20, rX7_loansPaidLessThan_21, rX7_loansPaidLessThan_24, rX7_loansPaidLessThan_27, rX7_loansPaidLessThan_28, rX7_loansPaidLessThan_29, rX7_loansPaidLessThan_32, rX7_loansPaidLessThan_33, rX7_loansPaidLessThan_36, rX7_loansPaidLessThan_37, rX7_loansPaidLessThan_38, rX7_loansPaidLessThan_39, rX7_loansPaidLessThan_42, rX7_loansPaidLessThan_45, rX7_loansPaidLessThan_46, true_and, and_true, true_or, or_true, false_or, or_false, Option.toList_some, Option.toList_none, List.nil_append, List.cons_append, zn1]
    rw [if_pos (by omega)]
    exact hq
def sfirst (f g : Int → Int) (ex : Int) : Int := zfor (fun k h => if ((k : Int) ≠ ex ∧ f k < g k) ∧ (h = -4 ∨ f k < f h) then (k : Int) else h) 0 6 (-4)
theorem kX7_firstDeadEarlierThan {t u : Nat} {ex : Int} {G : zG} {H : zH} {Q : Option zV → zG → zH → Prop} (hG : zOK G) (ht : isTr t) (hu : isTr u) : zCall qX7_firstDeadEarlierThan [vr t, vr u, vi ex] G H Q ↔ Q (some (vi (sfirst (H (t + 1)) (H (u + 1)) ex))) G H := by
  have ho := tr_bk ht
  have ho' := tr_bk hu
  refine zCall_det (fun Q' hq => ?_)
  rw [rX7_firstDeadEarlierThan_in]
  simp only [rX7_firstDeadEarlierThan_0, rX7_firstDeadEarlierThan_2, rX7_firstDeadEarlierThan_3, rX7_firstDeadEarlierThan_4, rX7_firstDeadEarlierThan_8, rX7_firstDeadEarlierThan_10, rX7_firstDeadEarlierThan_13, rX7_firstDeadEarlierThan_15, rX7_firstDeadEarlierThan_16, rX7_firstDeadEarlierThan_19, rX7_firstDeadEarlierThan_20, rX7_firstDeadEarlierThan_23, rX7_firstDeadEarlierThan_25, rX7_firstDeadEarlierThan_26, rX7_firstDeadEarlierThan_27, rX7_firstDeadEarlierThan_30, rX7_firstDeadEarlierThan_32, rX7_firstDeadEarlierThan_33, rX7_firstDeadEarlierThan_36, rX7_firstDeadEarlierThan_37, rX7_firstDeadEarlierThan_40, rX7_firstDeadEarlierThan_41, rX7_firstDeadEarlierThan_43, rX7_firstDeadEarlierThan_45, rX7_firstDeadEarlierThan_48, rX7_firstDeadEarlierThan_49, rX7_firstDeadEarlierThan_51, rX7_firstDeadEarlierThan_54, rX7_firstDeadEarlierThan_55, rX7_firstDeadEarlierThan_58, rX7_firstDeadEarlierThan_60, rX7_firstDeadEarlierThan_61, rX7_firstDeadEarlierThan_62, rX7_firstDeadEarlierThan_65, rX7_firstDeadEarlierThan_66, rX7_firstDeadEarlierThan_67, rX7_firstDeadEarlierThan_70, rX7_firstDeadEarlierThan_72, rX7_firstDeadEarlierThan_73, rX7_firstDeadEarlierThan_76, rX7_firstDeadEarlierThan_79, rX7_firstDeadEarlierThan_80, true_and, and_true, true_or, or_true, false_or, or_false, Option.toList_some, Option.toList_none, List.nil_append, List.cons_append, zn1]
  have key : ∀ v5 : zV, zRun qX7_firstDeadEarlierThan 6 [vr t, vr u, vi ex, vi (-4), vi 0, v5] [] G H Q' := by
    intro v5
    refine zfor_goI (R := fun k g => ∀ v5 : zV, zRun qX7_firstDeadEarlierThan 6 [vr t, vr u, vi ex, vi g, vi (k : Int), v5] [] G H Q') (fun k g => g = -4 ∨ (0 ≤ g ∧ g < 6)) (F := fun k h => if ((k : Int) ≠ ex ∧ H (t + 1) k < H (u + 1) k) ∧ (h = -4 ∨ H (t + 1) k < H (t + 1) h) then (k : Int) else h) (n := 6) (fun k g hk hi => ?_) (fun k g hk hi hq v5 => ?_) (-4) (Or.inl rfl) ?_ v5
    · split <;> omega
    · rw [rX7_firstDeadEarlierThan_6]
      simp only [rX7_firstDeadEarlierThan_0, rX7_firstDeadEarlierThan_2, rX7_firstDeadEarlierThan_3, rX7_firstDeadEarlierThan_4, rX7_firstDeadEarlierThan_8, rX7_firstDeadEarlierThan_10, rX7_firstDeadEarlierThan_13, rX7_firstDeadEarlierThan_15, rX7_firstDeadEarlierThan_16, rX7_firstDeadEarlierThan_19, rX7_firstDeadEarlierThan_20, rX7_firstDeadEarlierThan_23, rX7_firstDeadEarlierThan_25, rX7_firstDeadEarlierThan_26, rX7_firstDeadEarlierThan_27, rX7_firstDeadEarlierThan_30, rX7_firstDeadEarlierThan_32, rX7_firstDeadEarlierThan_33, rX7_firstDeadEarlierThan_36, rX7_firstDeadEarlierThan_37, rX7_firstDeadEarlierThan_40, rX7_firstDeadEarlierThan_41, rX7_firstDeadEarlierThan_43, rX7_firstDeadEarlierThan_45, rX7_firstDeadEarlierThan_48, rX7_firstDeadEarlierThan_49, rX7_firstDeadEarlierThan_51, rX7_firstDeadEarlierThan_54, rX7_firstDeadEarlierThan_55, rX7_firstDeadEarlierThan_58, rX7_firstDeadEarlierThan_60, rX7_firstDeadEarlierThan_61, rX7_firstDeadEarlierThan_62, rX7_firstDeadEarlierThan_65, rX7_firstDeadEarlierThan_66, rX7_firstDeadEarlierThan_67, rX7_firstDeadEarlierThan_70, rX7_firstDeadEarlierThan_72, rX7_firstDeadEarlierThan_73, rX7_firstDeadEarlierThan_76, rX7_firstDeadEarlierThan_79, rX7_firstDeadEarlierThan_80, true_and, and_true, true_or, or_true, false_or, or_false, Option.toList_some, Option.toList_none, List.nil_append, List.cons_append, zn1, kTr hG ht, kTr hG hu, zwk (show k < 2000000000 by omega)]
      rw [if_neg (by omega)]
      by_cases c0 : (k : Int) = ex
      · rw [if_pos c0, if_true]
        rw [if_neg (fun z => z.1.1 c0)] at hq
        exact hq _
      · rw [if_neg c0]
        refine ⟨by omega, by omega, ?_⟩
        by_cases c1 : H (u + 1) k ≤ H (t + 1) k
        · rw [if_pos c1, if_true]
          rw [if_neg (fun z => by omega)] at hq
          exact hq _
        · rw [if_neg c1, if_neg (by omega)]
          by_cases c2 : g = -4
          · rw [if_pos c2]
            rw [if_pos ⟨⟨c0, by omega⟩, Or.inl c2⟩] at hq
            exact hq _
          · rw [if_neg c2]
            refine ⟨by omega, by omega, ?_⟩
            by_cases c3 : H (t + 1) g ≤ H (t + 1) k
            · rw [if_pos c3]
              rw [if_neg (fun z => by omega)] at hq
              exact hq _
            · rw [if_neg c3]
              rw [if_pos ⟨⟨c0, by omega⟩, Or.inr (by omega)⟩] at hq
              exact hq _
    · intro v5
      rw [rX7_firstDeadEarlierThan_6]
      simp only [rX7_firstDeadEarlierThan_0, rX7_firstDeadEarlierThan_2, rX7_firstDeadEarlierThan_3, rX7_firstDeadEarlierThan_4, rX7_firstDeadEarlierThan_8, rX7_firstDeadEarlierThan_10, rX7_firstDeadEarlierThan_13, rX7_firstDeadEarlierThan_15, rX7_firstDeadEarlierThan_16, rX7_firstDeadEarlierThan_19, rX7_firstDeadEarlierThan_20, rX7_firstDeadEarlierThan_23, rX7_firstDeadEarlierThan_25, rX7_firstDeadEarlierThan_26, rX7_firstDeadEarlierThan_27, rX7_firstDeadEarlierThan_30, rX7_firstDeadEarlierThan_32, rX7_firstDeadEarlierThan_33, rX7_firstDeadEarlierThan_36, rX7_firstDeadEarlierThan_37, rX7_firstDeadEarlierThan_40, rX7_firstDeadEarlierThan_41, rX7_firstDeadEarlierThan_43, rX7_firstDeadEarlierThan_45, rX7_firstDeadEarlierThan_48, rX7_firstDeadEarlierThan_49, rX7_firstDeadEarlierThan_51, rX7_firstDeadEarlierThan_54, rX7_firstDeadEarlierThan_55, rX7_firstDeadEarlierThan_58, rX7_firstDeadEarlierThan_60, rX7_firstDeadEarlierThan_61, rX7_firstDeadEarlierThan_62, rX7_firstDeadEarlierThan_65, rX7_firstDeadEarlierThan_66, rX7_firstDeadEarlierThan_67, rX7_firstDeadEarlierThan_70, rX7_firstDeadEarlierThan_72, rX7_firstDeadEarlierThan_73, rX7_firstDeadEarlierThan_76, rX7_firstDeadEarlierThan_79, rX7_firstDeadEarlierThan_80, true_and, and_true, true_or, or_true, false_or, or_false, Option.toList_some, Option.toList_none, List.nil_append, List.cons_append, zn1]
      rw [if_pos (by omega)]
      exact hq
  exact key _
