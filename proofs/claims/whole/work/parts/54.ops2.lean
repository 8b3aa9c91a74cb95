/-! a person, a loan, the notary -/
def mBo (a : Int → Int) : Int → Int := fun k => a (13 + 4 * k + 1)
def mAm (a : Int → Int) : Int → Int := fun k => a (13 + 4 * k + 2)
def mDu (a : Int → Int) : Int → Int := fun k => a (13 + 4 * k + 3)
theorem kX9_owesAll {n : Nat} {i : Int} {G : zG} {H : zH} {Q : Option zV → zG → zH → Prop} (hG : zOK G) (hn : H 134 12 = (n : Int)) (h8 : n ≤ 8) : zCall qX9_owesAll [vr 130, vi i] G H Q ↔ Q (some (vi (sowed n (mBo (H 134)) (mAm (H 134)) i))) G H := by
  refine zCall_det (fun Q' hq => ?_)
  rw [rX9_owesAll_in]
  simp only [rX9_owesAll_0, rX9_owesAll_1, rX9_owesAll_2, rX9_owesAll_3, rX9_owesAll_5, rX9_owesAll_6, rX9_owesAll_9, rX9_owesAll_11, rX9_owesAll_12, rX9_owesAll_15, rX9_owesAll_16, rX9_owesAll_17, rX9_owesAll_20, rX9_owesAll_22, rX9_owesAll_23, rX9_owesAll_24, rX9_owesAll_25, rX9_owesAll_26, rX9_owesAll_27, rX9_owesAll_28, rX9_owesAll_29, rX9_owesAll_30, rX9_owesAll_33, rX9_owesAll_34, rX9_owesAll_37, rX9_owesAll_39, rX9_owesAll_40, rX9_owesAll_41, rX9_owesAll_42, rX9_owesAll_43, rX9_owesAll_44, rX9_owesAll_45, rX9_owesAll_46, rX9_owesAll_49, rX9_owesAll_50, rX9_owesAll_51, rX9_owesAll_52, rX9_owesAll_55, rX9_owesAll_58, rX9_owesAll_59, true_and, and_true, true_or, or_true, false_or, or_false, Option.toList_some, Option.toList_none, List.nil_append, List.cons_append, zn1]
  have b46 : (0 : Int) ≤ 12 ∧ (12 : Int) < 46 := by omega
  refine zfor_go (R := fun k acc => zRun qX9_owesAll 4 [vr 130, vi i, vi acc, vi (k : Int)] [] G H Q') (F := fun k acc => zw (acc + if mBo (H 134) k = i then mAm (H 134) k else 0)) (n := n) (fun k acc hk hq => ?_) 0 ?_
  · have b1 : 0 ≤ 13 + 4 * (k : Int) + 1 ∧ 13 + 4 * (k : Int) + 1 < 46 := by omega
    have b2 : 0 ≤ 13 + 4 * (k : Int) + 2 ∧ 13 + 4 * (k : Int) + 2 < 46 := by omega
    rw [rX9_owesAll_4]
    simp only [rX9_owesAll_0, rX9_owesAll_1, rX9_owesAll_2, rX9_owesAll_3, rX9_owesAll_5, rX9_owesAll_6, rX9_owesAll_9, rX9_owesAll_11, rX9_owesAll_12, rX9_owesAll_15, rX9_owesAll_16, rX9_owesAll_17, rX9_owesAll_20, rX9_owesAll_22, rX9_owesAll_23, rX9_owesAll_24, rX9_owesAll_25, rX9_owesAll_26, rX9_owesAll_27, rX9_owesAll_28, rX9_owesAll_29, rX9_owesAll_30, rX9_owesAll_33, rX9_owesAll_34, rX9_owesAll_37, rX9_owesAll_39, rX9_owesAll_40, rX9_owesAll_41, rX9_owesAll_42, rX9_owesAll_43, rX9_owesAll_44, rX9_owesAll_45, rX9_owesAll_46, rX9_owesAll_49, rX9_owesAll_50, rX9_owesAll_51, rX9_owesAll_52, rX9_owesAll_55, rX9_owesAll_58, rX9_owesAll_59, true_and, and_true, true_or, or_true, false_or, or_false, Option.toList_some, Option.toList_none, List.nil_append, List.cons_append, zn1, kM hG, hn, ix4 (show k ≤ 8 by omega), b46, b1, b2, zwk (show k < 2000000000 by omega)]
    rw [if_neg (by omega)]
    unfold mBo mAm at hq
    split
    · rename_i h
      rw [if_neg h] at hq
      exact hq
    · rename_i h
      rw [if_pos (by simpa using h)] at hq
      exact hq
  · rw [rX9_owesAll_4]
    simp only [rX9_owesAll_0, rX9_owesAll_1, rX9_owesAll_2, rX9_owesAll_3, rX9_owesAll_5, rX9_owesAll_6, rX9_owesAll_9, rX9_owesAll_11, rX9_owesAll_12, rX9_owesAll_15, rX9_owesAll_16, rX9_owesAll_17, rX9_owesAll_20, rX9_owesAll_22, rX9_owesAll_23, rX9_owesAll_24, rX9_owesAll_25, rX9_owesAll_26, rX9_owesAll_27, rX9_owesAll_28, rX9_owesAll_29, rX9_owesAll_30, rX9_owesAll_33, rX9_owesAll_34, rX9_owesAll_37, rX9_owesAll_39, rX9_owesAll_40, rX9_owesAll_41, rX9_owesAll_42, rX9_owesAll_43, rX9_owesAll_44, rX9_owesAll_45, rX9_owesAll_46, rX9_owesAll_49, rX9_owesAll_50, rX9_owesAll_51, rX9_owesAll_52, rX9_owesAll_55, rX9_owesAll_58, rX9_owesAll_59, true_and, and_true, true_or, or_true, false_or, or_false, Option.toList_some, Option.toList_none, List.nil_append, List.cons_append, zn1, kM hG, hn, b46]
    rw [if_pos (by omega)]
    exact hq
theorem sowed_congr {n : Nat} {bo am bo' am' : Int → Int} {i : Int} (h1 : ∀ k : Nat, k < n → bo k = bo' k) (h2 : ∀ k : Nat, k < n → am k = am' k) : sowed n bo am i = sowed n bo' am' i := by
  unfold sowed
  refine zfor_congr (n := n) (fun k s hk => ?_) n 0 0 (by omega)
  rw [h1 k hk, h2 k hk]
theorem EB_k {P : Int} {H : zH} {o : Nat} {a : Int → Int} {cs : List zCo} (h : EB P H o a cs) : ∀ k : Nat, k < cs.length → H (o + 3) k = a (13 + 4 * (k : Int)) ∧ H (o + 4) k = mBo a k ∧ H (o + 5) k = mAm a k ∧ H (o + 6) k = mDu a k ∧ cok P (a (13 + 4 * (k : Int)), mBo a k, mAm a k, mDu a k) := by
  intro k hk
  have hx : cs[k]? = some cs[k] := List.getElem?_eq_getElem hk
  obtain ⟨⟨h8, hc⟩, h1, h2, -⟩ := h
  obtain ⟨a1, a2, a3, a4⟩ := h1.2 k _ hx
  obtain ⟨b1, b2, b3, b4⟩ := h2.2 k _ hx
  unfold mBo mAm mDu
  rw [a1, a2, a3, a4, b1, b2, b3, b4]
  exact ⟨rfl, rfl, rfl, rfl, hc _ (List.getElem_mem hk)⟩
theorem sim_person {i w : Int} : simOp qX8_person qX9_person [vi i, vi w] := by
  intro G H h
  have hS' := SR_th h
  obtain ⟨hG, ⟨⟨⟨P0, P1⟩, -⟩, ⟨m4, -⟩, -⟩, hx, ⟨⟨cs, hB⟩, -⟩, -⟩ := h
  have hk := EB_k hB
  obtain ⟨⟨h8, hc⟩, hb1, hb2, hb3, hb4, hb5⟩ := hB
  have t4 : th0 H 130 4 = H 3 1 := by
    unfold th0
    rw [zset_eq, zfu_at, if_neg (by omega), m4]
  have t134 : th0 H 134 = H 134 := by
    unfold th0
    rw [zset_ne (by omega)]
  have et : zset H 130 (zfu (H 130) 0 0) = th0 H := rfl
  rw [rX8_person_in]
  simp only [rX8_person_0, rX8_person_1, rX8_person_2, rX8_person_5, rX8_person_8, rX8_person_9, rX8_person_10, rX8_person_11, rX8_person_36, rX8_person_37, rX8_person_40, rX8_person_43, rX8_person_44, rX8_person_45, rX8_person_46, rX8_person_47, rX8_person_50, rX8_person_53, rX8_person_54, rX8_person_55, rX8_person_56, rX8_person_57, rX8_person_60, rX8_person_61, rX8_person_64, rX8_person_65, rX8_person_66, true_and, and_true, true_or, or_true, false_or, or_false, Option.toList_some, Option.toList_none, List.nil_append, List.cons_append, zn1, sO_0 hG, kX8_isPerson hG P0 P1, bi_ne0, kB hG bk7, kX0_owedToAll hG bk7 hb1.1 h8]
  have key : ∀ v : Int, v = (if (0 ≤ i ∧ i < H 3 1) ∧ (0 ≤ w ∧ w ≤ 2) then (if w = 0 then H 134 i else if w = 1 then H 134 (6 + i) else sowed cs.length (mBo (H 134)) (mAm (H 134)) i) else -1) → (∃ v' : Int, some (vi v) = some (vi v') ∧ zCall qX9_person [vr 130, vi i, vi w] G H (fun r' G2 H2 => r' = some (vi v') ∧ SR G2 H2)) := by
    intro v hv
    refine ⟨v, rfl, ?_⟩
    rw [rX9_person_in]
    simp only [rX9_person_0, rX9_person_1, rX9_person_2, rX9_person_5, rX9_person_6, rX9_person_7, rX9_person_10, rX9_person_13, rX9_person_14, rX9_person_15, rX9_person_16, rX9_person_19, rX9_person_22, rX9_person_23, rX9_person_24, rX9_person_25, rX9_person_28, rX9_person_29, rX9_person_32, rX9_person_33, rX9_person_34, rX9_person_37, rX9_person_38, rX9_person_39, rX9_person_42, rX9_person_43, rX9_person_46, rX9_person_48, rX9_person_49, rX9_person_50, rX9_person_51, rX9_person_54, rX9_person_55, rX9_person_56, rX9_person_59, true_and, and_true, true_or, or_true, false_or, or_false, Option.toList_some, Option.toList_none, List.nil_append, List.cons_append, zn1, kM hG, zup_def, et, kX9_isPerson hG (show 1 ≤ th0 H 130 4 by omega) (show th0 H 130 4 ≤ 6 by omega), kX9_in, bi_eq0, bi_ne0, t4, t134, kX9_owesAll hG (show th0 H 134 12 = (cs.length : Int) by rw [t134]; exact hb2.1) h8]
    by_cases c1 : 0 ≤ i ∧ i < H 3 1
    · rw [if_neg (fun z => z c1)]
      by_cases c2 : 0 ≤ w ∧ w ≤ 2
      · rw [if_pos c2]
        rw [if_pos ⟨c1, c2⟩] at hv
        have e6 := zw_id (z := 6 + i) (by omega) (by omega)
        by_cases c3 : w = 0
        · rw [if_neg (fun z => z c3)]
          rw [if_pos c3] at hv
          exact ⟨by omega, by rw [hv], hS'⟩
        · rw [if_pos c3]
          rw [if_neg c3] at hv
          by_cases c4 : w = 1
          · rw [if_neg (fun z => z c4), e6]
            rw [if_pos c4] at hv
            exact ⟨by omega, by rw [hv], hS'⟩
          · rw [if_pos c4]
            rw [if_neg c4] at hv
            exact ⟨by rw [hv], hS'⟩
      · rw [if_neg c2]
        rw [if_neg (fun z => c2 z.2)] at hv
        exact ⟨by rw [hv], hS'⟩
    · rw [if_pos c1]
      rw [if_neg (fun z => c1 z.1)] at hv
      exact ⟨by rw [hv], hS'⟩
  by_cases c1 : 0 ≤ i ∧ i < H 3 1
  · rw [if_pos c1]
    obtain ⟨w1, w2⟩ := hb3 i c1.1 (by omega)
    by_cases c3 : w = 0
    · rw [if_pos c3]
      refine ⟨by omega, key _ ?_⟩
      rw [if_pos ⟨c1, by omega⟩, if_pos c3]
      exact w1
    · rw [if_neg c3]
      by_cases c4 : w = 1
      · rw [if_pos c4]
        refine ⟨by omega, key _ ?_⟩
        rw [if_pos ⟨c1, by omega⟩, if_neg c3, if_pos c4]
        exact w2
      · rw [if_neg c4]
        by_cases c5 : w = 2
        · rw [if_pos c5]
          refine key _ ?_
          rw [if_pos ⟨c1, by omega⟩, if_neg c3, if_neg c4]
          exact sowed_congr (fun k hk' => (hk k hk').2.1) (fun k hk' => (hk k hk').2.2.1)
        · rw [if_neg c5]
          exact key _ (by rw [if_neg (fun z => by omega)])
  · rw [if_neg c1]
    exact key _ (by rw [if_neg (fun z => c1 z.1)])
theorem sim_loan {k w : Int} : simOp qX8_loan qX9_loan [vi k, vi w] := by
  intro G H h
  have hS' := SR_th h
  obtain ⟨hG, ⟨⟨⟨P0, P1⟩, -⟩, ⟨m4, -⟩, -⟩, hx, ⟨⟨cs, hB⟩, -⟩, -⟩ := h
  have hk := EB_k hB
  obtain ⟨⟨h8, hc⟩, hb1, hb2, hb3, hb4, hb5⟩ := hB
  have t134 : th0 H 134 = H 134 := by
    unfold th0
    rw [zset_ne (by omega)]
  have et : zset H 130 (zfu (H 130) 0 0) = th0 H := rfl
  have e1 := zw_id (z := (cs.length : Int) - 1) (by omega) (by omega)
  have b46 : (0 : Int) ≤ 12 ∧ (12 : Int) < 46 := by omega
  rw [rX8_loan_in]
  simp only [rX8_loan_0, rX8_loan_1, rX8_loan_2, rX8_loan_3, rX8_loan_6, rX8_loan_9, rX8_loan_10, rX8_loan_11, rX8_loan_14, rX8_loan_17, rX8_loan_18, rX8_loan_19, rX8_loan_20, rX8_loan_52, rX8_loan_53, rX8_loan_56, rX8_loan_59, rX8_loan_60, rX8_loan_61, rX8_loan_62, rX8_loan_63, rX8_loan_66, rX8_loan_69, rX8_loan_70, rX8_loan_71, rX8_loan_72, rX8_loan_73, rX8_loan_76, rX8_loan_79, rX8_loan_80, rX8_loan_81, rX8_loan_82, rX8_loan_83, rX8_loan_86, rX8_loan_89, rX8_loan_90, rX8_loan_91, rX8_loan_92, rX8_loan_93, true_and, and_true, true_or, or_true, false_or, or_false, Option.toList_some, Option.toList_none, List.nil_append, List.cons_append, zn1, sO_0 hG, kX8_within, bi_ne0, kB hG bk7, hb1.1, e1]
  have key : ∀ v : Int, v = (if (0 ≤ k ∧ k ≤ (cs.length : Int) - 1) ∧ (0 ≤ w ∧ w ≤ 3) then H 134 (13 + 4 * k + w) else -1) → (∃ v' : Int, some (vi v) = some (vi v') ∧ zCall qX9_loan [vr 130, vi k, vi w] G H (fun r' G2 H2 => r' = some (vi v') ∧ SR G2 H2)) := by
    intro v hv
    refine ⟨v, rfl, ?_⟩
    rw [rX9_loan_in]
    simp only [rX9_loan_0, rX9_loan_1, rX9_loan_2, rX9_loan_5, rX9_loan_6, rX9_loan_7, rX9_loan_8, rX9_loan_11, rX9_loan_13, rX9_loan_14, rX9_loan_15, rX9_loan_16, rX9_loan_19, rX9_loan_22, rX9_loan_23, rX9_loan_24, rX9_loan_25, rX9_loan_28, rX9_loan_31, rX9_loan_32, rX9_loan_35, rX9_loan_37, rX9_loan_38, rX9_loan_39, rX9_loan_40, rX9_loan_41, rX9_loan_42, rX9_loan_43, rX9_loan_44, rX9_loan_47, rX9_loan_48, true_and, and_true, true_or, or_true, false_or, or_false, Option.toList_some, Option.toList_none, List.nil_append, List.cons_append, zn1, kM hG, zup_def, et, kX9_in, bi_eq0, t134, hb2.1, e1, b46]
    by_cases c1 : 0 ≤ k ∧ k ≤ (cs.length : Int) - 1
    · rw [if_neg (fun z => z c1)]
      by_cases c2 : 0 ≤ w ∧ w ≤ 3
      · rw [if_neg (fun z => z c2)]
        rw [if_pos ⟨c1, c2⟩] at hv
        rw [zw_id (z := 4 * k) (by omega) (by omega), zw_id (z := 13 + 4 * k) (by omega) (by omega), zw_id (z := 13 + 4 * k + w) (by omega) (by omega)]
        exact ⟨by omega, by rw [hv], hS'⟩
      · rw [if_pos c2]
        rw [if_neg (fun z => c2 z.2)] at hv
        exact ⟨by rw [hv], hS'⟩
    · rw [if_pos c1]
      rw [if_neg (fun z => c1 z.1)] at hv
      exact ⟨by rw [hv], hS'⟩
  by_cases c1 : 0 ≤ k ∧ k ≤ (cs.length : Int) - 1
  · rw [if_pos c1]
    obtain ⟨kn, rfl⟩ := nat_of c1.1
    obtain ⟨a1, a2, a3, a4, -⟩ := hk kn (by omega)
    unfold mBo at a2
    unfold mAm at a3
    unfold mDu at a4
    rcases (show w = 0 ∨ w = 1 ∨ w = 2 ∨ w = 3 ∨ (¬ w = 0 ∧ ¬ w = 1 ∧ ¬ w = 2 ∧ ¬ w = 3) by omega) with rfl | rfl | rfl | rfl | ⟨n0, n1, n2, n3⟩
    · simp only [reduceIte, Int.reduceEq]
      refine ⟨by omega, key _ ?_⟩
      rw [if_pos ⟨c1, by omega⟩, Int.add_zero]
      exact a1
    · simp only [reduceIte, Int.reduceEq]
      refine ⟨by omega, key _ ?_⟩
      rw [if_pos ⟨c1, by omega⟩]
      exact a2
    · simp only [reduceIte, Int.reduceEq]
      refine ⟨by omega, key _ ?_⟩
      rw [if_pos ⟨c1, by omega⟩]
      exact a3
    · simp only [reduceIte, Int.reduceEq]
      refine ⟨by omega, key _ ?_⟩
      rw [if_pos ⟨c1, by omega⟩]
      exact a4
    · rw [if_neg n0, if_neg n1, if_neg n2, if_neg n3]
      exact key _ (by rw [if_neg (fun z => by omega)])
  · rw [if_neg c1]
    exact key _ (by rw [if_neg (fun z => c1 z.1)])
