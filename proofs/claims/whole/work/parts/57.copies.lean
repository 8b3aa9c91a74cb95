/-! the model: rows copied -/
def cpyo (f g : Int → Int) (s k : Int) : Int → Int := fun j => if s ≤ j ∧ j < s + k then g (j - s) else f j
theorem cpyo_0 {f g : Int → Int} {s : Int} : cpyo f g s 0 = f := by
  funext j
  unfold cpyo
  rw [if_neg (by omega)]
theorem cpyo_s {f g : Int → Int} {s : Int} {k : Nat} : zfu (cpyo f g s k) (s + k) (g k) = cpyo f g s ((k + 1 : Nat) : Int) := by
  refine zfu_eq ?_ (fun j hj => ?_)
  · unfold cpyo
    rw [if_pos (by omega), show s + (k : Int) - s = (k : Int) by omega]
  · unfold cpyo
    by_cases c : s ≤ j ∧ j < s + (k : Int)
    · rw [if_pos c, if_pos (by omega)]
    · rw [if_neg c, if_neg (by omega)]
theorem cpyo_in {f g : Int → Int} {s k j : Int} (h0 : 0 ≤ j) (h1 : j < k) : cpyo f g s k (s + j) = g j := by
  unfold cpyo
  rw [if_pos (by omega), show s + j - s = j by omega]
theorem cpyo_in0 {f g : Int → Int} {k j : Int} (h0 : 0 ≤ j) (h1 : j < k) : cpyo f g 0 k j = g j := by
  have := cpyo_in (f := f) (g := g) (s := 0) h0 h1
  rw [Int.zero_add] at this
  exact this
theorem cpyo_lo {f g : Int → Int} {s k j : Int} (h : j < s) : cpyo f g s k j = f j := by
  unfold cpyo
  rw [if_neg (by omega)]
theorem kX9_aside1 {G : zG} {H : zH} {Q : Option zV → zG → zH → Prop} (hG : zOK G) : zCall qX9_aside [vr 130, vi 1] G H Q ↔ Q none G (zset H 135 (cpyo (H 135) (H 134) 0 46)) := by
  refine zCall_det (fun Q' hq => ?_)
  rw [rX9_aside_in]
  simp only [rX9_aside_0, rX9_aside_1, rX9_aside_3, rX9_aside_5, rX9_aside_8, rX9_aside_9, rX9_aside_12, rX9_aside_13, rX9_aside_16, rX9_aside_17, rX9_aside_18, rX9_aside_21, rX9_aside_22, rX9_aside_23, rX9_aside_24, rX9_aside_27, rX9_aside_28, rX9_aside_31, rX9_aside_32, rX9_aside_33, rX9_aside_36, rX9_aside_37, rX9_aside_38, rX9_aside_39, rX9_aside_42, rX9_aside_45, true_and, and_true, true_or, or_true, false_or, or_false, Option.toList_some, Option.toList_none, List.nil_append, List.cons_append, zn1]
  have loop : ∀ (m k : Nat), k + m = 46 → zRun qX9_aside 2 [vr 130, vi 1, vi (k : Int)] [] G (zset H 135 (cpyo (H 135) (H 134) 0 k)) Q' := by
    intro m
    induction m with
    | zero =>
      intro k hk
      have : k = 46 := by omega
      subst this
      rw [rX9_aside_2]
      simp only [rX9_aside_0, rX9_aside_1, rX9_aside_3, rX9_aside_5, rX9_aside_8, rX9_aside_9, rX9_aside_12, rX9_aside_13, rX9_aside_16, rX9_aside_17, rX9_aside_18, rX9_aside_21, rX9_aside_22, rX9_aside_23, rX9_aside_24, rX9_aside_27, rX9_aside_28, rX9_aside_31, rX9_aside_32, rX9_aside_33, rX9_aside_36, rX9_aside_37, rX9_aside_38, rX9_aside_39, rX9_aside_42, rX9_aside_45, true_and, and_true, true_or, or_true, false_or, or_false, Option.toList_some, Option.toList_none, List.nil_append, List.cons_append, zn1]
      rw [if_pos (by omega)]
      exact hq
    | succ m ih =>
      intro k hk
      have := ih (k + 1) (by omega)
      rw [← cpyo_s, Int.zero_add] at this
      rw [rX9_aside_2]
      simp only [rX9_aside_0, rX9_aside_1, rX9_aside_3, rX9_aside_5, rX9_aside_8, rX9_aside_9, rX9_aside_12, rX9_aside_13, rX9_aside_16, rX9_aside_17, rX9_aside_18, rX9_aside_21, rX9_aside_22, rX9_aside_23, rX9_aside_24, rX9_aside_27, rX9_aside_28, rX9_aside_31, rX9_aside_32, rX9_aside_33, rX9_aside_36, rX9_aside_37, rX9_aside_38, rX9_aside_39, rX9_aside_42, rX9_aside_45, true_and, and_true, true_or, or_true, false_or, or_false, Option.toList_some, Option.toList_none, List.nil_append, List.cons_append, zn1, kM hG, zup_def, zset_set, zset_at, Nat.reduceEqDiff, reduceIte, Int.reduceEq, zwk (show k < 2000000000 by omega)]
      rw [if_neg (by omega)]
      exact ⟨by omega, by omega, this⟩
  have := loop 46 0 (by omega)
  rw [show ((0 : Nat) : Int) = 0 from rfl, cpyo_0, zset_self] at this
  exact this
theorem kX9_aside0 {G : zG} {H : zH} {Q : Option zV → zG → zH → Prop} (hG : zOK G) : zCall qX9_aside [vr 130, vi 0] G H Q ↔ Q none G (zset H 134 (cpyo (H 134) (H 135) 0 46)) := by
  refine zCall_det (fun Q' hq => ?_)
  rw [rX9_aside_in]
  simp only [rX9_aside_0, rX9_aside_1, rX9_aside_3, rX9_aside_5, rX9_aside_8, rX9_aside_9, rX9_aside_12, rX9_aside_13, rX9_aside_16, rX9_aside_17, rX9_aside_18, rX9_aside_21, rX9_aside_22, rX9_aside_23, rX9_aside_24, rX9_aside_27, rX9_aside_28, rX9_aside_31, rX9_aside_32, rX9_aside_33, rX9_aside_36, rX9_aside_37, rX9_aside_38, rX9_aside_39, rX9_aside_42, rX9_aside_45, true_and, and_true, true_or, or_true, false_or, or_false, Option.toList_some, Option.toList_none, List.nil_append, List.cons_append, zn1]
  have loop : ∀ (m k : Nat), k + m = 46 → zRun qX9_aside 2 [vr 130, vi 0, vi (k : Int)] [] G (zset H 134 (cpyo (H 134) (H 135) 0 k)) Q' := by
    intro m
    induction m with
    | zero =>
      intro k hk
      have : k = 46 := by omega
      subst this
      rw [rX9_aside_2]
      simp only [rX9_aside_0, rX9_aside_1, rX9_aside_3, rX9_aside_5, rX9_aside_8, rX9_aside_9, rX9_aside_12, rX9_aside_13, rX9_aside_16, rX9_aside_17, rX9_aside_18, rX9_aside_21, rX9_aside_22, rX9_aside_23, rX9_aside_24, rX9_aside_27, rX9_aside_28, rX9_aside_31, rX9_aside_32, rX9_aside_33, rX9_aside_36, rX9_aside_37, rX9_aside_38, rX9_aside_39, rX9_aside_42, rX9_aside_45, true_and, and_true, true_or, or_true, false_or, or_false, Option.toList_some, Option.toList_none, List.nil_append, List.cons_append, zn1]
      rw [if_pos (by omega)]
      exact hq
    | succ m ih =>
      intro k hk
      have := ih (k + 1) (by omega)
      rw [← cpyo_s, Int.zero_add] at this
      rw [rX9_aside_2]
      simp only [rX9_aside_0, rX9_aside_1, rX9_aside_3, rX9_aside_5, rX9_aside_8, rX9_aside_9, rX9_aside_12, rX9_aside_13, rX9_aside_16, rX9_aside_17, rX9_aside_18, rX9_aside_21, rX9_aside_22, rX9_aside_23, rX9_aside_24, rX9_aside_27, rX9_aside_28, rX9_aside_31, rX9_aside_32, rX9_aside_33, rX9_aside_36, rX9_aside_37, rX9_aside_38, rX9_aside_39, rX9_aside_42, rX9_aside_45, true_and, and_true, true_or, or_true, false_or, or_false, Option.toList_some, Option.toList_none, List.nil_append, List.cons_append, zn1, kM hG, zup_def, zset_set, zset_at, Nat.reduceEqDiff, reduceIte, Int.reduceEq, zwk (show k < 2000000000 by omega)]
      rw [if_neg (by omega)]
      exact ⟨by omega, by omega, this⟩
  have := loop 46 0 (by omega)
  rw [show ((0 : Nat) : Int) = 0 from rfl, cpyo_0, zset_self] at this
  exact this
theorem kX9_notes {n : Nat} {G : zG} {H : zH} {Q' : Option zV → zG → zH → Prop} (hG : zOK G) (hn : H 130 12 = (n : Int)) (h6 : n ≤ 6)
    (hq : ∀ (H' : zH) (m sh : Nat), m + sh = n → (sh = if n = 6 then 1 else 0) → (∀ b, b ≠ 130 → b ≠ 136 → H' b = H b) → (∀ i : Int, i ≠ 12 → H' 130 i = H 130 i) → H' 130 12 = ((m + 1 : Nat) : Int) → (∀ i : Int, 0 ≤ i → i < 46 * (m : Int) → H' 136 i = H 136 (i + 46 * (sh : Int))) → (∀ i : Int, 0 ≤ i → i < 46 → H' 136 (46 * (m : Int) + i) = H 134 i) → Q' none G H') : zCall qX9_notes [vr 130] G H Q' := by
  have fin : ∀ (H1 : zH) (m sh : Nat), m ≤ 5 → m + sh = n → (sh = if n = 6 then 1 else 0) → (∀ b, b ≠ 130 → b ≠ 136 → H1 b = H b) → (∀ i : Int, i ≠ 12 → H1 130 i = H 130 i) → H1 130 12 = (m : Int) → (∀ i : Int, 0 ≤ i → i < 46 * (m : Int) → H1 136 i = H 136 (i + 46 * (sh : Int))) → zRun qX9_notes 46 [vr 130, vi 0] [] G H1 Q' := by
    intro H1 m sh hm5 hm hsh f1 g1 e1 u1
    have e46 : zw (46 * (m : Int)) = 46 * (m : Int) := zw_id (by omega) (by omega)
    have loop : ∀ (l k : Nat), k + l = 46 → zRun qX9_notes 46 [vr 130, vi (k : Int)] [] G (zset H1 136 (cpyo (H1 136) (H 134) (46 * (m : Int)) k)) Q' := by
      intro l
      induction l with
      | zero =>
        intro k hk
        have : k = 46 := by omega
        subst this
        rw [rX9_notes_46]
        simp only [rX9_notes_47, rX9_notes_49, rX9_notes_78, rX9_notes_79, rX9_notes_80, rX9_notes_83, rX9_notes_84, rX9_notes_85, rX9_notes_88, true_and, and_true, true_or, or_true, false_or, or_false, Option.toList_some, Option.toList_none, List.nil_append, List.cons_append, zn1, kM hG, zup_def, zset_at, Nat.reduceEqDiff, reduceIte, e1, zwk (show m < 2000000000 by omega)]
        rw [if_pos (by omega)]
        refine hq _ m sh hm hsh (fun b b1 b2 => ?_) (fun i hi => ?_) ?_ (fun i i0 i1 => ?_) (fun i i0 i1 => ?_)
        · rw [zset_ne b1, zset_ne b2]
          exact f1 b b1 b2
        · rw [zset_eq, zfu_at, if_neg hi]
          exact g1 i hi
        · rw [zset_eq, zfu_at, if_pos rfl]
        · rw [zset_ne (by omega), zset_eq, cpyo_lo i1]
          exact u1 i i0 i1
        · rw [zset_ne (by omega), zset_eq]
          exact cpyo_in i0 i1
      | succ l ih =>
        intro k hk
        have hih := ih (k + 1) (by omega)
        rw [← cpyo_s] at hih
        have e2 : zw (46 * (m : Int) + (k : Int)) = 46 * (m : Int) + (k : Int) := zw_id (by omega) (by omega)
        have e134 : H1 134 = H 134 := f1 134 (by omega) (by omega)
        rw [rX9_notes_46]
        simp only [rX9_notes_47, rX9_notes_49, rX9_notes_52, rX9_notes_53, rX9_notes_56, rX9_notes_58, rX9_notes_59, rX9_notes_62, rX9_notes_63, rX9_notes_64, rX9_notes_65, rX9_notes_66, rX9_notes_69, rX9_notes_70, rX9_notes_71, rX9_notes_72, rX9_notes_75, true_and, and_true, true_or, or_true, false_or, or_false, Option.toList_some, Option.toList_none, List.nil_append, List.cons_append, zn1, kM hG, zup_def, zset_set, zset_at, Nat.reduceEqDiff, reduceIte, e1, e46, e2, e134, zwk (show k < 2000000000 by omega)]
        rw [if_neg (by omega)]
        exact ⟨by omega, by omega, hih⟩
    have := loop 46 0 (by omega)
    rw [show ((0 : Nat) : Int) = 0 from rfl, cpyo_0, zset_self] at this
    exact this
  rw [rX9_notes_in]
  simp only [rX9_notes_0, rX9_notes_1, rX9_notes_4, rX9_notes_6, rX9_notes_9, rX9_notes_10, rX9_notes_44, rX9_notes_45, true_and, and_true, true_or, or_true, false_or, or_false, Option.toList_some, Option.toList_none, List.nil_append, List.cons_append, zn1, kM hG, hn]
  by_cases c : n = 6
  · subst c
    rw [if_neg (fun z => z rfl)]
    have loop : ∀ (l k : Nat), k + l = 230 → zRun qX9_notes 11 [vr 130, vi (k : Int)] [] G (zset H 136 (cpyo (H 136) (fun i => H 136 (i + 46)) 0 k)) Q' := by
      intro l
      induction l with
      | zero =>
        intro k hk
        have : k = 230 := by omega
        subst this
        rw [rX9_notes_11]
        simp only [rX9_notes_12, rX9_notes_15, rX9_notes_39, rX9_notes_40, rX9_notes_41, rX9_notes_44, rX9_notes_45, true_and, and_true, true_or, or_true, false_or, or_false, Option.toList_some, Option.toList_none, List.nil_append, List.cons_append, zn1, kM hG, zup_def, zset_at, Nat.reduceEqDiff, reduceIte]
        rw [if_pos (by omega)]
        refine fin _ 5 1 (by omega) (by omega) rfl (fun b b1 b2 => ?_) (fun i hi => ?_) ?_ (fun i i0 i1 => ?_)
        · rw [zset_ne b1, zset_ne b2]
        · rw [zset_eq, zfu_at, if_neg hi]
        · rw [zset_eq, zfu_at, if_pos rfl]
          rfl
        · rw [zset_ne (by omega), zset_eq, cpyo_in0 i0 (by omega)]
          rfl
      | succ l ih =>
        intro k hk
        have hih := ih (k + 1) (by omega)
        rw [← cpyo_s, Int.zero_add] at hih
        have e2 : zw ((k : Int) + 46) = (k : Int) + 46 := zw_id (by omega) (by omega)
        have e3 : cpyo (H 136) (fun i => H 136 (i + 46)) 0 k ((k : Int) + 46) = H 136 ((k : Int) + 46) := by
          unfold cpyo
          rw [if_neg (by omega)]
        rw [rX9_notes_11]
        simp only [rX9_notes_12, rX9_notes_15, rX9_notes_18, rX9_notes_19, rX9_notes_22, rX9_notes_23, rX9_notes_24, rX9_notes_27, rX9_notes_28, rX9_notes_30, rX9_notes_31, rX9_notes_32, rX9_notes_33, rX9_notes_36, true_and, and_true, true_or, or_true, false_or, or_false, Option.toList_some, Option.toList_none, List.nil_append, List.cons_append, zn1, kM hG, zup_def, zset_set, zset_at, Nat.reduceEqDiff, reduceIte, e2, e3, zwk (show k < 2000000000 by omega)]
        rw [if_neg (by omega)]
        exact ⟨by omega, by omega, hih⟩
    have := loop 230 0 (by omega)
    rw [show ((0 : Nat) : Int) = 0 from rfl, cpyo_0, zset_self] at this
    exact this
  · rw [if_pos (by omega)]
    refine fin H n 0 (by omega) (by omega) (by rw [if_neg c]) (fun _ _ _ => rfl) (fun _ _ => rfl) hn (fun i _ _ => ?_)
    rw [show i + 46 * ((0 : Nat) : Int) = i by omega]
/-- a loan is lent -/
theorem kX9_lends {n : Nat} {i j a d : Int} {G : zG} {H : zH} {Q' : Option zV → zG → zH → Prop} (hG : zOK G) (hn : H 134 12 = (n : Int)) (h8 : n < 8) (hw : sWok (H 134)) (i0 : 0 ≤ i) (i1 : i < 6) (j0 : 0 ≤ j) (j1 : j < 6) (hij : i ≠ j) (a0 : 0 ≤ a) (a1 : a ≤ 200)
    (hq : ∀ H' : zH, (∀ b, b ≠ 134 → b ≠ 139 → H' b = H b) → H' 139 = zfu (H 139) n 8 → (∀ p : Int, 0 ≤ p → p < 6 → H' 134 p = smv (H 134) i j a p) → (∀ p : Int, 6 ≤ p → p < 12 → H' 134 p = H 134 p) → H' 134 12 = ((n + 1 : Nat) : Int) → H' 134 45 = H 134 45 → (∀ q : Int, 13 ≤ q → q < 13 + 4 * (n : Int) → H' 134 q = H 134 q) → (H' 134 (13 + 4 * (n : Int)) = i ∧ H' 134 (13 + 4 * (n : Int) + 1) = j ∧ H' 134 (13 + 4 * (n : Int) + 2) = a ∧ H' 134 (13 + 4 * (n : Int) + 3) = d) → Q' none G H') : zCall qX9_lends [vr 130, vi i, vi j, vi a, vi d] G H Q' := by
  have hwi := hw.le i i0 i1
  have hwj := hw.le j j0 j1
  have q1 : ∀ (f : Int → Int) (v : Int), zfu f (13 + 4 * (n : Int)) v 12 = f 12 ∧ zfu f (13 + 4 * (n : Int) + 1) v 12 = f 12 ∧ zfu f (13 + 4 * (n : Int) + 2) v 12 = f 12 ∧ zfu f (13 + 4 * (n : Int) + 3) v 12 = f 12 := fun f v => by
    simp only [zfu_at]
    rw [if_neg (by omega), if_neg (by omega), if_neg (by omega), if_neg (by omega)]
    exact ⟨rfl, rfl, rfl, rfl⟩
  have q2 : ∀ (f : Int → Int) (v : Int), zfu f (13 + 4 * (n : Int)) v i = f i ∧ zfu f (13 + 4 * (n : Int) + 1) v i = f i ∧ zfu f (13 + 4 * (n : Int) + 2) v i = f i ∧ zfu f (13 + 4 * (n : Int) + 3) v i = f i ∧ zfu f 12 v i = f i := fun f v => by
    simp only [zfu_at]
    rw [if_neg (by omega), if_neg (by omega), if_neg (by omega), if_neg (by omega), if_neg (by omega)]
    exact ⟨rfl, rfl, rfl, rfl, rfl⟩
  have q3 : ∀ (f : Int → Int) (v : Int), zfu f (13 + 4 * (n : Int)) v j = f j ∧ zfu f (13 + 4 * (n : Int) + 1) v j = f j ∧ zfu f (13 + 4 * (n : Int) + 2) v j = f j ∧ zfu f (13 + 4 * (n : Int) + 3) v j = f j ∧ zfu f 12 v j = f j ∧ zfu f i v j = f j := fun f v => by
    simp only [zfu_at]
    rw [if_neg (by omega), if_neg (by omega), if_neg (by omega), if_neg (by omega), if_neg (by omega), if_neg (by omega)]
    exact ⟨rfl, rfl, rfl, rfl, rfl, rfl⟩
  have b12 : (0 : Int) ≤ 12 ∧ (12 : Int) < 46 := by omega
  have c0 : 0 ≤ 13 + 4 * (n : Int) ∧ 13 + 4 * (n : Int) < 46 := by omega
  have c1 : 0 ≤ 13 + 4 * (n : Int) + 1 ∧ 13 + 4 * (n : Int) + 1 < 46 := by omega
  have c2 : 0 ≤ 13 + 4 * (n : Int) + 2 ∧ 13 + 4 * (n : Int) + 2 < 46 := by omega
  have c3 : 0 ≤ 13 + 4 * (n : Int) + 3 ∧ 13 + 4 * (n : Int) + 3 < 46 := by omega
  have ci : 0 ≤ i ∧ i < 46 := by omega
  have cj : 0 ≤ j ∧ j < 46 := by omega
  have cn : 0 ≤ (n : Int) ∧ (n : Int) < 8 := by omega
  have z1 := zw_id (z := H 134 i - a) (by omega) (by omega)
  have z2 := zw_id (z := H 134 j + a) (by omega) (by omega)
  rw [rX9_lends_in]
  simp only [rX9_lends_0, rX9_lends_2, rX9_lends_3, rX9_lends_4, rX9_lends_7, rX9_lends_9, rX9_lends_10, rX9_lends_11, rX9_lends_12, rX9_lends_14, rX9_lends_15, rX9_lends_18, rX9_lends_20, rX9_lends_21, rX9_lends_22, rX9_lends_23, rX9_lends_26, rX9_lends_28, rX9_lends_29, rX9_lends_30, rX9_lends_31, rX9_lends_32, rX9_lends_33, rX9_lends_36, rX9_lends_38, rX9_lends_39, rX9_lends_40, rX9_lends_41, rX9_lends_42, rX9_lends_43, rX9_lends_46, rX9_lends_48, rX9_lends_49, rX9_lends_50, rX9_lends_52, rX9_lends_53, rX9_lends_54, rX9_lends_57, rX9_lends_58, rX9_lends_61, rX9_lends_63, rX9_lends_64, rX9_lends_66, rX9_lends_67, rX9_lends_68, rX9_lends_71, rX9_lends_73, rX9_lends_74, rX9_lends_75, rX9_lends_76, rX9_lends_77, rX9_lends_78, rX9_lends_79, rX9_lends_82, rX9_lends_83, rX9_lends_84, rX9_lends_85, rX9_lends_86, rX9_lends_87, rX9_lends_88, rX9_lends_89, rX9_lends_92, rX9_lends_93, rX9_lends_94, rX9_lends_95, rX9_lends_96, rX9_lends_97, rX9_lends_98, true_and, and_true, true_or, or_true, false_or, or_false, Option.toList_some, Option.toList_none, List.nil_append, List.cons_append, zn1, kM hG, zup_def, zset_set, zset_at, Nat.reduceEqDiff, reduceIte, hn, ix4 (show n ≤ 8 by omega), b12, c0, c1, c2, c3, ci, cj, cn, q1, q2, q3, z1, z2, zwk (show n < 2000000000 by omega), zset_swap (show (134 : Nat) ≠ 139 by omega)]
  refine hq _ (fun b h1 h2 => ?_) ?_ (fun p p0 p1 => ?_) (fun p p0 p1 => ?_) ?_ ?_ (fun q q0 q1 => ?_) ⟨?_, ?_, ?_, ?_⟩
  · rw [zset_ne h2, zset_ne h1]
  · rw [zset_eq]
  · rw [zset_ne (by omega), zset_eq]
    unfold smv
    rw [(q3 (H 134) _).2.2.2.2.2]
    simp only [zfu_at]
    by_cases e1 : p = j
    · rw [if_pos e1, if_pos e1]
    · rw [if_neg e1, if_neg e1]
      by_cases e2 : p = i
      · rw [if_pos e2, if_pos e2]
      · rw [if_neg e2, if_neg e2, if_neg (by omega), if_neg (by omega), if_neg (by omega), if_neg (by omega), if_neg (by omega)]
  · rw [zset_ne (by omega), zset_eq]
    simp only [zfu_at]
    rw [if_neg (by omega), if_neg (by omega), if_neg (by omega), if_neg (by omega), if_neg (by omega), if_neg (by omega), if_neg (by omega)]
  · rw [zset_ne (by omega), zset_eq]
    simp only [zfu_at]
    rw [if_neg (by omega), if_neg (by omega), if_true]
  · rw [zset_ne (by omega), zset_eq]
    simp only [zfu_at]
    rw [if_neg (by omega), if_neg (by omega), if_neg (by omega), if_neg (by omega), if_neg (by omega), if_neg (by omega), if_neg (by omega)]
  · rw [zset_ne (by omega), zset_eq]
    simp only [zfu_at]
    rw [if_neg (by omega), if_neg (by omega), if_neg (by omega), if_neg (by omega), if_neg (by omega), if_neg (by omega), if_neg (by omega)]
  · rw [zset_ne (by omega), zset_eq]
    simp only [zfu_at]
    rw [if_neg (by omega), if_neg (by omega), if_neg (by omega), if_neg (by omega), if_neg (by omega), if_neg (by omega), if_true]
  · rw [zset_ne (by omega), zset_eq]
    simp only [zfu_at]
    rw [if_neg (by omega), if_neg (by omega), if_neg (by omega), if_neg (by omega), if_neg (by omega), if_true]
  · rw [zset_ne (by omega), zset_eq]
    simp only [zfu_at]
    rw [if_neg (by omega), if_neg (by omega), if_neg (by omega), if_neg (by omega), if_true]
  · rw [zset_ne (by omega), zset_eq]
    simp only [zfu_at]
    rw [if_neg (by omega), if_neg (by omega), if_neg (by omega), if_true]
