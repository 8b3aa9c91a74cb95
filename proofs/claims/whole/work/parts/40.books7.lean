/-! Books: opened, copied, marked; a loan more; the notary -/
theorem zset_id {H : zH} {a : Nat} {f : Int → Int} (h : f = H a) : zset H a f = H := by rw [h, zset_self]
theorem kX0_open {o : Nat} {G : zG} {H : zH} {Q' : Option zV → zG → zH → Prop} (hG : zOK G) (ho : isBk o) (h1 : 1 ≤ H 3 1) (h2 : H 3 1 ≤ 6)
    (hq : ∀ H' : zH, frB o H H' → (∀ p : Int, 0 ≤ p → p < 6 → H' (o + 1) p = (if p < H 3 1 then H 4 p else 0) ∧ H' (o + 2) p = 0) → (∀ b, o + 3 ≤ b → b ≤ o + 8 → H' b = H b) → H' o 9 = 0 → H' o 10 = 0 → Q' none G H') : zCall qX0_open [vr o] G H Q' := by
  have hb := bk_ge ho
  rw [rX0_open_in]
  simp only [rX0_open_0, rX0_open_1, rX0_open_3, rX0_open_5, rX0_open_8, rX0_open_9, rX0_open_12, rX0_open_13, rX0_open_14, rX0_open_15, rX0_open_18, rX0_open_21, rX0_open_24, rX0_open_25, rX0_open_28, rX0_open_31, rX0_open_32, rX0_open_33, rX0_open_36, rX0_open_37, rX0_open_38, rX0_open_39, rX0_open_42, rX0_open_43, rX0_open_44, rX0_open_45, rX0_open_48, rX0_open_51, rX0_open_52, rX0_open_53, rX0_open_56, rX0_open_57, rX0_open_58, rX0_open_61, true_and, and_true, true_or, or_true, false_or, or_false, Option.toList_some, Option.toList_none, List.nil_append, List.cons_append, zn1]
  have loop : ∀ (m k : Nat) (H1 : zH), k + m = 6 → (∀ b, b ≠ o + 1 → b ≠ o + 2 → H1 b = H b) → (∀ p : Int, 0 ≤ p → p < (k : Int) → H1 (o + 1) p = (if p < H 3 1 then H 4 p else 0) ∧ H1 (o + 2) p = 0) → zRun qX0_open 2 [vr o, vi (k : Int)] [] G H1 Q' := by
    intro m
    induction m with
    | zero =>
      intro k H1 hk hf hp
      have e9 : H1 o = H o := hf o (by omega) (by omega)
      rw [rX0_open_2]
      simp only [rX0_open_0, rX0_open_1, rX0_open_3, rX0_open_5, rX0_open_8, rX0_open_9, rX0_open_12, rX0_open_13, rX0_open_14, rX0_open_15, rX0_open_18, rX0_open_21, rX0_open_24, rX0_open_25, rX0_open_28, rX0_open_31, rX0_open_32, rX0_open_33, rX0_open_36, rX0_open_37, rX0_open_38, rX0_open_39, rX0_open_42, rX0_open_43, rX0_open_44, rX0_open_45, rX0_open_48, rX0_open_51, rX0_open_52, rX0_open_53, rX0_open_56, rX0_open_57, rX0_open_58, rX0_open_61, true_and, and_true, true_or, or_true, false_or, or_false, Option.toList_some, Option.toList_none, List.nil_append, List.cons_append, zn1, kB hG ho, zup_def, zset_set, zset_at, if_true]
      rw [if_pos (by omega)]
      refine hq _ (fun b hb' => ?_) (fun p p0 p1 => ?_) (fun b b0 b1 => ?_) ?_ ?_
      · rw [zset_ne (by omega)]
        exact hf b (by omega) (by omega)
      · rw [zset_ne (by omega), zset_ne (by omega)]
        exact hp p p0 (by omega)
      · rw [zset_ne (by omega)]
        exact hf b (by omega) (by omega)
      · rw [zset_eq, zfu_at, if_neg (by omega), zfu_at, if_pos rfl]
      · rw [zset_eq, zfu_at, if_pos rfl]
    | succ m ih =>
      intro k H1 hk hf hp
      have e3 : H1 3 = H 3 := hf 3 (by omega) (by omega)
      have e4 : H1 4 = H 4 := hf 4 (by omega) (by omega)
      rw [rX0_open_2]
      simp only [rX0_open_0, rX0_open_1, rX0_open_3, rX0_open_5, rX0_open_8, rX0_open_9, rX0_open_12, rX0_open_13, rX0_open_14, rX0_open_15, rX0_open_18, rX0_open_21, rX0_open_24, rX0_open_25, rX0_open_28, rX0_open_31, rX0_open_32, rX0_open_33, rX0_open_36, rX0_open_37, rX0_open_38, rX0_open_39, rX0_open_42, rX0_open_43, rX0_open_44, rX0_open_45, rX0_open_48, rX0_open_51, rX0_open_52, rX0_open_53, rX0_open_56, rX0_open_57, rX0_open_58, rX0_open_61, true_and, and_true, true_or, or_true, false_or, or_false, Option.toList_some, Option.toList_none, List.nil_append, List.cons_append, zn1, kB hG ho, sO_3 hG, sO_4 hG, e3, e4, zup_def, zset_at, neB ho, if_false, zwk (show k < 2000000000 by omega)]
      rw [if_neg (by omega)]
      have fin : ∀ v : Int, v = (if (k : Int) < H 3 1 then H 4 k else 0) → zRun qX0_open 2 [vr o, vi ((k + 1 : Nat) : Int)] [] G (zset (zset H1 (o + 1) (zfu (H1 (o + 1)) k v)) (o + 2) (zfu (H1 (o + 2)) k 0)) Q' := by
        intro v hv
        refine ih (k + 1) _ (by omega) (fun b b1 b2 => ?_) (fun p p0 p1 => ?_)
        · rw [zset_ne b2, zset_ne b1]
          exact hf b b1 b2
        · rw [zset_ne (show o + 1 ≠ o + 2 by omega), zset_eq, zset_eq, zfu_at, zfu_at]
          by_cases c : p = k
          · subst c
            rw [if_pos rfl, if_pos rfl]
            exact ⟨hv, rfl⟩
          · rw [if_neg c, if_neg c]
            exact hp p p0 (by omega)
      by_cases c : H 3 1 ≤ (k : Int)
      · rw [if_pos c]
        exact ⟨by omega, by omega, fin _ (by rw [if_neg (by omega)])⟩
      · rw [if_neg c]
        exact ⟨by omega, by omega, by omega, fin _ (by rw [if_pos (by omega)])⟩
  exact loop 6 0 H rfl (fun _ _ _ => rfl) (fun p p0 p1 => by omega)
/-- one book as another -/
def cpB (H : zH) (s : Nat) (H' : zH) (o : Nat) : Prop := (∀ p : Int, 0 ≤ p → p < 6 → H' (o + 1) p = H (s + 1) p ∧ H' (o + 2) p = H (s + 2) p) ∧ (∀ k : Int, 0 ≤ k → k < 8 → H' (o + 3) k = H (s + 3) k ∧ H' (o + 4) k = H (s + 4) k ∧ H' (o + 5) k = H (s + 5) k ∧ H' (o + 6) k = H (s + 6) k) ∧ H' o 9 = H s 9 ∧ H' o 10 = H s 10
theorem bk_apart {o s : Nat} (ho : isBk o) (hs : isBk s) (h : o ≠ s) : o + 8 < s ∨ s + 8 < o := by
  have e : ∀ o ∈ [7, 18, 29, 40, 49, 58, 67, 76, 85, 96, 105], ∀ s ∈ [7, 18, 29, 40, 49, 58, 67, 76, 85, 96, 105], o ≠ s → o + 8 < s ∨ s + 8 < o := by decide
  exact e o ho s hs h
theorem zcpy_at {H : zH} {a b : Nat} {n p : Int} (h0 : 0 ≤ p) (h1 : p < n) : zcpy H a b 0 0 n p = H a p := by
  unfold zcpy
  rw [if_pos (by omega)]
  congr 1
  omega
theorem kX0_copyFrom {o s : Nat} {G : zG} {H : zH} {Q' : Option zV → zG → zH → Prop} (hG : zOK G) (ho : isBk o) (hs : isBk s) (hos : o ≠ s)
    (hq : ∀ H' : zH, frB o H H' → cpB H s H' o → H' (o + 7) = H (o + 7) → H' (o + 8) = H (o + 8) → Q' none G H') : zCall qX0_copyFrom [vr o, vr s] G H Q' := by
  have hb := bk_ge ho
  have ha := bk_apart ho hs hos
  rw [rX0_copyFrom_in]
  simp only [rX0_copyFrom_0, rX0_copyFrom_1, rX0_copyFrom_4, rX0_copyFrom_5, rX0_copyFrom_6, rX0_copyFrom_9, rX0_copyFrom_10, rX0_copyFrom_12, rX0_copyFrom_15, rX0_copyFrom_16, rX0_copyFrom_19, rX0_copyFrom_20, rX0_copyFrom_21, rX0_copyFrom_24, rX0_copyFrom_25, rX0_copyFrom_27, rX0_copyFrom_30, rX0_copyFrom_31, rX0_copyFrom_34, rX0_copyFrom_35, rX0_copyFrom_36, rX0_copyFrom_39, rX0_copyFrom_40, rX0_copyFrom_42, rX0_copyFrom_45, rX0_copyFrom_46, rX0_copyFrom_49, rX0_copyFrom_50, rX0_copyFrom_51, rX0_copyFrom_54, rX0_copyFrom_55, rX0_copyFrom_57, rX0_copyFrom_60, rX0_copyFrom_61, rX0_copyFrom_64, rX0_copyFrom_65, rX0_copyFrom_66, rX0_copyFrom_69, rX0_copyFrom_70, rX0_copyFrom_72, rX0_copyFrom_75, rX0_copyFrom_76, rX0_copyFrom_79, rX0_copyFrom_80, rX0_copyFrom_81, rX0_copyFrom_84, rX0_copyFrom_85, rX0_copyFrom_87, rX0_copyFrom_90, rX0_copyFrom_91, rX0_copyFrom_92, rX0_copyFrom_95, rX0_copyFrom_98, rX0_copyFrom_99, rX0_copyFrom_100, rX0_copyFrom_103, rX0_copyFrom_106, true_and, and_true, true_or, or_true, false_or, or_false, Option.toList_some, Option.toList_none, List.nil_append, List.cons_append, zn1, kB hG ho, kB hG hs, zup_def]
  simp only [show ((0 : Int) ≤ 0) = True by simp, show ((0 : Int) ≤ 6) = True by simp, show ((0 : Int) ≤ 8) = True by simp, show ((0 : Int) + 6 ≤ 6) = True by simp, show ((0 : Int) + 8 ≤ 8) = True by simp, true_and]
  have ne : ∀ i j : Nat, i ≤ 8 → j ≤ 8 → s + i ≠ o + j := fun i j hi hj => by omega
  refine hq _ (fun b hb' => ?_) ⟨fun p p0 p1 => ⟨?_, ?_⟩, fun k k0 k1 => ⟨?_, ?_, ?_, ?_⟩, ?_, ?_⟩ ?_ ?_
  · simp only [zset_at]
    repeat' split
    all_goals (first | rfl | omega)
  · rw [zset_ne (by omega), zset_ne (by omega), zset_ne (by omega), zset_ne (by omega), zset_ne (by omega), zset_ne (by omega), zset_ne (by omega), zset_eq, zcpy_at p0 p1]
  · rw [zset_ne (by omega), zset_ne (by omega), zset_ne (by omega), zset_ne (by omega), zset_ne (by omega), zset_ne (by omega), zset_eq, zcpy_at p0 p1, zset_ne (by omega)]
  · rw [zset_ne (by omega), zset_ne (by omega), zset_ne (by omega), zset_ne (by omega), zset_ne (by omega), zset_eq, zcpy_at k0 k1, zset_ne (by omega), zset_ne (by omega)]
  · rw [zset_ne (by omega), zset_ne (by omega), zset_ne (by omega), zset_ne (by omega), zset_eq, zcpy_at k0 k1, zset_ne (by omega), zset_ne (by omega), zset_ne (by omega)]
  · rw [zset_ne (by omega), zset_ne (by omega), zset_ne (by omega), zset_eq, zcpy_at k0 k1, zset_ne (by omega), zset_ne (by omega), zset_ne (by omega), zset_ne (by omega)]
  · rw [zset_ne (by omega), zset_ne (by omega), zset_eq, zcpy_at k0 k1, zset_ne (by omega), zset_ne (by omega), zset_ne (by omega), zset_ne (by omega), zset_ne (by omega)]
  · rw [zset_eq, zfu_at, if_neg (by omega), zset_eq, zfu_at, if_pos rfl]
    simp only [zset_at]
    repeat' rw [if_neg (by omega)]
  · rw [zset_eq, zfu_at, if_pos rfl]
    simp only [zset_at]
    repeat' rw [if_neg (by omega)]
  · simp only [zset_at]
    repeat' rw [if_neg (by omega)]
  · simp only [zset_at]
    repeat' rw [if_neg (by omega)]
theorem kX0_markLoans {o : Nat} {G : zG} {H : zH} {Q' : Option zV → zG → zH → Prop} (hG : zOK G) (ho : isBk o)
    (hq : ∀ H' : zH, (∀ b, b ≠ o + 7 → b ≠ o + 8 → H' b = H b) → (∀ k : Int, 0 ≤ k → k < 8 → H' (o + 7) k = k ∧ H' (o + 8) k = 0) → Q' none G H') : zCall qX0_markLoans [vr o] G H Q' := by
  have hb := bk_ge ho
  rw [rX0_markLoans_in]
  simp only [rX0_markLoans_0, rX0_markLoans_1, rX0_markLoans_3, rX0_markLoans_5, rX0_markLoans_8, rX0_markLoans_9, rX0_markLoans_12, rX0_markLoans_13, rX0_markLoans_14, rX0_markLoans_15, rX0_markLoans_16, rX0_markLoans_19, rX0_markLoans_20, rX0_markLoans_21, rX0_markLoans_22, rX0_markLoans_25, rX0_markLoans_28, true_and, and_true, true_or, or_true, false_or, or_false, Option.toList_some, Option.toList_none, List.nil_append, List.cons_append, zn1]
  have loop : ∀ (m k : Nat) (H1 : zH), k + m = 8 → (∀ b, b ≠ o + 7 → b ≠ o + 8 → H1 b = H b) → (∀ p : Int, 0 ≤ p → p < (k : Int) → H1 (o + 7) p = p ∧ H1 (o + 8) p = 0) → zRun qX0_markLoans 2 [vr o, vi (k : Int)] [] G H1 Q' := by
    intro m
    induction m with
    | zero =>
      intro k H1 hk hf hp
      rw [rX0_markLoans_2]
      simp only [rX0_markLoans_0, rX0_markLoans_1, rX0_markLoans_3, rX0_markLoans_5, rX0_markLoans_8, rX0_markLoans_9, rX0_markLoans_12, rX0_markLoans_13, rX0_markLoans_14, rX0_markLoans_15, rX0_markLoans_16, rX0_markLoans_19, rX0_markLoans_20, rX0_markLoans_21, rX0_markLoans_22, rX0_markLoans_25, rX0_markLoans_28, true_and, and_true, true_or, or_true, false_or, or_false, Option.toList_some, Option.toList_none, List.nil_append, List.cons_append, zn1]
      rw [if_pos (by omega)]
      exact hq H1 hf (fun p p0 p1 => hp p p0 (by omega))
    | succ m ih =>
      intro k H1 hk hf hp
      rw [rX0_markLoans_2]
      simp only [rX0_markLoans_0, rX0_markLoans_1, rX0_markLoans_3, rX0_markLoans_5, rX0_markLoans_8, rX0_markLoans_9, rX0_markLoans_12, rX0_markLoans_13, rX0_markLoans_14, rX0_markLoans_15, rX0_markLoans_16, rX0_markLoans_19, rX0_markLoans_20, rX0_markLoans_21, rX0_markLoans_22, rX0_markLoans_25, rX0_markLoans_28, true_and, and_true, true_or, or_true, false_or, or_false, Option.toList_some, Option.toList_none, List.nil_append, List.cons_append, zn1, kB hG ho, zup_def, zset_at, neB ho, if_false, zwk (show k < 2000000000 by omega)]
      rw [if_neg (by omega)]
      refine ⟨by omega, by omega, ?_⟩
      refine ih (k + 1) _ (by omega) (fun b b1 b2 => ?_) (fun p p0 p1 => ?_)
      · rw [zset_ne b2, zset_ne b1]
        exact hf b b1 b2
      · rw [zset_ne (show o + 7 ≠ o + 8 by omega), zset_eq, zset_eq, zfu_at, zfu_at]
        by_cases c : p = k
        · subst c
          rw [if_pos rfl, if_pos rfl]
          exact ⟨rfl, rfl⟩
        · rw [if_neg c, if_neg c]
          exact hp p p0 (by omega)
  exact loop 8 0 H rfl (fun _ _ _ => rfl) (fun p p0 p1 => by omega)
theorem kX0_addLoan {o n : Nat} {i j a d : Int} {G : zG} {H : zH} {Q' : Option zV → zG → zH → Prop} (hG : zOK G) (ho : isBk o) (hn : H o 9 = (n : Int)) (h8 : n < 8) (hw : sWok (H (o + 1))) (i0 : 0 ≤ i) (i1 : i < 6) (j0 : 0 ≤ j) (j1 : j < 6) (a0 : 0 ≤ a) (a1 : a ≤ 200) 
    (hq : ∀ H' : zH, frB o H H' → H' (o + 1) = smv (H (o + 1)) i j a → H' (o + 2) = H (o + 2) → H' (o + 7) = H (o + 7) → H' (o + 8) = H (o + 8) → H' o 9 = ((n + 1 : Nat) : Int) → H' o 10 = H o 10 → (∀ k : Nat, k < n → H' (o + 3) k = H (o + 3) k ∧ H' (o + 4) k = H (o + 4) k ∧ H' (o + 5) k = H (o + 5) k ∧ H' (o + 6) k = H (o + 6) k) → (H' (o + 3) n = i ∧ H' (o + 4) n = j ∧ H' (o + 5) n = a ∧ H' (o + 6) n = d) → Q' none G H') : zCall qX0_addLoan [vr o, vi i, vi j, vi a, vi d] G H Q' := by
  have hb := bk_ge ho
  have hwi := hw.le i i0 i1
  have hwj := hw.le j j0 j1
  rw [rX0_addLoan_in]
  have e1 := zw_id (z := H (o + 1) i - a) (by omega) (by omega)
  simp only [rX0_addLoan_0, rX0_addLoan_1, rX0_addLoan_4, rX0_addLoan_6, rX0_addLoan_9, rX0_addLoan_10, rX0_addLoan_11, rX0_addLoan_14, rX0_addLoan_15, rX0_addLoan_18, rX0_addLoan_19, rX0_addLoan_20, rX0_addLoan_21, rX0_addLoan_24, rX0_addLoan_25, rX0_addLoan_28, rX0_addLoan_29, rX0_addLoan_30, rX0_addLoan_31, rX0_addLoan_34, rX0_addLoan_35, rX0_addLoan_38, rX0_addLoan_39, rX0_addLoan_40, rX0_addLoan_41, rX0_addLoan_44, rX0_addLoan_45, rX0_addLoan_48, rX0_addLoan_50, rX0_addLoan_51, rX0_addLoan_52, rX0_addLoan_53, rX0_addLoan_56, rX0_addLoan_57, rX0_addLoan_58, rX0_addLoan_61, rX0_addLoan_62, rX0_addLoan_65, rX0_addLoan_66, rX0_addLoan_67, rX0_addLoan_68, rX0_addLoan_69, rX0_addLoan_70, rX0_addLoan_71, rX0_addLoan_72, rX0_addLoan_75, rX0_addLoan_76, rX0_addLoan_77, rX0_addLoan_78, rX0_addLoan_79, rX0_addLoan_80, rX0_addLoan_81, true_and, and_true, true_or, or_true, false_or, or_false, Option.toList_some, Option.toList_none, List.nil_append, List.cons_append, zn1, kB hG ho, neB ho, zup_def, zset_at, zset_set, hn, if_true, if_false, zwk (show n < 2000000000 by omega), e1]
  rw [if_pos (by omega)]
  have b : zfu (H (o + 1)) i (H (o + 1) i - a) j + a ≤ 7000 ∧ -1000 ≤ zfu (H (o + 1)) i (H (o + 1) i - a) j + a := by
    rw [zfu_at]
    split <;> omega
  rw [zw_id (z := zfu (H (o + 1)) i (H (o + 1) i - a) j + a) (by omega) (by omega)]
  refine ⟨by omega, by omega, by omega, by omega, by omega, by omega, by omega, by omega, ?_⟩
  refine hq _ (fun b hb' => ?_) ?_ ?_ ?_ ?_ ?_ ?_ (fun k hk => ?_) ?_
  · simp only [zset_at]
    repeat' rw [if_neg (by omega)]
  · rw [zset_eq]
    rfl
  · simp only [zset_at]
    repeat' rw [if_neg (by omega)]
  · simp only [zset_at]
    repeat' rw [if_neg (by omega)]
  · simp only [zset_at]
    repeat' rw [if_neg (by omega)]
  · simp only [zset_at, neB ho, if_true, if_false, zfu_at]
  · simp only [zset_at, neB ho, if_true, if_false, zfu_at]
    rw [if_neg (by omega)]
  · simp only [zset_at, neB ho, if_true, if_false, zfu_at]
    simp only [show ¬ (k : Int) = (n : Int) by omega, if_false, and_self]
  · simp only [zset_at, neB ho, if_true, if_false, zfu_at, and_self]
/-- the notary's yes -/
def sgrant (law r : Int) (n : Nat) (w bo am du : Int → Int) (i j a d : Int) : Prop :=
  if law = 0 then a < w i ∧ zdue r a < zw (zw (zw (w j + a) - d) - sdueF r n bo am du j d) else if law = 1 then a < w i else False
theorem sgrant_dec (law r : Int) (n : Nat) (w bo am du : Int → Int) (i j a d : Int) : sgrant law r n w bo am du i j a d ∨ ¬ sgrant law r n w bo am du i j a d := Classical.em _
noncomputable def sgb (law r : Int) (n : Nat) (w bo am du : Int → Int) (i j a d : Int) : Int := if law = 0 then (if a < w i ∧ zdue r a < zw (zw (zw (w j + a) - d) - sdueF r n bo am du j d) then 1 else 0) else if law = 1 then (if a < w i then 1 else 0) else 0
theorem kX0_isGranted {o n : Nat} {i j a d : Int} {G : zG} {H : zH} {Q : Option zV → zG → zH → Prop} (hG : zOK G) (ho : isBk o) (hn : H o 9 = (n : Int)) (h8 : n ≤ 8) (i0 : 0 ≤ i) (i1 : i < 6) (j0 : 0 ≤ j) (j1 : j < 6) : zCall qX0_isGranted [vr o, vi i, vi j, vi a, vi d] G H Q ↔ Q (some (vi (sgb (H 3 4) (H 3 2) n (H (o + 1)) (H (o + 4)) (H (o + 5)) (H (o + 6)) i j a d))) G H := by
  refine zCall_det (fun Q' hq => ?_)
  rw [rX0_isGranted_in]
  simp only [rX0_isGranted_0, rX0_isGranted_1, rX0_isGranted_4, rX0_isGranted_7, rX0_isGranted_32, rX0_isGranted_33, rX0_isGranted_36, rX0_isGranted_37, rX0_isGranted_38, rX0_isGranted_39, rX0_isGranted_42, rX0_isGranted_43, rX0_isGranted_46, rX0_isGranted_47, rX0_isGranted_48, rX0_isGranted_49, rX0_isGranted_50, rX0_isGranted_52, rX0_isGranted_53, rX0_isGranted_54, rX0_isGranted_55, rX0_isGranted_57, rX0_isGranted_60, rX0_isGranted_61, rX0_isGranted_62, rX0_isGranted_63, rX0_isGranted_66, rX0_isGranted_69, rX0_isGranted_70, rX0_isGranted_73, rX0_isGranted_74, rX0_isGranted_75, rX0_isGranted_76, rX0_isGranted_79, rX0_isGranted_80, rX0_isGranted_81, rX0_isGranted_82, rX0_isGranted_85, rX0_isGranted_86, rX0_isGranted_89, rX0_isGranted_90, rX0_isGranted_91, rX0_isGranted_92, true_and, and_true, true_or, or_true, false_or, or_false, Option.toList_some, Option.toList_none, List.nil_append, List.cons_append, zn1, kB hG ho, sO_3 hG, kX0_dueFrom hG ho hn h8, kX0_dueOn hG ho]
  unfold sgb at hq
  by_cases c0 : H 3 4 = 0
  · rw [if_pos c0] at hq ⊢
    refine ⟨by omega, ?_⟩
    by_cases c1 : H (o + 1) i ≤ a
    · rw [if_neg (fun z => by omega)] at hq
      rw [if_pos c1]
      exact hq
    · rw [if_neg c1]
      refine ⟨by omega, ?_⟩
      split
      · rw [if_neg (fun z => by omega)] at hq
        exact hq
      · rw [if_pos ⟨by omega, by omega⟩] at hq
        exact hq
  · rw [if_neg c0] at hq ⊢
    by_cases c1 : H 3 4 = 1
    · rw [if_pos c1] at hq ⊢
      refine ⟨by omega, ?_⟩
      split
      · rw [if_neg (by omega)] at hq
        exact hq
      · rw [if_pos (by omega)] at hq
        exact hq
    · rw [if_neg c1] at hq ⊢
      exact hq
/-- BAD, NO, FULL, or nothing in the way -/
noncomputable def shind (P law r : Int) (n : Nat) (w bo am du : Int → Int) (i j a d : Int) : Int :=
  if (i ≠ j ∧ ((0 ≤ i ∧ i < P) ∧ 0 < w i)) ∧ ((0 ≤ j ∧ j < P) ∧ 0 < w j) ∧ ((1 ≤ a ∧ a ≤ 200) ∧ (1 ≤ d ∧ d ≤ 200)) then (if sgb law r n w bo am du i j a d = 0 then -2 else if (n : Int) < 8 then 0 else -3) else -1
theorem kX0_hindrance {o n : Nat} {i j a d : Int} {G : zG} {H : zH} {Q : Option zV → zG → zH → Prop} (hG : zOK G) (ho : isBk o) (hn : H o 9 = (n : Int)) (h8 : n ≤ 8) (h1 : 1 ≤ H 3 1) (h2 : H 3 1 ≤ 6) : zCall qX0_hindrance [vr o, vi i, vi j, vi a, vi d] G H Q ↔ Q (some (vi (shind (H 3 1) (H 3 4) (H 3 2) n (H (o + 1)) (H (o + 4)) (H (o + 5)) (H (o + 6)) i j a d))) G H := by
  refine zCall_det (fun Q' hq => ?_)
  rw [rX0_hindrance_in]
  simp only [rX0_hindrance_0, rX0_hindrance_1, rX0_hindrance_2, rX0_hindrance_3, rX0_hindrance_4, rX0_hindrance_6, rX0_hindrance_9, rX0_hindrance_12, rX0_hindrance_13, rX0_hindrance_14, rX0_hindrance_15, rX0_hindrance_16, rX0_hindrance_17, rX0_hindrance_18, rX0_hindrance_20, rX0_hindrance_23, rX0_hindrance_26, rX0_hindrance_28, rX0_hindrance_29, rX0_hindrance_30, rX0_hindrance_33, rX0_hindrance_35, rX0_hindrance_38, rX0_hindrance_40, rX0_hindrance_43, rX0_hindrance_44, true_and, and_true, true_or, or_true, false_or, or_false, Option.toList_some, Option.toList_none, List.nil_append, List.cons_append, zn1, kB hG ho, kX0_isFit hG ho h1 h2, bi_ne0, hn]
  unfold shind at hq
  split
  · rename_i c
    rw [if_pos c] at hq
    rw [kX0_isGranted hG ho hn h8 (by omega) (by omega) (by omega) (by omega)]
    simp only [rX0_hindrance_0, rX0_hindrance_1, rX0_hindrance_2, rX0_hindrance_3, rX0_hindrance_4, rX0_hindrance_6, rX0_hindrance_9, rX0_hindrance_12, rX0_hindrance_13, rX0_hindrance_14, rX0_hindrance_15, rX0_hindrance_16, rX0_hindrance_17, rX0_hindrance_18, rX0_hindrance_20, rX0_hindrance_23, rX0_hindrance_26, rX0_hindrance_28, rX0_hindrance_29, rX0_hindrance_30, rX0_hindrance_33, rX0_hindrance_35, rX0_hindrance_38, rX0_hindrance_40, rX0_hindrance_43, rX0_hindrance_44, true_and, and_true, true_or, or_true, false_or, or_false, Option.toList_some, Option.toList_none, List.nil_append, List.cons_append, zn1, kB hG ho, hn]
    by_cases c1 : sgb (H 3 4) (H 3 2) n (H (o + 1)) (H (o + 4)) (H (o + 5)) (H (o + 6)) i j a d = 0
    · rw [if_pos c1] at hq
      rw [if_neg (fun z => z c1)]
      exact hq
    · rw [if_neg c1] at hq
      rw [if_pos c1]
      split
      · rename_i c2
        rw [if_pos c2] at hq
        exact hq
      · rename_i c2
        rw [if_neg c2] at hq
        exact hq
  · rename_i c
    rw [if_neg c] at hq
    exact hq
