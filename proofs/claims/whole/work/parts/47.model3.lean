/-! the model: a loan is no more -/
def dpA (a : Int → Int) (k n w : Int) : Int → Int := fun i => if 13 + 4 * n - 4 ≤ i ∧ i < 13 + 4 * n - 4 + w then 0 else if 13 + 4 * k ≤ i ∧ i < 13 + 4 * n - 4 then a (i + 4) else if i = 12 then n - 1 else a i
def shA (a : Int → Int) (k n hi : Int) : Int → Int := fun i => if 13 + 4 * k ≤ i ∧ i < hi then a (i + 4) else if i = 12 then n - 1 else a i
def shN (nm : Int → Int) (k hi : Int) : Int → Int := fun j => if k ≤ j ∧ j < hi then nm (j + 1) else nm j
theorem zset_swap {H : zH} {a b : Nat} {f g h : Int → Int} (hab : a ≠ b) : zset (zset (zset H a f) b g) a h = zset (zset H a h) b g := by
  funext c
  simp only [zset_at]
  repeat' split
  all_goals first | rfl | simp_all
theorem zfu_eq {f g : Int → Int} {i v : Int} (h1 : g i = v) (h2 : ∀ j, j ≠ i → g j = f j) : zfu f i v = g := by
  funext j
  rw [zfu_at]
  by_cases c : j = i
  · subst c
    rw [if_pos rfl, h1]
  · rw [if_neg c, h2 j c]
theorem dp_inner {k n e : Nat} {v : Unit} {G : zG} {H : zH} {Q' : Option zV → zG → zH → Prop} (hG : zOK G) (h8 : n ≤ 8) (hke : k ≤ e) (hen : e + 1 < n) (hq : zRun qX9_drops 13 [vr 130, vi (k : Int), vi ((e + 1 : Nat) : Int), vi 4] [] G (zset (zset H 134 (shA (H 134) k n (13 + 4 * ((e + 1 : Nat) : Int)))) 139 (shN (H 139) k ((e + 1 : Nat) : Int))) Q') : zRun qX9_drops 40 [vr 130, vi (k : Int), vi (e : Int), vi 0] [] G (zset (zset H 134 (shA (H 134) k n (13 + 4 * (e : Int)))) 139 (shN (H 139) k ((e + 1 : Nat) : Int))) Q' := by
  have inner : ∀ (m w : Nat), w + m = 4 → zRun qX9_drops 40 [vr 130, vi (k : Int), vi (e : Int), vi (w : Int)] [] G (zset (zset H 134 (shA (H 134) k n (13 + 4 * (e : Int) + w))) 139 (shN (H 139) k ((e + 1 : Nat) : Int))) Q' := by
    intro m
    induction m with
    | zero =>
      intro w hw
      have : w = 4 := by omega
      subst this
      rw [rX9_drops_40]
      simp only [rX9_drops_41, rX9_drops_42, rX9_drops_79, rX9_drops_82, true_and, and_true, true_or, or_true, false_or, or_false, Option.toList_some, Option.toList_none, List.nil_append, List.cons_append, zn1, zwk (show e < 2000000000 by omega)]
      rw [if_pos (by omega), show 13 + 4 * (e : Int) + ((4 : Nat) : Int) = 13 + 4 * ((e + 1 : Nat) : Int) by omega]
      exact hq
    | succ m ih2 =>
      intro w hw
      have w4 : w < 4 := by omega
      have i1 : zw (13 + 4 * (e : Int) + (w : Int)) = 13 + 4 * (e : Int) + (w : Int) := zw_id (by omega) (by omega)
      have i2 : zw (13 + 4 * (e : Int) + 4) = 13 + 4 * (e : Int) + 4 := zw_id (by omega) (by omega)
      have i3 : zw (13 + 4 * (e : Int) + 4 + (w : Int)) = 13 + 4 * (e : Int) + 4 + (w : Int) := zw_id (by omega) (by omega)
      have d5 : shA (H 134) k n (13 + 4 * (e : Int) + (w : Int)) (13 + 4 * (e : Int) + 4 + (w : Int)) = H 134 (13 + 4 * (e : Int) + 4 + (w : Int)) := by
        unfold shA
        rw [if_neg (by omega), if_neg (by omega)]
      have ef : zfu (shA (H 134) k n (13 + 4 * (e : Int) + (w : Int))) (13 + 4 * (e : Int) + (w : Int)) (H 134 (13 + 4 * (e : Int) + 4 + (w : Int))) = shA (H 134) k n (13 + 4 * (e : Int) + ((w + 1 : Nat) : Int)) := by
        refine zfu_eq ?_ (fun j hj => ?_)
        · unfold shA
          rw [if_pos (by omega), show 13 + 4 * (e : Int) + (w : Int) + 4 = 13 + 4 * (e : Int) + 4 + (w : Int) by omega]
        · unfold shA
          by_cases c : 13 + 4 * (k : Int) ≤ j ∧ j < 13 + 4 * (e : Int) + (w : Int)
          · rw [if_pos c, if_pos (by omega)]
          · rw [if_neg c, if_neg (by omega)]
      have b1 : 0 ≤ 13 + 4 * (e : Int) + (w : Int) ∧ 13 + 4 * (e : Int) + (w : Int) < 46 := by omega
      have b2 : 0 ≤ 13 + 4 * (e : Int) + 4 + (w : Int) ∧ 13 + 4 * (e : Int) + 4 + (w : Int) < 46 := by omega
      rw [rX9_drops_40]
      simp only [rX9_drops_41, rX9_drops_42, rX9_drops_45, rX9_drops_46, rX9_drops_49, rX9_drops_51, rX9_drops_52, rX9_drops_53, rX9_drops_54, rX9_drops_55, rX9_drops_56, rX9_drops_57, rX9_drops_58, rX9_drops_61, rX9_drops_63, rX9_drops_64, rX9_drops_65, rX9_drops_66, rX9_drops_67, rX9_drops_68, rX9_drops_69, rX9_drops_70, rX9_drops_71, rX9_drops_72, rX9_drops_73, rX9_drops_76, true_and, and_true, true_or, or_true, false_or, or_false, Option.toList_some, Option.toList_none, List.nil_append, List.cons_append, zn1, kM hG, zup_def, zset_at, show ¬ (134 = 139) by omega, if_true, if_false, ix4 (show e ≤ 8 by omega), i1, i2, i3, d5, zset_swap (show (134 : Nat) ≠ 139 by omega), zwk (show w < 2000000000 by omega), b1, b2, ef]
      rw [if_neg (by omega)]
      exact ih2 (w + 1) (by omega)
  have := inner 4 0 rfl
  rw [show 13 + 4 * (e : Int) + ((0 : Nat) : Int) = 13 + 4 * (e : Int) by omega] at this
  exact this
theorem kX9_drops {k n : Nat} {G : zG} {H : zH} {Q : Option zV → zG → zH → Prop} (hG : zOK G) (hn : H 134 12 = (n : Int)) (h8 : n ≤ 8) (hk : k < n) : zCall qX9_drops [vr 130, vi (k : Int)] G H Q ↔ Q none G (zset (zset H 134 (dpA (H 134) k n 4)) 139 (shN (H 139) k ((n : Int) - 1))) := by
  refine zCall_det (fun Q' hq => ?_)
  rw [rX9_drops_in]
  have e1 := zw_id (z := (n : Int) - 1) (by omega) (by omega)
  simp only [rX9_drops_0, rX9_drops_1, rX9_drops_4, rX9_drops_6, rX9_drops_7, rX9_drops_8, rX9_drops_9, rX9_drops_10, rX9_drops_11, rX9_drops_12, rX9_drops_14, rX9_drops_15, rX9_drops_18, rX9_drops_20, rX9_drops_21, rX9_drops_24, rX9_drops_25, rX9_drops_28, rX9_drops_29, rX9_drops_30, rX9_drops_33, rX9_drops_34, rX9_drops_35, rX9_drops_36, rX9_drops_37, rX9_drops_38, rX9_drops_39, rX9_drops_41, rX9_drops_42, rX9_drops_45, rX9_drops_46, rX9_drops_49, rX9_drops_51, rX9_drops_52, rX9_drops_53, rX9_drops_54, rX9_drops_55, rX9_drops_56, rX9_drops_57, rX9_drops_58, rX9_drops_61, rX9_drops_63, rX9_drops_64, rX9_drops_65, rX9_drops_66, rX9_drops_67, rX9_drops_68, rX9_drops_69, rX9_drops_70, rX9_drops_71, rX9_drops_72, rX9_drops_73, rX9_drops_76, rX9_drops_79, rX9_drops_82, rX9_drops_85, rX9_drops_86, rX9_drops_88, rX9_drops_89, rX9_drops_92, rX9_drops_93, rX9_drops_96, rX9_drops_98, rX9_drops_99, rX9_drops_100, rX9_drops_103, rX9_drops_105, rX9_drops_106, rX9_drops_107, rX9_drops_108, rX9_drops_109, rX9_drops_110, rX9_drops_111, rX9_drops_112, rX9_drops_115, rX9_drops_118, true_and, and_true, true_or, or_true, false_or, or_false, Option.toList_some, Option.toList_none, List.nil_append, List.cons_append, zn1, kM hG, hn, e1, zup_def]
  have c46 : (0 : Int) ≤ 12 ∧ (12 : Int) < 46 := by omega
  refine ⟨c46, ?_⟩
  -- the last loop
  have last : ∀ (m w : Nat), w + m = 4 → ∀ (v3 : zV), zRun qX9_drops 87 [vr 130, vi (k : Int), vi (w : Int), v3] [] G (zset (zset H 134 (dpA (H 134) k n w)) 139 (shN (H 139) k ((n : Int) - 1))) Q' := by
    intro m
    induction m with
    | zero =>
      intro w hw v3
      have : w = 4 := by omega
      subst this
      rw [rX9_drops_87]
      simp only [rX9_drops_88, rX9_drops_89, rX9_drops_118]
      rw [if_pos (by omega)]
      exact hq
    | succ m ih =>
      intro w hw v3
      have d12 : dpA (H 134) k n w 12 = (n : Int) - 1 := by
        unfold dpA
        rw [if_neg (by omega), if_neg (by omega), if_pos rfl]
      have e4 : zw (4 * ((n : Int) - 1)) = 4 * ((n : Int) - 1) := zw_id (by omega) (by omega)
      have e13 : zw (13 + 4 * ((n : Int) - 1)) = 13 + 4 * ((n : Int) - 1) := zw_id (by omega) (by omega)
      have e14 : zw (13 + 4 * ((n : Int) - 1) + (w : Int)) = 13 + 4 * ((n : Int) - 1) + (w : Int) := zw_id (by omega) (by omega)
      rw [rX9_drops_87]
      simp only [rX9_drops_88, rX9_drops_89, rX9_drops_92, rX9_drops_93, rX9_drops_96, rX9_drops_98, rX9_drops_99, rX9_drops_100, rX9_drops_103, rX9_drops_105, rX9_drops_106, rX9_drops_107, rX9_drops_108, rX9_drops_109, rX9_drops_110, rX9_drops_111, rX9_drops_112, rX9_drops_115, true_and, and_true, true_or, or_true, false_or, or_false, Option.toList_some, Option.toList_none, List.nil_append, List.cons_append, zn1, kM hG, zup_def, zset_at, show ¬ (134 = 139) by omega, if_true, if_false, d12, e4, e13, e14, zset_swap (show (134 : Nat) ≠ 139 by omega), zwk (show w < 2000000000 by omega)]
      rw [if_neg (by omega)]
      refine ⟨by omega, by omega, ?_⟩
      have ef : zfu (dpA (H 134) k n w) (13 + 4 * ((n : Int) - 1) + (w : Int)) 0 = dpA (H 134) k n ((w + 1 : Nat) : Int) := by
        refine zfu_eq ?_ (fun j hj => ?_)
        · unfold dpA
          rw [if_pos (by omega)]
        · unfold dpA
          by_cases c : 13 + 4 * (n : Int) - 4 ≤ j ∧ j < 13 + 4 * (n : Int) - 4 + (w : Int)
          · rw [if_pos c, if_pos (by omega)]
          · rw [if_neg c, if_neg (by omega)]
      rw [ef]
      exact ih (w + 1) (by omega) v3
  have outer : ∀ (m e : Nat), e + m + 1 = n → k ≤ e → ∀ (v3 : zV), zRun qX9_drops 13 [vr 130, vi (k : Int), vi (e : Int), v3] [] G (zset (zset H 134 (shA (H 134) k n (13 + 4 * (e : Int)))) 139 (shN (H 139) k e)) Q' := by
    intro m
    induction m with
    | zero =>
      intro e he hke v3
      have d12 : shA (H 134) k n (13 + 4 * (e : Int)) 12 = (n : Int) - 1 := by
        unfold shA
        rw [if_neg (by omega), if_pos rfl]
      rw [rX9_drops_13]
      simp only [rX9_drops_14, rX9_drops_15, rX9_drops_18, rX9_drops_20, rX9_drops_21, rX9_drops_85, rX9_drops_86, true_and, and_true, true_or, or_true, false_or, or_false, Option.toList_some, Option.toList_none, List.nil_append, List.cons_append, zn1, kM hG, zset_at, show ¬ (134 = 139) by omega, if_true, if_false, d12]
      rw [if_pos (by omega)]
      refine ⟨by omega, ?_⟩
      have ea : shA (H 134) k n (13 + 4 * (e : Int)) = dpA (H 134) k n ((0 : Nat) : Int) := by
        funext i
        unfold shA dpA
        rw [if_neg (show ¬ (13 + 4 * (n : Int) - 4 ≤ i ∧ i < 13 + 4 * (n : Int) - 4 + ((0 : Nat) : Int)) by omega), show 13 + 4 * (e : Int) = 13 + 4 * (n : Int) - 4 by omega]
      rw [ea, show (e : Int) = (n : Int) - 1 by omega]
      exact last 4 0 rfl v3
    | succ m ih =>
      intro e he hke v3
      have d12 : shA (H 134) k n (13 + 4 * (e : Int)) 12 = (n : Int) - 1 := by
        unfold shA
        rw [if_neg (by omega), if_pos rfl]
      have inner := fun (v : Unit) => dp_inner (v := v) (Q' := Q') (H := H) hG h8 hke (show e + 1 < n by omega) (ih (e + 1) (by omega) (by omega) (vi 4))
      have n1 : shN (H 139) k e ((e : Int) + 1) = H 139 ((e : Int) + 1) := by
        unfold shN
        rw [if_neg (by omega)]
      have e9 : zw ((e : Int) + 1) = (e : Int) + 1 := zw_id (by omega) (by omega)
      rw [rX9_drops_13]
      simp only [rX9_drops_14, rX9_drops_15, rX9_drops_18, rX9_drops_20, rX9_drops_21, rX9_drops_24, rX9_drops_25, rX9_drops_28, rX9_drops_29, rX9_drops_30, rX9_drops_33, rX9_drops_34, rX9_drops_35, rX9_drops_36, rX9_drops_37, rX9_drops_38, rX9_drops_39, true_and, and_true, true_or, or_true, false_or, or_false, Option.toList_some, Option.toList_none, List.nil_append, List.cons_append, zn1, kM hG, zup_def, zset_at, zset_set, show ¬ (134 = 139) by omega, if_true, if_false, d12, e9, n1]
      rw [if_neg (by omega)]
      refine ⟨by omega, by omega, by omega, ?_⟩
      have ef : zfu (shN (H 139) k e) e (H 139 ((e : Int) + 1)) = shN (H 139) k ((e + 1 : Nat) : Int) := by
        refine zfu_eq ?_ (fun j hj => ?_)
        · unfold shN
          rw [if_pos (by omega)]
        · unfold shN
          by_cases c : (k : Int) ≤ j ∧ j < (e : Int)
          · rw [if_pos c, if_pos (by omega)]
          · rw [if_neg c, if_neg (by omega)]
      rw [ef]
      exact inner ()
  have := outer (n - 1 - k) k (by omega) (Nat.le_refl _) vu
  have ea : shA (H 134) k n (13 + 4 * (k : Int)) = zfu (H 134) 12 ((n : Int) - 1) := by
    symm
    refine zfu_eq ?_ (fun j hj => ?_)
    · unfold shA
      rw [if_neg (by omega), if_pos rfl]
    · unfold shA
      rw [if_neg (by omega), if_neg hj]
  have en : shN (H 139) k k = H 139 := by
    funext j
    unfold shN
    rw [if_neg (by omega)]
  rw [ea, en] at this
  have ez : zset (zset H 134 (zfu (H 134) 12 ((n : Int) - 1))) 139 (H 139) = zset H 134 (zfu (H 134) 12 ((n : Int) - 1)) := by
    refine zset_id ?_
    rw [zset_ne (by omega)]
  rw [ez] at this
  exact ⟨c46, this⟩
