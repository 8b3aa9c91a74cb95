/-! rings: the shortest, and it is cleared -/
theorem kshort {P : Nat} {o : zMx} {G : zG} {H : zH} {Q' : Option zV → zG → zH → Prop} (hG : zOK G) (hP : 1 ≤ P) (hP6 : P ≤ 6) (hM : MC H o) (hp : H 118 2 = (P : Int))
    (h0 : ∀ a : Int → Int, noR o P (P + 1) → Q' (some (vi 0)) G (zset H 126 a))
    (h1 : ∀ (a : Int → Int) (k r : Nat), 2 ≤ k → k ≤ P → noR o P k → FR o P k r → (∀ j : Nat, j < k → a (j : Int) = cf P k r j) → Q' (some (vi (k : Int))) G (zset H 126 a)) : zCall qX2_findShortest [vr 118] G H Q' := by
  have k0 : (0 : Int) ≤ 0 ∧ (0 : Int) < 6 := by decide
  have inner : ∀ (k : Nat) (l : zV), 2 ≤ k → k ≤ P → noR o P k → (∀ (a : Int → Int) (l : zV), noR o P (k + 1) → zRun qX2_findShortest 2 [vr 118, vi ((k + 1 : Nat) : Int), l] [] G (zset H 126 a) Q') → ∀ (m x : Nat) (a : Int → Int), x + m = P → (∀ r, r < x * P ^ (k - 1) → ¬ tok o P k r) → zRun qX2_findShortest 12 [vr 118, vi (k : Int), vi (x : Int)] [] G (zset H 126 a) Q' := by
    intro k l k2 kP hno hout m
    have hB : 0 < P ^ (k - 1) := Nat.pow_pos hP
    have epow : P * P ^ (k - 1) = P ^ k := by
      obtain ⟨j, rfl⟩ : ∃ j, k = j + 1 := ⟨k - 1, by omega⟩
      rw [Nat.add_sub_cancel, Nat.pow_succ, Nat.mul_comm]
    induction m with
    | zero =>
      intro x a hx hn
      have hc : (P : Int) ≤ (x : Int) := by omega
      have go := hout a (vi (x : Int)) (fun k' a b r hr => by
        by_cases e : k' = k
        · subst e
          refine hn r ?_
          rw [show x = P by omega, epow]
          exact hr
        · exact hno k' a (by omega) r hr)
      rw [rX2_findShortest_12]
      simp only [rX2_findShortest_13, rX2_findShortest_14, rX2_findShortest_17, true_and, and_true, true_or, or_true, false_or, or_false, Option.toList_some, Option.toList_none, List.nil_append, List.cons_append, zn1, sO_118 hG, zset_ne (show 118 ≠ 126 by decide), hp]
      rw [if_pos hc]
      simp only [rX2_findShortest_44, rX2_findShortest_47, true_and, and_true, true_or, or_true, false_or, or_false, Option.toList_some, Option.toList_none, List.nil_append, List.cons_append, zn1, zwk (show k < 2000000000 by omega)]
      exact go
    | succ m ihm =>
      intro x a hx hn
      have hc : ¬ ((P : Int) ≤ (x : Int)) := by omega
      have key : ∀ {r : Nat}, x * P ^ (k - 1) ≤ r → r < (x + 1) * P ^ (k - 1) → (r < P ^ k ∧ (tok o P k r ↔ rokp o P (k - 1) 1 (zfu a 0 (x : Int)) (r % P ^ (k - 1)))) := by
        intro r r0 r1
        have hr : r < P ^ k := by
          have a1 : (x + 1) * P ^ (k - 1) ≤ P * P ^ (k - 1) := Nat.mul_le_mul_right _ (by omega)
          rw [epow] at a1
          omega
        refine ⟨hr, tok_iff hP k2 hr ?_⟩
        rw [blk r0 r1, zfu_at, if_pos rfl]
      rw [rX2_findShortest_12]
      simp only [rX2_findShortest_13, rX2_findShortest_14, rX2_findShortest_17, true_and, and_true, true_or, or_true, false_or, or_false, Option.toList_some, Option.toList_none, List.nil_append, List.cons_append, zn1, sO_118 hG, zset_ne (show 118 ≠ 126 by decide), hp]
      rw [if_neg hc]
      simp only [rX2_findShortest_20, rX2_findShortest_21, rX2_findShortest_24, rX2_findShortest_25, rX2_findShortest_26, rX2_findShortest_27, rX2_findShortest_28, rX2_findShortest_29, rX2_findShortest_30, true_and, and_true, true_or, or_true, false_or, or_false, Option.toList_some, Option.toList_none, List.nil_append, List.cons_append, zn1, sO_118 hG, sO_126 hG, k0, Int.le_refl, zup_def, zset_eq, zset_set]
      have go := kcloses (P := P) (o := o) hG hP hP6 (k - 1) 1 10 (zset H 126 (zfu a 0 (x : Int))) (fun r G H => zRun qX2_findShortest 33 [vr 118, vi (k : Int), vi (x : Int)] (r.toList ++ []) G H Q') (by omega) (Nat.le_refl _) (by omega) (Nat.le_refl _) (MC_126 hM) (by rw [zset_ne (by decide)]; exact hp) (fun q hq => by
        have : q = 0 := by omega
        subst this
        rw [zset_eq, zfu_at, if_pos (show ((0 : Nat) : Int) = 0 from rfl)]
        omega) (fun b hb hnone => ?_) (fun b r hr1 hok hleast hb hdig => ?_)
      · rw [show 1 + (k - 1) = k by omega] at go
        exact go
      · rw [zset_eq] at hb hnone
        have go := ihm (x + 1) b (by omega) (fun r hr z => by
          rcases Nat.lt_or_ge r (x * P ^ (k - 1)) with y | y
          · exact hn r y z
          · exact hnone _ (Nat.mod_lt _ hB) ((key y hr).2.mp z))
        simp only [rX2_findShortest_33, rX2_findShortest_38, rX2_findShortest_41, true_and, and_true, true_or, or_true, false_or, or_false, Option.toList_some, Option.toList_none, List.nil_append, List.cons_append, zn1, if_true, zset_set, zwk (show x < 2000000000 by omega)]
        exact go
      · rw [zset_eq] at hb hok hleast
        have r0 : x * P ^ (k - 1) ≤ x * P ^ (k - 1) + r := by omega
        have r1 : x * P ^ (k - 1) + r < (x + 1) * P ^ (k - 1) := by
          rw [Nat.add_mul, Nat.one_mul]
          omega
        have e1 : (x * P ^ (k - 1) + r) / P ^ (k - 1) = x := blk_div hr1
        have e2 : (x * P ^ (k - 1) + r) % P ^ (k - 1) = r := blk_mod hr1
        have kk := key r0 r1
        rw [e2] at kk
        have go := h1 b k (x * P ^ (k - 1) + r) k2 kP hno ⟨kk.1, kk.2.mpr hok, fun q hq z => by
          rcases Nat.lt_or_ge q (x * P ^ (k - 1)) with y | y
          · exact hn q y z
          · have e3 : q % P ^ (k - 1) = q - x * P ^ (k - 1) := by
              have := blk_mod (B := P ^ (k - 1)) (x := x) (r := q - x * P ^ (k - 1)) (by omega)
              rw [show x * P ^ (k - 1) + (q - x * P ^ (k - 1)) = q by omega] at this
              exact this
            have h2 := (key y (by omega)).2.mp z
            rw [e3] at h2
            exact hleast _ (by omega) h2⟩ (fun j hj => by
          unfold cf
          by_cases e : j = 0
          · subst e
            rw [hb 0 (by omega), Nat.sub_zero, Fg_top (by rw [show k - 1 + 1 = k by omega]; exact kk.1), e1, zfu_at, if_pos (show ((0 : Nat) : Int) = 0 from rfl)]
          · have := hdig (j - 1) (by omega)
            rw [show 1 + (j - 1) = j by omega] at this
            rw [this, ← Fg_mod (r := x * P ^ (k - 1) + r) (n := k - 1) (by omega), e2, show k - 1 - j = k - 1 - 1 - (j - 1) by omega])
        simp only [rX2_findShortest_33, true_and, and_true, true_or, or_true, false_or, or_false, Option.toList_some, Option.toList_none, List.nil_append, List.cons_append, zn1, Int.reduceEq, if_false, rX2_findShortest_36, rX2_findShortest_37, zset_set]
        exact go
  have outer : ∀ (m k : Nat) (a : Int → Int) (l : zV), 2 ≤ k → k + m = P + 1 ∨ (m = 0 ∧ P < k) → noR o P k → zRun qX2_findShortest 2 [vr 118, vi (k : Int), l] [] G (zset H 126 a) Q' := by
    intro m
    induction m with
    | zero =>
      intro k a l k2 hk hno
      have hc : (P : Int) < (k : Int) := by omega
      have go := h0 a (fun k' a b r hr => hno k' a (by omega) r hr)
      rw [rX2_findShortest_2]
      simp only [rX2_findShortest_3, rX2_findShortest_4, rX2_findShortest_7, true_and, and_true, true_or, or_true, false_or, or_false, Option.toList_some, Option.toList_none, List.nil_append, List.cons_append, zn1, sO_118 hG, zset_ne (show 118 ≠ 126 by decide), hp]
      rw [if_pos hc]
      simp only [rX2_findShortest_50, rX2_findShortest_51, true_and, and_true, true_or, or_true, false_or, or_false, Option.toList_some, Option.toList_none, List.nil_append, List.cons_append, zn1]
      exact go
    | succ m ihm =>
      intro k a l k2 hk hno
      have hc : ¬ ((P : Int) < (k : Int)) := by omega
      have go := inner k l k2 (by omega) hno (fun b l' hn' => ihm (k + 1) b l' (by omega) (by omega) hn') P 0 a (by omega) (fun r hr => by omega)
      rw [rX2_findShortest_2]
      simp only [rX2_findShortest_3, rX2_findShortest_4, rX2_findShortest_7, true_and, and_true, true_or, or_true, false_or, or_false, Option.toList_some, Option.toList_none, List.nil_append, List.cons_append, zn1, sO_118 hG, zset_ne (show 118 ≠ 126 by decide), hp]
      rw [if_neg hc]
      simp only [rX2_findShortest_10, rX2_findShortest_11, true_and, and_true, true_or, or_true, false_or, or_false, Option.toList_some, Option.toList_none, List.nil_append, List.cons_append, zn1]
      exact go
  have go := outer (P + 1 - 2) 2 (H 126) vu (by omega) (by omega) (fun k' a b r hr => by omega)
  rw [zset_self] at go
  rw [rX2_findShortest_in]
  simp only [rX2_findShortest_0, rX2_findShortest_1, true_and, and_true, true_or, or_true, false_or, or_false, Option.toList_some, Option.toList_none, List.nil_append, List.cons_append, zn1]
  exact go
theorem MC_sb {H : zH} {o : zMx} {i j v : Int} (h : MC H o) (i0 : 0 ≤ i) (i1 : i < 6) (j0 : 0 ≤ j) (j1 : j < 6) : MC (zset H (120 + i.toNat) (zfu (H (120 + i.toNat)) j (o i j - v))) (sbm o i j v) := by
  intro x y x0 x1 y0 y1
  unfold sbm
  rw [zset_at]
  by_cases e : x = i
  · subst e
    rw [if_pos rfl, zfu_at]
    by_cases e' : y = j
    · rw [if_pos e', if_pos ⟨rfl, e'⟩, e']
    · rw [if_neg e', if_neg (fun z => e' z.2)]
      exact h x y x0 x1 y0 y1
  · rw [if_neg (by omega), if_neg (fun z => e z.1)]
    exact h x y x0 x1 y0 y1
theorem nx_rem {k t : Nat} (hk : 2 ≤ k) (hk6 : k ≤ 6) (ht : t < k) : zrem ((t + 1 : Nat) : Int) (k : Int) = (nx k t : Int) := by
  rw [zrem_pos (by omega) (by omega) (by omega) (by omega)]
  unfold nx
  split
  · rename_i e
    rw [e]
    have := Int.emod_self (a := (k : Int))
    omega
  · exact Int.emod_eq_of_lt (by omega) (by omega)
theorem kclear0 {G : zG} {H : zH} {Q : Option zV → zG → zH → Prop} : zCall qX2_clear [vr 118, vi 0] G H Q ↔ Q (some (vi 0)) G H := by
  rw [rX2_clear_in]
  simp only [rX2_clear_0, rX2_clear_1, rX2_clear_2, rX2_clear_4, kX8_within, true_and, and_true, true_or, or_true, false_or, or_false, Option.toList_some, Option.toList_none, List.nil_append, List.cons_append, zn1, rX2_clear_7, bi_ne0]
  rw [if_neg (by omega)]
  simp only [rX2_clear_10, rX2_clear_11, true_and, and_true, true_or, or_true, false_or, or_false, Option.toList_some, Option.toList_none, List.nil_append, List.cons_append, zn1]
theorem kclear {P k r : Nat} {o : zMx} {m : Int} {G : zG} {H : zH} {Q' : Option zV → zG → zH → Prop} (hG : zOK G) (hP : 1 ≤ P) (hP6 : P ≤ 6) (k2 : 2 ≤ k) (kP : k ≤ P) (hM : MC H o) (hu : Bup o) (hd : Bdn m o) (hm : m ≤ 1000000) (ht : tok o P k r) (hc : ∀ j : Nat, j < k → H 126 (j : Int) = cf P k r j)
    (hq : ∀ H' : zH, (∀ b, (b < 120 ∨ 125 < b) → H' b = H b) → MC H' (clr o P k r) → Q' (some (vi (lst o P k r * (k : Int)))) G H') : zCall qX2_clear [vr 118, vi (k : Int)] G H Q' := by
  have hl := lst_rng hP hP6 k2 hu ht
  have w : (2 : Int) ≤ (k : Int) ∧ (k : Int) ≤ 6 := by omega
  have cr : ∀ j, 0 ≤ cf P k r j ∧ cf P k r j < 6 := fun j => by
    have := cf_rng (P := P) (k := k) (r := r) (j := j) hP
    omega
  have kne : (k : Int) ≠ 0 := by omega
  have elk : zw (lst o P k r * (k : Int)) = lst o P k r * (k : Int) := by
    have h1 : lst o P k r * (k : Int) ≤ 1600 * 6 := Int.mul_le_mul (by omega) (by omega) (by omega) (by omega)
    have h2 : 0 ≤ lst o P k r * (k : Int) := Int.mul_nonneg (by omega) (by omega)
    exact zw_id (by omega) (by omega)
  have loop2 : ∀ (n t : Nat) (H' : zH), t + n = k → (∀ b, (b < 120 ∨ 125 < b) → H' b = H b) → MC H' (cut o (cf P k r) k (lst o P k r) t) → zRun qX2_clear 57 [vr 118, vi (k : Int), vi (lst o P k r), vi (t : Int)] [] G H' Q' := by
    intro n
    induction n with
    | zero =>
      intro t H' htn hf hM'
      have e : t = k := by omega
      subst e
      have := hq H' hf hM'
      rw [rX2_clear_57]
      simp only [rX2_clear_58, rX2_clear_59]
      rw [if_pos (Int.le_refl _)]
      simp only [rX2_clear_94, rX2_clear_95, rX2_clear_96, rX2_clear_97, elk]
      exact this
    | succ n ih =>
      intro t H' htn hf hM'
      have kt : (0 : Int) ≤ (t : Int) ∧ (t : Int) < 6 := by omega
      have kn : (0 : Int) ≤ (nx k t : Int) ∧ (nx k t : Int) < 6 := by
        have := nx_lt (k := k) (j := t) (by omega)
        omega
      have e1 : H' 126 (t : Int) = cf P k r t := by rw [hf 126 (by omega), hc t (by omega)]
      have e2 : H' 126 (nx k t : Int) = cf P k r (nx k t) := by rw [hf 126 (by omega), hc _ (nx_lt (by omega))]
      have a1 := cr t
      have a2 := cr (nx k t)
      have e3 := hM' _ _ a1.1 a1.2 a2.1 a2.2
      have b1 := cut_le (o := o) (c := cf P k r) (k := k) (v := lst o P k r) (by omega) t (cf P k r t) (cf P k r (nx k t))
      have b2 := cut_ge (o := o) (c := cf P k r) (k := k) (v := lst o P k r) (by omega) (by omega) t (cf P k r t) (cf P k r (nx k t))
      have b3 := hu _ _ a1.1 a1.2 a2.1 a2.2
      have b4 := hd _ _ a1.1 a1.2 a2.1 a2.2
      have go := ih (t + 1) (zset H' (120 + (cf P k r t).toNat) (zfu (H' (120 + (cf P k r t).toNat)) (cf P k r (nx k t)) (cut o (cf P k r) k (lst o P k r) t (cf P k r t) (cf P k r (nx k t)) - lst o P k r))) (by omega) (fun b hb => by
        rw [zset_ne (by omega)]
        exact hf b hb) (MC_sb hM' a1.1 a1.2 a2.1 a2.2)
      have c1 : ¬ ((k : Int) ≤ (t : Int)) := by omega
      have e4 : zw (cut o (cf P k r) k (lst o P k r) t (cf P k r t) (cf P k r (nx k t)) - lst o P k r) = cut o (cf P k r) k (lst o P k r) t (cf P k r t) (cf P k r (nx k t)) - lst o P k r := zw_id (by omega) (by omega)
      rw [rX2_clear_57]
      simp only [rX2_clear_58, rX2_clear_59]
      rw [if_neg c1]
      simp only [rX2_clear_0, rX2_clear_1, rX2_clear_2, rX2_clear_4, rX2_clear_7, rX2_clear_10, rX2_clear_11, rX2_clear_12, rX2_clear_14, rX2_clear_15, rX2_clear_16, rX2_clear_17, rX2_clear_18, rX2_clear_19, rX2_clear_22, rX2_clear_23, rX2_clear_24, rX2_clear_27, rX2_clear_28, rX2_clear_31, rX2_clear_32, rX2_clear_33, rX2_clear_34, rX2_clear_35, rX2_clear_38, rX2_clear_39, rX2_clear_40, rX2_clear_41, rX2_clear_42, rX2_clear_43, rX2_clear_44, rX2_clear_45, rX2_clear_48, rX2_clear_49, rX2_clear_52, rX2_clear_55, rX2_clear_56, rX2_clear_62, rX2_clear_63, rX2_clear_66, rX2_clear_67, rX2_clear_70, rX2_clear_71, rX2_clear_72, rX2_clear_73, rX2_clear_74, rX2_clear_77, rX2_clear_78, rX2_clear_79, rX2_clear_80, rX2_clear_81, rX2_clear_82, rX2_clear_83, rX2_clear_84, rX2_clear_85, rX2_clear_86, rX2_clear_87, rX2_clear_88, rX2_clear_91, rX2_clear_94, rX2_clear_95, rX2_clear_96, rX2_clear_97, true_and, and_true, true_or, or_true, false_or, or_false, Option.toList_some, Option.toList_none, List.nil_append, List.cons_append, zn1, sO_118 hG, sO_119 hG, sO_126 hG, nx_rem k2 (show k ≤ 6 by omega) (show t < k by omega), kt, kn, e1, e2, kRow hG a1.1 a1.2, a1, a2, e3, e4, zup_def, zwk (show t < 2000000000 by omega), kne, ne_eq, not_false_eq_true]
      exact go
  have loop1 : ∀ (n t : Nat), t + n = k → zRun qX2_clear 17 [vr 118, vi (k : Int), vi (mnE o (cf P k r) k t), vi (t : Int)] [] G H Q' := by
    intro n
    induction n with
    | zero =>
      intro t htn
      have e : t = k := by omega
      have go := loop2 k 0 H (by omega) (fun _ _ => rfl) hM
      have c1 : (k : Int) ≤ (t : Int) := by omega
      rw [rX2_clear_17]
      simp only [rX2_clear_18, rX2_clear_19]
      rw [if_pos c1]
      simp only [rX2_clear_55, rX2_clear_56, true_and, and_true, true_or, or_true, false_or, or_false, Option.toList_some, Option.toList_none, List.nil_append, List.cons_append, zn1, e]
      exact go
    | succ n ih =>
      intro t htn
      have kt : (0 : Int) ≤ (t : Int) ∧ (t : Int) < 6 := by omega
      have kn : (0 : Int) ≤ (nx k t : Int) ∧ (nx k t : Int) < 6 := by
        have := nx_lt (k := k) (j := t) (by omega)
        omega
      have e1 := hc t (by omega)
      have e2 := hc (nx k t) (nx_lt (by omega))
      have a1 := cr t
      have a2 := cr (nx k t)
      have e3 := hM _ _ a1.1 a1.2 a2.1 a2.2
      have go := ih (t + 1) (by omega)
      have c1 : ¬ ((k : Int) ≤ (t : Int)) := by omega
      rw [rX2_clear_17]
      simp only [rX2_clear_18, rX2_clear_19]
      rw [if_neg c1]
      simp only [rX2_clear_0, rX2_clear_1, rX2_clear_2, rX2_clear_4, rX2_clear_7, rX2_clear_10, rX2_clear_11, rX2_clear_12, rX2_clear_14, rX2_clear_15, rX2_clear_16, rX2_clear_22, rX2_clear_23, rX2_clear_24, rX2_clear_27, rX2_clear_28, rX2_clear_31, rX2_clear_32, rX2_clear_33, rX2_clear_34, rX2_clear_35, rX2_clear_38, rX2_clear_39, rX2_clear_40, rX2_clear_41, rX2_clear_42, rX2_clear_43, rX2_clear_44, rX2_clear_45, rX2_clear_48, rX2_clear_49, rX2_clear_52, rX2_clear_55, rX2_clear_56, rX2_clear_57, rX2_clear_58, rX2_clear_59, rX2_clear_62, rX2_clear_63, rX2_clear_66, rX2_clear_67, rX2_clear_70, rX2_clear_71, rX2_clear_72, rX2_clear_73, rX2_clear_74, rX2_clear_77, rX2_clear_78, rX2_clear_79, rX2_clear_80, rX2_clear_81, rX2_clear_82, rX2_clear_83, rX2_clear_84, rX2_clear_85, rX2_clear_86, rX2_clear_87, rX2_clear_88, rX2_clear_91, rX2_clear_94, rX2_clear_95, rX2_clear_96, rX2_clear_97, true_and, and_true, true_or, or_true, false_or, or_false, Option.toList_some, Option.toList_none, List.nil_append, List.cons_append, zn1, sO_118 hG, sO_119 hG, sO_126 hG, nx_rem k2 (show k ≤ 6 by omega) (show t < k by omega), kt, kn, e1, e2, kRow hG a1.1 a1.2, a1, a2, e3, zwk (show t < 2000000000 by omega), kne, ne_eq, not_false_eq_true]
      exact go
  have go := loop1 k 0 (by omega)
  rw [rX2_clear_in]
  simp only [rX2_clear_0, rX2_clear_1, rX2_clear_2, rX2_clear_4, kX8_within, true_and, and_true, true_or, or_true, false_or, or_false, Option.toList_some, Option.toList_none, List.nil_append, List.cons_append, zn1, rX2_clear_7, bi_ne0, w, and_self, if_true, rX2_clear_12, rX2_clear_14, rX2_clear_15, rX2_clear_16]
  exact go
