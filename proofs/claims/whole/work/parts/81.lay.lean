/-! fault, lay -/
theorem sim_fault : simOp qX8_fault qX9_fault [] := by
  intro G H h
  have hS := h
  obtain ⟨hG, ht, ⟨⟨x0, x1⟩, x2, x3⟩, hbk, hd, hk, ho⟩ := h
  obtain ⟨len, hlen⟩ := nat_of x0
  have et : ∀ H1 : zH, zset H1 130 (zfu (H1 130) 0 0) = th0 H1 := fun _ => rfl
  rw [rX8_fault_in]
  simp only [rX8_fault_0, rX8_fault_1, rX8_fault_4, rX8_fault_5, rX8_fault_8, rX8_fault_11, true_and, and_true, true_or, or_true, false_or, or_false, Option.toList_some, Option.toList_none, List.nil_append, List.cons_append, zn1, sO_0 hG, kTm5 hG]
  refine kX4_readFrom hG hlen (by omega) (fun k k0 k1 => (x3 k k0 (by omega)).2) (fun H1 f1 _ => ?_)
  have hS1 : SR G H1 := SR_C hS ⟨fun b hb => f1.1 b (by omega) (by omega) (by omega), f1.2, fun b hb => f1.1 b (by omega) (by omega) (by omega)⟩
  simp only [rX8_fault_0, rX8_fault_1, rX8_fault_4, rX8_fault_5, rX8_fault_8, rX8_fault_11, true_and, and_true, true_or, or_true, false_or, or_false, Option.toList_some, Option.toList_none, List.nil_append, List.cons_append, zn1]
  refine ⟨_, rfl, ?_⟩
  have e131 : th0 H1 131 = H 131 := by rw [th0_ne (by omega), f1.1 131 (by omega) (by omega) (by omega)]
  have e2 : th0 H1 130 2 = (len : Int) := by rw [th0_130 (by omega), f1.1 130 (by omega) (by omega) (by omega), x2, hlen]
  rw [rX9_fault_in]
  simp only [rX9_fault_0, rX9_fault_1, rX9_fault_2, rX9_fault_5, rX9_fault_6, rX9_fault_9, true_and, and_true, true_or, or_true, false_or, or_false, Option.toList_some, Option.toList_none, List.nil_append, List.cons_append, zn1, kM hG, zup_def, et]
  refine kX9_faultOf (len := len) hG e2 (by omega) (fun k k0 k1 => by rw [e131, (x3 k k0 (by omega)).1]; exact (x3 k k0 (by omega)).2) (fun H2 f2 _ => ?_)
  simp only [rX9_fault_0, rX9_fault_1, rX9_fault_2, rX9_fault_5, rX9_fault_6, rX9_fault_9, true_and, and_true, true_or, or_true, false_or, or_false, Option.toList_some, Option.toList_none, List.nil_append, List.cons_append, zn1]
  rw [e131, prs_congr (t := H 131) (t' := H 2) (fun k hk => (x3 k (by omega) (by omega)).1)]
  refine ⟨rfl, SR_M (SR_th hS1) ⟨fun b hb => f2 b (by omega), ⟨f2 _ (by omega), f2 _ (by omega), f2 _ (by omega), f2 _ (by omega), f2 _ (by omega)⟩, fun q _ _ => by rw [f2 134 (by omega)], fun q _ _ _ => by rw [f2 130 (by omega)], ?_⟩⟩
  rw [f2 139 (by omega), th0_ne (by omega)]
  exact hS1.2.2.2.1.2.2
theorem kX4_copyFrom {D : zD} {G : zG} {H : zH} {Q' : Option zV → zG → zH → Prop} (hG : zOK G) (hD : dC H D)
    (h6 : D.1 ≤ 6)
    (hq : ∀ H' : zH, (∀ b, b ≠ 3 → b ≠ 4 → H' b = H b) → H' 3 1 = (D.1 : Int) → H' 3 2 = D.2.2.1 → H' 3 3 = D.2.2.2.1 → H' 3 4 = D.2.2.2.2 → (∀ p : Int, 0 ≤ p → p < (D.1 : Int) → H' 4 p = D.2.1 p) → Q' none G H') : zCall qX4_copyFrom [vr 3, vr 5] G H Q' := by
  obtain ⟨d1, d2, d3, d4, d5⟩ := hD
  rw [rX4_copyFrom_in]
  simp only [rX4_copyFrom_0, rX4_copyFrom_1, rX4_copyFrom_4, rX4_copyFrom_5, rX4_copyFrom_6, rX4_copyFrom_9, rX4_copyFrom_10, rX4_copyFrom_12, rX4_copyFrom_15, rX4_copyFrom_16, rX4_copyFrom_17, rX4_copyFrom_20, rX4_copyFrom_23, rX4_copyFrom_24, rX4_copyFrom_25, rX4_copyFrom_28, rX4_copyFrom_31, rX4_copyFrom_32, rX4_copyFrom_33, rX4_copyFrom_36, rX4_copyFrom_39, rX4_copyFrom_40, rX4_copyFrom_41, rX4_copyFrom_44, rX4_copyFrom_47, true_and, and_true, true_or, or_true, false_or, or_false, Option.toList_some, Option.toList_none, List.nil_append, List.cons_append, zn1, kTm5 hG, sO_3 hG, sO_4 hG, zup_def, zset_set, zset_at, Nat.reduceEqDiff, reduceIte, d1, d3, d4, d5]
  refine ⟨by omega, hq _ (fun b x1 x2 => by rw [zset_ne x1, zset_ne x2]) ?_ ?_ ?_ ?_ (fun p p0 p1 => ?_)⟩
  · rw [zset_eq, zfu_at, if_neg (by omega), zfu_at, if_neg (by omega), zfu_at, if_neg (by omega), zfu_at, if_pos rfl]
  · rw [zset_eq, zfu_at, if_neg (by omega), zfu_at, if_neg (by omega), zfu_at, if_pos rfl]
  · rw [zset_eq, zfu_at, if_neg (by omega), zfu_at, if_pos rfl]
  · rw [zset_eq, zfu_at, if_pos rfl]
  · rw [zset_ne (by omega), zset_eq, zcpy_at p0 (by omega)]
    exact d2 p p0 p1
theorem kX9_begins {P : Int} {G : zG} {H : zH} {Q' : Option zV → zG → zH → Prop} (hG : zOK G) (P1 : P ≤ 6) (eP : H 130 4 = P)
    (hq : ∀ H' : zH, (∀ b, b ≠ 130 → b ≠ 134 → H' b = H b) → (∀ q : Int, q ≠ 12 → q ≠ 14 → q ≠ 16 → H' 130 q = H 130 q) → H' 130 12 = 0 → H' 130 14 = 0 → H' 130 16 = 0 → (∀ i : Int, 0 ≤ i → i < 46 → H' 134 i = if i < P then H 133 i else 0) → Q' none G H') : zCall qX9_begins [vr 130] G H Q' := by
  rw [rX9_begins_in]
  simp only [rX9_begins_0, rX9_begins_1, true_and, and_true, true_or, or_true, false_or, or_false, Option.toList_some, Option.toList_none, List.nil_append, List.cons_append, zn1]
  have loop : ∀ (m k : Nat) (H1 : zH), k + m = 46 → (∀ b, b ≠ 134 → H1 b = H b) → (∀ i : Int, 0 ≤ i → i < (k : Int) → H1 134 i = if i < P then H 133 i else 0) → zRun qX9_begins 2 [vr 130, vi (k : Int)] [] G H1 Q' := by
    intro m
    induction m with
    | zero =>
      intro k H1 hk f1 a1
      have k130 : H1 130 = H 130 := f1 130 (by omega)
      rw [rX9_begins_2]
      simp only [rX9_begins_3, rX9_begins_5, rX9_begins_38, rX9_begins_39, rX9_begins_40, rX9_begins_43, rX9_begins_44, rX9_begins_45, rX9_begins_48, rX9_begins_49, rX9_begins_50, rX9_begins_53, true_and, and_true, true_or, or_true, false_or, or_false, Option.toList_some, Option.toList_none, List.nil_append, List.cons_append, zn1, kM hG, zup_def, zset_set, zset_eq]
      rw [if_pos (by omega)]
      refine hq _ (fun b x1 x2 => by rw [zset_ne x1]; exact f1 b x2) (fun q q1 q2 q3 => ?_) ?_ ?_ ?_ (fun i i0 i1 => ?_)
      · rw [zset_eq, zfu_at, if_neg q3, zfu_at, if_neg q2, zfu_at, if_neg q1, k130]
      · rw [zset_eq, zfu_at, if_neg (by omega), zfu_at, if_neg (by omega), zfu_at, if_pos rfl]
      · rw [zset_eq, zfu_at, if_neg (by omega), zfu_at, if_pos rfl]
      · rw [zset_eq, zfu_at, if_pos rfl]
      · rw [zset_ne (by omega)]
        exact a1 i i0 (by omega)
    | succ m ih =>
      intro k H1 hk f1 a1
      have k4 : H1 130 4 = P := by rw [f1 130 (by omega)]; exact eP
      have k133 : H1 133 = H 133 := f1 133 (by omega)
      rw [rX9_begins_2]
      simp only [rX9_begins_3, rX9_begins_5, rX9_begins_8, rX9_begins_9, rX9_begins_12, rX9_begins_13, rX9_begins_14, rX9_begins_15, rX9_begins_18, rX9_begins_21, rX9_begins_22, rX9_begins_25, rX9_begins_26, rX9_begins_27, rX9_begins_30, rX9_begins_31, rX9_begins_32, rX9_begins_35, true_and, and_true, true_or, or_true, false_or, or_false, Option.toList_some, Option.toList_none, List.nil_append, List.cons_append, zn1, kM hG, k4, k133, zup_def, zwk (show k < 2000000000 by omega)]
      rw [if_neg (by omega)]
      have next : ∀ v : Int, v = (if (k : Int) < P then H 133 k else 0) → zRun qX9_begins 2 [vr 130, vi ((k + 1 : Nat) : Int)] [] G (zset H1 134 (zfu (H1 134) k v)) Q' := by
        intro v hv
        refine ih (k + 1) _ (by omega) (fun b hb => by rw [zset_ne hb]; exact f1 b hb) (fun i i0 i1 => ?_)
        rw [zset_eq, zfu_at]
        by_cases c : i = k
        · subst c
          rw [if_pos rfl]
          exact hv
        · rw [if_neg c]
          exact a1 i i0 (by omega)
      by_cases c : P ≤ (k : Int)
      · rw [if_pos c]
        exact ⟨by omega, next _ (by rw [if_neg (by omega)])⟩
      · rw [if_neg c]
        exact ⟨by omega, by omega, next _ (by rw [if_pos (by omega)])⟩
  exact loop 46 0 H (by omega) (fun _ _ => rfl) (fun i i0 i1 => by omega)
theorem lay_sum {P : Int} {w l : Int → Int} (hP : P ≤ 6) (hl : ∀ p : Int, 0 ≤ p → p < P → 1 ≤ l p ∧ l p ≤ 999) (hw : ∀ p : Int, 0 ≤ p → p < 6 → w p = if p < P then l p else 0) : sWok w := by
  have b : ∀ p : Int, 0 ≤ p → p < 6 → 0 ≤ w p ∧ w p ≤ 999 := fun p p0 p1 => by
    rw [hw p p0 p1]
    by_cases c : p < P
    · rw [if_pos c]
      have := hl p p0 c
      omega
    · rw [if_neg c]
      omega
  refine ⟨fun p p0 p1 => (b p p0 p1).1, ?_⟩
  have b0 := b 0 (by omega) (by omega)
  have b1 := b 1 (by omega) (by omega)
  have b2 := b 2 (by omega) (by omega)
  have b3 := b 3 (by omega) (by omega)
  have b4 := b 4 (by omega) (by omega)
  have b5 := b 5 (by omega) (by omega)
  unfold ssum
  omega
theorem sim_lay : simOp qX8_lay qX9_lay [] := by
  intro G H h
  have hS := h
  obtain ⟨hG, ht, hx, hbk, hd, hk, ho⟩ := h
  have hx' := hx
  obtain ⟨⟨x0, x1⟩, x2, x3⟩ := hx'
  obtain ⟨len, hlen⟩ := nat_of x0
  have et : ∀ H1 : zH, zset H1 130 (zfu (H1 130) 0 0) = th0 H1 := fun _ => rfl
  have hDok := prs_ok (t := H 2) (len := len) 301 0 D0_ok
  have epr : prs (H 131) len 301 0 D0 = prs (H 2) len 301 0 D0 := prs_congr (fun k hk => (x3 k (by omega) (by omega)).1) _ _ _
  generalize hpr : prs (H 2) len 301 0 D0 = pr at *
  obtain ⟨res, D⟩ := pr
  have hDok : DOK D := hDok
  -- the model, up to what it read
  have mod : ∀ (H1 : zH) (Q2 : Option zV → zG → zH → Prop), (∀ b, 130 ≤ b → H1 b = H b) → (∀ H2 : zH, (∀ b, b ≠ 132 → H2 b = th0 H1 b) → (res = -4 → dM H2 D) → (¬ (res = -4 ∧ D.1 ≠ 0) → Q2 (some (vi (-2))) G H2) ∧ ((res = -4 ∧ D.1 ≠ 0) → zRun qX9_lay 26 [vr 130, vu] [] G H2 Q2) → True → True) → (∀ H2 : zH, (∀ b, b ≠ 132 → H2 b = th0 H1 b) → ¬ (res = -4 ∧ D.1 ≠ 0) → Q2 (some (vi (-2))) G H2) → (∀ H2 : zH, (∀ b, b ≠ 132 → H2 b = th0 H1 b) → (res = -4 ∧ D.1 ≠ 0) → dM H2 D → zRun qX9_lay 26 [vr 130, vu] [] G H2 Q2) → zCall qX9_lay [vr 130] G H1 Q2 := by
    intro H1 Q2 f1 _ qn qy
    have e131 : th0 H1 131 = H 131 := by rw [th0_ne (by omega), f1 131 (by omega)]
    have e2 : th0 H1 130 2 = (len : Int) := by rw [th0_130 (by omega), f1 130 (by omega), x2, hlen]
    have c10 : (0 : Int) ≤ 0 ∧ (0 : Int) < 10 := by omega
    rw [rX9_lay_in]
    simp only [rX9_lay_0, rX9_lay_1, rX9_lay_2, rX9_lay_5, rX9_lay_6, true_and, and_true, true_or, or_true, false_or, or_false, Option.toList_some, Option.toList_none, List.nil_append, List.cons_append, zn1, kM hG, zup_def, et]
    refine kX9_faultOf (len := len) hG e2 (by omega) (fun k k0 k1 => by rw [e131, (x3 k k0 (by omega)).1]; exact (x3 k k0 (by omega)).2) (fun H2 f2 m2 => ?_)
    rw [e131, epr] at m2 ⊢
    have m2 : res = -4 → dM H2 D := m2
    simp only [rX9_lay_9, rX9_lay_11, rX9_lay_14, rX9_lay_15, rX9_lay_18, rX9_lay_19, rX9_lay_20, rX9_lay_23, rX9_lay_25, true_and, and_true, true_or, or_true, false_or, or_false, Option.toList_some, Option.toList_none, List.nil_append, List.cons_append, zn1, kM hG, c10]
    by_cases c : res = -4
    · rw [if_neg (fun z => z c)]
      have hm := m2 c
      rw [hm.1]
      by_cases c2 : D.1 = 0
      · rw [if_neg (fun z => z (by omega))]
        exact qn H2 f2 (fun z => z.2 c2)
      · rw [if_pos (by omega)]
        exact qy H2 f2 ⟨c, c2⟩ hm
    · rw [if_pos c]
      exact qn H2 f2 (fun z => c z.1)
  rw [rX8_lay_in]
  simp only [rX8_lay_0, rX8_lay_1, rX8_lay_4, rX8_lay_5, rX8_lay_8, true_and, and_true, true_or, or_true, false_or, or_false, Option.toList_some, Option.toList_none, List.nil_append, List.cons_append, zn1, sO_0 hG, kTm5 hG]
  refine kX4_readFrom hG hlen (by omega) (fun k k0 k1 => (x3 k k0 (by omega)).2) (fun H1 f1 m1 => ?_)
  rw [hpr] at m1 ⊢
  have m1 : res = -4 → dC H1 D := m1
  have hS1 : SR G H1 := SR_C hS ⟨fun b hb => f1.1 b (by omega) (by omega) (by omega), f1.2, fun b hb => f1.1 b (by omega) (by omega) (by omega)⟩
  simp only [rX8_lay_11, rX8_lay_13, rX8_lay_16, rX8_lay_17, rX8_lay_20, rX8_lay_23, rX8_lay_24, rX8_lay_27, rX8_lay_29, rX8_lay_30, rX8_lay_31, rX8_lay_34, rX8_lay_35, rX8_lay_38, true_and, and_true, true_or, or_true, false_or, or_false, Option.toList_some, Option.toList_none, List.nil_append, List.cons_append, zn1, sO_0 hG, kTm5 hG]
  have no : ¬ (res = -4 ∧ D.1 ≠ 0) → ∃ v : Int, some (vi (-2)) = some (vi v) ∧ zCall qX9_lay [vr 130] G H1 (fun r' G2 H2 => r' = some (vi v) ∧ SR G2 H2) := by
    intro hc
    refine ⟨_, rfl, mod H1 _ (fun b hb => f1.1 b (by omega) (by omega) (by omega)) (fun _ _ _ _ _ => trivial) (fun H2 f2 _ => ⟨rfl, ?_⟩) (fun H2 f2 hc' => absurd hc' hc)⟩
    refine SR_M (SR_th hS1) ⟨fun b hb => f2 b (by omega), ⟨f2 _ (by omega), f2 _ (by omega), f2 _ (by omega), f2 _ (by omega), f2 _ (by omega)⟩, fun q _ _ => by rw [f2 134 (by omega)], fun q _ _ _ => by rw [f2 130 (by omega)], ?_⟩
    rw [f2 139 (by omega), th0_ne (by omega)]
    exact hS1.2.2.2.1.2.2
  by_cases c : res = -4
  · rw [if_neg (fun z => z c)]
    have hC := m1 c
    rw [hC.1]
    by_cases c2 : D.1 = 0
    · rw [if_neg (by omega)]
      exact no (fun z => z.2 c2)
    · rw [if_pos (by omega)]
      obtain ⟨⟨n6, hl⟩, hr, hki, hla⟩ := hDok
      refine ⟨(sO_3 hG).1, kX4_copyFrom hG hC n6 (fun H2 f2 p1 p2 p3 p4 p5 => ?_)⟩
      simp only [rX8_lay_41, rX8_lay_42, rX8_lay_45, true_and, and_true, true_or, or_true, false_or, or_false, Option.toList_some, Option.toList_none, List.nil_append, List.cons_append, zn1, sO_0 hG, kB hG bk7]
      refine kX0_open hG bk7 (by rw [p1]; omega) (by rw [p1]; omega) (fun H3 f3 w3 l3 n3 g3 => ?_)
      have cF : ∀ b, b ≠ 1 → b ≠ 5 → b ≠ 6 → b ≠ 3 → b ≠ 4 → (b < 7 ∨ 15 < b) → H3 b = H b := fun b y1 y2 y3 y4 y5 y6 => by
        rw [f3 b (by omega), f2 b y4 y5]
        exact f1.1 b y1 y2 y3
      have q31 : H3 3 1 = (D.1 : Int) := by rw [f3 3 (by omega)]; exact p1
      simp only [rX8_lay_48, rX8_lay_49, rX8_lay_52, rX8_lay_53, rX8_lay_56, rX8_lay_57, rX8_lay_60, rX8_lay_61, rX8_lay_64, rX8_lay_65, rX8_lay_68, rX8_lay_69, rX8_lay_72, rX8_lay_73, rX8_lay_76, rX8_lay_79, true_and, and_true, true_or, or_true, false_or, or_false, Option.toList_some, Option.toList_none, List.nil_append, List.cons_append, zn1, sO_0 hG, sO_3 hG, sO_38 hG, sO_94 hG, sO_114 hG, zup_def, zset_at, Nat.reduceEqDiff, reduceIte, q31]
      refine ⟨_, rfl, ?_⟩
      generalize hH4 : zset (zset (zset H3 114 (zfu (H3 114) 3 0)) 38 (zfu (H3 38) 1 0)) 94 (zfu (H3 94) 1 0) = H4
      have f4 : ∀ b, b ≠ 38 → b ≠ 94 → b ≠ 114 → H4 b = H3 b := fun b y1 y2 y3 => by rw [← hH4, zset_ne y2, zset_ne y1, zset_ne y3]
      have z38 : H4 38 1 = 0 := by rw [← hH4, zset_ne (by omega), zset_eq, zfu_at, if_pos rfl]
      have z94 : H4 94 1 = 0 := by rw [← hH4, zset_eq, zfu_at, if_pos rfl]
      have z114 : H4 114 3 = 0 := by rw [← hH4, zset_ne (by omega), zset_ne (by omega), zset_eq, zfu_at, if_pos rfl]
      refine mod H4 _ (fun b hb => by rw [f4 b (by omega) (by omega) (by omega)]; exact cF b (by omega) (by omega) (by omega) (by omega) (by omega) (by omega)) (fun _ _ _ _ _ => trivial) (fun H5 f5 hc => absurd ⟨c, c2⟩ hc) (fun H5 f5 _ hM => ?_)
      obtain ⟨e0, e1, e7, e8, e9⟩ := hM
      have b0 : (0 : Int) ≤ 0 ∧ (0 : Int) < 10 := by omega
      have b7 : (0 : Int) ≤ 7 ∧ (7 : Int) < 10 := by omega
      have b8 : (0 : Int) ≤ 8 ∧ (8 : Int) < 10 := by omega
      have b9 : (0 : Int) ≤ 9 ∧ (9 : Int) < 10 := by omega
      simp only [rX9_lay_26, rX9_lay_27, rX9_lay_28, rX9_lay_31, rX9_lay_32, rX9_lay_33, rX9_lay_36, rX9_lay_37, true_and, and_true, true_or, or_true, false_or, or_false, Option.toList_some, Option.toList_none, List.nil_append, List.cons_append, zn1, kM hG, b0, e0, zup_def]
      have loop : ∀ (m k : Nat) (H6 : zH), k + m = 6 → (∀ b, b ≠ 133 → b ≠ 130 → H6 b = H5 b) → (∀ q : Int, q ≠ 4 → H6 130 q = H5 130 q) → H6 130 4 = (D.1 : Int) → (∀ p : Int, 0 ≤ p → p < (k : Int) → H6 133 p = if p < (D.1 : Int) then D.2.1 p else 0) → zRun qX9_lay 38 [vr 130, vi (k : Int)] [] G H6 (fun r' G2 H2 => r' = some (vi (D.1 : Int)) ∧ SR G2 H2) := by
        intro m
        induction m with
        | zero =>
          intro k H6 hk f6 g6 k4 a6
          have k132 : H6 132 = H5 132 := f6 132 (by omega) (by omega)
          have u7 : H6 132 7 = D.2.2.1 := by rw [k132]; exact e7
          have u8 : H6 132 8 = D.2.2.2.1 := by rw [k132]; exact e8
          have u9 : H6 132 9 = D.2.2.2.2 := by rw [k132]; exact e9
          rw [rX9_lay_38]
          simp only [rX9_lay_39, rX9_lay_41, rX9_lay_76, rX9_lay_77, rX9_lay_78, rX9_lay_81, rX9_lay_83, rX9_lay_84, rX9_lay_87, rX9_lay_88, rX9_lay_89, rX9_lay_92, rX9_lay_94, rX9_lay_95, rX9_lay_98, rX9_lay_99, rX9_lay_100, rX9_lay_103, rX9_lay_105, rX9_lay_106, rX9_lay_109, rX9_lay_110, true_and, and_true, true_or, or_true, false_or, or_false, Option.toList_some, Option.toList_none, List.nil_append, List.cons_append, zn1, kM hG, zup_def, zset_set, zset_at, Nat.reduceEqDiff, reduceIte, b7, b8, b9, u7, u8, u9]
          rw [if_pos (by omega)]
          generalize hH7 : zset H6 130 (zfu (zfu (zfu (H6 130) 6 D.2.2.1) 7 D.2.2.2.1) 8 D.2.2.2.2) = H7
          have f7 : ∀ b, b ≠ 130 → H7 b = H6 b := fun b hb => by rw [← hH7, zset_ne hb]
          have g7 : ∀ q : Int, q ≠ 6 → q ≠ 7 → q ≠ 8 → H7 130 q = H6 130 q := fun q q1 q2 q3 => by rw [← hH7, zset_eq, zfu_at, if_neg q3, zfu_at, if_neg q2, zfu_at, if_neg q1]
          have r6 : H7 130 6 = D.2.2.1 := by rw [← hH7, zset_eq, zfu_at, if_neg (by omega), zfu_at, if_neg (by omega), zfu_at, if_pos rfl]
          have r7 : H7 130 7 = D.2.2.2.1 := by rw [← hH7, zset_eq, zfu_at, if_neg (by omega), zfu_at, if_pos rfl]
          have r8 : H7 130 8 = D.2.2.2.2 := by rw [← hH7, zset_eq, zfu_at, if_pos rfl]
          have r4 : H7 130 4 = (D.1 : Int) := by rw [g7 4 (by omega) (by omega) (by omega)]; exact k4
          refine kX9_begins (P := (D.1 : Int)) hG (by omega) r4 (fun H8 f8 g8 z12 z14 z16 a8 => ?_)
          have s4 : H8 130 4 = (D.1 : Int) := by rw [g8 4 (by omega) (by omega) (by omega)]; exact r4
          simp only [rX9_lay_113, rX9_lay_114, rX9_lay_117, true_and, and_true, true_or, or_true, false_or, or_false, Option.toList_some, Option.toList_none, List.nil_append, List.cons_append, zn1, kM hG, s4]
          have mF : ∀ b, b ≠ 130 → b ≠ 134 → b ≠ 133 → b ≠ 132 → H8 b = H4 b := fun b y1 y2 y3 y4 => by
            rw [f8 b y1 y2, f7 b y1, f6 b y3 y1, f5 b y4, th0_ne y1]
          have bF : ∀ b, b ≠ 130 → b ≠ 134 → b ≠ 133 → b ≠ 132 → b ≠ 38 → b ≠ 94 → b ≠ 114 → b ≠ 1 → b ≠ 5 → b ≠ 6 → b ≠ 3 → b ≠ 4 → (b < 7 ∨ 15 < b) → H8 b = H b := fun b y1 y2 y3 y4 y5 y6 y7 y8 y9 y10 y11 y12 y13 => by
            rw [mF b y1 y2 y3 y4, f4 b y5 y6 y7]
            exact cF b y8 y9 y10 y11 y12 y13
          have e83 : H8 3 = H2 3 := by rw [mF 3 (by omega) (by omega) (by omega) (by omega), f4 3 (by omega) (by omega) (by omega), f3 3 (by omega)]
          have e84 : H8 4 = H2 4 := by rw [mF 4 (by omega) (by omega) (by omega) (by omega), f4 4 (by omega) (by omega) (by omega), f3 4 (by omega)]
          have q1 : H8 3 1 = (D.1 : Int) := by rw [e83]; exact p1
          have e81 : H8 1 1 = H 1 1 := by rw [mF 1 (by omega) (by omega) (by omega) (by omega), f4 1 (by omega) (by omega) (by omega), f3 1 (by omega), f2 1 (by omega) (by omega)]; exact f1.2
          have m2 : H8 130 2 = H 130 2 := by
            rw [g8 2 (by omega) (by omega) (by omega), g7 2 (by omega) (by omega) (by omega), g6 2 (by omega), f5 130 (by omega), th0_130 (by omega), f4 130 (by omega) (by omega) (by omega), cF 130 (by omega) (by omega) (by omega) (by omega) (by omega) (by omega)]
          have e133 : ∀ p : Int, 0 ≤ p → p < (D.1 : Int) → H8 133 p = D.2.1 p := fun p p0 p1 => by
            rw [f8 133 (by omega) (by omega), f7 133 (by omega), a6 p p0 (by omega), if_pos p1]
          have b7F : ∀ b, 7 ≤ b → b ≤ 15 → H8 b = H3 b := fun b y1 y2 => by
            rw [mF b (by omega) (by omega) (by omega) (by omega), f4 b (by omega) (by omega) (by omega)]
          have w8 : ∀ p : Int, 0 ≤ p → p < 6 → H8 134 p = if p < (D.1 : Int) then D.2.1 p else 0 := fun p p0 p1 => by
            rw [a8 p p0 (by omega)]
            by_cases cp : p < (D.1 : Int)
            · rw [if_pos cp, if_pos cp, f7 133 (by omega), a6 p p0 (by omega), if_pos cp]
            · rw [if_neg cp, if_neg cp]
          refine ⟨hG, ⟨⟨⟨by rw [q1]; omega, by rw [q1]; omega⟩, by rw [e83, p2]; exact hr, by rw [e83, p3]; exact hki, by rw [e83, p4]; exact hla⟩, ⟨by rw [q1]; exact s4, by rw [e83, p2, g8 6 (by omega) (by omega) (by omega)]; exact r6, by rw [e83, p3, g8 7 (by omega) (by omega) (by omega)]; exact r7, by rw [e83, p4, g8 8 (by omega) (by omega) (by omega)]; exact r8⟩, fun p p0 p1 => ?_⟩, SRx_c hx e81 ?_ ?_ m2, ⟨⟨[], ⟨by simp, fun c hc => by simp at hc⟩, ⟨?_, fun k c hc => by simp at hc⟩, ⟨?_, fun k c hc => by simp at hc⟩, fun p p0 p1 => ?_, ?_, ?_⟩, ?_, ?_⟩, ⟨0, by omega, ?_, z12, fun k hk => by omega⟩, ⟨0, by omega, ?_, z14, fun k hk => by omega⟩, ⟨0, by omega, ?_, z16, fun k hk => by omega⟩⟩
          · rw [q1] at p1
            rw [e133 p p0 p1, e84, p5 p p0 p1]
            exact ⟨rfl, hl p p0 p1⟩
          · rw [mF 2 (by omega) (by omega) (by omega) (by omega), f4 2 (by omega) (by omega) (by omega)]
            exact cF 2 (by omega) (by omega) (by omega) (by omega) (by omega) (by omega)
          · exact bF 131 (by omega) (by omega) (by omega) (by omega) (by omega) (by omega) (by omega) (by omega) (by omega) (by omega) (by omega) (by omega) (by omega)
          · rw [b7F 7 (by omega) (by omega), n3]
            rfl
          · rw [a8 12 (by omega) (by omega), if_neg (by omega)]
            rfl
          · rw [b7F (7 + 1) (by omega) (by omega), b7F (7 + 2) (by omega) (by omega), (w3 p p0 p1).1, (w3 p p0 p1).2, w8 p p0 p1, a8 (6 + p) (by omega) (by omega), if_neg (show ¬ 6 + p < (D.1 : Int) by omega)]
            refine ⟨?_, rfl⟩
            by_cases cp : p < (D.1 : Int)
            · rw [if_pos cp, if_pos (by omega)]
              exact p5 p p0 cp
            · rw [if_neg cp, if_neg (by omega)]
          · exact lay_sum (by omega) hl w8
          · rw [b7F 7 (by omega) (by omega), g3, a8 45 (by omega) (by omega), if_neg (by omega)]
          · rw [b7F 14 (by omega) (by omega), l3 14 (by omega) (by omega), f2 14 (by omega) (by omega), f1.1 14 (by omega) (by omega) (by omega)]
            exact hbk.2.1
          · rw [bF 139 (by omega) (by omega) (by omega) (by omega) (by omega) (by omega) (by omega) (by omega) (by omega) (by omega) (by omega) (by omega) (by omega)]
            exact hbk.2.2
          · rw [mF 38 (by omega) (by omega) (by omega) (by omega)]
            exact z38
          · rw [mF 94 (by omega) (by omega) (by omega) (by omega)]
            exact z94
          · rw [mF 114 (by omega) (by omega) (by omega) (by omega)]
            exact z114
        | succ m ih =>
          intro k H6 hk f6 g6 k4 a6
          have k132 : H6 132 = H5 132 := f6 132 (by omega) (by omega)
          rw [rX9_lay_38]
          simp only [rX9_lay_39, rX9_lay_41, rX9_lay_44, rX9_lay_45, rX9_lay_48, rX9_lay_49, rX9_lay_50, rX9_lay_51, rX9_lay_54, rX9_lay_57, rX9_lay_58, rX9_lay_61, rX9_lay_62, rX9_lay_63, rX9_lay_64, rX9_lay_65, rX9_lay_68, rX9_lay_69, rX9_lay_70, rX9_lay_73, true_and, and_true, true_or, or_true, false_or, or_false, Option.toList_some, Option.toList_none, List.nil_append, List.cons_append, zn1, kM hG, k4, k132, zup_def, zw_id (z := 1 + (k : Int)) (by omega) (by omega), zwk (show k < 2000000000 by omega)]
          rw [if_neg (by omega)]
          have next : ∀ v : Int, v = (if (k : Int) < (D.1 : Int) then D.2.1 k else 0) → zRun qX9_lay 38 [vr 130, vi ((k + 1 : Nat) : Int)] [] G (zset H6 133 (zfu (H6 133) k v)) (fun r' G2 H2 => r' = some (vi (D.1 : Int)) ∧ SR G2 H2) := by
            intro v hv
            refine ih (k + 1) _ (by omega) (fun b y1 y2 => by rw [zset_ne y1]; exact f6 b y1 y2) (fun q q1 => by rw [zset_ne (by omega)]; exact g6 q q1) (by rw [zset_ne (by omega)]; exact k4) (fun p p0 p1 => ?_)
            rw [zset_eq, zfu_at]
            by_cases cp : p = k
            · subst cp
              rw [if_pos rfl]
              exact hv
            · rw [if_neg cp]
              exact a6 p p0 (by omega)
          by_cases cc : (D.1 : Int) ≤ (k : Int)
          · rw [if_pos cc]
            exact ⟨by omega, next _ (by rw [if_neg (by omega)])⟩
          · rw [if_neg cc]
            refine ⟨by omega, by omega, next _ ?_⟩
            rw [if_pos (by omega)]
            exact e1 k (by omega) (by omega)
      exact loop 6 0 _ (by omega) (fun b y1 y2 => by rw [zset_ne y2]) (fun q q1 => by rw [zset_eq, zfu_at, if_neg q1]) (by rw [zset_eq, zfu_at, if_pos rfl]) (fun p p0 p1 => by omega)
  · rw [if_pos c]
    exact no (fun z => c z.1)
