/-! kept, had back -/
theorem sim_keep : simOp qX8_keep qX9_keep [] := by
  intro G H h
  have hS := h
  obtain ⟨hG, ht, hx, ⟨hBk, hm8, hn8⟩, hd', ⟨kn, d0, d1, d2, d3⟩, ho⟩ := h
  have b134 : ∀ H1 : zH, zset H1 130 (zfu (H1 130) 0 0) = th0 H1 := fun _ => rfl
  rw [rX8_keep_in]
  simp only [rX8_keep_0, rX8_keep_1, rX8_keep_4, rX8_keep_7, rX8_keep_8, rX8_keep_11, rX8_keep_13, rX8_keep_14, rX8_keep_15, rX8_keep_18, rX8_keep_19, rX8_keep_22, rX8_keep_25, rX8_keep_26, rX8_keep_29, rX8_keep_32, true_and, and_true, true_or, or_true, false_or, or_false, Option.toList_some, Option.toList_none, List.nil_append, List.cons_append, zn1, sO_0 hG, kK hG, d1]
  by_cases c : kn = 2
  · rw [if_neg (by omega)]
    refine ⟨_, rfl, ?_⟩
    have t14 : th0 H 130 14 = (kn : Int) := by rw [th0_130 (by omega)]; exact d2
    rw [rX9_keep_in]
    simp only [rX9_keep_0, rX9_keep_1, rX9_keep_2, rX9_keep_5, rX9_keep_6, rX9_keep_9, rX9_keep_10, rX9_keep_13, rX9_keep_15, rX9_keep_16, rX9_keep_17, rX9_keep_19, rX9_keep_21, rX9_keep_24, rX9_keep_25, rX9_keep_28, rX9_keep_30, rX9_keep_31, rX9_keep_34, rX9_keep_35, rX9_keep_36, rX9_keep_37, rX9_keep_38, rX9_keep_41, rX9_keep_42, rX9_keep_43, rX9_keep_44, rX9_keep_47, rX9_keep_50, rX9_keep_51, rX9_keep_52, rX9_keep_55, rX9_keep_56, rX9_keep_57, rX9_keep_60, rX9_keep_61, rX9_keep_64, true_and, and_true, true_or, or_true, false_or, or_false, Option.toList_some, Option.toList_none, List.nil_append, List.cons_append, zn1, kM hG, zup_def, b134, t14]
    rw [if_neg (by omega)]
    exact SR_th hS
  · rw [if_pos (by omega)]
    refine kput_kept hG d1 (by omega) (fun H1 f1 cp1 e94 => ?_)
    simp only [rX8_keep_0, rX8_keep_1, rX8_keep_4, rX8_keep_7, rX8_keep_8, rX8_keep_11, rX8_keep_13, rX8_keep_14, rX8_keep_15, rX8_keep_18, rX8_keep_19, rX8_keep_22, rX8_keep_25, rX8_keep_26, rX8_keep_29, rX8_keep_32, true_and, and_true, true_or, or_true, false_or, or_false, Option.toList_some, Option.toList_none, List.nil_append, List.cons_append, zn1, sO_0 hG, kK hG, e94]
    refine ⟨_, rfl, ?_⟩
    have t14 : th0 H1 130 14 = (kn : Int) := by rw [th0_130 (by omega), f1 130 (by omega) (by omega)]; exact d2
    rw [rX9_keep_in]
    simp only [rX9_keep_0, rX9_keep_1, rX9_keep_2, rX9_keep_5, rX9_keep_6, rX9_keep_9, rX9_keep_10, rX9_keep_16, rX9_keep_17, true_and, and_true, true_or, or_true, false_or, or_false, Option.toList_some, Option.toList_none, List.nil_append, List.cons_append, zn1, kM hG, zup_def, b134, t14]
    rw [if_pos (by omega)]
    have e46 : zw (46 * (kn : Int)) = 46 * (kn : Int) := zw_id (by omega) (by omega)
    have loop : ∀ (l k : Nat), k + l = 46 → zRun qX9_keep 18 [vr 130, vi (k : Int)] [] G (zset (th0 H1) 137 (cpyo (th0 H1 137) (H 134) (46 * (kn : Int)) k)) (fun r' G2 H2 => r' = some (vi ((kn + 1 : Nat) : Int)) ∧ SR G2 H2) := by
      intro l
      induction l with
      | zero =>
        intro k hk
        have : k = 46 := by omega
        subst this
        rw [rX9_keep_18]
        simp only [rX9_keep_19, rX9_keep_21, rX9_keep_50, rX9_keep_51, rX9_keep_52, rX9_keep_55, rX9_keep_56, rX9_keep_57, rX9_keep_60, rX9_keep_61, rX9_keep_64, true_and, and_true, true_or, or_true, false_or, or_false, Option.toList_some, Option.toList_none, List.nil_append, List.cons_append, zn1, kM hG, zup_def, zset_at, zfu_at, Nat.reduceEqDiff, reduceIte, t14, zwk (show kn < 2000000000 by omega)]
        rw [if_pos (by omega)]
        generalize hH2 : zset (zset (th0 H1) 137 (cpyo (th0 H1 137) (H 134) (46 * (kn : Int)) ((46 : Nat) : Int))) 130 (zfu (th0 H1 130) 14 ((kn + 1 : Nat) : Int)) = H2
        have aF : ∀ b, b ≠ 130 → b ≠ 137 → b ≠ 94 → (b < 96 + 9 * kn ∨ 96 + 9 * kn + 8 < b) → H2 b = H b := fun b b1 b2 b3 b4 => by
          rw [← hH2, zset_ne b1, zset_ne b2, th0_ne b1]
          exact f1 b b3 b4
        have m130 : ∀ q : Int, q ≠ 0 → q ≠ 14 → H2 130 q = H 130 q := fun q q1 q2 => by
          rw [← hH2, zset_eq, zfu_at, if_neg q2, th0_130 q1, f1 130 (by omega) (by omega)]
        have e3 : H2 3 = H 3 := aF 3 (by omega) (by omega) (by omega) (by omega)
        have e137 : H2 137 = cpyo (H 137) (H 134) (46 * (kn : Int)) 46 := by
          rw [← hH2, zset_ne (by omega), zset_eq, th0_ne (by omega), f1 137 (by omega) (by omega)]
          rfl
        refine ⟨hG, SRt_c ht e3 ?_ ?_ (m130 4 (by omega) (by omega)) (m130 6 (by omega) (by omega)) (m130 7 (by omega) (by omega)) (m130 8 (by omega) (by omega)), SRx_c hx ?_ ?_ ?_ (m130 2 (by omega) (by omega)), SRb_c ⟨hBk, hm8, hn8⟩ (by rw [e3]) (fun b b0 b1 => aF b (by omega) (by omega) (by omega) (by omega)) (fun i _ _ => by rw [aF 134 (by omega) (by omega) (by omega) (by omega)]) ?_, SRd_c hG hd' (by rw [e3]) ?_ (m130 12 (by omega) (by omega)) (fun b b0 b1 => aF b (by omega) (by omega) (by omega) (by omega)) ?_, ⟨kn + 1, by omega, ?_, ?_, fun k hk => ?_⟩, SRo_c ho e3 ?_ (m130 16 (by omega) (by omega)) ?_ ?_ ?_ ?_⟩
        · exact aF 4 (by omega) (by omega) (by omega) (by omega)
        · exact aF 133 (by omega) (by omega) (by omega) (by omega)
        · rw [aF 1 (by omega) (by omega) (by omega) (by omega)]
        · exact aF 2 (by omega) (by omega) (by omega) (by omega)
        · exact aF 131 (by omega) (by omega) (by omega) (by omega)
        · rw [aF 139 (by omega) (by omega) (by omega) (by omega)]
          exact hn8
        · rw [aF 38 (by omega) (by omega) (by omega) (by omega)]
        · exact aF 136 (by omega) (by omega) (by omega) (by omega)
        · rw [← hH2, zset_ne (by omega), zset_ne (by omega), th0_ne (by omega)]
          exact e94
        · rw [← hH2, zset_eq, zfu_at, if_pos rfl]
        · rw [e3, e137]
          by_cases ck : k = kn
          · subst ck
            refine EBk_congr (H := H1) (fun b b0 b1 => ?_) (fun i i0 i1 => ?_) (EBk_copy (a' := H 134) cp1 (fun _ _ _ => rfl) hBk)
            · rw [← hH2, zset_ne (by omega), zset_ne (by omega), th0_ne (by omega)]
            · exact cpyo_in i0 i1
          · refine EBk_congr (fun b b0 b1 => aF b (by omega) (by omega) (by omega) (by omega)) (fun i i0 i1 => ?_) (d3 k (by omega))
            exact cpyo_lo (by omega)
        · rw [aF 114 (by omega) (by omega) (by omega) (by omega)]
        · exact aF 115 (by omega) (by omega) (by omega) (by omega)
        · exact aF 116 (by omega) (by omega) (by omega) (by omega)
        · exact aF 117 (by omega) (by omega) (by omega) (by omega)
        · exact aF 138 (by omega) (by omega) (by omega) (by omega)
      | succ l ih =>
        intro k hk
        have hih := ih (k + 1) (by omega)
        rw [← cpyo_s] at hih
        have e2 : zw (46 * (kn : Int) + (k : Int)) = 46 * (kn : Int) + (k : Int) := zw_id (by omega) (by omega)
        have e134 : th0 H1 134 = H 134 := by rw [th0_ne (by omega), f1 134 (by omega) (by omega)]
        rw [rX9_keep_18]
        simp only [rX9_keep_19, rX9_keep_21, rX9_keep_24, rX9_keep_25, rX9_keep_28, rX9_keep_30, rX9_keep_31, rX9_keep_34, rX9_keep_35, rX9_keep_36, rX9_keep_37, rX9_keep_38, rX9_keep_41, rX9_keep_42, rX9_keep_43, rX9_keep_44, rX9_keep_47, true_and, and_true, true_or, or_true, false_or, or_false, Option.toList_some, Option.toList_none, List.nil_append, List.cons_append, zn1, kM hG, zup_def, zset_set, zset_at, Nat.reduceEqDiff, reduceIte, t14, e46, e2, e134, zwk (show k < 2000000000 by omega)]
        rw [if_neg (by omega)]
        exact ⟨by omega, by omega, hih⟩
    have := loop 46 0 (by omega)
    rw [show ((0 : Nat) : Int) = 0 from rfl, cpyo_0, zset_self] at this
    exact this
theorem kX9_back {n : Nat} {G : zG} {H : zH} {Q' : Option zV → zG → zH → Prop} (hG : zOK G) (hn : H 130 14 = (n : Int)) (h2 : n ≤ 2)
    (hq0 : n = 0 → Q' (some (vi (-2))) G (th0 H))
    (hq : ∀ (H' : zH) (m : Nat), m + 1 = n → (∀ b, b ≠ 130 → b ≠ 134 → H' b = H b) → (∀ i : Int, i ≠ 0 → i ≠ 12 → i ≠ 14 → H' 130 i = H 130 i) → H' 130 14 = (m : Int) → H' 130 12 = 0 → (∀ i : Int, 0 ≤ i → i < 46 → H' 134 i = H 137 (46 * (m : Int) + i)) → Q' (some (vi (m : Int))) G H') : zCall qX9_back [vr 130] G H Q' := by
  have et : zset H 130 (zfu (H 130) 0 0) = th0 H := rfl
  have t12 : th0 H 130 14 = (n : Int) := by rw [th0_130 (by omega)]; exact hn
  rw [rX9_back_in]
  simp only [rX9_back_0, rX9_back_1, rX9_back_2, rX9_back_5, rX9_back_6, rX9_back_9, rX9_back_12, rX9_back_14, rX9_back_15, rX9_back_16, rX9_back_17, rX9_back_20, rX9_back_21, rX9_back_22, rX9_back_25, rX9_back_26, rX9_back_28, rX9_back_30, rX9_back_33, rX9_back_34, rX9_back_37, rX9_back_38, rX9_back_39, rX9_back_42, rX9_back_44, rX9_back_45, rX9_back_48, rX9_back_49, rX9_back_50, rX9_back_51, rX9_back_52, rX9_back_53, rX9_back_56, rX9_back_59, rX9_back_60, rX9_back_61, rX9_back_64, rX9_back_65, rX9_back_68, true_and, and_true, true_or, or_true, false_or, or_false, Option.toList_some, Option.toList_none, List.nil_append, List.cons_append, zn1, kM hG, zup_def, et, t12]
  by_cases c : n = 0
  · rw [if_neg (by omega)]
    exact hq0 c
  · rw [if_pos (by omega)]
    obtain ⟨m, rfl⟩ : ∃ m, n = m + 1 := ⟨n - 1, by omega⟩
    have e1 : zw (((m + 1 : Nat) : Int) - 1) = (m : Int) := by rw [zw_id (by omega) (by omega)]; omega
    rw [e1]
    have e46 : zw (46 * (m : Int)) = 46 * (m : Int) := zw_id (by omega) (by omega)
    generalize hH1 : zset (th0 H) 130 (zfu (th0 H 130) 14 m) = H1
    have f1 : ∀ b, b ≠ 130 → H1 b = H b := fun b hb => by rw [← hH1, zset_ne hb, th0_ne hb]
    have g1 : ∀ i : Int, i ≠ 0 → i ≠ 14 → H1 130 i = H 130 i := fun i i1 i2 => by rw [← hH1, zset_eq, zfu_at, if_neg i2, th0_130 i1]
    have g12 : H1 130 14 = (m : Int) := by rw [← hH1, zset_eq, zfu_at, if_pos rfl]
    have loop : ∀ (l k : Nat), k + l = 46 → zRun qX9_back 27 [vr 130, vi (k : Int)] [] G (zset H1 134 (cpyo (H1 134) (fun i => H 137 (46 * (m : Int) + i)) 0 k)) Q' := by
      intro l
      induction l with
      | zero =>
        intro k hk
        have : k = 46 := by omega
        subst this
        rw [rX9_back_27]
        simp only [rX9_back_0, rX9_back_1, rX9_back_2, rX9_back_5, rX9_back_6, rX9_back_9, rX9_back_12, rX9_back_14, rX9_back_15, rX9_back_16, rX9_back_17, rX9_back_20, rX9_back_21, rX9_back_22, rX9_back_25, rX9_back_26, rX9_back_28, rX9_back_30, rX9_back_33, rX9_back_34, rX9_back_37, rX9_back_38, rX9_back_39, rX9_back_42, rX9_back_44, rX9_back_45, rX9_back_48, rX9_back_49, rX9_back_50, rX9_back_51, rX9_back_52, rX9_back_53, rX9_back_56, rX9_back_59, rX9_back_60, rX9_back_61, rX9_back_64, rX9_back_65, rX9_back_68, true_and, and_true, true_or, or_true, false_or, or_false, Option.toList_some, Option.toList_none, List.nil_append, List.cons_append, zn1, kM hG, zup_def, zset_at, zfu_at, Nat.reduceEqDiff, Int.reduceEq, reduceIte, g12]
        rw [if_pos (by omega)]
        refine hq _ m rfl (fun b b1 b2 => ?_) (fun i i1 i2 i3 => ?_) ?_ ?_ (fun i i0 i1 => ?_)
        · rw [zset_ne b1, zset_ne b2]
          exact f1 b b1
        · rw [zset_eq, zfu_at, if_neg i2]
          exact g1 i i1 i3
        · rw [zset_eq, zfu_at, if_neg (by omega)]
          exact g12
        · rw [zset_eq, zfu_at, if_pos rfl]
        · rw [zset_ne (by omega), zset_eq, cpyo_in0 i0 (by omega)]
      | succ l ih =>
        intro k hk
        have hih := ih (k + 1) (by omega)
        rw [← cpyo_s, Int.zero_add] at hih
        have e2 : zw (46 * (m : Int) + (k : Int)) = 46 * (m : Int) + (k : Int) := zw_id (by omega) (by omega)
        have e136 : H1 137 = H 137 := f1 137 (by omega)
        rw [rX9_back_27]
        simp only [rX9_back_28, rX9_back_30, rX9_back_33, rX9_back_34, rX9_back_37, rX9_back_38, rX9_back_39, rX9_back_42, rX9_back_44, rX9_back_45, rX9_back_48, rX9_back_49, rX9_back_50, rX9_back_51, rX9_back_52, rX9_back_53, rX9_back_56, true_and, and_true, true_or, or_true, false_or, or_false, Option.toList_some, Option.toList_none, List.nil_append, List.cons_append, zn1, kM hG, zup_def, zset_set, zset_at, Nat.reduceEqDiff, reduceIte, g12, e46, e2, e136, zwk (show k < 2000000000 by omega)]
        rw [if_neg (by omega)]
        exact ⟨by omega, by omega, hih⟩
    have := loop 46 0 (by omega)
    rw [show ((0 : Nat) : Int) = 0 from rfl, cpyo_0, zset_self] at this
    exact this
theorem sim_back : simOp qX8_back qX9_back [] := by
  intro G H h
  have hS := h
  obtain ⟨hG, ht, hx, ⟨hBk, hm8, hn8⟩, hd', ⟨kn, d0, d1, d2, d3⟩, ho⟩ := h
  rw [rX8_back_in]
  simp only [rX8_back_0, rX8_back_1, rX8_back_4, rX8_back_5, rX8_back_8, rX8_back_11, rX8_back_12, rX8_back_13, rX8_back_15, rX8_back_18, rX8_back_19, rX8_back_22, rX8_back_23, rX8_back_26, rX8_back_27, true_and, and_true, true_or, or_true, false_or, or_false, Option.toList_some, Option.toList_none, List.nil_append, List.cons_append, zn1, sO_0 hG, kK hG]
  refine ktake_kept hG d1 d0 (fun h0 => ?_) (fun H1 m hm f1 cp1 e14 e94 => ?_)
  · simp only [rX8_back_0, rX8_back_1, rX8_back_4, rX8_back_5, rX8_back_8, rX8_back_11, rX8_back_12, rX8_back_13, rX8_back_15, rX8_back_18, rX8_back_19, rX8_back_22, rX8_back_23, rX8_back_26, rX8_back_27, true_and, and_true, true_or, or_true, false_or, or_false, Option.toList_some, Option.toList_none, List.nil_append, List.cons_append, zn1, if_true]
    refine ⟨_, rfl, kX9_back (n := kn) hG d2 d0 (fun _ => ⟨rfl, SR_th hS⟩) (fun H' m hm => by omega)⟩
  · simp only [rX8_back_0, rX8_back_1, rX8_back_4, rX8_back_5, rX8_back_8, rX8_back_11, rX8_back_12, rX8_back_13, rX8_back_15, rX8_back_18, rX8_back_19, rX8_back_22, rX8_back_23, rX8_back_26, rX8_back_27, true_and, and_true, true_or, or_true, false_or, or_false, Option.toList_some, Option.toList_none, List.nil_append, List.cons_append, zn1, sO_0 hG, sO_38 hG, zup_def]
    rw [if_neg (by omega)]
    generalize hH1' : zset H1 38 (zfu (H1 38) 1 0) = H1'
    have f1' : ∀ b, b ≠ 94 → b ≠ 38 → (b < 7 ∨ 15 < b) → H1' b = H b := fun b b1 b2 b3 => by
      rw [← hH1', zset_ne b2]
      exact f1 b b1 b3
    have f1'' : ∀ b, b ≠ 38 → H1' b = H1 b := fun b b2 => by rw [← hH1', zset_ne b2]
    have e38 : H1' 38 1 = 0 := by rw [← hH1', zset_eq, zfu_at, if_pos rfl]
    refine ⟨_, rfl, kX9_back (n := kn) hG (by rw [f1' 130 (by omega) (by omega) (by omega)]; exact d2) d0 (fun z => by omega) (fun H3 m' hm' f3 g3 e14' e12 a3 => ?_)⟩
    have : m' = m := by omega
    subst this
    have aF : ∀ b, b ≠ 130 → b ≠ 134 → b ≠ 94 → b ≠ 38 → (b < 7 ∨ 15 < b) → H3 b = H b := fun b b1 b2 b3 b4 b5 => by
      rw [f3 b b1 b2]
      exact f1' b b3 b4 b5
    have bF : ∀ b, b ≠ 130 → b ≠ 134 → b ≠ 38 → H3 b = H1 b := fun b b1 b2 b3 => by
      rw [f3 b b1 b2, f1'' b b3]
    have m130 : ∀ q : Int, q ≠ 0 → q ≠ 12 → q ≠ 14 → H3 130 q = H 130 q := fun q q1 q2 q3 => by
      rw [g3 q q1 q2 q3, f1' 130 (by omega) (by omega) (by omega)]
    have e3 : H3 3 = H 3 := aF 3 (by omega) (by omega) (by omega) (by omega) (by omega)
    rw [f1' 137 (by omega) (by omega) (by omega)] at a3
    refine ⟨rfl, hG, SRt_c ht e3 ?_ ?_ (m130 4 (by omega) (by omega) (by omega)) (m130 6 (by omega) (by omega) (by omega)) (m130 7 (by omega) (by omega) (by omega)) (m130 8 (by omega) (by omega) (by omega)), SRx_c hx ?_ ?_ ?_ (m130 2 (by omega) (by omega) (by omega)), ⟨?_, ?_, ?_⟩, ⟨0, by omega, ?_, ?_, fun k hk => by omega⟩, ⟨m', by omega, ?_, e14', fun k hk => ?_⟩, SRo_c ho e3 ?_ (m130 16 (by omega) (by omega) (by omega)) ?_ ?_ ?_ ?_⟩
    · exact aF 4 (by omega) (by omega) (by omega) (by omega) (by omega)
    · exact aF 133 (by omega) (by omega) (by omega) (by omega) (by omega)
    · rw [aF 1 (by omega) (by omega) (by omega) (by omega) (by omega)]
    · exact aF 2 (by omega) (by omega) (by omega) (by omega) (by omega)
    · exact aF 131 (by omega) (by omega) (by omega) (by omega) (by omega)
    · rw [e3]
      exact EBk_congr (H := H1) (fun b b0 b1 => bF b (by omega) (by omega) (by omega)) a3 (EBk_copy cp1 (fun _ _ _ => rfl) (d3 m' (by omega)))
    · rw [bF 14 (by omega) (by omega) (by omega), e14]
      exact hm8
    · rw [aF 139 (by omega) (by omega) (by omega) (by omega) (by omega)]
      exact hn8
    · rw [f3 38 (by omega) (by omega)]
      exact e38
    · exact e12
    · rw [bF 94 (by omega) (by omega) (by omega)]
      exact e94
    · rw [e3, aF 137 (by omega) (by omega) (by omega) (by omega) (by omega)]
      exact EBk_congr (fun b b0 b1 => aF b (by omega) (by omega) (by omega) (by omega) (by omega)) (fun _ _ _ => rfl) (d3 k (by omega))
    · rw [aF 114 (by omega) (by omega) (by omega) (by omega) (by omega)]
    · exact aF 115 (by omega) (by omega) (by omega) (by omega) (by omega)
    · exact aF 116 (by omega) (by omega) (by omega) (by omega) (by omega)
    · exact aF 117 (by omega) (by omega) (by omega) (by omega) (by omega)
    · exact aF 138 (by omega) (by omega) (by omega) (by omega) (by omega)
