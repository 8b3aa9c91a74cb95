/-! parts of it that stay -/
theorem SRt_c {H H' : zH} (h : SRt H) (e3 : H' 3 = H 3) (e4 : H' 4 = H 4) (e133 : H' 133 = H 133) (m4 : H' 130 4 = H 130 4) (m6 : H' 130 6 = H 130 6) (m7 : H' 130 7 = H 130 7) (m8 : H' 130 8 = H 130 8) : SRt H' := by
  obtain ⟨t1, t2, t3⟩ := h
  refine ⟨?_, ?_, ?_⟩
  · unfold tOK at t1 ⊢
    rw [e3]
    exact t1
  · rw [e3, m4, m6, m7, m8]
    exact t2
  · rw [e3, e4, e133]
    exact t3
theorem SRx_c {H H' : zH} (h : SRx H) (e1 : H' 1 1 = H 1 1) (e2 : H' 2 = H 2) (e131 : H' 131 = H 131) (m2 : H' 130 2 = H 130 2) : SRx H' := by
  unfold SRx at h ⊢
  rw [e1, e2, e131, m2]
  exact h
theorem SRb_c {H H' : zH} (h : SRb H) (e3 : H' 3 1 = H 3 1) (e7 : ∀ b : Nat, 7 ≤ b → b ≤ 15 → H' b = H b) (e134 : ∀ i : Int, 0 ≤ i → i < 46 → H' 134 i = H 134 i) (hn : nmok (H' 139)) : SRb H' := by
  obtain ⟨b1, b2, b3⟩ := h
  refine ⟨?_, ?_, hn⟩
  · rw [e3]
    exact EBk_congr (fun b b0 b1 => e7 b (by omega) (by omega)) e134 b1
  · rw [e7 14 (by omega) (by omega)]
    exact b2
theorem SRd_c {G : zG} {H H' : zH} (hG : zOK G) (h : SRd G H) (e3 : H' 3 1 = H 3 1) (e38 : H' 38 1 = H 38 1) (m12 : H' 130 12 = H 130 12) (e40 : ∀ b : Nat, 40 ≤ b → b ≤ 93 → H' b = H b) (e136 : H' 136 = H 136) : SRd G H' := by
  obtain ⟨dn, d0, d1, d2, d3⟩ := h
  refine ⟨dn, d0, by rw [e38]; exact d1, by rw [m12]; exact d2, fun k hk => ?_⟩
  have := dcp_rng (dcp hG (show k < 6 by omega))
  rw [e3, e136]
  exact EBk_congr (fun b b0 b1 => e40 b (by omega) (by omega)) (fun _ _ _ => rfl) (d3 k hk)
theorem SRk_c {H H' : zH} (h : SRk H) (e3 : H' 3 1 = H 3 1) (e94 : H' 94 1 = H 94 1) (m14 : H' 130 14 = H 130 14) (e96 : ∀ b : Nat, 96 ≤ b → b ≤ 113 → H' b = H b) (e137 : H' 137 = H 137) : SRk H' := by
  obtain ⟨dn, d0, d1, d2, d3⟩ := h
  refine ⟨dn, d0, by rw [e94]; exact d1, by rw [m14]; exact d2, fun k hk => ?_⟩
  rw [e3, e137]
  exact EBk_congr (fun b b0 b1 => e96 b (by omega) (by omega)) (fun _ _ _ => rfl) (d3 k hk)
theorem SRo_c {H H' : zH} (h : SRo H) (e3 : H' 3 = H 3) (e114 : H' 114 3 = H 114 3) (m16 : H' 130 16 = H 130 16) (e115 : H' 115 = H 115) (e116 : H' 116 = H 116) (e117 : H' 117 = H 117) (e138 : H' 138 = H 138) : SRo H' := by
  obtain ⟨on, o0, o1, o2, o3⟩ := h
  refine ⟨on, o0, by rw [e114]; exact o1, by rw [m16]; exact o2, fun t ht => ?_⟩
  have := o3 t ht
  unfold tdOK at this ⊢
  rw [e3, e115, e116, e117, e138]
  exact this
/-! calls that but look -/
theorem kX8_isPerson {i : Int} {G : zG} {H : zH} {Q : Option zV → zG → zH → Prop} (hG : zOK G) (h1 : 1 ≤ H 3 1) (h2 : H 3 1 ≤ 6) : zCall qX8_isPerson [vr 0, vi i] G H Q ↔ Q (some (vi (bi (0 ≤ i ∧ i < H 3 1)))) G H := by
  refine zCall_det (fun Q' hq => ?_)
  rw [rX8_isPerson_in]
  have e := zw_id (z := H 3 1 - 1) (by omega) (by omega)
  simp only [rX8_isPerson_0, rX8_isPerson_1, rX8_isPerson_2, rX8_isPerson_3, rX8_isPerson_6, rX8_isPerson_9, rX8_isPerson_10, rX8_isPerson_11, rX8_isPerson_14, true_and, and_true, true_or, or_true, false_or, or_false, Option.toList_some, Option.toList_none, List.nil_append, List.cons_append, zn1, sO_0 hG, sO_3 hG, kX8_within, e]
  have : bi (0 ≤ i ∧ i ≤ H 3 1 - 1) = bi (0 ≤ i ∧ i < H 3 1) := by
    unfold bi
    split <;> split <;> first | rfl | omega
  rw [this]
  refine ⟨?_, hq⟩
  unfold bi
  split <;> simp
theorem sim_wipe : simOp qX8_wipe qX9_wipe [] := by
  intro G H h
  have hS := h
  obtain ⟨hG, ht, hx, hb, hd, hk, ho⟩ := h
  rw [rX8_wipe_in]
  simp only [rX8_wipe_0, rX8_wipe_1, rX8_wipe_4, rX8_wipe_7, rX8_wipe_8, rX8_wipe_9, rX8_wipe_12, rX8_wipe_13, rX8_wipe_16, rX8_wipe_17, true_and, and_true, true_or, or_true, false_or, or_false, Option.toList_some, Option.toList_none, List.nil_append, List.cons_append, zn1, sO_0 hG, sO_1 hG, zup_def]
  refine ⟨_, rfl, ?_⟩
  rw [rX9_wipe_in]
  simp only [rX9_wipe_0, rX9_wipe_1, rX9_wipe_2, rX9_wipe_5, rX9_wipe_6, rX9_wipe_9, rX9_wipe_10, rX9_wipe_11, rX9_wipe_12, rX9_wipe_15, rX9_wipe_16, true_and, and_true, true_or, or_true, false_or, or_false, Option.toList_some, Option.toList_none, List.nil_append, List.cons_append, zn1, kM hG, zup_def, zset_set, zset_eq]
  refine ⟨by simp [zset_at, zfu_at, hx.2.1], hG, SRt_c ht ?_ ?_ ?_ ?_ ?_ ?_ ?_, ⟨by simp [zset_at, zfu_at], by simp [zset_at, zfu_at], fun k k0 k1 => by simp [zset_at, zfu_at] at k1; omega⟩, SRb_c hb ?_ (fun b b0 b1 => ?_) (fun i _ _ => ?_) (by simp [zset_at]; exact hb.2.2), SRd_c hG hd ?_ ?_ ?_ (fun b b0 b1 => ?_) ?_, SRk_c hk ?_ ?_ ?_ (fun b b0 b1 => ?_) ?_, SRo_c ho ?_ ?_ ?_ ?_ ?_ ?_ ?_⟩
  all_goals first | rfl | (simp [zset_at, zfu_at]; done) | (rw [zset_ne (by omega), zset_ne (by omega)]) | (rw [zset_ne (by omega), zset_ne (by omega), zset_ne (by omega)])
theorem sim_forget : simOp qX8_forget qX9_forget [] := by
  intro G H h
  obtain ⟨hG, ht, hx, hb, hd, hk, ho⟩ := h
  rw [rX8_forget_in]
  simp only [rX8_forget_0, rX8_forget_1, rX8_forget_4, rX8_forget_7, rX8_forget_8, rX8_forget_9, rX8_forget_12, rX8_forget_13, rX8_forget_16, rX8_forget_17, true_and, and_true, true_or, or_true, false_or, or_false, Option.toList_some, Option.toList_none, List.nil_append, List.cons_append, zn1, sO_0 hG, sO_114 hG, zup_def]
  refine ⟨_, rfl, ?_⟩
  rw [rX9_forget_in]
  simp only [rX9_forget_0, rX9_forget_1, rX9_forget_2, rX9_forget_5, rX9_forget_6, rX9_forget_9, rX9_forget_10, rX9_forget_11, rX9_forget_12, rX9_forget_15, rX9_forget_16, true_and, and_true, true_or, or_true, false_or, or_false, Option.toList_some, Option.toList_none, List.nil_append, List.cons_append, zn1, kM hG, zup_def, zset_set, zset_eq]
  have e : H 130 16 = H 114 3 := by
    obtain ⟨n, -, h1, h2, -⟩ := ho
    rw [h1, h2]
  refine ⟨by simp [zset_at, zfu_at, e], hG, SRt_c ht ?_ ?_ ?_ ?_ ?_ ?_ ?_, SRx_c hx ?_ ?_ ?_ ?_, SRb_c hb ?_ (fun b b0 b1 => ?_) (fun i _ _ => ?_) (by simp [zset_at]; exact hb.2.2), SRd_c hG hd ?_ ?_ ?_ (fun b b0 b1 => ?_) ?_, SRk_c hk ?_ ?_ ?_ (fun b b0 b1 => ?_) ?_, ⟨0, by omega, ?_, ?_, fun t h0 => by omega⟩⟩
  all_goals first | rfl | (simp [zset_at, zfu_at]; done) | (rw [zset_ne (by omega), zset_ne (by omega)]) | (rw [zset_ne (by omega), zset_ne (by omega), zset_ne (by omega)])
theorem sim_count {w : Int} : simOp qX8_count qX9_count [vi w] := by
  intro G H h
  have hS := h
  obtain ⟨hG, ⟨ht1, ht2, -⟩, hx, ⟨⟨cs, -, hb1, hb2, -, -, hb3⟩, -⟩, ⟨dn, -, hd1, hd2, -⟩, ⟨kn, -, hk1, hk2, -⟩, ⟨on, -, ho1, ho2, -⟩⟩ := h
  have e12 : H 7 9 = H 134 12 := by rw [hb1.1, hb2.1]
  have hx2 := hx.2.1
  have hd : H 38 1 = H 130 12 := by rw [hd1, hd2]
  have hk : H 94 1 = H 130 14 := by rw [hk1, hk2]
  have ho : H 114 3 = H 130 16 := by rw [ho1, ho2]
  have b46 : (0 : Int) ≤ 12 ∧ (12 : Int) < 46 := by omega
  have c46 : (0 : Int) ≤ 45 ∧ (45 : Int) < 46 := by omega
  have hS' := SR_th hS
  unfold th0 at hS'
  rcases (show w = 0 ∨ w = 1 ∨ w = 2 ∨ w = 3 ∨ w = 4 ∨ w = 5 ∨ w = 6 ∨ (¬ w = 0 ∧ ¬ w = 1 ∧ ¬ w = 2 ∧ ¬ w = 3 ∧ ¬ w = 4 ∧ ¬ w = 5 ∧ ¬ w = 6) by omega) with rfl | rfl | rfl | rfl | rfl | rfl | rfl | ⟨n0, n1, n2, n3, n4, n5, n6⟩
  all_goals rw [rX8_count_in]
  all_goals simp only [rX8_count_0, rX8_count_1, rX8_count_44, rX8_count_45, rX8_count_48, rX8_count_51, rX8_count_52, rX8_count_53, rX8_count_56, rX8_count_59, rX8_count_60, rX8_count_61, rX8_count_64, rX8_count_67, rX8_count_68, rX8_count_69, rX8_count_72, rX8_count_75, rX8_count_76, rX8_count_77, rX8_count_80, rX8_count_83, rX8_count_84, rX8_count_85, rX8_count_88, rX8_count_91, rX8_count_92, rX8_count_93, rX8_count_96, rX8_count_99, rX8_count_100, rX8_count_101, true_and, and_true, true_or, or_true, false_or, or_false, Option.toList_some, Option.toList_none, List.nil_append, List.cons_append, zn1, sO_0 hG, sO_3 hG, kB hG bk7, sO_114 hG, sO_38 hG, sO_94 hG, sO_1 hG, reduceIte, Int.reduceEq, *]
  all_goals refine ⟨_, rfl, ?_⟩
  all_goals rw [rX9_count_in]
  all_goals simp only [rX9_count_0, rX9_count_1, rX9_count_2, rX9_count_5, rX9_count_6, rX9_count_9, rX9_count_10, rX9_count_13, rX9_count_16, rX9_count_17, rX9_count_18, rX9_count_21, rX9_count_22, rX9_count_25, rX9_count_27, rX9_count_28, rX9_count_31, rX9_count_32, rX9_count_33, rX9_count_36, rX9_count_37, rX9_count_40, rX9_count_43, rX9_count_44, rX9_count_45, rX9_count_48, rX9_count_49, rX9_count_52, rX9_count_55, rX9_count_56, rX9_count_57, rX9_count_60, rX9_count_61, rX9_count_64, rX9_count_67, rX9_count_68, rX9_count_69, rX9_count_72, rX9_count_73, rX9_count_76, rX9_count_79, rX9_count_80, rX9_count_82, rX9_count_85, rX9_count_86, rX9_count_89, rX9_count_91, rX9_count_92, rX9_count_95, rX9_count_96, true_and, and_true, true_or, or_true, false_or, or_false, Option.toList_some, Option.toList_none, List.nil_append, List.cons_append, zn1, kM hG, zup_def, zset_at, zfu_at, reduceIte, Int.reduceEq, Nat.reduceEqDiff, ne_eq, not_true, not_false_eq_true, *]
  all_goals first | exact ⟨rfl, hS'⟩ | exact ⟨b46, rfl, hS'⟩ | exact ⟨c46, rfl, hS'⟩ | skip
