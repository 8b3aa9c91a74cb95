/-! the notary -/
theorem sdueF_rng {r j d : Int} {bo am du : Int → Int} (r0 : 0 ≤ r) (r1 : r ≤ 99) : ∀ n : Nat, n ≤ 8 → (∀ k : Nat, k < n → 1 ≤ am k ∧ am k ≤ 200) → (0 ≤ sdueF r n bo am du j d ∧ sdueF r n bo am du j d ≤ 400 * (n : Int))
  | 0, _, _ => by
    show 0 ≤ (0 : Int) ∧ (0 : Int) ≤ 400 * ((0 : Nat) : Int)
    omega
  | n + 1, h8, h => by
    have ih := sdueF_rng (j := j) (d := d) (bo := bo) (am := am) (du := du) r0 r1 n (by omega) (fun k hk => h k (by omega))
    have hn := h n (by omega)
    have hd := zdue_rng r0 r1 (show 0 ≤ am n by omega) hn.2
    unfold sdueF at ih ⊢
    rw [zfor_succ, Nat.zero_add]
    split
    · rw [zw_id (by omega) (by omega)]
      omega
    · rw [zw_id (by omega) (by omega)]
      omega
theorem sdueF_succ {r j d : Int} {bo am du : Int → Int} (r0 : 0 ≤ r) (r1 : r ≤ 99) {n : Nat} (h8 : n + 1 ≤ 8) (h : ∀ k : Nat, k < n + 1 → 1 ≤ am k ∧ am k ≤ 200) : sdueF r (n + 1) bo am du j d = sdueF r n bo am du j d + (if bo n = j ∧ du n ≤ d then zdue r (am n) else 0) := by
  have ih := sdueF_rng (j := j) (d := d) (bo := bo) (am := am) (du := du) r0 r1 n (by omega) (fun k hk => h k (by omega))
  have hn := h n (by omega)
  have hd := zdue_rng r0 r1 (show 0 ≤ am n by omega) hn.2
  unfold sdueF at ih ⊢
  rw [zfor_succ, Nat.zero_add]
  split
  · rw [zw_id (by omega) (by omega)]
  · rw [zw_id (by omega) (by omega)]
theorem sdueF_congr {r j d : Int} {n : Nat} {bo am du bo' am' du' : Int → Int} (h1 : ∀ k : Nat, k < n → bo k = bo' k) (h2 : ∀ k : Nat, k < n → am k = am' k) (h3 : ∀ k : Nat, k < n → du k = du' k) : sdueF r n bo am du j d = sdueF r n bo' am' du' j d := by
  unfold sdueF
  refine zfor_congr (n := n) (fun k s hk => ?_) n 0 0 (by omega)
  rw [h1 k hk, h2 k hk, h3 k hk]
theorem kX9_says {n : Nat} {i j a d : Int} {G : zG} {H : zH} {Q : Option zV → zG → zH → Prop} (hG : zOK G) (hT : tOKm H) (hn : H 134 12 = (n : Int)) (h8 : n ≤ 8) (hw : sWok (H 134)) (i0 : 0 ≤ i) (i1 : i < 6) (j0 : 0 ≤ j) (j1 : j < 6) (a0 : 1 ≤ a) (a1 : a ≤ 200) (d0 : 1 ≤ d) (d1 : d ≤ 200) (ham : ∀ k : Nat, k < n → 1 ≤ mAm (H 134) k ∧ mAm (H 134) k ≤ 200) : zCall qX9_says [vr 130, vi i, vi j, vi a, vi d] G H Q ↔ Q (some (vi (sgb (H 130 8) (H 130 6) n (H 134) (mBo (H 134)) (mAm (H 134)) (mDu (H 134)) i j a d))) G H := by
  refine zCall_det (fun Q' hq => ?_)
  obtain ⟨⟨P0, P1⟩, ⟨r0, r1⟩, -, l0, l1⟩ := hT
  rw [rX9_says_in]
  have b46 : (0 : Int) ≤ 12 ∧ (12 : Int) < 46 := by omega
  have hwj := hw.le j j0 j1
  have hi46 : 0 ≤ i ∧ i < 46 := by omega
  have hj46 : 0 ≤ j ∧ j < 46 := by omega
  have e1 := zw_id (z := H 134 j + a) (by omega) (by omega)
  have e2 := zw_id (z := H 134 j + a - d) (by omega) (by omega)
  simp only [rX9_says_0, rX9_says_1, rX9_says_4, rX9_says_5, rX9_says_8, rX9_says_9, rX9_says_12, rX9_says_13, rX9_says_14, rX9_says_15, rX9_says_18, rX9_says_19, rX9_says_20, rX9_says_21, rX9_says_24, rX9_says_25, rX9_says_28, rX9_says_29, rX9_says_30, rX9_says_31, rX9_says_34, rX9_says_35, rX9_says_36, rX9_says_37, rX9_says_38, rX9_says_40, rX9_says_41, rX9_says_43, rX9_says_44, rX9_says_48, rX9_says_49, rX9_says_52, rX9_says_54, rX9_says_55, rX9_says_58, rX9_says_60, rX9_says_61, rX9_says_64, rX9_says_66, rX9_says_67, rX9_says_69, rX9_says_70, rX9_says_71, rX9_says_72, rX9_says_73, rX9_says_74, rX9_says_75, rX9_says_78, rX9_says_79, rX9_says_82, rX9_says_84, rX9_says_85, rX9_says_87, rX9_says_88, rX9_says_89, rX9_says_90, rX9_says_91, rX9_says_92, rX9_says_94, rX9_says_97, rX9_says_98, rX9_says_99, rX9_says_102, rX9_says_104, rX9_says_105, rX9_says_107, rX9_says_108, rX9_says_109, rX9_says_110, rX9_says_111, rX9_says_112, rX9_says_115, rX9_says_118, rX9_says_119, rX9_says_120, rX9_says_122, rX9_says_125, rX9_says_128, rX9_says_130, rX9_says_131, rX9_says_132, rX9_says_135, rX9_says_138, rX9_says_139, rX9_says_142, rX9_says_143, true_and, and_true, true_or, or_true, false_or, or_false, Option.toList_some, Option.toList_none, List.nil_append, List.cons_append, zn1, kM hG, hi46, hj46, e1, e2]
  have loop : ∀ (m k : Nat), k + m = n → zRun qX9_says 46 [vr 130, vi i, vi j, vi a, vi d, vi (H 134 j + a - d - sdueF (H 130 6) k (mBo (H 134)) (mAm (H 134)) (mDu (H 134)) j d), vi (k : Int)] [] G H (fun r g h => r = some (vi (if zdue (H 130 6) a < zw (zw (zw (H 134 j + a) - d) - sdueF (H 130 6) n (mBo (H 134)) (mAm (H 134)) (mDu (H 134)) j d) then 1 else 0)) ∧ g = G ∧ h = H) := by
    intro m
    induction m with
    | zero =>
      intro k hk
      have : k = n := by omega
      subst this
      have hs := sdueF_rng (j := j) (d := d) (bo := mBo (H 134)) (am := mAm (H 134)) (du := mDu (H 134)) r0 r1 k h8 ham
      rw [e1, e2, zw_id (z := H 134 j + a - d - _) (by omega) (by omega)]
      rw [rX9_says_46]
      simp only [rX9_says_0, rX9_says_1, rX9_says_4, rX9_says_5, rX9_says_8, rX9_says_9, rX9_says_12, rX9_says_13, rX9_says_14, rX9_says_15, rX9_says_18, rX9_says_19, rX9_says_20, rX9_says_21, rX9_says_24, rX9_says_25, rX9_says_28, rX9_says_29, rX9_says_30, rX9_says_31, rX9_says_34, rX9_says_35, rX9_says_36, rX9_says_37, rX9_says_38, rX9_says_40, rX9_says_41, rX9_says_43, rX9_says_44, rX9_says_48, rX9_says_49, rX9_says_52, rX9_says_54, rX9_says_55, rX9_says_58, rX9_says_60, rX9_says_61, rX9_says_64, rX9_says_66, rX9_says_67, rX9_says_69, rX9_says_70, rX9_says_71, rX9_says_72, rX9_says_73, rX9_says_74, rX9_says_75, rX9_says_78, rX9_says_79, rX9_says_82, rX9_says_84, rX9_says_85, rX9_says_87, rX9_says_88, rX9_says_89, rX9_says_90, rX9_says_91, rX9_says_92, rX9_says_94, rX9_says_97, rX9_says_98, rX9_says_99, rX9_says_102, rX9_says_104, rX9_says_105, rX9_says_107, rX9_says_108, rX9_says_109, rX9_says_110, rX9_says_111, rX9_says_112, rX9_says_115, rX9_says_118, rX9_says_119, rX9_says_120, rX9_says_122, rX9_says_125, rX9_says_128, rX9_says_130, rX9_says_131, rX9_says_132, rX9_says_135, rX9_says_138, rX9_says_139, rX9_says_142, rX9_says_143, true_and, and_true, true_or, or_true, false_or, or_false, Option.toList_some, Option.toList_none, List.nil_append, List.cons_append, zn1, kM hG, hn, b46, kX9_dueOf hG]
      rw [if_pos (by omega)]
      split
      · rw [if_neg (by omega)]
      · rw [if_pos (by omega)]
    | succ m ih =>
      intro k hk
      have hs := sdueF_rng (j := j) (d := d) (bo := mBo (H 134)) (am := mAm (H 134)) (du := mDu (H 134)) r0 r1 k (by omega) (fun k hk => ham k (by omega))
      have hs1 := sdueF_rng (j := j) (d := d) (bo := mBo (H 134)) (am := mAm (H 134)) (du := mDu (H 134)) r0 r1 (k + 1) (by omega) (fun k hk => ham k (by omega))
      have hsc := sdueF_succ (j := j) (d := d) (bo := mBo (H 134)) (am := mAm (H 134)) (du := mDu (H 134)) r0 r1 (n := k) (by omega) (fun k hk => ham k (by omega))
      have ih := ih (k + 1) (by omega)
      have b1 : 0 ≤ 13 + 4 * (k : Int) + 1 ∧ 13 + 4 * (k : Int) + 1 < 46 := by omega
      have b2 : 0 ≤ 13 + 4 * (k : Int) + 2 ∧ 13 + 4 * (k : Int) + 2 < 46 := by omega
      have b3 : 0 ≤ 13 + 4 * (k : Int) + 3 ∧ 13 + 4 * (k : Int) + 3 < 46 := by omega
      rw [rX9_says_46]
      simp only [rX9_says_0, rX9_says_1, rX9_says_4, rX9_says_5, rX9_says_8, rX9_says_9, rX9_says_12, rX9_says_13, rX9_says_14, rX9_says_15, rX9_says_18, rX9_says_19, rX9_says_20, rX9_says_21, rX9_says_24, rX9_says_25, rX9_says_28, rX9_says_29, rX9_says_30, rX9_says_31, rX9_says_34, rX9_says_35, rX9_says_36, rX9_says_37, rX9_says_38, rX9_says_40, rX9_says_41, rX9_says_43, rX9_says_44, rX9_says_48, rX9_says_49, rX9_says_52, rX9_says_54, rX9_says_55, rX9_says_58, rX9_says_60, rX9_says_61, rX9_says_64, rX9_says_66, rX9_says_67, rX9_says_69, rX9_says_70, rX9_says_71, rX9_says_72, rX9_says_73, rX9_says_74, rX9_says_75, rX9_says_78, rX9_says_79, rX9_says_82, rX9_says_84, rX9_says_85, rX9_says_87, rX9_says_88, rX9_says_89, rX9_says_90, rX9_says_91, rX9_says_92, rX9_says_94, rX9_says_97, rX9_says_98, rX9_says_99, rX9_says_102, rX9_says_104, rX9_says_105, rX9_says_107, rX9_says_108, rX9_says_109, rX9_says_110, rX9_says_111, rX9_says_112, rX9_says_115, rX9_says_118, rX9_says_119, rX9_says_120, rX9_says_122, rX9_says_125, rX9_says_128, rX9_says_130, rX9_says_131, rX9_says_132, rX9_says_135, rX9_says_138, rX9_says_139, rX9_says_142, rX9_says_143, true_and, and_true, true_or, or_true, false_or, or_false, Option.toList_some, Option.toList_none, List.nil_append, List.cons_append, zn1, kM hG, hn, b46, b1, b2, b3, ix4 (show k ≤ 8 by omega), kX9_dueOf hG, zwk (show k < 2000000000 by omega)]
      rw [if_neg (by omega)]
      have fin : ∀ x : Int, x = (if mBo (H 134) k = j ∧ mDu (H 134) k ≤ d then zdue (H 130 6) (mAm (H 134) k) else 0) → zRun qX9_says 46 [vr 130, vi i, vi j, vi a, vi d, vi (zw (H 134 j + a - d - sdueF (H 130 6) k (mBo (H 134)) (mAm (H 134)) (mDu (H 134)) j d - x)), vi ((k + 1 : Nat) : Int)] [] G H (fun r g h => r = some (vi (if zdue (H 130 6) a < zw (zw (zw (H 134 j + a) - d) - sdueF (H 130 6) n (mBo (H 134)) (mAm (H 134)) (mDu (H 134)) j d) then 1 else 0)) ∧ g = G ∧ h = H) := by
        intro x hx
        rw [← hx] at hsc
        rw [show H 134 j + a - d - sdueF (H 130 6) k (mBo (H 134)) (mAm (H 134)) (mDu (H 134)) j d - x = H 134 j + a - d - sdueF (H 130 6) (k + 1) (mBo (H 134)) (mAm (H 134)) (mDu (H 134)) j d by omega, zw_id (by omega) (by omega)]
        exact ih
      unfold mBo mAm mDu at fin ⊢
      by_cases c1 : H 134 (13 + 4 * (k : Int) + 1) = j
      · rw [if_neg (fun z => z c1)]
        by_cases c2 : H 134 (13 + 4 * (k : Int) + 3) ≤ d
        · rw [if_neg (by omega)]
          exact fin _ (by rw [if_pos ⟨c1, c2⟩])
        · rw [if_pos (by omega)]
          exact fin _ (by rw [if_neg (fun z => c2 z.2)])
      · rw [if_pos c1]
        exact fin _ (by rw [if_neg (fun z => c1 z.1)])
  have lp := loop n 0 (by omega)
  rw [show sdueF (H 130 6) 0 (mBo (H 134)) (mAm (H 134)) (mDu (H 134)) j d = 0 from rfl, Int.sub_zero] at lp
  unfold sgb at hq
  by_cases c2 : H 130 8 = 2
  · rw [if_pos c2]
    rw [if_neg (by omega), if_neg (by omega)] at hq
    exact hq
  · rw [if_neg c2]
    by_cases c3 : a < H 134 i
    · rw [if_pos c3]
      by_cases c4 : H 130 8 = 1
      · rw [if_neg (fun z => z c4)]
        rw [if_neg (by omega), if_pos c4, if_pos c3] at hq
        exact hq
      · rw [if_pos c4]
        rw [if_pos (by omega)] at hq
        refine zR_mono (fun r g h z => ?_) lp
        obtain ⟨z1, z2, z3⟩ := z
        rw [z1, z2, z3]
        by_cases c5 : zdue (H 130 6) a < zw (zw (zw (H 134 j + a) - d) - sdueF (H 130 6) n (mBo (H 134)) (mAm (H 134)) (mDu (H 134)) j d)
        · rw [if_pos c5]
          rw [if_pos ⟨c3, c5⟩] at hq
          exact hq
        · rw [if_neg c5]
          rw [if_neg (fun z => c5 z.2)] at hq
          exact hq
    · rw [if_neg c3]
      have e : (if H 130 8 = 0 then if a < H 134 i ∧ zdue (H 130 6) a < zw (zw (zw (H 134 j + a) - d) - sdueF (H 130 6) n (mBo (H 134)) (mAm (H 134)) (mDu (H 134)) j d) then (1 : Int) else 0 else if H 130 8 = 1 then if a < H 134 i then 1 else 0 else 0) = 0 := by
        rw [if_neg (show ¬ (a < H 134 i ∧ _) from fun z => c3 z.1), if_neg c3]
        split
        · rfl
        · split <;> rfl
      rw [e] at hq
      exact hq
theorem sgb_congr {law r i j a d : Int} {n : Nat} {w w' bo am du bo' am' du' : Int → Int} (hi : w i = w' i) (hj : w j = w' j) (h1 : ∀ k : Nat, k < n → bo k = bo' k) (h2 : ∀ k : Nat, k < n → am k = am' k) (h3 : ∀ k : Nat, k < n → du k = du' k) : sgb law r n w bo am du i j a d = sgb law r n w' bo' am' du' i j a d := by
  unfold sgb
  rw [hi, hj, sdueF_congr h1 h2 h3]
theorem sgb_01 {law r i j a d : Int} {n : Nat} {w bo am du : Int → Int} : sgb law r n w bo am du i j a d = 0 ∨ sgb law r n w bo am du i j a d = 1 := by
  unfold sgb
  repeat' split
  all_goals simp
theorem tOKm_of {H : zH} (h : SRt H) : tOKm H := by
  obtain ⟨t1, ⟨m4, m6, m7, m8⟩, -⟩ := h
  unfold tOKm
  rw [m4, m6, m7, m8]
  exact t1
theorem fit_ag {P i j n d : Int} {w w' : Int → Int} (hP : P ≤ 6) (h : ag6 w w') : ((i ≠ j ∧ ((0 ≤ i ∧ i < P) ∧ 0 < w i)) ∧ ((0 ≤ j ∧ j < P) ∧ 0 < w j) ∧ ((1 ≤ n ∧ n ≤ 200) ∧ (1 ≤ d ∧ d ≤ 200))) ↔ ((i ≠ j ∧ ((0 ≤ i ∧ i < P) ∧ 0 < w' i)) ∧ ((0 ≤ j ∧ j < P) ∧ 0 < w' j) ∧ ((1 ≤ n ∧ n ≤ 200) ∧ (1 ≤ d ∧ d ≤ 200))) := by
  by_cases ci : 0 ≤ i ∧ i < P
  · by_cases cj : 0 ≤ j ∧ j < P
    · rw [h i ci.1 (by omega), h j cj.1 (by omega)]
    · exact ⟨fun z => absurd z.2.1.1 cj, fun z => absurd z.2.1.1 cj⟩
  · exact ⟨fun z => absurd z.1.2.1 ci, fun z => absurd z.1.2.1 ci⟩
theorem bi_congr {P R : Prop} [Decidable P] [Decidable R] (h : P ↔ R) : bi P = bi R := by
  unfold bi
  by_cases c : P
  · rw [if_pos c, if_pos (h.mp c)]
  · rw [if_neg c, if_neg (fun z => c (h.mpr z))]
theorem sim_notary {i j n d : Int} : simOp qX8_notary qX9_notary [vi i, vi j, vi n, vi d] := by
  intro G H h
  have hS' := SR_th h
  obtain ⟨hG, ht, hx, ⟨⟨cs, hB⟩, -⟩, -⟩ := h
  have hT' := tOKm_of hS'.2.1
  obtain ⟨⟨⟨P0, P1⟩, -⟩, ⟨m4, m6, m7, m8⟩, -⟩ := ht
  have hk := EB_k hB
  obtain ⟨⟨h8, hc⟩, hb1, hb2, hb3, hb4, hb5⟩ := hB
  have t130 : ∀ q : Int, q ≠ 0 → th0 H 130 q = H 130 q := fun q hq => by
    unfold th0
    rw [zset_eq, zfu_at, if_neg hq]
  have t4 : th0 H 130 4 = H 3 1 := by rw [t130 4 (by omega), m4]
  have t134 : th0 H 134 = H 134 := by
    unfold th0
    rw [zset_ne (by omega)]
  have et : zset H 130 (zfu (H 130) 0 0) = th0 H := rfl
  have ag : ag6 (H 8) (H 134) := fun p p0 p1 => (hb3 p p0 p1).1
  have hf := fit_ag (i := i) (j := j) (n := n) (d := d) P1 ag
  rw [rX8_notary_in]
  simp only [rX8_notary_0, rX8_notary_1, rX8_notary_4, rX8_notary_5, rX8_notary_6, rX8_notary_7, rX8_notary_9, rX8_notary_12, rX8_notary_15, rX8_notary_16, rX8_notary_17, rX8_notary_18, rX8_notary_21, rX8_notary_22, rX8_notary_23, rX8_notary_24, rX8_notary_26, rX8_notary_29, rX8_notary_32, rX8_notary_33, rX8_notary_36, rX8_notary_37, true_and, and_true, true_or, or_true, false_or, or_false, Option.toList_some, Option.toList_none, List.nil_append, List.cons_append, zn1, sO_0 hG, kB hG bk7, kX0_isFit hG bk7 P0 P1, bi_ne0]
  have mod : ∀ Q2 : Option zV → zG → zH → Prop, zCall qX9_mayAsk [vr 130, vi i, vi j, vi n, vi d] G (th0 H) Q2 ↔ Q2 (some (vi (bi ((i ≠ j ∧ ((0 ≤ i ∧ i < H 3 1) ∧ 0 < H (7 + 1) i)) ∧ ((0 ≤ j ∧ j < H 3 1) ∧ 0 < H (7 + 1) j) ∧ ((1 ≤ n ∧ n ≤ 200) ∧ (1 ≤ d ∧ d ≤ 200)))))) G (th0 H) := fun Q2 => by
    rw [kX9_mayAsk hG (by rw [t4]; exact P0) (by rw [t4]; exact P1), t4, t134, bi_congr hf]
  by_cases c : (i ≠ j ∧ ((0 ≤ i ∧ i < H 3 1) ∧ 0 < H (7 + 1) i)) ∧ ((0 ≤ j ∧ j < H 3 1) ∧ 0 < H (7 + 1) j) ∧ ((1 ≤ n ∧ n ≤ 200) ∧ (1 ≤ d ∧ d ≤ 200))
  · rw [if_pos c]
    have hsa := fun Q2 => kX9_says (G := G) (H := th0 H) (Q := Q2) (n := cs.length) (i := i) (j := j) (a := n) (d := d) hG hT' (by rw [t134]; exact hb2.1) h8 (by rw [t134]; exact hb4) (by omega) (by omega) (by omega) (by omega) (by omega) (by omega) (by omega) (by omega) (by rw [t134]; exact fun k hk' => (hk k hk').2.2.2.2.2.2.1)
    rw [kX0_isGranted hG bk7 hb1.1 h8 (by omega) (by omega) (by omega) (by omega)]
    have es : sgb (H 3 4) (H 3 2) cs.length (H (7 + 1)) (H (7 + 4)) (H (7 + 5)) (H (7 + 6)) i j n d = sgb (H 3 4) (H 3 2) cs.length (H 134) (mBo (H 134)) (mAm (H 134)) (mDu (H 134)) i j n d := sgb_congr (ag i (by omega) (by omega)) (ag j (by omega) (by omega)) (fun k hk' => (hk k hk').2.1) (fun k hk' => (hk k hk').2.2.1) (fun k hk' => (hk k hk').2.2.2.1)
    rw [es]
    simp only [rX8_notary_0, rX8_notary_1, rX8_notary_4, rX8_notary_5, rX8_notary_6, rX8_notary_7, rX8_notary_9, rX8_notary_12, rX8_notary_15, rX8_notary_16, rX8_notary_17, rX8_notary_18, rX8_notary_21, rX8_notary_22, rX8_notary_23, rX8_notary_24, rX8_notary_26, rX8_notary_29, rX8_notary_32, rX8_notary_33, rX8_notary_36, rX8_notary_37, true_and, and_true, true_or, or_true, false_or, or_false, Option.toList_some, Option.toList_none, List.nil_append, List.cons_append, zn1]
    have key : ∀ v : Int, v = sgb (H 3 4) (H 3 2) cs.length (H 134) (mBo (H 134)) (mAm (H 134)) (mDu (H 134)) i j n d → (∃ v' : Int, some (vi v) = some (vi v') ∧ zCall qX9_notary [vr 130, vi i, vi j, vi n, vi d] G H (fun r' G2 H2 => r' = some (vi v') ∧ SR G2 H2)) := by
      intro v hv
      refine ⟨v, rfl, ?_⟩
      rw [rX9_notary_in]
      simp only [rX9_notary_0, rX9_notary_1, rX9_notary_2, rX9_notary_5, rX9_notary_6, rX9_notary_7, rX9_notary_8, rX9_notary_9, rX9_notary_11, rX9_notary_14, rX9_notary_17, rX9_notary_18, rX9_notary_21, rX9_notary_22, rX9_notary_23, rX9_notary_24, rX9_notary_25, rX9_notary_27, rX9_notary_30, rX9_notary_33, rX9_notary_34, rX9_notary_37, rX9_notary_38, true_and, and_true, true_or, or_true, false_or, or_false, Option.toList_some, Option.toList_none, List.nil_append, List.cons_append, zn1, kM hG, zup_def, et, mod, bi_ne0]
      rw [if_pos c, hsa, t130 8 (by omega), t130 6 (by omega), m6, m8, t134, ← hv]
      simp only [rX9_notary_0, rX9_notary_1, rX9_notary_2, rX9_notary_5, rX9_notary_6, rX9_notary_7, rX9_notary_8, rX9_notary_9, rX9_notary_11, rX9_notary_14, rX9_notary_17, rX9_notary_18, rX9_notary_21, rX9_notary_22, rX9_notary_23, rX9_notary_24, rX9_notary_25, rX9_notary_27, rX9_notary_30, rX9_notary_33, rX9_notary_34, rX9_notary_37, rX9_notary_38, true_and, and_true, true_or, or_true, false_or, or_false, Option.toList_some, Option.toList_none, List.nil_append, List.cons_append, zn1]
      rcases sgb_01 (law := H 3 4) (r := H 3 2) (n := cs.length) (w := H 134) (bo := mBo (H 134)) (am := mAm (H 134)) (du := mDu (H 134)) (i := i) (j := j) (a := n) (d := d) with z | z
      · rw [z] at hv
        rw [if_pos hv, hv]
        exact ⟨rfl, hS'⟩
      · rw [z] at hv
        rw [if_neg (by omega), hv]
        exact ⟨rfl, hS'⟩
    rcases sgb_01 (law := H 3 4) (r := H 3 2) (n := cs.length) (w := H 134) (bo := mBo (H 134)) (am := mAm (H 134)) (du := mDu (H 134)) (i := i) (j := j) (a := n) (d := d) with z | z
    · rw [if_pos z]
      exact key _ z.symm
    · rw [if_neg (by omega)]
      exact key _ z.symm
  · rw [if_neg c]
    refine ⟨_, rfl, ?_⟩
    rw [rX9_notary_in]
    simp only [rX9_notary_0, rX9_notary_1, rX9_notary_2, rX9_notary_5, rX9_notary_6, rX9_notary_7, rX9_notary_8, rX9_notary_9, rX9_notary_11, rX9_notary_14, rX9_notary_17, rX9_notary_18, rX9_notary_21, rX9_notary_22, rX9_notary_23, rX9_notary_24, rX9_notary_25, rX9_notary_27, rX9_notary_30, rX9_notary_33, rX9_notary_34, rX9_notary_37, rX9_notary_38, true_and, and_true, true_or, or_true, false_or, or_false, Option.toList_some, Option.toList_none, List.nil_append, List.cons_append, zn1, kM hG, zup_def, et, mod, bi_ne0]
    rw [if_neg c]
    exact hS'
