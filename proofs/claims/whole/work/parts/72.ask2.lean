/-! asked; bribed -/
theorem sim_ask {i n : Int} : simOp qX8_ask qX9_ask [vi i, vi n] := by
  intro G H h
  have hS := h
  obtain ⟨hG, ht, hx, hbk, hd, hk, ⟨on, o0, o1, o2, o3⟩⟩ := h
  obtain ⟨hT, ⟨m4, m6, m7, m8⟩, -⟩ := ht
  have hT' := hT
  obtain ⟨⟨P0, P1⟩, ⟨r0, r1⟩, -⟩ := hT'
  have et : zset H 130 (zfu (H 130) 0 0) = th0 H := rfl
  have t4 : th0 H 130 4 = H 3 1 := by rw [th0_130 (by omega)]; exact m4
  have hlim : ∀ t : Nat, t < on → (1 ≤ H 116 t ∧ H 116 t ≤ 400) ∧ (H 117 t = 0 ∨ H 117 t = 1) := fun t ht => ⟨td_lim hT (o3 t ht), (o3 t ht).2.2.2.2.2.1⟩
  have hL := (sl_spec (pp := H 115) (i := i) on hlim).1
  have hGr := (sg_spec (pp := H 115) (i := i) on hlim).1
  have pre : ∀ v : Int, ¬ ((0 ≤ i ∧ i < H 3 1) ∧ (1 ≤ n ∧ n ≤ 200)) → v = -1 → (∃ v' : Int, some (vi v) = some (vi v') ∧ zCall qX9_ask [vr 130, vi i, vi n] G H (fun r' G2 H2 => r' = some (vi v') ∧ SR G2 H2)) := by
    intro v hc hv
    subst hv
    refine ⟨_, rfl, ?_⟩
    rw [rX9_ask_in]
    simp only [rX9_ask_0, rX9_ask_1, rX9_ask_2, rX9_ask_5, rX9_ask_6, rX9_ask_7, rX9_ask_10, rX9_ask_13, rX9_ask_14, rX9_ask_17, rX9_ask_20, rX9_ask_21, true_and, and_true, true_or, or_true, false_or, or_false, Option.toList_some, Option.toList_none, List.nil_append, List.cons_append, zn1, kM hG, zup_def, et, kX9_isPerson hG (show 1 ≤ th0 H 130 4 by omega) (show th0 H 130 4 ≤ 6 by omega), kX9_isSpan, bi_ne0, bi_eq0, t4]
    by_cases c1 : 0 ≤ i ∧ i < H 3 1
    · rw [if_neg (fun z => z c1), if_neg (fun z => hc ⟨c1, z⟩)]
      exact SR_th hS
    · rw [if_pos c1]
      exact SR_th hS
  rw [rX8_ask_in]
  simp only [rX8_ask_0, rX8_ask_1, rX8_ask_2, rX8_ask_5, rX8_ask_8, rX8_ask_9, rX8_ask_10, rX8_ask_13, rX8_ask_16, rX8_ask_19, rX8_ask_20, rX8_ask_21, rX8_ask_22, rX8_ask_25, rX8_ask_26, rX8_ask_27, rX8_ask_30, rX8_ask_31, rX8_ask_34, rX8_ask_37, true_and, and_true, true_or, or_true, false_or, or_false, Option.toList_some, Option.toList_none, List.nil_append, List.cons_append, zn1, sO_0 hG, sO_3 hG, kTd hG, kX8_isPerson hG P0 P1, kX8_within, bi_ne0, bi_eq0, kX4_interestOn hG tm3]
  by_cases c1 : 0 ≤ i ∧ i < H 3 1
  · rw [if_neg (fun z => z c1)]
    by_cases c2 : 1 ≤ n ∧ n ≤ 200
    · rw [if_pos c2]
      have hi := zint_eq r0 r1 (show 0 ≤ n by omega) c2.2
      refine kX6_bestDue hG o1 o0 rfl rfl hL.1 hL.2 hGr.1 hGr.2 (by omega) (by omega) ?_
      simp only [rX8_ask_0, rX8_ask_1, rX8_ask_2, rX8_ask_5, rX8_ask_8, rX8_ask_9, rX8_ask_10, rX8_ask_13, rX8_ask_16, rX8_ask_19, rX8_ask_20, rX8_ask_21, rX8_ask_22, rX8_ask_25, rX8_ask_26, rX8_ask_27, rX8_ask_30, rX8_ask_31, rX8_ask_34, rX8_ask_37, true_and, and_true, true_or, or_true, false_or, or_false, Option.toList_some, Option.toList_none, List.nil_append, List.cons_append, zn1]
      refine ⟨_, rfl, ?_⟩
      rw [rX9_ask_in]
      simp only [rX9_ask_0, rX9_ask_1, rX9_ask_2, rX9_ask_5, rX9_ask_6, rX9_ask_7, rX9_ask_10, rX9_ask_13, rX9_ask_14, rX9_ask_17, rX9_ask_20, rX9_ask_21, rX9_ask_22, rX9_ask_23, rX9_ask_24, true_and, and_true, true_or, or_true, false_or, or_false, Option.toList_some, Option.toList_none, List.nil_append, List.cons_append, zn1, kM hG, zup_def, et, kX9_isPerson hG (show 1 ≤ th0 H 130 4 by omega) (show th0 H 130 4 ≤ 6 by omega), kX9_isSpan, bi_ne0, bi_eq0, t4]
      rw [if_neg (fun z => z c1), if_pos c2]
      refine kspans (n := on) (H := H) hG hT m6 o2 o0 o3 (fun q hq => th0_130 hq) (th0_ne (by omega)) (fun H2 f2 g2 a2 b2 => ?_)
      have hS2 : SR G H2 := by
        refine SR_M (SR_th hS) ⟨fun b hb => f2 b (by omega), ⟨f2 _ (by omega), f2 _ (by omega), f2 _ (by omega), f2 _ (by omega), f2 _ (by omega)⟩, fun q _ _ => by rw [f2 134 (by omega)], fun q _ q2 q3 => g2 q q2 q3, ?_⟩
        rw [f2 139 (by omega), th0_ne (by omega)]
        exact hbk.2.2
      simp only [rX9_ask_27, rX9_ask_29, rX9_ask_30, rX9_ask_31, rX9_ask_33, rX9_ask_34, true_and, and_true, true_or, or_true, false_or, or_false, Option.toList_some, Option.toList_none, List.nil_append, List.cons_append, zn1]
      exact ask_loop hG (it := zint (H 3 2) n) (by rw [g2 6 (by omega) (by omega), th0_130 (by omega), m6]) a2 b2 hL.1 hL.2 hGr.1 hGr.2 (by omega) (by omega) ⟨rfl, hS2⟩
    · rw [if_neg c2]
      exact pre _ (fun z => c2 z.2) rfl
  · rw [if_pos c1]
    exact pre _ (fun z => c1 z.1) rfl
/-- bits of what is not so -/
def sbri (n : Nat) (la pp mo lim : Int → Int) : Int := zfor (fun t acc => zor acc (if (lim t < la (pp t) ↔ mo t = 1) then 0 else zshl 1 t)) 0 n 0
theorem kX6_untrueOf {n : Nat} {G : zG} {H : zH} {Q : Option zV → zG → zH → Prop} (hG : zOK G) (hn : H 114 3 = (n : Int)) (h12 : n ≤ 12) (hp : ∀ t : Nat, t < n → (0 ≤ H 115 t ∧ H 115 t < 6) ∧ (H 117 t = 0 ∨ H 117 t = 1)) : zCall qX6_untrueOf [vr 114, vr 3] G H Q ↔ Q (some (vi (sbri n (H 4) (H 115) (H 117) (H 116)))) G H := by
  refine zCall_det (fun Q' hq => ?_)
  rw [rX6_untrueOf_in]
  simp only [rX6_untrueOf_0, rX6_untrueOf_1, rX6_untrueOf_2, rX6_untrueOf_3, rX6_untrueOf_5, rX6_untrueOf_6, rX6_untrueOf_9, rX6_untrueOf_12, rX6_untrueOf_13, rX6_untrueOf_16, rX6_untrueOf_17, rX6_untrueOf_20, rX6_untrueOf_21, rX6_untrueOf_22, rX6_untrueOf_23, rX6_untrueOf_24, rX6_untrueOf_27, rX6_untrueOf_28, rX6_untrueOf_29, rX6_untrueOf_32, rX6_untrueOf_33, rX6_untrueOf_36, rX6_untrueOf_37, rX6_untrueOf_39, rX6_untrueOf_40, rX6_untrueOf_42, rX6_untrueOf_43, rX6_untrueOf_46, rX6_untrueOf_47, rX6_untrueOf_48, rX6_untrueOf_51, rX6_untrueOf_52, rX6_untrueOf_55, rX6_untrueOf_56, rX6_untrueOf_57, rX6_untrueOf_58, rX6_untrueOf_59, rX6_untrueOf_60, rX6_untrueOf_63, rX6_untrueOf_66, rX6_untrueOf_67, true_and, and_true, true_or, or_true, false_or, or_false, Option.toList_some, Option.toList_none, List.nil_append, List.cons_append, zn1]
  have key : ∀ v4 : zV, zRun qX6_untrueOf 4 [vr 114, vr 3, vi 0, vi 0, v4] [] G H Q' := by
    intro v4
    refine zfor_go (R := fun k acc => ∀ v4 : zV, zRun qX6_untrueOf 4 [vr 114, vr 3, vi acc, vi (k : Int), v4] [] G H Q') (F := fun t acc => zor acc (if (H 116 t < H 4 (H 115 t) ↔ H 117 t = 1) then 0 else zshl 1 t)) (n := n) (fun k acc hk hq v4 => ?_) 0 ?_ v4
    · have c : (0 : Int) ≤ k ∧ (k : Int) < 12 := by omega
      obtain ⟨p1, p2⟩ := hp k hk
      rw [rX6_untrueOf_4]
      simp only [rX6_untrueOf_0, rX6_untrueOf_1, rX6_untrueOf_2, rX6_untrueOf_3, rX6_untrueOf_5, rX6_untrueOf_6, rX6_untrueOf_9, rX6_untrueOf_12, rX6_untrueOf_13, rX6_untrueOf_16, rX6_untrueOf_17, rX6_untrueOf_20, rX6_untrueOf_21, rX6_untrueOf_22, rX6_untrueOf_23, rX6_untrueOf_24, rX6_untrueOf_27, rX6_untrueOf_28, rX6_untrueOf_29, rX6_untrueOf_32, rX6_untrueOf_33, rX6_untrueOf_36, rX6_untrueOf_37, rX6_untrueOf_39, rX6_untrueOf_40, rX6_untrueOf_42, rX6_untrueOf_43, rX6_untrueOf_46, rX6_untrueOf_47, rX6_untrueOf_48, rX6_untrueOf_51, rX6_untrueOf_52, rX6_untrueOf_55, rX6_untrueOf_56, rX6_untrueOf_57, rX6_untrueOf_58, rX6_untrueOf_59, rX6_untrueOf_60, rX6_untrueOf_63, rX6_untrueOf_66, rX6_untrueOf_67, true_and, and_true, true_or, or_true, false_or, or_false, Option.toList_some, Option.toList_none, List.nil_append, List.cons_append, zn1, kTd hG, hn, c, sO_3 hG, sO_4 hG, p1, zwk (show k < 2000000000 by omega)]
      rw [if_neg (by omega)]
      by_cases c1 : H 4 (H 115 k) ≤ H 116 k
      · rw [if_pos c1]
        by_cases c2 : H 117 k = 0
        · rw [if_neg (fun z => z c2.symm)]
          rw [if_pos ⟨fun z => by omega, fun z => by omega⟩] at hq
          exact hq _
        · rw [if_pos (fun z => c2 z.symm)]
          rw [if_neg (fun z => by have := z.mpr (by omega); omega)] at hq
          exact hq _
      · rw [if_neg c1]
        by_cases c2 : H 117 k = 1
        · rw [if_neg (fun z => z c2.symm)]
          rw [if_pos ⟨fun _ => c2, fun _ => by omega⟩] at hq
          exact hq _
        · rw [if_pos (fun z => c2 z.symm)]
          rw [if_neg (fun z => c2 (z.mp (by omega)))] at hq
          exact hq _
    · intro v4
      rw [rX6_untrueOf_4]
      simp only [rX6_untrueOf_0, rX6_untrueOf_1, rX6_untrueOf_2, rX6_untrueOf_3, rX6_untrueOf_5, rX6_untrueOf_6, rX6_untrueOf_9, rX6_untrueOf_12, rX6_untrueOf_13, rX6_untrueOf_16, rX6_untrueOf_17, rX6_untrueOf_20, rX6_untrueOf_21, rX6_untrueOf_22, rX6_untrueOf_23, rX6_untrueOf_24, rX6_untrueOf_27, rX6_untrueOf_28, rX6_untrueOf_29, rX6_untrueOf_32, rX6_untrueOf_33, rX6_untrueOf_36, rX6_untrueOf_37, rX6_untrueOf_39, rX6_untrueOf_40, rX6_untrueOf_42, rX6_untrueOf_43, rX6_untrueOf_46, rX6_untrueOf_47, rX6_untrueOf_48, rX6_untrueOf_51, rX6_untrueOf_52, rX6_untrueOf_55, rX6_untrueOf_56, rX6_untrueOf_57, rX6_untrueOf_58, rX6_untrueOf_59, rX6_untrueOf_60, rX6_untrueOf_63, rX6_untrueOf_66, rX6_untrueOf_67, true_and, and_true, true_or, or_true, false_or, or_false, Option.toList_some, Option.toList_none, List.nil_append, List.cons_append, zn1, kTd hG, hn]
      rw [if_pos (by omega)]
      exact hq
  exact key vu
theorem sim_bribed : simOp qX8_bribed qX9_bribed [] := by
  intro G H h
  have hS := h
  obtain ⟨hG, ht, hx, hbk, hd, hk, ⟨on, o0, o1, o2, o3⟩⟩ := h
  obtain ⟨hT, ⟨m4, m6, m7, m8⟩, hla⟩ := ht
  have hT' := hT
  obtain ⟨⟨P0, P1⟩, ⟨r0, r1⟩, -⟩ := hT'
  have et : zset H 130 (zfu (H 130) 0 0) = th0 H := rfl
  have hp : ∀ t : Nat, t < on → (0 ≤ H 115 t ∧ H 115 t < 6) ∧ (H 117 t = 0 ∨ H 117 t = 1) := fun t ht => by
    obtain ⟨p, -, -, -, -, q, -⟩ := o3 t ht
    exact ⟨⟨p.1, by omega⟩, q⟩
  rw [rX8_bribed_in]
  simp only [rX8_bribed_0, rX8_bribed_1, rX8_bribed_4, rX8_bribed_5, rX8_bribed_8, rX8_bribed_11, true_and, and_true, true_or, or_true, false_or, or_false, Option.toList_some, Option.toList_none, List.nil_append, List.cons_append, zn1, sO_0 hG, kTd hG, kX6_untrueOf hG o1 o0 hp]
  refine ⟨_, rfl, ?_⟩
  rw [rX9_bribed_in]
  simp only [rX9_bribed_0, rX9_bribed_1, rX9_bribed_2, rX9_bribed_5, rX9_bribed_6, rX9_bribed_7, rX9_bribed_8, true_and, and_true, true_or, or_true, false_or, or_false, Option.toList_some, Option.toList_none, List.nil_append, List.cons_append, zn1, kM hG, zup_def, et]
  have t138 : th0 H 138 = H 138 := th0_ne (by omega)
  have t133 : th0 H 133 = H 133 := th0_ne (by omega)
  have t16 : th0 H 130 16 = (on : Int) := by rw [th0_130 (by omega)]; exact o2
  have t6 : th0 H 130 6 = H 130 6 := th0_130 (by omega)
  unfold sbri
  refine zfor_loop (R := fun k acc => zRun qX9_bribed 9 [vr 130, vi acc, vi (k : Int)] [] G (th0 H) (fun r' G2 H2 => r' = some (vi (zfor (fun t acc => zor acc (if (H 116 t < H 4 (H 115 t) ↔ H 117 t = 1) then 0 else zshl 1 t)) 0 on 0)) ∧ SR G2 H2)) (I := fun _ _ => True) (n := on) (F := fun t acc => zor acc (if (H 116 t < H 4 (H 115 t) ↔ H 117 t = 1) then 0 else zshl 1 t)) (fun _ _ _ _ => trivial) (fun k acc hk _ hq => ?_) on 0 0 (by omega) trivial ?_
  · have y0 : zw (4 * (k : Int)) = 4 * (k : Int) := zw_id (by omega) (by omega)
    have z0 : 0 ≤ 4 * (k : Int) ∧ 4 * (k : Int) < 48 := by omega
    obtain ⟨p1, p2, t1, t2, t3, t4, t5⟩ := o3 k hk
    obtain ⟨q1, q2, q3⟩ := td_m m6 (o3 k hk)
    have hso := fun Q2 x => kX9_isSo (G := G) (H := th0 H) (Q := Q2) (t := k) (x := x) hG (by omega) (by omega) (by omega) (by rw [t138]; exact t1.1) (by rw [t138]; exact t1.2) (by rw [t138]; exact t2.1) (by rw [t138]; exact t2.2)
    rw [t138, t6, ← q2, ← q3] at hso
    have hl := (hla (H 115 k) p1.1 p1.2).1
    have z1 : 0 ≤ H 115 k ∧ H 115 k < 6 := (hp k hk).1
    rw [rX9_bribed_9]
    simp only [rX9_bribed_10, rX9_bribed_11, rX9_bribed_14, rX9_bribed_17, rX9_bribed_18, rX9_bribed_19, rX9_bribed_20, rX9_bribed_21, rX9_bribed_24, rX9_bribed_25, rX9_bribed_28, rX9_bribed_29, rX9_bribed_30, rX9_bribed_31, rX9_bribed_32, rX9_bribed_33, rX9_bribed_36, rX9_bribed_39, rX9_bribed_40, rX9_bribed_43, rX9_bribed_44, rX9_bribed_45, rX9_bribed_46, rX9_bribed_47, rX9_bribed_48, rX9_bribed_51, true_and, and_true, true_or, or_true, false_or, or_false, Option.toList_some, Option.toList_none, List.nil_append, List.cons_append, zn1, kM hG, t16, t138, t133, y0, z0, p2, z1, hso, hl, bi_eq0, zwk (show k < 2000000000 by omega)]
    rw [if_neg (by omega)]
    by_cases c : (H 116 k < H 4 (H 115 k) ↔ H 117 k = 1)
    · rw [if_neg (fun z => z c)]
      rw [if_pos c] at hq
      exact hq
    · rw [if_pos c]
      rw [if_neg c] at hq
      exact hq
  · rw [rX9_bribed_9]
    simp only [rX9_bribed_10, rX9_bribed_11, rX9_bribed_14, rX9_bribed_54, rX9_bribed_55, true_and, and_true, true_or, or_true, false_or, or_false, Option.toList_some, Option.toList_none, List.nil_append, List.cons_append, zn1, kM hG, t16]
    rw [if_pos (by omega)]
    exact SR_th hS
