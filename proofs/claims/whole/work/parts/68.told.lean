/-! what is told -/
theorem kTd {G : zG} (hG : zOK G) : (zC G 114 6 ∧ zR G 114 0 = 115 ∧ zlt G 115 ∧ zR G 114 1 = 116 ∧ zlt G 116 ∧ zR G 114 2 = 117 ∧ zlt G 117) ∧ (zC G 115 100 ∧ zlen G 115 = 12) ∧ (zC G 116 100 ∧ zlen G 116 = 12) ∧ (zC G 117 101 ∧ zlen G 117 = 12) := ⟨sO_114 hG, sO_115 hG, sO_116 hG, sO_117 hG⟩
theorem td_lim {H : zH} {t : Nat} (hT : tOK H) (h : tdOK H t) : 1 ≤ H 116 t ∧ H 116 t ≤ 400 := by
  obtain ⟨-, -, n1, d1, e, -⟩ := h
  obtain ⟨-, ⟨r0, r1⟩, -⟩ := hT
  have := zint_eq r0 r1 (show 0 ≤ H 138 (4 * (t : Int) + 1) by omega) n1.2
  rw [e, this.1]
  omega
theorem kX6_add {n : Nat} {i l b : Int} {G : zG} {H : zH} {Q' : Option zV → zG → zH → Prop} (hG : zOK G) (hn : H 114 3 = (n : Int)) (h12 : n < 12) (hb : b = 0 ∨ b = 1)
    (hq : ∀ H' : zH, (∀ x, x ≠ 114 → x ≠ 115 → x ≠ 116 → x ≠ 117 → H' x = H x) → H' 115 = zfu (H 115) n i → H' 116 = zfu (H 116) n l → H' 117 = zfu (H 117) n b → H' 114 3 = ((n + 1 : Nat) : Int) → Q' none G H') : zCall qX6_add [vr 114, vi i, vi l, vi b] G H Q' := by
  have c : (0 : Int) ≤ n ∧ (n : Int) < 12 := by omega
  rw [rX6_add_in]
  simp only [rX6_add_0, rX6_add_1, rX6_add_4, rX6_add_6, rX6_add_9, rX6_add_10, rX6_add_11, rX6_add_14, rX6_add_15, rX6_add_18, rX6_add_19, rX6_add_20, rX6_add_21, rX6_add_24, rX6_add_25, rX6_add_28, rX6_add_29, rX6_add_30, rX6_add_31, rX6_add_34, rX6_add_35, rX6_add_38, rX6_add_39, rX6_add_40, rX6_add_41, rX6_add_42, rX6_add_45, rX6_add_46, rX6_add_47, rX6_add_50, true_and, and_true, true_or, or_true, false_or, or_false, Option.toList_some, Option.toList_none, List.nil_append, List.cons_append, zn1, kTd hG, zup_def, zset_at, Nat.reduceEqDiff, reduceIte, hn, hb, zwk (show n < 2000000000 by omega), c, if_true]
  refine hq _ (fun x x1 x2 x3 x4 => ?_) ?_ ?_ ?_ ?_
  · rw [zset_ne x1, zset_ne x4, zset_ne x3, zset_ne x2]
  · rw [zset_ne (by omega), zset_ne (by omega), zset_ne (by omega), zset_eq]
  · rw [zset_ne (by omega), zset_ne (by omega), zset_eq]
  · rw [zset_ne (by omega), zset_eq]
  · rw [zset_eq, zfu_at, if_pos rfl]
theorem sim_tell {i n d b : Int} (hb : b = 0 ∨ b = 1) : simOp qX8_tell qX9_tell [vi i, vi n, vi d, vi b] := by
  intro G H h
  have hS := h
  obtain ⟨hG, ht, hx, hbk, hd, hk, ⟨on, o0, o1, o2, o3⟩⟩ := h
  have ht' := ht
  obtain ⟨hT, ⟨m4, m6, m7, m8⟩, -⟩ := ht'
  have hT' := hT
  obtain ⟨⟨P0, P1⟩, ⟨r0, r1⟩, -⟩ := hT'
  have pre : ∀ (H1 : zH) (Q2 : Option zV → zG → zH → Prop), (∀ x, 130 ≤ x → H1 x = H x) → (¬ ((0 ≤ i ∧ i < H 3 1) ∧ ((1 ≤ n ∧ n ≤ 200) ∧ (1 ≤ d ∧ d ≤ 200))) → Q2 (some (vi (-1))) G (th0 H1)) → (((0 ≤ i ∧ i < H 3 1) ∧ ((1 ≤ n ∧ n ≤ 200) ∧ (1 ≤ d ∧ d ≤ 200))) → (on = 12 → Q2 (some (vi (-3))) G (th0 H1)) ∧ (on ≠ 12 → zRun qX9_tell 41 [vr 130, vi i, vi n, vi d, vi b] [] G (th0 H1) Q2)) → zCall qX9_tell [vr 130, vi i, vi n, vi d, vi b] G H1 Q2 := by
    intro H1 Q2 f1 q1 q2
    have et : zset H1 130 (zfu (H1 130) 0 0) = th0 H1 := rfl
    have t4 : th0 H1 130 4 = H 3 1 := by rw [th0_130 (by omega), f1 130 (by omega)]; exact m4
    have t16 : th0 H1 130 16 = (on : Int) := by rw [th0_130 (by omega), f1 130 (by omega)]; exact o2
    rw [rX9_tell_in]
    simp only [rX9_tell_0, rX9_tell_1, rX9_tell_2, rX9_tell_5, rX9_tell_6, rX9_tell_7, rX9_tell_10, rX9_tell_13, rX9_tell_14, rX9_tell_17, rX9_tell_20, rX9_tell_21, rX9_tell_24, rX9_tell_27, rX9_tell_28, rX9_tell_29, rX9_tell_30, rX9_tell_33, rX9_tell_35, rX9_tell_38, rX9_tell_40, true_and, and_true, true_or, or_true, false_or, or_false, Option.toList_some, Option.toList_none, List.nil_append, List.cons_append, zn1, kM hG, zup_def, et, kX9_isPerson hG (show 1 ≤ th0 H1 130 4 by omega) (show th0 H1 130 4 ≤ 6 by omega), kX9_isSpan, bi_ne0, bi_eq0, t4, t16]
    by_cases c1 : 0 ≤ i ∧ i < H 3 1
    · rw [if_neg (fun z => z c1)]
      by_cases c2 : 1 ≤ n ∧ n ≤ 200
      · rw [if_neg (fun z => z c2)]
        by_cases c3 : 1 ≤ d ∧ d ≤ 200
        · rw [if_pos c3]
          have q2 := q2 ⟨c1, c2, c3⟩
          by_cases c4 : on = 12
          · rw [if_neg (fun z => z (by omega))]
            exact q2.1 c4
          · rw [if_pos (by omega)]
            exact q2.2 c4
        · rw [if_neg c3]
          exact q1 (fun z => c3 z.2.2)
      · rw [if_pos c2]
        exact q1 (fun z => c2 z.2.1)
    · rw [if_pos c1]
      exact q1 (fun z => c1 z.1)
  rw [rX8_tell_in]
  simp only [rX8_tell_0, rX8_tell_1, rX8_tell_2, rX8_tell_5, rX8_tell_8, rX8_tell_9, rX8_tell_10, rX8_tell_13, rX8_tell_16, rX8_tell_17, rX8_tell_18, rX8_tell_19, rX8_tell_22, rX8_tell_25, rX8_tell_27, rX8_tell_30, rX8_tell_32, rX8_tell_33, rX8_tell_34, rX8_tell_37, rX8_tell_38, rX8_tell_39, rX8_tell_40, rX8_tell_43, rX8_tell_44, rX8_tell_47, rX8_tell_48, rX8_tell_50, rX8_tell_53, rX8_tell_54, rX8_tell_57, rX8_tell_60, true_and, and_true, true_or, or_true, false_or, or_false, Option.toList_some, Option.toList_none, List.nil_append, List.cons_append, zn1, sO_0 hG, kX8_isPerson hG P0 P1, kX8_isLoanOf, bi_ne0, bi_eq0, kTd hG, o1, kX4_interestOn hG tm3]
  by_cases c1 : 0 ≤ i ∧ i < H 3 1
  · rw [if_neg (fun z => z c1)]
    by_cases c2 : (1 ≤ n ∧ n ≤ 200) ∧ (1 ≤ d ∧ d ≤ 200)
    · rw [if_pos c2]
      by_cases c3 : (on : Int) < 12
      · rw [if_pos c3]
        have hi := zint_eq r0 r1 (show 0 ≤ n by omega) c2.1.2
        have el := zw_id (z := d + zint (H 3 2) n) (by omega) (by omega)
        rw [el]
        refine ⟨(sO_3 hG).1, kX6_add hG o1 (by omega) hb (fun H1 f1 e115 e116 e117 e114 => ?_)⟩
        simp only [rX8_tell_0, rX8_tell_1, rX8_tell_2, rX8_tell_5, rX8_tell_8, rX8_tell_9, rX8_tell_10, rX8_tell_13, rX8_tell_16, rX8_tell_17, rX8_tell_18, rX8_tell_19, rX8_tell_22, rX8_tell_25, rX8_tell_27, rX8_tell_30, rX8_tell_32, rX8_tell_33, rX8_tell_34, rX8_tell_37, rX8_tell_38, rX8_tell_39, rX8_tell_40, rX8_tell_43, rX8_tell_44, rX8_tell_47, rX8_tell_48, rX8_tell_50, rX8_tell_53, rX8_tell_54, rX8_tell_57, rX8_tell_60, true_and, and_true, true_or, or_true, false_or, or_false, Option.toList_some, Option.toList_none, List.nil_append, List.cons_append, zn1, sO_0 hG, kTd hG, e114]
        refine ⟨_, rfl, pre H1 _ (fun x hx => f1 x (by omega) (by omega) (by omega) (by omega)) (fun z => absurd ⟨c1, c2⟩ z) (fun _ => ⟨fun z => by omega, fun _ => ?_⟩)⟩
        have t16 : th0 H1 130 16 = (on : Int) := by rw [th0_130 (by omega), f1 130 (by omega) (by omega) (by omega) (by omega)]; exact o2
        have x0 : zw (4 * (on : Int)) = 4 * (on : Int) := zw_id (by omega) (by omega)
        have x1 : zw (4 * (on : Int) + 1) = 4 * (on : Int) + 1 := zw_id (by omega) (by omega)
        have x2 : zw (4 * (on : Int) + 2) = 4 * (on : Int) + 2 := zw_id (by omega) (by omega)
        have x3 : zw (4 * (on : Int) + 3) = 4 * (on : Int) + 3 := zw_id (by omega) (by omega)
        have y0 : 0 ≤ 4 * (on : Int) ∧ 4 * (on : Int) < 48 := by omega
        have y1 : 0 ≤ 4 * (on : Int) + 1 ∧ 4 * (on : Int) + 1 < 48 := by omega
        have y2 : 0 ≤ 4 * (on : Int) + 2 ∧ 4 * (on : Int) + 2 < 48 := by omega
        have y3 : 0 ≤ 4 * (on : Int) + 3 ∧ 4 * (on : Int) + 3 < 48 := by omega
        simp only [rX9_tell_41, rX9_tell_42, rX9_tell_45, rX9_tell_46, rX9_tell_47, rX9_tell_50, rX9_tell_51, rX9_tell_52, rX9_tell_53, rX9_tell_54, rX9_tell_57, rX9_tell_58, rX9_tell_59, rX9_tell_62, rX9_tell_63, rX9_tell_64, rX9_tell_65, rX9_tell_66, rX9_tell_67, rX9_tell_68, rX9_tell_71, rX9_tell_72, rX9_tell_73, rX9_tell_76, rX9_tell_77, rX9_tell_78, rX9_tell_79, rX9_tell_80, rX9_tell_81, rX9_tell_82, rX9_tell_85, rX9_tell_86, rX9_tell_87, rX9_tell_90, rX9_tell_91, rX9_tell_92, rX9_tell_93, rX9_tell_95, rX9_tell_98, rX9_tell_99, rX9_tell_102, rX9_tell_103, rX9_tell_104, rX9_tell_105, rX9_tell_106, rX9_tell_109, rX9_tell_110, rX9_tell_111, rX9_tell_114, rX9_tell_115, rX9_tell_118, true_and, and_true, true_or, or_true, false_or, or_false, Option.toList_some, Option.toList_none, List.nil_append, List.cons_append, zn1, kM hG, zup_def, zset_set, zset_at, zfu_at, Nat.reduceEqDiff, reduceIte, t16, x0, x1, x2, x3, y0, y1, y2, y3, zwk (show on < 2000000000 by omega)]
        have fin : ∀ v : Int, v = b → SR G (zset (zset (th0 H1) 138 (zfu (zfu (zfu (zfu (th0 H1 138) (4 * (on : Int)) i) (4 * (on : Int) + 1) n) (4 * (on : Int) + 2) d) (4 * (on : Int) + 3) v)) 130 (zfu (th0 H1 130) 16 ((on + 1 : Nat) : Int))) := by
          intro v hv
          subst hv
          generalize hH2 : zset (zset (th0 H1) 138 (zfu (zfu (zfu (zfu (th0 H1 138) (4 * (on : Int)) i) (4 * (on : Int) + 1) n) (4 * (on : Int) + 2) d) (4 * (on : Int) + 3) v)) 130 (zfu (th0 H1 130) 16 ((on + 1 : Nat) : Int)) = H2
          have aF : ∀ x, x ≠ 130 → x ≠ 138 → x ≠ 114 → x ≠ 115 → x ≠ 116 → x ≠ 117 → H2 x = H x := fun x z1 z2 z3 z4 z5 z6 => by
            rw [← hH2, zset_ne z1, zset_ne z2, th0_ne z1]
            exact f1 x z3 z4 z5 z6
          have bF : ∀ x, x ≠ 130 → x ≠ 138 → H2 x = H1 x := fun x z1 z2 => by
            rw [← hH2, zset_ne z1, zset_ne z2, th0_ne z1]
          have m130 : ∀ q : Int, q ≠ 0 → q ≠ 16 → H2 130 q = H 130 q := fun q q1 q2 => by
            rw [← hH2, zset_eq, zfu_at, if_neg q2, th0_130 q1, f1 130 (by omega) (by omega) (by omega) (by omega)]
          have e3 : H2 3 = H 3 := aF 3 (by omega) (by omega) (by omega) (by omega) (by omega) (by omega)
          have e138 : ∀ q : Int, H2 138 q = if q = 4 * (on : Int) + 3 then v else if q = 4 * (on : Int) + 2 then d else if q = 4 * (on : Int) + 1 then n else if q = 4 * (on : Int) then i else H 138 q := fun q => by
            rw [← hH2, zset_ne (by omega), zset_eq]
            simp only [zfu_at]
            rw [th0_ne (by omega), f1 138 (by omega) (by omega) (by omega) (by omega)]
          refine ⟨hG, SRt_c ht e3 ?_ ?_ (m130 4 (by omega) (by omega)) (m130 6 (by omega) (by omega)) (m130 7 (by omega) (by omega)) (m130 8 (by omega) (by omega)), SRx_c hx ?_ ?_ ?_ (m130 2 (by omega) (by omega)), SRb_c hbk (by rw [e3]) (fun x z0 z1 => aF x (by omega) (by omega) (by omega) (by omega) (by omega) (by omega)) (fun q _ _ => by rw [aF 134 (by omega) (by omega) (by omega) (by omega) (by omega) (by omega)]) ?_, SRd_c hG hd (by rw [e3]) ?_ (m130 12 (by omega) (by omega)) (fun x z0 z1 => aF x (by omega) (by omega) (by omega) (by omega) (by omega) (by omega)) ?_, SRk_c hk (by rw [e3]) ?_ (m130 14 (by omega) (by omega)) (fun x z0 z1 => aF x (by omega) (by omega) (by omega) (by omega) (by omega) (by omega)) ?_, ⟨on + 1, by omega, ?_, ?_, fun t ht => ?_⟩⟩
          · exact aF 4 (by omega) (by omega) (by omega) (by omega) (by omega) (by omega)
          · exact aF 133 (by omega) (by omega) (by omega) (by omega) (by omega) (by omega)
          · rw [aF 1 (by omega) (by omega) (by omega) (by omega) (by omega) (by omega)]
          · exact aF 2 (by omega) (by omega) (by omega) (by omega) (by omega) (by omega)
          · exact aF 131 (by omega) (by omega) (by omega) (by omega) (by omega) (by omega)
          · rw [aF 139 (by omega) (by omega) (by omega) (by omega) (by omega) (by omega)]
            exact hbk.2.2
          · rw [aF 38 (by omega) (by omega) (by omega) (by omega) (by omega) (by omega)]
          · exact aF 136 (by omega) (by omega) (by omega) (by omega) (by omega) (by omega)
          · rw [aF 94 (by omega) (by omega) (by omega) (by omega) (by omega) (by omega)]
          · exact aF 137 (by omega) (by omega) (by omega) (by omega) (by omega) (by omega)
          · rw [bF 114 (by omega) (by omega)]
            exact e114
          · rw [← hH2, zset_eq, zfu_at, if_pos rfl]
          · unfold tdOK
            rw [e3, bF 115 (by omega) (by omega), bF 116 (by omega) (by omega), bF 117 (by omega) (by omega), e115, e116, e117, e138, e138, e138, e138]
            simp only [zfu_at]
            by_cases ct : t = on
            · subst ct
              simp only [if_true]
              rw [if_neg (show ¬ 4 * (t : Int) = 4 * (t : Int) + 3 by omega), if_neg (show ¬ 4 * (t : Int) = 4 * (t : Int) + 2 by omega), if_neg (show ¬ 4 * (t : Int) = 4 * (t : Int) + 1 by omega), if_neg (show ¬ 4 * (t : Int) + 1 = 4 * (t : Int) + 3 by omega), if_neg (show ¬ 4 * (t : Int) + 1 = 4 * (t : Int) + 2 by omega), if_neg (show ¬ 4 * (t : Int) + 2 = 4 * (t : Int) + 3 by omega)]
              exact ⟨c1, rfl, c2.1, c2.2, rfl, hb, trivial⟩
            · have := o3 t (by omega)
              unfold tdOK at this
              repeat rw [if_neg (by omega)]
              exact this
        rcases hb with rfl | rfl
        · rw [if_pos rfl]
          exact fin 0 rfl
        · rw [if_neg (by omega)]
          exact fin 1 rfl
      · rw [if_neg c3]
        exact ⟨_, rfl, pre H _ (fun _ _ => rfl) (fun z => absurd ⟨c1, c2⟩ z) (fun _ => ⟨fun _ => ⟨rfl, SR_th hS⟩, fun z => by omega⟩)⟩
    · rw [if_neg c2]
      exact ⟨_, rfl, pre H _ (fun _ _ => rfl) (fun _ => ⟨rfl, SR_th hS⟩) (fun z => absurd z.2 c2)⟩
  · rw [if_pos c1]
    exact ⟨_, rfl, pre H _ (fun _ _ => rfl) (fun _ => ⟨rfl, SR_th hS⟩) (fun z => absurd z.1 c1)⟩
