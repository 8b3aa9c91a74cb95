/-! lend -/
theorem bk_in {x : Nat} (h : x ∈ [40, 49, 58, 67, 76, 85]) : isBk x := (dcp_rng h).2.2
theorem SRd_put {G G' : zG} {H H1 H2 : zH} {n m sh : Nat} (hG : zOK G) (hG' : zOK G') (hd : ∀ k : Nat, k < n → EBk (H 3 1) H (zR G 39 k) (fun i => H 136 (46 * (k : Int) + i))) (hB : EBk (H 3 1) H 7 (H 134)) (hmn : m + sh = n) (h6 : n ≤ 6) (hm : m < 6) (hr : ∀ k : Nat, k < m → zR G' 39 k = zR G 39 ((k + sh : Nat) : Int)) (e3 : H2 3 1 = H 3 1) (e38 : H2 38 1 = ((m + 1 : Nat) : Int)) (m12 : H2 130 12 = ((m + 1 : Nat) : Int)) (hf : ∀ b, 40 ≤ b → b ≤ 93 → (b < zR G' 39 m ∨ zR G' 39 m + 8 < b) → H2 b = H b) (hc : cpB H 7 H1 (zR G' 39 m)) (h21 : ∀ b, zR G' 39 m ≤ b → b ≤ zR G' 39 m + 8 → H2 b = H1 b) (u1 : ∀ i : Int, 0 ≤ i → i < 46 * (m : Int) → H2 136 i = H 136 (i + 46 * (sh : Int))) (u2 : ∀ i : Int, 0 ≤ i → i < 46 → H2 136 (46 * (m : Int) + i) = H 134 i) : SRd G' H2 := by
  refine ⟨m + 1, by omega, e38, m12, fun k hk => ?_⟩
  rw [e3]
  by_cases c : k = m
  · subst c
    refine EBk_congr (H := H1) (fun b b0 b1 => h21 b b0 (by omega)) (fun i i0 i1 => ?_) (EBk_copy (a' := H 134) hc (fun _ _ _ => rfl) hB)
    exact u2 i i0 i1
  · have hkm : k < m := by omega
    have dk := dcp hG' (show k < 6 by omega)
    have dm := dcp hG' hm
    obtain ⟨y0, y1, yb⟩ := dcp_rng dk
    obtain ⟨x0, x1, xb⟩ := dcp_rng dm
    have ne : zR G' 39 k ≠ zR G' 39 m := fun e => by
      have := hG'.2.2.2.2.1 k m (by omega) (by omega) (by omega) (by omega) e
      omega
    have ap := bk_apart yb xb ne
    have := hd (k + sh) (by omega)
    rw [← hr k hkm] at this
    refine EBk_congr (fun b b0 b1 => hf b (by omega) (by omega) (by omega)) (fun i i0 i1 => ?_) this
    rw [u1 _ (by omega) (by omega)]
    congr 1
    omega
theorem sim_lend {i j a d : Int} : simOp qX8_lend qX9_lend [vi i, vi j, vi a, vi d] := by
  intro G H h
  have hS' := SR_th h
  obtain ⟨hG, ht, hx, ⟨⟨cs, hB⟩, hm8, hn8⟩, ⟨dn, d0, d1, d2, d3⟩, hk', ho⟩ := h
  have hT' := tOKm_of hS'.2.1
  have ht' := ht
  obtain ⟨⟨⟨P0, P1⟩, -⟩, ⟨m4, m6, m7, m8⟩, -⟩ := ht'
  have hBk : EBk (H 3 1) H 7 (H 134) := ⟨cs, hB⟩
  have hk := EB_k hB
  obtain ⟨⟨h8, hc⟩, hb1, hb2, hb3, hb4, hb5⟩ := hB
  have ag : ag6 (H 8) (H 134) := fun p p0 p1 => (hb3 p p0 p1).1
  have hf := fit_ag (i := i) (j := j) (n := a) (d := d) P1 ag
  have es : ∀ hi : (0 ≤ i ∧ i < H 3 1), ∀ hj : (0 ≤ j ∧ j < H 3 1), sgb (H 3 4) (H 3 2) cs.length (H (7 + 1)) (H (7 + 4)) (H (7 + 5)) (H (7 + 6)) i j a d = sgb (H 3 4) (H 3 2) cs.length (H 134) (mBo (H 134)) (mAm (H 134)) (mDu (H 134)) i j a d := fun hi hj => sgb_congr (ag i hi.1 (by omega)) (ag j hj.1 (by omega)) (fun k hk' => (hk k hk').2.1) (fun k hk' => (hk k hk').2.2.1) (fun k hk' => (hk k hk').2.2.2.1)
  -- the model up to its answer
  have b12 : (0 : Int) ≤ 12 ∧ (12 : Int) < 46 := by omega
  have mod : ∀ (G1 : zG) (H1 : zH) (Q2 : Option zV → zG → zH → Prop), zOK G1 → (∀ b, 130 ≤ b → H1 b = H b) → ((¬ ((i ≠ j ∧ ((0 ≤ i ∧ i < H 3 1) ∧ 0 < H (7 + 1) i)) ∧ ((0 ≤ j ∧ j < H 3 1) ∧ 0 < H (7 + 1) j) ∧ ((1 ≤ a ∧ a ≤ 200) ∧ (1 ≤ d ∧ d ≤ 200)))) → Q2 (some (vi (-1))) G1 (th0 H1)) → (((i ≠ j ∧ ((0 ≤ i ∧ i < H 3 1) ∧ 0 < H (7 + 1) i)) ∧ ((0 ≤ j ∧ j < H 3 1) ∧ 0 < H (7 + 1) j) ∧ ((1 ≤ a ∧ a ≤ 200) ∧ (1 ≤ d ∧ d ≤ 200))) → (sgb (H 3 4) (H 3 2) cs.length (H (7 + 1)) (H (7 + 4)) (H (7 + 5)) (H (7 + 6)) i j a d = 0 → Q2 (some (vi (-2))) G1 (th0 H1)) ∧ (sgb (H 3 4) (H 3 2) cs.length (H (7 + 1)) (H (7 + 4)) (H (7 + 5)) (H (7 + 6)) i j a d ≠ 0 → (cs.length = 8 → Q2 (some (vi (-3))) G1 (th0 H1)) ∧ (cs.length ≠ 8 → zRun qX9_lend 49 [vr 130, vi i, vi j, vi a, vi d] [] G1 (th0 H1) Q2))) → zCall qX9_lend [vr 130, vi i, vi j, vi a, vi d] G1 H1 Q2 := by
    intro G1 H1 Q2 hG1 f1 q1 q2
    have t130 : ∀ q : Int, q ≠ 0 → th0 H1 130 q = H 130 q := fun q hq => by
      unfold th0
      rw [zset_eq, zfu_at, if_neg hq, f1 130 (by omega)]
    have t4 : th0 H1 130 4 = H 3 1 := by rw [t130 4 (by omega), m4]
    have t134 : th0 H1 134 = H 134 := by
      unfold th0
      rw [zset_ne (by omega), f1 134 (by omega)]
    have hT1 : tOKm (th0 H1) := by
      have := hT'
      unfold tOKm at this ⊢
      unfold th0 at this
      rw [t130 4 (by omega), t130 6 (by omega), t130 7 (by omega), t130 8 (by omega)]
      simp only [zset_eq, zfu_at, Int.reduceEq, reduceIte] at this
      exact this
    have et : zset H1 130 (zfu (H1 130) 0 0) = th0 H1 := rfl
    rw [rX9_lend_in]
    simp only [rX9_lend_0, rX9_lend_1, rX9_lend_2, rX9_lend_5, rX9_lend_6, rX9_lend_7, rX9_lend_8, rX9_lend_9, rX9_lend_11, true_and, and_true, true_or, or_true, false_or, or_false, Option.toList_some, Option.toList_none, List.nil_append, List.cons_append, zn1, kM hG1, zup_def, et]
    rw [kX9_mayAsk hG1 (by rw [t4]; exact P0) (by rw [t4]; exact P1), t4, t134, ← bi_congr hf]
    simp only [rX9_lend_14, rX9_lend_17, rX9_lend_18, rX9_lend_19, rX9_lend_20, rX9_lend_21, rX9_lend_22, rX9_lend_23, rX9_lend_25, true_and, and_true, true_or, or_true, false_or, or_false, Option.toList_some, Option.toList_none, List.nil_append, List.cons_append, zn1, kM hG1, bi_ne0]
    by_cases c : (i ≠ j ∧ ((0 ≤ i ∧ i < H 3 1) ∧ 0 < H (7 + 1) i)) ∧ ((0 ≤ j ∧ j < H 3 1) ∧ 0 < H (7 + 1) j) ∧ ((1 ≤ a ∧ a ≤ 200) ∧ (1 ≤ d ∧ d ≤ 200))
    · rw [if_pos c]
      have q2 := q2 c
      rw [es c.1.2.1 c.2.1.1] at q2
      rw [kX9_says (n := cs.length) hG1 hT1 (by rw [t134]; exact hb2.1) h8 (by rw [t134]; exact hb4) (by omega) (by omega) (by omega) (by omega) (by omega) (by omega) (by omega) (by omega) (by rw [t134]; exact fun k hk' => (hk k hk').2.2.2.2.2.2.1), t130 8 (by omega), t130 6 (by omega), m6, m8, t134]
      simp only [rX9_lend_28, rX9_lend_31, rX9_lend_33, rX9_lend_34, rX9_lend_35, rX9_lend_38, rX9_lend_40, rX9_lend_41, rX9_lend_43, rX9_lend_46, rX9_lend_48, true_and, and_true, true_or, or_true, false_or, or_false, Option.toList_some, Option.toList_none, List.nil_append, List.cons_append, zn1, kM hG1, t134, hb2.1, b12]
      by_cases c1 : sgb (H 3 4) (H 3 2) cs.length (H 134) (mBo (H 134)) (mAm (H 134)) (mDu (H 134)) i j a d = 0
      · rw [if_neg (fun z => z c1)]
        exact q2.1 c1
      · rw [if_pos c1]
        by_cases c2 : cs.length = 8
        · rw [if_neg (fun z => z (by omega))]
          exact (q2.2 c1).1 c2
        · rw [if_pos (by omega)]
          exact (q2.2 c1).2 c2
    · rw [if_neg c]
      exact q1 c
  rw [rX8_lend_in]
  simp only [rX8_lend_0, rX8_lend_1, rX8_lend_4, rX8_lend_5, rX8_lend_6, rX8_lend_7, rX8_lend_9, true_and, and_true, true_or, or_true, false_or, or_false, Option.toList_some, Option.toList_none, List.nil_append, List.cons_append, zn1, sO_0 hG, kB hG bk7, kX0_hindrance hG bk7 hb1.1 h8 P0 P1]
  unfold shind
  by_cases c : (i ≠ j ∧ ((0 ≤ i ∧ i < H 3 1) ∧ 0 < H (7 + 1) i)) ∧ ((0 ≤ j ∧ j < H 3 1) ∧ 0 < H (7 + 1) j) ∧ ((1 ≤ a ∧ a ≤ 200) ∧ (1 ≤ d ∧ d ≤ 200))
  · rw [if_pos c]
    by_cases c1 : sgb (H 3 4) (H 3 2) cs.length (H (7 + 1)) (H (7 + 4)) (H (7 + 5)) (H (7 + 6)) i j a d = 0
    · rw [if_pos c1]
      simp only [rX8_lend_12, rX8_lend_14, rX8_lend_16, rX8_lend_19, rX8_lend_21, true_and, and_true, true_or, or_true, false_or, or_false, Option.toList_some, Option.toList_none, List.nil_append, List.cons_append, zn1, Int.reduceNeg, Int.reduceEq, reduceIte]
      refine ⟨_, rfl, mod G H _ hG (fun _ _ => rfl) (fun z => absurd c z) (fun _ => ⟨fun _ => ⟨rfl, hS'⟩, fun z => absurd c1 z⟩)⟩
    · rw [if_neg c1]
      by_cases c2 : (cs.length : Int) < 8
      · rw [if_pos c2]
        simp only [rX8_lend_12, rX8_lend_14, rX8_lend_16, rX8_lend_22, rX8_lend_23, rX8_lend_26, rX8_lend_27, rX8_lend_30, true_and, and_true, true_or, or_true, false_or, or_false, Option.toList_some, Option.toList_none, List.nil_append, List.cons_append, zn1, Int.reduceEq, reduceIte, sO_0 hG, sO_38 hG]
        refine kput_deeds hG d1 d0 (fun G1 H1 m sh hG1 hm hm6 hsh hr f1 cp1 e38 => ?_)
        obtain ⟨x0, x1, xb⟩ := dcp_rng (dcp hG1 hm6)
        have e1_7 : ∀ b, 7 ≤ b → b ≤ 15 → H1 b = H b := fun b b0 b1 => f1 b (by omega) (by omega)
        have hai : a < H 134 i := by
          have es' := es c.1.2.1 c.2.1.1
          rw [es'] at c1
          unfold sgb at c1
          by_cases z : a < H 134 i
          · exact z
          · exfalso
            apply c1
            by_cases l0 : H 3 4 = 0
            · rw [if_pos l0, if_neg (fun w => z w.1)]
            · rw [if_neg l0]
              by_cases l1 : H 3 4 = 1
              · rw [if_pos l1, if_neg z]
              · rw [if_neg l1]
        simp only [rX8_lend_33, rX8_lend_34, rX8_lend_37, rX8_lend_38, rX8_lend_39, rX8_lend_40, rX8_lend_42, true_and, and_true, true_or, or_true, false_or, or_false, Option.toList_some, Option.toList_none, List.nil_append, List.cons_append, zn1, sO_0 hG1, kB hG1 bk7]
        refine kX0_addLoan (n := cs.length) hG1 bk7 (by rw [e1_7 7 (by omega) (by omega)]; exact hb1.1) (by omega) (by rw [e1_7 (7 + 1) (by omega) (by omega)]; exact sWok_ag ag hb4) (by omega) (by omega) (by omega) (by omega) (by omega) (by omega) (fun H2 f2 w2 l2 k2 p2 n2 g2 o2 a2 => ?_)
        simp only [rX8_lend_45, rX8_lend_46, rX8_lend_49, rX8_lend_52, true_and, and_true, true_or, or_true, false_or, or_false, Option.toList_some, Option.toList_none, List.nil_append, List.cons_append, zn1, sO_0 hG1, kB hG1 bk7, n2]
        refine ⟨_, rfl, ?_⟩
        have cF : ∀ b, (b < 7 ∨ 15 < b) → b ≠ 38 → (b < zR G1 39 m ∨ zR G1 39 m + 8 < b) → H2 b = H b := fun b b0 b1 b2 => by
          rw [f2 b (by omega)]
          exact f1 b b1 b2
        refine mod G1 H2 _ hG1 (fun b hb => cF b (by omega) (by omega) (by omega)) (fun z => absurd c z) (fun _ => ⟨fun z => absurd z c1, fun _ => ⟨fun z => by omega, fun _ => ?_⟩⟩)
        have t130 : ∀ q : Int, q ≠ 0 → th0 H2 130 q = H 130 q := fun q hq => by
          unfold th0
          rw [zset_eq, zfu_at, if_neg hq, cF 130 (by omega) (by omega) (by omega)]
        have tb : ∀ b, b ≠ 130 → th0 H2 b = H2 b := fun b hb => by
          unfold th0
          rw [zset_ne hb]
        simp only [rX9_lend_49, rX9_lend_50, true_and, and_true, true_or, or_true, false_or, or_false, Option.toList_some, Option.toList_none, List.nil_append, List.cons_append, zn1, kM hG1]
        refine kX9_notes (n := dn) hG1 (by rw [t130 12 (by omega)]; exact d2) d0 (fun H3 m' sh' hm' hsh' f3 g3 e12 u1 u2 => ?_)
        have : sh' = sh := by rw [hsh, hsh']
        subst this
        have : m' = m := by omega
        subst this
        have e134 : H3 134 = H 134 := by rw [f3 134 (by omega) (by omega), tb 134 (by omega), cF 134 (by omega) (by omega) (by omega)]
        simp only [rX9_lend_53, rX9_lend_54, rX9_lend_55, rX9_lend_56, rX9_lend_57, rX9_lend_59, true_and, and_true, true_or, or_true, false_or, or_false, Option.toList_some, Option.toList_none, List.nil_append, List.cons_append, zn1, kM hG1]
        refine kX9_lends (n := cs.length) hG1 (by rw [e134]; exact hb2.1) (by omega) (by rw [e134]; exact hb4) (by omega) (by omega) (by omega) (by omega) c.1.1 (by omega) (by omega) (fun H4 f4 n4 p4 q4 t4 g4 o4 a4 => ?_)
        simp only [rX9_lend_62, rX9_lend_63, rX9_lend_66, rX9_lend_68, rX9_lend_69, true_and, and_true, true_or, or_true, false_or, or_false, Option.toList_some, Option.toList_none, List.nil_append, List.cons_append, zn1, kM hG1, t4]
        rw [e134] at p4 q4 g4 o4
        have mF : ∀ b, b ≠ 130 → b ≠ 136 → b ≠ 134 → b ≠ 139 → H4 b = H2 b := fun b b1 b2 b3 b4 => by
          rw [f4 b b3 b4, f3 b b1 b2, tb b b1]
        have aF : ∀ b, b ≠ 130 → b ≠ 136 → b ≠ 134 → b ≠ 139 → (b < 7 ∨ 15 < b) → b ≠ 38 → (b < zR G1 39 m' ∨ zR G1 39 m' + 8 < b) → H4 b = H b := fun b b1 b2 b3 b4 b5 b6 b7 => by
          rw [mF b b1 b2 b3 b4]
          exact cF b b5 b6 b7
        have m130 : ∀ q : Int, q ≠ 0 → q ≠ 12 → H4 130 q = H 130 q := fun q q1 q2 => by
          rw [f4 130 (by omega) (by omega), g3 q q2]
          exact t130 q q1
        have e3 : H4 3 = H 3 := aF 3 (by omega) (by omega) (by omega) (by omega) (by omega) (by omega) (by omega)
        have e136 : H4 136 = H3 136 := f4 136 (by omega) (by omega)
        have e2136 : th0 H2 136 = H 136 := by rw [tb 136 (by omega), cF 136 (by omega) (by omega) (by omega)]
        have e2134 : th0 H2 134 = H 134 := by rw [tb 134 (by omega), cF 134 (by omega) (by omega) (by omega)]
        rw [e2136] at u1
        rw [e2134] at u2
        refine ⟨by omega, hG1, SRt_c ht e3 (aF 4 (by omega) (by omega) (by omega) (by omega) (by omega) (by omega) (by omega)) (aF 133 (by omega) (by omega) (by omega) (by omega) (by omega) (by omega) (by omega)) (m130 4 (by omega) (by omega)) (m130 6 (by omega) (by omega)) (m130 7 (by omega) (by omega)) (m130 8 (by omega) (by omega)), SRx_c hx (by rw [aF 1 (by omega) (by omega) (by omega) (by omega) (by omega) (by omega) (by omega)]) (aF 2 (by omega) (by omega) (by omega) (by omega) (by omega) (by omega) (by omega)) (aF 131 (by omega) (by omega) (by omega) (by omega) (by omega) (by omega) (by omega)) (m130 2 (by omega) (by omega)), ⟨⟨cs ++ [(i, j, a, d)], ⟨?_, ?_⟩, ⟨?_, ?_⟩, ⟨?_, ?_⟩, ?_, ?_, ?_⟩, ?_, ?_⟩, ?_, SRk_c hk' (by rw [e3]) (by rw [aF 94 (by omega) (by omega) (by omega) (by omega) (by omega) (by omega) (by omega)]) (m130 14 (by omega) (by omega)) (fun b b0 b1 => aF b (by omega) (by omega) (by omega) (by omega) (by omega) (by omega) (by omega)) (aF 137 (by omega) (by omega) (by omega) (by omega) (by omega) (by omega) (by omega)), SRo_c ho e3 (by rw [aF 114 (by omega) (by omega) (by omega) (by omega) (by omega) (by omega) (by omega)]) (m130 16 (by omega) (by omega)) (aF 115 (by omega) (by omega) (by omega) (by omega) (by omega) (by omega) (by omega)) (aF 116 (by omega) (by omega) (by omega) (by omega) (by omega) (by omega) (by omega)) (aF 117 (by omega) (by omega) (by omega) (by omega) (by omega) (by omega) (by omega)) (aF 138 (by omega) (by omega) (by omega) (by omega) (by omega) (by omega) (by omega))⟩
        · simp
          omega
        · intro x hx'
          rw [e3]
          rcases List.mem_append.mp hx' with z | z
          · exact hc x z
          · simp at z
            subst z
            exact ⟨c.1.2.1, c.2.1.1, c.2.2.1, c.2.2.2.1, c.2.2.2.2, c.1.1⟩
        · rw [mF 7 (by omega) (by omega) (by omega) (by omega), n2]
          simp
        · intro k y hy
          rw [mF _ (by omega) (by omega) (by omega) (by omega), mF _ (by omega) (by omega) (by omega) (by omega), mF _ (by omega) (by omega) (by omega) (by omega), mF _ (by omega) (by omega) (by omega) (by omega)]
          rcases Nat.lt_or_ge k cs.length with z | z
          · rw [List.getElem?_append_left z] at hy
            obtain ⟨o1, o2', o3, o4'⟩ := o2 k z
            rw [o1, o2', o3, o4', e1_7 _ (by omega) (by omega), e1_7 _ (by omega) (by omega), e1_7 _ (by omega) (by omega), e1_7 _ (by omega) (by omega)]
            exact hb1.2 k y hy
          · have hkl : k = cs.length := by
              have := (List.getElem?_eq_some_iff.mp hy).1
              simp at this
              omega
            subst hkl
            simp at hy
            subst hy
            exact a2
        · rw [t4]
          simp
        · intro k y hy
          rcases Nat.lt_or_ge k cs.length with z | z
          · rw [List.getElem?_append_left z] at hy
            rw [o4 _ (by omega) (by omega), o4 _ (by omega) (by omega), o4 _ (by omega) (by omega), o4 _ (by omega) (by omega)]
            exact hb2.2 k y hy
          · have hkl : k = cs.length := by
              have := (List.getElem?_eq_some_iff.mp hy).1
              simp at this
              omega
            subst hkl
            simp at hy
            subst hy
            exact a4
        · intro p p0 p1
          rw [mF (7 + 1) (by omega) (by omega) (by omega) (by omega), mF (7 + 2) (by omega) (by omega) (by omega) (by omega), w2, l2, p4 p p0 p1, q4 _ (by omega) (by omega), e1_7 _ (by omega) (by omega), e1_7 _ (by omega) (by omega)]
          exact ⟨smv_ag ag (Or.inr ⟨by omega, by omega⟩) (by omega) (by omega) p p0 p1, (hb3 p p0 p1).2⟩
        · refine sWok_ag (v := smv (H 134) i j a) (fun p p0 p1 => p4 p p0 p1) ⟨fun p p0 p1 => ?_, ?_⟩
          · have hp := hb4.1 p p0 p1
            have hj := hb4.1 j (by omega) (by omega)
            unfold smv
            simp only [zfu_at]
            repeat' split
            all_goals omega
          · rw [ssum_mv (by omega) (by omega) (by omega) (by omega)]
            exact hb4.2
        · rw [mF _ (by omega) (by omega) (by omega) (by omega), g2, g4, e1_7 _ (by omega) (by omega)]
          exact hb5
        · rw [mF 14 (by omega) (by omega) (by omega) (by omega)]
          have : H2 14 = _ := k2
          rw [this, e1_7 _ (by omega) (by omega)]
          exact hm8
        · rw [n4, f3 139 (by omega) (by omega), tb 139 (by omega), cF 139 (by omega) (by omega) (by omega)]
          intro k k0 k1
          rw [zfu_at]
          split
          · omega
          · exact hn8 k k0 k1
        · refine SRd_put (H1 := H1) hG hG1 d3 hBk hm d0 hm6 hr (by rw [e3]) ?_ ?_ (fun b b0 b1 b2 => aF b (by omega) (by omega) (by omega) (by omega) (by omega) (by omega) b2) cp1 (fun b b0 b1 => ?_) (fun i i0 i1 => ?_) (fun i i0 i1 => ?_)
          · rw [mF 38 (by omega) (by omega) (by omega) (by omega), f2 38 (by omega)]
            exact e38
          · rw [f4 130 (by omega) (by omega)]
            exact e12
          · rw [mF b (by omega) (by omega) (by omega) (by omega), f2 b (by omega)]
          · rw [e136]
            exact u1 i i0 i1
          · rw [e136]
            exact u2 i i0 i1
      · rw [if_neg c2]
        simp only [rX8_lend_12, rX8_lend_14, rX8_lend_16, rX8_lend_19, rX8_lend_21, true_and, and_true, true_or, or_true, false_or, or_false, Option.toList_some, Option.toList_none, List.nil_append, List.cons_append, zn1, Int.reduceNeg, Int.reduceEq, reduceIte]
        refine ⟨_, rfl, mod G H _ hG (fun _ _ => rfl) (fun z => absurd c z) (fun _ => ⟨fun z => absurd z c1, fun _ => ⟨fun _ => ⟨rfl, hS'⟩, fun z => by omega⟩⟩)⟩
  · rw [if_neg c]
    simp only [rX8_lend_12, rX8_lend_14, rX8_lend_16, rX8_lend_19, rX8_lend_21, true_and, and_true, true_or, or_true, false_or, or_false, Option.toList_some, Option.toList_none, List.nil_append, List.cons_append, zn1, Int.reduceNeg, Int.reduceEq, reduceIte]
    refine ⟨_, rfl, mod G H _ hG (fun _ _ => rfl) (fun _ => ⟨rfl, hS'⟩) (fun z => absurd z c)⟩
