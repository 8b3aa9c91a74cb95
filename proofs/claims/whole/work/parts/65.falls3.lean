/-! falls: both -/
theorem zfor_id {σ : Type} {F : Nat → σ → σ} {P : Nat} {s : σ} : ∀ j : Nat, (∀ k t, P ≤ k → k < P + j → F k t = t) → zfor F 0 (P + j) s = zfor F 0 P s
  | 0, _ => rfl
  | j + 1, h => by
    rw [show P + (j + 1) = (P + j) + 1 by omega, zfor_succ, Nat.zero_add, h _ _ (by omega) (by omega)]
    exact zfor_id j (fun k t a b => h k t a (by omega))
theorem mLess_rng {f g : Int → Int} : ∀ n : Nat, n ≤ 8 → 0 ≤ mLess f g n ∧ mLess f g n ≤ (n : Int)
  | 0, _ => by
    show 0 ≤ (0 : Int) ∧ (0 : Int) ≤ ((0 : Nat) : Int)
    omega
  | n + 1, h => by
    have ih := mLess_rng (f := f) (g := g) n (by omega)
    unfold mLess at ih ⊢
    rw [zfor_succ, Nat.zero_add]
    have : bi (f n < g n) = 0 ∨ bi (f n < g n) = 1 := by
      unfold bi
      split <;> simp
    rw [zw_id (by omega) (by omega)]
    omega
theorem mLess_id {f g : Int → Int} {n : Nat} : ∀ j : Nat, n + j ≤ 8 → (∀ k : Nat, n ≤ k → k < n + j → ¬ f k < g k) → mLess f g (n + j) = mLess f g n
  | 0, _, _ => rfl
  | j + 1, h8, h => by
    have ih := mLess_id (f := f) (g := g) (n := n) j (by omega) (fun k a b => h k a (by omega))
    have hr := mLess_rng (f := f) (g := g) (n + j) (by omega)
    rw [← ih]
    have e : mLess f g (n + (j + 1)) = zw (mLess f g (n + j) + bi (f ((n + j : Nat) : Int) < g ((n + j : Nat) : Int))) := by
      unfold mLess
      rw [show n + (j + 1) = (n + j) + 1 by omega, zfor_succ, Nat.zero_add]
    rw [e, bi_f (h _ (by omega) (by omega)), Int.add_zero, zw_id (by omega) (by omega)]
theorem mLess_congr {f g f' g' : Int → Int} {n : Nat} (h : ∀ k : Nat, k < n → f k = f' k ∧ g k = g' k) : mLess f g n = mLess f' g' n := by
  unfold mLess
  refine zfor_congr (n := n) (fun k s hk => ?_) n 0 0 (by omega)
  rw [(h k hk).1, (h k hk).2]
theorem sfirst_eq {f g df dt : Int → Int} {ex : Int} {Pn : Nat} (hP : Pn ≤ 6) (hf : ∀ k : Nat, k < Pn → df k = (if f k = 1000000 then -4 else f k) ∧ dt k = (if g k = 1000000 then -4 else g k) ∧ (f k = 1000000 ∨ (0 ≤ f k ∧ f k ≤ 300)) ∧ (g k = 1000000 ∨ (0 ≤ g k ∧ g k ≤ 300))) (hz : ∀ k : Nat, Pn ≤ k → k < 6 → f k = g k) : sfirst f g ex = mFirst df dt ex Pn := by
  have e1 : sfirst f g ex = zfor (fun k h => if ((k : Int) ≠ ex ∧ f k < g k) ∧ (h = -4 ∨ f k < f h) then (k : Int) else h) 0 (Pn + (6 - Pn)) (-4) := by
    unfold sfirst
    rw [show Pn + (6 - Pn) = 6 by omega]
  rw [e1, zfor_id (6 - Pn) (fun k t a b => by
    rw [if_neg (fun z => ?_)]
    have := hz k a (by omega)
    have := z.1.2
    omega)]
  unfold mFirst
  have := zfor_rel (T := fun (k : Nat) (a b : Int) => a = b ∧ (a = -4 ∨ ∃ j : Nat, a = (j : Int) ∧ j < k ∧ f j ≠ 1000000)) (F := fun (k : Nat) (h : Int) => if ((k : Int) ≠ ex ∧ f k < g k) ∧ (h = -4 ∨ f k < f h) then (k : Int) else h) (F' := fun (k : Nat) (h : Int) => if (((k : Int) ≠ ex ∧ df k ≠ -4) ∧ (dt k = -4 ∨ df k < dt k)) ∧ (h = -4 ∨ df k < df h) then (k : Int) else h) (n := Pn) (fun k a b hk hi => by
    obtain ⟨rfl, hi⟩ := hi
    obtain ⟨h1, h2, h3, h4⟩ := hf k hk
    have c1 : (((k : Int) ≠ ex ∧ f k < g k) ∧ (a = -4 ∨ f k < f a)) ↔ ((((k : Int) ≠ ex ∧ df k ≠ -4) ∧ (dt k = -4 ∨ df k < dt k)) ∧ (a = -4 ∨ df k < df a)) := by
      have c2 : ((k : Int) ≠ ex ∧ f k < g k) ↔ (((k : Int) ≠ ex ∧ df k ≠ -4) ∧ (dt k = -4 ∨ df k < dt k)) := by
        rw [h1, h2]
        by_cases x1 : f k = 1000000
        · rw [if_pos x1]
          constructor
          · intro z
            omega
          · intro z
            exact absurd rfl z.1.2
        · rw [if_neg x1]
          by_cases x2 : g k = 1000000
          · rw [if_pos x2]
            constructor
            · intro z
              exact ⟨⟨z.1, by omega⟩, Or.inl rfl⟩
            · intro z
              exact ⟨z.1.1, by omega⟩
          · rw [if_neg x2]
            constructor
            · intro z
              exact ⟨⟨z.1, by omega⟩, Or.inr z.2⟩
            · intro z
              exact ⟨z.1.1, by omega⟩
      have c3 : ((k : Int) ≠ ex ∧ f k < g k) → ((a = -4 ∨ f k < f a) ↔ (a = -4 ∨ df k < df a)) := by
        intro z
        have x1 : f k ≠ 1000000 := by omega
        rcases hi with hi | ⟨j, rfl, hj, hfj⟩
        · exact ⟨fun _ => Or.inl hi, fun _ => Or.inl hi⟩
        · rw [h1, (hf j (by omega)).1, if_neg x1, if_neg hfj]
      constructor
      · intro z
        exact ⟨c2.mp z.1, (c3 z.1).mp z.2⟩
      · intro z
        exact ⟨c2.mpr z.1, (c3 (c2.mpr z.1)).mpr z.2⟩
    by_cases c : ((k : Int) ≠ ex ∧ f k < g k) ∧ (a = -4 ∨ f k < f a)
    · rw [if_pos c, if_pos (c1.mp c)]
      exact ⟨rfl, Or.inr ⟨k, rfl, by omega, by have := c.1.2; omega⟩⟩
    · rw [if_neg c, if_neg (fun z => c (c1.mpr z))]
      refine ⟨rfl, ?_⟩
      rcases hi with hi | ⟨j, h5, h6, h7⟩
      · exact Or.inl hi
      · exact Or.inr ⟨j, h5, by omega, h7⟩) Pn 0 (-4) (-4) (by omega) ⟨rfl, Or.inl rfl⟩
  exact this.1
theorem dOK_rng {P r kind p d : Int} {B : sB} {m : Nat} (h : dOK P r kind B m p d) : d = 1000000 ∨ (0 ≤ d ∧ d ≤ (m : Int)) := by
  rcases h with ⟨-, rfl⟩ | ⟨j, hj, rfl, -⟩
  · exact Or.inl rfl
  · exact Or.inr ⟨by omega, by omega⟩
theorem dOK_out {P r kind p d : Int} {B : sB} {m : Nat} (hp : P ≤ p) (h : dOK P r kind B m p d) : d = 0 := by
  rcases h with ⟨h1, -⟩ | ⟨j, hj, rfl, -, h2⟩
  · exact absurd (h1 0 (Nat.zero_le _)).1 (by omega)
  · rcases Nat.eq_zero_or_pos j with rfl | q
    · rfl
    · exact absurd (h2 0 q).1 (by omega)
theorem sim_falls {i w : Int} : simOp qX8_falls qX9_falls [vi i, vi w] := by
  intro G H h
  have hS := h
  obtain ⟨hG, ht, hx, ⟨⟨cs, hB⟩, hm8, hn8⟩, -⟩ := h
  have hTm := tOKm_of ht
  obtain ⟨hT, ⟨m4, m6, m7, m8⟩, -⟩ := ht
  have hT' := hT
  obtain ⟨⟨P0, P1⟩, ⟨r0, r1⟩, -⟩ := hT'
  have hB' := hB
  obtain ⟨⟨h8, hc⟩, hb1, hb2, hb3, hb4, hb5⟩ := hB'
  have hwi : 0 ≤ i ∧ i < H 3 1 → 0 ≤ H 134 i ∧ H (7 + 1) i = H 134 i := fun z => ⟨hb4.1 i z.1 (by omega), (hb3 i z.1 (by omega)).1⟩
  have hbad : ¬ (((0 ≤ i ∧ i < H 3 1) ∧ 0 < H (7 + 1) i) ∧ (0 ≤ w ∧ w ≤ 1)) → ∃ v' : Int, some (vi (-1)) = some (vi v') ∧ zCall qX9_falls [vr 130, vi i, vi w] G H (fun r' G2 H2 => r' = some (vi v') ∧ SR G2 H2) := by
    intro hc
    refine ⟨_, rfl, ?_⟩
    have et : zset H 130 (zfu (H 130) 0 0) = th0 H := rfl
    have t4 : th0 H 130 4 = H 3 1 := by rw [th0_130 (by omega)]; exact m4
    have t134 : th0 H 134 = H 134 := th0_ne (by omega)
    rw [rX9_falls_in]
    simp only [rX9_falls_0, rX9_falls_1, rX9_falls_2, rX9_falls_5, rX9_falls_6, rX9_falls_7, rX9_falls_10, rX9_falls_13, rX9_falls_14, rX9_falls_15, rX9_falls_16, rX9_falls_19, rX9_falls_22, rX9_falls_23, rX9_falls_26, rX9_falls_27, rX9_falls_28, rX9_falls_31, rX9_falls_32, true_and, and_true, true_or, or_true, false_or, or_false, Option.toList_some, Option.toList_none, List.nil_append, List.cons_append, zn1, kM hG, zup_def, et, kX9_in, kX9_isPerson hG (show 1 ≤ th0 H 130 4 by omega) (show th0 H 130 4 ≤ 6 by omega), bi_ne0, bi_eq0, t4, t134]
    by_cases c1 : 0 ≤ i ∧ i < H 3 1
    · rw [if_neg (fun z => z c1)]
      by_cases c2 : 0 ≤ w ∧ w ≤ 1
      · have := hwi c1
        rw [if_neg (fun z => z c2), if_neg (fun z => hc ⟨⟨c1, by omega⟩, c2⟩)]
        exact ⟨by omega, SR_th hS⟩
      · rw [if_pos c2]
        exact SR_th hS
    · rw [if_pos c1]
      exact SR_th hS
  rw [rX8_falls_in]
  simp only [rX8_falls_0, rX8_falls_1, rX8_falls_4, rX8_falls_5, rX8_falls_8, rX8_falls_11, rX8_falls_12, rX8_falls_13, rX8_falls_14, rX8_falls_17, rX8_falls_20, rX8_falls_21, rX8_falls_22, rX8_falls_23, rX8_falls_26, rX8_falls_27, rX8_falls_30, rX8_falls_33, rX8_falls_34, rX8_falls_37, rX8_falls_40, rX8_falls_43, rX8_falls_44, rX8_falls_47, rX8_falls_48, rX8_falls_49, rX8_falls_52, rX8_falls_55, rX8_falls_56, rX8_falls_59, rX8_falls_62, rX8_falls_65, rX8_falls_66, rX8_falls_69, rX8_falls_70, rX8_falls_73, rX8_falls_74, rX8_falls_77, rX8_falls_80, rX8_falls_83, rX8_falls_84, rX8_falls_87, rX8_falls_88, rX8_falls_91, rX8_falls_92, rX8_falls_95, true_and, and_true, true_or, or_true, false_or, or_false, Option.toList_some, Option.toList_none, List.nil_append, List.cons_append, zn1, sO_0 hG, kB hG bk7, kX0_isAlive hG bk7 P0 P1, kX8_within, bi_ne0, bi_eq0, kTr hG tr16, kTr hG tr27]
  by_cases c1 : (0 ≤ i ∧ i < H 3 1) ∧ 0 < H (7 + 1) i
  · rw [if_neg (fun z => z c1)]
    by_cases c2 : 0 ≤ w ∧ w ≤ 1
    · rw [if_pos c2]
      refine kstart hG tr16 P0 P1 hB (fun H1 f1 b1 t1 d1 => ?_)
      have e13 : H1 3 = H 3 := f1 3 (by omega)
      have hT1 : tOK H1 := by
        unfold tOK at hT ⊢
        rw [e13]
        exact hT
      simp only [rX8_falls_0, rX8_falls_1, rX8_falls_4, rX8_falls_5, rX8_falls_8, rX8_falls_11, rX8_falls_12, rX8_falls_13, rX8_falls_14, rX8_falls_17, rX8_falls_20, rX8_falls_21, rX8_falls_22, rX8_falls_23, rX8_falls_26, rX8_falls_27, rX8_falls_30, rX8_falls_33, rX8_falls_34, rX8_falls_37, rX8_falls_40, rX8_falls_43, rX8_falls_44, rX8_falls_47, rX8_falls_48, rX8_falls_49, rX8_falls_52, rX8_falls_55, rX8_falls_56, rX8_falls_59, rX8_falls_62, rX8_falls_65, rX8_falls_66, rX8_falls_69, rX8_falls_70, rX8_falls_73, rX8_falls_74, rX8_falls_77, rX8_falls_80, rX8_falls_83, rX8_falls_84, rX8_falls_87, rX8_falls_88, rX8_falls_91, rX8_falls_92, rX8_falls_95, true_and, and_true, true_or, or_true, false_or, or_false, Option.toList_some, Option.toList_none, List.nil_append, List.cons_append, zn1, sO_0 hG, kTr hG tr16]
      refine kadv (n := 300) (P := H 3 1) (r := H 3 2) (kind := H 3 3) hG tr16 hT1 (by rw [e13]) (by rw [e13]) (by rw [e13]) b1 (B0_ok hB) (by omega) t1 (d1 _ _) (fun H2 f2 b2 d2 => ?_)
      unfold B0 at b2 d2
      have cF : ∀ b : Nat, b < 16 ∨ 26 < b → H2 b = H b := fun b hb => by rw [f2 b (by omega), f1 b (by omega)]
      have e23 : H2 3 = H 3 := cF 3 (by omega)
      simp only [rX8_falls_0, rX8_falls_1, rX8_falls_4, rX8_falls_5, rX8_falls_8, rX8_falls_11, rX8_falls_12, rX8_falls_13, rX8_falls_14, rX8_falls_17, rX8_falls_20, rX8_falls_21, rX8_falls_22, rX8_falls_23, rX8_falls_26, rX8_falls_27, rX8_falls_30, rX8_falls_33, rX8_falls_34, rX8_falls_37, rX8_falls_40, rX8_falls_43, rX8_falls_44, rX8_falls_47, rX8_falls_48, rX8_falls_49, rX8_falls_52, rX8_falls_55, rX8_falls_56, rX8_falls_59, rX8_falls_62, rX8_falls_65, rX8_falls_66, rX8_falls_69, rX8_falls_70, rX8_falls_73, rX8_falls_74, rX8_falls_77, rX8_falls_80, rX8_falls_83, rX8_falls_84, rX8_falls_87, rX8_falls_88, rX8_falls_91, rX8_falls_92, rX8_falls_95, true_and, and_true, true_or, or_true, false_or, or_false, Option.toList_some, Option.toList_none, List.nil_append, List.cons_append, zn1, sO_0 hG, kTr hG tr27]
      have hL2 : LA H2 7 (wm (H2 (7 + 7)) 0 cs) := LA_of ⟨by rw [cF 7 (by omega)]; exact hb1.1, fun k c hk => by
        rw [cF _ (by omega), cF _ (by omega), cF _ (by omega), cF _ (by omega)]
        exact hb1.2 k c hk⟩
      refine kX7_startWithout hG tr27 bk7 (by omega) (by rw [e23]; exact P0) (by rw [e23]; exact P1) hL2 (by rw [wm_len]; exact h8) c1.1.1 (by rw [e23]; exact c1.1.2) (by rw [cF (7 + 1) (by omega)]; exact c1.2) (fun H3 f3 w3 p3 l3 t3 d3 => ?_)
      rw [mkL_wm] at l3
      have e33 : H3 3 = H 3 := by rw [f3 3 (by omega), e23]
      have hT3 : tOK H3 := by
        unfold tOK at hT ⊢
        rw [e33]
        exact hT
      simp only [rX8_falls_0, rX8_falls_1, rX8_falls_4, rX8_falls_5, rX8_falls_8, rX8_falls_11, rX8_falls_12, rX8_falls_13, rX8_falls_14, rX8_falls_17, rX8_falls_20, rX8_falls_21, rX8_falls_22, rX8_falls_23, rX8_falls_26, rX8_falls_27, rX8_falls_30, rX8_falls_33, rX8_falls_34, rX8_falls_37, rX8_falls_40, rX8_falls_43, rX8_falls_44, rX8_falls_47, rX8_falls_48, rX8_falls_49, rX8_falls_52, rX8_falls_55, rX8_falls_56, rX8_falls_59, rX8_falls_62, rX8_falls_65, rX8_falls_66, rX8_falls_69, rX8_falls_70, rX8_falls_73, rX8_falls_74, rX8_falls_77, rX8_falls_80, rX8_falls_83, rX8_falls_84, rX8_falls_87, rX8_falls_88, rX8_falls_91, rX8_falls_92, rX8_falls_95, true_and, and_true, true_or, or_true, false_or, or_false, Option.toList_some, Option.toList_none, List.nil_append, List.cons_append, zn1, sO_0 hG, kTr hG tr27]
      have hb0 := B0_ok hB
      have hbf : bok (H 3 1) ((zfu (H 8) i 0, H 9, fun _ => 0), wm (fun k => k) 0 cs) := by
        refine ⟨⟨fun p p0 p1 => ?_, ?_⟩, hb0.2.1, hb0.2.2⟩
        · show 0 ≤ zfu (H 8) i 0 p
          rw [zfu_at]
          split
          · omega
          · exact hb0.1.1 p p0 p1
        · show ssum (zfu (H 8) i 0) ≤ 6000
          rw [ssum_fu c1.1.1 (by omega)]
          have h1 : ssum (H 8) ≤ 6000 := hb0.1.2
          have h2 : 0 < H 8 i := c1.2
          omega
      have hTB3 : TB 27 H3 ((zfu (H 8) i 0, H 9, fun _ => 0), wm (fun k => k) 0 cs) := by
        refine ⟨⟨fun p p0 p1 => ?_, fun k k0 k1 => p3 k k0 k1⟩, l3⟩
        have := w3 p p0 p1
        rw [cF (7 + 1) (by omega), cF (7 + 2) (by omega)] at this
        exact this
      have d3' : ∀ p : Int, 0 ≤ p → p < 6 → dOK (H 3 1) (H 3 2) (H 3 3) ((zfu (H 8) i 0, H 9, fun _ => 0), wm (fun k => k) 0 cs) 0 p (H3 (27 + 1) p) := fun p p0 p1 => by
        rw [d3 p p0 p1, e23, cF (7 + 1) (by omega)]
        exact dOK_0 (B := ((zfu (H 8) i 0, H 9, fun _ => 0), wm (fun k => k) 0 cs))
      refine kadv (n := 300) (P := H 3 1) (r := H 3 2) (kind := H 3 3) hG tr27 hT3 (by rw [e33]) (by rw [e33]) (by rw [e33]) hTB3 hbf (by omega) t3 d3' (fun H4 f4 b4 d4 => ?_)
      have cF4 : ∀ b : Nat, b < 16 ∨ 37 < b → H4 b = H b := fun b hb => by rw [f4 b (by omega), f3 b (by omega), cF b (by omega)]
      have tF4 : ∀ b : Nat, 16 ≤ b → b ≤ 26 → H4 b = H2 b := fun b b0 b1 => by rw [f4 b (by omega), f3 b (by omega)]
      have hS4 : SR G H4 := SR_C hS (ksC_T cF4)
      simp only [rX8_falls_0, rX8_falls_1, rX8_falls_4, rX8_falls_5, rX8_falls_8, rX8_falls_11, rX8_falls_12, rX8_falls_13, rX8_falls_14, rX8_falls_17, rX8_falls_20, rX8_falls_21, rX8_falls_22, rX8_falls_23, rX8_falls_26, rX8_falls_27, rX8_falls_30, rX8_falls_33, rX8_falls_34, rX8_falls_37, rX8_falls_40, rX8_falls_43, rX8_falls_44, rX8_falls_47, rX8_falls_48, rX8_falls_49, rX8_falls_52, rX8_falls_55, rX8_falls_56, rX8_falls_59, rX8_falls_62, rX8_falls_65, rX8_falls_66, rX8_falls_69, rX8_falls_70, rX8_falls_73, rX8_falls_74, rX8_falls_77, rX8_falls_80, rX8_falls_83, rX8_falls_84, rX8_falls_87, rX8_falls_88, rX8_falls_91, rX8_falls_92, rX8_falls_95, true_and, and_true, true_or, or_true, false_or, or_false, Option.toList_some, Option.toList_none, List.nil_append, List.cons_append, zn1, sO_0 hG, kTr hG tr16, kTr hG tr27, kX7_loansPaidLessThan hG tr27 tr16, kX7_firstDeadEarlierThan hG tr27 tr16]
      have key : ∀ v : Int, v = (if w = 0 then sless (H4 (27 + 2 + 8)) (H4 (16 + 2 + 8)) else sfirst (H4 (27 + 1)) (H4 (16 + 1)) i) → (∃ v' : Int, some (vi v) = some (vi v') ∧ zCall qX9_falls [vr 130, vi i, vi w] G H4 (fun r' G2 H2 => r' = some (vi v') ∧ SR G2 H2)) := by
        intro v hv
        have e134 : H4 134 = H 134 := cF4 134 (by omega)
        refine ⟨v, rfl, kX9_falls (P := H 3 1) (r := H 3 2) (kind := H 3 3) (cs := cs) (w := H 8) (l := H 9) hG (tOKm_of hS4.2.1) (by rw [cF4 130 (by omega)]; exact m4) (by rw [cF4 130 (by omega)]; exact m6) (by rw [cF4 130 (by omega)]; exact m7) hb0 (fun p p0 p1 => by rw [e134]; exact ⟨(hb3 p p0 p1).1.symm, (hb3 p p0 p1).2.symm⟩) (by rw [e134]; exact hb2) c1.1.1 c1.1.2 c1.2 c2.1 c2.2 (fun H5 pf pt df dt k5 hp hd => ⟨?_, SR_M hS4 k5⟩)⟩
        rw [hv]
        congr 2
        have bt : ∀ k : Int, 0 ≤ k → k < 8 → H4 (16 + 2 + 8) k = pt k ∧ H4 (27 + 2 + 8) k = pf k := fun k k0 k1 => by
          rw [(hp k k0 k1).1, (hp k k0 k1).2, tF4 (16 + 2 + 8) (by omega) (by omega)]
          exact ⟨b2.1.2 k k0 k1, b4.1.2 k k0 k1⟩
        have e1 : mLess pf pt cs.length = sless (H4 (27 + 2 + 8)) (H4 (16 + 2 + 8)) := by
          show mLess pf pt cs.length = mLess (H4 (27 + 2 + 8)) (H4 (16 + 2 + 8)) 8
          have e8 := mLess_id (f := pf) (g := pt) (n := cs.length) (8 - cs.length) (by omega) (fun k a b => by
            rw [(hp k (by omega) (by omega)).1, (hp k (by omega) (by omega)).2]
            have q1 := wkn_keep (P := H 3 1) (r := H 3 2) (kind := H 3 3) 300 (B := ((H 8, H 9, fun _ => 0), wm (fun k => k) 0 cs)) (k := (k : Int)) (wm_mrk (by omega))
            have q2 := wkn_keep (P := H 3 1) (r := H 3 2) (kind := H 3 3) 300 (B := ((zfu (H 8) i 0, H 9, fun _ => 0), wm (fun k => k) 0 cs)) (k := (k : Int)) (wm_mrk (by omega))
            rw [q1, q2]
            exact Int.lt_irrefl 0)
          rw [show cs.length + (8 - cs.length) = 8 by omega] at e8
          rw [← e8]
          exact mLess_congr (fun k hk => ⟨(bt k (by omega) (by omega)).2.symm, (bt k (by omega) (by omega)).1.symm⟩)
        have e2 : mFirst df dt i (H 3 1).toNat = sfirst (H4 (27 + 1)) (H4 (16 + 1)) i := by
          symm
          refine sfirst_eq (by omega) (fun k hk => ?_) (fun k a b => ?_)
          · have hd1 := hd k (by omega) (by omega)
            have o1 := d4 k (by omega) (by omega)
            have o2 := d2 k (by omega) (by omega)
            rw [tF4 (16 + 1) (by omega) (by omega)]
            exact ⟨dAns_eq (by omega) hd1.2 o1, dAns_eq (by omega) hd1.1 o2, dOK_rng o1, dOK_rng o2⟩
          · rw [tF4 (16 + 1) (by omega) (by omega), dOK_out (by omega) (d4 k (by omega) (by omega)), dOK_out (by omega) (d2 k (by omega) (by omega))]
        rw [e1, e2]
      by_cases c3 : w = 0
      · rw [if_neg (fun z => z c3)]
        exact key _ (by rw [if_pos c3])
      · rw [if_pos c3]
        exact key _ (by rw [if_neg c3])
    · rw [if_neg c2]
      exact hbad (fun z => c2 z.2)
  · rw [if_pos c1]
    exact hbad (fun z => c1 z.1)
