/-! books run -/
theorem kX9_run {P r kind i w : Int} {n : Nat} {B : sB} {G : zG} {H : zH} {Q' : Option zV → zG → zH → Prop} (hG : zOK G) (hT : tOKm H) (eP : H 130 4 = P) (er : H 130 6 = r) (ek : H 130 7 = kind) (hB : MB (asd H) B) (hb : bok P B) (hn : nmok (H 139)) (i0 : 0 ≤ i) (i1 : i < P) (hn0 : n ≤ 2000) (w0 : 0 ≤ w) (w1 : w ≤ 2)
    (hq : ∀ (H' : zH), ksM H H' → Q' (some (vi (if w = 0 then (wkn P r kind n B).1.1 i else if w = 1 then (wkn P r kind n B).1.2.1 i else slive P (wkn P r kind n B).1.1))) G H') : zCall qX9_run [vr 130, vi (n : Int), vi i, vi w] G H Q' := by
  have et : zset H 130 (zfu (H 130) 0 0) = th0 H := rfl
  have P1 : P ≤ 6 := by rw [← eP]; exact hT.1.2
  have P0 : 1 ≤ P := by rw [← eP]; exact hT.1.1
  have t4 : th0 H 130 4 = P := by rw [th0_130 (by omega)]; exact eP
  have hi46 : 0 ≤ i ∧ i < 46 := by omega
  have hi52 : 0 ≤ 6 + i ∧ 6 + i < 46 := by omega
  have e6 := zw_id (z := 6 + i) (by omega) (by omega)
  rw [rX9_run_in]
  simp only [rX9_run_0, rX9_run_1, rX9_run_2, rX9_run_5, rX9_run_6, rX9_run_7, rX9_run_10, rX9_run_13, rX9_run_16, rX9_run_17, rX9_run_18, rX9_run_21, rX9_run_24, rX9_run_25, rX9_run_26, rX9_run_27, rX9_run_30, rX9_run_35, rX9_run_36, rX9_run_37, rX9_run_40, rX9_run_41, true_and, and_true, true_or, or_true, false_or, or_false, Option.toList_some, Option.toList_none, List.nil_append, List.cons_append, zn1, kM hG, zup_def, et, kX9_in, kX9_isPerson hG (show 1 ≤ th0 H 130 4 by omega) (show th0 H 130 4 ≤ 6 by omega), bi_ne0, bi_eq0, t4, kX9_aside1 hG]
  rw [if_neg (fun z => z (by omega)), if_neg (fun z => z ⟨i0, i1⟩), if_pos ⟨w0, w1⟩]
  have loop : ∀ (m k : Nat) (H1 : zH), k + m = n → frM (asd H) H1 → MB H1 (wkn P r kind k B) → nmok (H1 139) → zRun qX9_run 43 [vr 130, vi (n : Int), vi i, vi w, vi (k : Int)] [] G H1 Q' := by
    intro m
    induction m with
    | zero =>
      intro k H1 hk f1 b1 n1
      have : k = n := by omega
      subst this
      have e130 : H1 130 = asd H 130 := f1 130 (by omega) (by omega) (by omega)
      have q4 : H1 130 4 = P := by rw [e130, asd_130 (by omega)]; exact eP
      have hi := b1.1 i i0 (by omega)
      have ag : ag6 (H1 134) (wkn P r kind k B).1.1 := fun p p0 p1 => (b1.1 p p0 p1).1
      have fin := hq _ (ks_aside f1 n1)
      unfold bck at fin
      rw [rX9_run_43]
      simp only [rX9_run_45, rX9_run_46, rX9_run_59, rX9_run_60, rX9_run_63, rX9_run_64, rX9_run_67, rX9_run_68, rX9_run_69, rX9_run_72, rX9_run_73, rX9_run_74, rX9_run_77, rX9_run_78, rX9_run_81, rX9_run_83, rX9_run_84, rX9_run_85, rX9_run_86, rX9_run_89, rX9_run_90, rX9_run_93, rX9_run_95, rX9_run_96, rX9_run_97, rX9_run_100, rX9_run_102, true_and, and_true, true_or, or_true, false_or, or_false, Option.toList_some, Option.toList_none, List.nil_append, List.cons_append, zn1, kM hG, hi46, e6, hi52, kX9_aside0 hG, kX9_living hG (show 1 ≤ H1 130 4 by omega) (show H1 130 4 ≤ 6 by omega)]
      rw [if_pos (by omega)]
      by_cases c0 : w = 0
      · rw [if_neg (fun z => z c0)]
        rw [if_pos c0] at fin
        have : H1 134 i = (wkn P r kind k B).1.1 i := hi.1
        rw [this]
        exact fin
      · rw [if_pos c0]
        rw [if_neg c0] at fin
        by_cases c1 : w = 1
        · rw [if_neg (fun z => z c1)]
          rw [if_pos c1] at fin
          have : H1 134 (6 + i) = (wkn P r kind k B).1.2.1 i := hi.2
          rw [this]
          exact fin
        · rw [if_pos c1]
          rw [if_neg c1] at fin
          rw [q4, slive_ag P1 ag]
          exact fin
    | succ m ih =>
      intro k H1 hk f1 b1 n1
      have e130 : H1 130 = asd H 130 := f1 130 (by omega) (by omega) (by omega)
      rw [rX9_run_43]
      simp only [rX9_run_45, rX9_run_46, rX9_run_49, rX9_run_50, true_and, and_true, true_or, or_true, false_or, or_false, Option.toList_some, Option.toList_none, List.nil_append, List.cons_append, zn1, kM hG]
      rw [if_neg (by omega)]
      have rr := hT.2.1
      rw [er] at rr
      refine goesB (P := P) (r := r) (kind := kind) hG (tOKm_asd hT e130) (by rw [e130, asd_130 (by omega)]; exact eP) (by rw [e130, asd_130 (by omega)]; exact er) (by rw [e130, asd_130 (by omega)]; exact ek) b1 (wkn_ok P1 rr.1 rr.2 k hb) n1 (fun H2 f2 b2 _ n2 => ?_)
      simp only [rX9_run_53, rX9_run_56, true_and, and_true, true_or, or_true, false_or, or_false, Option.toList_some, Option.toList_none, List.nil_append, List.cons_append, zn1, zwk (show k < 2000000000 by omega)]
      exact ih (k + 1) H2 (by omega) (f1.tr f2) (by rw [wkn_succ]; exact b2) n2
  exact loop n 0 (asd H) (by omega) frM.rf hB (by rw [asd_ne (by omega) (by omega)]; exact hn)
theorem sim_run {n i w : Int} : simOp qX8_run qX9_run [vi n, vi i, vi w] := by
  intro G H h
  have hS := h
  obtain ⟨hG, ht, hx, ⟨⟨cs, hB⟩, hm8, hn8⟩, -⟩ := h
  have hTm := tOKm_of ht
  obtain ⟨hT, ⟨m4, m6, m7, m8⟩, -⟩ := ht
  have hT' := hT
  obtain ⟨⟨P0, P1⟩, ⟨r0, r1⟩, -⟩ := hT'
  have hbad : ¬ (((0 ≤ n ∧ n ≤ 2000) ∧ (0 ≤ i ∧ i < H 3 1)) ∧ (0 ≤ w ∧ w ≤ 2)) → ∃ v' : Int, some (vi (-1)) = some (vi v') ∧ zCall qX9_run [vr 130, vi n, vi i, vi w] G H (fun r' G2 H2 => r' = some (vi v') ∧ SR G2 H2) := by
    intro hc
    refine ⟨_, rfl, ?_⟩
    have et : zset H 130 (zfu (H 130) 0 0) = th0 H := rfl
    have t4 : th0 H 130 4 = H 3 1 := by rw [th0_130 (by omega)]; exact m4
    rw [rX9_run_in]
    simp only [rX9_run_0, rX9_run_1, rX9_run_2, rX9_run_5, rX9_run_6, rX9_run_7, rX9_run_10, rX9_run_13, rX9_run_16, rX9_run_17, rX9_run_18, rX9_run_21, rX9_run_24, rX9_run_25, rX9_run_26, rX9_run_27, rX9_run_30, rX9_run_33, rX9_run_34, rX9_run_35, rX9_run_36, true_and, and_true, true_or, or_true, false_or, or_false, Option.toList_some, Option.toList_none, List.nil_append, List.cons_append, zn1, kM hG, zup_def, et, kX9_in, kX9_isPerson hG (show 1 ≤ th0 H 130 4 by omega) (show th0 H 130 4 ≤ 6 by omega), bi_ne0, bi_eq0, t4]
    by_cases c1 : 0 ≤ n ∧ n ≤ 2000
    · rw [if_neg (fun z => z c1)]
      by_cases c2 : 0 ≤ i ∧ i < H 3 1
      · rw [if_neg (fun z => z c2), if_neg (fun z => hc ⟨⟨c1, c2⟩, z⟩)]
        exact SR_th hS
      · rw [if_pos c2]
        exact SR_th hS
    · rw [if_pos c1]
      exact SR_th hS
  rw [rX8_run_in]
  simp only [rX8_run_0, rX8_run_1, rX8_run_2, rX8_run_5, rX8_run_8, rX8_run_11, rX8_run_12, rX8_run_13, rX8_run_16, rX8_run_19, rX8_run_20, rX8_run_21, rX8_run_22, rX8_run_25, rX8_run_28, rX8_run_29, rX8_run_30, rX8_run_31, rX8_run_34, rX8_run_35, rX8_run_38, rX8_run_41, rX8_run_42, rX8_run_45, rX8_run_46, rX8_run_49, rX8_run_50, rX8_run_76, rX8_run_77, rX8_run_80, rX8_run_83, rX8_run_86, rX8_run_87, rX8_run_88, rX8_run_89, rX8_run_90, rX8_run_93, rX8_run_96, rX8_run_99, rX8_run_100, rX8_run_101, rX8_run_102, rX8_run_103, rX8_run_106, rX8_run_109, rX8_run_112, true_and, and_true, true_or, or_true, false_or, or_false, Option.toList_some, Option.toList_none, List.nil_append, List.cons_append, zn1, sO_0 hG, kX8_within, kX8_isPerson hG P0 P1, bi_ne0, bi_eq0, kTr hG tr16]
  by_cases c1 : 0 ≤ n ∧ n ≤ 2000
  · rw [if_neg (fun z => z c1)]
    by_cases c2 : 0 ≤ i ∧ i < H 3 1
    · rw [if_neg (fun z => z c2)]
      by_cases c3 : 0 ≤ w ∧ w ≤ 2
      · rw [if_pos c3]
        obtain ⟨k, rfl⟩ := nat_of c1.1
        refine kstart hG tr16 P0 P1 hB (fun H1 f1 b1 t1 d1 => ?_)
        have e13 : H1 3 = H 3 := f1 3 (by omega)
        have hT1 : tOK H1 := by
          unfold tOK at hT ⊢
          rw [e13]
          exact hT
        simp only [rX8_run_0, rX8_run_1, rX8_run_2, rX8_run_5, rX8_run_8, rX8_run_11, rX8_run_12, rX8_run_13, rX8_run_16, rX8_run_19, rX8_run_20, rX8_run_21, rX8_run_22, rX8_run_25, rX8_run_28, rX8_run_29, rX8_run_30, rX8_run_31, rX8_run_34, rX8_run_35, rX8_run_38, rX8_run_41, rX8_run_42, rX8_run_45, rX8_run_46, rX8_run_49, rX8_run_50, rX8_run_76, rX8_run_77, rX8_run_80, rX8_run_83, rX8_run_86, rX8_run_87, rX8_run_88, rX8_run_89, rX8_run_90, rX8_run_93, rX8_run_96, rX8_run_99, rX8_run_100, rX8_run_101, rX8_run_102, rX8_run_103, rX8_run_106, rX8_run_109, rX8_run_112, true_and, and_true, true_or, or_true, false_or, or_false, Option.toList_some, Option.toList_none, List.nil_append, List.cons_append, zn1, sO_0 hG, kTr hG tr16]
        refine kadv (n := k) (P := H 3 1) (r := H 3 2) (kind := H 3 3) hG tr16 hT1 (by rw [e13]) (by rw [e13]) (by rw [e13]) b1 (B0_ok hB) (by omega) t1 (d1 _ _) (fun H2 f2 b2 d2 => ?_)
        have cF : ∀ b : Nat, b < 16 ∨ 26 < b → H2 b = H b := fun b hb => by rw [f2 b (by omega), f1 b (by omega)]
        have hS2 : SR G H2 := SR_C hS (ksC_T (fun b hb => cF b (by omega)))
        have e23 : H2 3 = H 3 := cF 3 (by omega)
        have hi6 : 0 ≤ i ∧ i < 6 := by omega
        simp only [rX8_run_0, rX8_run_1, rX8_run_2, rX8_run_5, rX8_run_8, rX8_run_11, rX8_run_12, rX8_run_13, rX8_run_16, rX8_run_19, rX8_run_20, rX8_run_21, rX8_run_22, rX8_run_25, rX8_run_28, rX8_run_29, rX8_run_30, rX8_run_31, rX8_run_34, rX8_run_35, rX8_run_38, rX8_run_41, rX8_run_42, rX8_run_45, rX8_run_46, rX8_run_49, rX8_run_50, rX8_run_76, rX8_run_77, rX8_run_80, rX8_run_83, rX8_run_86, rX8_run_87, rX8_run_88, rX8_run_89, rX8_run_90, rX8_run_93, rX8_run_96, rX8_run_99, rX8_run_100, rX8_run_101, rX8_run_102, rX8_run_103, rX8_run_106, rX8_run_109, rX8_run_112, true_and, and_true, true_or, or_true, false_or, or_false, Option.toList_some, Option.toList_none, List.nil_append, List.cons_append, zn1, sO_0 hG, kTr hG tr16, kB hG (tr_bk tr16), hi6, kX0_living hG (tr_bk tr16) (show 1 ≤ H2 3 1 by rw [e23]; exact P0) (show H2 3 1 ≤ 6 by rw [e23]; exact P1)]
        have key : ∀ v : Int, v = (if w = 0 then (wkn (H 3 1) (H 3 2) (H 3 3) k (B0 H cs)).1.1 i else if w = 1 then (wkn (H 3 1) (H 3 2) (H 3 3) k (B0 H cs)).1.2.1 i else slive (H 3 1) (wkn (H 3 1) (H 3 2) (H 3 3) k (B0 H cs)).1.1) → (∃ v' : Int, some (vi v) = some (vi v') ∧ zCall qX9_run [vr 130, vi (k : Int), vi i, vi w] G H2 (fun r' G2 H2 => r' = some (vi v') ∧ SR G2 H2)) := by
          intro v hv
          refine ⟨v, rfl, kX9_run (P := H 3 1) (r := H 3 2) (kind := H 3 3) (B := B0 H cs) hG (tOKm_of hS2.2.1) (by rw [cF 130 (by omega)]; exact m4) (by rw [cF 130 (by omega)]; exact m6) (by rw [cF 130 (by omega)]; exact m7) (MB_0 hB (by rw [asd_ne (by omega) (by omega), cF 134 (by omega)])) (B0_ok hB) (by rw [cF 139 (by omega)]; exact hn8) c2.1 c2.2 (by omega) c3.1 c3.2 (fun H3 k3 => ⟨?_, SR_M hS2 k3⟩)⟩
          rw [hv]
        have ha := b2.1.1 i c2.1 (by omega)
        have ag : ag6 (H2 (16 + 2 + 1)) (wkn (H 3 1) (H 3 2) (H 3 3) k (B0 H cs)).1.1 := fun p p0 p1 => (b2.1.1 p p0 p1).1
        by_cases d0 : w = 0
        · rw [if_pos d0]
          exact key _ (by rw [if_pos d0]; exact ha.1)
        · rw [if_neg d0]
          by_cases d1 : w = 1
          · rw [if_pos d1]
            exact key _ (by rw [if_neg d0, if_pos d1]; exact ha.2)
          · rw [if_neg d1]
            exact key _ (by rw [if_neg d0, if_neg d1, e23, slive_ag P1 ag])
      · rw [if_neg c3]
        exact hbad (fun z => c3 z.2)
    · rw [if_pos c2]
      exact hbad (fun z => c2 z.1.2)
  · rw [if_pos c1]
    exact hbad (fun z => c1 z.1.1)
