/-! who falls -/
def mLess (f g : Int → Int) (n : Nat) : Int := zfor (fun k acc => zw (acc + bi (f k < g k))) 0 n 0
def mFirst (df dt : Int → Int) (ex : Int) (n : Nat) : Int := zfor (fun k h => if (((k : Int) ≠ ex ∧ df k ≠ -4) ∧ (dt k = -4 ∨ df k < dt k)) ∧ (h = -4 ∨ df k < df h) then (k : Int) else h) 0 n (-4)
theorem falls_tail {i w : Int} {n Pn : Nat} {v4 v5 v6 v7 : zV} {G : zG} {H : zH} {Q' : Option zV → zG → zH → Prop} (hG : zOK G) (hP : H 130 4 = (Pn : Int)) (P6 : Pn ≤ 6) (n8 : n ≤ 8) (hq : Q' (some (vi (if w = 0 then mLess (H 140) (H 141) n else mFirst (H 142) (H 143) i Pn))) G H) : zRun qX9_falls 125 [vr 130, vi i, vi w, vi (n : Int), vu, vu, vu, vu] [] G H Q' := by
  simp only [rX9_falls_125, rX9_falls_126, rX9_falls_128, rX9_falls_129, true_and, and_true, true_or, or_true, false_or, or_false, Option.toList_some, Option.toList_none, List.nil_append, List.cons_append, zn1]
  have first : ∀ v7 : zV, zn1 v7 → zRun qX9_falls 177 [vr 130, vi i, vi w, vi (n : Int), vi (mLess (H 140) (H 141) n), vi (-4), vi 0, v7] [] G H Q' := by
    intro v7 _
    refine zfor_goI (R := fun k g => ∀ v7 : zV, zRun qX9_falls 177 [vr 130, vi i, vi w, vi (n : Int), vi (mLess (H 140) (H 141) n), vi g, vi (k : Int), v7] [] G H Q') (fun k g => g = -4 ∨ (0 ≤ g ∧ g < 6)) (F := fun k h => if (((k : Int) ≠ i ∧ H 142 k ≠ -4) ∧ (H 143 k = -4 ∨ H 142 k < H 143 k)) ∧ (h = -4 ∨ H 142 k < H 142 h) then (k : Int) else h) (n := Pn) (fun k g hk hi => ?_) (fun k g hk hi hq v7 => ?_) (-4) (Or.inl rfl) ?_ v7
    · split <;> omega
    · have k6 : (0 : Int) ≤ k ∧ (k : Int) < 6 := by omega
      rw [rX9_falls_177]
      simp only [rX9_falls_179, rX9_falls_180, rX9_falls_183, rX9_falls_186, rX9_falls_188, rX9_falls_189, rX9_falls_192, rX9_falls_193, rX9_falls_196, rX9_falls_198, rX9_falls_199, rX9_falls_201, rX9_falls_204, rX9_falls_205, rX9_falls_208, rX9_falls_210, rX9_falls_211, rX9_falls_213, rX9_falls_216, rX9_falls_217, rX9_falls_220, rX9_falls_222, rX9_falls_223, rX9_falls_224, rX9_falls_227, rX9_falls_229, rX9_falls_230, rX9_falls_233, rX9_falls_234, rX9_falls_237, rX9_falls_238, rX9_falls_240, rX9_falls_242, rX9_falls_245, rX9_falls_247, rX9_falls_249, rX9_falls_252, rX9_falls_253, rX9_falls_256, rX9_falls_258, rX9_falls_259, rX9_falls_260, rX9_falls_263, rX9_falls_265, rX9_falls_266, rX9_falls_269, rX9_falls_271, rX9_falls_274, rX9_falls_276, rX9_falls_278, rX9_falls_281, true_and, and_true, true_or, or_true, false_or, or_false, Option.toList_some, Option.toList_none, List.nil_append, List.cons_append, zn1, kM hG, hP, k6, zwk (show k < 2000000000 by omega), Int.reduceEq, reduceIte]
      rw [if_neg (by omega)]
      have nope : ¬ (((k : Int) ≠ i ∧ H 142 k ≠ -4) ∧ (H 143 k = -4 ∨ H 142 k < H 143 k)) → zRun qX9_falls 177 [vr 130, vi i, vi w, vi (n : Int), vi (mLess (H 140) (H 141) n), vi g, vi ((k + 1 : Nat) : Int), vi 0] [] G H Q' := by
        intro hc
        rw [if_neg (fun z => hc z.1)] at hq
        exact hq _
      have yes : (((k : Int) ≠ i ∧ H 142 k ≠ -4) ∧ (H 143 k = -4 ∨ H 142 k < H 143 k)) → (if g = -4 then zRun qX9_falls 177 [vr 130, vi i, vi w, vi (n : Int), vi (mLess (H 140) (H 141) n), vi (k : Int), vi ((k + 1 : Nat) : Int), vi 1] [] G H Q' else (0 ≤ g ∧ g < 6) ∧ if H 142 g ≤ H 142 k then zRun qX9_falls 177 [vr 130, vi i, vi w, vi (n : Int), vi (mLess (H 140) (H 141) n), vi g, vi ((k + 1 : Nat) : Int), vi 1] [] G H Q' else zRun qX9_falls 177 [vr 130, vi i, vi w, vi (n : Int), vi (mLess (H 140) (H 141) n), vi (k : Int), vi ((k + 1 : Nat) : Int), vi 1] [] G H Q') := by
        intro hc
        by_cases c : g = -4
        · rw [if_pos c]
          rw [if_pos ⟨hc, Or.inl c⟩] at hq
          exact hq _
        · rw [if_neg c]
          refine ⟨by omega, ?_⟩
          by_cases c2 : H 142 g ≤ H 142 k
          · rw [if_pos c2]
            rw [if_neg (fun z => by omega)] at hq
            exact hq _
          · rw [if_neg c2]
            rw [if_pos ⟨hc, Or.inr (by omega)⟩] at hq
            exact hq _
      by_cases c1 : (k : Int) = i
      · rw [if_pos c1]
        exact nope (fun z => z.1.1 c1)
      · rw [if_neg c1]
        by_cases c2 : H 142 k = -4
        · rw [if_pos c2]
          exact nope (fun z => z.1.2 c2)
        · rw [if_neg c2]
          by_cases c3 : H 143 k = -4
          · rw [if_pos c3]
            exact yes ⟨⟨c1, c2⟩, Or.inl c3⟩
          · rw [if_neg c3]
            by_cases c4 : H 143 k ≤ H 142 k
            · rw [if_pos c4]
              exact nope (fun z => by omega)
            · rw [if_neg c4]
              exact yes ⟨⟨c1, c2⟩, Or.inr (by omega)⟩
    · intro v7
      rw [rX9_falls_177]
      simp only [rX9_falls_179, rX9_falls_180, rX9_falls_183, rX9_falls_284, rX9_falls_285, rX9_falls_288, rX9_falls_290, rX9_falls_293, rX9_falls_295, true_and, and_true, true_or, or_true, false_or, or_false, Option.toList_some, Option.toList_none, List.nil_append, List.cons_append, zn1, kM hG, hP]
      rw [if_pos (by omega)]
      by_cases c : w = 0
      · rw [if_neg (fun z => z c)]
        rw [if_pos c] at hq
        exact hq
      · rw [if_pos c]
        rw [if_neg c] at hq
        exact hq
  refine zfor_go (R := fun k acc => zRun qX9_falls 131 [vr 130, vi i, vi w, vi (n : Int), vi acc, vi (k : Int), vu, vu] [] G H Q') (F := fun k acc => zw (acc + bi (H 140 k < H 141 k))) (n := n) (fun k acc hk hq => ?_) 0 ?_
  · have k8 : (0 : Int) ≤ k ∧ (k : Int) < 8 := by omega
    have k9 : (k : Int) < 9 := by omega
    rw [rX9_falls_131]
    simp only [rX9_falls_133, rX9_falls_134, rX9_falls_137, rX9_falls_139, rX9_falls_140, rX9_falls_143, rX9_falls_145, rX9_falls_146, rX9_falls_147, rX9_falls_150, rX9_falls_152, rX9_falls_153, rX9_falls_156, rX9_falls_157, rX9_falls_160, rX9_falls_161, rX9_falls_162, rX9_falls_164, rX9_falls_167, true_and, and_true, true_or, or_true, false_or, or_false, Option.toList_some, Option.toList_none, List.nil_append, List.cons_append, zn1, kM hG, k8, k9, zwk (show k < 2000000000 by omega)]
    rw [if_neg (by omega)]
    split
    · rw [bi_f (by omega)] at hq
      exact hq
    · rw [bi_t (by omega)] at hq
      exact hq
  · rw [rX9_falls_131]
    simp only [rX9_falls_133, rX9_falls_134, rX9_falls_170, rX9_falls_172, rX9_falls_174, rX9_falls_175, true_and, and_true, true_or, or_true, false_or, or_false, Option.toList_some, Option.toList_none, List.nil_append, List.cons_append, zn1]
    rw [if_pos (by omega)]
    exact first vu trivial
/-- the model's rows of deaths and payments put beside -/
theorem falls_mid {i w : Int} {Pn : Nat} {G : zG} {H : zH} {Q' : Option zV → zG → zH → Prop} (hG : zOK G) (hP : H 130 4 = (Pn : Int)) (P6 : Pn ≤ 6)
    (hq : ∀ H' : zH, (∀ b, b ≠ 141 → b ≠ 143 → H' b = H b) → (∀ k : Int, 0 ≤ k → k < 8 → H' 141 k = H 140 k) → (∀ p : Int, 0 ≤ p → p < (Pn : Int) → H' 143 p = H 142 p) → zRun qX9_falls 96 [vr 130, vi i, vi w, vi (Pn : Int), vu, vu, vu, vu] [] G H' Q') : zRun qX9_falls 42 [vr 130, vi i, vi w, vu, vu, vu, vu, vu] [] G H Q' := by
  simp only [rX9_falls_42, rX9_falls_43, true_and, and_true, true_or, or_true, false_or, or_false, Option.toList_some, Option.toList_none, List.nil_append, List.cons_append, zn1]
  have l2 : ∀ (m k : Nat) (H1 : zH), k + m = Pn → (∀ b, b ≠ 141 → b ≠ 143 → H1 b = H b) → (∀ j : Int, 0 ≤ j → j < 8 → H1 141 j = H 140 j) → (∀ p : Int, 0 ≤ p → p < (k : Int) → H1 143 p = H 142 p) → zRun qX9_falls 70 [vr 130, vi i, vi w, vi (k : Int), vu, vu, vu, vu] [] G H1 Q' := by
    intro m
    induction m with
    | zero =>
      intro k H1 hk f1 j1 p1
      have : k = Pn := by omega
      subst this
      have q4 : H1 130 4 = (k : Int) := by rw [f1 130 (by omega) (by omega)]; exact hP
      rw [rX9_falls_70]
      simp only [rX9_falls_71, rX9_falls_72, rX9_falls_75, true_and, and_true, true_or, or_true, false_or, or_false, Option.toList_some, Option.toList_none, List.nil_append, List.cons_append, zn1, kM hG, q4]
      rw [if_pos (by omega)]
      exact hq H1 f1 j1 p1
    | succ m ih =>
      intro k H1 hk f1 j1 p1
      have q4 : H1 130 4 = (Pn : Int) := by rw [f1 130 (by omega) (by omega)]; exact hP
      have k6 : (0 : Int) ≤ k ∧ (k : Int) < 6 := by omega
      rw [rX9_falls_70]
      simp only [rX9_falls_71, rX9_falls_72, rX9_falls_75, rX9_falls_78, rX9_falls_79, rX9_falls_82, rX9_falls_83, rX9_falls_84, rX9_falls_87, rX9_falls_88, rX9_falls_89, rX9_falls_90, rX9_falls_93, true_and, and_true, true_or, or_true, false_or, or_false, Option.toList_some, Option.toList_none, List.nil_append, List.cons_append, zn1, kM hG, q4, k6, zup_def, zwk (show k < 2000000000 by omega)]
      rw [if_neg (by omega)]
      refine ih (k + 1) _ (by omega) (fun b b1 b2 => by rw [zset_ne b2]; exact f1 b b1 b2) (fun j j0 j2 => by rw [zset_ne (by omega)]; exact j1 j j0 j2) (fun p p0 p2 => ?_)
      rw [zset_eq, zfu_at, f1 142 (by omega) (by omega)]
      by_cases c : p = k
      · rw [if_pos c, c]
      · rw [if_neg c]
        exact p1 p p0 (by omega)
  have l1 : ∀ (m k : Nat) (H1 : zH), k + m = 8 → (∀ b, b ≠ 141 → b ≠ 143 → H1 b = H b) → (∀ j : Int, 0 ≤ j → j < (k : Int) → H1 141 j = H 140 j) → zRun qX9_falls 44 [vr 130, vi i, vi w, vi (k : Int), vu, vu, vu, vu] [] G H1 Q' := by
    intro m
    induction m with
    | zero =>
      intro k H1 hk f1 j1
      rw [rX9_falls_44]
      simp only [rX9_falls_45, rX9_falls_47, rX9_falls_68, rX9_falls_69, true_and, and_true, true_or, or_true, false_or, or_false, Option.toList_some, Option.toList_none, List.nil_append, List.cons_append, zn1]
      rw [if_pos (by omega)]
      exact l2 Pn 0 H1 (by omega) f1 (fun j j0 j2 => j1 j j0 (by omega)) (fun p p0 p1 => by omega)
    | succ m ih =>
      intro k H1 hk f1 j1
      have k8 : (0 : Int) ≤ k ∧ (k : Int) < 8 := by omega
      have k9 : (k : Int) < 9 := by omega
      rw [rX9_falls_44]
      simp only [rX9_falls_45, rX9_falls_47, rX9_falls_50, rX9_falls_51, rX9_falls_54, rX9_falls_55, rX9_falls_56, rX9_falls_59, rX9_falls_60, rX9_falls_61, rX9_falls_62, rX9_falls_65, true_and, and_true, true_or, or_true, false_or, or_false, Option.toList_some, Option.toList_none, List.nil_append, List.cons_append, zn1, kM hG, zup_def, zwk (show k < 2000000000 by omega)]
      rw [if_neg (by omega)]
      refine ⟨by omega, by omega, ih (k + 1) _ (by omega) (fun b b1 b2 => by rw [zset_ne b1]; exact f1 b b1 b2) (fun j j0 j2 => ?_)⟩
      rw [zset_eq, zfu_at, f1 140 (by omega) (by omega)]
      by_cases c : j = k
      · rw [if_pos c, c]
      · rw [if_neg c]
        exact j1 j j0 (by omega)
  exact l1 8 0 H (by omega) (fun _ _ _ => rfl) (fun j j0 j1 => by omega)
theorem kX9_falls {P r kind i v : Int} {cs : List zCo} {w l : Int → Int} {G : zG} {H : zH} {Q' : Option zV → zG → zH → Prop} (hG : zOK G) (hT : tOKm H) (eP : H 130 4 = P) (er : H 130 6 = r) (ek : H 130 7 = kind) (hb : bok P ((w, l, fun _ => 0), wm (fun k => k) 0 cs)) (hw : ∀ p : Int, 0 ≤ p → p < 6 → H 134 p = w p ∧ H 134 (6 + p) = l p) (hR : RBk (H 134) cs) (i0 : 0 ≤ i) (i1 : i < P) (hi : 0 < w i) (v0 : 0 ≤ v) (v1 : v ≤ 1)
    (hq : ∀ (H' : zH) (pf pt df dt : Int → Int), ksM H H' → (∀ k : Int, 0 ≤ k → k < 8 → pt k = (wkn P r kind 300 ((w, l, fun _ => 0), wm (fun k => k) 0 cs)).1.2.2 k ∧ pf k = (wkn P r kind 300 ((zfu w i 0, l, fun _ => 0), wm (fun k => k) 0 cs)).1.2.2 k) → (∀ p : Int, 0 ≤ p → p < P → dAns P r kind ((w, l, fun _ => 0), wm (fun k => k) 0 cs) 300 p (dt p) ∧ dAns P r kind ((zfu w i 0, l, fun _ => 0), wm (fun k => k) 0 cs) 300 p (df p)) → Q' (some (vi (if v = 0 then mLess pf pt cs.length else mFirst df dt i P.toNat))) G H') : zCall qX9_falls [vr 130, vi i, vi v] G H Q' := by
  have et : zset H 130 (zfu (H 130) 0 0) = th0 H := rfl
  have P1 : P ≤ 6 := by rw [← eP]; exact hT.1.2
  have P0 : 1 ≤ P := by rw [← eP]; exact hT.1.1
  obtain ⟨Pn, hPn⟩ := nat_of (show 0 ≤ P by omega)
  have t4 : th0 H 130 4 = P := by rw [th0_130 (by omega)]; exact eP
  have t134 : th0 H 134 = H 134 := th0_ne (by omega)
  have hi46 : 0 ≤ i ∧ i < 46 := by omega
  have ei := (hw i i0 (by omega)).1
  have h8 : cs.length ≤ 8 := by
    have := hb.2.1
    rw [wm_len] at this
    exact this
  rw [rX9_falls_in]
  simp only [rX9_falls_0, rX9_falls_1, rX9_falls_2, rX9_falls_5, rX9_falls_6, rX9_falls_7, rX9_falls_10, rX9_falls_13, rX9_falls_14, rX9_falls_15, rX9_falls_16, rX9_falls_19, rX9_falls_22, rX9_falls_23, rX9_falls_26, rX9_falls_27, rX9_falls_28, rX9_falls_33, rX9_falls_34, rX9_falls_35, rX9_falls_38, rX9_falls_39, true_and, and_true, true_or, or_true, false_or, or_false, Option.toList_some, Option.toList_none, List.nil_append, List.cons_append, zn1, kM hG, zup_def, et, kX9_in, kX9_isPerson hG (show 1 ≤ th0 H 130 4 by omega) (show th0 H 130 4 ≤ 6 by omega), bi_ne0, bi_eq0, t4, t134, hi46, kX9_aside1 hG]
  rw [if_neg (fun z => z i1), if_neg (fun z => z ⟨v0, v1⟩), if_pos (by omega)]
  have e1 : zset (th0 H) 135 (cpyo (th0 H 135) (H 134) 0 46) = asd H := by
    unfold asd
    rw [t134]
  rw [e1]
  have a134 : asd H 134 = H 134 := asd_ne (by omega) (by omega)
  refine kX9_runs (P := P) (r := r) (kind := kind) (cs := cs) (w := w) (l := l) hG (tOKm_asd hT rfl) (by rw [asd_130 (by omega)]; exact eP) (by rw [asd_130 (by omega)]; exact er) (by rw [asd_130 (by omega)]; exact ek) hb (by rw [a134]; exact hw) (by rw [a134]; exact hR) (fun H2 f2 b2 d2 n2 => ?_)
  simp only [true_and, and_true, true_or, or_true, false_or, or_false, Option.toList_some, Option.toList_none, List.nil_append, List.cons_append, zn1]
  have e2130 : H2 130 = asd H 130 := f2 130 (by omega) (by omega) (by omega) (by omega)
  refine falls_mid (Pn := Pn) hG (by rw [e2130, asd_130 (by omega), eP]; exact hPn) (by omega) (fun H4 f4 j4 p4 => ?_)
  simp only [rX9_falls_96, rX9_falls_97, rX9_falls_98, true_and, and_true, true_or, or_true, false_or, or_false, Option.toList_some, Option.toList_none, List.nil_append, List.cons_append, zn1, kM hG, kX9_aside0 hG]
  have q4 : ∀ b : Nat, b ≠ 134 → b ≠ 139 → b ≠ 140 → b ≠ 142 → b ≠ 141 → b ≠ 143 → H4 b = asd H b := fun b x1 x2 x3 x4 x5 x6 => by
    rw [f4 b x5 x6]
    exact f2 b x1 x2 x3 x4
  generalize hH5 : zset H4 134 (cpyo (H4 134) (H4 135) 0 46) = H5
  have f5 : ∀ b : Nat, b ≠ 134 → H5 b = H4 b := fun b hb => by rw [← hH5, zset_ne hb]
  have a5 : ∀ j : Int, 0 ≤ j → j < 46 → H5 134 j = H 134 j := fun j j0 j1 => by
    rw [← hH5, zset_eq, cpyo_in0 j0 j1, q4 135 (by omega) (by omega) (by omega) (by omega) (by omega) (by omega), asd_135 j0 j1]
  have e12 : H5 134 12 = (cs.length : Int) := by rw [a5 12 (by omega) (by omega)]; exact hR.1
  simp only [rX9_falls_101, rX9_falls_102, rX9_falls_105, rX9_falls_107, rX9_falls_108, rX9_falls_109, rX9_falls_110, rX9_falls_113, rX9_falls_114, rX9_falls_115, rX9_falls_116, rX9_falls_117, true_and, and_true, true_or, or_true, false_or, or_false, Option.toList_some, Option.toList_none, List.nil_append, List.cons_append, zn1, kM hG, hi46, e12, zup_def]
  refine ⟨by omega, ?_⟩
  generalize hH6 : zset H5 134 (zfu (H5 134) i 0) = H6
  have f6 : ∀ b : Nat, b ≠ 134 → H6 b = H4 b := fun b hb => by rw [← hH6, zset_ne hb, f5 b hb]
  have a6 : ∀ j : Int, 0 ≤ j → j < 46 → H6 134 j = if j = i then 0 else H 134 j := fun j j0 j1 => by
    rw [← hH6, zset_eq, zfu_at, a5 j j0 j1]
  have e6130 : H6 130 = asd H 130 := by rw [f6 130 (by omega), q4 130 (by omega) (by omega) (by omega) (by omega) (by omega) (by omega)]
  have hb6 : bok P ((zfu w i 0, l, fun _ => 0), wm (fun k => k) 0 cs) := by
    refine ⟨⟨fun p p0 p1 => ?_, ?_⟩, hb.2.1, hb.2.2⟩
    · show 0 ≤ zfu w i 0 p
      rw [zfu_at]
      split
      · omega
      · exact hb.1.1 p p0 p1
    · show ssum (zfu w i 0) ≤ 6000
      rw [ssum_fu i0 (by omega)]
      have h1 := hb.1.2
      have h2 : ssum w ≤ 6000 := h1
      omega
  refine kX9_runs (P := P) (r := r) (kind := kind) (cs := cs) (w := zfu w i 0) (l := l) hG (tOKm_asd hT e6130) (by rw [e6130, asd_130 (by omega)]; exact eP) (by rw [e6130, asd_130 (by omega)]; exact er) (by rw [e6130, asd_130 (by omega)]; exact ek) hb6 (fun p p0 p1 => ?_) ?_ (fun H7 f7 b7 d7 n7 => ?_)
  · refine ⟨?_, ?_⟩
    · rw [a6 p p0 (by omega), (hw p p0 p1).1, zfu_at]
    · rw [a6 _ (by omega) (by omega), if_neg (by omega), (hw p p0 p1).2]
  · refine ⟨by rw [a6 12 (by omega) (by omega), if_neg (by omega)]; exact hR.1, fun k c hc => ?_⟩
    have hl : k < cs.length := (List.getElem?_eq_some_iff.mp hc).1
    rw [a6 _ (by omega) (by omega), a6 _ (by omega) (by omega), a6 _ (by omega) (by omega), a6 _ (by omega) (by omega), if_neg (by omega), if_neg (by omega), if_neg (by omega), if_neg (by omega)]
    exact hR.2 k c hc
  simp only [rX9_falls_120, rX9_falls_121, rX9_falls_122, true_and, and_true, true_or, or_true, false_or, or_false, Option.toList_some, Option.toList_none, List.nil_append, List.cons_append, zn1, kM hG, kX9_aside0 hG]
  generalize hH8 : zset H7 134 (cpyo (H7 134) (H7 135) 0 46) = H8
  have f8 : ∀ b : Nat, b ≠ 134 → H8 b = H7 b := fun b hb => by rw [← hH8, zset_ne hb]
  have q8 : ∀ b : Nat, b ≠ 134 → b ≠ 139 → b ≠ 140 → b ≠ 142 → b ≠ 141 → b ≠ 143 → H8 b = asd H b := fun b x1 x2 x3 x4 x5 x6 => by
    rw [f8 b x1, f7 b x1 x2 x3 x4, f6 b x1, q4 b x1 x2 x3 x4 x5 x6]
  have e8130 := q8 130 (by omega) (by omega) (by omega) (by omega) (by omega) (by omega)
  have ks : ksM H H8 := by
    refine ⟨fun b hb => ?_, ⟨?_, ?_, ?_, ?_, ?_⟩, fun j j0 j1 => ?_, fun j j0 _ _ => ?_, ?_⟩
    · rw [q8 b (by omega) (by omega) (by omega) (by omega) (by omega) (by omega), asd_ne (by omega) (by omega)]
    · rw [q8 _ (by omega) (by omega) (by omega) (by omega) (by omega) (by omega), asd_ne (by omega) (by omega)]
    · rw [q8 _ (by omega) (by omega) (by omega) (by omega) (by omega) (by omega), asd_ne (by omega) (by omega)]
    · rw [q8 _ (by omega) (by omega) (by omega) (by omega) (by omega) (by omega), asd_ne (by omega) (by omega)]
    · rw [q8 _ (by omega) (by omega) (by omega) (by omega) (by omega) (by omega), asd_ne (by omega) (by omega)]
    · rw [q8 _ (by omega) (by omega) (by omega) (by omega) (by omega) (by omega), asd_ne (by omega) (by omega)]
    · rw [← hH8, zset_eq, cpyo_in0 j0 j1, f7 135 (by omega) (by omega) (by omega) (by omega), f6 135 (by omega), q4 135 (by omega) (by omega) (by omega) (by omega) (by omega) (by omega), asd_135 j0 j1]
    · rw [e8130, asd_130 j0]
    · rw [f8 139 (by omega)]
      exact n7
  have fin := hq H8 (H8 140) (H8 141) (H8 142) (H8 143) ks (fun k k0 k1 => ?_) (fun p p0 p1 => ?_)
  · refine falls_tail (n := cs.length) (Pn := Pn) (v4 := vu) (v5 := vu) (v6 := vu) (v7 := vu) hG (by rw [e8130, asd_130 (by omega), eP]; exact hPn) (by omega) h8 ?_
    rw [show P.toNat = Pn by omega] at fin
    exact fin
  · refine ⟨?_, ?_⟩
    · rw [f8 141 (by omega), f7 141 (by omega) (by omega) (by omega) (by omega), f6 141 (by omega), j4 k k0 k1]
      exact b2.1.2 k k0 k1
    · rw [f8 140 (by omega)]
      exact b7.1.2 k k0 k1
  · refine ⟨?_, ?_⟩
    · rw [f8 143 (by omega), f7 143 (by omega) (by omega) (by omega) (by omega), f6 143 (by omega), p4 p p0 (by omega)]
      exact d2 p p0 p1
    · rw [f8 142 (by omega)]
      exact d7 p p0 p1
