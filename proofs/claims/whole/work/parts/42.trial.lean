/-! Trial: deaths, start -/
theorem tr_ge {t : Nat} (ht : isTr t) : 16 ≤ t := by
  have e : ∀ t ∈ [16, 27], 16 ≤ t := by decide
  exact e t ht
theorem tr_bk {t : Nat} (ht : isTr t) : isBk (t + 2) := by
  have e : ∀ t ∈ [16, 27], t + 2 ∈ [7, 18, 29, 40, 49, 58, 67, 76, 85, 96, 105] := by decide
  exact e t ht
theorem kX7_noteDeaths {t : Nat} {span : Int} {G : zG} {H : zH} {Q' : Option zV → zG → zH → Prop} (hG : zOK G) (ht : isTr t) (h1 : 1 ≤ H 3 1) (h2 : H 3 1 ≤ 6)
    (hq : ∀ H' : zH, (∀ b, b ≠ t + 1 → H' b = H b) → (∀ p : Int, 0 ≤ p → p < 6 → H' (t + 1) p = if (p < H 3 1 ∧ 0 < H (t + 2 + 1) p) ∧ H (t + 2 + 1) p ≤ span then zw (H t 2 + H (t + 2 + 1) p) else H (t + 1) p) → Q' none G H') : zCall qX7_noteDeaths [vr t, vi span] G H Q' := by
  have hb := tr_ge ht
  have ho := tr_bk ht
  rw [rX7_noteDeaths_in]
  simp only [rX7_noteDeaths_0, rX7_noteDeaths_1, rX7_noteDeaths_3, rX7_noteDeaths_5, rX7_noteDeaths_8, rX7_noteDeaths_9, rX7_noteDeaths_12, rX7_noteDeaths_13, rX7_noteDeaths_16, rX7_noteDeaths_19, rX7_noteDeaths_20, rX7_noteDeaths_23, rX7_noteDeaths_26, rX7_noteDeaths_27, rX7_noteDeaths_28, rX7_noteDeaths_29, rX7_noteDeaths_32, rX7_noteDeaths_33, rX7_noteDeaths_36, rX7_noteDeaths_37, rX7_noteDeaths_38, rX7_noteDeaths_41, rX7_noteDeaths_42, rX7_noteDeaths_45, rX7_noteDeaths_48, rX7_noteDeaths_49, rX7_noteDeaths_50, rX7_noteDeaths_51, rX7_noteDeaths_52, rX7_noteDeaths_55, rX7_noteDeaths_58, true_and, and_true, true_or, or_true, false_or, or_false, Option.toList_some, Option.toList_none, List.nil_append, List.cons_append, zn1]
  have loop : ∀ (m k : Nat) (H1 : zH), k + m = 6 → (∀ b, b ≠ t + 1 → H1 b = H b) → (∀ p : Int, 0 ≤ p → p < 6 → H1 (t + 1) p = if p < (k : Int) ∧ (p < H 3 1 ∧ 0 < H (t + 2 + 1) p) ∧ H (t + 2 + 1) p ≤ span then zw (H t 2 + H (t + 2 + 1) p) else H (t + 1) p) → zRun qX7_noteDeaths 2 [vr t, vi span, vi (k : Int)] [] G H1 Q' := by
    intro m
    induction m with
    | zero =>
      intro k H1 hk hf hp
      rw [rX7_noteDeaths_2]
      simp only [rX7_noteDeaths_0, rX7_noteDeaths_1, rX7_noteDeaths_3, rX7_noteDeaths_5, rX7_noteDeaths_8, rX7_noteDeaths_9, rX7_noteDeaths_12, rX7_noteDeaths_13, rX7_noteDeaths_16, rX7_noteDeaths_19, rX7_noteDeaths_20, rX7_noteDeaths_23, rX7_noteDeaths_26, rX7_noteDeaths_27, rX7_noteDeaths_28, rX7_noteDeaths_29, rX7_noteDeaths_32, rX7_noteDeaths_33, rX7_noteDeaths_36, rX7_noteDeaths_37, rX7_noteDeaths_38, rX7_noteDeaths_41, rX7_noteDeaths_42, rX7_noteDeaths_45, rX7_noteDeaths_48, rX7_noteDeaths_49, rX7_noteDeaths_50, rX7_noteDeaths_51, rX7_noteDeaths_52, rX7_noteDeaths_55, rX7_noteDeaths_58, true_and, and_true, true_or, or_true, false_or, or_false, Option.toList_some, Option.toList_none, List.nil_append, List.cons_append, zn1]
      rw [if_pos (by omega)]
      refine hq H1 hf (fun p p0 p1 => ?_)
      rw [hp p p0 p1]
      simp only [show p < (k : Int) by omega, true_and]
    | succ m ih =>
      intro k H1 hk hf hp
      have e3 : H1 3 = H 3 := hf 3 (by omega)
      have e4 : H1 (t + 2 + 1) = H (t + 2 + 1) := hf _ (by omega)
      have et : H1 t = H t := hf _ (by omega)
      rw [rX7_noteDeaths_2]
      simp only [rX7_noteDeaths_0, rX7_noteDeaths_1, rX7_noteDeaths_3, rX7_noteDeaths_5, rX7_noteDeaths_8, rX7_noteDeaths_9, rX7_noteDeaths_12, rX7_noteDeaths_13, rX7_noteDeaths_16, rX7_noteDeaths_19, rX7_noteDeaths_20, rX7_noteDeaths_23, rX7_noteDeaths_26, rX7_noteDeaths_27, rX7_noteDeaths_28, rX7_noteDeaths_29, rX7_noteDeaths_32, rX7_noteDeaths_33, rX7_noteDeaths_36, rX7_noteDeaths_37, rX7_noteDeaths_38, rX7_noteDeaths_41, rX7_noteDeaths_42, rX7_noteDeaths_45, rX7_noteDeaths_48, rX7_noteDeaths_49, rX7_noteDeaths_50, rX7_noteDeaths_51, rX7_noteDeaths_52, rX7_noteDeaths_55, rX7_noteDeaths_58, true_and, and_true, true_or, or_true, false_or, or_false, Option.toList_some, Option.toList_none, List.nil_append, List.cons_append, zn1, kTr hG ht, kB hG ho, kX0_isAlive hG ho (show 1 ≤ H1 3 1 by rw [e3]; exact h1) (show H1 3 1 ≤ 6 by rw [e3]; exact h2), bi_eq0, e3, e4, et, zup_def, zwk (show k < 2000000000 by omega)]
      rw [if_neg (by omega)]
      have same : ¬ (((k : Int) < H 3 1 ∧ 0 < H (t + 2 + 1) k) ∧ H (t + 2 + 1) k ≤ span) → zRun qX7_noteDeaths 2 [vr t, vi span, vi ((k + 1 : Nat) : Int)] [] G H1 Q' := by
        intro hc
        refine ih (k + 1) H1 (by omega) hf (fun p p0 p1 => ?_)
        rw [hp p p0 p1]
        by_cases c : p = k
        · subst c
          rw [if_neg (by omega), if_neg (fun z => hc z.2)]
        · have : p < (k : Int) ↔ p < ((k + 1 : Nat) : Int) := by omega
          simp only [this]
      by_cases c1 : (k : Int) < H 3 1 ∧ 0 < H (t + 2 + 1) k
      · rw [if_neg (fun z => z ⟨⟨by omega, c1.1⟩, c1.2⟩)]
        refine ⟨by omega, ?_⟩
        by_cases c2 : H (t + 2 + 1) k ≤ span
        · rw [if_neg (by omega)]
          refine ⟨by omega, by omega, ?_⟩
          refine ih (k + 1) _ (by omega) (fun b hb' => ?_) (fun p p0 p1 => ?_)
          · rw [zset_ne hb']
            exact hf b hb'
          · rw [zset_eq, zfu_at]
            by_cases c : p = k
            · subst c
              rw [if_pos rfl, if_pos ⟨by omega, c1, c2⟩]
            · rw [if_neg c, hp p p0 p1]
              have : p < (k : Int) ↔ p < ((k + 1 : Nat) : Int) := by omega
              simp only [this]
        · rw [if_pos (by omega)]
          exact same (fun z => c2 z.2)
      · rw [if_pos (fun z => c1 ⟨z.1.2, z.2⟩)]
        exact same (fun z => c1 z.1)
  exact loop 6 0 H rfl (fun _ _ => rfl) (fun p p0 p1 => by rw [if_neg (by omega)])
/-- marks by place -/
def mkL : Nat → List zLn → List zLn
  | _, [] => []
  | k, x :: r => (x.1, x.2.1, x.2.2.1, x.2.2.2.1, (k : Int)) :: mkL (k + 1) r
theorem mkL_len : ∀ (k : Nat) (ls : List zLn), (mkL k ls).length = ls.length
  | k, [] => rfl
  | k, x :: r => by
    show (mkL (k + 1) r).length + 1 = r.length + 1
    rw [mkL_len]
theorem mkL_get : ∀ (ls : List zLn) (k j : Nat), (mkL k ls)[j]? = (ls[j]?).map (fun x => (x.1, x.2.1, x.2.2.1, x.2.2.2.1, ((k + j : Nat) : Int)))
  | [], k, j => by simp [mkL]
  | x :: r, k, 0 => by simp [mkL]
  | x :: r, k, j + 1 => by
    show (mkL (k + 1) r)[j]? = _
    rw [mkL_get r (k + 1) j, show k + 1 + j = k + (j + 1) by omega]
    rfl
/-- nothing but a trial's own cells -/
def frT (t : Nat) (H H' : zH) : Prop := ∀ b : Nat, b < t ∨ t + 10 < b → H' b = H b
theorem frT.rf {t : Nat} {H : zH} : frT t H H := fun _ _ => rfl
theorem frT.tr {t : Nat} {H H1 H2 : zH} (h1 : frT t H H1) (h2 : frT t H1 H2) : frT t H H2 := fun b x => (h2 b x).trans (h1 b x)
theorem kX7_start {t s : Nat} {ls : List zLn} {G : zG} {H : zH} {Q' : Option zV → zG → zH → Prop} (hG : zOK G) (ht : isTr t) (hs : isBk s) (hts : t + 2 ≠ s) (h1 : 1 ≤ H 3 1) (h2 : H 3 1 ≤ 6) (hL : LA H s ls) (h8 : ls.length ≤ 8)
    (hq : ∀ H' : zH, frT t H H' → (∀ p : Int, 0 ≤ p → p < 6 → H' (t + 2 + 1) p = H (s + 1) p ∧ H' (t + 2 + 2) p = H (s + 2) p) → (∀ k : Int, 0 ≤ k → k < 8 → H' (t + 2 + 8) k = 0) → LA H' (t + 2) (mkL 0 ls) → H' t 2 = 0 → (∀ p : Int, 0 ≤ p → p < 6 → H' (t + 1) p = if p < H 3 1 ∧ 0 < H (s + 1) p then 1000000 else 0) → mk8 (H' (t + 2 + 7)) → Q' none G H') : zCall qX7_start [vr t, vr s] G H Q' := by
  have hb := tr_ge ht
  have ho := tr_bk ht
  rw [rX7_start_in]
  simp only [rX7_start_0, rX7_start_1, rX7_start_4, rX7_start_5, rX7_start_8, rX7_start_9, rX7_start_12, rX7_start_15, rX7_start_16, rX7_start_17, rX7_start_20, rX7_start_21, rX7_start_23, rX7_start_25, rX7_start_28, rX7_start_29, rX7_start_32, rX7_start_33, rX7_start_34, rX7_start_37, rX7_start_38, rX7_start_41, rX7_start_44, rX7_start_46, rX7_start_49, rX7_start_50, rX7_start_51, rX7_start_54, rX7_start_57, true_and, and_true, true_or, or_true, false_or, or_false, Option.toList_some, Option.toList_none, List.nil_append, List.cons_append, zn1, kTr hG ht, kB hG ho]
  refine kX0_copyFrom hG ho hs hts (fun H1 f1 c1 _ _ => ?_)
  simp only [rX7_start_0, rX7_start_1, rX7_start_4, rX7_start_5, rX7_start_8, rX7_start_9, rX7_start_12, rX7_start_15, rX7_start_16, rX7_start_17, rX7_start_20, rX7_start_21, rX7_start_23, rX7_start_25, rX7_start_28, rX7_start_29, rX7_start_32, rX7_start_33, rX7_start_34, rX7_start_37, rX7_start_38, rX7_start_41, rX7_start_44, rX7_start_46, rX7_start_49, rX7_start_50, rX7_start_51, rX7_start_54, rX7_start_57, true_and, and_true, true_or, or_true, false_or, or_false, Option.toList_some, Option.toList_none, List.nil_append, List.cons_append, zn1, kTr hG ht, kB hG ho]
  refine kX0_markLoans hG ho (fun H2 f2 c2 => ?_)
  simp only [rX7_start_0, rX7_start_1, rX7_start_4, rX7_start_5, rX7_start_8, rX7_start_9, rX7_start_12, rX7_start_15, rX7_start_16, rX7_start_17, rX7_start_20, rX7_start_21, rX7_start_23, rX7_start_25, rX7_start_28, rX7_start_29, rX7_start_32, rX7_start_33, rX7_start_34, rX7_start_37, rX7_start_38, rX7_start_41, rX7_start_44, rX7_start_46, rX7_start_49, rX7_start_50, rX7_start_51, rX7_start_54, rX7_start_57, true_and, and_true, true_or, or_true, false_or, or_false, Option.toList_some, Option.toList_none, List.nil_append, List.cons_append, zn1, kTr hG ht, zup_def]
  have w2 : ∀ p : Int, 0 ≤ p → p < 6 → H2 (t + 2 + 1) p = H (s + 1) p ∧ H2 (t + 2 + 2) p = H (s + 2) p := fun p p0 p1 => by
    rw [f2 _ (by omega) (by omega), f2 _ (by omega) (by omega)]
    exact c1.1 p p0 p1
  have e3 : H2 3 = H 3 := by rw [f2 _ (by omega) (by omega), f1 _ (by omega)]
  have loop : ∀ (m k : Nat) (H3 : zH), k + m = 6 → (∀ b, b ≠ t → b ≠ t + 1 → H3 b = H2 b) → H3 t 2 = 0 → (∀ p : Int, 0 ≤ p → p < (k : Int) → H3 (t + 1) p = if p < H 3 1 ∧ 0 < H (s + 1) p then 1000000 else 0) → zRun qX7_start 22 [vr t, vr s, vi (k : Int)] [] G H3 Q' := by
    intro m
    induction m with
    | zero =>
      intro k H3 hk hf h32 hp
      rw [rX7_start_22]
      simp only [rX7_start_0, rX7_start_1, rX7_start_4, rX7_start_5, rX7_start_8, rX7_start_9, rX7_start_12, rX7_start_15, rX7_start_16, rX7_start_17, rX7_start_20, rX7_start_21, rX7_start_23, rX7_start_25, rX7_start_28, rX7_start_29, rX7_start_32, rX7_start_33, rX7_start_34, rX7_start_37, rX7_start_38, rX7_start_41, rX7_start_44, rX7_start_46, rX7_start_49, rX7_start_50, rX7_start_51, rX7_start_54, rX7_start_57, true_and, and_true, true_or, or_true, false_or, or_false, Option.toList_some, Option.toList_none, List.nil_append, List.cons_append, zn1]
      rw [if_pos (by omega)]
      refine hq H3 (fun b hb' => ?_) (fun p p0 p1 => ?_) (fun k k0 k1 => ?_) ⟨?_, fun j x hj => ?_⟩ h32 (fun p p0 p1 => hp p p0 (by omega)) (fun q q0 q1 => by rw [hf _ (by omega) (by omega), (c2 q q0 q1).1]; omega)
      · rw [hf b (by omega) (by omega), f2 b (by omega) (by omega), f1 b (by omega)]
      · rw [hf _ (by omega) (by omega), hf _ (by omega) (by omega)]
        exact w2 p p0 p1
      · rw [hf _ (by omega) (by omega)]
        exact (c2 k k0 k1).2
      · rw [hf _ (by omega) (by omega), f2 _ (by omega) (by omega), mkL_len, c1.2.2.1]
        exact hL.1
      · rw [mkL_get] at hj
        cases hx : ls[j]? with
        | none => rw [hx] at hj; cases hj
        | some y =>
          rw [hx] at hj
          cases hj
          have hjl : j < ls.length := (List.getElem?_eq_some_iff.mp hx).1
          obtain ⟨a1, a2, a3, a4, a5⟩ := hL.2 j y hx
          obtain ⟨g1, g2, g3, g4⟩ := c1.2.1 j (by omega) (by omega)
          refine ⟨?_, ?_, ?_, ?_, ?_⟩
          · rw [hf _ (by omega) (by omega), f2 _ (by omega) (by omega), g1]; exact a1
          · rw [hf _ (by omega) (by omega), f2 _ (by omega) (by omega), g2]; exact a2
          · rw [hf _ (by omega) (by omega), f2 _ (by omega) (by omega), g3]; exact a3
          · rw [hf _ (by omega) (by omega), f2 _ (by omega) (by omega), g4]; exact a4
          · rw [hf _ (by omega) (by omega), (c2 j (by omega) (by omega)).1]
            show (j : Int) = ((0 + j : Nat) : Int)
            omega
    | succ m ih =>
      intro k H3 hk hf h32 hp
      have e33 : H3 3 = H 3 := by rw [hf 3 (by omega) (by omega), e3]
      have e34 : H3 (t + 2 + 1) k = H (s + 1) k := by rw [hf _ (by omega) (by omega)]; exact (w2 k (by omega) (by omega)).1
      rw [rX7_start_22]
      simp only [rX7_start_0, rX7_start_1, rX7_start_4, rX7_start_5, rX7_start_8, rX7_start_9, rX7_start_12, rX7_start_15, rX7_start_16, rX7_start_17, rX7_start_20, rX7_start_21, rX7_start_23, rX7_start_25, rX7_start_28, rX7_start_29, rX7_start_32, rX7_start_33, rX7_start_34, rX7_start_37, rX7_start_38, rX7_start_41, rX7_start_44, rX7_start_46, rX7_start_49, rX7_start_50, rX7_start_51, rX7_start_54, rX7_start_57, true_and, and_true, true_or, or_true, false_or, or_false, Option.toList_some, Option.toList_none, List.nil_append, List.cons_append, zn1, kTr hG ht, kB hG ho, kX0_isAlive hG ho (show 1 ≤ H3 3 1 by rw [e33]; exact h1) (show H3 3 1 ≤ 6 by rw [e33]; exact h2), bi_eq0, e33, e34, zup_def, zwk (show k < 2000000000 by omega)]
      rw [if_neg (by omega)]
      have fin : ∀ v : Int, v = (if (k : Int) < H 3 1 ∧ 0 < H (s + 1) k then 1000000 else 0) → zRun qX7_start 22 [vr t, vr s, vi ((k + 1 : Nat) : Int)] [] G (zset H3 (t + 1) (zfu (H3 (t + 1)) k v)) Q' := by
        intro v hv
        refine ih (k + 1) _ (by omega) (fun b b1 b2 => ?_) ?_ (fun p p0 p1 => ?_)
        · rw [zset_ne b2]
          exact hf b b1 b2
        · rw [zset_ne (by omega)]
          exact h32
        · rw [zset_eq, zfu_at]
          by_cases c : p = k
          · subst c
            rw [if_pos rfl]
            exact hv
          · rw [if_neg c]
            exact hp p p0 (by omega)
      by_cases c : (k : Int) < H 3 1 ∧ 0 < H (s + 1) k
      · rw [if_neg (fun z => z ⟨⟨by omega, c.1⟩, c.2⟩)]
        exact ⟨by omega, fin _ (by rw [if_pos c])⟩
      · rw [if_pos (fun z => c ⟨z.1.2, z.2⟩)]
        exact ⟨by omega, fin _ (by rw [if_neg c])⟩
  refine loop 6 0 _ rfl (fun b b1 b2 => ?_) ?_ (fun p p0 p1 => by omega)
  · rw [zset_ne b1]
  · rw [zset_eq, zfu_at, if_pos rfl]
