/-! Books: what is due is dropped -/
def nd (x : zLn) : Bool := decide (¬ x.2.2.2.1 ≤ 0)
/-- nothing but the loans' rows and their number -/
def frD (o : Nat) (H H' : zH) : Prop := (∀ b : Nat, b ≠ o → (b < o + 3 ∨ o + 7 < b) → H' b = H b) ∧ ∀ i : Int, i ≠ 9 → H' o i = H o i
theorem frD.rf {o : Nat} {H : zH} : frD o H H := ⟨fun _ _ _ => rfl, fun _ _ => rfl⟩
theorem frD.tr {o : Nat} {H H1 H2 : zH} (h1 : frD o H H1) (h2 : frD o H1 H2) : frD o H H2 := ⟨fun b x y => (h2.1 b x y).trans (h1.1 b x y), fun i x => (h2.2 i x).trans (h1.2 i x)⟩
def mk8 (f : Int → Int) : Prop := ∀ k : Int, 0 ≤ k → k < 8 → 0 ≤ f k ∧ f k < 8
def put5 (H : zH) (o : Nat) (j : Int) (x : zLn) : zH := zset (zset (zset (zset (zset H (o + 3) (zfu (H (o + 3)) j x.1)) (o + 4) (zfu (H (o + 4)) j x.2.1)) (o + 5) (zfu (H (o + 5)) j x.2.2.1)) (o + 6) (zfu (H (o + 6)) j x.2.2.2.1)) (o + 7) (zfu (H (o + 7)) j x.2.2.2.2)
theorem put5_fr {H : zH} {o : Nat} {j : Int} {x : zLn} : frD o H (put5 H o j x) := by
  refine ⟨fun b h1 h2 => ?_, fun i _ => ?_⟩
  · simp only [put5, zset_at]
    rw [if_neg (by omega), if_neg (by omega), if_neg (by omega), if_neg (by omega), if_neg (by omega)]
  · simp only [put5, zset_at]
    rw [if_neg (by omega), if_neg (by omega), if_neg (by omega), if_neg (by omega), if_neg (by omega)]
theorem put5_3 {H : zH} {o : Nat} {j : Int} {x : zLn} : put5 H o j x (o + 3) = zfu (H (o + 3)) j x.1 := by simp [put5, zset_at]
theorem put5_4 {H : zH} {o : Nat} {j : Int} {x : zLn} : put5 H o j x (o + 4) = zfu (H (o + 4)) j x.2.1 := by simp [put5, zset_at]
theorem put5_5 {H : zH} {o : Nat} {j : Int} {x : zLn} : put5 H o j x (o + 5) = zfu (H (o + 5)) j x.2.2.1 := by simp [put5, zset_at]
theorem put5_6 {H : zH} {o : Nat} {j : Int} {x : zLn} : put5 H o j x (o + 6) = zfu (H (o + 6)) j x.2.2.2.1 := by simp [put5, zset_at]
theorem put5_7 {H : zH} {o : Nat} {j : Int} {x : zLn} : put5 H o j x (o + 7) = zfu (H (o + 7)) j x.2.2.2.2 := by simp [put5, zset_at]
theorem put5_AR {H : zH} {o j : Nat} {x : zLn} : AR (put5 H o (j : Int) x) o j x := by
  unfold AR
  rw [put5_3, put5_4, put5_5, put5_6, put5_7]
  simp only [zfu_at, if_true, and_self]
theorem put5_ARne {H : zH} {o j k : Nat} {x y : zLn} (hjk : k ≠ j) (h : AR H o k y) : AR (put5 H o (j : Int) x) o k y := by
  have e : ¬ (k : Int) = (j : Int) := by omega
  unfold AR at h ⊢
  rw [put5_3, put5_4, put5_5, put5_6, put5_7]
  simp only [zfu_at, if_neg e]
  exact h
theorem kX0_dropThoseDue {o : Nat} {ls : List zLn} {G : zG} {H : zH} {Q' : Option zV → zG → zH → Prop} (hG : zOK G) (ho : isBk o) (hL : LA H o ls) (h8 : ls.length ≤ 8) (hq : ∀ H' : zH, frD o H H' → LA H' o (ls.filter nd) → (mk8 (H (o + 7)) → mk8 (H' (o + 7))) → Q' none G H') : zCall qX0_dropThoseDue [vr o] G H Q' := by
  rw [rX0_dropThoseDue_in]
  simp only [rX0_dropThoseDue_0, rX0_dropThoseDue_1, rX0_dropThoseDue_2, rX0_dropThoseDue_3, rX0_dropThoseDue_5, rX0_dropThoseDue_6, rX0_dropThoseDue_9, rX0_dropThoseDue_12, rX0_dropThoseDue_13, rX0_dropThoseDue_14, rX0_dropThoseDue_17, rX0_dropThoseDue_20, rX0_dropThoseDue_21, rX0_dropThoseDue_24, rX0_dropThoseDue_25, rX0_dropThoseDue_26, rX0_dropThoseDue_29, rX0_dropThoseDue_30, rX0_dropThoseDue_31, rX0_dropThoseDue_32, rX0_dropThoseDue_33, rX0_dropThoseDue_36, rX0_dropThoseDue_37, rX0_dropThoseDue_38, rX0_dropThoseDue_41, rX0_dropThoseDue_42, rX0_dropThoseDue_43, rX0_dropThoseDue_44, rX0_dropThoseDue_45, rX0_dropThoseDue_48, rX0_dropThoseDue_49, rX0_dropThoseDue_50, rX0_dropThoseDue_53, rX0_dropThoseDue_54, rX0_dropThoseDue_55, rX0_dropThoseDue_56, rX0_dropThoseDue_57, rX0_dropThoseDue_60, rX0_dropThoseDue_61, rX0_dropThoseDue_62, rX0_dropThoseDue_65, rX0_dropThoseDue_66, rX0_dropThoseDue_67, rX0_dropThoseDue_68, rX0_dropThoseDue_69, rX0_dropThoseDue_72, rX0_dropThoseDue_73, rX0_dropThoseDue_74, rX0_dropThoseDue_77, rX0_dropThoseDue_78, rX0_dropThoseDue_79, rX0_dropThoseDue_80, rX0_dropThoseDue_83, rX0_dropThoseDue_86, rX0_dropThoseDue_89, rX0_dropThoseDue_90, rX0_dropThoseDue_91, rX0_dropThoseDue_94, true_and, and_true, true_or, or_true, false_or, or_false, Option.toList_some, Option.toList_none, List.nil_append, List.cons_append, zn1]
  have loop : ∀ (rest : List zLn) (k : Nat) (dn : List zLn) (H1 : zH), dn.length ≤ k → k + rest.length = ls.length → H1 o 9 = (ls.length : Int) → (∀ j x, dn[j]? = some x → AR H1 o j x) → (∀ j x, rest[j]? = some x → AR H1 o (k + j) x) → frD o H H1 → (mk8 (H (o + 7)) → mk8 (H1 (o + 7))) → (∀ H' : zH, frD o H H' → LA H' o (dn ++ rest.filter nd) → (mk8 (H (o + 7)) → mk8 (H' (o + 7))) → Q' none G H') → zRun qX0_dropThoseDue 4 [vr o, vi (dn.length : Int), vi (k : Int)] [] G H1 Q' := by
    intro rest
    induction rest with
    | nil =>
      intro k dn H1 c1 c2 c3 c4 c5 c6 c8 c7
      have c2 : k = ls.length := by simpa using c2
      rw [rX0_dropThoseDue_4]
      simp only [rX0_dropThoseDue_0, rX0_dropThoseDue_1, rX0_dropThoseDue_2, rX0_dropThoseDue_3, rX0_dropThoseDue_5, rX0_dropThoseDue_6, rX0_dropThoseDue_9, rX0_dropThoseDue_12, rX0_dropThoseDue_13, rX0_dropThoseDue_14, rX0_dropThoseDue_17, rX0_dropThoseDue_20, rX0_dropThoseDue_21, rX0_dropThoseDue_24, rX0_dropThoseDue_25, rX0_dropThoseDue_26, rX0_dropThoseDue_29, rX0_dropThoseDue_30, rX0_dropThoseDue_31, rX0_dropThoseDue_32, rX0_dropThoseDue_33, rX0_dropThoseDue_36, rX0_dropThoseDue_37, rX0_dropThoseDue_38, rX0_dropThoseDue_41, rX0_dropThoseDue_42, rX0_dropThoseDue_43, rX0_dropThoseDue_44, rX0_dropThoseDue_45, rX0_dropThoseDue_48, rX0_dropThoseDue_49, rX0_dropThoseDue_50, rX0_dropThoseDue_53, rX0_dropThoseDue_54, rX0_dropThoseDue_55, rX0_dropThoseDue_56, rX0_dropThoseDue_57, rX0_dropThoseDue_60, rX0_dropThoseDue_61, rX0_dropThoseDue_62, rX0_dropThoseDue_65, rX0_dropThoseDue_66, rX0_dropThoseDue_67, rX0_dropThoseDue_68, rX0_dropThoseDue_69, rX0_dropThoseDue_72, rX0_dropThoseDue_73, rX0_dropThoseDue_74, rX0_dropThoseDue_77, rX0_dropThoseDue_78, rX0_dropThoseDue_79, rX0_dropThoseDue_80, rX0_dropThoseDue_83, rX0_dropThoseDue_86, rX0_dropThoseDue_89, rX0_dropThoseDue_90, rX0_dropThoseDue_91, rX0_dropThoseDue_94, true_and, and_true, true_or, or_true, false_or, or_false, Option.toList_some, Option.toList_none, List.nil_append, List.cons_append, zn1, kB hG ho, c3, zup_def]
      rw [if_pos (by omega)]
      refine c7 _ ?_ ?_ (fun hm => by rw [zset_at, if_neg (by omega)]; exact c8 hm)
      · refine c6.tr ⟨fun b h1 h2 => ?_, fun i hi => ?_⟩
        · rw [zset_at, if_neg h1]
        · rw [zset_at, if_pos rfl, zfu_at, if_neg hi]
      · refine ⟨?_, fun j x hj => ?_⟩
        · rw [zset_at, if_pos rfl, zfu_at, if_pos rfl]
          simp
        · have hj : dn[j]? = some x := by simpa using hj
          have := c4 j x hj
          unfold AR at this ⊢
          simp only [zset_at]
          rw [if_neg (by omega), if_neg (by omega), if_neg (by omega), if_neg (by omega), if_neg (by omega)]
          exact this
    | cons x rest ih =>
      intro k dn H1 c1 c2 c3 c4 c5 c6 c8 c7
      have c2 : k + (rest.length + 1) = ls.length := by simpa using c2
      have hA : AR H1 o k x := by simpa using c5 0 x rfl
      obtain ⟨a1, a2, a3, a4, a5⟩ := id hA
      have hrest : ∀ (H2 : zH), (∀ j y, j ≠ dn.length → AR H1 o j y → AR H2 o j y) → ∀ j y, rest[j]? = some y → AR H2 o (k + 1 + j) y := fun H2 h2 j y hj => h2 _ _ (by omega) (by
        have := c5 (j + 1) y (by simpa using hj)
        rw [show k + 1 + j = k + (j + 1) by omega]
        exact this)
      rw [rX0_dropThoseDue_4]
      simp only [rX0_dropThoseDue_0, rX0_dropThoseDue_1, rX0_dropThoseDue_2, rX0_dropThoseDue_3, rX0_dropThoseDue_5, rX0_dropThoseDue_6, rX0_dropThoseDue_9, rX0_dropThoseDue_12, rX0_dropThoseDue_13, rX0_dropThoseDue_14, rX0_dropThoseDue_17, rX0_dropThoseDue_20, rX0_dropThoseDue_21, rX0_dropThoseDue_24, rX0_dropThoseDue_25, rX0_dropThoseDue_26, rX0_dropThoseDue_29, rX0_dropThoseDue_30, rX0_dropThoseDue_31, rX0_dropThoseDue_32, rX0_dropThoseDue_33, rX0_dropThoseDue_36, rX0_dropThoseDue_37, rX0_dropThoseDue_38, rX0_dropThoseDue_41, rX0_dropThoseDue_42, rX0_dropThoseDue_43, rX0_dropThoseDue_44, rX0_dropThoseDue_45, rX0_dropThoseDue_48, rX0_dropThoseDue_49, rX0_dropThoseDue_50, rX0_dropThoseDue_53, rX0_dropThoseDue_54, rX0_dropThoseDue_55, rX0_dropThoseDue_56, rX0_dropThoseDue_57, rX0_dropThoseDue_60, rX0_dropThoseDue_61, rX0_dropThoseDue_62, rX0_dropThoseDue_65, rX0_dropThoseDue_66, rX0_dropThoseDue_67, rX0_dropThoseDue_68, rX0_dropThoseDue_69, rX0_dropThoseDue_72, rX0_dropThoseDue_73, rX0_dropThoseDue_74, rX0_dropThoseDue_77, rX0_dropThoseDue_78, rX0_dropThoseDue_79, rX0_dropThoseDue_80, rX0_dropThoseDue_83, rX0_dropThoseDue_86, rX0_dropThoseDue_89, rX0_dropThoseDue_90, rX0_dropThoseDue_91, rX0_dropThoseDue_94, true_and, and_true, true_or, or_true, false_or, or_false, Option.toList_some, Option.toList_none, List.nil_append, List.cons_append, zn1, kB hG ho, neB ho, c3, kX0_isDue hG ho (show (0 : Int) ≤ k by omega) (show (k : Int) < 8 by omega), bi_ne0, zup_def, zset_at, if_true, if_false, zwk (show k < 2000000000 by omega), zwk (show dn.length < 2000000000 by omega), a1, a2, a3, a4, a5]
      rw [if_neg (by omega)]
      by_cases hdx : x.2.2.2.1 ≤ 0
      · rw [if_pos hdx]
        have hf : nd x = false := by simp [nd, hdx]
        refine ih (k + 1) dn H1 (by omega) (by omega) c3 c4 (hrest H1 (fun _ _ _ h => h)) c6 c8 ?_
        rw [List.filter_cons_of_neg (by simp [hf])] at c7
        exact c7
      · rw [if_neg hdx]
        have hf : nd x = true := by simp [nd, hdx]
        refine ⟨by omega, by omega, by omega, by omega, by omega, by omega, by omega, by omega, by omega, by omega, ?_⟩
        have hl : (dn ++ [x]).length = dn.length + 1 := by simp
        have := ih (k + 1) (dn ++ [x]) (put5 H1 o (dn.length : Int) x) (by omega) (by omega) ?_ ?_ (hrest _ (fun j y hj h => put5_ARne hj h)) (c6.tr put5_fr) ?_ ?_
        · rw [hl] at this
          exact this
        · have := (put5_fr (H := H1) (o := o) (j := (dn.length : Int)) (x := x)).1
          simp only [put5, zset_at]
          rw [if_neg (by omega), if_neg (by omega), if_neg (by omega), if_neg (by omega), if_neg (by omega)]
          exact c3
        · intro j y hj
          rw [List.getElem?_append] at hj
          split at hj
          · exact put5_ARne (by omega) (c4 j y hj)
          · have hjd : j = dn.length := by
              have := (List.getElem?_eq_some_iff.mp hj).1
              simp at this
              omega
            subst hjd
            simp at hj
            subst hj
            exact put5_AR
        · intro hm i i0 i1
          rw [put5_7, zfu_at]
          have h8' := c8 hm
          split
          · rw [← a5]
            exact h8' _ (by omega) (by omega)
          · exact h8' i i0 i1
        · intro H' h1 h2 h3
          refine c7 H' h1 ?_ h3
          rw [List.filter_cons_of_pos hf]
          simpa using h2
  exact loop ls 0 [] H (Nat.zero_le _) (by simp) hL.1 (fun j x h => by simp at h) (fun j x h => by simpa using hL.2 j x h) frD.rf (fun h => h) (fun H' h1 h2 h3 => hq H' h1 (by simpa using h2) h3)
