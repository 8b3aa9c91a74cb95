/-! what is to be asked; a notary bribed -/
def bst (L Gr it : Int) : Nat → Int × Int
  | 0 => (-4, 1000000)
  | k + 1 => if (0 < ((k : Int) + 1) + it - L + 1 ∧ 0 < Gr - ((k : Int) + 1) - it) ∧ max (((k : Int) + 1) + it - L + 1) (Gr - ((k : Int) + 1) - it) < (bst L Gr it k).2 then ((k : Int) + 1, max (((k : Int) + 1) + it - L + 1) (Gr - ((k : Int) + 1) - it)) else bst L Gr it k
theorem bst_none {L Gr it : Int} (h : Gr < L) : ∀ k : Nat, bst L Gr it k = (-4, 1000000)
  | 0 => rfl
  | k + 1 => by
    rw [bst, if_neg (fun z => by omega)]
    exact bst_none h k
theorem bst_rng {L Gr it : Int} : ∀ k : Nat, ((bst L Gr it k).1 = -4 ∧ (bst L Gr it k).2 = 1000000) ∨ (1 ≤ (bst L Gr it k).1 ∧ (bst L Gr it k).1 ≤ (k : Int) ∧ (bst L Gr it k).2 < 1000000)
  | 0 => Or.inl ⟨rfl, rfl⟩
  | k + 1 => by
    have ih := bst_rng (L := L) (Gr := Gr) (it := it) k
    rw [bst]
    split
    · rename_i c
      refine Or.inr ⟨by show 1 ≤ (k : Int) + 1; omega, by show (k : Int) + 1 ≤ ((k + 1 : Nat) : Int); omega, ?_⟩
      show max _ _ < (1000000 : Int)
      omega
    · omega
theorem mx_lt {a b : Int} (ha : a < 1000000) (hb : b < 1000000) : max a b < 1000000 := by omega
theorem kX6_bestDue {n : Nat} {i it L Gr : Int} {G : zG} {H : zH} {Q' : Option zV → zG → zH → Prop} (hG : zOK G) (hn : H 114 3 = (n : Int)) (h12 : n ≤ 12) (eL : sleast n (H 115) (H 117) (H 116) i = L) (eG : sgrst n (H 115) (H 117) (H 116) i = Gr) (hL0 : 1 ≤ L) (hL1 : L ≤ 401) (hG0 : 1 ≤ Gr) (hG1 : Gr ≤ 999) (i0 : 0 ≤ it) (i1 : it ≤ 200)
    (hq : Q' (some (vi (bst L Gr it 200).1)) G H) : zCall qX6_bestDue [vr 114, vi i, vi it] G H Q' := by
  rw [rX6_bestDue_in]
  simp only [rX6_bestDue_0, rX6_bestDue_1, rX6_bestDue_2, rX6_bestDue_5, rX6_bestDue_6, rX6_bestDue_7, rX6_bestDue_8, rX6_bestDue_11, rX6_bestDue_13, rX6_bestDue_15, rX6_bestDue_17, rX6_bestDue_19, rX6_bestDue_21, rX6_bestDue_22, true_and, and_true, true_or, or_true, false_or, or_false, Option.toList_some, Option.toList_none, List.nil_append, List.cons_append, zn1, kTd hG, kX6_least hG hn h12, kX6_greatest hG hn h12, eL, eG]
  have loop : ∀ (m k : Nat) (v8 v9 v10 : zV), k + m = 200 → zRun qX6_bestDue 24 [vr 114, vi i, vi it, vi L, vi Gr, vi (bst L Gr it k).1, vi (bst L Gr it k).2, vi ((k : Int) + 1), v8, v9, v10] [] G H Q' := by
    intro m
    induction m with
    | zero =>
      intro k v8 v9 v10 hk
      have : k = 200 := by omega
      subst this
      rw [rX6_bestDue_24]
      simp only [rX6_bestDue_26, rX6_bestDue_29, rX6_bestDue_91, rX6_bestDue_93]
      rw [if_pos (by omega)]
      exact hq
    | succ m ih =>
      intro k v8 v9 v10 hk
      have hlt : ¬ (200 : Int) < (k : Int) + 1 := by omega
      have e1 := zw_id (z := (k : Int) + 1 + it) (by omega) (by omega)
      have e2 := zw_id (z := (k : Int) + 1 + it - L) (by omega) (by omega)
      have e3 := zw_id (z := (k : Int) + 1 + it - L + 1) (by omega) (by omega)
      have e4 := zw_id (z := Gr - ((k : Int) + 1)) (by omega) (by omega)
      have e5 := zw_id (z := Gr - ((k : Int) + 1) - it) (by omega) (by omega)
      have e6 : zw ((k : Int) + 1 + 1) = ((k + 1 : Nat) : Int) + 1 := by rw [zw_id (by omega) (by omega)]; omega
      have ihk := ih (k + 1)
      rw [rX6_bestDue_24]
      simp only [rX6_bestDue_26, rX6_bestDue_29, rX6_bestDue_32, rX6_bestDue_34, rX6_bestDue_35, rX6_bestDue_36, rX6_bestDue_37, rX6_bestDue_38, rX6_bestDue_39, rX6_bestDue_40, rX6_bestDue_42, rX6_bestDue_44, rX6_bestDue_46, rX6_bestDue_47, rX6_bestDue_48, rX6_bestDue_49, rX6_bestDue_51, rX6_bestDue_53, rX6_bestDue_55, rX6_bestDue_58, rX6_bestDue_60, rX6_bestDue_62, rX6_bestDue_65, rX6_bestDue_67, rX6_bestDue_70, rX6_bestDue_72, rX6_bestDue_74, rX6_bestDue_77, rX6_bestDue_79, rX6_bestDue_81, rX6_bestDue_83, rX6_bestDue_85, rX6_bestDue_88, true_and, and_true, true_or, or_true, false_or, or_false, Option.toList_some, Option.toList_none, List.nil_append, List.cons_append, zn1, e1, e2, e3, e4, e5, e6]
      rw [if_neg hlt]
      clear e1 e2 e3 e4 e5 e6
      rw [bst] at ihk
      by_cases c1 : (k : Int) + 1 + it - L + 1 ≤ 0
      · rw [if_pos c1]
        rw [if_neg (fun z => by omega)] at ihk
        exact ihk _ _ _ (by omega)
      · rw [if_neg c1]
        by_cases c2 : Gr - ((k : Int) + 1) - it ≤ 0
        · rw [if_pos c2]
          rw [if_neg (fun z => by omega)] at ihk
          exact ihk _ _ _ (by omega)
        · rw [if_neg c2]
          by_cases c3 : (bst L Gr it k).2 ≤ max ((k : Int) + 1 + it - L + 1) (Gr - ((k : Int) + 1) - it)
          · rw [if_pos c3]
            rw [if_neg (fun z => by omega)] at ihk
            exact ihk _ _ _ (by omega)
          · rw [if_neg c3]
            rw [if_pos ⟨⟨by omega, by omega⟩, by omega⟩] at ihk
            exact ihk _ _ _ (by omega)
  exact loop 200 0 vu vu vu (by omega)
theorem ask_loop {i n L Gr it : Int} {G : zG} {H1 : zH} {Q' : Option zV → zG → zH → Prop} (hG : zOK G) (e6 : zint (H1 130 6) n = it) (e24 : H1 130 24 = (if L ≤ Gr then L else -4)) (e25 : H1 130 25 = (if L ≤ Gr then Gr else -4)) (hL0 : 1 ≤ L) (hL1 : L ≤ 401) (hG0 : 1 ≤ Gr) (hG1 : Gr ≤ 999) (i0 : 0 ≤ it) (i1 : it ≤ 200) (hq : Q' (some (vi (bst L Gr it 200).1)) G H1) : zRun qX9_ask 36 [vr 130, vi i, vi n, vi (-4), vi 0, vi 1, vu, vu, vu, vu] [] G H1 Q' := by
  by_cases hLG : L ≤ Gr
  · rw [if_pos hLG] at e24 e25
    have ei : zdiv (zw (n * H1 130 6)) 100 = it := e6
    have h100 : ((100 : Int) ≠ 0) = True := by simp
    have loop : ∀ (m k : Nat) (f : Int) (v6 v7 v8 v9 : zV), zn1 v6 → zn1 v7 → zn1 v8 → k + m = 200 → ((bst L Gr it k).1 = -4 ∨ f = (bst L Gr it k).2) → zRun qX9_ask 36 [vr 130, vi i, vi n, vi (bst L Gr it k).1, vi f, vi ((k : Int) + 1), v6, v7, v8, v9] [] G H1 Q' := by
      intro m
      induction m with
      | zero =>
        intro k f v6 v7 v8 v9 _ _ _ hk hf
        have : k = 200 := by omega
        subst this
        rw [rX9_ask_36]
        simp only [rX9_ask_38, rX9_ask_41, rX9_ask_179, rX9_ask_180]
        rw [if_pos (by omega)]
        exact hq
      | succ m ih =>
        intro k f v6 v7 v8 v9 _ _ _ hk hf
        have hr := bst_rng (L := L) (Gr := Gr) (it := it) k
        have hlt : ¬ (201 : Int) ≤ (k : Int) + 1 := by omega
        have hL4 : ¬ L = -4 := by omega
        have hne : (bst L Gr it k).1 ≠ (k : Int) + 1 := by omega
        have b1 : (k : Int) + 1 + it - L + 1 < 1000000 := by omega
        have b2 : Gr - ((k : Int) + 1) - it < 1000000 := by omega
        have z1 := zw_id (z := (k : Int) + 1 + it) (by omega) (by omega)
        have z2 := zw_id (z := min ((k : Int) + 1 + it) Gr - L) (by omega) (by omega)
        have z3 := zw_id (z := min ((k : Int) + 1 + it) Gr - L + 1) (by omega) (by omega)
        have z4 := zw_id (z := L - 1) (by omega) (by omega)
        have z5 := zw_id (z := Gr - (L - 1)) (by omega) (by omega)
        have z6 := zw_id (z := Gr - ((k : Int) + 1 + it)) (by omega) (by omega)
        have z7 : zw ((k : Int) + 1 + 1) = ((k + 1 : Nat) : Int) + 1 := by rw [zw_id (by omega) (by omega)]; omega
        have ihk := ih (k + 1)
        rw [rX9_ask_36]
        simp only [rX9_ask_38, rX9_ask_41, rX9_ask_44, rX9_ask_45, rX9_ask_48, rX9_ask_50, rX9_ask_53, rX9_ask_55, rX9_ask_56, rX9_ask_57, rX9_ask_60, rX9_ask_61, rX9_ask_63, rX9_ask_64, rX9_ask_65, rX9_ask_67, rX9_ask_69, rX9_ask_70, rX9_ask_73, rX9_ask_76, rX9_ask_77, rX9_ask_80, rX9_ask_81, rX9_ask_82, rX9_ask_83, rX9_ask_85, rX9_ask_86, rX9_ask_89, rX9_ask_91, rX9_ask_92, rX9_ask_95, rX9_ask_98, rX9_ask_99, rX9_ask_102, rX9_ask_103, rX9_ask_104, rX9_ask_107, rX9_ask_109, rX9_ask_110, rX9_ask_112, rX9_ask_114, rX9_ask_117, rX9_ask_119, rX9_ask_122, rX9_ask_124, rX9_ask_126, rX9_ask_129, rX9_ask_131, rX9_ask_134, rX9_ask_136, rX9_ask_138, rX9_ask_139, rX9_ask_141, rX9_ask_144, rX9_ask_146, rX9_ask_148, rX9_ask_151, rX9_ask_153, rX9_ask_156, rX9_ask_157, rX9_ask_158, rX9_ask_159, rX9_ask_161, rX9_ask_164, rX9_ask_166, rX9_ask_169, rX9_ask_171, rX9_ask_173, rX9_ask_176, true_and, and_true, true_or, or_true, false_or, or_false, Option.toList_some, Option.toList_none, List.nil_append, List.cons_append, zn1, kM hG, ei, e24, e25, kX9_lesser, h100, z1, z2, z3, z4, z5, z6, z7]
        rw [if_neg hlt, if_neg hL4]
        clear z1 z2 z3 z4 z5 z6 z7
        -- what follows on no and yes
        have tail : ∀ (no yes : Int), ((0 < no ∧ 0 < yes) ↔ (0 < (k : Int) + 1 + it - L + 1 ∧ 0 < Gr - ((k : Int) + 1) - it)) → ((0 < no ∧ 0 < yes) → no = (k : Int) + 1 + it - L + 1 ∧ yes = Gr - ((k : Int) + 1) - it) → (if no ≤ 0 then zRun qX9_ask 36 [vr 130, vi i, vi n, vi (bst L Gr it k).1, vi f, vi (((k + 1 : Nat) : Int) + 1), vi ((k : Int) + 1 + it), vi no, vi yes, v9] [] G H1 Q' else if yes ≤ 0 then zRun qX9_ask 36 [vr 130, vi i, vi n, vi (bst L Gr it k).1, vi f, vi (((k + 1 : Nat) : Int) + 1), vi ((k : Int) + 1 + it), vi no, vi yes, v9] [] G H1 Q' else if no ≤ yes then if (bst L Gr it k).1 = -4 then if (k : Int) + 1 ≠ (k : Int) + 1 then zRun qX9_ask 36 [vr 130, vi i, vi n, vi ((k : Int) + 1), vi f, vi (((k + 1 : Nat) : Int) + 1), vi ((k : Int) + 1 + it), vi no, vi yes, vi yes] [] G H1 Q' else zRun qX9_ask 36 [vr 130, vi i, vi n, vi ((k : Int) + 1), vi yes, vi (((k + 1 : Nat) : Int) + 1), vi ((k : Int) + 1 + it), vi no, vi yes, vi yes] [] G H1 Q' else if f ≤ yes then if (bst L Gr it k).1 ≠ (k : Int) + 1 then zRun qX9_ask 36 [vr 130, vi i, vi n, vi (bst L Gr it k).1, vi f, vi (((k + 1 : Nat) : Int) + 1), vi ((k : Int) + 1 + it), vi no, vi yes, vi yes] [] G H1 Q' else zRun qX9_ask 36 [vr 130, vi i, vi n, vi (bst L Gr it k).1, vi yes, vi (((k + 1 : Nat) : Int) + 1), vi ((k : Int) + 1 + it), vi no, vi yes, vi yes] [] G H1 Q' else if (k : Int) + 1 ≠ (k : Int) + 1 then zRun qX9_ask 36 [vr 130, vi i, vi n, vi ((k : Int) + 1), vi f, vi (((k + 1 : Nat) : Int) + 1), vi ((k : Int) + 1 + it), vi no, vi yes, vi yes] [] G H1 Q' else zRun qX9_ask 36 [vr 130, vi i, vi n, vi ((k : Int) + 1), vi yes, vi (((k + 1 : Nat) : Int) + 1), vi ((k : Int) + 1 + it), vi no, vi yes, vi yes] [] G H1 Q' else if (bst L Gr it k).1 = -4 then if (k : Int) + 1 ≠ (k : Int) + 1 then zRun qX9_ask 36 [vr 130, vi i, vi n, vi ((k : Int) + 1), vi f, vi (((k + 1 : Nat) : Int) + 1), vi ((k : Int) + 1 + it), vi no, vi yes, vi no] [] G H1 Q' else zRun qX9_ask 36 [vr 130, vi i, vi n, vi ((k : Int) + 1), vi no, vi (((k + 1 : Nat) : Int) + 1), vi ((k : Int) + 1 + it), vi no, vi yes, vi no] [] G H1 Q' else if f ≤ no then if (bst L Gr it k).1 ≠ (k : Int) + 1 then zRun qX9_ask 36 [vr 130, vi i, vi n, vi (bst L Gr it k).1, vi f, vi (((k + 1 : Nat) : Int) + 1), vi ((k : Int) + 1 + it), vi no, vi yes, vi no] [] G H1 Q' else zRun qX9_ask 36 [vr 130, vi i, vi n, vi (bst L Gr it k).1, vi no, vi (((k + 1 : Nat) : Int) + 1), vi ((k : Int) + 1 + it), vi no, vi yes, vi no] [] G H1 Q' else if (k : Int) + 1 ≠ (k : Int) + 1 then zRun qX9_ask 36 [vr 130, vi i, vi n, vi ((k : Int) + 1), vi f, vi (((k + 1 : Nat) : Int) + 1), vi ((k : Int) + 1 + it), vi no, vi yes, vi no] [] G H1 Q' else zRun qX9_ask 36 [vr 130, vi i, vi n, vi ((k : Int) + 1), vi no, vi (((k + 1 : Nat) : Int) + 1), vi ((k : Int) + 1 + it), vi no, vi yes, vi no] [] G H1 Q') := by
          intro no yes h1 h2
          rw [bst] at ihk
          by_cases c1 : no ≤ 0
          · rw [if_pos c1]
            rw [if_neg (fun z => by have := h1.mpr z.1; omega)] at ihk
            exact ihk f _ _ _ _ trivial trivial trivial (by omega) hf
          · rw [if_neg c1]
            by_cases c2 : yes ≤ 0
            · rw [if_pos c2]
              rw [if_neg (fun z => by have := h1.mpr z.1; omega)] at ihk
              exact ihk f _ _ _ _ trivial trivial trivial (by omega) hf
            · rw [if_neg c2]
              obtain ⟨q1, q2⟩ := h2 ⟨by omega, by omega⟩
              have q3 := h1.mp ⟨by omega, by omega⟩
              rw [← q1, ← q2] at ihk q3
              have upd : ∀ more, more = max no yes → ((bst L Gr it k).1 = -4 ∨ more < f) → ∀ v9 : zV, zRun qX9_ask 36 [vr 130, vi i, vi n, vi ((k : Int) + 1), vi more, vi (((k + 1 : Nat) : Int) + 1), vi ((k : Int) + 1 + it), vi no, vi yes, v9] [] G H1 Q' := by
                intro more hm hu v9
                have hlt : max no yes < (bst L Gr it k).2 := by
                  rcases hu with hu | hu
                  · rcases hr with hr | hr
                    · rw [hr.2, q1, q2]
                      exact mx_lt b1 b2
                    · omega
                  · rcases hf with hf | hf
                    · rcases hr with hr | hr
                      · rw [hr.2, q1, q2]
                        exact mx_lt b1 b2
                      · omega
                    · omega
                rw [if_pos ⟨q3, hlt⟩] at ihk
                subst hm
                exact ihk _ _ _ _ _ trivial trivial trivial (by omega) (Or.inr rfl)
              have keep : ∀ more, more = max no yes → (bst L Gr it k).1 ≠ -4 → f ≤ more → ∀ v9 : zV, zRun qX9_ask 36 [vr 130, vi i, vi n, vi (bst L Gr it k).1, vi f, vi (((k + 1 : Nat) : Int) + 1), vi ((k : Int) + 1 + it), vi no, vi yes, v9] [] G H1 Q' := by
                intro more hm hu hfm v9
                rcases hf with hf | hf
                · exact absurd hf hu
                · rw [if_neg (fun z => by have := z.2; omega)] at ihk
                  exact ihk _ _ _ _ _ trivial trivial trivial (by omega) (Or.inr hf)
              by_cases c3 : no ≤ yes
              · rw [if_pos c3]
                by_cases c4 : (bst L Gr it k).1 = -4
                · rw [if_pos c4, if_neg (fun z => z rfl)]
                  exact upd yes (by omega) (Or.inl c4) _
                · rw [if_neg c4]
                  by_cases c5 : f ≤ yes
                  · rw [if_pos c5, if_pos hne]
                    exact keep yes (by omega) c4 c5 _
                  · rw [if_neg c5, if_neg (fun z => z rfl)]
                    exact upd yes (by omega) (Or.inr (by omega)) _
              · rw [if_neg c3]
                by_cases c4 : (bst L Gr it k).1 = -4
                · rw [if_pos c4, if_neg (fun z => z rfl)]
                  exact upd no (by omega) (Or.inl c4) _
                · rw [if_neg c4]
                  by_cases c5 : f ≤ no
                  · rw [if_pos c5, if_pos hne]
                    exact keep no (by omega) c4 c5 _
                  · rw [if_neg c5, if_neg (fun z => z rfl)]
                    exact upd no (by omega) (Or.inr (by omega)) _
        by_cases cl : L ≤ (k : Int) + 1 + it
        · rw [if_pos cl]
          have := tail (min ((k : Int) + 1 + it) Gr - L + 1) (Gr - ((k : Int) + 1 + it)) (by omega) (fun z => by omega)
          exact this
        · rw [if_neg cl]
          have := tail (min ((k : Int) + 1 + it) Gr - L + 1) (Gr - (L - 1)) (by omega) (fun z => by omega)
          exact this
    exact loop 200 0 0 vu vu vu vu trivial trivial trivial (by omega) (Or.inl rfl)
  · rw [if_neg hLG] at e24 e25
    rw [bst_none (by omega)] at hq
    rw [rX9_ask_36]
    simp only [rX9_ask_38, rX9_ask_41, rX9_ask_44, rX9_ask_45, rX9_ask_48, rX9_ask_50, rX9_ask_179, rX9_ask_180, true_and, and_true, true_or, or_true, false_or, or_false, Option.toList_some, Option.toList_none, List.nil_append, List.cons_append, zn1, kM hG, e24, if_true]
    rw [if_neg (by omega)]
    exact hq
