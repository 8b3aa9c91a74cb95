/-! the model: what is dropped; what is due now -/
theorem LM_drop {a nm : Int → Int} {ls : List zLn} {k : Nat} (hL : LM a nm ls) (h8 : ls.length ≤ 8) (hk : k < ls.length) : LM (dpA a k ls.length 4) (shN nm k ((ls.length : Int) - 1)) (ls.eraseIdx k) := by
  have hlen : (ls.eraseIdx k).length = ls.length - 1 := by rw [List.length_eraseIdx, if_pos hk]
  refine ⟨?_, fun j x hj => ?_⟩
  · unfold dpA
    rw [if_neg (by omega), if_neg (by omega), if_pos rfl, hlen]
    omega
  · have hjl : j < ls.length - 1 := by
      have := (List.getElem?_eq_some_iff.mp hj).1
      omega
    rw [List.getElem?_eraseIdx] at hj
    by_cases c : j < k
    · rw [if_pos c] at hj
      obtain ⟨a1, a2, a3, a4, a5⟩ := hL.2 j x hj
      have e : ∀ w : Int, 0 ≤ w → w < 4 → dpA a k ls.length 4 (13 + 4 * (j : Int) + w) = a (13 + 4 * (j : Int) + w) := fun w w0 w1 => by
        unfold dpA
        rw [if_neg (by omega), if_neg (by omega), if_neg (by omega)]
      have e0 := e 0 (by omega) (by omega)
      rw [Int.add_zero] at e0
      refine ⟨by rw [e0]; exact a1, by rw [e 1 (by omega) (by omega)]; exact a2, by rw [e 2 (by omega) (by omega)]; exact a3, by rw [e 3 (by omega) (by omega)]; exact a4, ?_⟩
      unfold shN
      rw [if_neg (by omega)]
      exact a5
    · rw [if_neg c] at hj
      obtain ⟨a1, a2, a3, a4, a5⟩ := hL.2 (j + 1) x hj
      have e : ∀ w : Int, 0 ≤ w → w < 4 → dpA a k ls.length 4 (13 + 4 * (j : Int) + w) = a (13 + 4 * ((j + 1 : Nat) : Int) + w) := fun w w0 w1 => by
        unfold dpA
        rw [if_neg (by omega), if_pos (by omega)]
        congr 1
        omega
      have e0 := e 0 (by omega) (by omega)
      rw [Int.add_zero, Int.add_zero] at e0
      refine ⟨by rw [e0]; exact a1, by rw [e 1 (by omega) (by omega)]; exact a2, by rw [e 2 (by omega) (by omega)]; exact a3, by rw [e 3 (by omega) (by omega)]; exact a4, ?_⟩
      unfold shN
      rw [if_pos (by omega)]
      rw [show (j : Int) + 1 = ((j + 1 : Nat) : Int) by omega]
      exact a5
theorem dpA_lo {a : Int → Int} {k n : Nat} {i : Int} (hk : k < n) (h : i < 12) : dpA a k n 4 i = a i := by
  unfold dpA
  rw [if_neg (by omega), if_neg (by omega), if_neg (by omega)]
theorem dpA_45 {a : Int → Int} {k n : Nat} (h8 : n ≤ 8) : dpA a k n 4 45 = a 45 := by
  unfold dpA
  rw [if_neg (by omega), if_neg (by omega), if_neg (by omega)]
/-- from q on, the first due, or the first greatest -/
def DN (isg : Int) (am du : Nat → Int) (n q : Nat) (g : Int) : Prop := (g = -4 ∧ ∀ j, q ≤ j → j < n → du j ≠ 0) ∨ (∃ k : Nat, q ≤ k ∧ k < n ∧ g = (k : Int) ∧ du k = 0 ∧ ∀ j, q ≤ j → j < n → du j = 0 → if isg = 0 then k ≤ j else am j ≤ am k ∧ (j < k → am j < am k))
theorem kX9_dueNow {n : Nat} {isg : Int} {G : zG} {H : zH} {Q' : Option zV → zG → zH → Prop} (hG : zOK G) (hn : H 134 12 = (n : Int)) (h8 : n ≤ 8)
    (hq : ∀ g : Int, DN isg (fun k => H 134 (13 + 4 * (k : Int) + 2)) (fun k => H 134 (13 + 4 * (k : Int) + 3)) n 0 g → Q' (some (vi g)) G H) : zCall qX9_dueNow [vr 130, vi isg] G H Q' := by
  rw [rX9_dueNow_in]
  have e1 := zw_id (z := (n : Int) - 1) (by omega) (by omega)
  simp only [rX9_dueNow_0, rX9_dueNow_2, rX9_dueNow_3, rX9_dueNow_4, rX9_dueNow_7, rX9_dueNow_9, rX9_dueNow_10, rX9_dueNow_11, rX9_dueNow_12, rX9_dueNow_14, rX9_dueNow_17, rX9_dueNow_18, rX9_dueNow_21, rX9_dueNow_23, rX9_dueNow_24, rX9_dueNow_25, rX9_dueNow_26, rX9_dueNow_27, rX9_dueNow_28, rX9_dueNow_29, rX9_dueNow_30, rX9_dueNow_33, rX9_dueNow_34, rX9_dueNow_37, rX9_dueNow_38, rX9_dueNow_40, rX9_dueNow_41, rX9_dueNow_43, rX9_dueNow_46, rX9_dueNow_47, rX9_dueNow_50, rX9_dueNow_51, rX9_dueNow_54, rX9_dueNow_56, rX9_dueNow_57, rX9_dueNow_58, rX9_dueNow_59, rX9_dueNow_60, rX9_dueNow_61, rX9_dueNow_62, rX9_dueNow_63, rX9_dueNow_64, rX9_dueNow_67, rX9_dueNow_69, rX9_dueNow_70, rX9_dueNow_71, rX9_dueNow_72, rX9_dueNow_73, rX9_dueNow_74, rX9_dueNow_75, rX9_dueNow_76, rX9_dueNow_79, rX9_dueNow_80, rX9_dueNow_83, rX9_dueNow_84, rX9_dueNow_86, rX9_dueNow_88, rX9_dueNow_91, rX9_dueNow_93, rX9_dueNow_96, rX9_dueNow_97, rX9_dueNow_100, rX9_dueNow_101, rX9_dueNow_102, rX9_dueNow_105, rX9_dueNow_108, rX9_dueNow_109, true_and, and_true, true_or, or_true, false_or, or_false, Option.toList_some, Option.toList_none, List.nil_append, List.cons_append, zn1, kM hG, hn, e1]
  refine ⟨by omega, ?_⟩
  have loop : ∀ (q : Nat) (g : Int), q ≤ n → DN isg (fun k => H 134 (13 + 4 * (k : Int) + 2)) (fun k => H 134 (13 + 4 * (k : Int) + 3)) n q g → ∀ v4 v5 : zV, zRun qX9_dueNow 13 [vr 130, vi isg, vi g, vi ((q : Int) - 1), v4, v5] [] G H Q' := by
    intro q
    induction q with
    | zero =>
      intro g _ hg v4 v5
      rw [rX9_dueNow_13]
      simp only [rX9_dueNow_14, rX9_dueNow_108, rX9_dueNow_109]
      rw [if_pos (by omega)]
      exact hq g hg
    | succ q ih =>
      intro g hqn hg v4 v5
      have ih := fun g' => ih g' (by omega)
      rw [show ((q + 1 : Nat) : Int) - 1 = (q : Int) by omega]
      have e : zw ((q : Int) + -1) = (q : Int) - 1 := zw_id (by omega) (by omega)
      have b3 : 0 ≤ 13 + 4 * (q : Int) + 3 ∧ 13 + 4 * (q : Int) + 3 < 46 := by omega
      have b2 : 0 ≤ 13 + 4 * (q : Int) + 2 ∧ 13 + 4 * (q : Int) + 2 < 46 := by omega
      rw [rX9_dueNow_13]
      simp only [rX9_dueNow_0, rX9_dueNow_2, rX9_dueNow_3, rX9_dueNow_4, rX9_dueNow_7, rX9_dueNow_9, rX9_dueNow_10, rX9_dueNow_11, rX9_dueNow_12, rX9_dueNow_14, rX9_dueNow_17, rX9_dueNow_18, rX9_dueNow_21, rX9_dueNow_23, rX9_dueNow_24, rX9_dueNow_25, rX9_dueNow_26, rX9_dueNow_27, rX9_dueNow_28, rX9_dueNow_29, rX9_dueNow_30, rX9_dueNow_33, rX9_dueNow_34, rX9_dueNow_37, rX9_dueNow_38, rX9_dueNow_40, rX9_dueNow_41, rX9_dueNow_43, rX9_dueNow_46, rX9_dueNow_47, rX9_dueNow_50, rX9_dueNow_51, rX9_dueNow_54, rX9_dueNow_56, rX9_dueNow_57, rX9_dueNow_58, rX9_dueNow_59, rX9_dueNow_60, rX9_dueNow_61, rX9_dueNow_62, rX9_dueNow_63, rX9_dueNow_64, rX9_dueNow_67, rX9_dueNow_69, rX9_dueNow_70, rX9_dueNow_71, rX9_dueNow_72, rX9_dueNow_73, rX9_dueNow_74, rX9_dueNow_75, rX9_dueNow_76, rX9_dueNow_79, rX9_dueNow_80, rX9_dueNow_83, rX9_dueNow_84, rX9_dueNow_86, rX9_dueNow_88, rX9_dueNow_91, rX9_dueNow_93, rX9_dueNow_96, rX9_dueNow_97, rX9_dueNow_100, rX9_dueNow_101, rX9_dueNow_102, rX9_dueNow_105, rX9_dueNow_108, rX9_dueNow_109, true_and, and_true, true_or, or_true, false_or, or_false, Option.toList_some, Option.toList_none, List.nil_append, List.cons_append, zn1, kM hG, ix4 (show q ≤ 8 by omega), e, b2, b3]
      rw [if_neg (by omega)]
      by_cases cd : H 134 (13 + 4 * (q : Int) + 3) = 0
      · rw [if_neg (fun z => z cd), if_neg (show ¬ ((1 : Int) = 0) by omega)]
        have new : (g = -4 ∨ isg = 0 ∨ ∀ k : Nat, g = (k : Int) → H 134 (13 + 4 * (k : Int) + 2) ≤ H 134 (13 + 4 * (q : Int) + 2)) → DN isg (fun k => H 134 (13 + 4 * (k : Int) + 2)) (fun k => H 134 (13 + 4 * (k : Int) + 3)) n q (q : Int) := by
          intro hc
          refine Or.inr ⟨q, Nat.le_refl _, by omega, rfl, cd, fun j j0 j1 hj => ?_⟩
          by_cases ci : isg = 0
          · rw [if_pos ci]
            exact j0
          · rw [if_neg ci]
            by_cases cj : j = q
            · subst cj
              exact ⟨Int.le_refl _, fun z => by omega⟩
            · refine ⟨?_, fun z => by omega⟩
              rcases hg with ⟨h1, h2⟩ | ⟨k, k0, k1, k2, k3, k4⟩
              · exact absurd hj (h2 j (by omega) j1)
              · have := k4 j (by omega) j1 hj
                rw [if_neg ci] at this
                rcases hc with hc | hc | hc
                · omega
                · exact absurd hc ci
                · have h5 := hc k k2
                  exact Int.le_trans this.1 h5
        by_cases c1 : g = -4
        · rw [if_pos c1, if_neg (show ¬ ((1 : Int) = 0) by omega)]
          exact ih _ (new (Or.inl c1)) _ _
        · rw [if_neg c1]
          by_cases c2 : isg = 0
          · rw [if_pos c2, if_neg (show ¬ ((1 : Int) = 0) by omega)]
            exact ih _ (new (Or.inr (Or.inl c2))) _ _
          · rw [if_neg c2]
            obtain ⟨k, k0, k1, k2, k3, k4⟩ : ∃ k : Nat, q + 1 ≤ k ∧ k < n ∧ g = (k : Int) ∧ H 134 (13 + 4 * (k : Int) + 3) = 0 ∧ ∀ j, q + 1 ≤ j → j < n → H 134 (13 + 4 * (j : Int) + 3) = 0 → (H 134 (13 + 4 * (j : Int) + 2) ≤ H 134 (13 + 4 * (k : Int) + 2) ∧ (j < k → H 134 (13 + 4 * (j : Int) + 2) < H 134 (13 + 4 * (k : Int) + 2))) := by
              rcases hg with ⟨h1, h2⟩ | ⟨k, k0, k1, k2, k3, k4⟩
              · exact absurd h1 c1
              · refine ⟨k, k0, k1, k2, k3, fun j j0 j1 hj => ?_⟩
                have := k4 j j0 j1 hj
                rw [if_neg c2] at this
                exact this
            subst k2
            have b5 : 0 ≤ 13 + 4 * (k : Int) + 2 ∧ 13 + 4 * (k : Int) + 2 < 46 := by omega
            simp only [ix4 (show k ≤ 8 by omega), b5, true_and]
            by_cases c3 : H 134 (13 + 4 * (q : Int) + 2) < H 134 (13 + 4 * (k : Int) + 2)
            · rw [if_pos c3, if_neg (show ¬ ((1 : Int) = 0) by omega), if_true]
              refine ih _ (Or.inr ⟨k, by omega, k1, rfl, k3, fun j j0 j1 hj => ?_⟩) _ _
              rw [if_neg c2]
              by_cases cj : j = q
              · subst cj
                exact ⟨Int.le_of_lt c3, fun _ => c3⟩
              · exact k4 j (by omega) j1 hj
            · rw [if_neg c3, if_neg (show ¬ ((1 : Int) = 0) by omega)]
              refine ih _ (new (Or.inr (Or.inr (fun k' hk' => ?_)))) _ _
              have : k' = k := by omega
              subst this
              omega
      · rw [if_pos cd]
        simp only [if_true]
        have old : DN isg (fun k => H 134 (13 + 4 * (k : Int) + 2)) (fun k => H 134 (13 + 4 * (k : Int) + 3)) n q g := by
          rcases hg with ⟨h1, h2⟩ | ⟨k, k0, k1, k2, k3, k4⟩
          · refine Or.inl ⟨h1, fun j j0 j1 => ?_⟩
            by_cases cj : j = q
            · subst cj
              exact cd
            · exact h2 j (by omega) j1
          · refine Or.inr ⟨k, by omega, k1, k2, k3, fun j j0 j1 hj => ?_⟩
            by_cases cj : j = q
            · subst cj
              exact absurd hj cd
            · exact k4 j (by omega) j1 hj
        by_cases c1 : g = -4
        · rw [if_pos c1]
          exact ih _ old _ _
        · rw [if_neg c1]
          by_cases c2 : isg = 0
          · rw [if_pos c2]
            exact ih _ old _ _
          · rw [if_neg c2]
            obtain ⟨k, k1, k2⟩ : ∃ k : Nat, k < n ∧ g = (k : Int) := by
              rcases hg with ⟨h1, h2⟩ | ⟨k, k0, k1, k2, k3, k4⟩
              · exact absurd h1 c1
              · exact ⟨k, k1, k2⟩
            subst k2
            have b5 : 0 ≤ 13 + 4 * (k : Int) + 2 ∧ 13 + 4 * (k : Int) + 2 < 46 := by omega
            simp only [ix4 (show k ≤ 8 by omega), b5, true_and]
            split
            · exact ih _ old _ _
            · exact ih _ old _ _
  exact loop n (-4) (Nat.le_refl _) (Or.inl ⟨rfl, fun j j0 j1 => by omega⟩) _ _
