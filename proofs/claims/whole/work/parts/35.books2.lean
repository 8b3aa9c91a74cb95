/-! Books: who gives whom -/
/-- what one gives -/
def sgv (P : Int) (w : Int → Int) (g a : Int) : Int := if (0 ≤ g ∧ g < P) ∧ 0 < w g then min a (w g - 1) else 0
/-- weeks that go from one to another -/
def smv (w : Int → Int) (g t v : Int) : Int → Int := zfu (zfu w g (w g - v)) t (zfu w g (w g - v) t + v)
theorem smv_0 {w : Int → Int} {g t : Int} : smv w g t 0 = w := by
  unfold smv
  rw [Int.sub_zero, zfu_self, Int.add_zero, zfu_self]
theorem kX0_give {o : Nat} {g t a : Int} {G : zG} {H : zH} {Q : Option zV → zG → zH → Prop} (hG : zOK G) (ho : isBk o) (h1 : 1 ≤ H 3 1) (h2 : H 3 1 ≤ 6) (hw : ∀ p : Int, 0 ≤ p → p < 6 → 0 ≤ H (o + 1) p ∧ H (o + 1) p ≤ 6000) (ht0 : 0 ≤ t) (ht : t < 6) (ha0 : 0 ≤ a) (ha : a ≤ 400) : zCall qX0_give [vr o, vi g, vi t, vi a] G H Q ↔ Q (some (vi (sgv (H 3 1) (H (o + 1)) g a))) G (zset H (o + 1) (smv (H (o + 1)) g t (sgv (H 3 1) (H (o + 1)) g a))) := by
  refine zCall_det (fun Q' hq => ?_)
  rw [rX0_give_in]
  simp only [rX0_give_0, rX0_give_1, rX0_give_2, rX0_give_5, rX0_give_8, rX0_give_9, rX0_give_10, rX0_give_11, rX0_give_12, rX0_give_15, rX0_give_16, rX0_give_17, rX0_give_18, rX0_give_19, rX0_give_22, rX0_give_24, rX0_give_25, rX0_give_28, rX0_give_29, rX0_give_30, rX0_give_31, rX0_give_33, rX0_give_34, rX0_give_35, rX0_give_36, rX0_give_39, rX0_give_40, rX0_give_41, rX0_give_42, rX0_give_44, rX0_give_45, rX0_give_46, rX0_give_48, true_and, and_true, true_or, or_true, false_or, or_false, Option.toList_some, Option.toList_none, List.nil_append, List.cons_append, zn1, kB hG ho, kX0_isAlive hG ho h1 h2, bi_ne0, zup_def, zset_at, if_true, zset_set]
  by_cases hc : (0 ≤ g ∧ g < H 3 1) ∧ 0 < H (o + 1) g
  · have hwg := hw g (by omega) (by omega)
    have hwt := hw t (by omega) (by omega)
    have e : sgv (H 3 1) (H (o + 1)) g a = min a (H (o + 1) g - 1) := if_pos hc
    rw [e] at hq
    rw [if_pos hc, zw_id (z := H (o + 1) g - 1) (by omega) (by omega)]
    refine ⟨by omega, by omega, by omega, by omega, by omega, ?_⟩
    have m1 := Int.min_le_left a (H (o + 1) g - 1)
    have m2 := Int.min_le_right a (H (o + 1) g - 1)
    have m3 : 0 ≤ min a (H (o + 1) g - 1) := Int.le_min.mpr ⟨by omega, by omega⟩
    generalize min a (H (o + 1) g - 1) = v at *
    rw [zw_id (z := H (o + 1) g - v) (by omega) (by omega)]
    have b : 0 ≤ zfu (H (o + 1)) g (H (o + 1) g - v) t ∧ zfu (H (o + 1)) g (H (o + 1) g - v) t ≤ 6000 := by
      rw [zfu_at]
      split <;> omega
    rw [zw_id (z := zfu (H (o + 1)) g (H (o + 1) g - v) t + v) (by omega) (by omega)]
    exact hq
  · have e : sgv (H 3 1) (H (o + 1)) g a = 0 := if_neg hc
    rw [e, smv_0, zset_self] at hq
    rw [if_neg hc]
    exact hq
/-- a loan is paid: weeks, lost; what was paid (nothing, if the lender is dead) -/
def sask (kind : Int) (w : Int → Int) (j due : Int) : Int := if kind = 1 ∧ w j ≤ due then 0 else due
def sp1 (P kind : Int) (w : Int → Int) (j due : Int) : Int := sgv P w j (sask kind w j due)
def sw1 (P kind : Int) (w : Int → Int) (i j due : Int) : Int → Int := smv w j i (sp1 P kind w j due)
def sp2 (P kind : Int) (w : Int → Int) (i j due : Int) : Int := if kind = 3 then sgv P (sw1 P kind w i j due) (soth P (sw1 P kind w i j due) i j) (due - sp1 P kind w j due) else 0
def sw2 (P kind : Int) (w : Int → Int) (i j due : Int) : Int → Int := if kind = 3 then smv (sw1 P kind w i j due) (soth P (sw1 P kind w i j due) i j) i (sp2 P kind w i j due) else sw1 P kind w i j due
def spaid (P kind : Int) (w : Int → Int) (i j due : Int) : Int := sp1 P kind w j due + sp2 P kind w i j due
theorem sgv_rng {P : Int} {w : Int → Int} {g a : Int} (hP : P ≤ 6) (hw : ∀ p : Int, 0 ≤ p → p < 6 → 0 ≤ w p ∧ w p ≤ 6000) (ha : 0 ≤ a) : 0 ≤ sgv P w g a ∧ sgv P w g a ≤ a ∧ (sgv P w g a ≠ 0 → (0 ≤ g ∧ g < P) ∧ sgv P w g a < w g) := by
  unfold sgv
  split
  · rename_i h
    have := hw g (by omega) (by omega)
    have m1 := Int.min_le_left a (w g - 1)
    have m2 := Int.min_le_right a (w g - 1)
    have m3 : 0 ≤ min a (w g - 1) := Int.le_min.mpr ⟨by omega, by omega⟩
    omega
  · omega
/-- the weeks of six -/
def ssum (w : Int → Int) : Int := w 0 + w 1 + w 2 + w 3 + w 4 + w 5
theorem six {i : Int} (h0 : 0 ≤ i) (h1 : i < 6) : i = 0 ∨ i = 1 ∨ i = 2 ∨ i = 3 ∨ i = 4 ∨ i = 5 := by omega
theorem ssum_fu {w : Int → Int} {i v : Int} (h0 : 0 ≤ i) (h1 : i < 6) : ssum (zfu w i v) = ssum w - w i + v := by
  unfold ssum
  simp only [zfu_at]
  rcases six h0 h1 with rfl | rfl | rfl | rfl | rfl | rfl <;> simp <;> omega
theorem ssum_mv {w : Int → Int} {g t v : Int} (g0 : 0 ≤ g) (g1 : g < 6) (t0 : 0 ≤ t) (t1 : t < 6) : ssum (smv w g t v) = ssum w := by
  unfold smv
  rw [ssum_fu t0 t1, ssum_fu g0 g1]
  omega
/-- weeks as they may be -/
def sWok (w : Int → Int) : Prop := (∀ p : Int, 0 ≤ p → p < 6 → 0 ≤ w p) ∧ ssum w ≤ 6000
theorem sWok.le {w : Int → Int} (h : sWok w) : ∀ p : Int, 0 ≤ p → p < 6 → 0 ≤ w p ∧ w p ≤ 6000 := by
  intro p h0 h1
  have a0 := h.1 0 (by omega) (by omega)
  have a1 := h.1 1 (by omega) (by omega)
  have a2 := h.1 2 (by omega) (by omega)
  have a3 := h.1 3 (by omega) (by omega)
  have a4 := h.1 4 (by omega) (by omega)
  have a5 := h.1 5 (by omega) (by omega)
  have hs := h.2
  unfold ssum at hs
  rcases six h0 h1 with rfl | rfl | rfl | rfl | rfl | rfl <;> omega
theorem sWok.mv {P : Int} {w : Int → Int} (h : sWok w) {g t a : Int} (hP : P ≤ 6) (t0 : 0 ≤ t) (t1 : t < 6) (ha : 0 ≤ a) : sWok (smv w g t (sgv P w g a)) := by
  have hr := sgv_rng (g := g) hP h.le ha
  by_cases hz : sgv P w g a = 0
  · rw [hz, smv_0]
    exact h
  · obtain ⟨hg, hlt⟩ := hr.2.2 hz
    refine ⟨fun p h0 h1 => ?_, ?_⟩
    · have hp := h.1 p h0 h1
      unfold smv
      simp only [zfu_at]
      have hg0 := h.1 g (by omega) (by omega)
      have ht0 := h.1 t (by omega) (by omega)
      repeat' split
      all_goals omega
    · rw [ssum_mv (by omega) (by omega) t0 t1]
      exact h.2
theorem soth_rng {P : Int} {w : Int → Int} {i j : Int} (hP : P ≤ 6) : soth P w i j = -4 ∨ ((0 ≤ soth P w i j ∧ soth P w i j < P) ∧ (soth P w i j ≠ i ∧ soth P w i j ≠ j) ∧ 0 < w (soth P w i j)) := by
  unfold soth
  have key : ∀ (m k : Nat), k + m = P.toNat → zff (fun p => decide (((p : Int) ≠ i ∧ (p : Int) ≠ j) ∧ 0 < w p)) k m = -4 ∨ ((0 ≤ zff (fun p => decide (((p : Int) ≠ i ∧ (p : Int) ≠ j) ∧ 0 < w p)) k m ∧ zff (fun p => decide (((p : Int) ≠ i ∧ (p : Int) ≠ j) ∧ 0 < w p)) k m < P) ∧ (zff (fun p => decide (((p : Int) ≠ i ∧ (p : Int) ≠ j) ∧ 0 < w p)) k m ≠ i ∧ zff (fun p => decide (((p : Int) ≠ i ∧ (p : Int) ≠ j) ∧ 0 < w p)) k m ≠ j) ∧ 0 < w (zff (fun p => decide (((p : Int) ≠ i ∧ (p : Int) ≠ j) ∧ 0 < w p)) k m)) := by
    intro m
    induction m with
    | zero =>
      intro k hk
      exact Or.inl rfl
    | succ m ih =>
      intro k hk
      rw [zff]
      split
      · rename_i h
        have h := of_decide_eq_true h
        exact Or.inr ⟨⟨by omega, by omega⟩, h.1, h.2⟩
      · exact ih (k + 1) (by omega)
  exact key P.toNat 0 (by omega)
theorem sask_rng {kind : Int} {w : Int → Int} {j due : Int} (h : 0 ≤ due) : 0 ≤ sask kind w j due ∧ sask kind w j due ≤ due := by
  unfold sask
  split <;> omega
theorem sp1_rng {P kind : Int} {w : Int → Int} {j due : Int} (hP : P ≤ 6) (hw : sWok w) (h : 0 ≤ due) : 0 ≤ sp1 P kind w j due ∧ sp1 P kind w j due ≤ due := by
  have a := sask_rng (kind := kind) (w := w) (j := j) h
  have b := sgv_rng (g := j) hP hw.le a.1
  unfold sp1
  omega
theorem sw1_ok {P kind : Int} {w : Int → Int} {i j due : Int} (hP : P ≤ 6) (hw : sWok w) (i0 : 0 ≤ i) (i1 : i < 6) (h : 0 ≤ due) : sWok (sw1 P kind w i j due) := hw.mv hP i0 i1 (sask_rng h).1
theorem sp2_rng {P kind : Int} {w : Int → Int} {i j due : Int} (hP : P ≤ 6) (hw : sWok w) (i0 : 0 ≤ i) (i1 : i < 6) (h : 0 ≤ due) : 0 ≤ sp2 P kind w i j due ∧ sp2 P kind w i j due ≤ due - sp1 P kind w j due := by
  have a := sp1_rng (kind := kind) (j := j) hP hw h
  unfold sp2
  split
  · have b := sgv_rng (g := soth P (sw1 P kind w i j due) i j) (a := due - sp1 P kind w j due) hP (sw1_ok (kind := kind) (j := j) hP hw i0 i1 h).le (by omega)
    omega
  · omega
theorem sw2_ok {P kind : Int} {w : Int → Int} {i j due : Int} (hP : P ≤ 6) (hw : sWok w) (i0 : 0 ≤ i) (i1 : i < 6) (h : 0 ≤ due) : sWok (sw2 P kind w i j due) := by
  have a := sp1_rng (kind := kind) (j := j) hP hw h
  unfold sw2
  split
  · rename_i hk
    unfold sp2
    rw [if_pos hk]
    exact (sw1_ok hP hw i0 i1 h).mv hP i0 i1 (by omega)
  · exact sw1_ok hP hw i0 i1 h
