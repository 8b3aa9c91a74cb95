/-! Books: a loan is paid -/
theorem zdue_rng {r n : Int} (h0 : 0 ≤ r) (h1 : r ≤ 99) (h2 : 0 ≤ n) (h3 : n ≤ 200) : zdue r n = n + n * r / 100 ∧ n ≤ zdue r n ∧ zdue r n ≤ 2 * n := by
  obtain ⟨e1, e2, e3⟩ := zint_eq h0 h1 h2 h3
  unfold zdue
  rw [e1, zw_id (by omega) (by omega)]
  omega
/-- behind what the borrower gives -/
theorem pay_end {o : Nat} {k i j due p : Int} {v5 : zV} {G : zG} {H : zH} {Q' : Option zV → zG → zH → Prop} (hG : zOK G) (ho : isBk o) (k0 : 0 ≤ k) (k1 : k < 8) (i0 : 0 ≤ i) (i1 : i < 6) (m0 : 0 ≤ H (o + 7) k) (m1 : H (o + 7) k < 8) (d0 : 0 ≤ due) (d1 : due ≤ 400) (p0 : 0 ≤ p) (p1 : p ≤ due) (hq : Q' none G (zset (zset H (o + 8) (zfu (H (o + 8)) (H (o + 7) k) p)) (o + 2) (zfu (H (o + 2)) i (zw (H (o + 2) i + (due - p)))))) : zRun qX0_pay 103 [vr o, vi k, vi i, vi j, vi due, vi p] [] G H Q' := by
  simp only [rX0_pay_0, rX0_pay_1, rX0_pay_4, rX0_pay_5, rX0_pay_6, rX0_pay_7, rX0_pay_8, rX0_pay_11, rX0_pay_12, rX0_pay_13, rX0_pay_14, rX0_pay_15, rX0_pay_16, rX0_pay_19, rX0_pay_22, rX0_pay_23, rX0_pay_24, rX0_pay_25, rX0_pay_28, rX0_pay_29, rX0_pay_30, rX0_pay_33, rX0_pay_35, rX0_pay_36, rX0_pay_37, rX0_pay_38, rX0_pay_39, rX0_pay_42, rX0_pay_45, rX0_pay_46, rX0_pay_49, rX0_pay_50, rX0_pay_53, rX0_pay_54, rX0_pay_55, rX0_pay_57, rX0_pay_60, rX0_pay_61, rX0_pay_64, rX0_pay_66, rX0_pay_69, rX0_pay_71, rX0_pay_72, rX0_pay_75, rX0_pay_78, rX0_pay_79, rX0_pay_82, rX0_pay_84, rX0_pay_85, rX0_pay_86, rX0_pay_87, rX0_pay_88, rX0_pay_91, rX0_pay_92, rX0_pay_94, rX0_pay_96, rX0_pay_97, rX0_pay_100, rX0_pay_101, rX0_pay_103, rX0_pay_104, rX0_pay_107, rX0_pay_108, rX0_pay_111, rX0_pay_112, rX0_pay_113, rX0_pay_115, rX0_pay_116, rX0_pay_117, rX0_pay_120, rX0_pay_121, rX0_pay_122, rX0_pay_123, rX0_pay_125, rX0_pay_127, rX0_pay_128, rX0_pay_129, rX0_pay_130, true_and, and_true, true_or, or_true, false_or, or_false, Option.toList_some, Option.toList_none, List.nil_append, List.cons_append, zn1, kB hG ho, zup_def, zset_at, neB ho, if_true, if_false]
  rw [zw_id (z := due - p) (by omega) (by omega)]
  exact ⟨by omega, by omega, by omega, by omega, hq⟩
theorem pay_tail {o : Nat} {k i j due p : Int} {v5 : zV} {G : zG} {H : zH} {Q' : Option zV → zG → zH → Prop} (hG : zOK G) (ho : isBk o) (h1 : 1 ≤ H 3 1) (h2 : H 3 1 ≤ 6) (hw : sWok (H (o + 1))) (k0 : 0 ≤ k) (k1 : k < 8) (i0 : 0 ≤ i) (i1 : i < 6) (m0 : 0 ≤ H (o + 7) k) (m1 : H (o + 7) k < 8) (d0 : 0 ≤ due) (d1 : due ≤ 400) (p0 : 0 ≤ p) (p1 : p ≤ due)
    (hq : ∀ v : Int, v = (if H 3 3 = 3 then sgv (H 3 1) (H (o + 1)) (soth (H 3 1) (H (o + 1)) i j) (due - p) else 0) → Q' none G (zset (zset (if H 3 3 = 3 then zset H (o + 1) (smv (H (o + 1)) (soth (H 3 1) (H (o + 1)) i j) i v) else H) (o + 8) (zfu (H (o + 8)) (H (o + 7) k) (p + v))) (o + 2) (zfu (H (o + 2)) i (zw (H (o + 2) i + (due - (p + v))))))) : zRun qX0_pay 69 [vr o, vi k, vi i, vi j, vi due, v5] [vi p] G H Q' := by
  have hq := hq _ rfl
  have e := zw_id (z := due - p) (by omega) (by omega)
  simp only [rX0_pay_69, rX0_pay_71, rX0_pay_72, rX0_pay_75, rX0_pay_78, rX0_pay_79, rX0_pay_82, rX0_pay_84, rX0_pay_85, rX0_pay_86, rX0_pay_87, rX0_pay_88, rX0_pay_91, rX0_pay_92, rX0_pay_94, rX0_pay_96, rX0_pay_97, rX0_pay_100, rX0_pay_101, true_and, and_true, true_or, or_true, false_or, or_false, Option.toList_some, Option.toList_none, List.nil_append, List.cons_append, zn1, kB hG ho, sO_3 hG, kX0_lowestOther hG ho h1 h2, e, kX0_give hG ho h1 h2 hw.le i0 i1 (show 0 ≤ due - p by omega) (show due - p ≤ 400 by omega)]
  by_cases hk : H 3 3 = 3
  · rw [if_pos hk, if_pos hk] at hq
    rw [if_neg (fun z => z hk)]
    have hr := sgv_rng (g := soth (H 3 1) (H (o + 1)) i j) (a := due - p) h2 hw.le (by omega)
    generalize sgv (H 3 1) (H (o + 1)) (soth (H 3 1) (H (o + 1)) i j) (due - p) = v at *
    rw [zw_id (z := p + v) (by omega) (by omega)]
    refine pay_end (v5 := vu) hG ho k0 k1 i0 i1 ?_ ?_ d0 d1 (by omega) (by omega) ?_
    · simp only [zset_at, neB ho, if_false]
      exact m0
    · simp only [zset_at, neB ho, if_false]
      exact m1
    · simp only [zset_at, neB ho, if_false]
      exact hq
  · rw [if_neg hk, if_neg hk, Int.add_zero] at hq
    rw [if_pos hk]
    exact pay_end (v5 := vu) hG ho k0 k1 i0 i1 m0 m1 d0 d1 p0 p1 hq
/-- the cells behind a payment -/
def spayH (o : Nat) (k : Int) (H : zH) : zH :=
  if 0 < H (o + 1) (H (o + 3) k) then
    zset (zset (zset H (o + 1) (sw2 (H 3 1) (H 3 3) (H (o + 1)) (H (o + 3) k) (H (o + 4) k) (zdue (H 3 2) (H (o + 5) k)))) (o + 8) (zfu (H (o + 8)) (H (o + 7) k) (spaid (H 3 1) (H 3 3) (H (o + 1)) (H (o + 3) k) (H (o + 4) k) (zdue (H 3 2) (H (o + 5) k))))) (o + 2) (zfu (H (o + 2)) (H (o + 3) k) (zw (H (o + 2) (H (o + 3) k) + (zdue (H 3 2) (H (o + 5) k) - spaid (H 3 1) (H 3 3) (H (o + 1)) (H (o + 3) k) (H (o + 4) k) (zdue (H 3 2) (H (o + 5) k))))))
  else H
theorem kX0_pay {o : Nat} {k : Int} {G : zG} {H : zH} {Q : Option zV → zG → zH → Prop} (hG : zOK G) (ho : isBk o) (h1 : 1 ≤ H 3 1) (h2 : H 3 1 ≤ 6) (r0 : 0 ≤ H 3 2) (r1 : H 3 2 ≤ 99) (hw : sWok (H (o + 1))) (k0 : 0 ≤ k) (k1 : k < 8) (i0 : 0 ≤ H (o + 3) k) (i1 : H (o + 3) k < H 3 1) (j0 : 0 ≤ H (o + 4) k) (j1 : H (o + 4) k < H 3 1) (n0 : 1 ≤ H (o + 5) k) (n1 : H (o + 5) k ≤ 200) (m0 : 0 ≤ H (o + 7) k) (m1 : H (o + 7) k < 8) : zCall qX0_pay [vr o, vi k] G H Q ↔ Q none G (spayH o k H) := by
  refine zCall_det (fun Q' hq => ?_)
  rw [rX0_pay_in]
  have hd := zdue_rng r0 r1 (show 0 ≤ H (o + 5) k by omega) n1
  simp only [rX0_pay_0, rX0_pay_1, rX0_pay_4, rX0_pay_5, rX0_pay_6, rX0_pay_7, rX0_pay_8, rX0_pay_11, rX0_pay_12, rX0_pay_13, rX0_pay_14, rX0_pay_15, rX0_pay_16, rX0_pay_19, rX0_pay_22, rX0_pay_23, rX0_pay_24, rX0_pay_25, rX0_pay_28, rX0_pay_29, rX0_pay_30, rX0_pay_33, rX0_pay_35, rX0_pay_36, rX0_pay_37, rX0_pay_38, rX0_pay_39, rX0_pay_42, rX0_pay_45, rX0_pay_46, rX0_pay_49, rX0_pay_50, rX0_pay_53, rX0_pay_54, rX0_pay_55, rX0_pay_57, rX0_pay_60, rX0_pay_61, rX0_pay_64, rX0_pay_66, rX0_pay_71, rX0_pay_72, rX0_pay_75, rX0_pay_78, rX0_pay_79, rX0_pay_82, rX0_pay_84, rX0_pay_85, rX0_pay_86, rX0_pay_87, rX0_pay_88, rX0_pay_91, rX0_pay_92, rX0_pay_94, rX0_pay_96, rX0_pay_97, rX0_pay_100, rX0_pay_101, rX0_pay_103, rX0_pay_104, rX0_pay_107, rX0_pay_108, rX0_pay_111, rX0_pay_112, rX0_pay_113, rX0_pay_115, rX0_pay_116, rX0_pay_117, rX0_pay_120, rX0_pay_121, rX0_pay_122, rX0_pay_123, rX0_pay_125, rX0_pay_127, rX0_pay_128, rX0_pay_129, rX0_pay_130, true_and, and_true, true_or, or_true, false_or, or_false, Option.toList_some, Option.toList_none, List.nil_append, List.cons_append, zn1, kB hG ho, sO_3 hG, kX0_isAlive hG ho h1 h2, bi_ne0, kX0_dueOn hG ho]
  refine ⟨by omega, by omega, ?_⟩
  unfold spayH at hq
  by_cases hc : 0 < H (o + 1) (H (o + 3) k)
  · rw [if_pos hc] at hq
    rw [if_pos ⟨⟨i0, i1⟩, hc⟩]
    generalize hi : H (o + 3) k = i at *
    generalize hj : H (o + 4) k = j at *
    generalize hdd : zdue (H 3 2) (H (o + 5) k) = due at *
    have a0 := sask_rng (kind := H 3 3) (w := H (o + 1)) (j := j) (due := due) (by omega)
    have a1 := sp1_rng (kind := H 3 3) (j := j) (due := due) h2 hw (by omega)
    have key : zRun qX0_pay 69 [vr o, vi k, vi i, vi j, vi due, vu] [vi (sp1 (H 3 1) (H 3 3) (H (o + 1)) j due)] G (zset H (o + 1) (sw1 (H 3 1) (H 3 3) (H (o + 1)) i j due)) Q' := by
      refine pay_tail hG ho ?_ ?_ ?_ k0 k1 i0 (by omega) ?_ ?_ (by omega) (by omega) a1.1 a1.2 ?_
      · simp only [zset_at, neB ho, if_false]
        exact h1
      · simp only [zset_at, neB ho, if_false]
        exact h2
      · simp only [zset_at, if_true]
        exact sw1_ok h2 hw i0 (by omega) (by omega)
      · simp only [zset_at, neB ho, if_false]
        exact m0
      · simp only [zset_at, neB ho, if_false]
        exact m1
      · simp only [zset_at, neB ho, if_true, if_false, zset_set]
        intro v hv
        have ev : v = sp2 (H 3 1) (H 3 3) (H (o + 1)) i j due := by
          rw [hv]
          rfl
        subst ev
        have es : (if H 3 3 = 3 then zset H (o + 1) (smv (sw1 (H 3 1) (H 3 3) (H (o + 1)) i j due) (soth (H 3 1) (sw1 (H 3 1) (H 3 3) (H (o + 1)) i j due) i j) i (sp2 (H 3 1) (H 3 3) (H (o + 1)) i j due)) else zset H (o + 1) (sw1 (H 3 1) (H 3 3) (H (o + 1)) i j due)) = zset H (o + 1) (sw2 (H 3 1) (H 3 3) (H (o + 1)) i j due) := by
          unfold sw2
          split <;> rfl
        rw [es]
        exact hq
    have call : ∀ a : Int, a = sask (H 3 3) (H (o + 1)) j due → zCall qX0_give [vr o, vi j, vi i, vi a] G H (fun r G H => zRun qX0_pay 69 [vr o, vi k, vi i, vi j, vi due, vu] (r.toList ++ []) G H Q') := by
      intro a ha
      subst ha
      rw [kX0_give hG ho h1 h2 hw.le i0 (by omega) a0.1 (by omega)]
      exact key
    refine ⟨by omega, ?_⟩
    unfold sask at call
    by_cases c1 : H 3 3 = 1
    · rw [if_neg (fun z => z c1)]
      refine ⟨by omega, ?_⟩
      by_cases c2 : due < H (o + 1) j
      · rw [if_pos c2]
        exact call _ (by rw [if_neg (by omega)])
      · rw [if_neg c2]
        exact call _ (by rw [if_pos (by omega)])
    · rw [if_pos c1]
      exact call _ (by rw [if_neg (by omega)])
  · rw [if_neg hc] at hq
    rw [if_neg (fun z => hc z.2)]
    exact hq
