/-! a child: the class -/
theorem kGf {G : zG} (hG : zOK G) : (zC G 127 1 ∧ zR G 127 0 = 128 ∧ zlt G 128 ∧ zR G 127 1 = 129 ∧ zlt G 129) ∧ (zC G 128 100 ∧ zlen G 128 = 6) ∧ (zC G 129 100 ∧ zlen G 129 = 6) := ⟨sO_127 hG, sO_128 hG, sO_129 hG⟩
theorem kX1_addToGreatestRest {G : zG} {H : zH} {Q' : Option zV → zG → zH → Prop} (hG : zOK G) (hg : ∀ p : Int, 0 ≤ p → p < 6 → 0 ≤ H 128 p ∧ H 128 p ≤ 1000)
    (hq : ∀ m : Int, AMX (H 129) 6 m → Q' none G (zset (zset H 128 (zfu (H 128) m (H 128 m + 1))) 129 (zfu (H 129) m 0))) : zCall qX1_addToGreatestRest [vr 127] G H Q' := by
  rw [rX1_addToGreatestRest_in]
  simp only [rX1_addToGreatestRest_0, rX1_addToGreatestRest_1, rX1_addToGreatestRest_2, rX1_addToGreatestRest_3, true_and, and_true, true_or, or_true, false_or, or_false, Option.toList_some, Option.toList_none, List.nil_append, List.cons_append, zn1]
  have loop : ∀ (l k : Nat) (m : Int), 1 ≤ k → k + l = 6 → AMX (H 129) k m → zRun qX1_addToGreatestRest 4 [vr 127, vi m, vi (k : Int)] [] G H Q' := by
    intro l
    induction l with
    | zero =>
      intro k m hk0 hk hm
      have : k = 6 := by omega
      subst this
      obtain ⟨m0, m1⟩ := hm.1
      have c : 0 ≤ m ∧ m < 6 := ⟨m0, by omega⟩
      have hgm := hg m m0 c.2
      have ez := zw_id (z := H 128 m + 1) (by omega) (by omega)
      rw [rX1_addToGreatestRest_4]
      simp only [rX1_addToGreatestRest_0, rX1_addToGreatestRest_1, rX1_addToGreatestRest_2, rX1_addToGreatestRest_3, rX1_addToGreatestRest_5, rX1_addToGreatestRest_7, rX1_addToGreatestRest_10, rX1_addToGreatestRest_11, rX1_addToGreatestRest_14, rX1_addToGreatestRest_15, rX1_addToGreatestRest_16, rX1_addToGreatestRest_17, rX1_addToGreatestRest_20, rX1_addToGreatestRest_21, rX1_addToGreatestRest_22, rX1_addToGreatestRest_25, rX1_addToGreatestRest_26, rX1_addToGreatestRest_29, rX1_addToGreatestRest_30, rX1_addToGreatestRest_31, rX1_addToGreatestRest_34, rX1_addToGreatestRest_37, rX1_addToGreatestRest_38, rX1_addToGreatestRest_41, rX1_addToGreatestRest_42, rX1_addToGreatestRest_43, rX1_addToGreatestRest_44, rX1_addToGreatestRest_45, rX1_addToGreatestRest_46, rX1_addToGreatestRest_47, rX1_addToGreatestRest_48, rX1_addToGreatestRest_51, rX1_addToGreatestRest_52, rX1_addToGreatestRest_53, rX1_addToGreatestRest_54, true_and, and_true, true_or, or_true, false_or, or_false, Option.toList_some, Option.toList_none, List.nil_append, List.cons_append, zn1, kGf hG, c, zup_def, zset_at, Nat.reduceEqDiff, reduceIte, ez]
      rw [if_pos (by omega)]
      exact hq m hm
    | succ l ih =>
      intro k m hk0 hk hm
      obtain ⟨m0, m1⟩ := hm.1
      have c : 0 ≤ m ∧ m < 6 := ⟨m0, by omega⟩
      have ck : (0 : Int) ≤ k ∧ (k : Int) < 6 := by omega
      have hs := AMX_s (by omega) hm
      rw [show (k : Int) + 1 = ((k + 1 : Nat) : Int) by omega] at hs
      rw [rX1_addToGreatestRest_4]
      simp only [rX1_addToGreatestRest_0, rX1_addToGreatestRest_1, rX1_addToGreatestRest_2, rX1_addToGreatestRest_3, rX1_addToGreatestRest_5, rX1_addToGreatestRest_7, rX1_addToGreatestRest_10, rX1_addToGreatestRest_11, rX1_addToGreatestRest_14, rX1_addToGreatestRest_15, rX1_addToGreatestRest_16, rX1_addToGreatestRest_17, rX1_addToGreatestRest_20, rX1_addToGreatestRest_21, rX1_addToGreatestRest_22, rX1_addToGreatestRest_25, rX1_addToGreatestRest_26, rX1_addToGreatestRest_29, rX1_addToGreatestRest_30, rX1_addToGreatestRest_31, rX1_addToGreatestRest_34, rX1_addToGreatestRest_37, rX1_addToGreatestRest_38, rX1_addToGreatestRest_41, rX1_addToGreatestRest_42, rX1_addToGreatestRest_43, rX1_addToGreatestRest_44, rX1_addToGreatestRest_45, rX1_addToGreatestRest_46, rX1_addToGreatestRest_47, rX1_addToGreatestRest_48, rX1_addToGreatestRest_51, rX1_addToGreatestRest_52, rX1_addToGreatestRest_53, rX1_addToGreatestRest_54, true_and, and_true, true_or, or_true, false_or, or_false, Option.toList_some, Option.toList_none, List.nil_append, List.cons_append, zn1, kGf hG, c, ck, zwk (show k < 2000000000 by omega)]
      rw [if_neg (by omega)]
      by_cases c1 : H 129 k ≤ H 129 m
      · rw [if_pos c1]
        rw [if_pos c1] at hs
        exact ih (k + 1) m (by omega) (by omega) hs
      · rw [if_neg c1]
        rw [if_neg c1] at hs
        exact ih (k + 1) k (by omega) (by omega) hs
  exact loop 5 1 0 (by omega) (by omega) AMX_1
theorem tk_ag {a b c d : Int → Int} (h1 : ag6 a c) (h2 : ag6 b d) {m : Int} (hm : AMX b 6 m) : ag6 (zfu a m (a m + 1)) (tk (c, d)).1 ∧ ag6 (zfu b m 0) (tk (c, d)).2 := by
  have e : m = amx d := AMX_u (AMX_ag (by omega) h2 hm) (amx_spec d)
  obtain ⟨m0, m1⟩ := hm.1
  refine ⟨fun p p0 p1 => ?_, fun p p0 p1 => ?_⟩
  · show zfu a m (a m + 1) p = zfu c (amx d) (c (amx d) + 1) p
    rw [← e, zfu_at, zfu_at, h1 m m0 m1, h1 p p0 p1]
  · show zfu b m 0 p = zfu d (amx d) 0 p
    rw [← e, zfu_at, zfu_at, h2 p p0 p1]
theorem tkn_g {g r : Int → Int} (h : ∀ p : Int, 0 ≤ p → p < 6 → 0 ≤ g p ∧ g p ≤ 99) : ∀ (n : Nat) (p : Int), 0 ≤ p → p < 6 → 0 ≤ (tkn n (g, r)).1 p ∧ (tkn n (g, r)).1 p ≤ 99 + (n : Int)
  | 0, p, p0, p1 => by
    have := h p p0 p1
    show 0 ≤ g p ∧ g p ≤ 99 + ((0 : Nat) : Int)
    omega
  | n + 1, p, p0, p1 => by
    have ih := tkn_g (r := r) h n
    have hp := ih p p0 p1
    obtain ⟨⟨m0, m1⟩, -⟩ := amx_spec (tkn n (g, r)).2
    have hm := ih _ m0 m1
    show 0 ≤ zfu (tkn n (g, r)).1 (amx (tkn n (g, r)).2) ((tkn n (g, r)).1 (amx (tkn n (g, r)).2) + 1) p ∧ zfu (tkn n (g, r)).1 (amx (tkn n (g, r)).2) ((tkn n (g, r)).1 (amx (tkn n (g, r)).2) + 1) p ≤ 99 + ((n + 1 : Nat) : Int)
    rw [zfu_at]
    split <;> omega
theorem uu_rng {P A : Int} {w : Int → Int} (hP : P ≤ 6) (hw : sWok w) (hA : ssum (uu P w) = A) : (∀ p : Int, 0 ≤ p → p < 6 → 0 ≤ uu P w p ∧ uu P w p ≤ A) ∧ A ≤ 6000 := by
  have le : ∀ p : Int, 0 ≤ p → p < 6 → 0 ≤ uu P w p ∧ uu P w p ≤ w p := fun p p0 p1 => by
    have := hw.1 p p0 p1
    unfold uu
    split <;> omega
  have l0 := le 0 (by omega) (by omega)
  have l1 := le 1 (by omega) (by omega)
  have l2 := le 2 (by omega) (by omega)
  have l3 := le 3 (by omega) (by omega)
  have l4 := le 4 (by omega) (by omega)
  have l5 := le 5 (by omega) (by omega)
  have hs := hw.2
  unfold ssum at hA hs
  refine ⟨fun p p0 p1 => ?_, by omega⟩
  rcases six p0 p1 with rfl | rfl | rfl | rfl | rfl | rfl <;> omega
theorem kX1_share {P W A : Int} {w : Int → Int} {G : zG} {H : zH} {Q' : Option zV → zG → zH → Prop} (hG : zOK G) (P0 : 1 ≤ P) (P1 : P ≤ 6) (eP : H 3 1 = P) (ew : H 8 = w) (hw : sWok w) (hA : ssum (uu P w) = A) (A0 : 1 ≤ A) (W0 : 1 ≤ W) (W1 : W ≤ 99)
    (hq : ∀ H' : zH, (∀ b, b ≠ 128 → b ≠ 129 → H' b = H b) → ag6 (H' 128) (tkn (W - ssum (sg0 W A (uu P w))).toNat (sg0 W A (uu P w), sr0 W A (uu P w))).1 → Q' none G H') : zCall qX1_share [vr 127, vi W, vr 7] G H Q' := by
  obtain ⟨hu, A1⟩ := uu_rng P1 hw hA
  have hu0 : ∀ p : Int, 0 ≤ p → p < 6 → 0 ≤ uu P w p := fun p p0 p1 => (hu p p0 p1).1
  have hal : ∀ k : Nat, k < 6 → ((((0 : Int) ≤ k ∧ (k : Int) < P) ∧ 0 < w k) ∧ uu P w k = w k) ∨ (¬ (((0 : Int) ≤ k ∧ (k : Int) < P) ∧ 0 < w k) ∧ uu P w k = 0) := fun k hk => by
    have := hw.1 k (by omega) (by omega)
    unfold uu
    by_cases c : (0 : Int) ≤ k ∧ (k : Int) < P
    · rw [if_pos c]
      by_cases c2 : 0 < w k
      · exact Or.inl ⟨⟨c, c2⟩, rfl⟩
      · exact Or.inr ⟨fun z => c2 z.2, by omega⟩
    · rw [if_neg c]
      exact Or.inr ⟨fun z => c z.1, rfl⟩
  obtain ⟨L, hL⟩ := nat_of (lack_rng (W := W) (show 0 < A by omega) hA).1
  have hL5 := (lack_rng (W := W) (show 0 < A by omega) hA).2
  rw [hL] at hq hL5
  rw [show ((L : Nat) : Int).toNat = L by omega] at hq
  have hg0 := fun (p : Int) p0 p1 => sg0_rng (W := W) (u := uu P w) (p := p) (show 0 < A by omega) (by omega) W1 hu p0 p1
  -- the gifts one by one
  have l3 : ∀ (m n : Nat) (H1 : zH), n + m = L → (∀ b, b ≠ 128 → b ≠ 129 → H1 b = H b) → ag6 (H1 128) (tkn n (sg0 W A (uu P w), sr0 W A (uu P w))).1 → ag6 (H1 129) (tkn n (sg0 W A (uu P w), sr0 W A (uu P w))).2 → zRun qX1_share 142 [vr 127, vi W, vr 7, vi A, vi (L : Int), vi (n : Int)] [] G H1 Q' := by
    intro m
    induction m with
    | zero =>
      intro n H1 hn f1 a1 b1
      have : n = L := by omega
      subst this
      rw [rX1_share_142]
      simp only [rX1_share_144, rX1_share_146, rX1_share_166]
      rw [if_pos (by omega)]
      exact hq H1 f1 a1
    | succ m ih =>
      intro n H1 hn f1 a1 b1
      have nL : ¬ (L : Int) ≤ (n : Int) := by omega
      have n6 : ¬ (6 : Int) ≤ (n : Int) := by omega
      have nb : 99 + (n : Int) ≤ 1000 := by omega
      have ez := zwk (show n < 2000000000 by omega)
      rw [rX1_share_142]
      simp only [rX1_share_144, rX1_share_146, rX1_share_149, rX1_share_151, rX1_share_153, rX1_share_156, rX1_share_157, true_and, and_true, true_or, or_true, false_or, or_false, Option.toList_some, Option.toList_none, List.nil_append, List.cons_append, zn1, kGf hG]
      rw [if_neg nL, if_neg n6]
      refine kX1_addToGreatestRest hG (fun p p0 p1 => ?_) (fun q hq' => ?_)
      · have := tkn_g (r := sr0 W A (uu P w)) (fun p p0 p1 => hg0 p p0 p1) n p p0 p1
        rw [a1 p p0 p1]
        exact ⟨this.1, Int.le_trans this.2 nb⟩
      · obtain ⟨t1, t2⟩ := tk_ag a1 b1 hq'
        simp only [rX1_share_160, rX1_share_163, true_and, and_true, true_or, or_true, false_or, or_false, Option.toList_some, Option.toList_none, List.nil_append, List.cons_append, zn1, ez]
        refine ih (n + 1) _ (by omega) (fun b x1 x2 => by rw [zset_ne x2, zset_ne x1]; exact f1 b x1 x2) ?_ ?_
        · rw [zset_ne (by omega), zset_eq]
          exact t1
        · rw [zset_eq]
          exact t2
  have hgs := psum_6 (u := sg0 W A (uu P w))
  have hus := psum_6 (u := uu P w)
  rw [hA] at hus
  have l2 : ∀ (m k : Nat) (H1 : zH), k + m = 6 → (∀ b, b ≠ 128 → b ≠ 129 → H1 b = H b) → (∀ p : Int, 0 ≤ p → p < 6 → H1 128 p = (if p < (k : Int) then sg0 W A (uu P w) p else 0) ∧ H1 129 p = (if p < (k : Int) then sr0 W A (uu P w) p else 0)) → zRun qX1_share 69 [vr 127, vi W, vr 7, vi A, vi (W - psum (sg0 W A (uu P w)) k), vi (k : Int)] [] G H1 Q' := by
    intro m
    induction m with
    | zero =>
      intro k H1 hk f1 a1
      have : k = 6 := by omega
      subst this
      rw [hgs, hL, rX1_share_69]
      simp only [rX1_share_71, rX1_share_73, rX1_share_139, rX1_share_140, true_and, and_true, true_or, or_true, false_or, or_false, Option.toList_some, Option.toList_none, List.nil_append, List.cons_append, zn1]
      rw [if_pos (by omega)]
      refine l3 L 0 H1 (by omega) f1 (fun p p0 p1 => ?_) (fun p p0 p1 => ?_)
      · have := (a1 p p0 p1).1
        rw [if_pos (by omega)] at this
        exact this
      · have := (a1 p p0 p1).2
        rw [if_pos (by omega)] at this
        exact this
    | succ m ih =>
      intro k H1 hk f1 a1
      have e3 : H1 3 1 = P := by rw [f1 3 (by omega) (by omega)]; exact eP
      have e8 : H1 (7 + 1) = w := by rw [f1 _ (by omega) (by omega)]; exact ew
      have ck : (0 : Int) ≤ k ∧ (k : Int) < 6 := by omega
      have hwk := hw.le k (by omega) (by omega)
      have hps := psum_le (u := sg0 W A (uu P w)) (fun p p0 p1 => (hg0 p p0 p1).1) (5 - k) (k + 1) (by omega)
      have hps0 := psum_le (u := sg0 W A (uu P w)) (fun p p0 p1 => (hg0 p p0 p1).1) 0 k (by omega)
      have hss : psum (sg0 W A (uu P w)) (k + 1) = psum (sg0 W A (uu P w)) k + sg0 W A (uu P w) k := rfl
      have hps6 : psum (sg0 W A (uu P w)) (k + 1) ≤ W := by
        have h6 := hps.2
        rw [show k + 1 + (5 - k) = 6 by omega, hgs] at h6
        have := (lack_rng (W := W) (show 0 < A by omega) hA).1
        omega
      have m0 : 0 ≤ W * w k := Int.mul_nonneg (by omega) hwk.1
      have m1 : W * w k ≤ 99 * 6000 := Int.mul_le_mul W1 hwk.2 hwk.1 (by omega)
      have z1 := zw_id (z := W * w k) (by omega) (by omega)
      have z2 := zdiv_pos (a := W * w k) (b := A) m0 (by omega) (by omega) (by omega)
      have z3 := zrem_pos (a := W * w k) (b := A) m0 (by omega) (by omega) (by omega)
      have hA0 : (A ≠ 0) = True := by
        simp only [ne_eq, eq_iff_iff, iff_true]
        omega
      have next : ∀ (H2 : zH) (v4 : Int), (∀ b, b ≠ 128 → b ≠ 129 → H2 b = H b) → (∀ p : Int, 0 ≤ p → p < 6 → H2 128 p = (if p = (k : Int) then sg0 W A (uu P w) k else H1 128 p) ∧ H2 129 p = (if p = (k : Int) then sr0 W A (uu P w) k else H1 129 p)) → v4 = W - psum (sg0 W A (uu P w)) (k + 1) → zRun qX1_share 69 [vr 127, vi W, vr 7, vi A, vi v4, vi ((k + 1 : Nat) : Int)] [] G H2 Q' := by
        intro H2 v4 f2 a2 hv
        subst hv
        refine ih (k + 1) H2 (by omega) f2 (fun p p0 p1 => ?_)
        rw [(a2 p p0 p1).1, (a2 p p0 p1).2, (a1 p p0 p1).1, (a1 p p0 p1).2]
        by_cases c : p = k
        · subst c
          rw [if_pos rfl, if_pos rfl, if_pos (by omega), if_pos (by omega)]
          exact ⟨rfl, rfl⟩
        · rw [if_neg c, if_neg c]
          by_cases c2 : p < (k : Int)
          · rw [if_pos c2, if_pos c2, if_pos (by omega), if_pos (by omega)]
            exact ⟨rfl, rfl⟩
          · rw [if_neg c2, if_neg c2, if_neg (by omega), if_neg (by omega)]
            exact ⟨rfl, rfl⟩
      rw [rX1_share_69]
      simp only [rX1_share_71, rX1_share_73, rX1_share_76, rX1_share_77, rX1_share_79, rX1_share_82, rX1_share_85, rX1_share_86, rX1_share_89, rX1_share_91, rX1_share_92, rX1_share_93, rX1_share_96, rX1_share_98, rX1_share_99, rX1_share_100, rX1_share_101, rX1_share_102, rX1_share_103, rX1_share_104, rX1_share_107, rX1_share_109, rX1_share_110, rX1_share_111, rX1_share_114, rX1_share_116, rX1_share_117, rX1_share_118, rX1_share_119, rX1_share_120, rX1_share_121, rX1_share_123, rX1_share_124, rX1_share_127, rX1_share_129, rX1_share_130, rX1_share_131, rX1_share_133, rX1_share_136, true_and, and_true, true_or, or_true, false_or, or_false, Option.toList_some, Option.toList_none, List.nil_append, List.cons_append, zn1, kGf hG, kB hG bk7, kX0_isAlive hG bk7 (show 1 ≤ H1 3 1 by omega) (show H1 3 1 ≤ 6 by omega), bi_eq0, e3, e8, zup_def, zset_at, zfu_at, Nat.reduceEqDiff, reduceIte, z1, z2, z3, hA0, zwk (show k < 2000000000 by omega)]
      rw [if_neg (by omega)]
      rcases hal k (by omega) with ⟨h1, h2⟩ | ⟨h1, h2⟩
      · rw [if_neg (fun z => z h1)]
        have eg : sg0 W A (uu P w) k = W * w k / A := by
          unfold sg0
          rw [h2]
        have er : sr0 W A (uu P w) k = W * w k % A := by
          unfold sr0
          rw [h2]
        refine ⟨ck, ck, ck, ck, ck, next _ _ (fun b x1 x2 => by rw [zset_ne x2, zset_ne x1]; exact f1 b x1 x2) (fun p p0 p1 => ?_) ?_⟩
        · rw [zset_ne (show 128 ≠ 129 by omega), zset_eq, zset_eq, zfu_at, zfu_at, eg, er]
          exact ⟨rfl, rfl⟩
        · rw [← eg, zw_id (by omega) (by omega), hss]
          omega
      · rw [if_pos h1]
        have eg : sg0 W A (uu P w) k = 0 := by
          unfold sg0
          rw [h2, Int.mul_zero, Int.zero_ediv]
        have er : sr0 W A (uu P w) k = 0 := by
          unfold sr0
          rw [h2, Int.mul_zero, Int.zero_emod]
        refine next H1 _ f1 (fun p p0 p1 => ?_) ?_
        · rw [eg, er]
          by_cases c : p = k
          · subst c
            rw [if_pos rfl, if_pos rfl, (a1 _ p0 p1).1, (a1 _ p0 p1).2, if_neg (by omega), if_neg (by omega)]
            exact ⟨rfl, rfl⟩
          · rw [if_neg c, if_neg c]
            exact ⟨rfl, rfl⟩
        · rw [hss, eg]
          omega
  have l1 : ∀ (m k : Nat) (H1 : zH), k + m = 6 → (∀ b, b ≠ 128 → b ≠ 129 → H1 b = H b) → (∀ p : Int, 0 ≤ p → p < (k : Int) → H1 128 p = 0 ∧ H1 129 p = 0) → zRun qX1_share 5 [vr 127, vi W, vr 7, vi (psum (uu P w) k), vi (k : Int), vu] [] G H1 Q' := by
    intro m
    induction m with
    | zero =>
      intro k H1 hk f1 a1
      have : k = 6 := by omega
      subst this
      rw [hus, rX1_share_5]
      simp only [rX1_share_7, rX1_share_9, rX1_share_57, rX1_share_58, rX1_share_59, rX1_share_63, rX1_share_64, rX1_share_66, rX1_share_67, true_and, and_true, true_or, or_true, false_or, or_false, Option.toList_some, Option.toList_none, List.nil_append, List.cons_append, zn1]
      rw [if_pos (by omega), if_pos A0]
      have := l2 6 0 H1 (by omega) f1 (fun p p0 p1 => by
        rw [if_neg (by omega), if_neg (by omega)]
        exact a1 p p0 (by omega))
      rw [show psum (sg0 W A (uu P w)) 0 = 0 from rfl, Int.sub_zero] at this
      exact this
    | succ m ih =>
      intro k H1 hk f1 a1
      have e3 : H1 3 1 = P := by rw [f1 3 (by omega) (by omega)]; exact eP
      have e8 : H1 (7 + 1) = w := by rw [f1 _ (by omega) (by omega)]; exact ew
      have ck : (0 : Int) ≤ k ∧ (k : Int) < 6 := by omega
      have hps := psum_le hu0 (5 - k) (k + 1) (by omega)
      rw [show k + 1 + (5 - k) = 6 by omega, hus] at hps
      have hss : psum (uu P w) (k + 1) = psum (uu P w) k + uu P w k := rfl
      generalize hH2 : zset (zset H1 128 (zfu (H1 128) k 0)) 129 (zfu (H1 129) k 0) = H2
      have f2 : ∀ b, b ≠ 128 → b ≠ 129 → H2 b = H b := fun b x1 x2 => by
        rw [← hH2, zset_ne x2, zset_ne x1]
        exact f1 b x1 x2
      have e23 : H2 3 1 = P := by rw [f2 3 (by omega) (by omega)]; exact eP
      have e28 : H2 (7 + 1) = w := by rw [f2 _ (by omega) (by omega)]; exact ew
      have ihk := ih (k + 1) H2 (by omega) f2 (fun p p0 p1 => by
        rw [← hH2, zset_ne (show 128 ≠ 129 by omega), zset_eq, zset_eq, zfu_at, zfu_at]
        by_cases c : p = k
        · rw [if_pos c, if_pos c]
          exact ⟨rfl, rfl⟩
        · rw [if_neg c, if_neg c]
          exact a1 p p0 (by omega))
      have z1 := zw_id (z := psum (uu P w) k + uu P w k) (by omega) (by omega)
      rw [rX1_share_5]
      simp only [rX1_share_7, rX1_share_9, rX1_share_12, rX1_share_13, rX1_share_16, rX1_share_18, rX1_share_19, rX1_share_20, rX1_share_21, rX1_share_24, rX1_share_26, rX1_share_27, rX1_share_28, rX1_share_29, rX1_share_30, rX1_share_32, true_and, and_true, true_or, or_true, false_or, or_false, Option.toList_some, Option.toList_none, List.nil_append, List.cons_append, zn1, kGf hG, kB hG bk7, zup_def, zset_at, Nat.reduceEqDiff, reduceIte, hH2, kX0_isAlive hG bk7 (show 1 ≤ H2 3 1 by omega) (show H2 3 1 ≤ 6 by omega)]
      simp only [rX1_share_35, rX1_share_38, rX1_share_39, rX1_share_42, rX1_share_44, rX1_share_45, rX1_share_48, rX1_share_49, rX1_share_50, rX1_share_51, rX1_share_54, true_and, and_true, true_or, or_true, false_or, or_false, Option.toList_some, Option.toList_none, List.nil_append, List.cons_append, zn1, kB hG bk7, bi_eq0, e23, e28, zwk (show k < 2000000000 by omega)]
      rw [if_neg (by omega)]
      refine ⟨ck, ck, ?_⟩
      rcases hal k (by omega) with ⟨h1, h2⟩ | ⟨h1, h2⟩
      · rw [if_neg (fun z => z h1), ← h2, z1]
        exact ⟨ck, ihk⟩
      · rw [if_pos h1]
        rw [h2] at z1 hss
        rw [z1, ← hss]
        exact ihk
  rw [rX1_share_in]
  simp only [rX1_share_0, rX1_share_1, rX1_share_2, rX1_share_3, true_and, and_true, true_or, or_true, false_or, or_false, Option.toList_some, Option.toList_none, List.nil_append, List.cons_append, zn1]
  exact l1 6 0 H (by omega) (fun _ _ _ => rfl) (fun p p0 p1 => by omega)
theorem kX1_takeAllOfOne {P : Int} {w : Int → Int} {G : zG} {H : zH} {Q' : Option zV → zG → zH → Prop} (hG : zOK G) (P0 : 1 ≤ P) (P1 : P ≤ 6) (eP : H 3 1 = P) (ew : H 8 = w)
    (hq1 : (∃ p : Int, 0 ≤ p ∧ p < P ∧ 0 < w p ∧ w p ≤ H 128 p) → Q' (some (vi 1)) G H) (hq0 : (∀ p : Int, 0 ≤ p → p < P → 0 < w p → H 128 p < w p) → Q' (some (vi 0)) G H) : zCall qX1_takeAllOfOne [vr 127, vr 7] G H Q' := by
  have e8 : H (7 + 1) = w := ew
  rw [rX1_takeAllOfOne_in]
  simp only [rX1_takeAllOfOne_0, rX1_takeAllOfOne_1, true_and, and_true, true_or, or_true, false_or, or_false, Option.toList_some, Option.toList_none, List.nil_append, List.cons_append, zn1]
  have loop : ∀ (m k : Nat), k + m = 6 → (∀ p : Int, 0 ≤ p → p < (k : Int) → p < P → 0 < w p → H 128 p < w p) → zRun qX1_takeAllOfOne 2 [vr 127, vr 7, vi (k : Int)] [] G H Q' := by
    intro m
    induction m with
    | zero =>
      intro k hk a1
      rw [rX1_takeAllOfOne_2]
      simp only [rX1_takeAllOfOne_0, rX1_takeAllOfOne_1, rX1_takeAllOfOne_3, rX1_takeAllOfOne_5, rX1_takeAllOfOne_8, rX1_takeAllOfOne_9, rX1_takeAllOfOne_10, rX1_takeAllOfOne_13, rX1_takeAllOfOne_16, rX1_takeAllOfOne_17, rX1_takeAllOfOne_20, rX1_takeAllOfOne_21, rX1_takeAllOfOne_22, rX1_takeAllOfOne_23, rX1_takeAllOfOne_26, rX1_takeAllOfOne_27, rX1_takeAllOfOne_28, rX1_takeAllOfOne_31, rX1_takeAllOfOne_32, rX1_takeAllOfOne_33, rX1_takeAllOfOne_36, rX1_takeAllOfOne_39, rX1_takeAllOfOne_40, true_and, and_true, true_or, or_true, false_or, or_false, Option.toList_some, Option.toList_none, List.nil_append, List.cons_append, zn1]
      rw [if_pos (by omega)]
      exact hq0 (fun p p0 p1 => a1 p p0 (by omega) p1)
    | succ m ih =>
      intro k hk a1
      have ck : (0 : Int) ≤ k ∧ (k : Int) < 6 := by omega
      have next : ¬ ((((0 : Int) ≤ k ∧ (k : Int) < P) ∧ 0 < w k) ∧ w k ≤ H 128 k) → zRun qX1_takeAllOfOne 2 [vr 127, vr 7, vi ((k + 1 : Nat) : Int)] [] G H Q' := fun hc => ih (k + 1) (by omega) (fun p p0 p1 pP hw => by
        by_cases c : p = k
        · subst c
          rcases Int.lt_or_le (H 128 k) (w k) with q | q
          · exact q
          · exact absurd ⟨⟨⟨p0, pP⟩, hw⟩, q⟩ hc
        · exact a1 p p0 (by omega) pP hw)
      rw [rX1_takeAllOfOne_2]
      simp only [rX1_takeAllOfOne_0, rX1_takeAllOfOne_1, rX1_takeAllOfOne_3, rX1_takeAllOfOne_5, rX1_takeAllOfOne_8, rX1_takeAllOfOne_9, rX1_takeAllOfOne_10, rX1_takeAllOfOne_13, rX1_takeAllOfOne_16, rX1_takeAllOfOne_17, rX1_takeAllOfOne_20, rX1_takeAllOfOne_21, rX1_takeAllOfOne_22, rX1_takeAllOfOne_23, rX1_takeAllOfOne_26, rX1_takeAllOfOne_27, rX1_takeAllOfOne_28, rX1_takeAllOfOne_31, rX1_takeAllOfOne_32, rX1_takeAllOfOne_33, rX1_takeAllOfOne_36, rX1_takeAllOfOne_39, rX1_takeAllOfOne_40, true_and, and_true, true_or, or_true, false_or, or_false, Option.toList_some, Option.toList_none, List.nil_append, List.cons_append, zn1, kGf hG, kB hG bk7, kX0_isAlive hG bk7 (show 1 ≤ H 3 1 by omega) (show H 3 1 ≤ 6 by omega), bi_eq0, eP, e8, zwk (show k < 2000000000 by omega)]
      rw [if_neg (by omega)]
      by_cases c1 : ((0 : Int) ≤ k ∧ (k : Int) < P) ∧ 0 < w k
      · rw [if_neg (fun z => z c1)]
        refine ⟨ck, ck, ?_⟩
        by_cases c2 : H 128 k < w k
        · rw [if_pos c2]
          exact next (fun z => by omega)
        · rw [if_neg c2]
          exact hq1 ⟨k, c1.1.1, c1.1.2, c1.2, by omega⟩
      · rw [if_pos c1]
        exact next (fun z => c1 z.1)
  exact loop 6 0 (by omega) (fun p p0 p1 => by omega)
