/-! spans -/
def sleast (n : Nat) (pp mo lim : Int → Int) (i : Int) : Int := zfor (fun t acc => if pp t = i ∧ mo t ≠ 0 then max acc (zw (lim t + 1)) else acc) 0 n 1
def sgrst (n : Nat) (pp mo lim : Int → Int) (i : Int) : Int := zfor (fun t acc => if pp t = i ∧ mo t = 0 then min acc (lim t) else acc) 0 n 999
theorem kX6_least {n : Nat} {i : Int} {G : zG} {H : zH} {Q : Option zV → zG → zH → Prop} (hG : zOK G) (hn : H 114 3 = (n : Int)) (h12 : n ≤ 12) : zCall qX6_least [vr 114, vi i] G H Q ↔ Q (some (vi (sleast n (H 115) (H 117) (H 116) i))) G H := by
  refine zCall_det (fun Q' hq => ?_)
  rw [rX6_least_in]
  simp only [rX6_least_0, rX6_least_1, rX6_least_2, rX6_least_3, rX6_least_5, rX6_least_6, rX6_least_9, rX6_least_12, rX6_least_13, rX6_least_16, rX6_least_17, rX6_least_18, rX6_least_19, rX6_least_22, rX6_least_23, rX6_least_26, rX6_least_27, rX6_least_28, rX6_least_31, rX6_least_32, rX6_least_33, rX6_least_36, rX6_least_37, rX6_least_38, rX6_least_39, rX6_least_40, rX6_least_43, rX6_least_44, rX6_least_47, rX6_least_50, rX6_least_51, true_and, and_true, true_or, or_true, false_or, or_false, Option.toList_some, Option.toList_none, List.nil_append, List.cons_append, zn1]
  refine zfor_go (R := fun k acc => zRun qX6_least 4 [vr 114, vi i, vi acc, vi (k : Int)] [] G H Q') (F := fun t acc => if H 115 t = i ∧ H 117 t ≠ 0 then max acc (zw (H 116 t + 1)) else acc) (n := n) (fun k acc hk hq => ?_) 1 ?_
  · have c : (0 : Int) ≤ k ∧ (k : Int) < 12 := by omega
    rw [rX6_least_4]
    simp only [rX6_least_0, rX6_least_1, rX6_least_2, rX6_least_3, rX6_least_5, rX6_least_6, rX6_least_9, rX6_least_12, rX6_least_13, rX6_least_16, rX6_least_17, rX6_least_18, rX6_least_19, rX6_least_22, rX6_least_23, rX6_least_26, rX6_least_27, rX6_least_28, rX6_least_31, rX6_least_32, rX6_least_33, rX6_least_36, rX6_least_37, rX6_least_38, rX6_least_39, rX6_least_40, rX6_least_43, rX6_least_44, rX6_least_47, rX6_least_50, rX6_least_51, true_and, and_true, true_or, or_true, false_or, or_false, Option.toList_some, Option.toList_none, List.nil_append, List.cons_append, zn1, kTd hG, hn, c, zwk (show k < 2000000000 by omega)]
    rw [if_neg (by omega)]
    by_cases c1 : H 115 k = i
    · rw [if_neg (fun z => z c1)]
      by_cases c2 : H 117 k = 0
      · rw [if_pos c2]
        rw [if_neg (fun z => z.2 c2)] at hq
        exact hq
      · rw [if_neg c2]
        rw [if_pos ⟨c1, c2⟩] at hq
        exact hq
    · rw [if_pos c1]
      rw [if_neg (fun z => c1 z.1)] at hq
      exact hq
  · rw [rX6_least_4]
    simp only [rX6_least_0, rX6_least_1, rX6_least_2, rX6_least_3, rX6_least_5, rX6_least_6, rX6_least_9, rX6_least_12, rX6_least_13, rX6_least_16, rX6_least_17, rX6_least_18, rX6_least_19, rX6_least_22, rX6_least_23, rX6_least_26, rX6_least_27, rX6_least_28, rX6_least_31, rX6_least_32, rX6_least_33, rX6_least_36, rX6_least_37, rX6_least_38, rX6_least_39, rX6_least_40, rX6_least_43, rX6_least_44, rX6_least_47, rX6_least_50, rX6_least_51, true_and, and_true, true_or, or_true, false_or, or_false, Option.toList_some, Option.toList_none, List.nil_append, List.cons_append, zn1, kTd hG, hn]
    rw [if_pos (by omega)]
    exact hq
theorem kX6_greatest {n : Nat} {i : Int} {G : zG} {H : zH} {Q : Option zV → zG → zH → Prop} (hG : zOK G) (hn : H 114 3 = (n : Int)) (h12 : n ≤ 12) : zCall qX6_greatest [vr 114, vi i] G H Q ↔ Q (some (vi (sgrst n (H 115) (H 117) (H 116) i))) G H := by
  refine zCall_det (fun Q' hq => ?_)
  rw [rX6_greatest_in]
  simp only [rX6_greatest_0, rX6_greatest_3, rX6_greatest_4, rX6_greatest_5, rX6_greatest_7, rX6_greatest_8, rX6_greatest_11, rX6_greatest_14, rX6_greatest_15, rX6_greatest_18, rX6_greatest_19, rX6_greatest_20, rX6_greatest_21, rX6_greatest_24, rX6_greatest_25, rX6_greatest_28, rX6_greatest_29, rX6_greatest_30, rX6_greatest_33, rX6_greatest_34, rX6_greatest_35, rX6_greatest_38, rX6_greatest_39, rX6_greatest_40, rX6_greatest_43, rX6_greatest_44, rX6_greatest_47, rX6_greatest_50, rX6_greatest_51, true_and, and_true, true_or, or_true, false_or, or_false, Option.toList_some, Option.toList_none, List.nil_append, List.cons_append, zn1]
  refine zfor_go (R := fun k acc => zRun qX6_greatest 6 [vr 114, vi i, vi acc, vi (k : Int)] [] G H Q') (F := fun t acc => if H 115 t = i ∧ H 117 t = 0 then min acc (H 116 t) else acc) (n := n) (fun k acc hk hq => ?_) 999 ?_
  · have c : (0 : Int) ≤ k ∧ (k : Int) < 12 := by omega
    rw [rX6_greatest_6]
    simp only [rX6_greatest_0, rX6_greatest_3, rX6_greatest_4, rX6_greatest_5, rX6_greatest_7, rX6_greatest_8, rX6_greatest_11, rX6_greatest_14, rX6_greatest_15, rX6_greatest_18, rX6_greatest_19, rX6_greatest_20, rX6_greatest_21, rX6_greatest_24, rX6_greatest_25, rX6_greatest_28, rX6_greatest_29, rX6_greatest_30, rX6_greatest_33, rX6_greatest_34, rX6_greatest_35, rX6_greatest_38, rX6_greatest_39, rX6_greatest_40, rX6_greatest_43, rX6_greatest_44, rX6_greatest_47, rX6_greatest_50, rX6_greatest_51, true_and, and_true, true_or, or_true, false_or, or_false, Option.toList_some, Option.toList_none, List.nil_append, List.cons_append, zn1, kTd hG, hn, c, zwk (show k < 2000000000 by omega)]
    rw [if_neg (by omega)]
    by_cases c1 : H 115 k = i
    · rw [if_neg (fun z => z c1)]
      by_cases c2 : H 117 k = 0
      · rw [if_neg (fun z => z c2)]
        rw [if_pos ⟨c1, c2⟩] at hq
        exact hq
      · rw [if_pos c2]
        rw [if_neg (fun z => c2 z.2)] at hq
        exact hq
    · rw [if_pos c1]
      rw [if_neg (fun z => c1 z.1)] at hq
      exact hq
  · rw [rX6_greatest_6]
    simp only [rX6_greatest_0, rX6_greatest_3, rX6_greatest_4, rX6_greatest_5, rX6_greatest_7, rX6_greatest_8, rX6_greatest_11, rX6_greatest_14, rX6_greatest_15, rX6_greatest_18, rX6_greatest_19, rX6_greatest_20, rX6_greatest_21, rX6_greatest_24, rX6_greatest_25, rX6_greatest_28, rX6_greatest_29, rX6_greatest_30, rX6_greatest_33, rX6_greatest_34, rX6_greatest_35, rX6_greatest_38, rX6_greatest_39, rX6_greatest_40, rX6_greatest_43, rX6_greatest_44, rX6_greatest_47, rX6_greatest_50, rX6_greatest_51, true_and, and_true, true_or, or_true, false_or, or_false, Option.toList_some, Option.toList_none, List.nil_append, List.cons_append, zn1, kTd hG, hn]
    rw [if_pos (by omega)]
    exact hq
/-- so by all that was told -/
def okW (n : Nat) (pp mo lim : Int → Int) (i x : Int) : Prop := ∀ t : Nat, t < n → pp t = i → (lim t < x ↔ mo t = 1)
theorem sl_spec {pp mo lim : Int → Int} {i : Int} : ∀ n : Nat, (∀ t : Nat, t < n → (1 ≤ lim t ∧ lim t ≤ 400) ∧ (mo t = 0 ∨ mo t = 1)) → (1 ≤ sleast n pp mo lim i ∧ sleast n pp mo lim i ≤ 401) ∧ ∀ x : Int, sleast n pp mo lim i ≤ x ↔ (1 ≤ x ∧ ∀ t : Nat, t < n → pp t = i → mo t = 1 → lim t < x)
  | 0, _ => by
    have e : sleast 0 pp mo lim i = 1 := rfl
    rw [e]
    exact ⟨by omega, fun x => ⟨fun h => ⟨h, fun t ht => by omega⟩, fun h => h.1⟩⟩
  | n + 1, h => by
    obtain ⟨h1, h2⟩ := sl_spec (pp := pp) (mo := mo) (lim := lim) (i := i) n (fun t ht => h t (by omega))
    obtain ⟨l1, l2⟩ := h n (by omega)
    have e : sleast (n + 1) pp mo lim i = if pp n = i ∧ mo n ≠ 0 then max (sleast n pp mo lim i) (zw (lim n + 1)) else sleast n pp mo lim i := by
      unfold sleast
      rw [zfor_succ, Nat.zero_add]
    rw [e]
    rw [zw_id (by omega) (by omega)]
    by_cases c : pp n = i ∧ mo n ≠ 0
    · rw [if_pos c]
      refine ⟨by omega, fun x => ?_⟩
      have hx := h2 x
      constructor
      · intro z
        obtain ⟨z1, z2⟩ := hx.mp (by omega)
        refine ⟨z1, fun t ht hp hm => ?_⟩
        rcases Nat.lt_or_ge t n with q | q
        · exact z2 t q hp hm
        · have : t = n := by omega
          subst this
          omega
      · rintro ⟨z1, z2⟩
        have a1 := hx.mpr ⟨z1, fun t ht => z2 t (by omega)⟩
        have a2 := z2 n (by omega) c.1 (by omega)
        omega
    · rw [if_neg c]
      refine ⟨h1, fun x => ?_⟩
      have hx := h2 x
      constructor
      · intro z
        obtain ⟨z1, z2⟩ := hx.mp z
        refine ⟨z1, fun t ht hp hm => ?_⟩
        rcases Nat.lt_or_ge t n with q | q
        · exact z2 t q hp hm
        · have : t = n := by omega
          subst this
          exact absurd ⟨hp, by omega⟩ c
      · rintro ⟨z1, z2⟩
        exact hx.mpr ⟨z1, fun t ht => z2 t (by omega)⟩
theorem sg_spec {pp mo lim : Int → Int} {i : Int} : ∀ n : Nat, (∀ t : Nat, t < n → (1 ≤ lim t ∧ lim t ≤ 400) ∧ (mo t = 0 ∨ mo t = 1)) → (1 ≤ sgrst n pp mo lim i ∧ sgrst n pp mo lim i ≤ 999) ∧ ∀ x : Int, x ≤ sgrst n pp mo lim i ↔ (x ≤ 999 ∧ ∀ t : Nat, t < n → pp t = i → mo t = 0 → x ≤ lim t)
  | 0, _ => by
    have e : sgrst 0 pp mo lim i = 999 := rfl
    rw [e]
    exact ⟨by omega, fun x => ⟨fun h => ⟨h, fun t ht => by omega⟩, fun h => h.1⟩⟩
  | n + 1, h => by
    obtain ⟨h1, h2⟩ := sg_spec (pp := pp) (mo := mo) (lim := lim) (i := i) n (fun t ht => h t (by omega))
    obtain ⟨l1, l2⟩ := h n (by omega)
    have e : sgrst (n + 1) pp mo lim i = if pp n = i ∧ mo n = 0 then min (sgrst n pp mo lim i) (lim n) else sgrst n pp mo lim i := by
      unfold sgrst
      rw [zfor_succ, Nat.zero_add]
    rw [e]
    by_cases c : pp n = i ∧ mo n = 0
    · rw [if_pos c]
      refine ⟨by omega, fun x => ?_⟩
      have hx := h2 x
      constructor
      · intro z
        obtain ⟨z1, z2⟩ := hx.mp (by omega)
        refine ⟨z1, fun t ht hp hm => ?_⟩
        rcases Nat.lt_or_ge t n with q | q
        · exact z2 t q hp hm
        · have : t = n := by omega
          subst this
          omega
      · rintro ⟨z1, z2⟩
        have a1 := hx.mpr ⟨z1, fun t ht => z2 t (by omega)⟩
        have a2 := z2 n (by omega) c.1 c.2
        omega
    · rw [if_neg c]
      refine ⟨h1, fun x => ?_⟩
      have hx := h2 x
      constructor
      · intro z
        obtain ⟨z1, z2⟩ := hx.mp z
        refine ⟨z1, fun t ht hp hm => ?_⟩
        rcases Nat.lt_or_ge t n with q | q
        · exact z2 t q hp hm
        · have : t = n := by omega
          subst this
          exact absurd ⟨hp, hm⟩ c
      · rintro ⟨z1, z2⟩
        exact hx.mpr ⟨z1, fun t ht => z2 t (by omega)⟩
theorem okW_iff {n : Nat} {pp mo lim : Int → Int} {i x : Int} (h : ∀ t : Nat, t < n → (1 ≤ lim t ∧ lim t ≤ 400) ∧ (mo t = 0 ∨ mo t = 1)) (x0 : 1 ≤ x) (x1 : x ≤ 999) : okW n pp mo lim i x ↔ sleast n pp mo lim i ≤ x ∧ x ≤ sgrst n pp mo lim i := by
  rw [(sl_spec n h).2 x, (sg_spec n h).2 x]
  constructor
  · intro z
    refine ⟨⟨x0, fun t ht hp hm => (z t ht hp).mpr hm⟩, x1, fun t ht hp hm => ?_⟩
    have := z t ht hp
    omega
  · rintro ⟨⟨-, z1⟩, -, z2⟩ t ht hp
    constructor
    · intro hl
      rcases (h t ht).2 with q | q
      · have := z2 t ht hp q
        omega
      · exact q
    · exact fun hm => z1 t ht hp hm
/-- the model's rows -/
def mPp (a : Int → Int) : Int → Int := fun t => a (4 * t)
def mMo (a : Int → Int) : Int → Int := fun t => a (4 * t + 3)
def mLi (r : Int) (a : Int → Int) : Int → Int := fun t => a (4 * t + 2) + zint r (a (4 * t + 1))
theorem kX9_isSo {t : Nat} {x : Int} {G : zG} {H : zH} {Q : Option zV → zG → zH → Prop} (hG : zOK G) (ht : t < 12) (r0 : 0 ≤ H 130 6) (r1 : H 130 6 ≤ 99) (n0 : 1 ≤ H 138 (4 * (t : Int) + 1)) (n1 : H 138 (4 * (t : Int) + 1) ≤ 200) (d0 : 1 ≤ H 138 (4 * (t : Int) + 2)) (d1 : H 138 (4 * (t : Int) + 2) ≤ 200) : zCall qX9_isSo [vr 130, vi (t : Int), vi x] G H Q ↔ Q (some (vi (bi (mLi (H 130 6) (H 138) t < x ↔ mMo (H 138) t = 1)))) G H := by
  refine zCall_det (fun Q' hq => ?_)
  have x0 : zw (4 * (t : Int)) = 4 * (t : Int) := zw_id (by omega) (by omega)
  have x1 : zw (4 * (t : Int) + 1) = 4 * (t : Int) + 1 := zw_id (by omega) (by omega)
  have x2 : zw (4 * (t : Int) + 2) = 4 * (t : Int) + 2 := zw_id (by omega) (by omega)
  have x3 : zw (4 * (t : Int) + 3) = 4 * (t : Int) + 3 := zw_id (by omega) (by omega)
  have y1 : 0 ≤ 4 * (t : Int) + 1 ∧ 4 * (t : Int) + 1 < 48 := by omega
  have y2 : 0 ≤ 4 * (t : Int) + 2 ∧ 4 * (t : Int) + 2 < 48 := by omega
  have y3 : 0 ≤ 4 * (t : Int) + 3 ∧ 4 * (t : Int) + 3 < 48 := by omega
  have hz : zdiv (zw (H 138 (4 * (t : Int) + 1) * H 130 6)) 100 = zint (H 130 6) (H 138 (4 * (t : Int) + 1)) := rfl
  have hi := zint_eq r0 r1 (show 0 ≤ H 138 (4 * (t : Int) + 1) by omega) n1
  have el := zw_id (z := H 138 (4 * (t : Int) + 2) + zint (H 130 6) (H 138 (4 * (t : Int) + 1))) (by omega) (by omega)
  rw [rX9_isSo_in]
  simp only [rX9_isSo_0, rX9_isSo_1, rX9_isSo_4, rX9_isSo_5, rX9_isSo_6, rX9_isSo_7, rX9_isSo_8, rX9_isSo_9, rX9_isSo_10, rX9_isSo_11, rX9_isSo_14, rX9_isSo_15, rX9_isSo_16, rX9_isSo_17, rX9_isSo_18, rX9_isSo_19, rX9_isSo_20, rX9_isSo_21, rX9_isSo_24, rX9_isSo_25, rX9_isSo_27, rX9_isSo_28, rX9_isSo_29, rX9_isSo_30, rX9_isSo_31, rX9_isSo_32, rX9_isSo_35, rX9_isSo_36, rX9_isSo_39, rX9_isSo_40, rX9_isSo_41, rX9_isSo_44, rX9_isSo_45, rX9_isSo_46, rX9_isSo_47, rX9_isSo_48, rX9_isSo_49, rX9_isSo_50, rX9_isSo_51, rX9_isSo_54, rX9_isSo_55, rX9_isSo_58, rX9_isSo_59, rX9_isSo_62, rX9_isSo_63, rX9_isSo_66, rX9_isSo_67, true_and, and_true, true_or, or_true, false_or, or_false, Option.toList_some, Option.toList_none, List.nil_append, List.cons_append, zn1, kM hG, x0, x1, x2, x3, y1, y2, y3, hz, el, ne_eq, Int.reduceEq, not_false_eq_true, reduceIte]
  unfold mLi mMo at hq
  by_cases c1 : x ≤ H 138 (4 * (t : Int) + 2) + zint (H 130 6) (H 138 (4 * (t : Int) + 1))
  · rw [if_pos c1]
    by_cases c2 : H 138 (4 * (t : Int) + 3) = 1
    · rw [if_neg (fun z => z c2)]
      rw [bi_f (fun z => by have := z.mpr c2; omega)] at hq
      exact hq
    · rw [if_pos c2]
      rw [bi_t ⟨fun z => by omega, fun z => absurd z c2⟩] at hq
      exact hq
  · rw [if_neg c1]
    by_cases c2 : H 138 (4 * (t : Int) + 3) = 1
    · rw [if_neg (fun z => z c2)]
      rw [bi_t ⟨fun _ => c2, fun _ => by omega⟩] at hq
      exact hq
    · rw [if_pos c2]
      rw [bi_f (fun z => c2 (z.mp (by omega)))] at hq
      exact hq
