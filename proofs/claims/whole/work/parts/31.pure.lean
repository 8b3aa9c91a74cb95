/-! the methods that read nothing but their arguments -/
theorem zw_id {z : Int} (h1 : -2147483648 ≤ z) (h2 : z ≤ 2147483647) : zw z = z := by
  unfold zw
  simp only [Int.bmod]
  split <;> omega
theorem zwl_id {z : Int} (h1 : -9223372036854775808 ≤ z) (h2 : z ≤ 9223372036854775807) : zwl z = z := by
  unfold zwl
  simp only [Int.bmod]
  split <;> omega
/-- one or nought -/
def bi (P : Prop) [Decidable P] : Int := if P then 1 else 0
theorem bi_eq0 {P : Prop} [Decidable P] : bi P = 0 ↔ ¬ P := by
  unfold bi
  split <;> simp_all
theorem bi_eq1 {P : Prop} [Decidable P] : bi P = 1 ↔ P := by
  unfold bi
  split <;> simp_all
theorem bi_ne0 {P : Prop} [Decidable P] : bi P ≠ 0 ↔ P := by
  unfold bi
  split <;> simp_all
theorem bi_t {P : Prop} [Decidable P] (h : P) : bi P = 1 := if_pos h
theorem bi_f {P : Prop} [Decidable P] (h : ¬ P) : bi P = 0 := if_neg h
theorem kX8_within {a b c : Int} {G : zG} {H : zH} {Q : Option zV → zG → zH → Prop} : zCall qX8_within [vi a, vi b, vi c] G H Q ↔ Q (some (vi (bi (b ≤ a ∧ a ≤ c)))) G H := by
  rw [rX8_within_in]
  simp only [rX8_within_0, rX8_within_1, rX8_within_2, rX8_within_5, rX8_within_6, rX8_within_7, rX8_within_10, rX8_within_11, rX8_within_14, rX8_within_15, true_and, and_true, true_or, or_true, false_or, or_false, Option.toList_some, Option.toList_none, List.nil_append, List.cons_append, zn1]
  unfold bi
  repeat' split
  all_goals first | exact Iff.rfl | (exfalso; omega)
theorem kX9_in {a b c : Int} {G : zG} {H : zH} {Q : Option zV → zG → zH → Prop} : zCall qX9_in [vi a, vi b, vi c] G H Q ↔ Q (some (vi (bi (b ≤ a ∧ a ≤ c)))) G H := by
  rw [rX9_in_in]
  simp only [rX9_in_0, rX9_in_1, rX9_in_2, rX9_in_5, rX9_in_6, rX9_in_7, rX9_in_10, rX9_in_11, rX9_in_14, rX9_in_15, true_and, and_true, true_or, or_true, false_or, or_false, Option.toList_some, Option.toList_none, List.nil_append, List.cons_append, zn1]
  unfold bi
  repeat' split
  all_goals first | exact Iff.rfl | (exfalso; omega)
theorem kX9_lesser {a b : Int} {G : zG} {H : zH} {Q : Option zV → zG → zH → Prop} : zCall qX9_lesser [vi a, vi b] G H Q ↔ Q (some (vi (min a b))) G H := by
  rw [rX9_lesser_in]
  simp only [rX9_lesser_0, rX9_lesser_1, rX9_lesser_2, rX9_lesser_5, rX9_lesser_6, rX9_lesser_9, rX9_lesser_10, true_and, and_true, true_or, or_true, false_or, or_false, Option.toList_some, Option.toList_none, List.nil_append, List.cons_append, zn1]
  split
  · rw [Int.min_eq_right (by assumption)]
  · rw [Int.min_eq_left (by omega)]
theorem kX9_isSpan {a : Int} {G : zG} {H : zH} {Q : Option zV → zG → zH → Prop} : zCall qX9_isSpan [vi a] G H Q ↔ Q (some (vi (bi (1 ≤ a ∧ a ≤ 200)))) G H := by
  rw [rX9_isSpan_in]
  simp only [rX9_isSpan_0, rX9_isSpan_1, rX9_isSpan_2, rX9_isSpan_5, rX9_isSpan_8, true_and, and_true, true_or, or_true, false_or, or_false, Option.toList_some, Option.toList_none, List.nil_append, List.cons_append, zn1, kX9_in]
  unfold bi
  split <;> simp
theorem kX8_isLoanOf {a b : Int} {G : zG} {H : zH} {Q : Option zV → zG → zH → Prop} : zCall qX8_isLoanOf [vi a, vi b] G H Q ↔ Q (some (vi (bi ((1 ≤ a ∧ a ≤ 200) ∧ (1 ≤ b ∧ b ≤ 200))))) G H := by
  rw [rX8_isLoanOf_in]
  simp only [rX8_isLoanOf_0, rX8_isLoanOf_1, rX8_isLoanOf_2, rX8_isLoanOf_5, rX8_isLoanOf_8, rX8_isLoanOf_11, rX8_isLoanOf_12, rX8_isLoanOf_13, rX8_isLoanOf_16, rX8_isLoanOf_19, rX8_isLoanOf_22, rX8_isLoanOf_23, rX8_isLoanOf_26, rX8_isLoanOf_27, true_and, and_true, true_or, or_true, false_or, or_false, Option.toList_some, Option.toList_none, List.nil_append, List.cons_append, zn1, kX8_within, bi_eq0]
  unfold bi
  repeat' split
  all_goals first | exact Iff.rfl | (exfalso; omega)
/-- what interest is -/
def zint (r n : Int) : Int := zdiv (zw (n * r)) 100
theorem zdiv_pos {a b : Int} (h0 : 0 ≤ a) (h1 : a ≤ 2147483647) (h2 : 0 < b) (h3 : b ≤ 2147483647) : zdiv a b = a / b := by
  have hq : 0 ≤ a / b := Int.ediv_nonneg h0 (by omega)
  have hq2 : a / b ≤ a := Int.ediv_le_self b h0
  unfold zdiv
  rw [Int32.toInt_div, zt32 (by omega) (by omega), zt32 (by omega) (by omega)]
  rw [Int.tdiv_eq_ediv_of_nonneg h0]
  simp only [Int.bmod]
  split <;> omega
theorem zrem_pos {a b : Int} (h0 : 0 ≤ a) (h1 : a ≤ 2147483647) (h2 : 0 < b) (h3 : b ≤ 2147483647) : zrem a b = a % b := by
  have e := zdiv_pos h0 h1 h2 h3
  have hm := Int.emod_nonneg a (show b ≠ 0 by omega)
  have hm2 := Int.emod_lt_of_pos a h2
  have hd := Int.mul_ediv_add_emod a b
  unfold zdiv at e
  unfold zrem
  rw [Int32.toInt_sub, Int32.toInt_mul, e, zt32 (by omega) (by omega), zt32 (by omega) (by omega)]
  rw [Int.sub_bmod_bmod]
  have : a - a / b * b = a % b := by rw [Int.mul_comm]; omega
  rw [this]
  simp only [Int.bmod]
  split <;> omega
theorem zint_eq {r n : Int} (h0 : 0 ≤ r) (h1 : r ≤ 99) (h2 : 0 ≤ n) (h3 : n ≤ 200) : zint r n = n * r / 100 ∧ 0 ≤ n * r / 100 ∧ n * r / 100 ≤ n := by
  have a1 : 0 ≤ n * r := Int.mul_nonneg h2 h0
  have a2 : n * r ≤ n * 99 := Int.mul_le_mul_of_nonneg_left h1 h2
  have a3 : n * r ≤ 19800 := by omega
  unfold zint
  rw [zw_id (by omega) (by omega), zdiv_pos a1 (by omega) (by omega) (by omega)]
  refine ⟨rfl, Int.ediv_nonneg a1 (by omega), ?_⟩
  omega
theorem zlrem_pos {a b : Int} (h0 : 0 ≤ a) (h1 : a ≤ 9223372036854775807) (h2 : 0 < b) (h3 : b ≤ 9223372036854775807) : zlrem a b = a % b := by
  have hq : 0 ≤ a / b := Int.ediv_nonneg h0 (by omega)
  have hq2 : a / b ≤ a := Int.ediv_le_self b h0
  have hm := Int.emod_nonneg a (show b ≠ 0 by omega)
  have hm2 := Int.emod_lt_of_pos a h2
  have hd := Int.mul_ediv_add_emod a b
  have e : (Int64.ofInt a / Int64.ofInt b).toInt = a / b := by
    rw [Int64.toInt_div, zt64 (by omega) (by omega), zt64 (by omega) (by omega), Int.tdiv_eq_ediv_of_nonneg h0]
    simp only [Int.bmod]
    split <;> omega
  unfold zlrem
  rw [Int64.toInt_sub, Int64.toInt_mul, e, zt64 (by omega) (by omega), zt64 (by omega) (by omega)]
  rw [Int.sub_bmod_bmod]
  have : a - a / b * b = a % b := by rw [Int.mul_comm]; omega
  rw [this]
  simp only [Int.bmod]
  split <;> omega
def zdrx (z t k : Int) : Int := zwl (zwl (zwl (zwl (7919 * z) + zwl (6151 * t)) + zwl (3571 * k)) + 1)
def zdrw (z t k : Int) : Int := zw (zlrem (zwl (zdrx z t k * zdrx z t k)) 65521)
theorem kX8_draw {z t k : Int} {G : zG} {H : zH} {Q : Option zV → zG → zH → Prop} : zCall qX8_draw [vi z, vi t, vi k] G H Q ↔ Q (some (vi (zdrw z t k))) G H := by
  rw [rX8_draw_in]
  simp only [rX8_draw_0, rX8_draw_3, rX8_draw_4, rX8_draw_5, rX8_draw_6, rX8_draw_9, rX8_draw_10, rX8_draw_11, rX8_draw_12, rX8_draw_13, rX8_draw_16, rX8_draw_17, rX8_draw_18, rX8_draw_19, rX8_draw_20, rX8_draw_21, rX8_draw_22, rX8_draw_23, rX8_draw_24, rX8_draw_25, rX8_draw_26, rX8_draw_29, rX8_draw_30, rX8_draw_31, true_and, and_true, true_or, or_true, false_or, or_false, Option.toList_some, Option.toList_none, List.nil_append, List.cons_append, zn1]
  exact ⟨fun h => h.2, fun h => ⟨by decide, h⟩⟩
theorem kX9_draw {z t k : Int} {G : zG} {H : zH} {Q : Option zV → zG → zH → Prop} : zCall qX9_draw [vi z, vi t, vi k] G H Q ↔ Q (some (vi (zdrw z t k))) G H := by
  rw [rX9_draw_in]
  simp only [rX9_draw_0, rX9_draw_3, rX9_draw_4, rX9_draw_5, rX9_draw_6, rX9_draw_9, rX9_draw_10, rX9_draw_11, rX9_draw_12, rX9_draw_13, rX9_draw_16, rX9_draw_17, rX9_draw_18, rX9_draw_19, rX9_draw_20, rX9_draw_21, rX9_draw_22, rX9_draw_23, rX9_draw_24, rX9_draw_25, rX9_draw_26, rX9_draw_29, rX9_draw_30, rX9_draw_31, true_and, and_true, true_or, or_true, false_or, or_false, Option.toList_some, Option.toList_none, List.nil_append, List.cons_append, zn1]
  exact ⟨fun h => h.2, fun h => ⟨by decide, h⟩⟩
theorem zdrw_rng {z t k : Int} (h1 : 0 ≤ z) (h2 : z ≤ 9999) (h3 : 0 ≤ t) (h4 : t ≤ 60) (h5 : 0 ≤ k) (h6 : k ≤ 3) : 0 ≤ zdrw z t k ∧ zdrw z t k < 65521 := by
  have hx : zdrx z t k = 7919 * z + 6151 * t + 3571 * k + 1 := by
    unfold zdrx
    rw [zwl_id (z := 7919 * z) (by omega) (by omega), zwl_id (z := 6151 * t) (by omega) (by omega), zwl_id (z := 3571 * k) (by omega) (by omega)]
    rw [zwl_id (z := 7919 * z + 6151 * t) (by omega) (by omega), zwl_id (z := 7919 * z + 6151 * t + 3571 * k) (by omega) (by omega), zwl_id (by omega) (by omega)]
  unfold zdrw
  rw [hx]
  generalize hg : 7919 * z + 6151 * t + 3571 * k + 1 = x
  have b0 : 0 ≤ x := by omega
  have b1 : x ≤ 79561855 := by omega
  have c0 : 0 ≤ x * x := Int.mul_nonneg b0 b0
  have c1 : x * x ≤ 79561855 * 79561855 := Int.mul_le_mul b1 b1 b0 (by omega)
  rw [zwl_id (by omega) (by omega), zlrem_pos c0 (by omega) (by omega) (by omega)]
  have d0 := Int.emod_nonneg (x * x) (show (65521 : Int) ≠ 0 by omega)
  have d1 := Int.emod_lt_of_pos (x * x) (show (0 : Int) < 65521 by omega)
  rw [zw_id (by omega) (by omega)]
  exact ⟨d0, d1⟩
