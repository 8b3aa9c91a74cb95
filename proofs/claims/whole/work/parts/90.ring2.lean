/-! rings: the class looks for one -/
def MC (H : zH) (o : zMx) : Prop := ∀ x y : Int, 0 ≤ x → x < 6 → 0 ≤ y → y < 6 → H (120 + x.toNat) y = o x y
theorem kRow {G : zG} (hG : zOK G) {i : Int} (i0 : 0 ≤ i) (i1 : i < 6) : zR G 119 i = 120 + i.toNat ∧ zlt G (120 + i.toNat) ∧ zC G (120 + i.toNat) 100 ∧ zlen G (120 + i.toNat) = 6 := by
  obtain ⟨-, -, a0, b0, a1, b1, a2, b2, a3, b3, a4, b4, a5, b5⟩ := sO_119 hG
  have h : i = 0 ∨ i = 1 ∨ i = 2 ∨ i = 3 ∨ i = 4 ∨ i = 5 := by omega
  rcases h with rfl | rfl | rfl | rfl | rfl | rfl
  · exact ⟨a0, b0, sO_120 hG⟩
  · exact ⟨a1, b1, sO_121 hG⟩
  · exact ⟨a2, b2, sO_122 hG⟩
  · exact ⟨a3, b3, sO_123 hG⟩
  · exact ⟨a4, b4, sO_124 hG⟩
  · exact ⟨a5, b5, sO_125 hG⟩
theorem zdn_cl {d : Nat} (h : d ≤ 10) : zdn d qX2_closes = d - 1 := by
  unfold zdn
  rw [if_neg (by show ¬ 10 < d; omega)]
theorem zdn_wi {d : Nat} (h : 3 ≤ d) {as : List zV} {G : zG} {H : zH} {Q : Option zV → zG → zH → Prop} : zCallD (zdn d qX8_within) qX8_within as G H Q = zCall qX8_within as G H Q := by
  unfold zCall zdn
  rw [if_pos (Nat.lt_of_lt_of_le (show zlev qX8_within < 3 by decide) h)]
theorem zdn_pl {d : Nat} (h : 3 ≤ d) {as : List zV} {G : zG} {H : zH} {Q : Option zV → zG → zH → Prop} : zCallD (zdn d qX2_isPlaced) qX2_isPlaced as G H Q = zCall qX2_isPlaced as G H Q := by
  unfold zCall zdn
  rw [if_pos (Nat.lt_of_lt_of_le (show zlev qX2_isPlaced < 3 by decide) h)]
theorem kplaced {i : Int} {p : Nat} {G : zG} {H : zH} {Q' : Option zV → zG → zH → Prop} (hG : zOK G) (hp : p ≤ 6) (h1 : ∀ q : Nat, q < p → H 126 (q : Int) = i → Q' (some (vi 1)) G H) (h0 : (∀ q : Nat, q < p → H 126 (q : Int) ≠ i) → Q' (some (vi 0)) G H) : zCall qX2_isPlaced [vr 118, vi i, vi (p : Int)] G H Q' := by
  have loop : ∀ (m k : Nat), k + m = p → (∀ q : Nat, q < k → H 126 (q : Int) ≠ i) → zRun qX2_isPlaced 2 [vr 118, vi i, vi (p : Int), vi (k : Int)] [] G H Q' := by
    intro m
    induction m with
    | zero =>
      intro k hk hq
      rw [rX2_isPlaced_2]
      simp only [rX2_isPlaced_3, rX2_isPlaced_4]
      rw [if_pos (by omega)]
      simp only [rX2_isPlaced_25, rX2_isPlaced_26, true_and, and_true, true_or, or_true, false_or, or_false, Option.toList_some, Option.toList_none, List.nil_append, List.cons_append, zn1]
      exact h0 (fun q hq' => hq q (by omega))
    | succ m ih =>
      intro k hk hq
      have k6 : (0 : Int) ≤ (k : Int) ∧ (k : Int) < 6 := by omega
      rw [rX2_isPlaced_2]
      simp only [rX2_isPlaced_3, rX2_isPlaced_4]
      rw [if_neg (by omega)]
      simp only [rX2_isPlaced_0, rX2_isPlaced_1, rX2_isPlaced_7, rX2_isPlaced_8, rX2_isPlaced_11, rX2_isPlaced_12, rX2_isPlaced_13, rX2_isPlaced_14, rX2_isPlaced_17, rX2_isPlaced_18, rX2_isPlaced_19, rX2_isPlaced_22, rX2_isPlaced_25, rX2_isPlaced_26, true_and, and_true, true_or, or_true, false_or, or_false, Option.toList_some, Option.toList_none, List.nil_append, List.cons_append, zn1, sO_118 hG, sO_126 hG, k6]
      by_cases c : H 126 (k : Int) = i
      · rw [if_neg (fun z => z c)]
        exact h1 k (by omega) c
      · rw [if_pos c]
        have := ih (k + 1) (by omega) (fun q hq' => by
          by_cases e : q = k
          · rw [e]
            exact c
          · exact hq q (by omega))
        rw [zwk (by omega)]
        exact this
  rw [rX2_isPlaced_in]
  simp only [rX2_isPlaced_0, rX2_isPlaced_1, true_and, and_true, true_or, or_true, false_or, or_false, Option.toList_some, Option.toList_none, List.nil_append, List.cons_append, zn1]
  exact loop p 0 (by omega) (fun q hq => by omega)
theorem MC_126 {H : zH} {o : zMx} {a : Int → Int} (h : MC H o) : MC (zset H 126 a) o := fun x y x0 x1 y0 y1 => by
  rw [zset_ne (by omega)]
  exact h x y x0 x1 y0 y1
theorem blk_div {B x r : Nat} (h : r < B) : (x * B + r) / B = x := by
  rw [Nat.mul_comm, Nat.mul_add_div (by omega), Nat.div_eq_of_lt h, Nat.add_zero]
theorem blk_mod {B x r : Nat} (h : r < B) : (x * B + r) % B = r := by
  rw [Nat.mul_comm, Nat.mul_add_mod, Nat.mod_eq_of_lt h]
theorem blk {B x r : Nat} (h1 : x * B ≤ r) (h2 : r < (x + 1) * B) : r / B = x := by
  rw [Nat.add_mul, Nat.one_mul] at h2
  have : r = x * B + (r - x * B) := by omega
  rw [this]
  exact blk_div (by omega)
theorem kcloses {P : Nat} {o : zMx} {G : zG} (hG : zOK G) (hP : 1 ≤ P) (hP6 : P ≤ 6) : ∀ (n p d : Nat) (H : zH) (Q' : Option zV → zG → zH → Prop), n + p ≤ 6 → 1 ≤ p → n + 4 ≤ d → d ≤ 10 → MC H o → H 118 2 = (P : Int) → (∀ q : Nat, q < p → 0 ≤ H 126 (q : Int) ∧ H 126 (q : Int) < (P : Int)) →
    (∀ a : Int → Int, (∀ q : Nat, q < p → a (q : Int) = H 126 (q : Int)) → (∀ r, r < P ^ n → ¬ rokp o P n p (H 126) r) → Q' (some (vi 0)) G (zset H 126 a)) →
    (∀ (a : Int → Int) (r : Nat), r < P ^ n → rokp o P n p (H 126) r → (∀ r', r' < r → ¬ rokp o P n p (H 126) r') → (∀ q : Nat, q < p → a (q : Int) = H 126 (q : Int)) → (∀ j : Nat, j < n → a ((p + j : Nat) : Int) = (Fg P r (n - 1 - j) : Int)) → Q' (some (vi 1)) G (zset H 126 a)) →
    zCallD d qX2_closes [vr 118, vi (p : Int), vi ((p + n : Nat) : Int)] G H Q' := by
  intro n
  induction n with
  | zero =>
    intro p d H Q' hn p1 hd hd10 hM hp hr h0 h1
    have hd1 : 1 ≤ d := by omega
    have hd3 : 3 ≤ d := by omega
    have hl := hr (p - 1) (by omega)
    have hf := hr 0 (by omega)
    rw [show ((0 : Nat) : Int) = 0 from rfl] at hf
    have e1 : zw ((p : Int) - 1) = ((p - 1 : Nat) : Int) := by rw [zw_id (by omega) (by omega)]; omega
    have k1 : (0 : Int) ≤ ((p - 1 : Nat) : Int) ∧ ((p - 1 : Nat) : Int) < 6 := by clear e1; omega
    have kl : 0 ≤ H 126 ((p - 1 : Nat) : Int) ∧ H 126 ((p - 1 : Nat) : Int) < 6 := by clear e1; omega
    have kf : 0 ≤ H 126 0 ∧ H 126 0 < 6 := by clear e1; omega
    have w : (1 : Int) ≤ (p : Int) ∧ (p : Int) ≤ 6 := by clear e1; omega
    have k0 : (0 : Int) ≤ 0 ∧ (0 : Int) < 6 := by decide
    rw [rX2_closes_in]
    simp only [rX2_closes_0, rX2_closes_1, rX2_closes_2, rX2_closes_4 hd1, zdn_wi hd3, kX8_within, rX2_closes_7, bi_ne0, true_and, and_true, true_or, or_true, false_or, or_false, Option.toList_some, Option.toList_none, List.nil_append, List.cons_append, zn1, w]
    simp only [and_self, if_true, rX2_closes_12, rX2_closes_13, rX2_closes_16, rX2_closes_17, rX2_closes_18, rX2_closes_19, rX2_closes_20, rX2_closes_21, rX2_closes_22, rX2_closes_23, true_and, and_true, true_or, or_true, false_or, or_false, Option.toList_some, Option.toList_none, List.nil_append, List.cons_append, zn1, sO_118 hG, sO_126 hG, e1, k1]
    rw [if_pos (by clear e1; omega)]
    simp only [rX2_closes_32, rX2_closes_33, rX2_closes_36, rX2_closes_37, rX2_closes_38, rX2_closes_39, rX2_closes_42, rX2_closes_43, rX2_closes_44, rX2_closes_45, rX2_closes_48, rX2_closes_49, rX2_closes_52, rX2_closes_53, true_and, and_true, true_or, or_true, false_or, or_false, Option.toList_some, Option.toList_none, List.nil_append, List.cons_append, zn1, sO_118 hG, sO_119 hG, sO_126 hG, kRow hG kl.1 kl.2, kl, kf, k0, Int.le_refl]
    rw [hM _ _ kl.1 kl.2 kf.1 kf.2]
    by_cases c : o (H 126 ((p - 1 : Nat) : Int)) (H 126 0) ≤ 0
    · have := h0 (H 126) (fun _ _ => rfl) (fun r _ z => by
        have z : 0 < o (H 126 ((p - 1 : Nat) : Int)) (H 126 0) := z
        clear e1
        omega)
      rw [zset_self] at this
      simp [c, this]
    · have := h1 (H 126) 0 (Nat.pow_pos hP) (show 0 < o (H 126 ((p - 1 : Nat) : Int)) (H 126 0) by clear e1; omega) (fun r' h => by omega) (fun _ _ => rfl) (fun j h => by omega)
      rw [zset_self] at this
      simp [c, this]
  | succ n ih =>
    intro p d H Q' hn p1 hd hd10 hM hp hr h0 h1
    have hB : 0 < P ^ n := Nat.pow_pos hP
    have hd1 : 1 ≤ d := by omega
    have hd3 : 3 ≤ d := by omega
    have hl := hr (p - 1) (by omega)
    have hf := hr 0 (by omega)
    rw [show ((0 : Nat) : Int) = 0 from rfl] at hf
    obtain ⟨f, ef⟩ : ∃ f : Nat, H 126 0 = (f : Int) := ⟨(H 126 0).toNat, by omega⟩
    have k1 : (0 : Int) ≤ ((p - 1 : Nat) : Int) ∧ ((p - 1 : Nat) : Int) < 6 := by omega
    have kl : 0 ≤ H 126 ((p - 1 : Nat) : Int) ∧ H 126 ((p - 1 : Nat) : Int) < 6 := by omega
    have w : (1 : Int) ≤ (p : Int) ∧ (p : Int) ≤ 6 := by omega
    have k0 : (0 : Int) ≤ 0 ∧ (0 : Int) < 6 := by decide
    have kp : (0 : Int) ≤ (p : Int) ∧ (p : Int) < 6 := by omega
    have elen : p + (n + 1) = p + 1 + n := by omega
    have c1 : ¬ (((p + 1 + n : Nat) : Int) ≤ (p : Int)) := by omega
    have c2 : (p : Int) < 6 := by omega
    rw [elen]
    have key : ∀ {x r : Nat}, x * P ^ n ≤ r → r < (x + 1) * P ^ n → rokp o P (n + 1) p (H 126) r → ((f : Int) < (x : Int) ∧ 0 < o (H 126 ((p - 1 : Nat) : Int)) (x : Int) ∧ ∀ q : Nat, q < p → H 126 (q : Int) ≠ (x : Int)) ∧ rokp o P n (p + 1) (zfu (H 126) (p : Int) (x : Int)) (r % P ^ n) := by
      intro x r r0 r1 h
      have e := blk r0 r1
      rw [rokp, e, ef] at h
      exact h
    have loop : ∀ (m x : Nat) (a : Int → Int), f < x → x + m = P → (∀ q : Nat, q < p → a (q : Int) = H 126 (q : Int)) → (∀ r, r < x * P ^ n → ¬ rokp o P (n + 1) p (H 126) r) → zRunD none d qX2_closes 64 [vr 118, vi (p : Int), vi ((p + 1 + n : Nat) : Int), vi (H 126 ((p - 1 : Nat) : Int)), vi (x : Int)] [] G (zset H 126 a) Q' := by
      intro m
      induction m with
      | zero =>
        intro x a hx hm ha hno
        have hc : (P : Int) ≤ (x : Int) := by omega
        have := h0 a ha (fun r hr' => hno r (by rw [show x = P by omega, Nat.mul_comm, ← Nat.pow_succ]; exact hr'))
        rw [rX2_closes_64]
        simp only [rX2_closes_66, rX2_closes_67, rX2_closes_70, true_and, and_true, true_or, or_true, false_or, or_false, Option.toList_some, Option.toList_none, List.nil_append, List.cons_append, zn1, sO_118 hG, zset_ne (show 118 ≠ 126 by decide), hp]
        rw [if_pos hc]
        simp only [rX2_closes_122, rX2_closes_123, true_and, and_true, true_or, or_true, false_or, or_false, Option.toList_some, Option.toList_none, List.nil_append, List.cons_append, zn1]
        exact this
      | succ m ihm =>
        intro x a hx hm ha hno
        have hc : ¬ ((P : Int) ≤ (x : Int)) := by omega
        have kx : (0 : Int) ≤ (x : Int) ∧ (x : Int) < 6 := by omega
        -- on to the next one
        have on : ∀ b : Int → Int, (∀ q : Nat, q < p → b (q : Int) = H 126 (q : Int)) → (∀ r, x * P ^ n ≤ r → r < (x + 1) * P ^ n → ¬ rokp o P (n + 1) p (H 126) r) → zRunD none d qX2_closes 116 [vr 118, vi (p : Int), vi ((p + 1 + n : Nat) : Int), vi (H 126 ((p - 1 : Nat) : Int)), vi (x : Int)] [] G (zset H 126 b) Q' := by
          intro b hb hnb
          have := ihm (x + 1) b (by omega) (by omega) hb (fun r hr' => by
            rcases Nat.lt_or_ge r (x * P ^ n) with z | z
            · exact hno r z
            · exact hnb r z hr')
          simp only [rX2_closes_116, rX2_closes_119, true_and, and_true, true_or, or_true, false_or, or_false, Option.toList_some, Option.toList_none, List.nil_append, List.cons_append, zn1, zwk (show x < 2000000000 by omega)]
          exact this
        have eM : zset H 126 a (120 + (H 126 ((p - 1 : Nat) : Int)).toNat) (x : Int) = o (H 126 ((p - 1 : Nat) : Int)) (x : Int) := by
          rw [zset_ne (by omega)]
          exact hM _ _ kl.1 kl.2 kx.1 kx.2
        rw [rX2_closes_64]
        simp only [rX2_closes_66, rX2_closes_67, rX2_closes_70, true_and, and_true, true_or, or_true, false_or, or_false, Option.toList_some, Option.toList_none, List.nil_append, List.cons_append, zn1, sO_118 hG, zset_ne (show 118 ≠ 126 by decide), hp]
        rw [if_neg hc]
        simp only [rX2_closes_73, rX2_closes_74, rX2_closes_77, rX2_closes_78, rX2_closes_79, rX2_closes_81, rX2_closes_82, true_and, and_true, true_or, or_true, false_or, or_false, Option.toList_some, Option.toList_none, List.nil_append, List.cons_append, zn1, sO_118 hG, sO_119 hG, kRow hG kl.1 kl.2, kl, kx, eM]
        by_cases c : o (H 126 ((p - 1 : Nat) : Int)) (x : Int) ≤ 0
        · rw [if_pos c]
          exact on a ha (fun r r0 r1 z => by
            have := (key r0 r1 z).1.2.1
            omega)
        · rw [if_neg c]
          simp only [rX2_closes_85, rX2_closes_86, rX2_closes_88, rX2_closes_89 hd1, zdn_pl hd3, true_and, and_true, true_or, or_true, false_or, or_false, Option.toList_some, Option.toList_none, List.nil_append, List.cons_append, zn1, sO_118 hG]
          refine kplaced hG (by omega) (fun q hq e => ?_) (fun hnp => ?_)
          · rw [zset_eq, ha q hq] at e
            simp only [rX2_closes_92, true_and, and_true, true_or, or_true, false_or, or_false, Option.toList_some, Option.toList_none, List.nil_append, List.cons_append, zn1, ne_eq, Int.reduceEq, not_false_eq_true, if_true]
            exact on a ha (fun r r0 r1 z => (key r0 r1 z).1.2.2 q hq e)
          · rw [zset_eq] at hnp
            have hnp' : ∀ q : Nat, q < p → H 126 (q : Int) ≠ (x : Int) := fun q hq => by
              rw [← ha q hq]
              exact hnp q hq
            have hag : ∀ q : Nat, q < p + 1 → zfu a (p : Int) (x : Int) (q : Int) = zfu (H 126) (p : Int) (x : Int) (q : Int) := fun q hq => by
              rw [zfu_at, zfu_at]
              by_cases e : q = p
              · rw [if_pos (by omega), if_pos (by omega)]
              · rw [if_neg (by omega), if_neg (by omega)]
                exact ha q (by omega)
            have hrg : ∀ q : Nat, q < p + 1 → 0 ≤ zfu a (p : Int) (x : Int) (q : Int) ∧ zfu a (p : Int) (x : Int) (q : Int) < (P : Int) := fun q hq => by
              rw [zfu_at]
              by_cases e : q = p
              · rw [if_pos (by omega)]
                omega
              · rw [if_neg (by omega), ha q (by omega)]
                exact hr q (by omega)
            have hlow : ∀ (b : Int → Int), (∀ q : Nat, q < p + 1 → b (q : Int) = zfu a (p : Int) (x : Int) (q : Int)) → ∀ q : Nat, q < p → b (q : Int) = H 126 (q : Int) := fun b hb q hq => by
              rw [hb q (by omega), zfu_at, if_neg (by omega)]
              exact ha q hq
            simp only [rX2_closes_92, true_and, and_true, true_or, or_true, false_or, or_false, Option.toList_some, Option.toList_none, List.nil_append, List.cons_append, zn1, ne_eq, not_true_eq_false, if_false, rX2_closes_95, rX2_closes_96, rX2_closes_99, rX2_closes_100, rX2_closes_102, rX2_closes_103, rX2_closes_104, rX2_closes_105, rX2_closes_106, rX2_closes_107, rX2_closes_108 hd1, zdn_cl hd10, sO_118 hG, sO_126 hG, kp, zup_def, zset_eq, zset_set, zwk (show p < 2000000000 by omega)]
            refine ih (p + 1) (d - 1) (zset H 126 (zfu a (p : Int) (x : Int))) _ (by omega) (by omega) (by omega) (by omega) (MC_126 hM) (by rw [zset_ne (by decide)]; exact hp) (fun q hq => by rw [zset_eq]; exact hrg q hq) (fun b hb hnone => ?_) (fun b r hr1 hok hleast hb hdig => ?_)
            · rw [zset_eq] at hb hnone
              simp only [rX2_closes_111, true_and, and_true, true_or, or_true, false_or, or_false, Option.toList_some, Option.toList_none, List.nil_append, List.cons_append, zn1, if_true, zset_set]
              exact on b (hlow b hb) (fun r r0 r1 z => hnone (r % P ^ n) (Nat.mod_lt _ hB) (rokp_congr n (p + 1) _ _ _ (by omega) (fun q hq => (hag q hq).symm) (key r0 r1 z).2))
            · rw [zset_eq] at hb hok hleast
              have e1 : (x * P ^ n + r) / P ^ n = x := blk_div hr1
              have e2 : (x * P ^ n + r) % P ^ n = r := blk_mod hr1
              have hlt : x * P ^ n + r < P ^ (n + 1) := by
                have a1 : (x + 1) * P ^ n ≤ P * P ^ n := Nat.mul_le_mul_right _ (by omega)
                rw [Nat.add_mul, Nat.one_mul] at a1
                rw [Nat.pow_succ, Nat.mul_comm (P ^ n) P]
                omega
              have := h1 b (x * P ^ n + r) hlt (by
                rw [rokp, e1, e2, ef]
                exact ⟨⟨by omega, by omega, hnp'⟩, rokp_congr n (p + 1) _ _ _ (by omega) hag hok⟩) (fun r' hr' z => by
                rcases Nat.lt_or_ge r' (x * P ^ n) with y | y
                · exact hno r' y z
                · have r1 : r' < (x + 1) * P ^ n := by
                    rw [Nat.add_mul, Nat.one_mul]
                    omega
                  have e3 : r' % P ^ n = r' - x * P ^ n := by
                    have := blk_mod (B := P ^ n) (x := x) (r := r' - x * P ^ n) (by omega)
                    rw [show x * P ^ n + (r' - x * P ^ n) = r' by omega] at this
                    exact this
                  have h2 := (key y r1 z).2
                  rw [e3] at h2
                  exact hleast (r' - x * P ^ n) (by omega) (rokp_congr n (p + 1) _ _ _ (by omega) (fun q hq => (hag q hq).symm) h2)) (hlow b hb) (fun j hj => by
                by_cases e : j = 0
                · subst e
                  rw [Nat.add_zero, show n + 1 - 1 - 0 = n by omega, Fg_top hlt, e1, hb p (by omega), zfu_at, if_pos rfl]
                · have := hdig (j - 1) (by omega)
                  rw [show p + 1 + (j - 1) = p + j by omega] at this
                  rw [this, ← Fg_mod (r := x * P ^ n + r) (n := n) (by omega), e2, show n + 1 - 1 - j = n - 1 - (j - 1) by omega])
              simp only [rX2_closes_111, true_and, and_true, true_or, or_true, false_or, or_false, Option.toList_some, Option.toList_none, List.nil_append, List.cons_append, zn1, Int.reduceEq, if_false, rX2_closes_114, rX2_closes_115, zset_set]
              exact this
    have e1 : zw ((p : Int) - 1) = ((p - 1 : Nat) : Int) := by rw [zw_id (by omega) (by omega)]; omega
    have go := loop (P - (f + 1)) (f + 1) (H 126) (by omega) (by clear e1; omega) (fun _ _ => rfl) (fun r hr' z => by
      rw [rokp, ef] at z
      have h2 : r / P ^ n < f + 1 := Nat.div_lt_of_lt_mul (by rw [Nat.mul_comm]; exact hr')
      have h3 := z.1.1
      clear e1
      omega)
    rw [zset_self] at go
    rw [rX2_closes_in]
    simp only [rX2_closes_0, rX2_closes_1, rX2_closes_2, rX2_closes_4 hd1, zdn_wi hd3, kX8_within, rX2_closes_7, bi_ne0, true_and, and_true, true_or, or_true, false_or, or_false, Option.toList_some, Option.toList_none, List.nil_append, List.cons_append, zn1, w]
    simp only [and_self, if_true, rX2_closes_12, rX2_closes_13, rX2_closes_16, rX2_closes_17, rX2_closes_18, rX2_closes_19, rX2_closes_20, rX2_closes_21, rX2_closes_22, rX2_closes_23, true_and, and_true, true_or, or_true, false_or, or_false, Option.toList_some, Option.toList_none, List.nil_append, List.cons_append, zn1, sO_118 hG, sO_126 hG, e1, k1]
    rw [if_neg c1]
    simp only [rX2_closes_26, rX2_closes_27, rX2_closes_29]
    rw [if_pos c2]
    simp only [rX2_closes_54, rX2_closes_55, rX2_closes_58, rX2_closes_59, rX2_closes_60, rX2_closes_61, rX2_closes_62, true_and, and_true, true_or, or_true, false_or, or_false, Option.toList_some, Option.toList_none, List.nil_append, List.cons_append, zn1, sO_118 hG, sO_126 hG, k0, Int.le_refl, ef, zwk (show f < 2000000000 by clear e1; omega)]
    exact go
