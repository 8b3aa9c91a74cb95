/-! rows: the class -/
theorem pow12 {m n : Nat} (hm : m ≤ 12) (hn : n ≤ 4) : m ^ n ≤ 20736 := by
  have h1 : m ^ n ≤ 12 ^ n := Nat.pow_le_pow_left hm n
  have h2 : 12 ^ n ≤ 12 ^ 4 := Nat.pow_le_pow_right (by decide) hn
  exact Nat.le_trans h1 h2
theorem zdn_rows {d : Nat} (h : d ≤ 7) : zdn d qX8_rowsOf = d - 1 := by
  unfold zdn
  rw [if_neg (by show ¬ 7 < d; omega)]
def rtm (m n lo : Nat) (s : Int) (d : Nat) : Nat := if lo ≤ d + 1 then Cn m n (d + 1) (s - ((d + 1 : Nat) : Int)) else 0
theorem krows {m : Nat} {G : zG} {H : zH} (hm : 1 ≤ m) (h12 : m ≤ 12) : ∀ (n d lo : Nat) (s : Int) (Q' : Option zV → zG → zH → Prop), n ≤ 4 → n ≤ d → d ≤ 7 → 1 ≤ lo → lo ≤ m → -1000 ≤ s → s ≤ 1000 → Q' (some (vi (Cn m n lo s : Int))) G H → zCallD d qX8_rowsOf [vi (n : Int), vi (lo : Int), vi (m : Int), vi s] G H Q' := by
  intro n
  induction n with
  | zero =>
    intro d lo s Q' hn hd hd7 l0 l1 s0 s1 hq
    rw [rX8_rowsOf_in]
    simp only [rX8_rowsOf_0, rX8_rowsOf_1, rX8_rowsOf_9, rX8_rowsOf_10, rX8_rowsOf_13, rX8_rowsOf_14, rX8_rowsOf_17, rX8_rowsOf_18, true_and, and_true, true_or, or_true, false_or, or_false, Option.toList_some, Option.toList_none, List.nil_append, List.cons_append, zn1]
    rw [if_pos (by omega)]
    have hq : Q' (some (vi ((if s = 0 then 1 else 0 : Nat) : Int))) G H := hq
    by_cases c : s = 0
    · rw [if_neg (fun z => z c)]
      rw [if_pos c] at hq
      exact hq
    · rw [if_pos c]
      rw [if_neg c] at hq
      exact hq
  | succ n ih =>
    intro d lo s Q' hn hd hd7 l0 l1 s0 s1 hq
    have hnm : ((n + 1 : Nat) : Int) * (m : Int) ≤ 48 := by
      have : (n + 1) * m ≤ 4 * 12 := Nat.mul_le_mul hn h12
      have e : ((n + 1 : Nat) : Int) * (m : Int) = (((n + 1) * m : Nat) : Int) := by rw [Int.natCast_mul]
      omega
    have hnm0 : 0 ≤ ((n + 1 : Nat) : Int) * (m : Int) := Int.mul_nonneg (by omega) (by omega)
    have enm : ((n + 1 : Nat) : Int) * (m : Int) = (((n + 1) * m : Nat) : Int) := by rw [Int.natCast_mul]
    have hC : Cn m (n + 1) lo s = sumN (rtm m n lo s) m := rfl
    have hd1 : 1 ≤ d := by omega
    rw [rX8_rowsOf_in]
    simp only [rX8_rowsOf_0, rX8_rowsOf_1, rX8_rowsOf_4, rX8_rowsOf_5, rX8_rowsOf_6, rX8_rowsOf_19, rX8_rowsOf_20, rX8_rowsOf_21, rX8_rowsOf_22, rX8_rowsOf_23, rX8_rowsOf_26, rX8_rowsOf_27, rX8_rowsOf_28, rX8_rowsOf_29, rX8_rowsOf_31, rX8_rowsOf_32, true_and, and_true, true_or, or_true, false_or, or_false, Option.toList_some, Option.toList_none, List.nil_append, List.cons_append, zn1, zw_id (z := ((n + 1 : Nat) : Int) * (m : Int)) (by omega) (by omega)]
    rw [if_neg (by omega), if_pos (by omega)]
    by_cases c0 : s ≤ ((n + 1 : Nat) : Int) * (m : Int)
    · rw [if_pos c0]
      have fin : ∀ (x : Nat), 1 ≤ x → x ≤ m + 1 → (sumN (rtm m n lo s) (x - 1) : Int) = (Cn m (n + 1) lo s : Int) → zRunD none d qX8_rowsOf 72 [vi ((n + 1 : Nat) : Int), vi (lo : Int), vi (m : Int), vi s, vi (sumN (rtm m n lo s) (x - 1) : Int), vi (x : Int)] [] G H Q' := by
        intro x x0 x1 he
        simp only [rX8_rowsOf_72, rX8_rowsOf_74, true_and, and_true, true_or, or_true, false_or, or_false, Option.toList_some, Option.toList_none, List.nil_append, List.cons_append, zn1]
        rw [he]
        exact hq
      have loop : ∀ (k x : Nat), lo ≤ x → x + k = m + 1 → zRunD none d qX8_rowsOf 34 [vi ((n + 1 : Nat) : Int), vi (lo : Int), vi (m : Int), vi s, vi (sumN (rtm m n lo s) (x - 1) : Int), vi (x : Int)] [] G H Q' := by
        intro k
        induction k with
        | zero =>
          intro x x0 hx
          have e := fin x (by omega) (by omega) (by rw [hC, show x - 1 = m by omega])
          rw [rX8_rowsOf_34]
          simp only [rX8_rowsOf_36, rX8_rowsOf_37]
          rw [if_pos (by omega)]
          exact e
        | succ k ihk =>
          intro x x0 hx
          have hxm : x ≤ m := by omega
          have exn : (x : Int) * ((n + 1 : Nat) : Int) = (((n + 1) * x : Nat) : Int) := by rw [Int.natCast_mul, Int.mul_comm]
          have hxn : (n + 1) * x ≤ 4 * 12 := Nat.mul_le_mul hn (by omega)
          have hxn' : (x : Int) * ((n + 1 : Nat) : Int) ≤ 48 ∧ 0 ≤ (x : Int) * ((n + 1 : Nat) : Int) := by rw [exn]; omega
          by_cases c1 : s < (x : Int) * ((n + 1 : Nat) : Int)
          · have e := fin x (by omega) (by omega) (by
              rw [hC]
              have := sumN_tail (f := rtm m n lo s) (a := x - 1) (m - (x - 1)) (fun j hj => by
                unfold rtm
                split
                · refine Cn_lo n _ _ ?_
                  have h1 : (n + 1) * x ≤ (n + 1) * (j + 1) := Nat.mul_le_mul_left _ (by omega)
                  rw [exn] at c1
                  rw [Nat.add_mul n 1 (j + 1)] at h1
                  omega
                · rfl)
              rw [show x - 1 + (m - (x - 1)) = m by omega] at this
              rw [this])
            rw [rX8_rowsOf_34]
            simp only [rX8_rowsOf_36, rX8_rowsOf_37, rX8_rowsOf_40, rX8_rowsOf_42, rX8_rowsOf_43, rX8_rowsOf_44, rX8_rowsOf_45, true_and, and_true, true_or, or_true, false_or, or_false, Option.toList_some, Option.toList_none, List.nil_append, List.cons_append, zn1, zw_id (z := (x : Int) * ((n + 1 : Nat) : Int)) (by omega) (by omega)]
            rw [if_neg (by omega), if_pos c1]
            exact e
          · have hsx : 0 ≤ s := by omega
            have er : rtm m n lo s (x - 1) = Cn m n x (s - (x : Int)) := by
              unfold rtm
              rw [show x - 1 + 1 = x by omega, if_pos x0]
            have es : sumN (rtm m n lo s) x = sumN (rtm m n lo s) (x - 1) + Cn m n x (s - (x : Int)) := by
              obtain ⟨y, rfl⟩ : ∃ y, x = y + 1 := ⟨x - 1, by omega⟩
              rw [Nat.add_sub_cancel] at er ⊢
              rw [sumN, er]
            have hle : sumN (rtm m n lo s) x ≤ 20736 * 12 := by
              have : ∀ k : Nat, k ≤ 12 → sumN (rtm m n lo s) k ≤ 20736 * k := by
                intro k
                induction k with
                | zero => intro _; exact Nat.le_refl _
                | succ k ihh =>
                  intro hk
                  have h1 := ihh (by omega)
                  have h2 : rtm m n lo s k ≤ 20736 := by
                    unfold rtm
                    split
                    · exact Nat.le_trans (Cn_le hm _ _ _) (pow12 h12 (by omega))
                    · omega
                  rw [sumN]
                  omega
              have := this x (by omega)
              omega
            rw [rX8_rowsOf_34]
            simp only [rX8_rowsOf_36, rX8_rowsOf_37, rX8_rowsOf_40, rX8_rowsOf_42, rX8_rowsOf_43, rX8_rowsOf_44, rX8_rowsOf_45, rX8_rowsOf_48, rX8_rowsOf_50, rX8_rowsOf_51, rX8_rowsOf_52, rX8_rowsOf_53, rX8_rowsOf_55, rX8_rowsOf_56, rX8_rowsOf_57, rX8_rowsOf_59, rX8_rowsOf_60 hd1, true_and, and_true, true_or, or_true, false_or, or_false, Option.toList_some, Option.toList_none, List.nil_append, List.cons_append, zn1, zdn_rows hd7, zw_id (z := (x : Int) * ((n + 1 : Nat) : Int)) (by omega) (by omega), zw_id (z := s - (x : Int)) (by omega) (by omega), show zw (((n + 1 : Nat) : Int) - 1) = (n : Int) by rw [zw_id (by omega) (by omega)]; omega]
            rw [if_neg (by omega), if_neg c1]
            refine ih (d - 1) x (s - (x : Int)) _ (by omega) (by omega) (by omega) (by omega) hxm (by omega) (by omega) ?_
            have go := ihk (x + 1) (by omega) (by omega)
            rw [Nat.add_sub_cancel, es] at go
            simp only [rX8_rowsOf_63, rX8_rowsOf_64, rX8_rowsOf_66, rX8_rowsOf_69, true_and, and_true, true_or, or_true, false_or, or_false, Option.toList_some, Option.toList_none, List.nil_append, List.cons_append, zn1, zwk (show x < 2000000000 by omega), zw_id (z := (sumN (rtm m n lo s) (x - 1) : Int) + (Cn m n x (s - (x : Int)) : Int)) (by omega) (by omega)]
            exact go
      have go := loop (m + 1 - lo) lo (Nat.le_refl _) (by omega)
      have e0 : sumN (rtm m n lo s) (lo - 1) = 0 := sumN_0 _ (fun j hj => by
        unfold rtm
        rw [if_neg (by omega)])
      rw [e0] at go
      exact go
    · rw [if_neg c0]
      rw [Cn_hi (n + 1) lo s (by omega)] at hq
      exact hq
theorem krows7 {m n lo : Nat} {s : Int} {G : zG} {H : zH} {Q' : Option zV → zG → zH → Prop} (hm : 1 ≤ m) (h12 : m ≤ 12) (hn : n ≤ 4) (l0 : 1 ≤ lo) (l1 : lo ≤ m) (s0 : -1000 ≤ s) (s1 : s ≤ 1000) (hq : Q' (some (vi (Cn m n lo s : Int))) G H) : zCall qX8_rowsOf [vi (n : Int), vi (lo : Int), vi (m : Int), vi s] G H Q' := krows hm h12 n 7 lo s Q' hn (by omega) (Nat.le_refl _) l0 l1 s0 s1 hq
theorem gl_step {m n lo : Nat} {s : Int} {p : Nat} {x : Nat} (h : (gl m (n + 1) lo s)[p + 1]? = some x) : (gl m n (gx m n s 12 lo) (s - (gx m n s 12 lo : Int)))[p]? = some x := h
theorem gx_rng {m n : Nat} {s : Int} : ∀ (f x : Nat), x ≤ m → x ≤ gx m n s f x ∧ gx m n s f x ≤ m
  | 0, x, h => ⟨Nat.le_refl _, h⟩
  | f + 1, x, h => by
    rw [gx]
    split
    · have := gx_rng (m := m) (n := n) (s := s) f (x + 1) (by omega)
      omega
    · exact ⟨Nat.le_refl _, h⟩
theorem kfirst {m n : Nat} {s : Int} {i : Nat} {G : zG} {H : zH} {Q' : Option zV → zG → zH → Prop} (hm : 1 ≤ m) (h12 : m ≤ 12) (hn : n ≤ 4) (hi : i < n) (s0 : 0 ≤ s) (s1 : s ≤ 999)
    (hq : ∀ x : Nat, (gl m n 1 s)[i]? = some x → Q' (some (vi (x : Int))) G H) : zCall qX8_numberOfFirstRow [vi (n : Int), vi (m : Int), vi s, vi (i : Int)] G H Q' := by
  rw [rX8_numberOfFirstRow_in]
  simp only [rX8_numberOfFirstRow_0, rX8_numberOfFirstRow_1, rX8_numberOfFirstRow_3, rX8_numberOfFirstRow_4, rX8_numberOfFirstRow_6, rX8_numberOfFirstRow_7, true_and, and_true, true_or, or_true, false_or, or_false, Option.toList_some, Option.toList_none, List.nil_append, List.cons_append, zn1]
  -- one number
  have inner : ∀ (f x p : Nat) (t : Int), p < n → 1 ≤ x → x ≤ m → m ≤ x + f → -100 ≤ t → t ≤ 999 → (∀ y : Nat, y = gx m (n - p - 1) t 12 x → zRun qX8_numberOfFirstRow 47 [vi (n : Int), vi (m : Int), vi s, vi (i : Int), vi (y : Int), vi t, vi (p : Int)] [] G H Q') → (∀ g, f ≤ g → gx m (n - p - 1) t g x = gx m (n - p - 1) t f x) → zRun qX8_numberOfFirstRow 15 [vi (n : Int), vi (m : Int), vi s, vi (i : Int), vi (x : Int), vi t, vi (p : Int)] [] G H Q' ∨ 12 < f := by
    intro f
    induction f with
    | zero =>
      intro x p t hp x0 x1 hf t0 t1 hy hg
      refine Or.inl ?_
      have go := hy x (by rw [hg 12 (by omega)]; rfl)
      rw [rX8_numberOfFirstRow_15]
      simp only [rX8_numberOfFirstRow_17, rX8_numberOfFirstRow_18]
      rw [if_pos (by omega)]
      exact go
    | succ f ih =>
      intro x p t hp x0 x1 hf t0 t1 hy hg
      by_cases h12' : 12 < f + 1
      · exact Or.inr h12'
      refine Or.inl ?_
      have eg : gx m (n - p - 1) t 12 x = gx m (n - p - 1) t (f + 1) x := hg 12 (by omega)
      rw [rX8_numberOfFirstRow_15]
      simp only [rX8_numberOfFirstRow_17, rX8_numberOfFirstRow_18, rX8_numberOfFirstRow_21, rX8_numberOfFirstRow_22, rX8_numberOfFirstRow_24, rX8_numberOfFirstRow_25, rX8_numberOfFirstRow_26, rX8_numberOfFirstRow_27, rX8_numberOfFirstRow_29, rX8_numberOfFirstRow_30, rX8_numberOfFirstRow_32, rX8_numberOfFirstRow_34, rX8_numberOfFirstRow_35, true_and, and_true, true_or, or_true, false_or, or_false, Option.toList_some, Option.toList_none, List.nil_append, List.cons_append, zn1, zw_id (z := (n : Int) - (p : Int)) (by omega) (by omega), zw_id (z := t - (x : Int)) (by omega) (by omega), show zw ((n : Int) - (p : Int) - 1) = ((n - p - 1 : Nat) : Int) by rw [zw_id (by omega) (by omega)]; omega]
      by_cases c1 : (m : Int) ≤ (x : Int)
      · rw [if_pos c1]
        refine hy x ?_
        rw [eg, gx, if_neg (fun z => by omega)]
      · rw [if_neg c1]
        refine krows7 hm h12 (by omega) x0 x1 (by omega) (by omega) ?_
        simp only [rX8_numberOfFirstRow_38, rX8_numberOfFirstRow_41, rX8_numberOfFirstRow_44, true_and, and_true, true_or, or_true, false_or, or_false, Option.toList_some, Option.toList_none, List.nil_append, List.cons_append, zn1, zwk (show x < 2000000000 by omega)]
        by_cases c2 : Cn m (n - p - 1) x (t - (x : Int)) = 0
        · rw [c2, if_neg (by omega)]
          have e1 : ∀ g, gx m (n - p - 1) t (g + 1) x = gx m (n - p - 1) t g (x + 1) := fun g => by rw [gx, if_pos ⟨by omega, c2⟩]
          rcases ih (x + 1) p t hp (by omega) (by omega) (by omega) t0 t1 (fun y hy' => hy y (by
            rw [hy', eg, e1]
            have a := hg (13) (by omega)
            rw [e1, e1] at a
            exact a)) (fun g hgf => by
            have a := hg (g + 1) (by omega)
            rw [e1, e1] at a
            exact a) with h | h
          · exact h
          · omega
        · rw [if_pos (by omega)]
          refine hy x ?_
          rw [eg, gx, if_neg (fun z => c2 z.2)]
  have gx_st : ∀ (f g x k : Nat) (t : Int), x ≤ m → m ≤ x + f → f ≤ g → gx m k t g x = gx m k t f x := by
    intro f
    induction f with
    | zero =>
      intro g x k t hx hf hg
      cases g with
      | zero => rfl
      | succ g =>
        show (if x < m ∧ Cn m k x (t - (x : Int)) = 0 then gx m k t g (x + 1) else x) = x
        rw [if_neg (fun z => by omega)]
    | succ f ih =>
      intro g x k t hx hf hg
      cases g with
      | zero => omega
      | succ g =>
        rw [gx, gx]
        split
        · exact ih g (x + 1) k t (by omega) (by omega) (by omega)
        · rfl
  have outer : ∀ (c p x : Nat) (t : Int), p + c = i + 1 → 1 ≤ x → x ≤ m → -100 ≤ t → t ≤ 999 → (-24 * (p : Int) ≤ t) → (c = 0 → (gl m n 1 s)[i]? = some x) → (∀ k y, (gl m (n - p) x t)[k]? = some y → (gl m n 1 s)[p + k]? = some y) → zRun qX8_numberOfFirstRow 9 [vi (n : Int), vi (m : Int), vi s, vi (i : Int), vi (x : Int), vi t, vi (p : Int)] [] G H Q' := by
    intro c
    induction c with
    | zero =>
      intro p x t hp x0 x1 t0 t1 tp hx hg
      rw [rX8_numberOfFirstRow_9]
      simp only [rX8_numberOfFirstRow_11, rX8_numberOfFirstRow_12, rX8_numberOfFirstRow_60, rX8_numberOfFirstRow_62]
      rw [if_pos (by omega)]
      exact hq x (hx rfl)
    | succ c ih =>
      intro p x t hp x0 x1 t0 t1 tp hx hg
      have hpn : p < n := by omega
      rw [rX8_numberOfFirstRow_9]
      simp only [rX8_numberOfFirstRow_11, rX8_numberOfFirstRow_12]
      rw [if_neg (by omega)]
      have hin : ∀ y : Nat, y = gx m (n - p - 1) t 12 x → zRun qX8_numberOfFirstRow 47 [vi (n : Int), vi (m : Int), vi s, vi (i : Int), vi (y : Int), vi t, vi (p : Int)] [] G H Q' := by
        intro y hy
        have hyr := gx_rng (m := m) (n := n - p - 1) (s := t) 12 x x1
        rw [← hy] at hyr
        simp only [rX8_numberOfFirstRow_47, rX8_numberOfFirstRow_49, rX8_numberOfFirstRow_51, rX8_numberOfFirstRow_52, rX8_numberOfFirstRow_54, rX8_numberOfFirstRow_57, true_and, and_true, true_or, or_true, false_or, or_false, Option.toList_some, Option.toList_none, List.nil_append, List.cons_append, zn1, zw_id (z := t - (y : Int)) (by omega) (by omega), zwk (show p < 2000000000 by omega)]
        have egl : gl m (n - p) x t = y :: gl m (n - (p + 1)) y (t - (y : Int)) := by
          rw [show n - p = (n - (p + 1)) + 1 by omega, gl]
          rw [show n - p - 1 = n - (p + 1) by omega] at hy
          rw [← hy]
        refine ih (p + 1) y (t - (y : Int)) (by omega) (by omega) hyr.2 (by omega) (by omega) (by omega) (fun hc => ?_) (fun k z hk => ?_)
        · have := hg 0 y (by rw [egl]; rfl)
          rw [show p + 0 = i by omega] at this
          exact this
        · have := hg (k + 1) z (by rw [egl]; exact hk)
          rw [show p + (k + 1) = p + 1 + k by omega] at this
          exact this
      rcases inner (m - x) x p t hpn x0 x1 (by omega) t0 t1 hin (fun g hgf => gx_st (m - x) g x _ t x1 (by omega) hgf) with h | h
      · exact h
      · omega
  exact outer (i + 1) 0 1 s (by omega) (by omega) hm (by omega) s1 (by omega) (fun z => by omega) (fun k y hk => by rw [Nat.zero_add]; exact hk)
