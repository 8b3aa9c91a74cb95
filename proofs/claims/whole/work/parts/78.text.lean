/-! a text is read -/
def scan (t : Int → Int) (len : Nat) : Nat → Nat → Int → Nat × Int
  | 0, p, v => (p, v)
  | f + 1, p, v => if p < len ∧ (48 ≤ t p ∧ t p ≤ 57) then scan t len f (p + 1) (10 * v + t p - 48) else (p, v)
theorem scan_ge {t : Int → Int} {len : Nat} : ∀ (f p : Nat) (v : Int), p ≤ (scan t len f p v).1 ∧ (scan t len f p v).1 ≤ p + f
  | 0, p, v => ⟨Nat.le_refl _, Nat.le_refl _⟩
  | f + 1, p, v => by
    rw [scan]
    split
    · have := scan_ge (t := t) (len := len) f (p + 1) (10 * v + t p - 48)
      omega
    · exact ⟨Nat.le_refl _, by omega⟩
theorem scan_rng {t : Int → Int} {len : Nat} {p : Nat} : 0 ≤ (scan t len 3 p 0).2 ∧ (scan t len 3 p 0).2 ≤ 999 := by
  simp only [scan]
  repeat' split
  all_goals simp only []
  all_goals omega
abbrev zD : Type := Nat × (Int → Int) × Int × Int × Int
def well (D : zD) (c v : Int) : Prop := (c = 112 ∧ ((1 ≤ v ∧ v ≤ 999) ∧ D.1 < 6)) ∨ (c = 114 ∧ v < 100) ∨ (c = 107 ∧ v < 4) ∨ (c = 110 ∧ v < 3)
def updD (D : zD) (c v : Int) : zD := if c = 112 then (D.1 + 1, zfu D.2.1 D.1 v, D.2.2.1, D.2.2.2.1, D.2.2.2.2) else if c = 114 then (D.1, D.2.1, v, D.2.2.2.1, D.2.2.2.2) else if c = 107 then (D.1, D.2.1, D.2.2.1, v, D.2.2.2.2) else (D.1, D.2.1, D.2.2.1, D.2.2.2.1, v)
def itok (t : Int → Int) (len a : Nat) (D : zD) : Prop := (a + 1 < (scan t len 3 (a + 1) 0).1 ∧ (scan t len 3 (a + 1) 0).1 < len ∧ t ((scan t len 3 (a + 1) 0).1 : Nat) = 59) ∧ well D (t a) (scan t len 3 (a + 1) 0).2
theorem itok_dec (t : Int → Int) (len a : Nat) (D : zD) : itok t len a D ∨ ¬ itok t len a D := Classical.em _
/-- from a place on: the first fault or none, and what is said -/
noncomputable def prs (t : Int → Int) (len : Nat) : Nat → Nat → zD → Int × zD
  | 0, _, D => (-4, D)
  | f + 1, a, D => if a < len then (@ite _ (itok t len a D) (Classical.propDecidable _) (prs t len f ((scan t len 3 (a + 1) 0).1 + 1) (updD D (t a) (scan t len 3 (a + 1) 0).2)) ((a : Int), D)) else (-4, D)
theorem prs_y {t : Int → Int} {len f a : Nat} {D : zD} (ha : a < len) (h : itok t len a D) : prs t len (f + 1) a D = prs t len f ((scan t len 3 (a + 1) 0).1 + 1) (updD D (t a) (scan t len 3 (a + 1) 0).2) := by
  rw [prs, if_pos ha]
  exact if_pos h
theorem prs_n {t : Int → Int} {len f a : Nat} {D : zD} (ha : a < len) (h : ¬ itok t len a D) : prs t len (f + 1) a D = ((a : Int), D) := by
  rw [prs, if_pos ha]
  exact if_neg h
theorem prs_e {t : Int → Int} {len f a : Nat} {D : zD} (ha : ¬ a < len) : prs t len (f + 1) a D = (-4, D) := by
  rw [prs, if_neg ha]
/-- terms as they may be -/
def DOK (D : zD) : Prop := (D.1 ≤ 6 ∧ ∀ p : Int, 0 ≤ p → p < (D.1 : Int) → 1 ≤ D.2.1 p ∧ D.2.1 p ≤ 999) ∧ (0 ≤ D.2.2.1 ∧ D.2.2.1 ≤ 99) ∧ (0 ≤ D.2.2.2.1 ∧ D.2.2.2.1 ≤ 3) ∧ (0 ≤ D.2.2.2.2 ∧ D.2.2.2.2 ≤ 2)
theorem updD_ok {D : zD} {c v : Int} (h : DOK D) (v0 : 0 ≤ v) (hw : well D c v) : DOK (updD D c v) := by
  obtain ⟨⟨h1, h2⟩, h3, h4, h5⟩ := h
  unfold updD
  rcases hw with ⟨rfl, hv, h6⟩ | ⟨rfl, hv⟩ | ⟨rfl, hv⟩ | ⟨rfl, hv⟩
  · rw [if_pos rfl]
    refine ⟨⟨by show D.1 + 1 ≤ 6; omega, fun p p0 p1 => ?_⟩, h3, h4, h5⟩
    have p1 : p < ((D.1 + 1 : Nat) : Int) := p1
    show 1 ≤ zfu D.2.1 D.1 v p ∧ zfu D.2.1 D.1 v p ≤ 999
    rw [zfu_at]
    split
    · exact hv
    · exact h2 p p0 (by omega)
  · rw [if_neg (by omega), if_pos rfl]
    exact ⟨⟨h1, h2⟩, ⟨v0, by show v ≤ 99; omega⟩, h4, h5⟩
  · rw [if_neg (by omega), if_neg (by omega), if_pos rfl]
    exact ⟨⟨h1, h2⟩, h3, ⟨v0, by show v ≤ 3; omega⟩, h5⟩
  · rw [if_neg (by omega), if_neg (by omega), if_neg (by omega)]
    exact ⟨⟨h1, h2⟩, h3, h4, ⟨v0, by show v ≤ 2; omega⟩⟩
theorem prs_ok {t : Int → Int} {len : Nat} : ∀ (f a : Nat) {D : zD}, DOK D → DOK (prs t len f a D).2
  | 0, a, D, h => h
  | f + 1, a, D, h => by
    by_cases c : a < len
    · by_cases c2 : itok t len a D
      · rw [prs_y c c2]
        exact prs_ok f _ (updD_ok h scan_rng.1 c2.2)
      · rw [prs_n c c2]
        exact h
    · rw [prs_e c]
      exact h
/-! the class -/
def dC (H : zH) (D : zD) : Prop := H 5 1 = (D.1 : Int) ∧ (∀ p : Int, 0 ≤ p → p < (D.1 : Int) → H 6 p = D.2.1 p) ∧ H 5 2 = D.2.2.1 ∧ H 5 3 = D.2.2.2.1 ∧ H 5 4 = D.2.2.2.2
theorem kX5_readItem {a len : Nat} {G : zG} {H : zH} {Q' : Option zV → zG → zH → Prop} (hG : zOK G) (hl : H 1 1 = (len : Int)) (h3 : len ≤ 300) (ha : a < len) (hb : ∀ k : Int, 0 ≤ k → k < (len : Int) → 0 ≤ H 2 k ∧ H 2 k ≤ 255)
    (hq : ∀ H' : zH, (∀ b, b ≠ 1 → H' b = H b) → H' 1 1 = H 1 1 → H' 1 2 = H 2 a → H' 1 3 = (scan (H 2) len 3 (a + 1) 0).2 → H' 1 4 = ((scan (H 2) len 3 (a + 1) 0).1 : Int) + 1 → Q' (some (vi (bi (a + 1 < (scan (H 2) len 3 (a + 1) 0).1 ∧ (scan (H 2) len 3 (a + 1) 0).1 < len ∧ H 2 ((scan (H 2) len 3 (a + 1) 0).1 : Nat) = 59)))) G H') : zCall qX5_readItem [vr 1, vi (a : Int)] G H Q' := by
  have el := zw_id (z := (len : Int) - 1) (by omega) (by omega)
  have ca : (0 : Int) ≤ a ∧ (a : Int) < 300 := by omega
  have ea3 : zw ((a : Int) + 3) = (a : Int) + 3 := zw_id (by omega) (by omega)
  have hsc := scan_ge (t := H 2) (len := len) 3 (a + 1) 0
  rw [rX5_readItem_in]
  simp only [rX5_readItem_0, rX5_readItem_1, rX5_readItem_2, rX5_readItem_3, rX5_readItem_6, rX5_readItem_7, rX5_readItem_8, rX5_readItem_11, rX5_readItem_16, rX5_readItem_17, rX5_readItem_18, rX5_readItem_21, rX5_readItem_22, rX5_readItem_23, rX5_readItem_26, rX5_readItem_27, rX5_readItem_28, rX5_readItem_31, rX5_readItem_32, rX5_readItem_33, rX5_readItem_34, true_and, and_true, true_or, or_true, false_or, or_false, Option.toList_some, Option.toList_none, List.nil_append, List.cons_append, zn1, kTx hG, kX8_within, bi_ne0, hl, el, zwk (show a < 2000000000 by omega), ca, zup_def, zset_set, zset_eq]
  rw [if_pos (show (a : Int) ≤ (len : Int) - 1 by omega)]
  generalize hH1 : zset H 1 (zfu (zfu (H 1) 2 (H 2 a)) 3 0) = H1
  have f1 : ∀ b, b ≠ 1 → H1 b = H b := fun b hb => by rw [← hH1, zset_ne hb]
  have g1 : ∀ q : Int, q ≠ 2 → q ≠ 3 → H1 1 q = H 1 q := fun q q1 q2 => by rw [← hH1, zset_eq, zfu_at, if_neg q2, zfu_at, if_neg q1]
  have g2 : H1 1 2 = H 2 a := by rw [← hH1, zset_eq, zfu_at, if_neg (by omega), zfu_at, if_pos rfl]
  have g3 : H1 1 3 = 0 := by rw [← hH1, zset_eq, zfu_at, if_pos rfl]
  -- the end
  have fin : ∀ (H2 : zH) (p : Nat) (v : Int), (p, v) = scan (H 2) len 3 (a + 1) 0 → (∀ b, b ≠ 1 → H2 b = H b) → H2 1 1 = H 1 1 → H2 1 2 = H 2 a → H2 1 3 = v → zRun qX5_readItem 93 [vr 1, vi (a : Int), vi (p : Int)] [] G H2 Q' := by
    intro H2 p v hpv f2 k1 k2 k3
    rw [← hpv] at hq hsc
    dsimp only at hq hsc
    have k11 : H2 1 1 = (len : Int) := by rw [k1]; exact hl
    have k22 : H2 2 = H 2 := f2 2 (by omega)
    simp only [rX5_readItem_93, rX5_readItem_94, rX5_readItem_95, rX5_readItem_96, rX5_readItem_97, rX5_readItem_100, rX5_readItem_101, rX5_readItem_102, rX5_readItem_103, rX5_readItem_104, rX5_readItem_107, rX5_readItem_108, rX5_readItem_109, rX5_readItem_112, rX5_readItem_115, rX5_readItem_116, rX5_readItem_119, rX5_readItem_120, rX5_readItem_121, rX5_readItem_123, rX5_readItem_126, rX5_readItem_127, rX5_readItem_130, rX5_readItem_131, true_and, and_true, true_or, or_true, false_or, or_false, Option.toList_some, Option.toList_none, List.nil_append, List.cons_append, zn1, kTx hG, zup_def, zset_at, zfu_at, Nat.reduceEqDiff, Int.reduceEq, reduceIte, zwk (show a < 2000000000 by omega), zwk (show p < 2000000000 by omega), k11, k22]
    have fin2 := hq (zset H2 1 (zfu (H2 1) 4 ((p + 1 : Nat) : Int))) (fun b hb => by rw [zset_ne hb]; exact f2 b hb) (by rw [zset_eq, zfu_at, if_neg (by omega)]; exact k1) (by rw [zset_eq, zfu_at, if_neg (by omega)]; exact k2) (by rw [zset_eq, zfu_at, if_neg (by omega)]; exact k3) (by rw [zset_eq, zfu_at, if_pos rfl]; omega)
    by_cases c1 : (p : Int) ≤ ((a + 1 : Nat) : Int)
    · rw [if_pos c1]
      rw [bi_f (fun z => by omega)] at fin2
      exact fin2
    · rw [if_neg c1]
      by_cases c2 : (len : Int) ≤ (p : Int)
      · rw [if_pos c2]
        rw [bi_f (fun z => by omega)] at fin2
        exact fin2
      · rw [if_neg c2]
        refine ⟨by omega, ?_⟩
        by_cases c3 : H 2 p = 59
        · rw [if_neg (fun z => z c3)]
          rw [bi_t ⟨by omega, by omega, c3⟩] at fin2
          exact fin2
        · rw [if_pos c3]
          rw [bi_f (fun z => c3 z.2.2)] at fin2
          exact fin2
  have loop : ∀ (f p : Nat) (v : Int) (H2 : zH), f ≤ 3 → p + f = a + 4 → (0 ≤ v ∧ v ≤ 999) → (f = 3 → v = 0) → (f = 2 → v ≤ 9) → (f = 1 → v ≤ 99) → scan (H 2) len f p v = scan (H 2) len 3 (a + 1) 0 → (∀ b, b ≠ 1 → H2 b = H b) → H2 1 1 = H 1 1 → H2 1 2 = H 2 a → H2 1 3 = v → zRun qX5_readItem 35 [vr 1, vi (a : Int), vi (p : Int)] [] G H2 Q' := by
    intro f
    induction f with
    | zero =>
      intro p v H2 hf hp hv _ _ _ hs f2 k1 k2 k3
      have k11 : H2 1 1 = (len : Int) := by rw [k1]; exact hl
      have e := fin H2 p v hs f2 k1 k2 k3
      rw [rX5_readItem_35]
      simp only [rX5_readItem_36, rX5_readItem_37, rX5_readItem_40, rX5_readItem_43, rX5_readItem_44, rX5_readItem_45, rX5_readItem_46, rX5_readItem_47, true_and, and_true, true_or, or_true, false_or, or_false, Option.toList_some, Option.toList_none, List.nil_append, List.cons_append, zn1, kTx hG, k11, ea3]
      by_cases c : (len : Int) ≤ (p : Int)
      · rw [if_pos c]
        exact e
      · rw [if_neg c, if_pos (by omega)]
        exact e
    | succ f ih =>
      intro p v H2 hf hp hv h3 h2 h1 hs f2 k1 k2 k3
      have k11 : H2 1 1 = (len : Int) := by rw [k1]; exact hl
      have k22 : H2 2 = H 2 := f2 2 (by omega)
      rw [scan] at hs
      have n1 : ¬ (a : Int) + 3 < (p : Int) := by omega
      have n3 := zw_id (z := 10 * v) (by omega) (by omega)
      by_cases c : (len : Int) ≤ (p : Int)
      · rw [if_neg (fun z => by omega)] at hs
        rw [rX5_readItem_35]
        simp only [rX5_readItem_36, rX5_readItem_37, rX5_readItem_40, true_and, and_true, true_or, or_true, false_or, or_false, Option.toList_some, Option.toList_none, List.nil_append, List.cons_append, zn1, kTx hG, k11]
        rw [if_pos c]
        exact fin H2 p v hs f2 k1 k2 k3
      · have hbp := hb p (by omega) (by omega)
        have cp : (0 : Int) ≤ p ∧ (p : Int) < 300 := by omega
        have n4 := zw_id (z := 10 * v + H 2 p) (by omega) (by omega)
        have n5 := zw_id (z := 10 * v + H 2 p - 48) (by omega) (by omega)
        by_cases c2 : 48 ≤ H 2 p ∧ H 2 p ≤ 57
        · rw [if_pos ⟨by omega, c2⟩] at hs
          have goal2 := ih (p + 1) (10 * v + H 2 p - 48) (zset H2 1 (zfu (H2 1) 3 (10 * v + H 2 p - 48))) (by omega) (by omega) (by omega) (by omega) (by omega) (by omega) hs (fun b hb => by rw [zset_ne hb]; exact f2 b hb) (by rw [zset_eq, zfu_at, if_neg (by omega)]; exact k1) (by rw [zset_eq, zfu_at, if_neg (by omega)]; exact k2) (by rw [zset_eq, zfu_at, if_pos rfl])
          rw [rX5_readItem_35]
          simp only [rX5_readItem_36, rX5_readItem_37, rX5_readItem_40, rX5_readItem_43, rX5_readItem_44, rX5_readItem_45, rX5_readItem_46, rX5_readItem_47, rX5_readItem_50, rX5_readItem_51, rX5_readItem_54, rX5_readItem_55, rX5_readItem_56, rX5_readItem_58, rX5_readItem_60, rX5_readItem_63, rX5_readItem_66, rX5_readItem_67, rX5_readItem_69, rX5_readItem_70, rX5_readItem_73, rX5_readItem_74, rX5_readItem_75, rX5_readItem_78, rX5_readItem_79, rX5_readItem_80, rX5_readItem_81, rX5_readItem_83, rX5_readItem_84, rX5_readItem_87, rX5_readItem_90, true_and, and_true, true_or, or_true, false_or, or_false, Option.toList_some, Option.toList_none, List.nil_append, List.cons_append, zn1, kTx hG, k11, k22, k3, ea3, cp, kX8_within, bi_eq0, zup_def, zwk (show p < 2000000000 by omega), n3, n4, n5]
          rw [if_neg c, if_neg n1, if_neg (fun z => z c2)]
          exact goal2
        · rw [if_neg (fun z => c2 z.2)] at hs
          have goal2 := fin H2 p v hs f2 k1 k2 k3
          rw [rX5_readItem_35]
          simp only [rX5_readItem_36, rX5_readItem_37, rX5_readItem_40, rX5_readItem_43, rX5_readItem_44, rX5_readItem_45, rX5_readItem_46, rX5_readItem_47, rX5_readItem_50, rX5_readItem_51, rX5_readItem_54, rX5_readItem_55, rX5_readItem_56, rX5_readItem_58, rX5_readItem_60, rX5_readItem_63, true_and, and_true, true_or, or_true, false_or, or_false, Option.toList_some, Option.toList_none, List.nil_append, List.cons_append, zn1, kTx hG, k11, k22, ea3, cp, kX8_within, bi_eq0]
          rw [if_neg c, if_neg n1, if_pos c2]
          exact goal2
  exact loop 3 (a + 1) 0 H1 (by omega) (by omega) (by omega) (fun _ => rfl) (by omega) (by omega) rfl f1 (g1 1 (by omega) (by omega)) g2 g3
