/-! rings: what is owed, and all of them cleared -/
def owm (f : Nat → zCo) : Nat → zMx
  | 0 => fun _ _ => 0
  | t + 1 => sbm (owm f t) (f t).2.1 (f t).1 (-(f t).2.2.1)
theorem owm_rng {P : Int} {f : Nat → zCo} : ∀ t : Nat, (∀ k, k < t → cok P (f k)) → ∀ x y : Int, 0 ≤ owm f t x y ∧ owm f t x y ≤ 200 * (t : Int)
  | 0, _, x, y => by
    show (0 : Int) ≤ 0 ∧ (0 : Int) ≤ 200 * ((0 : Nat) : Int)
    omega
  | t + 1, h, x, y => by
    have h1 := owm_rng (f := f) t (fun k hk => h k (by omega)) x y
    have h2 := (h t (by omega)).2.2.1
    show 0 ≤ sbm (owm f t) _ _ _ x y ∧ sbm (owm f t) _ _ _ x y ≤ _
    unfold sbm
    split <;> omega
theorem owm_diag {P : Int} {f : Nat → zCo} : ∀ t : Nat, (∀ k, k < t → cok P (f k)) → ∀ x : Int, owm f t x x = 0
  | 0, _, x => rfl
  | t + 1, h, x => by
    have h2 := (h t (by omega)).2.2.2.2.2
    show sbm (owm f t) _ _ _ x x = 0
    unfold sbm
    rw [if_neg (fun z => h2 (z.2.symm.trans z.1))]
    exact owm_diag t (fun k hk => h k (by omega)) x
theorem sumN_one {f g : Nat → Nat} {j : Nat} (h : ∀ i, i ≠ j → f i ≤ g i) (hj : f j ≤ g j + 1) : ∀ k : Nat, sumN f k ≤ sumN g k + 1
  | 0 => by
    show 0 ≤ 0 + 1
    omega
  | k + 1 => by
    rw [sumN, sumN]
    by_cases e : k = j
    · subst e
      have := sumN_mono (f := f) (g := g) k (fun i hi => h i (by omega))
      omega
    · have h1 := sumN_one h hj k
      have h2 := h k e
      omega
theorem cnE_owm {P : Int} {f : Nat → zCo} (hP : P ≤ 6) : ∀ t : Nat, (∀ k, k < t → cok P (f k)) → cnE (owm f t) ≤ t
  | 0, _ => by
    unfold cnE
    rw [sumN_0]
    · omega
    · intro j hj
      rfl
  | t + 1, h => by
    have ih := cnE_owm (f := f) hP t (fun k hk => h k (by omega))
    obtain ⟨⟨a0, a1⟩, ⟨b0, b1⟩, -⟩ := h t (by omega)
    have : cnE (owm f (t + 1)) ≤ cnE (owm f t) + 1 := by
      refine sumN_one (j := 6 * (f t).2.1.toNat + (f t).1.toNat) (fun i hi => ?_) ?_ 36
      · unfold pos1
        have e : owm f (t + 1) ((i / 6 : Nat) : Int) ((i % 6 : Nat) : Int) = owm f t ((i / 6 : Nat) : Int) ((i % 6 : Nat) : Int) := by
          show sbm (owm f t) _ _ _ _ _ = _
          unfold sbm
          rw [if_neg (by omega)]
        rw [e]
        exact Nat.le_refl _
      · unfold pos1
        split <;> split <;> omega
    omega
theorem kread {P n : Nat} {f : Nat → zCo} {G : zG} {H : zH} {Q' : Option zV → zG → zH → Prop} (hG : zOK G) (eP : H 3 1 = (P : Int)) (hP6 : P ≤ 6) (n8 : n ≤ 8) (hn : H 7 9 = (n : Int)) (hf : ∀ k : Nat, k < n → (H (7 + 3) (k : Int) = (f k).1 ∧ H (7 + 4) (k : Int) = (f k).2.1 ∧ H (7 + 5) (k : Int) = (f k).2.2.1) ∧ cok (P : Int) (f k))
    (hq : ∀ H' : zH, (∀ b, (b < 118 ∨ 126 < b) → H' b = H b) → H' 118 2 = (P : Int) → MC H' (owm f n) → Q' none G H') : zCall qX2_readFrom [vr 118, vr 7] G H Q' := by
  have loop3 : ∀ (m t : Nat) (l : zV) (H' : zH), t + m = n → (∀ b, (b < 118 ∨ 126 < b) → H' b = H b) → H' 118 2 = (P : Int) → MC H' (owm f t) → zRun qX2_readFrom 50 [vr 118, vr 7, vi (t : Int), l] [] G H' Q' := by
    intro m
    induction m with
    | zero =>
      intro t l H' ht hfr h2 hM
      have e : t = n := by omega
      subst e
      have e9 : H' 7 9 = (t : Int) := by rw [hfr 7 (by omega)]; exact hn
      rw [rX2_readFrom_50]
      simp only [rX2_readFrom_51, rX2_readFrom_52, rX2_readFrom_55, true_and, and_true, true_or, or_true, false_or, or_false, Option.toList_some, Option.toList_none, List.nil_append, List.cons_append, zn1, kB hG bk7, e9]
      rw [if_pos (Int.le_refl _)]
      simp only [rX2_readFrom_91]
      exact hq H' hfr h2 hM
    | succ m ih =>
      intro t l H' ht hfr h2 hM
      have e9 : H' 7 9 = (n : Int) := by rw [hfr 7 (by omega)]; exact hn
      obtain ⟨⟨f1, f2, f3⟩, hc⟩ := hf t (by omega)
      have hc' := hc
      obtain ⟨⟨a0, a1⟩, ⟨b0, b1⟩, ⟨v0, v1⟩, -⟩ := hc'
      have g1 : H' (7 + 3) (t : Int) = (f t).1 := by rw [hfr _ (by omega)]; exact f1
      have g2 : H' (7 + 4) (t : Int) = (f t).2.1 := by rw [hfr _ (by omega)]; exact f2
      have g3 : H' (7 + 5) (t : Int) = (f t).2.2.1 := by rw [hfr _ (by omega)]; exact f3
      have kt : (0 : Int) ≤ (t : Int) ∧ (t : Int) < 8 := by omega
      have ka : 0 ≤ (f t).1 ∧ (f t).1 < 6 := by omega
      have kb : 0 ≤ (f t).2.1 ∧ (f t).2.1 < 6 := by omega
      have or := owm_rng (f := f) t (fun k hk => (hf k (by omega)).2) (f t).2.1 (f t).1
      have e3 := hM _ _ kb.1 kb.2 ka.1 ka.2
      have e4 : zw (owm f t (f t).2.1 (f t).1 + (f t).2.2.1) = owm f t (f t).2.1 (f t).1 - (-(f t).2.2.1) := by
        rw [zw_id (by omega) (by omega)]
        omega
      have c1 : ¬ ((n : Int) ≤ (t : Int)) := by clear e4; omega
      have go := ih (t + 1) l (zset H' (120 + (f t).2.1.toNat) (zfu (H' (120 + (f t).2.1.toNat)) (f t).1 (owm f t (f t).2.1 (f t).1 - (-(f t).2.2.1)))) (by clear e4; omega) (fun b hb => by
        rw [zset_ne (by clear e4; omega)]
        exact hfr b hb) (by
        rw [zset_ne (by clear e4; omega)]
        exact h2) (MC_sb hM kb.1 kb.2 ka.1 ka.2)
      rw [rX2_readFrom_50]
      simp only [rX2_readFrom_51, rX2_readFrom_52, rX2_readFrom_55, true_and, and_true, true_or, or_true, false_or, or_false, Option.toList_some, Option.toList_none, List.nil_append, List.cons_append, zn1, kB hG bk7, e9]
      rw [if_neg c1]
      simp only [rX2_readFrom_0, rX2_readFrom_1, rX2_readFrom_2, rX2_readFrom_5, rX2_readFrom_8, rX2_readFrom_11, rX2_readFrom_12, rX2_readFrom_13, rX2_readFrom_14, rX2_readFrom_16, rX2_readFrom_19, rX2_readFrom_20, rX2_readFrom_21, rX2_readFrom_22, rX2_readFrom_24, rX2_readFrom_27, rX2_readFrom_28, rX2_readFrom_31, rX2_readFrom_32, rX2_readFrom_33, rX2_readFrom_34, rX2_readFrom_35, rX2_readFrom_36, rX2_readFrom_39, rX2_readFrom_42, rX2_readFrom_45, rX2_readFrom_48, rX2_readFrom_49, rX2_readFrom_58, rX2_readFrom_59, rX2_readFrom_62, rX2_readFrom_63, rX2_readFrom_66, rX2_readFrom_67, rX2_readFrom_68, rX2_readFrom_69, rX2_readFrom_70, rX2_readFrom_73, rX2_readFrom_74, rX2_readFrom_75, rX2_readFrom_76, rX2_readFrom_77, rX2_readFrom_78, rX2_readFrom_81, rX2_readFrom_82, rX2_readFrom_83, rX2_readFrom_84, rX2_readFrom_85, rX2_readFrom_88, rX2_readFrom_91, true_and, and_true, true_or, or_true, false_or, or_false, Option.toList_some, Option.toList_none, List.nil_append, List.cons_append, zn1, kB hG bk7, sO_118 hG, sO_119 hG, kt, g1, g2, g3, kRow hG kb.1 kb.2, ka, kb, e3, e4, zup_def, zwk (show t < 2000000000 by clear e4; omega)]
      exact go
  have inner : ∀ (i : Nat), i < 6 → (∀ (l : zV) (H' : zH), (∀ b, (b < 118 ∨ 126 < b) → H' b = H b) → H' 118 2 = (P : Int) → (∀ x y : Int, 0 ≤ x → x < ((i + 1 : Nat) : Int) → 0 ≤ y → y < 6 → H' (120 + x.toNat) y = 0) → zRun qX2_readFrom 13 [vr 118, vr 7, vi ((i + 1 : Nat) : Int), l] [] G H' Q') → ∀ (m j : Nat) (H' : zH), j + m = 6 → (∀ b, (b < 118 ∨ 126 < b) → H' b = H b) → H' 118 2 = (P : Int) → (∀ x y : Int, 0 ≤ x → x < (i : Int) → 0 ≤ y → y < 6 → H' (120 + x.toNat) y = 0) → (∀ y : Int, 0 ≤ y → y < (j : Int) → H' (120 + i) y = 0) → zRun qX2_readFrom 21 [vr 118, vr 7, vi (i : Int), vi (j : Int)] [] G H' Q' := by
    intro i hi hout m
    induction m with
    | zero =>
      intro j H' hj hfr h2 hz hy
      have go := hout (vi (j : Int)) H' hfr h2 (fun x y x0 x1 y0 y1 => by
        by_cases e : x = (i : Int)
        · rw [e, Int.toNat_natCast]
          exact hy y y0 (by omega)
        · exact hz x y x0 (by omega) y0 y1)
      have c1 : (6 : Int) ≤ (j : Int) := by omega
      rw [rX2_readFrom_21]
      simp only [rX2_readFrom_22, rX2_readFrom_24]
      rw [if_pos c1]
      simp only [rX2_readFrom_42, rX2_readFrom_45, true_and, and_true, true_or, or_true, false_or, or_false, Option.toList_some, Option.toList_none, List.nil_append, List.cons_append, zn1, zwk (show i < 2000000000 by omega)]
      exact go
    | succ m ih =>
      intro j H' hj hfr h2 hz hy
      have c1 : ¬ ((6 : Int) ≤ (j : Int)) := by omega
      have ki : (0 : Int) ≤ (i : Int) ∧ (i : Int) < 6 := by omega
      have kj : (0 : Int) ≤ (j : Int) ∧ (j : Int) < 6 := by omega
      have row := kRow hG ki.1 ki.2
      rw [Int.toNat_natCast] at row
      have go := ih (j + 1) (zset H' (120 + i) (zfu (H' (120 + i)) (j : Int) 0)) (by omega) (fun b hb => by
        rw [zset_ne (by omega)]
        exact hfr b hb) (by
        rw [zset_ne (by omega)]
        exact h2) (fun x y x0 x1 y0 y1 => by
        rw [zset_ne (by omega)]
        exact hz x y x0 x1 y0 y1) (fun y y0 y1 => by
        rw [zset_eq, zfu_at]
        by_cases e : y = (j : Int)
        · rw [if_pos e]
        · rw [if_neg e]
          exact hy y y0 (by omega))
      rw [rX2_readFrom_21]
      simp only [rX2_readFrom_22, rX2_readFrom_24]
      rw [if_neg c1]
      simp only [rX2_readFrom_27, rX2_readFrom_28, rX2_readFrom_31, rX2_readFrom_32, rX2_readFrom_33, rX2_readFrom_34, rX2_readFrom_35, rX2_readFrom_36, rX2_readFrom_39, true_and, and_true, true_or, or_true, false_or, or_false, Option.toList_some, Option.toList_none, List.nil_append, List.cons_append, zn1, sO_118 hG, sO_119 hG, ki, kj, row, zup_def, zwk (show j < 2000000000 by omega)]
      exact go
  have outer : ∀ (m i : Nat) (l : zV) (H' : zH), i + m = 6 → (∀ b, (b < 118 ∨ 126 < b) → H' b = H b) → H' 118 2 = (P : Int) → (∀ x y : Int, 0 ≤ x → x < (i : Int) → 0 ≤ y → y < 6 → H' (120 + x.toNat) y = 0) → zRun qX2_readFrom 13 [vr 118, vr 7, vi (i : Int), l] [] G H' Q' := by
    intro m
    induction m with
    | zero =>
      intro i l H' hi hfr h2 hz
      have c1 : (6 : Int) ≤ (i : Int) := by omega
      have go := loop3 n 0 l H' (by omega) hfr h2 (fun x y x0 x1 y0 y1 => hz x y x0 (by omega) y0 y1)
      rw [rX2_readFrom_13]
      simp only [rX2_readFrom_14, rX2_readFrom_16]
      rw [if_pos c1]
      simp only [rX2_readFrom_48, rX2_readFrom_49, true_and, and_true, true_or, or_true, false_or, or_false, Option.toList_some, Option.toList_none, List.nil_append, List.cons_append, zn1]
      exact go
    | succ m ih =>
      intro i l H' hi hfr h2 hz
      have c1 : ¬ ((6 : Int) ≤ (i : Int)) := by omega
      have go := inner i (by omega) (fun l' H2 a b c => ih (i + 1) l' H2 (by omega) a b c) 6 0 H' (by omega) hfr h2 hz (fun y y0 y1 => by omega)
      rw [rX2_readFrom_13]
      simp only [rX2_readFrom_14, rX2_readFrom_16]
      rw [if_neg c1]
      simp only [rX2_readFrom_19, rX2_readFrom_20, true_and, and_true, true_or, or_true, false_or, or_false, Option.toList_some, Option.toList_none, List.nil_append, List.cons_append, zn1]
      exact go
  have go := outer 6 0 vu (zset H 118 (zfu (H 118) 2 (P : Int))) (by omega) (fun b hb => by rw [zset_ne (by omega)]) (by rw [zset_eq, zfu_at, if_pos rfl]) (fun x y x0 x1 y0 y1 => by omega)
  rw [rX2_readFrom_in]
  simp only [rX2_readFrom_0, rX2_readFrom_1, rX2_readFrom_2, rX2_readFrom_5, rX2_readFrom_8, rX2_readFrom_11, rX2_readFrom_12, true_and, and_true, true_or, or_true, false_or, or_false, Option.toList_some, Option.toList_none, List.nil_append, List.cons_append, zn1, kB hG bk7, sO_3 hG, sO_118 hG, eP, zup_def]
  exact go
theorem FR_same {o : zMx} {P k r k' r' : Nat} (k2 : 2 ≤ k) (k2' : 2 ≤ k') (h1 : noR o P k) (h2 : FR o P k r) (h3 : noR o P k') (h4 : FR o P k' r') : k' = k ∧ r' = r := by
  have e : k' = k := by
    rcases Nat.lt_trichotomy k' k with z | z | z
    · exact absurd h4.2.1 (h1 k' k2' z r' h4.1)
    · exact z
    · exact absurd h2.2.1 (h3 k k2 z r h2.1)
  subst e
  refine ⟨rfl, ?_⟩
  rcases Nat.lt_trichotomy r' r with z | z | z
  · exact absurd h4.2.1 (h2.2.2 r' z)
  · exact z
  · exact absurd h2.2.1 (h4.2.2 r z)
theorem kclearAll {P n : Nat} {o o' : zMx} {s : Int} {G : zG} {H : zH} {Q' : Option zV → zG → zH → Prop} (hG : zOK G) (hP : 1 ≤ P) (hP6 : P ≤ 6) (n8 : n ≤ 8) (hg : zRg P n o o' s) (hu : Bup o) (hd : Bdn 0 o) (hM : MC H o) (hp : H 118 2 = (P : Int))
    (hq : ∀ H' : zH, (∀ b, (b < 120 ∨ 126 < b) → H' b = H b) → MC H' o' → Q' (some (vi s)) G H') : zCall qX2_clearAll [vr 118] G H Q' := by
  have loop : ∀ (m t n : Nat) (o : zMx) (s' off : Int) (l : zV) (H' : zH), t + m = 8 → n ≤ m → zRg P n o o' s' → Bup o → Bdn (9600 * (t : Int)) o → MC H' o → (∀ b, (b < 120 ∨ 126 < b) → H' b = H b) → 0 ≤ off → off ≤ 9600 * (t : Int) → off + s' = s → zRun qX2_clearAll 4 [vr 118, vi off, vi (t : Int), l] [] G H' Q' := by
    intro m
    induction m with
    | zero =>
      intro t n o s' off l H' ht hn hg hu hd hM hf o0 o1 es
      have e : n = 0 := by omega
      subst e
      obtain ⟨-, rfl, rfl⟩ := hg
      have c1 : (8 : Int) ≤ (t : Int) := by omega
      have go := hq H' hf hM
      rw [show s = off by omega] at go
      rw [rX2_clearAll_4]
      simp only [rX2_clearAll_5, rX2_clearAll_7]
      rw [if_pos c1]
      simp only [rX2_clearAll_29, rX2_clearAll_30]
      exact go
    | succ m ih =>
      intro t n o s' off l H' ht hn hg hu hd hM hf o0 o1 es
      have c1 : ¬ ((8 : Int) ≤ (t : Int)) := by omega
      rw [rX2_clearAll_4]
      simp only [rX2_clearAll_5, rX2_clearAll_7]
      rw [if_neg c1]
      simp only [rX2_clearAll_10, rX2_clearAll_11, true_and, and_true, true_or, or_true, false_or, or_false, Option.toList_some, Option.toList_none, List.nil_append, List.cons_append, zn1, sO_118 hG]
      refine kshort hG hP hP6 hM (by rw [hf 118 (by omega)]; exact hp) (fun a hno => ?_) (fun a k r k2 kP hno hfr hca => ?_)
      · simp only [rX2_clearAll_14, rX2_clearAll_15, rX2_clearAll_16, rX2_clearAll_17, rX2_clearAll_18, true_and, and_true, true_or, or_true, false_or, or_false, Option.toList_some, Option.toList_none, List.nil_append, List.cons_append, zn1, sO_118 hG, kclear0]
        have e : n = 0 := by
          cases n with
          | zero => rfl
          | succ n =>
            obtain ⟨k, r, s'', ⟨k2, kP⟩, hn', hfr, -⟩ := hg
            exact absurd hfr.2.1 (hno k k2 (by omega) r hfr.1)
        have go := ih (t + 1) n o s' off (vi 0) (zset H' 126 a) (by omega) (by omega) hg hu (fun x y a b c d => by have := hd x y a b c d; omega) (MC_126 hM) (fun b hb => by rw [zset_ne (by omega)]; exact hf b hb) o0 (by omega) es
        simp only [rX2_clearAll_21, rX2_clearAll_22, rX2_clearAll_23, rX2_clearAll_26, true_and, and_true, true_or, or_true, false_or, or_false, Option.toList_some, Option.toList_none, List.nil_append, List.cons_append, zn1, zwk (show t < 2000000000 by omega), Int.add_zero, zw_id (z := off) (by omega) (by omega)]
        exact go
      · simp only [rX2_clearAll_14, rX2_clearAll_15, rX2_clearAll_16, rX2_clearAll_17, rX2_clearAll_18, true_and, and_true, true_or, or_true, false_or, or_false, Option.toList_some, Option.toList_none, List.nil_append, List.cons_append, zn1, sO_118 hG]
        cases n with
        | zero => exact absurd hfr.2.1 (hg.1 k k2 (by omega) r hfr.1)
        | succ n =>
          obtain ⟨k', r', s'', ⟨k2', kP'⟩, hn', hfr', hg', hs'⟩ := hg
          obtain ⟨rfl, rfl⟩ := FR_same k2 k2' hno hfr hn' hfr'
          have hl := lst_rng hP hP6 k2 hu hfr.2.1
          have hlk : lst o P k' r' * (k' : Int) ≤ 1600 * 6 := Int.mul_le_mul (by omega) (by omega) (by omega) (by omega)
          have hlk0 : 0 ≤ lst o P k' r' * (k' : Int) := Int.mul_nonneg (by omega) (by omega)
          refine kclear (m := 9600 * (t : Int)) hG hP hP6 k2 kP (MC_126 hM) hu hd (by omega) hfr.2.1 (fun j hj => by rw [zset_eq]; exact hca j hj) (fun H2 hf2 hM2 => ?_)
          have go := ih (t + 1) n (clr o P k' r') s'' (off + lst o P k' r' * (k' : Int)) (vi (k' : Int)) H2 (by omega) (by omega) hg' (Bup_clr hP hP6 k2 hu hfr.2.1) (by
            have := Bdn_clr hP hP6 k2 (by omega) hu hd hfr.2.1
            rw [show 9600 * ((t + 1 : Nat) : Int) = 9600 * (t : Int) + 9600 by omega]
            exact this) hM2 (fun b hb => by
            rw [hf2 b (by omega), zset_ne (by omega)]
            exact hf b hb) (by omega) (by omega) (by omega)
          simp only [rX2_clearAll_21, rX2_clearAll_22, rX2_clearAll_23, rX2_clearAll_26, true_and, and_true, true_or, or_true, false_or, or_false, Option.toList_some, Option.toList_none, List.nil_append, List.cons_append, zn1, zwk (show t < 2000000000 by omega), zw_id (z := off + lst o P k' r' * (k' : Int)) (by omega) (by omega)]
          exact go
  have go := loop 8 0 n o s 0 vu H (by omega) (by omega) hg hu (by rw [show 9600 * ((0 : Nat) : Int) = 0 by omega]; exact hd) hM (fun _ _ => rfl) (Int.le_refl _) (by omega) (by omega)
  rw [rX2_clearAll_in]
  simp only [rX2_clearAll_0, rX2_clearAll_1, rX2_clearAll_2, rX2_clearAll_3, true_and, and_true, true_or, or_true, false_or, or_false, Option.toList_some, Option.toList_none, List.nil_append, List.cons_append, zn1]
  exact go
