/-! rings: cleared -/
theorem kclears {P n nl : Nat} {f : Nat → zCo} {o' : zMx} {s : Int} {G : zG} {H : zH} {Q' : Option zV → zG → zH → Prop} (hG : zOK G) (hP : 1 ≤ P) (hP6 : P ≤ 6) (n8 : n ≤ 8) (l8 : nl ≤ 8) (hp : H 130 4 = (P : Int)) (hn : H 134 12 = (nl : Int)) (hf : ∀ k : Nat, k < nl → (H 134 (13 + 4 * (k : Int)) = (f k).1 ∧ H 134 (13 + 4 * (k : Int) + 1) = (f k).2.1 ∧ H 134 (13 + 4 * (k : Int) + 2) = (f k).2.2.1) ∧ cok (P : Int) (f k)) (hg : zRg P n (owm f nl) o' s)
    (hq : ∀ H' : zH, (∀ b, b ≠ 144 → b ≠ 145 → H' b = H b) → MM H' o' → Q' (some (vi s)) G H') : zCall qX9_clears [vr 130] G H Q' := by
  have k12 : (0 : Int) ≤ 12 ∧ (12 : Int) < 46 := by decide
  have or := owm_rng (P := (P : Int)) (f := f) nl (fun k hk => (hf k hk).2)
  have loans : ∀ (m t : Nat) (H' : zH), t + m = nl → (∀ b, b ≠ 144 → H' b = H b) → MM H' (owm f t) → zRun qX9_clears 23 [vr 130, vi (t : Int), vu, vu, vu, vu] [] G H' Q' := by
    intro m
    induction m with
    | zero =>
      intro t H' ht hfr hM
      have e : t = nl := by omega
      subst e
      have c1 : (t : Int) ≤ (t : Int) := Int.le_refl _
      have e12 : H' 134 12 = (t : Int) := by rw [hfr 134 (by omega)]; exact hn
      have go := mmain (s := s) (Q' := Q') hG hP hP6 hp hq n (P + 1 - 2) 0 2 (owm f t) s 0 vu vu vu H' (by omega) (by omega) (by omega) hg (fun k' a b r hr => by omega) (fun x y _ _ _ _ => by have := or x y; omega) (fun x y _ _ _ _ => by have := or x y; omega) hM (fun b h1 _ => hfr b h1) (by omega) (by omega) (by omega)
      rw [rX9_clears_23]
      simp only [rX9_clears_24, rX9_clears_25, rX9_clears_28, rX9_clears_30, rX9_clears_31, true_and, and_true, true_or, or_true, false_or, or_false, Option.toList_some, Option.toList_none, List.nil_append, List.cons_append, zn1, kM hG, k12, e12]
      rw [if_pos c1]
      simp only [rX9_clears_89, rX9_clears_90, rX9_clears_91, rX9_clears_92, true_and, and_true, true_or, or_true, false_or, or_false, Option.toList_some, Option.toList_none, List.nil_append, List.cons_append, zn1]
      exact go
    | succ m ih =>
      intro t H' ht hfr hM
      obtain ⟨⟨f1, f2, f3⟩, hc⟩ := hf t (by omega)
      have hc' := hc
      obtain ⟨⟨a0, a1⟩, ⟨b0, b1⟩, ⟨v0, v1⟩, -⟩ := hc'
      have c1 : ¬ ((nl : Int) ≤ (t : Int)) := by omega
      have e12 : H' 134 12 = (nl : Int) := by rw [hfr 134 (by omega)]; exact hn
      have g1 : H' 134 (13 + 4 * (t : Int)) = (f t).1 := by rw [hfr 134 (by omega)]; exact f1
      have g2 : H' 134 (13 + 4 * (t : Int) + 1) = (f t).2.1 := by rw [hfr 134 (by omega)]; exact f2
      have g3 : H' 134 (13 + 4 * (t : Int) + 2) = (f t).2.2.1 := by rw [hfr 134 (by omega)]; exact f3
      have ka : 0 ≤ (f t).1 ∧ (f t).1 < 6 := by omega
      have kb : 0 ≤ (f t).2.1 ∧ (f t).2.1 < 6 := by omega
      have rg := owm_rng (P := (P : Int)) (f := f) t (fun k hk => (hf k (by omega)).2) (f t).2.1 (f t).1
      have e3 := hM _ _ kb.1 kb.2 ka.1 ka.2
      have i1 : (0 : Int) ≤ 13 + 4 * (t : Int) ∧ 13 + 4 * (t : Int) < 46 := by omega
      have i2 : (0 : Int) ≤ 13 + 4 * (t : Int) + 1 ∧ 13 + 4 * (t : Int) + 1 < 46 := by omega
      have i3 : (0 : Int) ≤ 13 + 4 * (t : Int) + 2 ∧ 13 + 4 * (t : Int) + 2 < 46 := by omega
      have k36 : 0 ≤ 6 * (f t).2.1 + (f t).1 ∧ 6 * (f t).2.1 + (f t).1 < 36 := by omega
      have go := ih (t + 1) (zset H' 144 (zfu (H' 144) (6 * (f t).2.1 + (f t).1) (owm f t (f t).2.1 (f t).1 - (-(f t).2.2.1)))) (by omega) (fun b hb => by
        rw [zset_ne hb]
        exact hfr b hb) (MM_sb hM kb.1 kb.2 ka.1 ka.2)
      have t4 : t < 2000000000 := by omega
      have w0 := zw_id (z := 4 * (t : Int)) (by omega) (by omega)
      have w1 := zw_id (z := 13 + 4 * (t : Int)) (by clear w0; omega) (by clear w0; omega)
      have w2 := zw_id (z := 13 + 4 * (t : Int) + 1) (by clear w0 w1; omega) (by clear w0 w1; omega)
      have w3 := zw_id (z := 13 + 4 * (t : Int) + 2) (by clear w0 w1 w2; omega) (by clear w0 w1 w2; omega)
      have w4 := zw_id (z := 6 * (f t).2.1) (by clear w0 w1 w2 w3; omega) (by clear w0 w1 w2 w3; omega)
      have w5 := zw_id (z := 6 * (f t).2.1 + (f t).1) (by clear w0 w1 w2 w3 w4; omega) (by clear w0 w1 w2 w3 w4; omega)
      have e4 : zw (owm f t (f t).2.1 (f t).1 + (f t).2.2.1) = owm f t (f t).2.1 (f t).1 - (-(f t).2.2.1) := by
        rw [zw_id (by clear w0 w1 w2 w3 w4 w5; omega) (by clear w0 w1 w2 w3 w4 w5; omega)]
        clear w0 w1 w2 w3 w4 w5
        omega
      rw [rX9_clears_23]
      simp only [rX9_clears_24, rX9_clears_25, rX9_clears_28, rX9_clears_30, rX9_clears_31, true_and, and_true, true_or, or_true, false_or, or_false, Option.toList_some, Option.toList_none, List.nil_append, List.cons_append, zn1, kM hG, k12, e12, Int.le_refl]
      rw [if_neg c1]
      simp only [rX9_clears_34, rX9_clears_35, rX9_clears_38, rX9_clears_40, rX9_clears_41, rX9_clears_44, rX9_clears_46, rX9_clears_47, rX9_clears_48, rX9_clears_49, rX9_clears_50, rX9_clears_51, rX9_clears_52, rX9_clears_53, rX9_clears_54, rX9_clears_55, rX9_clears_58, rX9_clears_60, rX9_clears_61, rX9_clears_62, rX9_clears_63, rX9_clears_64, rX9_clears_65, rX9_clears_66, rX9_clears_67, rX9_clears_68, rX9_clears_69, rX9_clears_72, rX9_clears_74, rX9_clears_75, rX9_clears_76, rX9_clears_77, rX9_clears_78, rX9_clears_79, rX9_clears_80, rX9_clears_81, rX9_clears_82, rX9_clears_83, rX9_clears_86, true_and, and_true, true_or, or_true, false_or, or_false, Option.toList_some, Option.toList_none, List.nil_append, List.cons_append, zn1, kM hG, w0, w1, w2, w3, w4, w5, i1, i2, i3, g1, g2, g3, k36, e3, e4, zup_def, zwk t4]
      exact go
  have zero : ∀ (m t : Nat) (H' : zH), t + m = 36 → (∀ b, b ≠ 144 → H' b = H b) → (∀ y : Int, 0 ≤ y → y < (t : Int) → H' 144 y = 0) → zRun qX9_clears 2 [vr 130, vi (t : Int), vu, vu, vu, vu] [] G H' Q' := by
    intro m
    induction m with
    | zero =>
      intro t H' ht hfr hz
      have c1 : (36 : Int) ≤ (t : Int) := by omega
      have go := loans nl 0 H' (by omega) hfr (fun x y x0 x1 y0 y1 => hz _ (by omega) (by omega))
      rw [rX9_clears_2]
      simp only [rX9_clears_3, rX9_clears_5]
      rw [if_pos c1]
      simp only [rX9_clears_21, rX9_clears_22, true_and, and_true, true_or, or_true, false_or, or_false, Option.toList_some, Option.toList_none, List.nil_append, List.cons_append, zn1]
      exact go
    | succ m ih =>
      intro t H' ht hfr hz
      have c1 : ¬ ((36 : Int) ≤ (t : Int)) := by omega
      have kt : (0 : Int) ≤ (t : Int) ∧ (t : Int) < 36 := by omega
      have go := ih (t + 1) (zset H' 144 (zfu (H' 144) (t : Int) 0)) (by omega) (fun b hb => by rw [zset_ne hb]; exact hfr b hb) (fun y y0 y1 => by
        rw [zset_eq, zfu_at]
        by_cases e : y = (t : Int)
        · rw [if_pos e]
        · rw [if_neg e]
          exact hz y y0 (by omega))
      rw [rX9_clears_2]
      simp only [rX9_clears_3, rX9_clears_5]
      rw [if_neg c1]
      simp only [rX9_clears_8, rX9_clears_9, rX9_clears_12, rX9_clears_13, rX9_clears_14, rX9_clears_15, rX9_clears_18, true_and, and_true, true_or, or_true, false_or, or_false, Option.toList_some, Option.toList_none, List.nil_append, List.cons_append, zn1, kM hG, kt, zup_def, zwk (show t < 2000000000 by omega)]
      exact go
  have go := zero 36 0 H (by omega) (fun _ _ => rfl) (fun y y0 y1 => by omega)
  rw [rX9_clears_in]
  simp only [rX9_clears_0, rX9_clears_1, true_and, and_true, true_or, or_true, false_or, or_false, Option.toList_some, Option.toList_none, List.nil_append, List.cons_append, zn1]
  exact go
theorem sim_cleared {i j : Int} : simOp qX8_cleared qX9_cleared [vi i, vi j] := by
  intro G H h
  have hS := h
  obtain ⟨hG, ⟨⟨⟨P0, P1⟩, -⟩, ⟨m4, -⟩, -⟩, hx, ⟨⟨cs, hB⟩, -, hn8⟩, -⟩ := h
  obtain ⟨⟨h8, hc⟩, hb1, hb2, -⟩ := hB
  obtain ⟨P, eP⟩ : ∃ P : Nat, H 3 1 = (P : Int) := ⟨(H 3 1).toNat, by omega⟩
  have hP : 1 ≤ P := by omega
  have hP6 : P ≤ 6 := by omega
  obtain ⟨f, hfd⟩ : ∃ f : Nat → zCo, ∀ k : Nat, k < cs.length → cs[k]? = some (f k) := ⟨fun k => (cs[k]?).getD (0, 0, 0, 0), fun k hk => by
    show cs[k]? = some ((cs[k]?).getD (0, 0, 0, 0))
    rw [List.getElem?_eq_getElem hk]
    rfl⟩
  have hcf : ∀ k : Nat, k < cs.length → cok (P : Int) (f k) := fun k hk => by
    have := hc (f k) (List.mem_of_getElem? (hfd k hk))
    rw [eP] at this
    exact this
  have orn := owm_rng (P := (P : Int)) (f := f) cs.length hcf
  have hu : Bup (owm f cs.length) := fun x y _ _ _ _ => by have := orn x y; omega
  have hd : Bdn 0 (owm f cs.length) := fun x y _ _ _ _ => by have := orn x y; omega
  obtain ⟨n, o', s, hn, hg⟩ := zRg_ex hP hP6 8 (owm f cs.length) hu (Nat.le_trans (cnE_owm (P := (P : Int)) (by omega) cs.length hcf) h8)
  have dg : ∀ x, o' x x = 0 := fun x => by
    rw [zRg_diag n hg (fun x => by rw [owm_diag cs.length hcf]; omega) x, owm_diag cs.length hcf]
  -- the class
  have cls : ∀ (b : Int) (Q2 : Option zV → zG → zH → Prop), (b = 0 → (0 ≤ i ∧ i < (P : Int)) ∧ (0 ≤ j ∧ j < (P : Int))) → (∀ H1 : zH, (∀ b, (b < 118 ∨ 126 < b) → H1 b = H b) → Q2 (some (vi (if b = 0 then o' i j else s))) G H1) → zRun qX8_cleared 38 [vr 0, vi i, vi j, vi b, vu] [] G H Q2 := by
    intro b Q2 hb hq
    simp only [rX8_cleared_38, rX8_cleared_39, rX8_cleared_42, rX8_cleared_43, rX8_cleared_46, true_and, and_true, true_or, or_true, false_or, or_false, Option.toList_some, Option.toList_none, List.nil_append, List.cons_append, zn1, sO_0 hG, sO_118 hG]
    refine kread (P := P) (n := cs.length) (f := f) hG eP hP6 h8 hb1.1 (fun k hk => ?_) (fun H1 f1 p1 M1 => ?_)
    · obtain ⟨c1, c2, c3, -⟩ := hb1.2 k _ (hfd k hk)
      exact ⟨⟨c1, c2, c3⟩, hcf k hk⟩
    simp only [rX8_cleared_49, rX8_cleared_50, rX8_cleared_53, true_and, and_true, true_or, or_true, false_or, or_false, Option.toList_some, Option.toList_none, List.nil_append, List.cons_append, zn1, sO_0 hG, sO_118 hG]
    refine kclearAll hG hP hP6 hn hg hu hd M1 p1 (fun H2 f2 M2 => ?_)
    have go := hq H2 (fun b hb => by rw [f2 b (by omega)]; exact f1 b hb)
    simp only [rX8_cleared_56, rX8_cleared_58, rX8_cleared_59, true_and, and_true, true_or, or_true, false_or, or_false, Option.toList_some, Option.toList_none, List.nil_append, List.cons_append, zn1]
    by_cases c : b = 0
    · rw [if_pos c] at go ⊢
      obtain ⟨⟨i0, i1⟩, ⟨j0, j1⟩⟩ := hb c
      have ki : 0 ≤ i ∧ i < 6 := by omega
      have kj : 0 ≤ j ∧ j < 6 := by omega
      simp only [rX8_cleared_67, rX8_cleared_68, rX8_cleared_71, rX8_cleared_74, rX8_cleared_75, rX8_cleared_76, rX8_cleared_77, rX8_cleared_78, true_and, and_true, true_or, or_true, false_or, or_false, Option.toList_some, Option.toList_none, List.nil_append, List.cons_append, zn1, sO_0 hG, sO_118 hG, sO_119 hG, kRow hG ki.1 ki.2, ki, kj, M2 i j ki.1 ki.2 kj.1 kj.2]
      exact go
    · rw [if_neg c] at go ⊢
      simp only [rX8_cleared_62, rX8_cleared_64, rX8_cleared_78]
      exact go
  -- the model
  have mod : ∀ (b : Int) (H1 : zH) (Q2 : Option zV → zG → zH → Prop), (b = 0 → (0 ≤ i ∧ i < (P : Int)) ∧ (0 ≤ j ∧ j < (P : Int))) → (∀ b, (b < 118 ∨ 126 < b) → H1 b = H b) → (∀ H2 : zH, SR G H2 → Q2 (some (vi (if b = 0 then o' i j else s))) G H2) → zRun qX9_cleared 43 [vr 130, vi i, vi j, vi b, vu] [] G (th0 H1) Q2 := by
    intro b H1 Q2 hb f1 hq
    have S1 : SR G (th0 H1) := SR_th (SR_C hS ⟨fun b hb => f1 b (by omega), by rw [f1 1 (by omega)], fun b hb => f1 b (by omega)⟩)
    have t134 : th0 H1 134 = H 134 := by rw [th0_ne (by decide), f1 134 (by omega)]
    have t4 : th0 H1 130 4 = (P : Int) := by rw [th0_130 (by decide), f1 130 (by omega), m4, eP]
    simp only [rX9_cleared_43, rX9_cleared_44, true_and, and_true, true_or, or_true, false_or, or_false, Option.toList_some, Option.toList_none, List.nil_append, List.cons_append, zn1, kM hG]
    refine kclears (P := P) (n := n) (nl := cs.length) (f := f) hG hP hP6 hn h8 t4 (by rw [t134]; exact hb2.1) (fun k hk => ?_) hg (fun H2 f2 M2 => ?_)
    · obtain ⟨c1, c2, c3, -⟩ := hb2.2 k _ (hfd k hk)
      rw [t134]
      exact ⟨⟨c1, c2, c3⟩, hcf k hk⟩
    have S2 : SR G H2 := SR_M S1 ⟨fun b hb => f2 b (by omega) (by omega), ⟨f2 131 (by omega) (by omega), f2 133 (by omega) (by omega), f2 136 (by omega) (by omega), f2 137 (by omega) (by omega), f2 138 (by omega) (by omega)⟩, fun k _ _ => by rw [f2 134 (by omega) (by omega)], fun k _ _ _ => by rw [f2 130 (by omega) (by omega)], by
      rw [f2 139 (by omega) (by omega)]
      exact S1.2.2.2.1.2.2⟩
    have go := hq H2 S2
    simp only [rX9_cleared_47, rX9_cleared_49, rX9_cleared_50, true_and, and_true, true_or, or_true, false_or, or_false, Option.toList_some, Option.toList_none, List.nil_append, List.cons_append, zn1]
    by_cases c : b = 0
    · rw [if_pos c] at go ⊢
      obtain ⟨⟨i0, i1⟩, ⟨j0, j1⟩⟩ := hb c
      have ki : 0 ≤ i ∧ i < 6 := by omega
      have kj : 0 ≤ j ∧ j < 6 := by omega
      have k36 : 0 ≤ 6 * i + j ∧ 6 * i + j < 36 := by omega
      have w1 := zw_id (z := 6 * i) (by omega) (by omega)
      have w2 := zw_id (z := 6 * i + j) (by clear w1; omega) (by clear w1; omega)
      simp only [rX9_cleared_58, rX9_cleared_59, rX9_cleared_60, rX9_cleared_63, rX9_cleared_64, rX9_cleared_67, rX9_cleared_68, rX9_cleared_71, rX9_cleared_73, rX9_cleared_74, rX9_cleared_75, rX9_cleared_76, rX9_cleared_77, rX9_cleared_78, true_and, and_true, true_or, or_true, false_or, or_false, Option.toList_some, Option.toList_none, List.nil_append, List.cons_append, zn1, kM hG, w1, w2, k36, M2 i j ki.1 ki.2 kj.1 kj.2]
      by_cases e : i = j
      · rw [if_neg (fun z => z e)]
        rw [e, dg] at go
        exact go
      · rw [if_pos e]
        exact go
    · rw [if_neg c] at go ⊢
      simp only [rX9_cleared_53, rX9_cleared_55, rX9_cleared_78]
      exact go
  have et : ∀ H1 : zH, zset H1 130 (zfu (H1 130) 0 0) = th0 H1 := fun _ => rfl
  have ans : ∀ b : Int, (b = 0 → (0 ≤ i ∧ i < (P : Int)) ∧ (0 ≤ j ∧ j < (P : Int))) → (∀ (H1 : zH) (Q2 : Option zV → zG → zH → Prop), (∀ b, (b < 118 ∨ 126 < b) → H1 b = H b) → zRun qX9_cleared 43 [vr 130, vi i, vi j, vi b, vu] [] G (th0 H1) Q2 → zCall qX9_cleared [vr 130, vi i, vi j] G H1 Q2) → zRun qX8_cleared 38 [vr 0, vi i, vi j, vi b, vu] [] G H (fun r G1 H1 => ∃ v : Int, r = some (vi v) ∧ zCall qX9_cleared [vr 130, vi i, vi j] G1 H1 (fun r' G2 H2 => r' = some (vi v) ∧ SR G2 H2)) := by
    intro b hb hm
    exact cls b _ hb (fun H1 f1 => ⟨_, rfl, hm H1 _ f1 (mod b H1 _ hb f1 (fun H2 S2 => ⟨rfl, S2⟩))⟩)
  have t4' : ∀ H1 : zH, (∀ b, (b < 118 ∨ 126 < b) → H1 b = H b) → th0 H1 130 4 = (P : Int) := fun H1 f1 => by rw [th0_130 (by decide), f1 130 (by omega), m4, eP]
  rw [rX8_cleared_in]
  by_cases ca : i = -1 ∧ j = -1
  · have go := ans 1 (fun z => by omega) (fun H1 Q2 f1 k => by
      rw [rX9_cleared_in]
      simp only [rX9_cleared_0, rX9_cleared_1, rX9_cleared_2, rX9_cleared_5, rX9_cleared_6, rX9_cleared_7, true_and, and_true, true_or, or_true, false_or, or_false, Option.toList_some, Option.toList_none, List.nil_append, List.cons_append, zn1, kM hG, zup_def, et]
      rw [if_neg (fun z => z ca.1)]
      simp only [rX9_cleared_10, rX9_cleared_11, rX9_cleared_12]
      rw [if_neg (fun z => z ca.2)]
      simp only [rX9_cleared_15, rX9_cleared_16, rX9_cleared_20, rX9_cleared_21, rX9_cleared_22, true_and, and_true, true_or, or_true, false_or, or_false, Option.toList_some, Option.toList_none, List.nil_append, List.cons_append, zn1, ne_eq, Int.reduceEq, not_false_eq_true, if_true]
      exact k)
    simp only [rX8_cleared_0, rX8_cleared_1, rX8_cleared_2]
    rw [if_neg (fun z => z ca.1)]
    simp only [rX8_cleared_5, rX8_cleared_6, rX8_cleared_7]
    rw [if_neg (fun z => z ca.2)]
    simp only [rX8_cleared_10, rX8_cleared_11, rX8_cleared_15, rX8_cleared_16, rX8_cleared_17, true_and, and_true, true_or, or_true, false_or, or_false, Option.toList_some, Option.toList_none, List.nil_append, List.cons_append, zn1, ne_eq, Int.reduceEq, not_false_eq_true, if_true]
    exact go
  · -- to the persons
    have toM : ∀ (H1 : zH) (Q2 : Option zV → zG → zH → Prop), zRun qX9_cleared 19 [vr 130, vi i, vi j, vu, vu] [] G (th0 H1) Q2 → zCall qX9_cleared [vr 130, vi i, vi j] G H1 Q2 := fun H1 Q2 k => by
      rw [rX9_cleared_in]
      simp only [rX9_cleared_0, rX9_cleared_1, rX9_cleared_2, rX9_cleared_5, rX9_cleared_6, rX9_cleared_7, true_and, and_true, true_or, or_true, false_or, or_false, Option.toList_some, Option.toList_none, List.nil_append, List.cons_append, zn1, kM hG, zup_def, et]
      by_cases c1 : i = -1
      · rw [if_neg (fun z => z c1)]
        simp only [rX9_cleared_10, rX9_cleared_11, rX9_cleared_12]
        rw [if_pos (fun z => ca ⟨c1, z⟩)]
        exact k
      · rw [if_pos c1]
        exact k
    have toC : ∀ (Q2 : Option zV → zG → zH → Prop), zRun qX8_cleared 14 [vr 0, vi i, vi j, vu, vu] [] G H Q2 → zRun qX8_cleared 0 [vr 0, vi i, vi j, vu, vu] [] G H Q2 := fun Q2 k => by
      simp only [rX8_cleared_0, rX8_cleared_1, rX8_cleared_2]
      by_cases c1 : i = -1
      · rw [if_neg (fun z => z c1)]
        simp only [rX8_cleared_5, rX8_cleared_6, rX8_cleared_7]
        rw [if_pos (fun z => ca ⟨c1, z⟩)]
        exact k
      · rw [if_pos c1]
        exact k
    refine toC _ ?_
    have pC : H 3 1 = (P : Int) := eP
    by_cases cp : (0 ≤ i ∧ i < (P : Int)) ∧ (0 ≤ j ∧ j < (P : Int))
    · have go := ans 0 (fun _ => cp) (fun H1 Q2 f1 k => by
        refine toM H1 Q2 ?_
        simp only [rX9_cleared_19, rX9_cleared_20, rX9_cleared_21, rX9_cleared_22, rX9_cleared_25, rX9_cleared_26, rX9_cleared_27, rX9_cleared_30, true_and, and_true, true_or, or_true, false_or, or_false, Option.toList_some, Option.toList_none, List.nil_append, List.cons_append, zn1, ne_eq, not_true_eq_false, if_false, kM hG, kX9_isPerson hG (show 1 ≤ th0 H1 130 4 by rw [t4' H1 f1]; omega) (show th0 H1 130 4 ≤ 6 by rw [t4' H1 f1]; omega), t4' H1 f1, bi_eq0]
        rw [if_neg (fun z => z cp.1)]
        simp only [rX9_cleared_33, rX9_cleared_34, rX9_cleared_35, rX9_cleared_38, true_and, and_true, true_or, or_true, false_or, or_false, Option.toList_some, Option.toList_none, List.nil_append, List.cons_append, zn1, kM hG, kX9_isPerson hG (show 1 ≤ th0 H1 130 4 by rw [t4' H1 f1]; omega) (show th0 H1 130 4 ≤ 6 by rw [t4' H1 f1]; omega), t4' H1 f1, bi_ne0]
        rw [if_pos cp.2]
        exact k)
      simp only [rX8_cleared_14, rX8_cleared_15, rX8_cleared_16, rX8_cleared_17, rX8_cleared_20, rX8_cleared_21, rX8_cleared_22, rX8_cleared_25, true_and, and_true, true_or, or_true, false_or, or_false, Option.toList_some, Option.toList_none, List.nil_append, List.cons_append, zn1, ne_eq, not_true_eq_false, if_false, sO_0 hG, kX8_isPerson hG P0 P1, pC, bi_eq0]
      rw [if_neg (fun z => z cp.1)]
      simp only [rX8_cleared_28, rX8_cleared_29, rX8_cleared_30, rX8_cleared_33, true_and, and_true, true_or, or_true, false_or, or_false, Option.toList_some, Option.toList_none, List.nil_append, List.cons_append, zn1, sO_0 hG, kX8_isPerson hG P0 P1, pC, bi_ne0]
      rw [if_pos cp.2]
      exact go
    · have fM : zCall qX9_cleared [vr 130, vi i, vi j] G H (fun r' G2 H2 => r' = some (vi (-1)) ∧ SR G2 H2) := by
        refine toM H _ ?_
        have tt := t4' H (fun _ _ => rfl)
        simp only [rX9_cleared_19, rX9_cleared_20, rX9_cleared_21, rX9_cleared_22, rX9_cleared_25, rX9_cleared_26, rX9_cleared_27, rX9_cleared_30, true_and, and_true, true_or, or_true, false_or, or_false, Option.toList_some, Option.toList_none, List.nil_append, List.cons_append, zn1, ne_eq, not_true_eq_false, if_false, kM hG, kX9_isPerson hG (show 1 ≤ th0 H 130 4 by rw [tt]; omega) (show th0 H 130 4 ≤ 6 by rw [tt]; omega), tt, bi_eq0]
        by_cases c1 : 0 ≤ i ∧ i < (P : Int)
        · rw [if_neg (fun z => z c1)]
          simp only [rX9_cleared_33, rX9_cleared_34, rX9_cleared_35, rX9_cleared_38, true_and, and_true, true_or, or_true, false_or, or_false, Option.toList_some, Option.toList_none, List.nil_append, List.cons_append, zn1, kM hG, kX9_isPerson hG (show 1 ≤ th0 H 130 4 by rw [tt]; omega) (show th0 H 130 4 ≤ 6 by rw [tt]; omega), tt, bi_ne0]
          rw [if_neg (fun z => cp ⟨c1, z⟩)]
          simp only [rX9_cleared_41, rX9_cleared_42, true_and, and_true, true_or, or_true, false_or, or_false, Option.toList_some, Option.toList_none, List.nil_append, List.cons_append, zn1]
          exact SR_th hS
        · rw [if_pos c1]
          simp only [rX9_cleared_41, rX9_cleared_42, true_and, and_true, true_or, or_true, false_or, or_false, Option.toList_some, Option.toList_none, List.nil_append, List.cons_append, zn1]
          exact SR_th hS
      simp only [rX8_cleared_14, rX8_cleared_15, rX8_cleared_16, rX8_cleared_17, rX8_cleared_20, rX8_cleared_21, rX8_cleared_22, rX8_cleared_25, true_and, and_true, true_or, or_true, false_or, or_false, Option.toList_some, Option.toList_none, List.nil_append, List.cons_append, zn1, ne_eq, not_true_eq_false, if_false, sO_0 hG, kX8_isPerson hG P0 P1, pC, bi_eq0]
      by_cases c1 : 0 ≤ i ∧ i < (P : Int)
      · rw [if_neg (fun z => z c1)]
        simp only [rX8_cleared_28, rX8_cleared_29, rX8_cleared_30, rX8_cleared_33, true_and, and_true, true_or, or_true, false_or, or_false, Option.toList_some, Option.toList_none, List.nil_append, List.cons_append, zn1, sO_0 hG, kX8_isPerson hG P0 P1, pC, bi_ne0]
        rw [if_neg (fun z => cp ⟨c1, z⟩)]
        simp only [rX8_cleared_36, rX8_cleared_37, true_and, and_true, true_or, or_true, false_or, or_false, Option.toList_some, Option.toList_none, List.nil_append, List.cons_append, zn1]
        exact ⟨_, rfl, fM⟩
      · rw [if_pos c1]
        simp only [rX8_cleared_36, rX8_cleared_37, true_and, and_true, true_or, or_true, false_or, or_false, Option.toList_some, Option.toList_none, List.nil_append, List.cons_append, zn1]
        exact ⟨_, rfl, fM⟩
