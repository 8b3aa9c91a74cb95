/-! rings: the model clears them all -/
theorem MM_sb {H : zH} {o : zMx} {i j v : Int} (h : MM H o) (i0 : 0 ≤ i) (i1 : i < 6) (j0 : 0 ≤ j) (j1 : j < 6) : MM (zset H 144 (zfu (H 144) (6 * i + j) (o i j - v))) (sbm o i j v) := by
  intro x y x0 x1 y0 y1
  unfold sbm
  rw [zset_eq, zfu_at]
  by_cases e : x = i ∧ y = j
  · rw [if_pos (by omega), if_pos e, e.1, e.2]
  · rw [if_neg (by omega), if_neg e]
    exact h x y x0 x1 y0 y1
theorem nx_c1 {l0 l1 l3 l5 : zV} {S : List zV} {k t : Nat} (ht : t < 1000) {G : zG} {H : zH} {Q : Option zV → zG → zH → Prop} : zRun qX9_clears 138 [l0, l1, vi (k : Int), l3, vi (t : Int), l5] S G H Q ↔ zRun qX9_clears 154 [l0, l1, vi (k : Int), l3, vi (t : Int), l5] (vi (nx k t : Int) :: S) G H Q := by
  simp only [rX9_clears_138, rX9_clears_140, rX9_clears_141, rX9_clears_142, rX9_clears_143, rX9_clears_146, rX9_clears_147, rX9_clears_150, rX9_clears_152, rX9_clears_153, zwk (show t < 2000000000 by omega)]
  unfold nx
  by_cases e : t + 1 = k
  · rw [if_neg (fun z => z (by omega)), if_pos e]
    exact Iff.rfl
  · rw [if_pos (by omega), if_neg e]
theorem nx_c2 {l0 l1 l3 l5 : zV} {S : List zV} {k t : Nat} (ht : t < 1000) {G : zG} {H : zH} {Q : Option zV → zG → zH → Prop} : zRun qX9_clears 210 [l0, l1, vi (k : Int), l3, vi (t : Int), l5] S G H Q ↔ zRun qX9_clears 226 [l0, l1, vi (k : Int), l3, vi (t : Int), l5] (vi (nx k t : Int) :: S) G H Q := by
  simp only [rX9_clears_210, rX9_clears_212, rX9_clears_213, rX9_clears_214, rX9_clears_215, rX9_clears_218, rX9_clears_219, rX9_clears_222, rX9_clears_224, rX9_clears_225, zwk (show t < 2000000000 by omega)]
  unfold nx
  by_cases e : t + 1 = k
  · rw [if_neg (fun z => z (by omega)), if_pos e]
    exact Iff.rfl
  · rw [if_pos (by omega), if_neg e]
/-- one ring -/
theorem mclear {P k r : Nat} {o : zMx} {m off : Int} {l5 : zV} {G : zG} {H : zH} {Q' : Option zV → zG → zH → Prop} (hG : zOK G) (hP : 1 ≤ P) (hP6 : P ≤ 6) (k2 : 2 ≤ k) (kP : k ≤ P) (hM : MM H o) (hu : Bup o) (hd : Bdn m o) (hm : m ≤ 1000000) (ht : tok o P k r) (o0 : 0 ≤ off) (o1 : off ≤ 1000000) (hc : ∀ j : Nat, j < k → H 145 (j : Int) = cf P k r j)
    (hq : ∀ (H' : zH) (l3 l4 l5 : zV), (∀ b, b ≠ 144 → H' b = H b) → MM H' (clr o P k r) → zRun qX9_clears 93 [vr 130, vi (off + lst o P k r * (k : Int)), vi (k : Int), l3, l4, l5] [] G H' Q') : zRun qX9_clears 114 [vr 130, vi off, vi (k : Int), vi 0, vi 0, l5] [] G H Q' := by
  have hl := lst_rng hP hP6 k2 hu ht
  have cr : ∀ j, 0 ≤ cf P k r j ∧ cf P k r j < 6 := fun j => by
    have := cf_rng (P := P) (k := k) (r := r) (j := j) hP
    omega
  have hlk : lst o P k r * (k : Int) ≤ 1600 * 6 := Int.mul_le_mul (by omega) (by omega) (by omega) (by omega)
  have hlk0 : 0 ≤ lst o P k r * (k : Int) := Int.mul_nonneg (by omega) (by omega)
  have w12 : ∀ x y : Int, (0 ≤ x ∧ x < 6) → (0 ≤ y ∧ y < 6) → zw (6 * x) = 6 * x ∧ zw (6 * x + y) = 6 * x + y := fun x y hx hy => ⟨zw_id (by omega) (by omega), zw_id (by omega) (by omega)⟩
  have loop2 : ∀ (n t : Nat) (l5 : zV) (H' : zH), t + n = k → (∀ b, b ≠ 144 → H' b = H b) → MM H' (cut o (cf P k r) k (lst o P k r) t) → zRun qX9_clears 186 [vr 130, vi off, vi (k : Int), vi (lst o P k r), vi (t : Int), l5] [] G H' Q' := by
    intro n
    induction n with
    | zero =>
      intro t l5 H' htn hf hM'
      have e : t = k := by omega
      subst e
      have := hq H' (vi (lst o P t r)) (vi (t : Int)) l5 hf hM'
      rw [rX9_clears_186]
      simp only [rX9_clears_188, rX9_clears_189]
      rw [if_pos (Int.le_refl _)]
      simp only [rX9_clears_239, rX9_clears_240, rX9_clears_241, rX9_clears_242, rX9_clears_243, rX9_clears_244, rX9_clears_245, true_and, and_true, true_or, or_true, false_or, or_false, Option.toList_some, Option.toList_none, List.nil_append, List.cons_append, zn1, zw_id (z := lst o P t r * (t : Int)) (by omega) (by omega), zw_id (z := off + lst o P t r * (t : Int)) (by omega) (by omega)]
      exact this
    | succ n ih =>
      intro t l5 H' htn hf hM'
      have kt : (0 : Int) ≤ (t : Int) ∧ (t : Int) < 6 := by omega
      have kn : (0 : Int) ≤ (nx k t : Int) ∧ (nx k t : Int) < 6 := by
        have := nx_lt (k := k) (j := t) (by omega)
        omega
      have e1 : H' 145 (t : Int) = cf P k r t := by rw [hf 145 (by omega), hc t (by omega)]
      have e2 : H' 145 (nx k t : Int) = cf P k r (nx k t) := by rw [hf 145 (by omega), hc _ (nx_lt (by omega))]
      have a1 := cr t
      have a2 := cr (nx k t)
      have e3 := hM' _ _ a1.1 a1.2 a2.1 a2.2
      have b1 := cut_le (o := o) (c := cf P k r) (k := k) (v := lst o P k r) (by omega) t (cf P k r t) (cf P k r (nx k t))
      have b2 := cut_ge (o := o) (c := cf P k r) (k := k) (v := lst o P k r) (by omega) (by omega) t (cf P k r t) (cf P k r (nx k t))
      have b3 := hu _ _ a1.1 a1.2 a2.1 a2.2
      have b4 := hd _ _ a1.1 a1.2 a2.1 a2.2
      have go := ih (t + 1) l5 (zset H' 144 (zfu (H' 144) (6 * cf P k r t + cf P k r (nx k t)) (cut o (cf P k r) k (lst o P k r) t (cf P k r t) (cf P k r (nx k t)) - lst o P k r))) (by omega) (fun b hb => by
        rw [zset_ne hb]
        exact hf b hb) (MM_sb hM' a1.1 a1.2 a2.1 a2.2)
      have c1 : ¬ ((k : Int) ≤ (t : Int)) := by omega
      have k36 : 0 ≤ 6 * cf P k r t + cf P k r (nx k t) ∧ 6 * cf P k r t + cf P k r (nx k t) < 36 := by omega
      have e4 : zw (cut o (cf P k r) k (lst o P k r) t (cf P k r t) (cf P k r (nx k t)) - lst o P k r) = cut o (cf P k r) k (lst o P k r) t (cf P k r t) (cf P k r (nx k t)) - lst o P k r := zw_id (by omega) (by omega)
      obtain ⟨w1, w2⟩ := w12 _ _ a1 a2
      rw [rX9_clears_186]
      simp only [rX9_clears_188, rX9_clears_189]
      rw [if_neg c1]
      simp only [rX9_clears_192, rX9_clears_193, rX9_clears_196, rX9_clears_198, rX9_clears_199, rX9_clears_202, rX9_clears_204, rX9_clears_205, rX9_clears_206, rX9_clears_207, nx_c2 (show t < 1000 by clear e4 w1 w2; omega), rX9_clears_226, rX9_clears_227, rX9_clears_228, rX9_clears_229, rX9_clears_230, rX9_clears_231, rX9_clears_232, rX9_clears_233, rX9_clears_236, true_and, and_true, true_or, or_true, false_or, or_false, Option.toList_some, Option.toList_none, List.nil_append, List.cons_append, zn1, kM hG, kt, kn, e1, e2, a1, a2, e3, e4, w1, w2, k36, zup_def, zwk (show t < 2000000000 by clear e4 w1 w2; omega)]
      exact go
  have loop1 : ∀ (n t : Nat) (g : Int) (l5 : zV), t + n = k → (t = 0 ∧ g = 0) ∨ (1 ≤ t ∧ g = mnE o (cf P k r) k t) → zRun qX9_clears 114 [vr 130, vi off, vi (k : Int), vi g, vi (t : Int), l5] [] G H Q' := by
    intro n
    induction n with
    | zero =>
      intro t g l5 htn hg
      have e : t = k := by omega
      have eg : g = lst o P k r := by
        rcases hg with hg | hg
        · omega
        · rw [hg.2, e]
          rfl
      have go := loop2 k 0 l5 H (by omega) (fun _ _ => rfl) hM
      have c1 : (k : Int) ≤ (t : Int) := by omega
      rw [rX9_clears_114]
      simp only [rX9_clears_116, rX9_clears_117]
      rw [if_pos c1, eg]
      simp only [rX9_clears_183, rX9_clears_184, true_and, and_true, true_or, or_true, false_or, or_false, Option.toList_some, Option.toList_none, List.nil_append, List.cons_append, zn1]
      exact go
    | succ n ih =>
      intro t g l5 htn hg
      have kt : (0 : Int) ≤ (t : Int) ∧ (t : Int) < 6 := by omega
      have kn : (0 : Int) ≤ (nx k t : Int) ∧ (nx k t : Int) < 6 := by
        have := nx_lt (k := k) (j := t) (by omega)
        omega
      have e1 := hc t (by omega)
      have e2 := hc (nx k t) (nx_lt (by omega))
      have a1 := cr t
      have a2 := cr (nx k t)
      have e3 : H 144 (6 * cf P k r t + cf P k r (nx k t)) = Ed o (cf P k r) k t := hM _ _ a1.1 a1.2 a2.1 a2.2
      have b3 : Ed o (cf P k r) k t ≤ 1600 := hu _ _ a1.1 a1.2 a2.1 a2.2
      have c1 : ¬ ((k : Int) ≤ (t : Int)) := by omega
      have k36 : 0 ≤ 6 * cf P k r t + cf P k r (nx k t) ∧ 6 * cf P k r t + cf P k r (nx k t) < 36 := by omega
      have go : ∀ g' : Int, g' = mnE o (cf P k r) k (t + 1) → zRun qX9_clears 114 [vr 130, vi off, vi (k : Int), vi g', vi ((t + 1 : Nat) : Int), vi (Ed o (cf P k r) k t)] [] G H Q' := fun g' h => ih (t + 1) g' _ (by omega) (Or.inr ⟨by omega, h⟩)
      have em : mnE o (cf P k r) k (t + 1) = min (mnE o (cf P k r) k t) (Ed o (cf P k r) k t) := rfl
      have q1 : (t : Int) = 0 → Ed o (cf P k r) k t = mnE o (cf P k r) k (t + 1) := fun h => by
        have e0 : mnE o (cf P k r) k t = 1000000 := by
          rw [show t = 0 by omega]
          rfl
        omega
      have q2 : (t : Int) ≠ 0 → g ≤ Ed o (cf P k r) k t → g = mnE o (cf P k r) k (t + 1) := fun h h' => by omega
      have q3 : (t : Int) ≠ 0 → ¬ g ≤ Ed o (cf P k r) k t → Ed o (cf P k r) k t = mnE o (cf P k r) k (t + 1) := fun h h' => by omega
      obtain ⟨w1, w2⟩ := w12 _ _ a1 a2
      rw [rX9_clears_114]
      simp only [rX9_clears_116, rX9_clears_117]
      rw [if_neg c1]
      simp only [rX9_clears_120, rX9_clears_121, rX9_clears_124, rX9_clears_126, rX9_clears_127, rX9_clears_130, rX9_clears_132, rX9_clears_133, rX9_clears_134, rX9_clears_135, nx_c1 (show t < 1000 by clear w1 w2; omega), rX9_clears_154, rX9_clears_155, rX9_clears_156, rX9_clears_157, rX9_clears_159, rX9_clears_161, rX9_clears_164, rX9_clears_166, rX9_clears_167, rX9_clears_170, rX9_clears_172, rX9_clears_175, rX9_clears_176, rX9_clears_177, rX9_clears_180, true_and, and_true, true_or, or_true, false_or, or_false, Option.toList_some, Option.toList_none, List.nil_append, List.cons_append, zn1, kM hG, kt, kn, e1, e2, a1, a2, e3, w1, w2, k36, zwk (show t < 2000000000 by clear w1 w2; omega)]
      by_cases c : (t : Int) = 0
      · rw [if_pos c]
        exact go _ (q1 c)
      · rw [if_neg c]
        by_cases c' : g ≤ Ed o (cf P k r) k t
        · rw [if_pos c']
          exact go _ (q2 c c')
        · rw [if_neg c']
          exact go _ (q3 c c')
  exact loop1 k 0 0 l5 (by omega) (Or.inl ⟨rfl, rfl⟩)
theorem mmain {P : Nat} {o' : zMx} {s : Int} {G : zG} {H : zH} {Q' : Option zV → zG → zH → Prop} (hG : zOK G) (hP : 1 ≤ P) (hP6 : P ≤ 6) (hp : H 130 4 = (P : Int)) (hq : ∀ H' : zH, (∀ b, b ≠ 144 → b ≠ 145 → H' b = H b) → MM H' o' → Q' (some (vi s)) G H') : ∀ (n m t k : Nat) (o : zMx) (s' off : Int) (l3 l4 l5 : zV) (H' : zH), k + m = P + 1 → 2 ≤ k → t + n ≤ 8 → zRg P n o o' s' → noR o P k → Bup o → Bdn (9600 * (t : Int)) o → MM H' o → (∀ b, b ≠ 144 → b ≠ 145 → H' b = H b) → 0 ≤ off → off ≤ 9600 * (t : Int) → off + s' = s → zRun qX9_clears 93 [vr 130, vi off, vi (k : Int), l3, l4, l5] [] G H' Q' := by
  intro n
  induction n with
  | zero =>
    intro m
    induction m with
    | zero =>
      intro t k o s' off l3 l4 l5 H' hk k2 ht hg hn hu hd hM hf o0 o1 es
      obtain ⟨-, rfl, rfl⟩ := hg
      have c1 : (P : Int) < (k : Int) := by omega
      have go := hq H' hf hM
      rw [show s = off by omega] at go
      have e4 : H' 130 4 = (P : Int) := by rw [hf 130 (by omega) (by omega)]; exact hp
      rw [rX9_clears_93]
      simp only [rX9_clears_94, rX9_clears_95, rX9_clears_98, true_and, and_true, true_or, or_true, false_or, or_false, Option.toList_some, Option.toList_none, List.nil_append, List.cons_append, zn1, kM hG, e4]
      rw [if_pos c1]
      simp only [rX9_clears_254, rX9_clears_255]
      exact go
    | succ m ihm =>
      intro t k o s' off l3 l4 l5 H' hk k2 ht hg hn hu hd hM hf o0 o1 es
      have c1 : ¬ ((P : Int) < (k : Int)) := by omega
      have e4 : H' 130 4 = (P : Int) := by rw [hf 130 (by omega) (by omega)]; exact hp
      rw [rX9_clears_93]
      simp only [rX9_clears_94, rX9_clears_95, rX9_clears_98, true_and, and_true, true_or, or_true, false_or, or_false, Option.toList_some, Option.toList_none, List.nil_append, List.cons_append, zn1, kM hG, e4]
      rw [if_neg c1]
      simp only [rX9_clears_101, rX9_clears_102, rX9_clears_103, true_and, and_true, true_or, or_true, false_or, or_false, Option.toList_some, Option.toList_none, List.nil_append, List.cons_append, zn1, kM hG]
      refine kfinds hG hP hP6 k2 (by omega) hM e4 (fun a hno => ?_) (fun a r hfr hca => absurd hfr.2.1 (hg.1 k k2 (by omega) r hfr.1))
      have go := ihm t (k + 1) o s' off l3 l4 l5 (zset H' 145 a) (by omega) (by omega) ht hg (fun k' a b r hr => by
        by_cases e : k' = k
        · subst e
          exact hno r hr
        · exact hn k' a (by omega) r hr) hu hd (fun x y a b c d => by rw [zset_ne (by decide)]; exact hM x y a b c d) (fun b h1 h2 => by rw [zset_ne h2]; exact hf b h1 h2) o0 o1 es
      simp only [rX9_clears_106, rX9_clears_248, rX9_clears_251, true_and, and_true, true_or, or_true, false_or, or_false, Option.toList_some, Option.toList_none, List.nil_append, List.cons_append, zn1, if_true, zwk (show k < 2000000000 by omega)]
      exact go
  | succ n ih =>
    intro m
    induction m with
    | zero =>
      intro t k o s' off l3 l4 l5 H' hk k2 ht hg hn hu hd hM hf o0 o1 es
      obtain ⟨k', r', s'', ⟨k2', kP'⟩, hn', hfr', hg', hs'⟩ := hg
      exact absurd hfr'.2.1 (hn k' k2' (by omega) r' hfr'.1)
    | succ m ihm =>
      intro t k o s' off l3 l4 l5 H' hk k2 ht hg hn hu hd hM hf o0 o1 es
      have c1 : ¬ ((P : Int) < (k : Int)) := by omega
      have e4 : H' 130 4 = (P : Int) := by rw [hf 130 (by omega) (by omega)]; exact hp
      rw [rX9_clears_93]
      simp only [rX9_clears_94, rX9_clears_95, rX9_clears_98, true_and, and_true, true_or, or_true, false_or, or_false, Option.toList_some, Option.toList_none, List.nil_append, List.cons_append, zn1, kM hG, e4]
      rw [if_neg c1]
      simp only [rX9_clears_101, rX9_clears_102, rX9_clears_103, true_and, and_true, true_or, or_true, false_or, or_false, Option.toList_some, Option.toList_none, List.nil_append, List.cons_append, zn1, kM hG]
      refine kfinds hG hP hP6 k2 (by omega) hM e4 (fun a hno => ?_) (fun a r hfr hca => ?_)
      · have go := ihm t (k + 1) o s' off l3 l4 l5 (zset H' 145 a) (by omega) (by omega) ht hg (fun k' a b r hr => by
          by_cases e : k' = k
          · subst e
            exact hno r hr
          · exact hn k' a (by omega) r hr) hu hd (fun x y a b c d => by rw [zset_ne (by decide)]; exact hM x y a b c d) (fun b h1 h2 => by rw [zset_ne h2]; exact hf b h1 h2) o0 o1 es
        simp only [rX9_clears_106, rX9_clears_248, rX9_clears_251, true_and, and_true, true_or, or_true, false_or, or_false, Option.toList_some, Option.toList_none, List.nil_append, List.cons_append, zn1, if_true, zwk (show k < 2000000000 by omega)]
        exact go
      · obtain ⟨k', r', s'', ⟨k2', kP'⟩, hn', hfr', hg', hs'⟩ := hg
        obtain ⟨rfl, rfl⟩ := FR_same k2 k2' hn hfr hn' hfr'
        have hl := lst_rng hP hP6 k2 hu hfr.2.1
        have hlk : lst o P k' r' * (k' : Int) ≤ 1600 * 6 := Int.mul_le_mul (by omega) (by omega) (by omega) (by omega)
        have hlk0 : 0 ≤ lst o P k' r' * (k' : Int) := Int.mul_nonneg (by omega) (by omega)
        have hMa : MM (zset H' 145 a) o := fun x y a b c d => by rw [zset_ne (by decide)]; exact hM x y a b c d
        have go := mclear (m := 9600 * (t : Int)) (off := off) (l5 := l5) (Q' := Q') hG hP hP6 k2 (by omega) hMa hu hd (by omega) hfr.2.1 o0 (by omega) (fun j hj => by rw [zset_eq]; exact hca j hj) (fun H2 m3 m4 m5 hf2 hM2 => ih (m + 1) (t + 1) k' (clr o P k' r') s'' (off + lst o P k' r' * (k' : Int)) m3 m4 m5 H2 (by omega) k2 (by omega) hg' (noR_mono (fun x y => cut_le (by omega) k' x y) hn) (Bup_clr hP hP6 k2 hu hfr.2.1) (by
            have := Bdn_clr hP hP6 k2 (by omega) hu hd hfr.2.1
            rw [show 9600 * ((t + 1 : Nat) : Int) = 9600 * (t : Int) + 9600 by omega]
            exact this) hM2 (fun b h1 h2 => by
            rw [hf2 b h1, zset_ne h2]
            exact hf b h1 h2) (by omega) (by omega) (by omega))
        simp only [rX9_clears_106, rX9_clears_109, rX9_clears_110, rX9_clears_111, rX9_clears_112, true_and, and_true, true_or, or_true, false_or, or_false, Option.toList_some, Option.toList_none, List.nil_append, List.cons_append, zn1, Int.reduceEq, if_false]
        exact go
