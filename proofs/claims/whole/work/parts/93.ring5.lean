/-! rings: the model looks for one -/
def MM (H : zH) (o : zMx) : Prop := ∀ x y : Int, 0 ≤ x → x < 6 → 0 ≤ y → y < 6 → H 144 (6 * x + y) = o x y
theorem pow6 {m n : Nat} (hm : m ≤ 6) (hn : n ≤ 6) : m ^ n ≤ 46656 := by
  have h1 : m ^ n ≤ 6 ^ n := Nat.pow_le_pow_left hm n
  have h2 : 6 ^ n ≤ 6 ^ 6 := Nat.pow_le_pow_right (by decide) hn
  exact Nat.le_trans h1 h2
theorem bits_f : ∀ (m : Fin 64) (x : Fin 6), (0 ≤ zor (m.val : Int) (zshl 1 (x.val : Int)) ∧ zor (m.val : Int) (zshl 1 (x.val : Int)) < 64) ∧ ∀ y : Fin 6, (zand (zshr (zor (m.val : Int) (zshl 1 (x.val : Int))) (y.val : Int)) 1 = 0 ↔ (y ≠ x ∧ zand (zshr (m.val : Int) (y.val : Int)) 1 = 0)) := by decide +kernel
theorem bits {m x : Int} (m0 : 0 ≤ m) (m1 : m < 64) (x0 : 0 ≤ x) (x1 : x < 6) : (0 ≤ zor m (zshl 1 x) ∧ zor m (zshl 1 x) < 64) ∧ ∀ y : Int, 0 ≤ y → y < 6 → (zand (zshr (zor m (zshl 1 x)) y) 1 = 0 ↔ (y ≠ x ∧ zand (zshr m y) 1 = 0)) := by
  obtain ⟨a, rfl⟩ : ∃ a : Nat, m = (a : Int) := ⟨m.toNat, by omega⟩
  obtain ⟨b, rfl⟩ : ∃ b : Nat, x = (b : Int) := ⟨x.toNat, by omega⟩
  have h := bits_f ⟨a, by omega⟩ ⟨b, by omega⟩
  refine ⟨h.1, fun y y0 y1 => ?_⟩
  obtain ⟨c, rfl⟩ : ∃ c : Nat, y = (c : Int) := ⟨y.toNat, by omega⟩
  have h2 := h.2 ⟨c, by omega⟩
  rw [h2]
  constructor
  · rintro ⟨p, q⟩
    exact ⟨fun e => p (Fin.ext (by show c = b; omega)), q⟩
  · rintro ⟨p, q⟩
    exact ⟨fun e => p (by have : c = b := congrArg Fin.val e; omega), q⟩
theorem bits_0 : ∀ y : Int, 0 ≤ y → y < 6 → zand (zshr 0 y) 1 = 0 := fun y y0 y1 => by
  obtain ⟨c, rfl⟩ : ∃ c : Nat, y = (c : Int) := ⟨y.toNat, by omega⟩
  have : ∀ c : Fin 6, zand (zshr 0 (c.val : Int)) 1 = 0 := by decide +kernel
  exact this ⟨c, by omega⟩
theorem nx_f {l0 l2 l3 l4 l5 l6 : zV} {S : List zV} {k t : Nat} (ht : t < 1000) {G : zG} {H : zH} {Q : Option zV → zG → zH → Prop} : zRun qX9_findsRing 150 [l0, vi (k : Int), l2, l3, l4, l5, l6, vi (t : Int)] S G H Q ↔ zRun qX9_findsRing 166 [l0, vi (k : Int), l2, l3, l4, l5, l6, vi (t : Int)] (vi (nx k t : Int) :: S) G H Q := by
  simp only [rX9_findsRing_150, rX9_findsRing_152, rX9_findsRing_153, rX9_findsRing_154, rX9_findsRing_155, rX9_findsRing_158, rX9_findsRing_159, rX9_findsRing_162, rX9_findsRing_164, rX9_findsRing_165, zwk (show t < 2000000000 by omega)]
  unfold nx
  by_cases e : t + 1 = k
  · rw [if_neg (fun z => z (by omega)), if_pos e]
    exact Iff.rfl
  · rw [if_pos (by omega), if_neg e]
def Dst (P k r t : Nat) : Prop := ∀ q' : Nat, q' < k → ∀ q : Nat, t ≤ q → q < q' → cf P k r q ≠ cf P k r q'
theorem Dst_s {P k r t : Nat} (ht : t < k) : Dst P k r t ↔ (Dst P k r (t + 1) ∧ ∀ q : Nat, t + 1 ≤ q → q < k → cf P k r q ≠ cf P k r t) := by
  constructor
  · intro h
    exact ⟨fun q' h1 q h2 h3 => h q' h1 q (by omega) h3, fun q h1 h2 e => h q h2 t (Nat.le_refl _) (by omega) e.symm⟩
  · rintro ⟨h1, h2⟩ q' a q b c
    by_cases e : q = t
    · rw [e]
      exact fun z => h2 q' (by omega) a z.symm
    · exact h1 q' a q (by omega) c
theorem kfinds {P k : Nat} {o : zMx} {G : zG} {H : zH} {Q' : Option zV → zG → zH → Prop} (hG : zOK G) (hP : 1 ≤ P) (hP6 : P ≤ 6) (k2 : 2 ≤ k) (kP : k ≤ P) (hM : MM H o) (hp : H 130 4 = (P : Int))
    (h0 : ∀ a : Int → Int, (∀ r, r < P ^ k → ¬ tok o P k r) → Q' (some (vi 0)) G (zset H 145 a))
    (h1 : ∀ (a : Int → Int) (r : Nat), FR o P k r → (∀ j : Nat, j < k → a (j : Int) = cf P k r j) → Q' (some (vi 1)) G (zset H 145 a)) : zCall qX9_findsRing [vr 130, vi (k : Int)] G H Q' := by
  have hpk : P ^ k ≤ 46656 := pow6 hP6 (by omega)
  have k0 : (0 : Int) ≤ 0 ∧ (0 : Int) < 6 := by decide
  have Pne : (P : Int) ≠ 0 := by omega
  have n4 : ∀ a, zset H 145 a 130 4 = (P : Int) := fun a => by rw [zset_ne (by decide)]; exact hp
  have cr : ∀ r j, 0 ≤ cf P k r j ∧ cf P k r j < 6 := fun r j => by
    have := cf_rng (P := P) (k := k) (r := r) (j := j) hP
    omega
  have hw1 : ∀ w : Nat, w ≤ 46656 → zrem (w : Int) (P : Int) = ((w % P : Nat) : Int) := fun w hw => by
    rw [zrem_pos (by omega) (by omega) (by omega) (by omega)]
    rfl
  have hw2 : ∀ w : Nat, w ≤ 46656 → zdiv (w : Int) (P : Int) = ((w / P : Nat) : Int) := fun w hw => by
    rw [zdiv_pos (by omega) (by omega) (by omega) (by omega)]
    rfl
  -- one row
  have row : ∀ (r : Nat) (a : Int → Int) (l4 l5 l6 l7 : zV), r < P ^ k → (∀ q, q < r → ¬ tok o P k q) → (∀ (a : Int → Int) (l4 l5 l6 l7 : zV), ¬ tok o P k r → zRun qX9_findsRing 24 [vr 130, vi (k : Int), vi ((P ^ k : Nat) : Int), vi ((r + 1 : Nat) : Int), l4, l5, l6, l7] [] G (zset H 145 a) Q') → zRun qX9_findsRing 24 [vr 130, vi (k : Int), vi ((P ^ k : Nat) : Int), vi (r : Int), l4, l5, l6, l7] [] G (zset H 145 a) Q' := by
    intro r a l4 l5 l6 l7 hr hno next
    have fin : ∀ (ok : Int) (a : Int → Int) (l4 l5 l7 : zV), (ok = 1 ∧ tok o P k r ∧ (∀ j : Nat, j < k → a (j : Int) = cf P k r j)) ∨ (ok = 0 ∧ ¬ tok o P k r) → zRun qX9_findsRing 201 [vr 130, vi (k : Int), vi ((P ^ k : Nat) : Int), vi (r : Int), l4, l5, vi ok, l7] [] G (zset H 145 a) Q' := by
      intro ok a l4 l5 l7 h
      rcases h with ⟨rfl, ht, hc⟩ | ⟨rfl, ht⟩
      · have go := h1 a r ⟨hr, ht, hno⟩ hc
        simp only [rX9_findsRing_201, rX9_findsRing_203, rX9_findsRing_206, rX9_findsRing_207, true_and, and_true, true_or, or_true, false_or, or_false, Option.toList_some, Option.toList_none, List.nil_append, List.cons_append, zn1, Int.reduceEq, if_false]
        exact go
      · have go := next a l4 l5 (vi 0) l7 ht
        simp only [rX9_findsRing_201, rX9_findsRing_203, rX9_findsRing_208, rX9_findsRing_211, true_and, and_true, true_or, or_true, false_or, or_false, Option.toList_some, Option.toList_none, List.nil_append, List.cons_append, zn1, if_true, zwk (show r < 2000000000 by omega)]
        exact go
    have second : ∀ (m t : Nat) (ok : Int) (a : Int → Int) (l4 : zV) (n5 : Int), t + m = k → (∀ j : Nat, j < k → a (j : Int) = cf P k r j) → (ok = 1 ∧ Dst P k r 0 ∧ ∀ j, j < t → 0 < o (cf P k r j) (cf P k r (nx k j)) ∧ cf P k r 0 ≤ cf P k r j) ∨ (ok = 0 ∧ ¬ tok o P k r) → zRun qX9_findsRing 121 [vr 130, vi (k : Int), vi ((P ^ k : Nat) : Int), vi (r : Int), l4, vi n5, vi ok, vi (t : Int)] [] G (zset H 145 a) Q' := by
      intro m
      induction m with
      | zero =>
        intro t ok a l4 n5 ht hc hok
        have e : t = k := by omega
        have c1 : (k : Int) ≤ (t : Int) := by omega
        have go := fin ok a l4 (vi n5) (vi (t : Int)) (by
          rcases hok with ⟨e1, e2, e3⟩ | e1
          · refine Or.inl ⟨e1, ⟨fun j hj q hq => e2 j hj q (by omega) hq, fun j hj => e3 j (by omega)⟩, hc⟩
          · exact Or.inr e1)
        rw [rX9_findsRing_121]
        simp only [rX9_findsRing_123, rX9_findsRing_124]
        rw [if_pos c1]
        exact go
      | succ m ih =>
        intro t ok a l4 n5 ht hc hok
        have c1 : ¬ ((k : Int) ≤ (t : Int)) := by omega
        rw [rX9_findsRing_121]
        simp only [rX9_findsRing_123, rX9_findsRing_124]
        rw [if_neg c1]
        simp only [rX9_findsRing_127, rX9_findsRing_129]
        rcases hok with ⟨rfl, e2, e3⟩ | ⟨rfl, e1⟩
        · have a1 := cr r t
          have a2 := cr r (nx k t)
          have kt : (0 : Int) ≤ (t : Int) ∧ (t : Int) < 6 := by omega
          have kn : (0 : Int) ≤ (nx k t : Int) ∧ (nx k t : Int) < 6 := by
            have := nx_lt (k := k) (j := t) (by omega)
            omega
          have g1 := hc t (by omega)
          have g2 := hc (nx k t) (nx_lt (by omega))
          have g0 : a 0 = cf P k r 0 := hc 0 (by omega)
          have k36 : 0 ≤ 6 * cf P k r t + cf P k r (nx k t) ∧ 6 * cf P k r t + cf P k r (nx k t) < 36 := by omega
          have gm : zset H 145 a 144 (6 * cf P k r t + cf P k r (nx k t)) = o (cf P k r t) (cf P k r (nx k t)) := by
            rw [zset_ne (by decide)]
            exact hM _ _ a1.1 a1.2 a2.1 a2.2
          have w1 := zw_id (z := 6 * cf P k r t) (by omega) (by omega)
          have w2 := zw_id (z := 6 * cf P k r t + cf P k r (nx k t)) (by clear w1; omega) (by clear w1; omega)
          have yes : (0 < o (cf P k r t) (cf P k r (nx k t)) ∧ cf P k r 0 ≤ cf P k r t) → zRun qX9_findsRing 121 [vr 130, vi (k : Int), vi ((P ^ k : Nat) : Int), vi (r : Int), l4, vi n5, vi 1, vi ((t + 1 : Nat) : Int)] [] G (zset H 145 a) Q' := fun h => ih (t + 1) 1 a l4 n5 (by clear w1 w2; omega) hc (Or.inl ⟨rfl, e2, fun j hj => by
            by_cases e : j = t
            · rw [e]
              exact h
            · exact e3 j (by clear w1 w2; omega)⟩)
          have no : ¬ (0 < o (cf P k r t) (cf P k r (nx k t)) ∧ cf P k r 0 ≤ cf P k r t) → zRun qX9_findsRing 121 [vr 130, vi (k : Int), vi ((P ^ k : Nat) : Int), vi (r : Int), l4, vi n5, vi 0, vi ((t + 1 : Nat) : Int)] [] G (zset H 145 a) Q' := fun h => ih (t + 1) 0 a l4 n5 (by clear w1 w2; omega) hc (Or.inr ⟨rfl, fun z => h (z.2 t (by clear w1 w2; omega))⟩)
          simp only [Int.reduceEq, if_false, rX9_findsRing_132, rX9_findsRing_133, rX9_findsRing_136, rX9_findsRing_138, rX9_findsRing_139, rX9_findsRing_142, rX9_findsRing_144, rX9_findsRing_145, rX9_findsRing_146, rX9_findsRing_147, nx_f (show t < 1000 by clear w1 w2; omega), rX9_findsRing_166, rX9_findsRing_167, rX9_findsRing_168, rX9_findsRing_169, rX9_findsRing_172, rX9_findsRing_173, rX9_findsRing_176, rX9_findsRing_178, rX9_findsRing_179, rX9_findsRing_180, rX9_findsRing_183, rX9_findsRing_184, rX9_findsRing_185, rX9_findsRing_188, rX9_findsRing_189, rX9_findsRing_192, rX9_findsRing_193, rX9_findsRing_195, rX9_findsRing_198, true_and, and_true, true_or, or_true, false_or, or_false, Option.toList_some, Option.toList_none, List.nil_append, List.cons_append, zn1, kM hG, zset_eq, kt, kn, k0, Int.le_refl, g1, g2, g0, w1, w2, k36, gm, zwk (show t < 2000000000 by clear w1 w2; omega)]
          by_cases c : o (cf P k r t) (cf P k r (nx k t)) ≤ 0
          · have := no (fun z => by clear w1 w2; omega)
            rw [if_pos c]
            exact this
          · rw [if_neg c]
            by_cases c' : cf P k r t < cf P k r 0
            · have := no (fun z => by clear w1 w2; omega)
              rw [if_pos c']
              exact this
            · have := yes ⟨by clear w1 w2; omega, by clear w1 w2; omega⟩
              rw [if_neg c']
              exact this
        · rw [if_pos rfl]
          exact fin 0 a l4 (vi n5) _ (Or.inr ⟨rfl, e1⟩)
    have first : ∀ (t : Nat) (met ok : Int) (a : Int → Int), t ≤ k → (∀ j : Nat, t ≤ j → j < k → a (j : Int) = cf P k r j) → 0 ≤ met → met < 64 → (∀ y : Int, 0 ≤ y → y < 6 → (zand (zshr met y) 1 = 0 ↔ ∀ q : Nat, t ≤ q → q < k → cf P k r q ≠ y)) → (ok = 1 ∧ Dst P k r t) ∨ (ok = 0 ∧ ¬ Dst P k r t) → zRun qX9_findsRing 43 [vr 130, vi (k : Int), vi ((P ^ k : Nat) : Int), vi (r : Int), vi ((r / P ^ (k - t) : Nat) : Int), vi met, vi ok, vi ((t : Int) - 1)] [] G (zset H 145 a) Q' := by
      intro t
      induction t with
      | zero =>
        intro met ok a ht hc m0 m1 hm hok
        have go := second k 0 ok a (vi ((r / P ^ (k - 0) : Nat) : Int)) met (by omega) (fun j hj => hc j (by omega) hj) (by
          rcases hok with ⟨e1, e2⟩ | ⟨e1, e2⟩
          · exact Or.inl ⟨e1, e2, fun j hj => by omega⟩
          · exact Or.inr ⟨e1, fun z => e2 (fun q' h1 q h2 h3 => z.1 q' h1 q h3)⟩)
        have c1 : ((0 : Nat) : Int) - 1 < 0 := by omega
        rw [rX9_findsRing_43]
        simp only [rX9_findsRing_45]
        rw [if_pos c1]
        simp only [rX9_findsRing_118, rX9_findsRing_119, true_and, and_true, true_or, or_true, false_or, or_false, Option.toList_some, Option.toList_none, List.nil_append, List.cons_append, zn1]
        exact go
      | succ t ih =>
        intro met ok a ht hc m0 m1 hm hok
        have c1 : ¬ ((((t + 1 : Nat) : Int) - 1) < 0) := by omega
        have et : ((t + 1 : Nat) : Int) - 1 = (t : Int) := by omega
        have kt : (0 : Int) ≤ (t : Int) ∧ (t : Int) < 6 := by omega
        have a1 := cr r t
        have ecf : cf P k r t = ((r / P ^ (k - (t + 1)) % P : Nat) : Int) := by
          unfold cf Fg
          rw [show k - 1 - t = k - (t + 1) by omega]
        have hle : r / P ^ (k - (t + 1)) ≤ r := Nat.div_le_self _ _
        have e1 : zrem ((r / P ^ (k - (t + 1)) : Nat) : Int) (P : Int) = cf P k r t := by
          rw [hw1 _ (Nat.le_trans hle (by omega)), ecf]
        have e2 : zdiv ((r / P ^ (k - (t + 1)) : Nat) : Int) (P : Int) = ((r / P ^ (k - t) : Nat) : Int) := by
          rw [hw2 _ (Nat.le_trans hle (by omega)), show k - t = (k - (t + 1)) + 1 by omega, Nat.pow_succ, ← Nat.div_div_eq_div_mul]
        have e3 : zw ((t : Int) + (-1)) = (t : Int) - 1 := zw_id (by omega) (by omega)
        obtain ⟨⟨b0, b1⟩, b2⟩ := bits m0 m1 a1.1 a1.2
        have hm' : ∀ y : Int, 0 ≤ y → y < 6 → (zand (zshr (zor met (zshl 1 (cf P k r t))) y) 1 = 0 ↔ ∀ q : Nat, t ≤ q → q < k → cf P k r q ≠ y) := fun y y0 y1 => by
          rw [b2 y y0 y1, hm y y0 y1]
          constructor
          · rintro ⟨p1, p2⟩ q q0 q1
            by_cases e : q = t
            · rw [e]
              exact fun z => p1 z.symm
            · exact p2 q (by clear e1 e2 e3; omega) q1
          · intro p
            exact ⟨fun z => p t (Nat.le_refl _) (by clear e1 e2 e3; omega) z.symm, fun q q0 q1 => p q (by clear e1 e2 e3; omega) q1⟩
        have go : ∀ ok' : Int, (ok' = 1 ∧ Dst P k r t) ∨ (ok' = 0 ∧ ¬ Dst P k r t) → zRun qX9_findsRing 43 [vr 130, vi (k : Int), vi ((P ^ k : Nat) : Int), vi (r : Int), vi ((r / P ^ (k - t) : Nat) : Int), vi (zor met (zshl 1 (cf P k r t))), vi ok', vi ((t : Int) - 1)] [] G (zset H 145 (zfu a (t : Int) (cf P k r t))) Q' := fun ok' h => ih _ ok' (zfu a (t : Int) (cf P k r t)) (by clear e1 e2 e3; omega) (fun j j0 j1 => by
          rw [zfu_at]
          by_cases e : j = t
          · rw [if_pos (by clear e1 e2 e3; omega), e]
          · rw [if_neg (by clear e1 e2 e3; omega)]
            exact hc j (by clear e1 e2 e3; omega) j1) b0 b1 hm' h
        have ds := Dst_s (P := P) (k := k) (r := r) (t := t) (by clear e1 e2 e3; omega)
        have hb := hm (cf P k r t) a1.1 a1.2
        have z1 : zfu a (t : Int) (cf P k r t) (t : Int) = cf P k r t := by rw [zfu_at, if_pos rfl]
        rw [rX9_findsRing_43]
        simp only [rX9_findsRing_45]
        rw [if_neg c1, et]
        simp only [rX9_findsRing_48, rX9_findsRing_49, rX9_findsRing_52, rX9_findsRing_54, rX9_findsRing_56, rX9_findsRing_57, rX9_findsRing_60, rX9_findsRing_61, rX9_findsRing_62, rX9_findsRing_64, rX9_findsRing_65, rX9_findsRing_68, rX9_findsRing_69, rX9_findsRing_71, rX9_findsRing_73, rX9_findsRing_76, rX9_findsRing_78, rX9_findsRing_79, rX9_findsRing_82, rX9_findsRing_84, rX9_findsRing_85, rX9_findsRing_86, rX9_findsRing_87, rX9_findsRing_88, rX9_findsRing_91, rX9_findsRing_92, rX9_findsRing_95, rX9_findsRing_96, rX9_findsRing_98, rX9_findsRing_100, rX9_findsRing_101, rX9_findsRing_102, rX9_findsRing_105, rX9_findsRing_107, rX9_findsRing_108, rX9_findsRing_109, rX9_findsRing_110, rX9_findsRing_112, rX9_findsRing_115, true_and, and_true, true_or, or_true, false_or, or_false, Option.toList_some, Option.toList_none, List.nil_append, List.cons_append, zn1, kM hG, zup_def, zset_eq, zset_set, n4, Pne, ne_eq, not_false_eq_true, e1, e2, e3, kt, z1]
        rcases hok with ⟨rfl, d1⟩ | ⟨rfl, d1⟩
        · rw [if_neg (by decide)]
          by_cases c : zand (zshr met (cf P k r t)) 1 = 0
          · have := go 1 (Or.inl ⟨rfl, ds.mpr ⟨d1, hb.mp c⟩⟩)
            simp only [c, not_true_eq_false, if_false]
            exact this
          · have := go 0 (Or.inr ⟨rfl, fun z => c (hb.mpr (ds.mp z).2)⟩)
            simp only [c, not_false_eq_true, if_true]
            exact this
        · have := go 0 (Or.inr ⟨rfl, fun z => d1 (ds.mp z).1⟩)
          rw [if_pos rfl]
          exact this
    have c1 : ¬ (((P ^ k : Nat) : Int) ≤ (r : Int)) := by omega
    have go := first k 0 1 a (Nat.le_refl _) (fun j j0 j1 => by omega) (Int.le_refl _) (by omega) (fun y y0 y1 => ⟨fun _ q q0 q1 => by omega, fun _ => bits_0 y y0 y1⟩) (Or.inl ⟨rfl, fun q' h1 q h2 h3 => by omega⟩)
    rw [Nat.sub_self, Nat.pow_zero, Nat.div_one] at go
    have e1 : zw ((k : Int) - 1) = (k : Int) - 1 := zw_id (by omega) (by omega)
    rw [rX9_findsRing_24]
    simp only [rX9_findsRing_25, rX9_findsRing_26]
    rw [if_neg c1]
    simp only [rX9_findsRing_29, rX9_findsRing_30, rX9_findsRing_32, rX9_findsRing_33, rX9_findsRing_35, rX9_findsRing_36, rX9_findsRing_38, rX9_findsRing_39, rX9_findsRing_40, rX9_findsRing_41, true_and, and_true, true_or, or_true, false_or, or_false, Option.toList_some, Option.toList_none, List.nil_append, List.cons_append, zn1, e1]
    exact go
  have outer : ∀ (m r : Nat) (a : Int → Int) (l4 l5 l6 l7 : zV), r + m = P ^ k → (∀ q, q < r → ¬ tok o P k q) → zRun qX9_findsRing 24 [vr 130, vi (k : Int), vi ((P ^ k : Nat) : Int), vi (r : Int), l4, l5, l6, l7] [] G (zset H 145 a) Q' := by
    intro m
    induction m with
    | zero =>
      intro r a l4 l5 l6 l7 hr hno
      have c1 : ((P ^ k : Nat) : Int) ≤ (r : Int) := by omega
      have go := h0 a (fun q hq => hno q (by omega))
      rw [rX9_findsRing_24]
      simp only [rX9_findsRing_25, rX9_findsRing_26]
      rw [if_pos c1]
      simp only [rX9_findsRing_214, rX9_findsRing_215, true_and, and_true, true_or, or_true, false_or, or_false, Option.toList_some, Option.toList_none, List.nil_append, List.cons_append, zn1]
      exact go
    | succ m ih =>
      intro r a l4 l5 l6 l7 hr hno
      refine row r a l4 l5 l6 l7 (by omega) hno (fun b m4 m5 m6 m7 hn => ih (r + 1) b m4 m5 m6 m7 (by omega) (fun q hq => ?_))
      by_cases e : q = r
      · rw [e]
        exact hn
      · exact hno q (by omega)
  have pw : ∀ (m t : Nat), t + m = k → zRun qX9_findsRing 4 [vr 130, vi (k : Int), vi ((P ^ t : Nat) : Int), vi (t : Int), vu, vu, vu, vu] [] G H Q' := by
    intro m
    induction m with
    | zero =>
      intro t ht
      have e : t = k := by omega
      have c1 : (k : Int) ≤ (t : Int) := by omega
      have go := outer (P ^ k) 0 (H 145) vu vu vu vu (by omega) (fun q hq => by omega)
      rw [zset_self] at go
      rw [rX9_findsRing_4]
      simp only [rX9_findsRing_5, rX9_findsRing_6]
      rw [if_pos c1, e]
      simp only [rX9_findsRing_22, rX9_findsRing_23, true_and, and_true, true_or, or_true, false_or, or_false, Option.toList_some, Option.toList_none, List.nil_append, List.cons_append, zn1]
      exact go
    | succ m ih =>
      intro t ht
      have c1 : ¬ ((k : Int) ≤ (t : Int)) := by omega
      have go := ih (t + 1) (by omega)
      have hb : P ^ (t + 1) ≤ 46656 := pow6 hP6 (by omega)
      have e1 : ((P ^ t : Nat) : Int) * (P : Int) = ((P ^ (t + 1) : Nat) : Int) := by rw [Nat.pow_succ, Int.natCast_mul]
      rw [rX9_findsRing_4]
      simp only [rX9_findsRing_5, rX9_findsRing_6]
      rw [if_neg c1]
      simp only [rX9_findsRing_9, rX9_findsRing_10, rX9_findsRing_11, rX9_findsRing_14, rX9_findsRing_15, rX9_findsRing_16, rX9_findsRing_19, true_and, and_true, true_or, or_true, false_or, or_false, Option.toList_some, Option.toList_none, List.nil_append, List.cons_append, zn1, kM hG, hp, e1, zw_id (z := ((P ^ (t + 1) : Nat) : Int)) (by omega) (by omega), zwk (show t < 2000000000 by omega)]
      exact go
  have go := pw k 0 (by omega)
  rw [rX9_findsRing_in]
  simp only [rX9_findsRing_0, rX9_findsRing_1, rX9_findsRing_2, rX9_findsRing_3, true_and, and_true, true_or, or_true, false_or, or_false, Option.toList_some, Option.toList_none, List.nil_append, List.cons_append, zn1]
  exact go
