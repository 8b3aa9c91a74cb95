/-! a child -/
def uu (P : Int) (w : Int → Int) : Int → Int := fun p => if 0 ≤ p ∧ p < P then w p else 0
def psum (u : Int → Int) : Nat → Int
  | 0 => 0
  | k + 1 => psum u k + u (k : Int)
theorem psum_6 {u : Int → Int} : psum u 6 = ssum u := by
  show 0 + u 0 + u 1 + u 2 + u 3 + u 4 + u 5 = u 0 + u 1 + u 2 + u 3 + u 4 + u 5
  omega
theorem psum_le {u : Int → Int} (h : ∀ p : Int, 0 ≤ p → p < 6 → 0 ≤ u p) : ∀ (j k : Nat), k + j ≤ 6 → 0 ≤ psum u k ∧ psum u k ≤ psum u (k + j)
  | 0, k, hk => by
    refine ⟨?_, Int.le_refl _⟩
    induction k with
    | zero => exact Int.le_refl 0
    | succ k ih =>
      have := ih (by omega)
      have := h k (by omega) (by omega)
      show 0 ≤ psum u k + u k
      omega
  | j + 1, k, hk => by
    have ih := psum_le h j k (by omega)
    have := h ((k + j : Nat) : Int) (by omega) (by omega)
    refine ⟨ih.1, ?_⟩
    show psum u k ≤ psum u (k + j) + u ((k + j : Nat) : Int)
    omega
theorem psum_0 {u : Int → Int} {P : Nat} : ∀ j : Nat, (∀ k : Nat, P ≤ k → k < P + j → u k = 0) → psum u (P + j) = psum u P
  | 0, _ => rfl
  | j + 1, h => by
    have ih := psum_0 (u := u) (P := P) j (fun k a b => h k a (by omega))
    have := h (P + j) (by omega) (by omega)
    show psum u (P + j) + u ((P + j : Nat) : Int) = psum u P
    omega
/-- the first of the greatest -/
def AMX (f : Int → Int) (n m : Int) : Prop := (0 ≤ m ∧ m < n) ∧ (∀ j : Int, 0 ≤ j → j < n → f j ≤ f m) ∧ ∀ j : Int, 0 ≤ j → j < m → f j < f m
theorem AMX_u {f : Int → Int} {n m m' : Int} (h : AMX f n m) (h' : AMX f n m') : m = m' := by
  obtain ⟨⟨a1, a2⟩, a3, a4⟩ := h
  obtain ⟨⟨b1, b2⟩, b3, b4⟩ := h'
  rcases Int.lt_trichotomy m m' with q | q | q
  · have := b4 m a1 q
    have := a3 m' b1 b2
    omega
  · exact q
  · have := a4 m' b1 q
    have := b3 m a1 a2
    omega
theorem AMX_s {f : Int → Int} {k g : Int} (hk : 1 ≤ k) (h : AMX f k g) : AMX f (k + 1) (if f k ≤ f g then g else k) := by
  obtain ⟨⟨a1, a2⟩, a3, a4⟩ := h
  by_cases c : f k ≤ f g
  · rw [if_pos c]
    refine ⟨⟨a1, by omega⟩, fun j j0 j1 => ?_, a4⟩
    by_cases cj : j = k
    · rw [cj]
      exact c
    · exact a3 j j0 (by omega)
  · rw [if_neg c]
    refine ⟨⟨by omega, by omega⟩, fun j j0 j1 => ?_, fun j j0 j1 => ?_⟩
    · by_cases cj : j = k
      · rw [cj]
        exact Int.le_refl _
      · have := a3 j j0 (by omega)
        omega
    · have := a3 j j0 (by omega)
      omega
theorem AMX_1 {f : Int → Int} : AMX f 1 0 := ⟨by omega, fun j j0 j1 => by
  have : j = 0 := by omega
  rw [this]
  exact Int.le_refl _, fun j j0 j1 => by omega⟩
theorem AMX_ag {f g : Int → Int} {n m : Int} (hn : n ≤ 6) (h : ag6 f g) (ha : AMX f n m) : AMX g n m := by
  obtain ⟨⟨a1, a2⟩, a3, a4⟩ := ha
  refine ⟨⟨a1, a2⟩, fun j j0 j1 => ?_, fun j j0 j1 => ?_⟩
  · rw [← h j j0 (by omega), ← h m a1 (by omega)]
    exact a3 j j0 j1
  · rw [← h j j0 (by omega), ← h m a1 (by omega)]
    exact a4 j j0 j1
theorem AMX_ex (f : Int → Int) : ∀ n : Nat, 1 ≤ n → ∃ m, AMX f (n : Int) m
  | 0, h => by omega
  | 1, _ => ⟨0, AMX_1⟩
  | n + 2, _ => by
    obtain ⟨m, hm⟩ := AMX_ex f (n + 1) (by omega)
    have := AMX_s (by omega) hm
    rw [show (((n + 1 : Nat) : Int)) + 1 = ((n + 2 : Nat) : Int) by omega] at this
    exact ⟨_, this⟩
noncomputable def amx (f : Int → Int) : Int := Classical.choose (AMX_ex f 6 (by omega))
theorem amx_spec (f : Int → Int) : AMX f 6 (amx f) := Classical.choose_spec (AMX_ex f 6 (by omega))
/-- one goes to the greatest rest -/
noncomputable def tk (s : (Int → Int) × (Int → Int)) : (Int → Int) × (Int → Int) := (zfu s.1 (amx s.2) (s.1 (amx s.2) + 1), zfu s.2 (amx s.2) 0)
noncomputable def tkn : Nat → (Int → Int) × (Int → Int) → (Int → Int) × (Int → Int)
  | 0, s => s
  | n + 1, s => tk (tkn n s)
/-- the shares -/
def sg0 (W A : Int) (u : Int → Int) : Int → Int := fun p => W * u p / A
def sr0 (W A : Int) (u : Int → Int) : Int → Int := fun p => W * u p % A
theorem share_sum {W A : Int} {u : Int → Int} (hA : 0 < A) (hs : ssum u = A) : ssum (sr0 W A u) = (W - ssum (sg0 W A u)) * A := by
  have e : ∀ p : Int, sr0 W A u p = W * u p - A * sg0 W A u p := fun p => by
    unfold sr0 sg0
    have := Int.mul_ediv_add_emod (W * u p) A
    omega
  unfold ssum at hs ⊢
  rw [e, e, e, e, e, e]
  have h1 : (W - (sg0 W A u 0 + sg0 W A u 1 + sg0 W A u 2 + sg0 W A u 3 + sg0 W A u 4 + sg0 W A u 5)) * A = W * A - A * sg0 W A u 0 - A * sg0 W A u 1 - A * sg0 W A u 2 - A * sg0 W A u 3 - A * sg0 W A u 4 - A * sg0 W A u 5 := by
    simp only [Int.sub_mul, Int.add_mul, Int.mul_comm A]
    omega
  have h2 : W * A = W * u 0 + W * u 1 + W * u 2 + W * u 3 + W * u 4 + W * u 5 := by
    rw [← hs]
    simp only [Int.mul_add]
  rw [h1, h2]
  omega
theorem sr0_rng {W A : Int} {u : Int → Int} (hA : 0 < A) (p : Int) : 0 ≤ sr0 W A u p ∧ sr0 W A u p < A := ⟨Int.emod_nonneg _ (by omega), Int.emod_lt_of_pos _ hA⟩
theorem sg0_rng {W A : Int} {u : Int → Int} (hA : 0 < A) (hW : 0 ≤ W) (W1 : W ≤ 99) (hu : ∀ p : Int, 0 ≤ p → p < 6 → 0 ≤ u p ∧ u p ≤ A) {p : Int} (p0 : 0 ≤ p) (p1 : p < 6) : 0 ≤ sg0 W A u p ∧ sg0 W A u p ≤ 99 := by
  obtain ⟨h0, h1⟩ := hu p p0 p1
  unfold sg0
  refine ⟨Int.ediv_nonneg (Int.mul_nonneg hW h0) (by omega), ?_⟩
  have : W * u p ≤ 99 * A := Int.mul_le_mul W1 h1 h0 (by omega)
  exact Int.ediv_le_of_le_mul hA this
theorem lack_rng {W A : Int} {u : Int → Int} (hA : 0 < A) (hs : ssum u = A) : 0 ≤ W - ssum (sg0 W A u) ∧ W - ssum (sg0 W A u) ≤ 5 := by
  have h := share_sum (W := W) hA hs
  have a0 := sr0_rng (W := W) (u := u) hA 0
  have a1 := sr0_rng (W := W) (u := u) hA 1
  have a2 := sr0_rng (W := W) (u := u) hA 2
  have a3 := sr0_rng (W := W) (u := u) hA 3
  have a4 := sr0_rng (W := W) (u := u) hA 4
  have a5 := sr0_rng (W := W) (u := u) hA 5
  have hsum : 0 ≤ ssum (sr0 W A u) ∧ ssum (sr0 W A u) < 6 * A := by
    unfold ssum
    omega
  rw [h] at hsum
  generalize W - ssum (sg0 W A u) = x at *
  refine ⟨?_, ?_⟩
  · rcases Int.lt_or_le x 0 with q | q
    · have := Int.mul_le_mul_of_nonneg_right (show x ≤ -1 by omega) (show 0 ≤ A by omega)
      omega
    · exact q
  · rcases Int.lt_or_le 5 x with q | q
    · have := Int.mul_le_mul_of_nonneg_right (show 6 ≤ x by omega) (show 0 ≤ A by omega)
      omega
    · exact q
/-- rests stay rests; while something lacks, one is more than nought -/
def rOK (A T : Int) (r : Int → Int) : Prop := (∀ p : Int, 0 ≤ p → p < 6 → 0 ≤ r p ∧ r p < A) ∧ T ≤ ssum r
theorem rOK_pos {A T : Int} {r : Int → Int} (h : rOK A T r) (hT : 0 < T) : 0 < r (amx r) := by
  obtain ⟨⟨m0, m1⟩, h1, -⟩ := amx_spec r
  have b0 := h1 0 (by omega) (by omega)
  have b1 := h1 1 (by omega) (by omega)
  have b2 := h1 2 (by omega) (by omega)
  have b3 := h1 3 (by omega) (by omega)
  have b4 := h1 4 (by omega) (by omega)
  have b5 := h1 5 (by omega) (by omega)
  have hs := h.2
  unfold ssum at hs
  omega
theorem rOK_tk {A T : Int} {g r : Int → Int} (hA : 0 < A) (h : rOK A T r) : rOK A (T - A) (tk (g, r)).2 := by
  obtain ⟨⟨m0, m1⟩, -⟩ := amx_spec r
  refine ⟨fun p p0 p1 => ?_, ?_⟩
  · show 0 ≤ zfu r (amx r) 0 p ∧ zfu r (amx r) 0 p < A
    rw [zfu_at]
    split
    · omega
    · exact h.1 p p0 p1
  · show T - A ≤ ssum (zfu r (amx r) 0)
    rw [ssum_fu m0 (by omega)]
    have := h.1 (amx r) m0 (by omega)
    have := h.2
    omega
theorem tkn_ok {A : Int} {g r : Int → Int} (hA : 0 < A) : ∀ (n : Nat) {T : Int}, rOK A T r → rOK A (T - (n : Int) * A) (tkn n (g, r)).2
  | 0, T, h => by
    rw [show T - ((0 : Nat) : Int) * A = T by simp]
    exact h
  | n + 1, T, h => by
    have ih := tkn_ok (g := g) hA n h
    have := rOK_tk (g := (tkn n (g, r)).1) hA ih
    rw [show T - ((n + 1 : Nat) : Int) * A = T - (n : Int) * A - A by
      rw [show ((n + 1 : Nat) : Int) = (n : Int) + 1 by omega, Int.add_mul]
      omega]
    exact this
/-- the model's rests: nought is marked -/
def eR (P : Int) (r e : Int → Int) : Prop := ∀ p : Int, 0 ≤ p → p < P → (e p = r p ∧ 0 ≤ e p) ∨ (e p = -1 ∧ r p = 0)
theorem eR_amx {P : Int} {r e : Int → Int} {m : Int} (hP : P ≤ 6) (h : eR P r e) (hz : ∀ p : Int, P ≤ p → p < 6 → r p = 0) (hr : ∀ p : Int, 0 ≤ p → p < 6 → 0 ≤ r p) (hp : 0 < r (amx r)) (hm : AMX e P m) : m = amx r := by
  obtain ⟨⟨m0, m1⟩, h1, h2⟩ := amx_spec r
  have hmP : amx r < P := by
    rcases Int.lt_or_le (amx r) P with q | q
    · exact q
    · have := hz _ q m1
      omega
  have em : e (amx r) = r (amx r) := by
    rcases h _ m0 hmP with q | q
    · exact q.1
    · omega
  refine AMX_u hm ⟨⟨m0, hmP⟩, fun j j0 j1 => ?_, fun j j0 j1 => ?_⟩
  · have a := h1 j j0 (by omega)
    have b := hr j j0 (by omega)
    rcases h j j0 j1 with q | q
    · omega
    · omega
  · have a := h2 j j0 j1
    have b := hr j j0 (by omega)
    rcases h j j0 (by omega) with q | q
    · omega
    · omega
