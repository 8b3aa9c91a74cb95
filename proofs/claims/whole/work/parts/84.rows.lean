/-! rows of numbers -/
def sumN (f : Nat → Nat) : Nat → Nat
  | 0 => 0
  | k + 1 => sumN f k + f k
theorem sumN_congr {f g : Nat → Nat} : ∀ k : Nat, (∀ j, j < k → f j = g j) → sumN f k = sumN g k
  | 0, _ => rfl
  | k + 1, h => by
    rw [sumN, sumN, sumN_congr k (fun j hj => h j (by omega)), h k (by omega)]
theorem sumN_add {f : Nat → Nat} {a : Nat} : ∀ b : Nat, sumN f (a + b) = sumN f a + sumN (fun r => f (a + r)) b
  | 0 => rfl
  | b + 1 => by
    show sumN f (a + b) + f (a + b) = sumN f a + (sumN (fun r => f (a + r)) b + f (a + b))
    rw [sumN_add b]
    omega
theorem sumN_blocks {f : Nat → Nat} {B : Nat} : ∀ k : Nat, sumN f (k * B) = sumN (fun d => sumN (fun r => f (d * B + r)) B) k
  | 0 => by rw [Nat.zero_mul]; rfl
  | k + 1 => by
    rw [Nat.add_mul, Nat.one_mul, sumN_add, sumN_blocks k]
    rfl
theorem sumN_0 {f : Nat → Nat} : ∀ k : Nat, (∀ j, j < k → f j = 0) → sumN f k = 0
  | 0, _ => rfl
  | k + 1, h => by rw [sumN, sumN_0 k (fun j hj => h j (by omega)), h k (by omega)]
theorem sumN_ne {f : Nat → Nat} : ∀ k : Nat, sumN f k ≠ 0 → ∃ j, j < k ∧ f j ≠ 0
  | 0, h => absurd rfl h
  | k + 1, h => by
    rw [sumN] at h
    by_cases c : f k = 0
    · obtain ⟨j, hj, hf⟩ := sumN_ne (f := f) k (by omega)
      exact ⟨j, by omega, hf⟩
    · exact ⟨k, by omega, c⟩
theorem sumN_pos {f : Nat → Nat} {j : Nat} : ∀ k : Nat, j < k → f j ≠ 0 → sumN f k ≠ 0
  | 0, h, _ => by omega
  | k + 1, h, hf => by
    rw [sumN]
    by_cases c : j = k
    · subst c
      omega
    · have := sumN_pos (f := f) k (by omega) hf
      omega
theorem sumN_tail {f : Nat → Nat} {a : Nat} (b : Nat) (h : ∀ j, a ≤ j → f j = 0) : sumN f (a + b) = sumN f a := by
  rw [sumN_add, sumN_0 b (fun j _ => h _ (by omega))]
  rfl
theorem sumN_le {f : Nat → Nat} (h : ∀ j, f j ≤ 1) : ∀ k : Nat, sumN f k ≤ k
  | 0 => Nat.le_refl _
  | k + 1 => by
    have := sumN_le h k
    have := h k
    rw [sumN]
    omega
/-- rows of n numbers from lo to m, none above the next, s together -/
def Cn (m : Nat) : Nat → Nat → Int → Nat
  | 0, _, s => if s = 0 then 1 else 0
  | n + 1, lo, s => sumN (fun d => if lo ≤ d + 1 then Cn m n (d + 1) (s - ((d + 1 : Nat) : Int)) else 0) m
def okp (m : Nat) : Nat → Nat → Int → Nat → Bool
  | 0, _, s, _ => decide (s = 0)
  | n + 1, lo, s, r => decide (lo ≤ r / m ^ n + 1) && okp m n (r / m ^ n + 1) (s - ((r / m ^ n + 1 : Nat) : Int)) (r % m ^ n)
def cnt (p : Nat → Bool) (N : Nat) : Nat := sumN (fun r => if p r = true then 1 else 0) N
theorem cnt_C {m : Nat} (hm : 1 ≤ m) : ∀ (n lo : Nat) (s : Int), cnt (okp m n lo s) (m ^ n) = Cn m n lo s
  | 0, lo, s => by
    show 0 + (if decide (s = 0) = true then 1 else 0) = if s = 0 then 1 else 0
    by_cases c : s = 0
    · simp [c]
    · simp [c]
  | n + 1, lo, s => by
    have hB : 0 < m ^ n := Nat.pow_pos hm
    unfold cnt
    rw [Nat.pow_succ, Nat.mul_comm, sumN_blocks]
    show _ = sumN (fun d => if lo ≤ d + 1 then Cn m n (d + 1) (s - ((d + 1 : Nat) : Int)) else 0) m
    refine sumN_congr m (fun d _ => ?_)
    by_cases c : lo ≤ d + 1
    · rw [if_pos c, ← cnt_C hm n (d + 1)]
      unfold cnt
      refine sumN_congr _ (fun r hr => ?_)
      have e1 : (d * m ^ n + r) / m ^ n = d := by
        rw [Nat.mul_comm, Nat.mul_add_div hB, Nat.div_eq_of_lt hr, Nat.add_zero]
      have e2 : (d * m ^ n + r) % m ^ n = r := by
        rw [Nat.mul_comm, Nat.mul_add_mod, Nat.mod_eq_of_lt hr]
      rw [okp, e1, e2]
      simp [c]
    · rw [if_neg c]
      refine sumN_0 _ (fun r hr => ?_)
      have e1 : (d * m ^ n + r) / m ^ n = d := by
        rw [Nat.mul_comm, Nat.mul_add_div hB, Nat.div_eq_of_lt hr, Nat.add_zero]
      rw [okp, e1]
      simp [c]
theorem Cn_le {m : Nat} (hm : 1 ≤ m) (n lo : Nat) (s : Int) : Cn m n lo s ≤ m ^ n := by
  rw [← cnt_C hm]
  exact sumN_le (fun j => by split <;> omega) _
theorem Cn_hi {m : Nat} : ∀ (n lo : Nat) (s : Int), ((n * m : Nat) : Int) < s → Cn m n lo s = 0
  | 0, lo, s, h => by
    show (if s = 0 then 1 else 0) = 0
    rw [if_neg (by omega)]
  | n + 1, lo, s, h => by
    refine sumN_0 _ (fun d hd => ?_)
    split
    · refine Cn_hi n _ _ ?_
      rw [Nat.add_mul] at h
      omega
    · rfl
theorem Cn_lo {m : Nat} : ∀ (n lo : Nat) (s : Int), s < ((n * lo : Nat) : Int) → Cn m n lo s = 0
  | 0, lo, s, h => by
    rw [Nat.zero_mul] at h
    show (if s = 0 then 1 else 0) = 0
    rw [if_neg (by omega)]
  | n + 1, lo, s, h => by
    refine sumN_0 _ (fun d hd => ?_)
    split
    · rename_i c
      refine Cn_lo n _ _ ?_
      have h1 : n * lo ≤ n * (d + 1) := Nat.mul_le_mul_left n c
      rw [Nat.add_mul] at h
      omega
    · rfl
/-- the least number from x on that leaves a row -/
def gx (m n : Nat) (s : Int) : Nat → Nat → Nat
  | 0, x => x
  | f + 1, x => if x < m ∧ Cn m n x (s - (x : Int)) = 0 then gx m n s f (x + 1) else x
theorem gx_spec {m n : Nat} {s : Int} : ∀ (f x y : Nat), x ≤ y → y ≤ m → Cn m n y (s - (y : Int)) ≠ 0 → y ≤ x + f → (∃ z, gx m n s f x = z ∧ x ≤ z ∧ z ≤ y ∧ Cn m n z (s - (z : Int)) ≠ 0 ∧ ∀ w, x ≤ w → w < z → Cn m n w (s - (w : Int)) = 0)
  | 0, x, y, h1, h2, h3, h4 => by
    have : y = x := by omega
    subst this
    exact ⟨y, rfl, Nat.le_refl _, Nat.le_refl _, h3, fun w a b => by omega⟩
  | f + 1, x, y, h1, h2, h3, h4 => by
    rw [gx]
    by_cases c : Cn m n x (s - (x : Int)) = 0
    · have hxy : x ≠ y := fun e => h3 (e ▸ c)
      rw [if_pos ⟨by omega, c⟩]
      obtain ⟨z, e1, e2, e3, e4, e5⟩ := gx_spec (m := m) (n := n) (s := s) f (x + 1) y (by omega) h2 h3 (by omega)
      refine ⟨z, e1, by omega, e3, e4, fun w a b => ?_⟩
      by_cases cw : w = x
      · rw [cw]
        exact c
      · exact e5 w (by omega) b
    · rw [if_neg (fun z => c z.2)]
      exact ⟨x, rfl, Nat.le_refl _, h1, c, fun w a b => by omega⟩
def gl (m : Nat) : Nat → Nat → Int → List Nat
  | 0, _, _ => []
  | n + 1, lo, s => gx m n s 12 lo :: gl m n (gx m n s 12 lo) (s - (gx m n s 12 lo : Int))
def rwd (m : Nat) : Nat → Nat → List Nat
  | 0, _ => []
  | n + 1, r => (r / m ^ n + 1) :: rwd m n (r % m ^ n)
theorem okp_C {m : Nat} (hm : 1 ≤ m) {n lo : Nat} {s : Int} {r : Nat} (hr : r < m ^ n) (h : okp m n lo s r = true) : Cn m n lo s ≠ 0 := by
  rw [← cnt_C hm]
  refine sumN_pos _ hr ?_
  rw [if_pos h]
  decide
/-- the first row -/
theorem first_row {m : Nat} (hm : 1 ≤ m) (h12 : m ≤ 12) : ∀ (n lo : Nat) (s : Int), 1 ≤ lo → Cn m n lo s ≠ 0 → ∃ r, r < m ^ n ∧ okp m n lo s r = true ∧ (∀ q, q < r → okp m n lo s q = false) ∧ rwd m n r = gl m n lo s
  | 0, lo, s, _, h => by
    refine ⟨0, Nat.pow_pos hm, ?_, fun q hq => by omega, rfl⟩
    show decide (s = 0) = true
    by_cases c : s = 0
    · simp [c]
    · exact absurd (if_neg c) h
  | n + 1, lo, s, h1, h => by
    have hB : 0 < m ^ n := Nat.pow_pos hm
    obtain ⟨d, hd, hf⟩ := sumN_ne _ h
    have hlo : lo ≤ d + 1 := by
      by_cases c : lo ≤ d + 1
      · exact c
      · rw [if_neg c] at hf
        exact absurd rfl hf
    rw [if_pos hlo] at hf
    obtain ⟨z, e1, e2, e3, e4, e5⟩ := gx_spec (m := m) (n := n) (s := s) 12 lo (d + 1) hlo (by omega) hf (by omega)
    obtain ⟨r, r1, r2, r3, r4⟩ := first_row hm h12 n z (s - (z : Int)) (by omega) e4
    have q1 : ((z - 1) * m ^ n + r) / m ^ n = z - 1 := by rw [Nat.mul_comm, Nat.mul_add_div hB, Nat.div_eq_of_lt r1, Nat.add_zero]
    have q2 : ((z - 1) * m ^ n + r) % m ^ n = r := by rw [Nat.mul_comm, Nat.mul_add_mod, Nat.mod_eq_of_lt r1]
    have ez : z - 1 + 1 = z := by omega
    refine ⟨(z - 1) * m ^ n + r, ?_, ?_, fun q hq => ?_, ?_⟩
    · have a1 : (z - 1 + 1) * m ^ n ≤ m * m ^ n := Nat.mul_le_mul_right _ (by omega)
      rw [Nat.add_mul, Nat.one_mul] at a1
      rw [Nat.pow_succ, Nat.mul_comm (m ^ n) m]
      omega
    · rw [okp, q1, q2, ez, r2]
      simp [e2]
    · rw [okp]
      have hq1 : q / m ^ n ≤ z - 1 := by
        rw [← q1]
        exact Nat.div_le_div_right (by omega)
      have hqr : q % m ^ n < m ^ n := Nat.mod_lt _ hB
      by_cases c1 : lo ≤ q / m ^ n + 1
      · by_cases c2 : q / m ^ n = z - 1
        · have hlt : q % m ^ n < r := by
            have := Nat.div_add_mod q (m ^ n)
            rw [c2] at this
            rw [Nat.mul_comm (m ^ n)] at this
            omega
          rw [c2, ez, r3 _ hlt]
          simp
        · cases hb : okp m n (q / m ^ n + 1) (s - ((q / m ^ n + 1 : Nat) : Int)) (q % m ^ n) with
          | false => simp
          | true => exact absurd (e5 (q / m ^ n + 1) c1 (by omega)) (okp_C hm hqr hb)
      · simp [c1]
    · rw [rwd, gl, e1, q1, q2, ez, r4]
/-! by figures from the right -/
def Dg (m r j : Nat) : Nat := r / m ^ j % m + 1
theorem Dg_mod {m r n j : Nat} (hj : j < n) : Dg m (r % m ^ n) j = Dg m r j := by
  unfold Dg
  obtain ⟨k, rfl⟩ : ∃ k, n = j + (k + 1) := ⟨n - j - 1, by omega⟩
  rw [Nat.pow_add, Nat.mod_mul_right_div_self, Nat.pow_succ, Nat.mod_mod_of_dvd _ (Nat.dvd_mul_left m (m ^ k))]
def nds (m r : Nat) (n : Nat) : Prop := ∀ j, j + 1 < n → Dg m r (j + 1) ≤ Dg m r j
def sDg (m r : Nat) (n : Nat) : Nat := sumN (Dg m r) n
theorem okp_iff {m : Nat} (hm : 1 ≤ m) : ∀ (n lo : Nat) (s : Int) (r : Nat), r < m ^ n → (okp m n lo s r = true ↔ ((n = 0 ∨ lo ≤ Dg m r (n - 1)) ∧ nds m r n ∧ (sDg m r n : Int) = s))
  | 0, lo, s, r, hr => by
    show decide (s = 0) = true ↔ _
    rw [decide_eq_true_eq]
    constructor
    · intro h
      exact ⟨Or.inl rfl, fun j hj => by omega, by rw [h]; rfl⟩
    · rintro ⟨-, -, h⟩
      exact h.symm
  | n + 1, lo, s, r, hr => by
    have hB : 0 < m ^ n := Nat.pow_pos hm
    have hd : r / m ^ n < m := by
      rw [Nat.pow_succ] at hr
      exact Nat.div_lt_of_lt_mul hr
    have eD : Dg m r n = r / m ^ n + 1 := by
      unfold Dg
      rw [Nat.mod_eq_of_lt hd]
    have ih := okp_iff hm n (r / m ^ n + 1) (s - ((r / m ^ n + 1 : Nat) : Int)) (r % m ^ n) (Nat.mod_lt _ hB)
    have es : sDg m (r % m ^ n) n = sDg m r n := sumN_congr n (fun j hj => Dg_mod hj)
    have es1 : sDg m r (n + 1) = sDg m r n + (r / m ^ n + 1) := by
      show sumN (Dg m r) n + Dg m r n = _
      rw [eD]
      rfl
    rw [okp, Bool.and_eq_true, decide_eq_true_eq, ih, es]
    constructor
    · rintro ⟨h1, h2, h3, h4⟩
      refine ⟨Or.inr (by rw [Nat.add_sub_cancel, eD]; exact h1), fun j hj => ?_, by rw [es1]; omega⟩
      by_cases c : j + 1 = n
      · rcases h2 with h2 | h2
        · omega
        · rw [c, eD]
          rw [show n - 1 = j by omega, Dg_mod (by omega)] at h2
          exact h2
      · have := h3 j (by omega)
        rw [Dg_mod (by omega), Dg_mod (by omega)] at this
        exact this
    · rintro ⟨h1, h2, h3⟩
      rw [es1] at h3
      refine ⟨?_, ?_, fun j hj => ?_, by omega⟩
      · rcases h1 with h1 | h1
        · omega
        · rw [Nat.add_sub_cancel, eD] at h1
          exact h1
      · rcases Nat.eq_zero_or_pos n with q | q
        · exact Or.inl q
        · refine Or.inr ?_
          have := h2 (n - 1) (by omega)
          rw [show n - 1 + 1 = n by omega, eD] at this
          rw [Dg_mod (by omega)]
          exact this
      · rw [Dg_mod (by omega), Dg_mod (by omega)]
        exact h2 j (by omega)
theorem rwd_get {m : Nat} (hm : 1 ≤ m) : ∀ (n r k : Nat), r < m ^ n → k < n → (rwd m n r)[k]? = some (Dg m r (n - 1 - k))
  | 0, r, k, hr, hk => by omega
  | n + 1, r, 0, hr, hk => by
    have hd : r / m ^ n < m := by
      rw [Nat.pow_succ] at hr
      exact Nat.div_lt_of_lt_mul hr
    show some (r / m ^ n + 1) = _
    unfold Dg
    rw [Nat.add_sub_cancel, Nat.sub_zero, Nat.mod_eq_of_lt hd]
  | n + 1, r, k + 1, hr, hk => by
    show (rwd m n (r % m ^ n))[k]? = _
    rw [rwd_get hm n _ k (Nat.mod_lt _ (Nat.pow_pos hm)) (by omega), Dg_mod (by omega), show n + 1 - 1 - (k + 1) = n - 1 - k by omega]
