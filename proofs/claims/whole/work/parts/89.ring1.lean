/-! rings -/
abbrev zMx : Type := Int → Int → Int
def Fg (P r j : Nat) : Nat := r / P ^ j % P
theorem Fg_mod {m r n j : Nat} (hj : j < n) : Fg m (r % m ^ n) j = Fg m r j := by
  unfold Fg
  obtain ⟨k, rfl⟩ : ∃ k, n = j + (k + 1) := ⟨n - j - 1, by omega⟩
  rw [Nat.pow_add, Nat.mod_mul_right_div_self, Nat.pow_succ, Nat.mod_mod_of_dvd _ (Nat.dvd_mul_left m (m ^ k))]
theorem Fg_lt {P r j : Nat} (hP : 1 ≤ P) : Fg P r j < P := Nat.mod_lt _ (by omega)
theorem Fg_top {P r n : Nat} (hr : r < P ^ (n + 1)) : Fg P r n = r / P ^ n := by
  unfold Fg
  rw [Nat.pow_succ] at hr
  exact Nat.mod_eq_of_lt (Nat.div_lt_of_lt_mul hr)
def rokp (o : zMx) (P : Nat) : Nat → Nat → (Int → Int) → Nat → Prop
  | 0, p, a, _ => 0 < o (a ((p - 1 : Nat) : Int)) (a 0)
  | n + 1, p, a, r => (a 0 < ((r / P ^ n : Nat) : Int) ∧ 0 < o (a ((p - 1 : Nat) : Int)) ((r / P ^ n : Nat) : Int) ∧ ∀ q : Nat, q < p → a (q : Int) ≠ ((r / P ^ n : Nat) : Int)) ∧ rokp o P n (p + 1) (zfu a (p : Int) ((r / P ^ n : Nat) : Int)) (r % P ^ n)
theorem rokp_iff {o : zMx} {P : Nat} (hP : 1 ≤ P) : ∀ (n p : Nat) (a : Int → Int) (r : Nat) (c : Nat → Int), 1 ≤ p → r < P ^ n → (∀ j : Nat, j < p → c j = a (j : Int)) → (∀ j : Nat, j < n → c (p + j) = (Fg P r (n - 1 - j) : Int)) → (rokp o P n p a r ↔ ((∀ j, p ≤ j → j < p + n → c 0 < c j ∧ ∀ q, q < j → c q ≠ c j) ∧ (∀ j, p ≤ j + 1 → j + 1 < p + n → 0 < o (c j) (c (j + 1))) ∧ 0 < o (c (p + n - 1)) (c 0)))
  | 0, p, a, r, c, p1, hr, h1, h2 => by
    show 0 < o (a ((p - 1 : Nat) : Int)) (a 0) ↔ _
    rw [← h1 (p - 1) (by omega), show a 0 = c 0 from (h1 0 (by omega)).symm]
    constructor
    · intro h
      exact ⟨fun j a b => by omega, fun j a b => by omega, h⟩
    · rintro ⟨-, -, h⟩
      exact h
  | n + 1, p, a, r, c, p1, hr, h1, h2 => by
    have hB : 0 < P ^ n := Nat.pow_pos hP
    have ex : ((r / P ^ n : Nat) : Int) = c p := by
      have := h2 0 (by omega)
      rw [Nat.add_zero, show n + 1 - 1 - 0 = n by omega, Fg_top hr] at this
      exact this.symm
    have ih := rokp_iff (o := o) hP n (p + 1) (zfu a (p : Int) (c p)) (r % P ^ n) c (by omega) (Nat.mod_lt _ hB) (fun j hj => by
      rw [zfu_at]
      by_cases e : j = p
      · rw [if_pos (by omega), e]
      · rw [if_neg (by omega)]
        exact h1 j (by omega)) (fun j hj => by
      rw [show p + 1 + j = p + (j + 1) by omega, h2 (j + 1) (by omega), Fg_mod (by omega), show n + 1 - 1 - (j + 1) = n - 1 - j by omega])
    rw [rokp, ex, ih, ← h1 (p - 1) (by omega), show a 0 = c 0 from (h1 0 (by omega)).symm]
    constructor
    · rintro ⟨⟨a1, a2, a3⟩, b1, b2, b3⟩
      refine ⟨fun j j0 j1 => ?_, fun j j0 j1 => ?_, ?_⟩
      · by_cases e : j = p
        · subst e
          exact ⟨a1, fun q hq => by rw [h1 q hq]; exact a3 q hq⟩
        · exact b1 j (by omega) (by omega)
      · by_cases e : j + 1 = p
        · subst e
          exact a2
        · exact b2 j (by omega) (by omega)
      · rw [show p + (n + 1) - 1 = p + 1 + n - 1 by omega]
        exact b3
    · rintro ⟨b1, b2, b3⟩
      refine ⟨⟨(b1 p (by omega) (by omega)).1, ?_, fun q hq => ?_⟩, fun j j0 j1 => b1 j (by omega) (by omega), fun j j0 j1 => b2 j (by omega) (by omega), ?_⟩
      · have := b2 (p - 1) (by omega) (by omega)
        rw [show p - 1 + 1 = p by omega] at this
        exact this
      · rw [← h1 q hq]
        exact (b1 p (by omega) (by omega)).2 q hq
      · rw [show p + (n + 1) - 1 = p + 1 + n - 1 by omega] at b3
        exact b3
theorem rokp_congr {o : zMx} {P : Nat} : ∀ (n p : Nat) (a b : Int → Int) (r : Nat), 1 ≤ p → (∀ q : Nat, q < p → a (q : Int) = b (q : Int)) → rokp o P n p a r → rokp o P n p b r
  | 0, p, a, b, r, p1, h, k => by
    show 0 < o (b ((p - 1 : Nat) : Int)) (b 0)
    rw [← h (p - 1) (by omega), show b 0 = a 0 from (h 0 (by omega)).symm]
    exact k
  | n + 1, p, a, b, r, p1, h, k => by
    obtain ⟨⟨k1, k2, k3⟩, k4⟩ := k
    refine ⟨⟨?_, ?_, fun q hq => ?_⟩, rokp_congr n (p + 1) _ _ _ (by omega) (fun q hq => ?_) k4⟩
    · rw [show b 0 = a 0 from (h 0 (by omega)).symm]
      exact k1
    · rw [← h (p - 1) (by omega)]
      exact k2
    · rw [← h q hq]
      exact k3 q hq
    · rw [zfu_at, zfu_at]
      by_cases e : q = p
      · rw [if_pos (by omega), if_pos (by omega)]
      · rw [if_neg (by omega), if_neg (by omega)]
        exact h q (by omega)
def cf (P k r j : Nat) : Int := (Fg P r (k - 1 - j) : Int)
def nx (k j : Nat) : Nat := if j + 1 = k then 0 else j + 1
theorem nx_lt {k j : Nat} (hj : j < k) : nx k j < k := by
  unfold nx
  split <;> omega
theorem cf_rng {P k r j : Nat} (hP : 1 ≤ P) : 0 ≤ cf P k r j ∧ cf P k r j < (P : Int) := by
  have : Fg P r (k - 1 - j) < P := Fg_lt hP
  unfold cf
  omega
def tok (o : zMx) (P k r : Nat) : Prop := (∀ j, j < k → ∀ q, q < j → cf P k r q ≠ cf P k r j) ∧ ∀ j, j < k → 0 < o (cf P k r j) (cf P k r (nx k j)) ∧ cf P k r 0 ≤ cf P k r j
theorem tok_iff {o : zMx} {P k r : Nat} (hP : 1 ≤ P) (hk : 2 ≤ k) (hr : r < P ^ k) {a : Int → Int} (ha : a 0 = ((r / P ^ (k - 1) : Nat) : Int)) : tok o P k r ↔ rokp o P (k - 1) 1 a (r % P ^ (k - 1)) := by
  have hB : 0 < P ^ (k - 1) := Nat.pow_pos hP
  have c0 : cf P k r 0 = a 0 := by
    rw [ha]
    unfold cf
    rw [Nat.sub_zero, Fg_top (by rw [show k - 1 + 1 = k by omega]; exact hr)]
  rw [rokp_iff hP (k - 1) 1 a (r % P ^ (k - 1)) (cf P k r) (by omega) (Nat.mod_lt _ hB) (fun j hj => by
    have : j = 0 := by omega
    subst this
    exact c0) (fun j hj => by
    rw [Fg_mod (by omega)]
    unfold cf
    rw [show k - 1 - (1 + j) = k - 1 - 1 - j by omega])]
  constructor
  · rintro ⟨h1, h2⟩
    refine ⟨fun j j0 j1 => ⟨?_, fun q hq => h1 j (by omega) q hq⟩, fun j j0 j1 => ?_, ?_⟩
    · have := (h2 j (by omega)).2
      have := h1 j (by omega) 0 (by omega)
      omega
    · have := (h2 j (by omega)).1
      unfold nx at this
      rw [if_neg (by omega)] at this
      exact this
    · have := (h2 (k - 1) (by omega)).1
      unfold nx at this
      rw [if_pos (by omega)] at this
      rw [show 1 + (k - 1) - 1 = k - 1 by omega]
      exact this
  · rintro ⟨h1, h2, h3⟩
    refine ⟨fun j hj q hq => (h1 j (by omega) (by omega)).2 q hq, fun j hj => ⟨?_, ?_⟩⟩
    · unfold nx
      by_cases e : j + 1 = k
      · rw [if_pos e]
        rw [show 1 + (k - 1) - 1 = j by omega] at h3
        exact h3
      · rw [if_neg e]
        exact h2 j (by omega) (by omega)
    · by_cases e : j = 0
      · subst e
        exact Int.le_refl _
      · exact Int.le_of_lt (h1 j (by omega) (by omega)).1
def FR (o : zMx) (P k r : Nat) : Prop := r < P ^ k ∧ tok o P k r ∧ ∀ q, q < r → ¬ tok o P k q
def noR (o : zMx) (P k : Nat) : Prop := ∀ k', 2 ≤ k' → k' < k → ∀ r, r < P ^ k' → ¬ tok o P k' r
def Ed (o : zMx) (c : Nat → Int) (k j : Nat) : Int := o (c j) (c (nx k j))
def mnE (o : zMx) (c : Nat → Int) (k : Nat) : Nat → Int
  | 0 => 1000000
  | t + 1 => min (mnE o c k t) (Ed o c k t)
def sbm (o : zMx) (i j v : Int) : zMx := fun x y => if x = i ∧ y = j then o x y - v else o x y
def cut (o : zMx) (c : Nat → Int) (k : Nat) (v : Int) : Nat → zMx
  | 0 => o
  | t + 1 => sbm (cut o c k v t) (c t) (c (nx k t)) v
def lst (o : zMx) (P k r : Nat) : Int := mnE o (cf P k r) k k
def clr (o : zMx) (P k r : Nat) : zMx := cut o (cf P k r) k (lst o P k r) k
theorem sbm_le {o : zMx} {i j v x y : Int} (hv : 0 ≤ v) : sbm o i j v x y ≤ o x y := by
  unfold sbm
  split <;> omega
theorem cut_le {o : zMx} {c : Nat → Int} {k : Nat} {v : Int} (hv : 0 ≤ v) : ∀ (t : Nat) (x y : Int), cut o c k v t x y ≤ o x y
  | 0, x, y => Int.le_refl _
  | t + 1, x, y => Int.le_trans (sbm_le hv) (cut_le hv t x y)
theorem cut_ge {o : zMx} {c : Nat → Int} {k : Nat} {v : Int} (hv : 0 ≤ v) (hv1 : v ≤ 1600) : ∀ (t : Nat) (x y : Int), o x y - 1600 * (t : Int) ≤ cut o c k v t x y
  | 0, x, y => by
    show o x y - 1600 * ((0 : Nat) : Int) ≤ o x y
    omega
  | t + 1, x, y => by
    have := cut_ge (o := o) (c := c) (k := k) hv hv1 t x y
    show o x y - 1600 * ((t + 1 : Nat) : Int) ≤ sbm (cut o c k v t) (c t) (c (nx k t)) v x y
    unfold sbm
    split <;> omega
theorem cut_min {o : zMx} {c : Nat → Int} {k : Nat} {v : Int} (hv : 0 ≤ v) {q : Nat} : ∀ (t : Nat), q < t → cut o c k v t (c q) (c (nx k q)) ≤ Ed o c k q - v
  | 0, h => by omega
  | t + 1, h => by
    show sbm (cut o c k v t) (c t) (c (nx k t)) v (c q) (c (nx k q)) ≤ _
    by_cases e : q = t
    · subst e
      unfold sbm
      rw [if_pos ⟨rfl, rfl⟩]
      have : cut o c k v q (c q) (c (nx k q)) ≤ Ed o c k q := cut_le hv q _ _
      omega
    · exact Int.le_trans (sbm_le hv) (cut_min hv t (by omega))
theorem cut_diag {o : zMx} {c : Nat → Int} {k : Nat} {v x : Int} (h : ∀ j, j < k → c j ≠ c (nx k j)) : ∀ (t : Nat), t ≤ k → cut o c k v t x x = o x x
  | 0, _ => rfl
  | t + 1, ht => by
    show sbm (cut o c k v t) (c t) (c (nx k t)) v x x = _
    unfold sbm
    rw [if_neg (fun z => h t (by omega) (z.1.symm.trans z.2)), cut_diag h t (by omega)]
theorem mnE_le {o : zMx} {c : Nat → Int} {k q : Nat} : ∀ t : Nat, q < t → mnE o c k t ≤ Ed o c k q
  | 0, h => by omega
  | t + 1, h => by
    show min (mnE o c k t) (Ed o c k t) ≤ _
    by_cases e : q = t
    · subst e
      exact Int.min_le_right _ _
    · exact Int.le_trans (Int.min_le_left _ _) (mnE_le t (by omega))
theorem mnE_pos {o : zMx} {c : Nat → Int} {k : Nat} : ∀ t : Nat, (∀ q, q < t → 0 < Ed o c k q) → 0 < mnE o c k t
  | 0, h => by
    show (0 : Int) < 1000000
    omega
  | t + 1, h => by
    have h1 := mnE_pos (o := o) (c := c) (k := k) t (fun q hq => h q (by omega))
    have h2 := h t (by omega)
    show 0 < min (mnE o c k t) (Ed o c k t)
    omega
theorem mnE_at {o : zMx} {c : Nat → Int} {k : Nat} : ∀ t : Nat, 1 ≤ t → (∀ q, q < t → Ed o c k q ≤ 1600) → ∃ q, q < t ∧ mnE o c k t = Ed o c k q
  | 0, h, _ => by omega
  | t + 1, h, hb => by
    by_cases e : t = 0
    · subst e
      refine ⟨0, by omega, ?_⟩
      have := hb 0 (by omega)
      show min (1000000 : Int) (Ed o c k 0) = _
      omega
    · obtain ⟨q, hq, e'⟩ := mnE_at (o := o) (c := c) (k := k) t (by omega) (fun q hq => hb q (by omega))
      by_cases d : mnE o c k t ≤ Ed o c k t
      · exact ⟨q, by omega, by rw [← e']; exact Int.min_eq_left d⟩
      · exact ⟨t, by omega, Int.min_eq_right (by omega)⟩
theorem tok_mono {o o' : zMx} {P k r : Nat} (h : ∀ x y, o' x y ≤ o x y) (ht : tok o' P k r) : tok o P k r :=
  ⟨ht.1, fun j hj => ⟨Int.lt_of_lt_of_le (ht.2 j hj).1 (h _ _), (ht.2 j hj).2⟩⟩
theorem noR_mono {o o' : zMx} {P k : Nat} (h : ∀ x y, o' x y ≤ o x y) (hn : noR o P k) : noR o' P k :=
  fun k' a b r hr ht => hn k' a b r hr (tok_mono h ht)
/-- not more than -/
def Bup (o : zMx) : Prop := ∀ x y : Int, 0 ≤ x → x < 6 → 0 ≤ y → y < 6 → o x y ≤ 1600
def Bdn (m : Int) (o : zMx) : Prop := ∀ x y : Int, 0 ≤ x → x < 6 → 0 ≤ y → y < 6 → -m ≤ o x y
theorem lst_rng {o : zMx} {P k r : Nat} (hP : 1 ≤ P) (hP6 : P ≤ 6) (hk : 2 ≤ k) (hu : Bup o) (ht : tok o P k r) : 1 ≤ lst o P k r ∧ lst o P k r ≤ 1600 := by
  have h1 : 0 < lst o P k r := mnE_pos k (fun q hq => (ht.2 q hq).1)
  have h2 : lst o P k r ≤ Ed o (cf P k r) k 0 := mnE_le k (by omega)
  have h3 : Ed o (cf P k r) k 0 ≤ 1600 := by
    have a1 := cf_rng (P := P) (k := k) (r := r) (j := 0) hP
    have a2 := cf_rng (P := P) (k := k) (r := r) (j := nx k 0) hP
    exact hu _ _ (by omega) (by omega) (by omega) (by omega)
  omega
theorem sumN_mono {f g : Nat → Nat} : ∀ k : Nat, (∀ j, j < k → f j ≤ g j) → sumN f k ≤ sumN g k
  | 0, _ => Nat.le_refl _
  | k + 1, h => by
    have h1 := sumN_mono (f := f) (g := g) k (fun j hj => h j (by omega))
    have h2 := h k (by omega)
    rw [sumN, sumN]
    omega
theorem sumN_lt {f g : Nat → Nat} {j : Nat} : ∀ k : Nat, (∀ j, j < k → f j ≤ g j) → j < k → f j < g j → sumN f k < sumN g k
  | 0, _, h, _ => by omega
  | k + 1, h, hj, hl => by
    rw [sumN, sumN]
    have h2 := h k (by omega)
    by_cases e : j = k
    · subst e
      have h1 := sumN_mono (f := f) (g := g) j (fun j hj => h j (by omega))
      omega
    · have h1 := sumN_lt (f := f) (g := g) k (fun j hj => h j (by omega)) (by omega) hl
      omega
def pos1 (o : zMx) (t : Nat) : Nat := if 0 < o ((t / 6 : Nat) : Int) ((t % 6 : Nat) : Int) then 1 else 0
def cnE (o : zMx) : Nat := sumN (pos1 o) 36
theorem cnE_clr {o : zMx} {P k r : Nat} (hP : 1 ≤ P) (hP6 : P ≤ 6) (hk : 2 ≤ k) (hu : Bup o) (ht : tok o P k r) : cnE (clr o P k r) < cnE o := by
  have hl := lst_rng hP hP6 hk hu ht
  have cr := fun j => cf_rng (P := P) (k := k) (r := r) (j := j) hP
  obtain ⟨q, hq, e⟩ := mnE_at (o := o) (c := cf P k r) (k := k) k (by omega) (fun q hq => by
    have := cr q
    have := cr (nx k q)
    exact hu _ _ (by omega) (by omega) (by omega) (by omega))
  have hm := cut_min (o := o) (c := cf P k r) (k := k) (v := lst o P k r) (by omega) k hq
  have e' : lst o P k r = Ed o (cf P k r) k q := e
  have hp := (ht.2 q hq).1
  obtain ⟨x, hx⟩ : ∃ x : Nat, cf P k r q = (x : Int) := ⟨_, rfl⟩
  obtain ⟨y, hy⟩ : ∃ y : Nat, cf P k r (nx k q) = (y : Int) := ⟨_, rfl⟩
  have x6 := cr q
  have y6 := cr (nx k q)
  rw [hx] at x6 hm hp
  rw [hy] at y6 hm hp
  have e1 : (6 * x + y) / 6 = x := by omega
  have e2 : (6 * x + y) % 6 = y := by omega
  refine sumN_lt (j := 6 * x + y) 36 (fun j hj => ?_) (by omega) ?_
  · unfold pos1
    have := cut_le (o := o) (c := cf P k r) (k := k) (v := lst o P k r) (by omega) k ((j / 6 : Nat) : Int) ((j % 6 : Nat) : Int)
    by_cases c : 0 < o ((j / 6 : Nat) : Int) ((j % 6 : Nat) : Int)
    · rw [if_pos c]
      split <;> omega
    · rw [if_neg c, if_neg (show ¬ 0 < clr o P k r _ _ from fun z => c (Int.lt_of_lt_of_le z this))]
      exact Nat.le_refl _
  · unfold pos1
    rw [e1, e2, if_pos hp, if_neg (fun z => ?_)]
    · omega
    · have z : 0 < cut o (cf P k r) k (lst o P k r) k (x : Int) (y : Int) := z
      omega
theorem least_nat {p : Nat → Prop} : ∀ n : Nat, p n → ∃ m, p m ∧ ∀ q, q < m → ¬ p q := by
  intro n
  induction n using Nat.strongRecOn with
  | ind n ih =>
    intro h
    by_cases c : ∃ q, q < n ∧ p q
    · obtain ⟨q, hq, hp⟩ := c
      exact ih q hq hp
    · exact ⟨n, h, fun q hq hp => c ⟨q, hq, hp⟩⟩
/-- rings cleared, one after another -/
def zRg (P : Nat) : Nat → zMx → zMx → Int → Prop
  | 0, o, o', s => noR o P (P + 1) ∧ o' = o ∧ s = 0
  | n + 1, o, o', s => ∃ (k r : Nat) (s' : Int), (2 ≤ k ∧ k ≤ P) ∧ noR o P k ∧ FR o P k r ∧ zRg P n (clr o P k r) o' s' ∧ s = lst o P k r * (k : Int) + s'
theorem Bup_clr {o : zMx} {P k r : Nat} (hP : 1 ≤ P) (hP6 : P ≤ 6) (hk : 2 ≤ k) (hu : Bup o) (ht : tok o P k r) : Bup (clr o P k r) := fun x y a b c d =>
  Int.le_trans (cut_le (by have := lst_rng hP hP6 hk hu ht; omega) k x y) (hu x y a b c d)
theorem Bdn_clr {m : Int} {o : zMx} {P k r : Nat} (hP : 1 ≤ P) (hP6 : P ≤ 6) (hk : 2 ≤ k) (hk6 : k ≤ 6) (hu : Bup o) (hd : Bdn m o) (ht : tok o P k r) : Bdn (m + 9600) (clr o P k r) := fun x y a b c d => by
  have hl := lst_rng hP hP6 hk hu ht
  have h1 := cut_ge (o := o) (c := cf P k r) (k := k) (v := lst o P k r) (by omega) (by omega) k x y
  have h2 := hd x y a b c d
  show _ ≤ cut o (cf P k r) k (lst o P k r) k x y
  omega
theorem zRg_ex {P : Nat} (hP : 1 ≤ P) (hP6 : P ≤ 6) : ∀ (n : Nat) (o : zMx), Bup o → cnE o ≤ n → ∃ m o' s, m ≤ n ∧ zRg P m o o' s := by
  intro n
  induction n with
  | zero =>
    intro o hu hc
    refine ⟨0, o, 0, Nat.le_refl _, (fun k' a b r hr ht => ?_), rfl, rfl⟩
    have := cnE_clr hP hP6 a hu ht
    omega
  | succ n ih =>
    intro o hu hc
    by_cases c : noR o P (P + 1)
    · exact ⟨0, o, 0, by omega, c, rfl, rfl⟩
    · have c' : ∃ k, 2 ≤ k ∧ k ≤ P ∧ ∃ r, r < P ^ k ∧ tok o P k r := by
        refine Classical.byContradiction (fun z => c (fun k' a b r hr ht => z ⟨k', a, by omega, r, hr, ht⟩))
      obtain ⟨k0, h0⟩ := c'
      obtain ⟨k, ⟨k2, kP, r0, hr0⟩, hk⟩ := least_nat (p := fun k => 2 ≤ k ∧ k ≤ P ∧ ∃ r, r < P ^ k ∧ tok o P k r) k0 h0
      obtain ⟨r, ⟨hr, ht⟩, hr'⟩ := least_nat (p := fun r => r < P ^ k ∧ tok o P k r) r0 hr0
      obtain ⟨m, o', s, hm, hg⟩ := ih (clr o P k r) (Bup_clr hP hP6 k2 hu ht) (by have := cnE_clr hP hP6 k2 hu ht; omega)
      exact ⟨m + 1, o', _, by omega, k, r, s, ⟨k2, kP⟩, (fun k' a b r hr ht => hk k' b ⟨a, by omega, r, hr, ht⟩), ⟨hr, ht, fun q hq z => hr' q hq ⟨by omega, z⟩⟩, hg, rfl⟩
theorem zRg_diag {P : Nat} : ∀ (n : Nat) {o o' : zMx} {s : Int}, zRg P n o o' s → (∀ x, o x x ≤ 0) → ∀ x, o' x x = o x x
  | 0, o, o', s, h, _, x => by rw [h.2.1]
  | n + 1, o, o', s, h, h0, x => by
    obtain ⟨k, r, s', -, -, hf, hg, -⟩ := h
    have hd : ∀ x, clr o P k r x x = o x x := fun x => cut_diag (fun j hj z => by
      have h1 := (hf.2.1.2 j hj).1
      rw [← z] at h1
      have := h0 (cf P k r j)
      omega) k (Nat.le_refl _)
    rw [zRg_diag n hg (fun x => by rw [hd]; exact h0 x) x, hd]
