/-! loops that count -/
def zfor {σ : Type} (F : Nat → σ → σ) : Nat → Nat → σ → σ
  | _, 0, s => s
  | k, m + 1, s => zfor F (k + 1) m (F k s)
theorem zfor_loop {σ : Type} {R I : Nat → σ → Prop} {F : Nat → σ → σ} {n : Nat} (hI : ∀ k s, k < n → I k s → I (k + 1) (F k s)) (hs : ∀ k s, k < n → I k s → R (k + 1) (F k s) → R k s) : ∀ (m k : Nat) (s : σ), k + m = n → I k s → R n (zfor F k m s) → R k s
  | 0, k, s, e, _, h => by
    have : k = n := by omega
    subst this
    exact h
  | m + 1, k, s, e, i, h => hs k s (by omega) i (zfor_loop hI hs m (k + 1) (F k s) (by omega) (hI k s (by omega) i) h)
theorem zfor_inv {σ : Type} {I : Nat → σ → Prop} {F : Nat → σ → σ} {n : Nat} (hI : ∀ k s, k < n → I k s → I (k + 1) (F k s)) : ∀ (m k : Nat) (s : σ), k + m = n → I k s → I n (zfor F k m s)
  | 0, k, s, e, h => by
    have : k = n := by omega
    subst this
    exact h
  | m + 1, k, s, e, h => zfor_inv hI m (k + 1) (F k s) (by omega) (hI k s (by omega) h)
/-- a loop without an invariant -/
theorem zfor_go {σ : Type} {R : Nat → σ → Prop} {F : Nat → σ → σ} {n : Nat} (hs : ∀ k s, k < n → R (k + 1) (F k s) → R k s) (s : σ) (h : R n (zfor F 0 n s)) : R 0 s := zfor_loop (I := fun _ _ => True) (fun _ _ _ _ => trivial) (fun k s hk _ => hs k s hk) n 0 s (by omega) trivial h
theorem zfor_goI {σ : Type} {R : Nat → σ → Prop} (I : Nat → σ → Prop) {F : Nat → σ → σ} {n : Nat} (hI : ∀ k s, k < n → I k s → I (k + 1) (F k s)) (hs : ∀ k s, k < n → I k s → R (k + 1) (F k s) → R k s) (s : σ) (i0 : I 0 s) (h : R n (zfor F 0 n s)) : R 0 s := zfor_loop hI hs n 0 s (by omega) i0 h
theorem zfor_congr {σ : Type} {F F' : Nat → σ → σ} {n : Nat} (h : ∀ k s, k < n → F k s = F' k s) : ∀ (m k : Nat) (s : σ), k + m = n → zfor F k m s = zfor F' k m s
  | 0, k, s, _ => rfl
  | m + 1, k, s, e => by
    show zfor F (k + 1) m (F k s) = zfor F' (k + 1) m (F' k s)
    rw [h k s (by omega)]
    exact zfor_congr h m (k + 1) _ (by omega)
theorem zfor_rel {σ τ : Type} {T : Nat → σ → τ → Prop} {F : Nat → σ → σ} {F' : Nat → τ → τ} {n : Nat} (h : ∀ k s t, k < n → T k s t → T (k + 1) (F k s) (F' k t)) : ∀ (m k : Nat) (s : σ) (t : τ), k + m = n → T k s t → T n (zfor F k m s) (zfor F' k m t)
  | 0, k, s, t, e, h0 => by
    have : k = n := by omega
    subst this
    exact h0
  | m + 1, k, s, t, e, h0 => zfor_rel h m (k + 1) _ _ (by omega) (h k s t (by omega) h0)
theorem zfor_succ {σ : Type} {F : Nat → σ → σ} : ∀ (m k : Nat) (s : σ), zfor F k (m + 1) s = F (k + m) (zfor F k m s)
  | 0, k, s => rfl
  | m + 1, k, s => by
    show zfor F (k + 1) (m + 1) (F k s) = _
    rw [zfor_succ m (k + 1) (F k s)]
    show F (k + 1 + m) _ = F (k + (m + 1)) _
    rw [show k + 1 + m = k + (m + 1) by omega]
    rfl
theorem zwk {k : Nat} (h : k < 2000000000) : zw ((k : Int) + 1) = ((k + 1 : Nat) : Int) := by
  rw [zw_id (by omega) (by omega)]
  omega
theorem nat_of {z : Int} (h : 0 ≤ z) : ∃ n : Nat, z = (n : Int) := ⟨z.toNat, by omega⟩
