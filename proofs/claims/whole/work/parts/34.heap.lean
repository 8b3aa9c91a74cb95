/-! reads behind writes; the places of a book are apart -/
theorem zset_at {H : zH} {a b : Nat} {f : Int → Int} : zset H a f b = if b = a then f else H b := rfl
theorem zup_def {H : zH} {a : Nat} {i v : Int} : zup H a i v = zset H a (zfu (H a) i v) := rfl
theorem zfu_at {f : Int → Int} {i v j : Int} : zfu f i v j = if j = i then v else f j := rfl
theorem zset_self {H : zH} {a : Nat} : zset H a (H a) = H := by
  funext b
  rw [zset_at]
  split
  · rename_i h
    rw [h]
  · rfl
theorem zset_set {H : zH} {a : Nat} {f g : Int → Int} : zset (zset H a f) a g = zset H a g := by
  funext b
  simp only [zset_at]
  split <;> rfl
theorem zfu_self {f : Int → Int} {i : Int} : zfu f i (f i) = f := by
  funext j
  rw [zfu_at]
  split
  · rename_i h
    rw [h]
  · rfl
theorem zset_comm {H : zH} {a b : Nat} {f g : Int → Int} (h : a ≠ b) : zset (zset H a f) b g = zset (zset H b g) a f := by
  funext c
  simp only [zset_at]
  split
  · rename_i e
    subst e
    rw [if_neg (fun z => h z.symm)]
  · rfl
theorem bk_ge {o : Nat} (ho : isBk o) : 7 ≤ o := by
  have e : ∀ o ∈ [7, 18, 29, 40, 49, 58, 67, 76, 85, 96, 105], 7 ≤ o := by decide
  exact e o ho
theorem neB {o : Nat} (ho : isBk o) : ¬ o = o + 1 ∧ ¬ o = o + 2 ∧ ¬ o = o + 3 ∧ ¬ o = o + 4 ∧ ¬ o = o + 5 ∧ ¬ o = o + 6 ∧ ¬ o = o + 7 ∧ ¬ o = o + 8 ∧ ¬ o + 1 = o ∧ ¬ o + 1 = o + 2 ∧ ¬ o + 1 = o + 3 ∧ ¬ o + 1 = o + 4 ∧ ¬ o + 1 = o + 5 ∧ ¬ o + 1 = o + 6 ∧ ¬ o + 1 = o + 7 ∧ ¬ o + 1 = o + 8 ∧ ¬ o + 2 = o ∧ ¬ o + 2 = o + 1 ∧ ¬ o + 2 = o + 3 ∧ ¬ o + 2 = o + 4 ∧ ¬ o + 2 = o + 5 ∧ ¬ o + 2 = o + 6 ∧ ¬ o + 2 = o + 7 ∧ ¬ o + 2 = o + 8 ∧ ¬ o + 3 = o ∧ ¬ o + 3 = o + 1 ∧ ¬ o + 3 = o + 2 ∧ ¬ o + 3 = o + 4 ∧ ¬ o + 3 = o + 5 ∧ ¬ o + 3 = o + 6 ∧ ¬ o + 3 = o + 7 ∧ ¬ o + 3 = o + 8 ∧ ¬ o + 4 = o ∧ ¬ o + 4 = o + 1 ∧ ¬ o + 4 = o + 2 ∧ ¬ o + 4 = o + 3 ∧ ¬ o + 4 = o + 5 ∧ ¬ o + 4 = o + 6 ∧ ¬ o + 4 = o + 7 ∧ ¬ o + 4 = o + 8 ∧ ¬ o + 5 = o ∧ ¬ o + 5 = o + 1 ∧ ¬ o + 5 = o + 2 ∧ ¬ o + 5 = o + 3 ∧ ¬ o + 5 = o + 4 ∧ ¬ o + 5 = o + 6 ∧ ¬ o + 5 = o + 7 ∧ ¬ o + 5 = o + 8 ∧ ¬ o + 6 = o ∧ ¬ o + 6 = o + 1 ∧ ¬ o + 6 = o + 2 ∧ ¬ o + 6 = o + 3 ∧ ¬ o + 6 = o + 4 ∧ ¬ o + 6 = o + 5 ∧ ¬ o + 6 = o + 7 ∧ ¬ o + 6 = o + 8 ∧ ¬ o + 7 = o ∧ ¬ o + 7 = o + 1 ∧ ¬ o + 7 = o + 2 ∧ ¬ o + 7 = o + 3 ∧ ¬ o + 7 = o + 4 ∧ ¬ o + 7 = o + 5 ∧ ¬ o + 7 = o + 6 ∧ ¬ o + 7 = o + 8 ∧ ¬ o + 8 = o ∧ ¬ o + 8 = o + 1 ∧ ¬ o + 8 = o + 2 ∧ ¬ o + 8 = o + 3 ∧ ¬ o + 8 = o + 4 ∧ ¬ o + 8 = o + 5 ∧ ¬ o + 8 = o + 6 ∧ ¬ o + 8 = o + 7 ∧ ¬ o = 3 ∧ ¬ 3 = o ∧ ¬ o = 4 ∧ ¬ 4 = o ∧ ¬ o + 1 = 3 ∧ ¬ 3 = o + 1 ∧ ¬ o + 1 = 4 ∧ ¬ 4 = o + 1 ∧ ¬ o + 2 = 3 ∧ ¬ 3 = o + 2 ∧ ¬ o + 2 = 4 ∧ ¬ 4 = o + 2 ∧ ¬ o + 3 = 3 ∧ ¬ 3 = o + 3 ∧ ¬ o + 3 = 4 ∧ ¬ 4 = o + 3 ∧ ¬ o + 4 = 3 ∧ ¬ 3 = o + 4 ∧ ¬ o + 4 = 4 ∧ ¬ 4 = o + 4 ∧ ¬ o + 5 = 3 ∧ ¬ 3 = o + 5 ∧ ¬ o + 5 = 4 ∧ ¬ 4 = o + 5 ∧ ¬ o + 6 = 3 ∧ ¬ 3 = o + 6 ∧ ¬ o + 6 = 4 ∧ ¬ 4 = o + 6 ∧ ¬ o + 7 = 3 ∧ ¬ 3 = o + 7 ∧ ¬ o + 7 = 4 ∧ ¬ 4 = o + 7 ∧ ¬ o + 8 = 3 ∧ ¬ 3 = o + 8 ∧ ¬ o + 8 = 4 ∧ ¬ 4 = o + 8 := by
  have := bk_ge ho
  refine ⟨?_, ?_, ?_, ?_, ?_, ?_, ?_, ?_, ?_, ?_, ?_, ?_, ?_, ?_, ?_, ?_, ?_, ?_, ?_, ?_, ?_, ?_, ?_, ?_, ?_, ?_, ?_, ?_, ?_, ?_, ?_, ?_, ?_, ?_, ?_, ?_, ?_, ?_, ?_, ?_, ?_, ?_, ?_, ?_, ?_, ?_, ?_, ?_, ?_, ?_, ?_, ?_, ?_, ?_, ?_, ?_, ?_, ?_, ?_, ?_, ?_, ?_, ?_, ?_, ?_, ?_, ?_, ?_, ?_, ?_, ?_, ?_, ?_, ?_, ?_, ?_, ?_, ?_, ?_, ?_, ?_, ?_, ?_, ?_, ?_, ?_, ?_, ?_, ?_, ?_, ?_, ?_, ?_, ?_, ?_, ?_, ?_, ?_, ?_, ?_, ?_, ?_, ?_, ?_, ?_, ?_, ?_, ?_⟩ <;> omega
