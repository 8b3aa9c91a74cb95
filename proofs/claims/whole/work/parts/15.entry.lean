/-! calls: the stack's arguments, the locals at the entry, what a call and an end are -/
theorem zSR_app {n : Nat} {ad : Nat → Nat} {b : Nat} : ∀ {X Y : List zV} {t : List Value}, zSR n ad b (X ++ Y) t → ∃ t1 t2, t = t1 ++ t2 ∧ zSR n ad b X t1 ∧ zSR n ad b Y t2
  | [], Y, t, h => ⟨[], t, rfl, rfl, h⟩
  | v :: X, Y, t, ⟨x, t', e, hv, hS⟩ => by
    obtain ⟨t1, t2, e1, h1, h2⟩ := zSR_app hS
    exact ⟨x :: t1, t2, by rw [e, e1]; rfl, ⟨x, t1, rfl, hv, h1⟩, h2⟩
theorem zSR_cat {n : Nat} {ad : Nat → Nat} {b : Nat} : ∀ {X Y : List zV} {t1 t2 : List Value}, zSR n ad b X t1 → zSR n ad b Y t2 → zSR n ad b (X ++ Y) (t1 ++ t2)
  | [], Y, t1, t2, h1, h2 => by rw [show t1 = [] from h1]; exact h2
  | v :: X, Y, t1, t2, ⟨x, t', e, hv, hS⟩, h2 => by
    rw [e]
    exact ⟨x, t' ++ t2, rfl, hv, zSR_cat hS h2⟩
theorem zSR_rev {n : Nat} {ad : Nat → Nat} {b : Nat} : ∀ {X : List zV} {t : List Value}, zSR n ad b X t → zSR n ad b X.reverse t.reverse
  | [], t, h => by rw [show t = [] from h]; exact rfl
  | v :: X, t, ⟨x, t', e, hv, hS⟩ => by
    rw [e, List.reverse_cons, List.reverse_cons]
    exact zSR_cat (zSR_rev hS) ⟨x, [], rfl, hv, rfl⟩
theorem zSR_len {n : Nat} {ad : Nat → Nat} {b : Nat} : ∀ {X : List zV} {t : List Value}, zSR n ad b X t → t.length = X.length
  | [], t, h => by rw [show t = [] from h]; rfl
  | v :: X, t, ⟨x, t', e, hv, hS⟩ => by rw [e, List.length_cons, List.length_cons, zSR_len hS]
theorem zcat1 {n : Nat} {ad : Nat → Nat} {b : Nat} {v : zV} {x : Value} (h : zVR n ad b v x) (hv : ∀ z, v ≠ .inr (.inl z)) : ¬ x.category = 2 := fun hc => by
  obtain ⟨z, hz⟩ := zVR_cat h hc
  exact hv z hz
theorem zlx_len {n : Nat} {ad : Nat → Nat} {b : Nat} : ∀ {as : List zV} {vs : List Value}, zSR n ad b as vs → (lg_sl vs).length = (zlx as).length
  | [], t, h => by rw [show t = [] from h]; rfl
  | .inl z :: X, t, ⟨x, t', e, hv, hS⟩ => by
    have ih := zlx_len hS
    have hc := zcat1 hv (fun z h => by cases h)
    rw [e]
    simp only [lg_sl, List.flatMap_cons, if_neg hc, zlx, List.length_append, List.length_cons, List.length_nil] at ih ⊢
    omega
  | .inr (.inl z) :: X, t, ⟨x, t', e, hv, hS⟩ => by
    have ih := zlx_len hS
    obtain ⟨y, rfl, -⟩ := hv
    have hc : (Value.long y).category = 2 := rfl
    rw [e]
    simp only [lg_sl, List.flatMap_cons, if_pos hc, zlx, List.length_append, List.length_cons, List.length_nil] at ih ⊢
    omega
  | .inr (.inr z) :: X, t, ⟨x, t', e, hv, hS⟩ => by
    have ih := zlx_len hS
    have hc := zcat1 hv (fun z h => by cases h)
    rw [e]
    simp only [lg_sl, List.flatMap_cons, if_neg hc, zlx, List.length_append, List.length_cons, List.length_nil] at ih ⊢
    omega
theorem zlx_at {n : Nat} {ad : Nat → Nat} {b : Nat} : ∀ {as : List zV} {vs : List Value}, zSR n ad b as vs → ∀ (i j : Nat) (v : zV), (zlx as)[j]? = some v → v ≠ vu → ∃ x, zVR n ad b v x ∧ (i + j, x) ∈ lv_args i vs
  | [], t, h, i, j, v, hj, hv => by simp [zlx] at hj
  | .inl z :: X, t, ⟨x, t', e, hv, hS⟩, i, j, v, hj, hn => by
    have hc := zcat1 hv (fun z h => by cases h)
    rw [e]
    simp only [lv_args, if_neg hc]
    cases j with
    | zero =>
      simp only [zlx, List.getElem?_cons_zero] at hj
      cases hj
      exact ⟨x, hv, List.mem_cons_self⟩
    | succ j =>
      simp only [zlx, List.getElem?_cons_succ] at hj
      obtain ⟨y, h1, h2⟩ := zlx_at hS (i + 1) j v hj hn
      exact ⟨y, h1, List.mem_cons_of_mem _ (by rw [show i + (j + 1) = i + 1 + j by omega]; exact h2)⟩
  | .inr (.inl z) :: X, t, ⟨x, t', e, hv, hS⟩, i, j, v, hj, hn => by
    have hc : x.category = 2 := by
      obtain ⟨y, rfl, -⟩ := hv
      rfl
    rw [e]
    simp only [lv_args, if_pos hc]
    match j, hj with
    | 0, hj =>
      simp only [zlx, List.getElem?_cons_zero] at hj
      cases hj
      exact ⟨x, hv, List.mem_cons_self⟩
    | 1, hj =>
      simp only [zlx, List.getElem?_cons_succ, List.getElem?_cons_zero] at hj
      cases hj
      exact absurd rfl hn
    | j + 2, hj =>
      simp only [zlx, List.getElem?_cons_succ] at hj
      obtain ⟨y, h1, h2⟩ := zlx_at hS (i + 2) j v hj hn
      exact ⟨y, h1, List.mem_cons_of_mem _ (by rw [show i + (j + 2) = i + 2 + j by omega]; exact h2)⟩
  | .inr (.inr z) :: X, t, ⟨x, t', e, hv, hS⟩, i, j, v, hj, hn => by
    have hc := zcat1 hv (fun z h => by cases h)
    rw [e]
    simp only [lv_args, if_neg hc]
    cases j with
    | zero =>
      simp only [zlx, List.getElem?_cons_zero] at hj
      cases hj
      exact ⟨x, hv, List.mem_cons_self⟩
    | succ j =>
      simp only [zlx, List.getElem?_cons_succ] at hj
      obtain ⟨y, h1, h2⟩ := zlx_at hS (i + 1) j v hj hn
      exact ⟨y, h1, List.mem_cons_of_mem _ (by rw [show i + (j + 1) = i + 1 + j by omega]; exact h2)⟩
theorem zent {n : Nat} {ad : Nat → Nat} {b : Nat} {m : zM} {as : List zV} {vs : List Value} (h : zSR n ad b as vs) (hl : (zlx as).length ≤ m.2.2.2.1) : zLR n ad b m.2.2.2.1 (zloc m as) ((lg_sl vs ++ List.replicate (m.2.2.2.1 - (lg_sl vs).length) Slot.unset).toArray) := by
  have e := zlx_len h
  refine ⟨?_, lv_args 0 vs, lv_entry vs (by rw [e]; exact hl), fun j v hj hv => ?_⟩
  · unfold zloc
    rw [List.length_append, List.length_replicate]
    omega
  · unfold zloc at hj
    rcases Nat.lt_or_ge j (zlx as).length with q | q
    · rw [List.getElem?_append_left q] at hj
      obtain ⟨x, h1, h2⟩ := zlx_at h 0 j v hj hv
      exact ⟨x, h1, by rw [Nat.zero_add] at h2; exact h2⟩
    · rw [List.getElem?_append_right q, List.getElem?_replicate] at hj
      split at hj
      · cases hj
        exact absurd rfl hv
      · cases hj
/-- what an end is -/
theorem zst_ret {o : Option (Nat × (Int → Int))} {d : Nat} {q : zM} {pc : Nat} {L S : List zV} {G : zG} {H : zH} {r : Option zV} (h : zst o d q pc L S G H = some (.inr (.inl r))) :
    (decode q.2.2.1 pc = .ok (.ireturn, 1) ∧ ∃ z, S = [.inl z] ∧ r = some (vi z) ∧ (q.2.2.2.2.1 = some .int ∨ (q.2.2.2.2.1 = some .boolean ∧ (z = 0 ∨ z = 1)))) ∨ (decode q.2.2.1 pc = .ok (.return_, 1) ∧ S = [] ∧ r = none ∧ q.2.2.2.2.1 = none) := by
  unfold zst at h
  split at h
  next op len hd =>
    obtain ⟨hl, h⟩ := zif_some h
    cases op with
    | ireturn =>
      obtain rfl : len = 1 := by simpa [zlo] using hl
      refine Or.inl ⟨hd, ?_⟩
      simp only [zstp, zret] at h
      split at h
      · rename_i z _
        split at h
        · rename_i e
          cases h
          exact ⟨z, rfl, rfl, Or.inl e⟩
        · rename_i e
          obtain ⟨h1, h2⟩ := zif_some h
          cases h2
          simp only [Bool.or_eq_true, decide_eq_true_eq] at h1
          exact ⟨z, rfl, rfl, Or.inr ⟨e, h1⟩⟩
        · cases h
      · cases h
    | return_ =>
      obtain rfl : len = 1 := by simpa [zlo] using hl
      refine Or.inr ⟨hd, ?_⟩
      simp only [zstp] at h
      split at h
      · rename_i e _
        cases h
        exact ⟨rfl, rfl, e⟩
      · cases h
    | _ =>
      exfalso
      revert h
      simp only [zstp, zld, zlld, zald, zist, zlst, zast, zint2, zlong2, zlongi, zdivs, zgetf, zputf, zarld, zarst, zaald, zaast, zalen, znewo, znewa, znewm, zdup, zdup2, zpop, ziinc, zift, zicm, zinv, zbui, zgo, zif]
      intro h
      repeat' (split at h)
      all_goals (first | contradiction | cases h | (exact absurd h (by simp)))
  next => cases h
/-- what a call is -/
def zcall (q : zM) (d pc i k na : Nat) (m' : zM) (as S S' : List zV) (G : zG) : Prop := 1 ≤ d ∧ zmt q.1 i = some (k, m', na) ∧ S = as.reverse ++ S' ∧ as.length = na ∧ S'.length ≤ 4 ∧ (zlx as).length ≤ m'.2.2.2.1 ∧
  ((k = 0 ∧ decode q.2.2.1 pc = .ok (.invokevirtual i, 3) ∧ ∃ a as', as = .inr (.inr (.inl a)) :: as' ∧ a < G.1 ∧ (G.2.2.1 a).1 = m'.1) ∨ ((k = 1 ∨ k = 2) ∧ decode q.2.2.1 pc = .ok (.invokestatic i, 3)) ∨ ((k = 3 ∨ k = 4) ∧ decode q.2.2.1 pc = .ok (.invokespecial i, 3) ∧ ∃ a as', as = .inr (.inr (.inl a)) :: as'))
theorem zinv_some {q : zM} {t i pc : Nat} {L S : List zV} {G : zG} {H : zH} {m' : zM} {as S' : List zV} (h : zinv q t i pc L S G H = some (.inr (.inr (m', as, S')))) : ∃ k na, zmt q.1 i = some (k, m', na) ∧ S = as.reverse ++ S' ∧ as.length = na ∧ S'.length ≤ 4 ∧ (zlx as).length ≤ m'.2.2.2.1 ∧ (k = t ∨ (t ≠ 0 ∧ k = t + 1)) ∧ ((t = 0 ∧ ∃ a as', as = .inr (.inr (.inl a)) :: as' ∧ a < G.1 ∧ (G.2.2.1 a).1 = m'.1) ∨ (t = 3 ∧ ∃ a as', as = .inr (.inr (.inl a)) :: as') ∨ t = 1) := by
  unfold zinv at h
  split at h
  · exfalso
    obtain ⟨-, h⟩ := zif_some h
    unfold zbui zgo at h
    split at h
    all_goals (first | (have := (zif_some h).2; cases this; done) | cases h)
  · split at h
    · rename_i k m1 na e
      obtain ⟨h1, h⟩ := zif_some h
      simp only [Bool.and_eq_true, decide_eq_true_eq] at h1
      obtain ⟨⟨⟨c1, c2⟩, c3⟩, c4⟩ := h1
      have hS : S = (S.take na).reverse.reverse ++ S.drop na := by rw [List.reverse_reverse, List.take_append_drop]
      have hn : (S.take na).reverse.length = na := by rw [List.length_reverse, List.length_take]; omega
      have hd : (S.drop na).length ≤ 4 := by rw [List.length_drop]; omega
      split at h
      · rename_i a as' e2 _
        obtain ⟨h2, h⟩ := zif_some h
        cases h
        rw [e2] at hS hn c3
        exact ⟨k, na, e, hS, hn, hd, c3, c4, Or.inl ⟨rfl, a, as', rfl, zCb_iff.mp h2⟩⟩
      · rename_i a as' e2 _
        cases h
        rw [e2] at hS hn c3
        exact ⟨k, na, e, hS, hn, hd, c3, c4, Or.inr (Or.inl ⟨rfl, a, as', rfl⟩)⟩
      · cases h
        exact ⟨k, na, e, hS, hn, hd, c3, c4, Or.inr (Or.inr rfl)⟩
      · cases h
    · cases h
theorem zst_call {o : Option (Nat × (Int → Int))} {d : Nat} {q : zM} {pc : Nat} {L S : List zV} {G : zG} {H : zH} {m' : zM} {as S' : List zV} (h : zst o d q pc L S G H = some (.inr (.inr (m', as, S')))) : ∃ i k na, zcall q d pc i k na m' as S S' G := by
  unfold zst at h
  split at h
  next op len hd =>
    obtain ⟨hl, h⟩ := zif_some h
    cases op with
    | invokevirtual i =>
      obtain rfl : len = 3 := by simpa [zlo] using hl
      obtain ⟨h1, h⟩ := zif_some (show zif _ (zinv _ _ _ _ _ _ _ _) = _ from h)
      obtain ⟨k, na, c1, c2, c3, c4, c5, c6, c7⟩ := zinv_some h
      refine ⟨i, k, na, by simpa using h1, c1, c2, c3, c4, c5, ?_⟩
      rcases c7 with ⟨-, c7⟩ | ⟨c7, -⟩ | c7
      · exact Or.inl ⟨by omega, hd, c7⟩
      · omega
      · omega
    | invokestatic i =>
      obtain rfl : len = 3 := by simpa [zlo] using hl
      obtain ⟨h1, h⟩ := zif_some (show zif _ (zinv _ _ _ _ _ _ _ _) = _ from h)
      obtain ⟨k, na, c1, c2, c3, c4, c5, c6, c7⟩ := zinv_some h
      refine ⟨i, k, na, by simpa using h1, c1, c2, c3, c4, c5, ?_⟩
      exact Or.inr (Or.inl ⟨by omega, hd⟩)
    | invokespecial i =>
      obtain rfl : len = 3 := by simpa [zlo] using hl
      obtain ⟨h1, h⟩ := zif_some (show zif _ (zinv _ _ _ _ _ _ _ _) = _ from h)
      obtain ⟨k, na, c1, c2, c3, c4, c5, c6, c7⟩ := zinv_some h
      refine ⟨i, k, na, by simpa using h1, c1, c2, c3, c4, c5, ?_⟩
      rcases c7 with ⟨c7, -⟩ | ⟨-, c7⟩ | c7
      · omega
      · exact Or.inr (Or.inr ⟨by omega, hd, c7⟩)
      · omega
    | _ =>
      exfalso
      revert h
      simp only [zstp, zld, zlld, zald, zist, zlst, zast, zint2, zlong2, zlongi, zdivs, zgetf, zputf, zarld, zarst, zaald, zaast, zalen, znewo, znewa, znewm, zdup, zdup2, zpop, ziinc, zift, zicm, zret, zgo, zif]
      intro h
      repeat' (split at h)
      all_goals (first | contradiction | cases h | (exact absurd h (by simp)))
  next => cases h
theorem zexec_mono : ∀ (n : Nat) {o : Option (Nat × (Int → Int))} {d : Nat} {q : zM} {pc : Nat} {L S : List zV} {G G' : zG} {H H' : zH} {r : Option zV}, zexec n o d q pc L S G H = some (r, G', H') → G.1 ≤ G'.1 ∧ G.2.1 ≤ G'.2.1
  | 0, o, d, q, pc, L, S, G, G', H, H', r, h => by simp [zexec] at h
  | n + 1, o, d, q, pc, L, S, G, G', H, H', r, h => by
    rw [zexec] at h
    split at h
    · cases h
    · rename_i pc1 L1 S1 G1 H1 e
      have m1 := zst_mono e
      have m2 := zexec_mono n h
      exact ⟨Nat.le_trans m1.1 m2.1, Nat.le_trans m1.2 m2.2⟩
    · cases h
      exact ⟨Nat.le_refl _, Nat.le_refl _⟩
    · split at h
      · cases h
      · rename_i r1 G1 H1 e2
        have m1 := zexec_mono n e2
        have m2 := zexec_mono n h
        exact ⟨Nat.le_trans m1.1 m2.1, Nat.le_trans m1.2 m2.2⟩
theorem zexec_ret : ∀ (n : Nat) {o : Option (Nat × (Int → Int))} {d : Nat} {q : zM} {pc : Nat} {L S : List zV} {G G' : zG} {H H' : zH} {r : Option zV}, zexec n o d q pc L S G H = some (r, G', H') → ((q.2.2.2.2.1 = some .int ∨ q.2.2.2.2.1 = some .boolean) ∧ ∃ z, r = some (vi z)) ∨ (q.2.2.2.2.1 = none ∧ r = none)
  | 0, o, d, q, pc, L, S, G, G', H, H', r, h => by simp [zexec] at h
  | n + 1, o, d, q, pc, L, S, G, G', H, H', r, h => by
    rw [zexec] at h
    split at h
    · cases h
    · exact zexec_ret n h
    · rename_i r0 e
      cases h
      rcases zst_ret e with ⟨-, z, -, h1, h2⟩ | ⟨-, -, h1, h2⟩
      · exact Or.inl ⟨by rcases h2 with h2 | h2; exact Or.inl h2; exact Or.inr h2.1, z, h1⟩
      · exact Or.inr ⟨h2, h1⟩
    · split at h
      · cases h
      · exact zexec_ret n h
