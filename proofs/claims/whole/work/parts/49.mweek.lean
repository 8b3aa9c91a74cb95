/-! weeks of the model and of the class, mathematically -/
def due0 (x : zLn) : Bool := decide (x.2.2.2.1 ≤ 0)
theorem mpay1_ok {P r kind : Int} {s : sT} {x : zLn} (hP : P ≤ 6) (r0 : 0 ≤ r) (r1 : r ≤ 99) (hw : sWok s.1) (hx : lokm P x) : sWok (mpay1 P r kind s x).1 := by
  obtain ⟨⟨i0, i1⟩, ⟨j0, j1⟩, ⟨n0, n1⟩, -⟩ := hx
  have hd := zdue_rng r0 r1 (show 0 ≤ x.2.2.1 by omega) n1
  unfold mpay1
  split
  · exact sw2_ok hP hw i0 (by omega) (by omega)
  · exact hw
theorem mpay1_ag {P r kind : Int} {s t : sT} {x : zLn} (hP : P ≤ 6) (h : agS s t) (hx : lokm P x) : agS (mpay1 P r kind s x) (mpay1 P r kind t x) := by
  obtain ⟨⟨i0, i1⟩, ⟨j0, j1⟩, ⟨n0, n1⟩, m0, m1⟩ := hx
  have hw : ag6 s.1 t.1 := fun p a b => (h.1 p a b).1
  have hi := h.1 x.1 i0 (by omega)
  unfold mpay1
  rw [hi.1]
  split
  · have e1 := sw2_ag (kind := kind) (due := zdue r x.2.2.1) hP hw i0 (by omega) j0 (by omega)
    have e2 := spaid_ag (kind := kind) (due := zdue r x.2.2.1) hP hw i0 (show x.1 < 6 by omega) j0 (show x.2.1 < 6 by omega)
    refine ⟨fun p a b => ⟨e1 p a b, ?_⟩, fun k a b => ?_⟩
    · show zfu s.2.1 _ _ p = zfu t.2.1 _ _ p
      rw [zfu_at, zfu_at, e2, hi.2, (h.1 p a b).2]
    · show zfu s.2.2 _ _ k = zfu t.2.2 _ _ k
      rw [zfu_at, zfu_at, e2]
      by_cases c : k = x.2.2.2.2
      · rw [if_pos c, if_pos c, ← c, h.2 k a b]
      · rw [if_neg c, if_neg c, h.2 k a b]
  · exact h
theorem mfold_ag {P r kind : Int} (hP : P ≤ 6) : ∀ (ls : List zLn) {s t : sT}, agS s t → (∀ x ∈ ls, lokm P x) → agS (ls.foldl (mpay1 P r kind) s) (ls.foldl (mpay1 P r kind) t)
  | [], s, t, h, _ => h
  | x :: ls, s, t, h, hx => mfold_ag hP ls (mpay1_ag hP h (hx x List.mem_cons_self)) (fun y hy => hx y (List.mem_cons_of_mem _ hy))
/-- the order in which they are paid -/
def pord (kind : Int) (ls : List zLn) : List zLn := if sahd kind ls = -4 then flt (sahd kind ls) 0 ls else ls.getD (sahd kind ls).toNat (0, 0, 0, 0, 0) :: flt (sahd kind ls) 0 ls
theorem send_ord {P r kind : Int} {s : sT} {ls : List zLn} : send P r kind s ls = (pord kind ls).foldl (spay1 P r kind) s := by
  unfold send pord
  split
  · rfl
  · rfl
def msend (P r kind : Int) (s : sT) (ls : List zLn) : sT := (pord kind ls).foldl (mpay1 P r kind) s
theorem flt_lo {a : Int} : ∀ (ls : List zLn) (k : Nat), a < (k : Int) → flt a k ls = ls.filter due0
  | [], k, _ => rfl
  | x :: ls, k, h => by
    rw [flt, flt_lo ls (k + 1) (by omega)]
    by_cases c : x.2.2.2.1 ≤ 0
    · rw [if_pos ⟨c, by omega⟩, List.filter_cons_of_pos (by simp [due0, c])]
    · rw [if_neg (fun z => c z.1), List.filter_cons_of_neg (by simp [due0, c])]
theorem flt_at {a : Nat} : ∀ (ls : List zLn) (k : Nat), flt ((k + a : Nat) : Int) k ls = (ls.eraseIdx a).filter due0 := by
  induction a with
  | zero =>
    intro ls k
    cases ls with
    | nil => rfl
    | cons x ls =>
      rw [flt, if_neg (fun z => z.2 (by omega)), flt_lo ls (k + 1) (by omega)]
      rfl
  | succ a ih =>
    intro ls k
    cases ls with
    | nil => rfl
    | cons x ls =>
      have := ih ls (k + 1)
      rw [show k + 1 + a = k + (a + 1) by omega] at this
      rw [flt, this, List.eraseIdx_cons_succ]
      by_cases c : x.2.2.2.1 ≤ 0
      · rw [if_pos ⟨c, by omega⟩, List.filter_cons_of_pos (by simp [due0, c])]
      · rw [if_neg (fun z => c z.1), List.filter_cons_of_neg (by simp [due0, c])]
/-- the first due one -/
theorem filt_first {x : zLn} (hx : due0 x = true) : ∀ (ls : List zLn) (k : Nat), ls[k]? = some x → (∀ j y, j < k → ls[j]? = some y → due0 y = false) → ls.filter due0 = x :: (ls.eraseIdx k).filter due0
  | [], k, h, _ => by simp at h
  | y :: ls, 0, h, _ => by
    simp at h
    subst h
    rw [List.filter_cons_of_pos hx]
    rfl
  | y :: ls, k + 1, h, hf => by
    have h0 := hf 0 y (by omega) rfl
    rw [List.filter_cons_of_neg (by simp [h0]), filt_first hx ls k (by simpa using h) (fun j z hj hz => hf (j + 1) z (by omega) (by simpa using hz)), List.eraseIdx_cons_succ, List.filter_cons_of_neg (by simp [h0])]
theorem nd_due {x : zLn} : nd x = !due0 x := by
  unfold nd due0
  by_cases c : x.2.2.2.1 ≤ 0
  · simp [c]
  · simp [c]
theorem filt_nd {x : zLn} (hx : due0 x = true) : ∀ (ls : List zLn) (k : Nat), ls[k]? = some x → ls.filter nd = (ls.eraseIdx k).filter nd
  | [], k, h => by simp at h
  | y :: ls, 0, h => by
    simp at h
    subst h
    rw [List.filter_cons_of_neg (by rw [nd_due, hx]; simp)]
    rfl
  | y :: ls, k + 1, h => by
    rw [List.eraseIdx_cons_succ]
    have := filt_nd hx ls k (by simpa using h)
    by_cases c : nd y = true
    · rw [List.filter_cons_of_pos c, List.filter_cons_of_pos c, this]
    · rw [List.filter_cons_of_neg c, List.filter_cons_of_neg c, this]
theorem filt_none0 {ls : List zLn} (h : ∀ x ∈ ls, due0 x = false) : ls.filter due0 = [] ∧ ls.filter nd = ls := by
  refine ⟨List.filter_eq_nil_iff.mpr (fun x hx => by rw [h x hx]; simp), List.filter_eq_self.mpr (fun x hx => by rw [nd_due, h x hx]; rfl)⟩
/-- loans alike but for their marks -/
def cor (x : zLn) : Int × Int × Int × Int := (x.1, x.2.1, x.2.2.1, x.2.2.2.1)
theorem cor_eq {x y : zLn} (h : cor x = cor y) : x.1 = y.1 ∧ x.2.1 = y.2.1 ∧ x.2.2.1 = y.2.2.1 ∧ x.2.2.2.1 = y.2.2.2.1 := by
  unfold cor at h
  simp only [Prod.mk.injEq] at h
  exact h
theorem cor_getD {xs ys : List zLn} (h : xs.map cor = ys.map cor) (k : Nat) : cor (xs.getD k (0, 0, 0, 0, 0)) = cor (ys.getD k (0, 0, 0, 0, 0)) := by
  have := congrArg (fun l => l[k]?) h
  simp only [List.getElem?_map] at this
  rw [List.getD_eq_getElem?_getD, List.getD_eq_getElem?_getD]
  cases hx : xs[k]? with
  | none =>
    cases hy : ys[k]? with
    | none => rfl
    | some y => rw [hx, hy] at this; simp at this
  | some x =>
    cases hy : ys[k]? with
    | none => rw [hx, hy] at this; simp at this
    | some y => rw [hx, hy] at this; simpa using this
theorem sahd_cor {kind : Int} {xs ys : List zLn} (h : xs.map cor = ys.map cor) : sahd kind xs = sahd kind ys := by
  have hl : xs.length = ys.length := by simpa using congrArg List.length h
  unfold sahd
  split
  · rw [hl]
    refine sgreat_congr (fun k _ => ?_) (fun k _ => ?_)
    · exact (cor_eq (cor_getD h _)).2.2.1
    · exact (cor_eq (cor_getD h _)).2.2.2
  · rfl
theorem flt_cor {a : Int} : ∀ (xs ys : List zLn) (k : Nat), xs.map cor = ys.map cor → (flt a k xs).map cor = (flt a k ys).map cor
  | [], [], k, _ => rfl
  | [], y :: ys, k, h => by simp at h
  | x :: xs, [], k, h => by simp at h
  | x :: xs, y :: ys, k, h => by
    simp only [List.map_cons, List.cons.injEq] at h
    have e := (cor_eq h.1).2.2.2
    rw [flt, flt, e]
    split
    · simp only [List.map_cons, h.1, flt_cor xs ys (k + 1) h.2]
    · exact flt_cor xs ys (k + 1) h.2
theorem pord_cor {kind : Int} {xs ys : List zLn} (h : xs.map cor = ys.map cor) : (pord kind xs).map cor = (pord kind ys).map cor := by
  unfold pord
  rw [sahd_cor h]
  split
  · exact flt_cor xs ys 0 h
  · simp only [List.map_cons, flt_cor xs ys 0 h, cor_getD h]
theorem filter_cor : ∀ (xs ys : List zLn), xs.map cor = ys.map cor → (xs.filter nd).map cor = (ys.filter nd).map cor
  | [], [], _ => rfl
  | [], y :: ys, h => by simp at h
  | x :: xs, [], h => by simp at h
  | x :: xs, y :: ys, h => by
    simp only [List.map_cons, List.cons.injEq] at h
    have e : nd x = nd y := by unfold nd; rw [(cor_eq h.1).2.2.2]
    cases c : nd y with
    | true => rw [List.filter_cons_of_pos (by rw [e, c]), List.filter_cons_of_pos c, List.map_cons, List.map_cons, h.1, filter_cor xs ys h.2]
    | false => rw [List.filter_cons_of_neg (by rw [e, c]; simp), List.filter_cons_of_neg (by rw [c]; simp), filter_cor xs ys h.2]
theorem sdn_cor {n : Int} : ∀ (xs ys : List zLn), xs.map cor = ys.map cor → (xs.map (sdn n)).map cor = (ys.map (sdn n)).map cor
  | [], [], _ => rfl
  | [], y :: ys, h => by simp at h
  | x :: xs, [], h => by simp at h
  | x :: xs, y :: ys, h => by
    simp only [List.map_cons, List.cons.injEq] at h ⊢
    refine ⟨?_, sdn_cor xs ys h.2⟩
    obtain ⟨a, b, c, d⟩ := cor_eq h.1
    unfold cor sdn
    simp only [a, b, c, d]
/-- weeks and lost alike -/
def agw (s t : sT) : Prop := ∀ p : Int, 0 ≤ p → p < 6 → s.1 p = t.1 p ∧ s.2.1 p = t.2.1 p
theorem agS.w {s t : sT} (h : agS s t) : agw s t := h.1
theorem agw.tr {s t u : sT} (h : agw s t) (g : agw t u) : agw s u := fun p a b => ⟨(h p a b).1.trans (g p a b).1, (h p a b).2.trans (g p a b).2⟩
theorem mpay_spay {P r kind : Int} {s t : sT} {x y : zLn} (hP : P ≤ 6) (h : agw s t) (hx : cor x = cor y) (hy : lok P y) : agw (mpay1 P r kind s x) (spay1 P r kind t y) := by
  obtain ⟨⟨i0, i1⟩, ⟨j0, j1⟩, ⟨n0, n1⟩, m0, m1⟩ := hy
  obtain ⟨c1, c2, c3, c4⟩ := cor_eq hx
  have hw : ag6 s.1 t.1 := fun p a b => (h p a b).1
  have hi := h y.1 i0 (by omega)
  unfold mpay1 spay1
  rw [c1, c2, c3, hi.1]
  split
  · have e1 := sw2_ag (kind := kind) (due := zdue r y.2.2.1) hP hw i0 (by omega) j0 (by omega)
    have e2 := spaid_ag (kind := kind) (due := zdue r y.2.2.1) hP hw i0 (show y.1 < 6 by omega) j0 (show y.2.1 < 6 by omega)
    refine fun p a b => ⟨e1 p a b, ?_⟩
    show zfu s.2.1 _ _ p = zfu t.2.1 _ _ p
    rw [zfu_at, zfu_at, e2, hi.2, (h p a b).2]
  · exact h
theorem fold_cor {P r kind : Int} (hP : P ≤ 6) : ∀ (xs ys : List zLn) {s t : sT}, agw s t → xs.map cor = ys.map cor → (∀ y ∈ ys, lok P y) → agw (xs.foldl (mpay1 P r kind) s) (ys.foldl (spay1 P r kind) t)
  | [], [], s, t, h, _, _ => h
  | [], y :: ys, s, t, _, h, _ => by simp at h
  | x :: xs, [], s, t, _, h, _ => by simp at h
  | x :: xs, y :: ys, s, t, h, hc, hy => by
    simp only [List.map_cons, List.cons.injEq] at hc
    exact fold_cor hP xs ys (mpay_spay hP h hc.1 (hy y List.mem_cons_self)) hc.2 (fun z hz => hy z (List.mem_cons_of_mem _ hz))
theorem pord_sub {kind : Int} {ls : List zLn} {x : zLn} (h : x ∈ pord kind ls) : x ∈ ls := by
  unfold pord at h
  split at h
  · exact flt_sub _ _ _ h
  · rename_i c
    rcases List.mem_cons.mp h with rfl | h
    · exact sahd_mem c
    · exact flt_sub _ _ _ h
theorem msend_cor {P r kind : Int} (hP : P ≤ 6) {xs ys : List zLn} {s t : sT} (h : agw s t) (hc : xs.map cor = ys.map cor) (hy : ∀ y ∈ ys, lok P y) : agw (msend P r kind s xs) (send P r kind t ys) := by
  rw [send_ord]
  exact fold_cor hP _ _ h (pord_cor hc) (fun y hz => hy y (pord_sub hz))
theorem swkS_w {P n : Int} {s u : sT} (h : agw s u) : agw (swkS P n s) (swkS P n u) := fun p p0 p1 => ⟨swk_ag (fun p a b => (h p a b).1) p p0 p1, (h p p0 p1).2⟩
/-! marks of their own: what is paid is the same -/
def mrk (x : zLn) : Int := x.2.2.2.2
def mz (B : sB) : Prop := (B.2.map mrk).Nodup ∧ ∀ x ∈ B.2, B.1.2.2 (mrk x) = 0
theorem spay1_ne {P r kind : Int} {s : sT} {x : zLn} {k : Int} (h : k ≠ mrk x) : (spay1 P r kind s x).2.2 k = s.2.2 k := by
  unfold spay1
  split
  · show zfu s.2.2 _ _ k = _
    rw [zfu_at, if_neg (show ¬ k = x.2.2.2.2 from h)]
  · rfl
theorem fold_paid {P r kind : Int} (hP : P ≤ 6) (r0 : 0 ≤ r) (r1 : r ≤ 99) : ∀ (ls : List zLn) {s t : sT}, agS s t → sWok t.1 → (ls.map mrk).Nodup → (∀ x ∈ ls, t.2.2 (mrk x) = 0) → (∀ x ∈ ls, lok P x) → agS (ls.foldl (mpay1 P r kind) s) (ls.foldl (spay1 P r kind) t)
  | [], s, t, h, _, _, _, _ => h
  | x :: ls, s, t, h, hw, hn, h0, hx => by
    simp only [List.map_cons, List.nodup_cons] at hn
    have hxx := hx x List.mem_cons_self
    have hxx' := hxx
    obtain ⟨⟨i0, i1⟩, ⟨j0, j1⟩, ⟨n0, n1⟩, m0, m1⟩ := hxx
    have hd := zdue_rng r0 r1 (show 0 ≤ x.2.2.1 by omega) n1
    refine fold_paid hP r0 r1 ls ?_ (spay1_ok hP r0 r1 hw hxx') hn.2 (fun y hy => ?_) (fun y hy => hx y (List.mem_cons_of_mem _ hy))
    · refine ⟨mpay_spay hP h.w rfl hxx', fun k k0 k1 => ?_⟩
      have hwa : ag6 s.1 t.1 := fun p a b => (h.1 p a b).1
      have e2 := spaid_ag (kind := kind) (due := zdue r x.2.2.1) hP hwa i0 (show x.1 < 6 by omega) j0 (show x.2.1 < 6 by omega)
      unfold mpay1 spay1
      rw [(h.1 x.1 i0 (by omega)).1]
      split
      · show zfu s.2.2 _ _ k = zfu t.2.2 _ _ k
        rw [zfu_at, zfu_at, e2]
        have hz : t.2.2 x.2.2.2.2 = 0 := h0 x List.mem_cons_self
        have p1 := sp1_rng (kind := kind) (j := x.2.1) (due := zdue r x.2.2.1) hP hw (by omega)
        have p2 := sp2_rng (kind := kind) (i := x.1) (j := x.2.1) (due := zdue r x.2.2.1) hP hw i0 (by omega) (by omega)
        have p3 : spaid P kind t.1 x.1 x.2.1 (zdue r x.2.2.1) = sp1 P kind t.1 x.2.1 (zdue r x.2.2.1) + sp2 P kind t.1 x.1 x.2.1 (zdue r x.2.2.1) := rfl
        by_cases c : k = x.2.2.2.2
        · rw [if_pos c, if_pos c, h.2 _ m0 m1, hz, zw_id (by omega) (by omega)]
          omega
        · rw [if_neg c, if_neg c, h.2 k k0 k1]
      · exact h.2 k k0 k1
    · have : mrk y ≠ mrk x := fun e => hn.1 (e ▸ List.mem_map_of_mem hy)
      rw [spay1_ne this]
      exact h0 y (List.mem_cons_of_mem _ hy)
theorem fold_keep {P r kind : Int} {k : Int} : ∀ (ls : List zLn) {t : sT}, (∀ x ∈ ls, k ≠ mrk x) → (ls.foldl (spay1 P r kind) t).2.2 k = t.2.2 k
  | [], t, _ => rfl
  | x :: ls, t, h => by
    rw [List.foldl_cons, fold_keep ls (fun y hy => h y (List.mem_cons_of_mem _ hy)), spay1_ne (h x List.mem_cons_self)]
theorem erase_perm : ∀ (ls : List zLn) (k : Nat) (x : zLn), ls[k]? = some x → (x :: ls.eraseIdx k).Perm ls
  | [], k, x, h => by simp at h
  | y :: ls, 0, x, h => by
    simp at h
    subst h
    exact List.Perm.refl _
  | y :: ls, k + 1, x, h => by
    rw [List.eraseIdx_cons_succ]
    exact (List.Perm.swap y x _).trans ((erase_perm ls k x (by simpa using h)).cons y)
theorem sahd_due {kind : Int} {ls : List zLn} {k : Nat} (h : sahd kind ls = (k : Int)) : k < ls.length ∧ due0 (ls.getD k (0, 0, 0, 0, 0)) = true := by
  unfold sahd at h
  split at h
  · unfold sgreat at h
    have := zfor_inv (I := fun (k : Nat) (g : Int) => g = -4 ∨ ∃ j : Nat, g = (j : Int) ∧ j < k ∧ (ls.getD j (0, 0, 0, 0, 0)).2.2.2.1 ≤ 0) (F := fun (k : Nat) (g : Int) => if (ls.getD ((k : Int).toNat) (0, 0, 0, 0, 0)).2.2.2.1 ≤ 0 ∧ (g = -4 ∨ (ls.getD g.toNat (0, 0, 0, 0, 0)).2.2.1 < (ls.getD ((k : Int).toNat) (0, 0, 0, 0, 0)).2.2.1) then (k : Int) else g) (n := ls.length) (fun k g hk hi => by
      split
      · rename_i c
        refine Or.inr ⟨k, rfl, by omega, ?_⟩
        have := c.1
        rw [show ((k : Nat) : Int).toNat = k by omega] at this
        exact this
      · rcases hi with h | ⟨j, h1, h2, h3⟩
        · exact Or.inl h
        · exact Or.inr ⟨j, h1, by omega, h3⟩) ls.length 0 (-4) (by omega) (Or.inl rfl)
    rw [h] at this
    rcases this with z | ⟨j, h1, h2, h3⟩
    · omega
    · have : j = k := by omega
      subst this
      exact ⟨h2, by simp only [due0, decide_eq_true_eq]; exact h3⟩
  · omega
theorem pord_cases (kind : Int) (ls : List zLn) : (sahd kind ls = -4 ∧ pord kind ls = ls.filter due0) ∨ ∃ (k : Nat) (x : zLn), sahd kind ls = (k : Int) ∧ ls[k]? = some x ∧ due0 x = true ∧ pord kind ls = x :: (ls.eraseIdx k).filter due0 := by
  rcases sahd_rng kind ls with h | ⟨k, hk, hkl⟩
  · refine Or.inl ⟨h, ?_⟩
    unfold pord
    rw [if_pos h, h, flt_lo ls 0 (by omega)]
  · refine Or.inr ⟨k, ls[k], hk, List.getElem?_eq_getElem hkl, ?_, ?_⟩
    · have := (sahd_due hk).2
      rw [List.getD_eq_getElem?_getD, List.getElem?_eq_getElem hkl] at this
      exact this
    · unfold pord
      rw [if_neg (by omega), hk]
      have := flt_at (a := k) ls 0
      rw [Nat.zero_add] at this
      rw [this, show ((k : Nat) : Int).toNat = k by omega, List.getD_eq_getElem?_getD, List.getElem?_eq_getElem hkl]
      rfl
theorem filt_perm (ls : List zLn) : (ls.filter due0 ++ ls.filter nd).Perm ls := by
  have := List.filter_append_perm due0 ls
  have e : ls.filter nd = ls.filter (fun x => !due0 x) := List.filter_congr (fun x _ => nd_due)
  rw [e]
  exact this
theorem pord_perm (kind : Int) (ls : List zLn) : (pord kind ls ++ ls.filter nd).Perm ls := by
  rcases pord_cases kind ls with ⟨-, h⟩ | ⟨k, x, -, hx, hd, h⟩
  · rw [h]
    exact filt_perm ls
  · rw [h, filt_nd hd ls k hx, List.cons_append]
    exact ((filt_perm (ls.eraseIdx k)).cons x).trans (erase_perm ls k x hx)
theorem sdn_mrk {n : Int} {ls : List zLn} : (ls.map (sdn n)).map mrk = ls.map mrk := by
  rw [List.map_map]
  rfl
theorem wk1_mz {P r kind : Int} {B : sB} (h : mz B) : mz (wk1 P r kind B) ∧ ((pord kind (B.2.map (sdn 1))).map mrk).Nodup ∧ ∀ x ∈ pord kind (B.2.map (sdn 1)), B.1.2.2 (mrk x) = 0 := by
  obtain ⟨h1, h2⟩ := h
  have hz : ∀ x ∈ B.2.map (sdn 1), B.1.2.2 (mrk x) = 0 := fun y hy => by
    obtain ⟨x, hx, rfl⟩ := List.mem_map.mp hy
    exact h2 x hx
  have hp := (pord_perm kind (B.2.map (sdn 1))).map mrk
  have hn : ((pord kind (B.2.map (sdn 1)) ++ (B.2.map (sdn 1)).filter nd).map mrk).Nodup := hp.symm.nodup (by rw [sdn_mrk]; exact h1)
  rw [List.map_append, List.nodup_append] at hn
  refine ⟨⟨hn.2.1, fun x hx => ?_⟩, hn.1, fun x hx => hz x (pord_sub hx)⟩
  have hx : x ∈ (B.2.map (sdn 1)).filter nd := hx
  show (send P r kind (swkS P 1 B.1) (B.2.map (sdn 1))).2.2 (mrk x) = 0
  rw [send_ord, fold_keep _ (fun y hy => ?_)]
  · exact hz x (List.mem_filter.mp hx).1
  · exact fun e => hn.2.2 _ (List.mem_map_of_mem hy) _ (List.mem_map_of_mem hx) e.symm
theorem msend_paid {P r kind : Int} (hP : P ≤ 6) (r0 : 0 ≤ r) (r1 : r ≤ 99) {B : sB} {s : sT} (hb : bok P B) (hz : mz B) (h : agS s (swkS P 1 B.1)) : agS (msend P r kind s (B.2.map (sdn 1))) (send P r kind (swkS P 1 B.1) (B.2.map (sdn 1))) := by
  rw [send_ord]
  have hm := (wk1_mz (P := P) (r := r) (kind := kind) hz).2
  refine fold_paid hP r0 r1 _ h (swk_ok hP (by omega) hb.1) hm.1 hm.2 (fun x hx => ?_)
  obtain ⟨y, hy, rfl⟩ := List.mem_map.mp (pord_sub hx)
  exact (hb.2.2 y hy).1
