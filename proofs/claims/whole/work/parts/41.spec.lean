/-! weeks, mathematically -/
/-- alike in what counts -/
def agS (s t : sT) : Prop := (∀ p : Int, 0 ≤ p → p < 6 → s.1 p = t.1 p ∧ s.2.1 p = t.2.1 p) ∧ ∀ k : Int, 0 ≤ k → k < 8 → s.2.2 k = t.2.2 k
theorem agS.rf {s : sT} : agS s s := ⟨fun _ _ _ => ⟨rfl, rfl⟩, fun _ _ _ => rfl⟩
theorem agS.sm {s t : sT} (h : agS s t) : agS t s := ⟨fun p a b => ⟨(h.1 p a b).1.symm, (h.1 p a b).2.symm⟩, fun k a b => (h.2 k a b).symm⟩
theorem agS.tr {s t u : sT} (h : agS s t) (g : agS t u) : agS s u := ⟨fun p a b => ⟨(h.1 p a b).1.trans (g.1 p a b).1, (h.1 p a b).2.trans (g.1 p a b).2⟩, fun k a b => (h.2 k a b).trans (g.2 k a b)⟩
def ag6 (w v : Int → Int) : Prop := ∀ p : Int, 0 ≤ p → p < 6 → w p = v p
theorem ag6.rf {w : Int → Int} : ag6 w w := fun _ _ _ => rfl
theorem sgv_ag {P : Int} {w v : Int → Int} {g a : Int} (hP : P ≤ 6) (h : ag6 w v) : sgv P w g a = sgv P v g a := by
  unfold sgv
  by_cases c : 0 ≤ g ∧ g < P
  · rw [h g c.1 (by omega)]
  · rw [if_neg (fun z => c z.1), if_neg (fun z => c z.1)]
theorem smv_ag {w v : Int → Int} {g t x : Int} (h : ag6 w v) (hg : x = 0 ∨ (0 ≤ g ∧ g < 6)) (t0 : 0 ≤ t) (t1 : t < 6) : ag6 (smv w g t x) (smv v g t x) := by
  rcases hg with rfl | ⟨g0, g1⟩
  · rw [smv_0, smv_0]
    exact h
  · intro p p0 p1
    unfold smv
    simp only [zfu_at]
    rw [h g g0 g1, h t t0 t1, h p p0 p1]
theorem zff_congr {c c' : Nat → Bool} : ∀ (m k : Nat), (∀ j, k ≤ j → j < k + m → c j = c' j) → zff c k m = zff c' k m
  | 0, k, h => rfl
  | m + 1, k, h => by
    rw [zff, zff, h k (by omega) (by omega), zff_congr m (k + 1) (fun j a b => h j (by omega) (by omega))]
theorem soth_ag {P : Int} {w v : Int → Int} {i j : Int} (hP : P ≤ 6) (h : ag6 w v) : soth P w i j = soth P v i j := by
  unfold soth
  refine zff_congr _ _ (fun p a b => ?_)
  rw [h p (by omega) (by omega)]
theorem sp1_ag {P kind : Int} {w v : Int → Int} {j due : Int} (hP : P ≤ 6) (h : ag6 w v) (j0 : 0 ≤ j) (j1 : j < 6) : sp1 P kind w j due = sp1 P kind v j due := by
  unfold sp1 sask
  rw [h j j0 j1, sgv_ag hP h]
theorem sw1_ag {P kind : Int} {w v : Int → Int} {i j due : Int} (hP : P ≤ 6) (h : ag6 w v) (i0 : 0 ≤ i) (i1 : i < 6) (j0 : 0 ≤ j) (j1 : j < 6) : ag6 (sw1 P kind w i j due) (sw1 P kind v i j due) := by
  unfold sw1
  rw [sp1_ag hP h j0 j1]
  exact smv_ag h (Or.inr ⟨j0, j1⟩) i0 i1
theorem sp2_ag {P kind : Int} {w v : Int → Int} {i j due : Int} (hP : P ≤ 6) (h : ag6 w v) (i0 : 0 ≤ i) (i1 : i < 6) (j0 : 0 ≤ j) (j1 : j < 6) : sp2 P kind w i j due = sp2 P kind v i j due := by
  unfold sp2
  have h1 := sw1_ag (kind := kind) (due := due) hP h i0 i1 j0 j1
  rw [sp1_ag hP h j0 j1, soth_ag hP h1, sgv_ag hP h1]
theorem sw2_ag {P kind : Int} {w v : Int → Int} {i j due : Int} (hP : P ≤ 6) (h : ag6 w v) (i0 : 0 ≤ i) (i1 : i < 6) (j0 : 0 ≤ j) (j1 : j < 6) : ag6 (sw2 P kind w i j due) (sw2 P kind v i j due) := by
  unfold sw2
  have h1 := sw1_ag (kind := kind) (due := due) hP h i0 i1 j0 j1
  split
  · rw [sp2_ag hP h i0 i1 j0 j1, soth_ag hP h1]
    refine smv_ag h1 ?_ i0 i1
    rcases soth_rng (w := sw1 P kind v i j due) (i := i) (j := j) hP with z | z
    · refine Or.inl ?_
      unfold sp2
      rw [z]
      split
      · unfold sgv
        rw [if_neg (by omega)]
      · rfl
    · exact Or.inr ⟨by omega, by omega⟩
  · exact h1
theorem spaid_ag {P kind : Int} {w v : Int → Int} {i j due : Int} (hP : P ≤ 6) (h : ag6 w v) (i0 : 0 ≤ i) (i1 : i < 6) (j0 : 0 ≤ j) (j1 : j < 6) : spaid P kind w i j due = spaid P kind v i j due := by
  unfold spaid
  rw [sp1_ag hP h j0 j1, sp2_ag hP h i0 i1 j0 j1]
theorem spay1_ag {P r kind : Int} {s t : sT} {x : zLn} (hP : P ≤ 6) (h : agS s t) (hx : lok P x) : agS (spay1 P r kind s x) (spay1 P r kind t x) := by
  obtain ⟨⟨i0, i1⟩, ⟨j0, j1⟩, ⟨n0, n1⟩, m0, m1⟩ := hx
  have hw : ag6 s.1 t.1 := fun p a b => (h.1 p a b).1
  have hi := h.1 x.1 i0 (by omega)
  unfold spay1
  rw [hi.1]
  split
  · have e1 := sw2_ag (kind := kind) (due := zdue r x.2.2.1) hP hw i0 (by omega) j0 (by omega)
    have e2 := spaid_ag (kind := kind) (due := zdue r x.2.2.1) hP hw i0 (show x.1 < 6 by omega) j0 (show x.2.1 < 6 by omega)
    refine ⟨fun p a b => ⟨e1 p a b, ?_⟩, fun k a b => ?_⟩
    · show zfu s.2.1 _ _ p = zfu t.2.1 _ _ p
      rw [zfu_at, zfu_at, e2, hi.2, (h.1 p a b).2]
    · show zfu s.2.2 _ _ k = zfu t.2.2 _ _ k
      rw [zfu_at, zfu_at, e2, h.2 k a b]
  · exact h
theorem fold_ag {P r kind : Int} (hP : P ≤ 6) : ∀ (ls : List zLn) {s t : sT}, agS s t → (∀ x ∈ ls, lok P x) → agS (ls.foldl (spay1 P r kind) s) (ls.foldl (spay1 P r kind) t)
  | [], s, t, h, _ => h
  | x :: ls, s, t, h, hx => fold_ag hP ls (spay1_ag hP h (hx x List.mem_cons_self)) (fun y hy => hx y (List.mem_cons_of_mem _ hy))
theorem flt_sub {a : Int} : ∀ (ls : List zLn) (k : Nat) (x : zLn), x ∈ flt a k ls → x ∈ ls
  | [], k, x, h => h
  | y :: ls, k, x, h => by
    rw [flt] at h
    split at h
    · rcases List.mem_cons.mp h with rfl | h
      · exact List.mem_cons_self
      · exact List.mem_cons_of_mem _ (flt_sub ls (k + 1) x h)
    · exact List.mem_cons_of_mem _ (flt_sub ls (k + 1) x h)
theorem sahd_mem {kind : Int} {ls : List zLn} (h : sahd kind ls ≠ -4) : ls.getD (sahd kind ls).toNat (0, 0, 0, 0, 0) ∈ ls := by
  rcases sahd_rng kind ls with z | ⟨k, hk, hkl⟩
  · exact absurd z h
  · rw [hk, show ((k : Nat) : Int).toNat = k by omega, List.getD_eq_getElem?_getD, List.getElem?_eq_getElem hkl]
    exact List.getElem_mem hkl
theorem send_ag {P r kind : Int} {s t : sT} {ls : List zLn} (hP : P ≤ 6) (h : agS s t) (hx : ∀ x ∈ ls, lok P x) : agS (send P r kind s ls) (send P r kind t ls) := by
  unfold send
  refine fold_ag hP _ ?_ (fun x hx' => hx x (flt_sub _ _ _ hx'))
  split
  · exact h
  · rename_i c
    exact spay1_ag hP h (hx _ (sahd_mem c))
theorem fold_ok {P r kind : Int} (hP : P ≤ 6) (r0 : 0 ≤ r) (r1 : r ≤ 99) : ∀ (ls : List zLn) {s : sT}, sWok s.1 → (∀ x ∈ ls, lok P x) → sWok (ls.foldl (spay1 P r kind) s).1
  | [], s, h, _ => h
  | x :: ls, s, h, hx => fold_ok hP r0 r1 ls (spay1_ok hP r0 r1 h (hx x List.mem_cons_self)) (fun y hy => hx y (List.mem_cons_of_mem _ hy))
theorem send_ok {P r kind : Int} {s : sT} {ls : List zLn} (hP : P ≤ 6) (r0 : 0 ≤ r) (r1 : r ≤ 99) (h : sWok s.1) (hx : ∀ x ∈ ls, lok P x) : sWok (send P r kind s ls).1 := by
  unfold send
  refine fold_ok hP r0 r1 _ ?_ (fun x hx' => hx x (flt_sub _ _ _ hx'))
  split
  · exact h
  · rename_i c
    exact spay1_ok hP r0 r1 h (hx _ (sahd_mem c))
/-- who lives, lives behind a payment, and none else -/
theorem smv_pos {P : Int} {w : Int → Int} {g t a p : Int} (hP : P ≤ 6) (hw : sWok w) (t0 : 0 ≤ t) (t1 : t < 6) (ha : 0 ≤ a) (ht : 0 < w t) (p0 : 0 ≤ p) (p1 : p < 6) : 0 < smv w g t (sgv P w g a) p ↔ 0 < w p := by
  have hr := sgv_rng (g := g) hP hw.le ha
  by_cases hz : sgv P w g a = 0
  · rw [hz, smv_0]
  · obtain ⟨hg, hlt⟩ := hr.2.2 hz
    have hwp := hw.1 p p0 p1
    unfold smv
    simp only [zfu_at]
    by_cases c1 : p = t
    · subst c1
      rw [if_pos rfl]
      split <;> (rename_i c2; first | (subst c2; omega) | omega)
    · rw [if_neg c1]
      by_cases c2 : p = g
      · subst c2
        rw [if_pos rfl]
        omega
      · rw [if_neg c2]
theorem sw2_pos {P kind : Int} {w : Int → Int} {i j due p : Int} (hP : P ≤ 6) (hw : sWok w) (i0 : 0 ≤ i) (i1 : i < 6) (hd : 0 ≤ due) (hi : 0 < w i) (p0 : 0 ≤ p) (p1 : p < 6) : 0 < sw2 P kind w i j due p ↔ 0 < w p := by
  have h1 : ∀ p : Int, 0 ≤ p → p < 6 → (0 < sw1 P kind w i j due p ↔ 0 < w p) := fun p p0 p1 => smv_pos hP hw i0 i1 (sask_rng hd).1 hi p0 p1
  have a := sp1_rng (kind := kind) (j := j) hP hw hd
  have hw1 := sw1_ok (kind := kind) (j := j) hP hw i0 i1 hd
  unfold sw2
  split
  · rename_i hk
    unfold sp2
    rw [if_pos hk]
    rw [smv_pos hP hw1 i0 i1 (by omega) ((h1 i i0 i1).mpr hi) p0 p1]
    exact h1 p p0 p1
  · exact h1 p p0 p1
theorem spay1_pos {P r kind : Int} {s : sT} {x : zLn} {p : Int} (hP : P ≤ 6) (r0 : 0 ≤ r) (r1 : r ≤ 99) (hw : sWok s.1) (hx : lok P x) (p0 : 0 ≤ p) (p1 : p < 6) : 0 < (spay1 P r kind s x).1 p ↔ 0 < s.1 p := by
  obtain ⟨⟨i0, i1⟩, ⟨j0, j1⟩, ⟨n0, n1⟩, -⟩ := hx
  have hd := zdue_rng r0 r1 (show 0 ≤ x.2.2.1 by omega) n1
  unfold spay1
  split
  · rename_i c
    exact sw2_pos hP hw i0 (by omega) (by omega) c p0 p1
  · exact Iff.rfl
theorem fold_pos {P r kind : Int} {p : Int} (hP : P ≤ 6) (r0 : 0 ≤ r) (r1 : r ≤ 99) (p0 : 0 ≤ p) (p1 : p < 6) : ∀ (ls : List zLn) {s : sT}, sWok s.1 → (∀ x ∈ ls, lok P x) → (0 < (ls.foldl (spay1 P r kind) s).1 p ↔ 0 < s.1 p)
  | [], s, h, _ => Iff.rfl
  | x :: ls, s, h, hx => (fold_pos hP r0 r1 p0 p1 ls (spay1_ok hP r0 r1 h (hx x List.mem_cons_self)) (fun y hy => hx y (List.mem_cons_of_mem _ hy))).trans (spay1_pos hP r0 r1 h (hx x List.mem_cons_self) p0 p1)
theorem send_pos {P r kind : Int} {s : sT} {ls : List zLn} {p : Int} (hP : P ≤ 6) (r0 : 0 ≤ r) (r1 : r ≤ 99) (h : sWok s.1) (hx : ∀ x ∈ ls, lok P x) (p0 : 0 ≤ p) (p1 : p < 6) : 0 < (send P r kind s ls).1 p ↔ 0 < s.1 p := by
  unfold send
  split
  · exact fold_pos hP r0 r1 p0 p1 _ h (fun x hx' => hx x (flt_sub _ _ _ hx'))
  · rename_i c
    exact (fold_pos hP r0 r1 p0 p1 _ (spay1_ok hP r0 r1 h (hx _ (sahd_mem c))) (fun x hx' => hx x (flt_sub _ _ _ hx'))).trans (spay1_pos hP r0 r1 h (hx _ (sahd_mem c)) p0 p1)
/-- a week -/
abbrev sB : Type := sT × List zLn
def swkS (P n : Int) (s : sT) : sT := (swk P n s.1, s.2.1, s.2.2)
/-- so many weeks at once, none due but at their end -/
def leap (P r kind : Int) (n : Int) (B : sB) : sB := (send P r kind (swkS P n B.1) (B.2.map (sdn n)), (B.2.map (sdn n)).filter nd)
def wk1 (P r kind : Int) (B : sB) : sB := leap P r kind 1 B
def wkn (P r kind : Int) : Nat → sB → sB
  | 0, B => B
  | n + 1, B => wkn P r kind n (wk1 P r kind B)
theorem wkn_add (P r kind : Int) : ∀ (a b : Nat) (B : sB), wkn P r kind (a + b) B = wkn P r kind b (wkn P r kind a B)
  | 0, b, B => by rw [Nat.zero_add]; rfl
  | a + 1, b, B => by
    rw [show a + 1 + b = (a + b) + 1 by omega]
    exact wkn_add P r kind a b (wk1 P r kind B)
theorem wkn_succ (P r kind : Int) (n : Nat) (B : sB) : wkn P r kind (n + 1) B = wk1 P r kind (wkn P r kind n B) := wkn_add P r kind n 1 B
/-- books as they may be -/
def bok (P : Int) (B : sB) : Prop := sWok B.1.1 ∧ B.2.length ≤ 8 ∧ ∀ x ∈ B.2, lok P x ∧ 1 ≤ x.2.2.2.1 ∧ x.2.2.2.1 ≤ 200
theorem lok_sdn {P n : Int} {x : zLn} (h : lok P x) : lok P (sdn n x) := h
theorem leap_ok {P r kind n : Int} {B : sB} (hP : P ≤ 6) (r0 : 0 ≤ r) (r1 : r ≤ 99) (n0 : 0 ≤ n) (h : bok P B) : bok P (leap P r kind n B) := by
  obtain ⟨h1, h2, h3⟩ := h
  have hx : ∀ x ∈ B.2.map (sdn n), lok P x := fun y hy => by
    obtain ⟨x, hx, rfl⟩ := List.mem_map.mp hy
    exact (h3 x hx).1
  refine ⟨send_ok hP r0 r1 (swk_ok hP n0 h1) hx, ?_, fun y hy => ?_⟩
  · have := List.length_filter_le nd (B.2.map (sdn n))
    rw [List.length_map] at this
    exact Nat.le_trans this h2
  · obtain ⟨hy1, hy2⟩ := List.mem_filter.mp hy
    obtain ⟨x, hx', rfl⟩ := List.mem_map.mp hy1
    obtain ⟨c1, c2, c3⟩ := h3 x hx'
    have : ¬ (x.2.2.2.1 - n ≤ 0) := by simpa [nd, sdn] using hy2
    exact ⟨c1, by show 1 ≤ x.2.2.2.1 - n; omega, by show x.2.2.2.1 - n ≤ 200; omega⟩
theorem wkn_ok {P r kind : Int} (hP : P ≤ 6) (r0 : 0 ≤ r) (r1 : r ≤ 99) : ∀ (n : Nat) {B : sB}, bok P B → bok P (wkn P r kind n B)
  | 0, B, h => h
  | n + 1, B, h => wkn_ok hP r0 r1 n (leap_ok hP r0 r1 (by omega) h)
theorem flt_none {a : Int} : ∀ (ls : List zLn) (k : Nat), (∀ x ∈ ls, 1 ≤ x.2.2.2.1) → flt a k ls = []
  | [], k, _ => rfl
  | x :: ls, k, h => by
    rw [flt, if_neg (fun z => by have := h x List.mem_cons_self; omega)]
    exact flt_none ls (k + 1) (fun y hy => h y (List.mem_cons_of_mem _ hy))
theorem sahd_none {kind : Int} {ls : List zLn} (h : ∀ x ∈ ls, 1 ≤ x.2.2.2.1) : sahd kind ls = -4 := by
  unfold sahd
  split
  · unfold sgreat
    have := zfor_inv (I := fun (_ : Nat) (g : Int) => g = -4) (F := fun (k : Nat) (g : Int) => if (ls.getD ((k : Int).toNat) (0, 0, 0, 0, 0)).2.2.2.1 ≤ 0 ∧ (g = -4 ∨ (ls.getD g.toNat (0, 0, 0, 0, 0)).2.2.1 < (ls.getD ((k : Int).toNat) (0, 0, 0, 0, 0)).2.2.1) then (k : Int) else g) (n := ls.length) (fun k g hk hi => by
      rw [if_neg]
      · exact hi
      · intro z
        have hz := z.1
        rw [show ((k : Nat) : Int).toNat = k by omega, List.getD_eq_getElem?_getD, List.getElem?_eq_getElem hk] at hz
        have := h _ (List.getElem_mem hk)
        simp at hz
        omega) ls.length 0 (-4) (by omega) rfl
    exact this
  · rfl
theorem send_none {P r kind : Int} {s : sT} {ls : List zLn} (h : ∀ x ∈ ls, 1 ≤ x.2.2.2.1) : send P r kind s ls = s := by
  unfold send
  rw [flt_none ls 0 h, sahd_none h, if_pos rfl]
  rfl
theorem filter_none {ls : List zLn} (h : ∀ x ∈ ls, 1 ≤ x.2.2.2.1) : ls.filter nd = ls := List.filter_eq_self.mpr (fun x hx => by
  have := h x hx
  simp only [nd, decide_eq_true_eq]
  omega)
theorem sdn_sdn {a b : Int} {x : zLn} : sdn a (sdn b x) = sdn (b + a) x := by
  unfold sdn
  simp only
  rw [show x.2.2.2.1 - b - a = x.2.2.2.1 - (b + a) by omega]
theorem swk_swk {P a b : Int} {w : Int → Int} (ha : 0 ≤ a) (hb : 0 ≤ b) : swk P a (swk P b w) = swk P (b + a) w := by
  funext p
  unfold swk
  split
  · rename_i c
    omega
  · rfl
theorem swk_0 {P : Int} {w : Int → Int} (hP : P ≤ 6) (hw : sWok w) : swk P 0 w = w := by
  funext p
  unfold swk
  split
  · rename_i c
    have := hw.1 p c.1 (by omega)
    omega
  · rfl
/-- ahead of the next payment all weeks are alike -/
theorem wkn_before {P r kind : Int} {B : sB} (hP : P ≤ 6) (h : bok P B) : ∀ (n : Nat), (∀ x ∈ B.2, (n : Int) < x.2.2.2.1) → wkn P r kind n B = (swkS P n B.1, B.2.map (sdn n))
  | 0, _ => by
    unfold swkS
    rw [show ((0 : Nat) : Int) = 0 by rfl, swk_0 hP h.1]
    have e : B.2.map (sdn 0) = B.2 := by
      have : sdn 0 = id := by
        funext x
        simp [sdn]
      rw [this, List.map_id]
    rw [e]
    rfl
  | n + 1, hx => by
    rw [wkn_succ, wkn_before hP h n (fun x hx' => by have := hx x hx'; omega)]
    have hm : (B.2.map (sdn n)).map (sdn 1) = B.2.map (sdn ((n + 1 : Nat) : Int)) := by
      rw [List.map_map]
      apply List.map_congr_left
      intro x _
      show sdn 1 (sdn n x) = _
      rw [sdn_sdn, show ((n + 1 : Nat) : Int) = (n : Int) + 1 by omega]
    have hd : ∀ x ∈ B.2.map (sdn ((n + 1 : Nat) : Int)), 1 ≤ x.2.2.2.1 := fun y hy => by
      obtain ⟨x, hx', rfl⟩ := List.mem_map.mp hy
      have := hx x hx'
      show 1 ≤ x.2.2.2.1 - ((n + 1 : Nat) : Int)
      omega
    unfold wk1 leap
    dsimp only
    rw [hm, send_none hd, filter_none hd]
    unfold swkS
    dsimp only
    rw [swk_swk (by omega) (by omega), show ((n + 1 : Nat) : Int) = (n : Int) + 1 by omega]
theorem leap_eq {P r kind : Int} {B : sB} (hP : P ≤ 6) (h : bok P B) {n : Nat} (hn : 1 ≤ n) (hx : ∀ x ∈ B.2, (n : Int) ≤ x.2.2.2.1) : leap P r kind n B = wkn P r kind n B := by
  obtain ⟨m, rfl⟩ : ∃ m, n = m + 1 := ⟨n - 1, by omega⟩
  rw [wkn_succ, wkn_before hP h m (fun x hx' => by have := hx x hx'; omega)]
  have hm : (B.2.map (sdn m)).map (sdn 1) = B.2.map (sdn ((m + 1 : Nat) : Int)) := by
    rw [List.map_map]
    apply List.map_congr_left
    intro x _
    show sdn 1 (sdn m x) = _
    rw [sdn_sdn, show ((m + 1 : Nat) : Int) = (m : Int) + 1 by omega]
  unfold wk1 leap
  dsimp only
  rw [hm]
  unfold swkS
  dsimp only
  rw [swk_swk (by omega) (by omega), show ((m + 1 : Nat) : Int) = (m : Int) + 1 by omega]
