/-! Trial: weeks go by -/
theorem snext_rng {n : Nat} {du : Int → Int} {most : Int} (hm : 1 ≤ most) (hd : ∀ k : Nat, k < n → 1 ≤ du k) : 1 ≤ snext n du most ∧ snext n du most ≤ most ∧ ∀ k : Nat, k < n → snext n du most ≤ du k := by
  have := zfor_inv (I := fun (k : Nat) (acc : Int) => 1 ≤ acc ∧ acc ≤ most ∧ ∀ j : Nat, j < k → acc ≤ du j) (F := fun (k : Nat) (acc : Int) => min acc (du k)) (n := n) (fun k acc hk hi => by
    have h1 := hd k hk
    refine ⟨by omega, by omega, fun j hj => ?_⟩
    by_cases c : j = k
    · subst c
      omega
    · have := hi.2.2 j (by omega)
      omega) n 0 most (by omega) ⟨hm, by omega, fun j hj => by omega⟩
  unfold snext
  refine ⟨by omega, by omega, fun k hk => ?_⟩
  have := this.2.2 k hk
  have := hd k hk
  omega
def TB (t : Nat) (H : zH) (B : sB) : Prop := agS (H (t + 2 + 1), H (t + 2 + 2), H (t + 2 + 8)) B.1 ∧ LA H (t + 2) B.2
/-- alive behind so many weeks -/
def alv (P r kind : Int) (B : sB) (p : Int) (j : Nat) : Prop := p < P ∧ 0 < (wkn P r kind j B).1.1 p
/-- the week of a death, of the first m weeks -/
def dOK (P r kind : Int) (B : sB) (m : Nat) (p d : Int) : Prop := ((∀ j, j ≤ m → alv P r kind B p j) ∧ d = 1000000) ∨ ∃ j : Nat, j ≤ m ∧ d = (j : Int) ∧ ¬ alv P r kind B p j ∧ ∀ i, i < j → alv P r kind B p i
theorem sWok_ag {w v : Int → Int} (h : ag6 w v) (hw : sWok v) : sWok w := by
  refine ⟨fun p p0 p1 => by rw [h p p0 p1]; exact hw.1 p p0 p1, ?_⟩
  have := hw.2
  unfold ssum at this ⊢
  rw [h 0 (by omega) (by omega), h 1 (by omega) (by omega), h 2 (by omega) (by omega), h 3 (by omega) (by omega), h 4 (by omega) (by omega), h 5 (by omega) (by omega)]
  exact this
theorem swk_ag {P n : Int} {w v : Int → Int} (h : ag6 w v) : ag6 (swk P n w) (swk P n v) := fun p p0 p1 => by
  unfold swk
  rw [h p p0 p1]
theorem swkS_ag {P n : Int} {s u : sT} (h : agS s u) : agS (swkS P n s) (swkS P n u) := ⟨fun p p0 p1 => ⟨swk_ag (fun p a b => (h.1 p a b).1) p p0 p1, (h.1 p p0 p1).2⟩, h.2⟩
/-- one leap's weeks, one by one -/
theorem leap_alv {P r kind : Int} {B : sB} {p : Int} {n : Nat} (hP : P ≤ 6) (r0 : 0 ≤ r) (r1 : r ≤ 99) (h : bok P B) (hx : ∀ x ∈ B.2, (n : Int) ≤ x.2.2.2.1) (p0 : 0 ≤ p) {j : Nat} (hj : j ≤ n) (j1 : 1 ≤ n) : alv P r kind B p j ↔ p < P ∧ (j : Int) < B.1.1 p := by
  unfold alv
  by_cases c : p < P
  · have hp6 : p < 6 := by omega
    have hw := h.1.1 p p0 hp6
    have key : 0 < (wkn P r kind j B).1.1 p ↔ 0 < swk P j B.1.1 p := by
      by_cases c2 : j = n
      · subst c2
        rw [← leap_eq hP h j1 hx]
        exact send_pos hP r0 r1 (swk_ok hP (by omega) h.1) (fun y hy => by
          obtain ⟨x, hx, rfl⟩ := List.mem_map.mp hy
          exact (h.2.2 x hx).1) p0 hp6
      · rw [wkn_before hP h j (fun x hx' => by have := hx x hx'; omega)]
        rfl
    rw [key]
    unfold swk
    rw [if_pos ⟨p0, c⟩]
    omega
  · exact ⟨fun z => absurd z.1 c, fun z => absurd z.1 c⟩
theorem alv_add {P r kind : Int} {B : sB} {p : Int} {m j : Nat} : alv P r kind B p (m + j) ↔ alv P r kind (wkn P r kind m B) p j := by
  unfold alv
  rw [wkn_add]
theorem alv_back {P r kind : Int} {B : sB} {p : Int} (hP : P ≤ 6) (r0 : 0 ≤ r) (r1 : r ≤ 99) (h : bok P B) (p0 : 0 ≤ p) : ∀ (m j : Nat), alv P r kind B p (j + m) → alv P r kind B p j
  | 0, j, hz => hz
  | m + 1, j, hz => by
    have hb := wkn_ok (kind := kind) hP r0 r1 (j + m) h
    have hz : alv P r kind B p ((j + m) + 1) := hz
    rw [alv_add] at hz
    have : alv P r kind (wkn P r kind (j + m) B) p 0 := by
      have := (leap_alv (kind := kind) (p := p) (n := 1) hP r0 r1 hb (fun x hx => (hb.2.2 x hx).2.1) p0 (Nat.le_refl _) (Nat.le_refl _)).mp hz
      exact ⟨this.1, by show 0 < (wkn P r kind (j + m) B).1.1 p; omega⟩
    exact alv_back hP r0 r1 h p0 m j ((alv_add (m := j + m) (j := 0)).mpr this)
/-- deaths noted ahead of a leap -/
theorem dOK_leap {P r kind : Int} {B : sB} {m n : Nat} {p d : Int} (hP : P ≤ 6) (r0 : 0 ≤ r) (r1 : r ≤ 99) (h : bok P B) (n1 : 1 ≤ n) (hx : ∀ x ∈ (wkn P r kind m B).2, (n : Int) ≤ x.2.2.2.1) (p0 : 0 ≤ p) (hd : dOK P r kind B m p d) : dOK P r kind B (m + n) p (if (p < P ∧ 0 < (wkn P r kind m B).1.1 p) ∧ (wkn P r kind m B).1.1 p ≤ (n : Int) then (m : Int) + (wkn P r kind m B).1.1 p else d) := by
  have hb := wkn_ok (kind := kind) hP r0 r1 m h
  have hl : ∀ j, j ≤ n → (alv P r kind B p (m + j) ↔ p < P ∧ (j : Int) < (wkn P r kind m B).1.1 p) := fun j hj => by
    rw [alv_add]
    exact leap_alv hP r0 r1 hb hx p0 hj n1
  by_cases c : p < P ∧ 0 < (wkn P r kind m B).1.1 p
  · have all : ∀ j, j ≤ m → alv P r kind B p j := fun j hj => by
      have hm : alv P r kind B p (j + (m - j)) := by
        rw [show j + (m - j) = m + 0 by omega, hl 0 (by omega)]
        exact ⟨c.1, by omega⟩
      exact alv_back hP r0 r1 h p0 (m - j) j hm
    by_cases c2 : (wkn P r kind m B).1.1 p ≤ (n : Int)
    · rw [if_pos ⟨c, c2⟩]
      refine Or.inr ⟨m + ((wkn P r kind m B).1.1 p).toNat, by omega, by omega, ?_, fun i hi => ?_⟩
      · rw [hl _ (by omega)]
        omega
      · by_cases c3 : i ≤ m
        · exact all i c3
        · have := (hl (i - m) (by omega)).mpr ⟨c.1, by omega⟩
          rw [show m + (i - m) = i by omega] at this
          exact this
    · rw [if_neg (fun z => c2 z.2)]
      have hd' : d = 1000000 := by
        rcases hd with hd | ⟨j, hj, -, hn, -⟩
        · exact hd.2
        · exact absurd (all j hj) hn
      refine Or.inl ⟨fun j hj => ?_, hd'⟩
      by_cases c3 : j ≤ m
      · exact all j c3
      · have := (hl (j - m) (by omega)).mpr ⟨c.1, by omega⟩
        rw [show m + (j - m) = j by omega] at this
        exact this
  · rw [if_neg (fun z => c z.1)]
    rcases hd with hd | ⟨j, hj, e, hn, hi⟩
    · exact absurd (hd.1 m (Nat.le_refl _)) c
    · exact Or.inr ⟨j, by omega, e, hn, hi⟩
/-- how deaths stand behind n weeks more -/
def dTo (P r kind : Int) (t : Nat) (H : zH) (B : sB) (n : Nat) (H' : zH) : Prop := ∀ (B0 : sB) (m : Nat), B = wkn P r kind m B0 → bok P B0 → H t 2 = (m : Int) → m + n ≤ 5000 → (∀ p : Int, 0 ≤ p → p < 6 → dOK P r kind B0 m p (H (t + 1) p)) → H' t 2 = ((m + n : Nat) : Int) ∧ ∀ p : Int, 0 ≤ p → p < 6 → dOK P r kind B0 (m + n) p (H' (t + 1) p)
theorem kX7_advance {t : Nat} {n : Nat} {B : sB} {P r kind : Int} {G : zG} {H : zH} {Q' : Option zV → zG → zH → Prop} (hG : zOK G) (ht : isTr t) (hT : tOK H) (eP : H 3 1 = P) (er : H 3 2 = r) (ek : H 3 3 = kind) (hB : TB t H B) (hb : bok P B) (hn : n ≤ 2000)
    (hq : ∀ H' : zH, frT t H H' → TB t H' (wkn P r kind n B) → dTo P r kind t H B n H' → (mk8 (H (t + 2 + 7)) → mk8 (H' (t + 2 + 7))) → Q' none G H') : zCall qX7_advance [vr t, vi (n : Int)] G H Q' := by
  have htg := tr_ge ht
  have ho := tr_bk ht
  have hT' := hT
  obtain ⟨⟨P0, P1⟩, ⟨r0, r1⟩, ⟨k0, k1⟩, -⟩ := hT'
  rw [eP] at P0 P1
  rw [er] at r0 r1
  rw [rX7_advance_in]
  simp only [rX7_advance_0, rX7_advance_1, rX7_advance_3, rX7_advance_6, rX7_advance_7, rX7_advance_8, rX7_advance_11, rX7_advance_12, rX7_advance_15, rX7_advance_18, rX7_advance_19, rX7_advance_20, rX7_advance_21, rX7_advance_24, rX7_advance_25, rX7_advance_28, rX7_advance_29, rX7_advance_32, rX7_advance_33, rX7_advance_34, rX7_advance_37, rX7_advance_38, rX7_advance_39, rX7_advance_42, rX7_advance_43, rX7_advance_44, rX7_advance_45, rX7_advance_46, rX7_advance_49, true_and, and_true, true_or, or_true, false_or, or_false, Option.toList_some, Option.toList_none, List.nil_append, List.cons_append, zn1]
  have loop : ∀ (f m left : Nat) (H1 : zH) (v3 : zV), left ≤ f → m + left = n → frT t H H1 → TB t H1 (wkn P r kind m B) → dTo P r kind t H B m H1 → (mk8 (H (t + 2 + 7)) → mk8 (H1 (t + 2 + 7))) → zRun qX7_advance 2 [vr t, vi (n : Int), vi (left : Int), v3] [] G H1 Q' := by
    intro f
    induction f with
    | zero =>
      intro m left H1 v3 hf hm f1 b1 d1 m1
      have : left = 0 := by omega
      subst this
      have : m = n := by omega
      subst this
      rw [rX7_advance_2]
      simp only [rX7_advance_0, rX7_advance_1, rX7_advance_3, rX7_advance_6, rX7_advance_7, rX7_advance_8, rX7_advance_11, rX7_advance_12, rX7_advance_15, rX7_advance_18, rX7_advance_19, rX7_advance_20, rX7_advance_21, rX7_advance_24, rX7_advance_25, rX7_advance_28, rX7_advance_29, rX7_advance_32, rX7_advance_33, rX7_advance_34, rX7_advance_37, rX7_advance_38, rX7_advance_39, rX7_advance_42, rX7_advance_43, rX7_advance_44, rX7_advance_45, rX7_advance_46, rX7_advance_49, true_and, and_true, true_or, or_true, false_or, or_false, Option.toList_some, Option.toList_none, List.nil_append, List.cons_append, zn1]
      rw [if_pos (by omega)]
      exact hq H1 f1 b1 d1 m1
    | succ f ih =>
      intro m left H1 v3 hf hm f1 b1 d1 m1
      by_cases c : left = 0
      · subst c
        have : m = n := by omega
        subst this
        rw [rX7_advance_2]
        simp only [rX7_advance_0, rX7_advance_1, rX7_advance_3, rX7_advance_6, rX7_advance_7, rX7_advance_8, rX7_advance_11, rX7_advance_12, rX7_advance_15, rX7_advance_18, rX7_advance_19, rX7_advance_20, rX7_advance_21, rX7_advance_24, rX7_advance_25, rX7_advance_28, rX7_advance_29, rX7_advance_32, rX7_advance_33, rX7_advance_34, rX7_advance_37, rX7_advance_38, rX7_advance_39, rX7_advance_42, rX7_advance_43, rX7_advance_44, rX7_advance_45, rX7_advance_46, rX7_advance_49, true_and, and_true, true_or, or_true, false_or, or_false, Option.toList_some, Option.toList_none, List.nil_append, List.cons_append, zn1]
        rw [if_pos (by omega)]
        exact hq H1 f1 b1 d1 m1
      · have e3 : H1 3 = H 3 := f1 3 (by omega)
        have hbm := wkn_ok (kind := kind) P1 r0 r1 m hb
        obtain ⟨ag, hL⟩ := id b1
        generalize hBm : wkn P r kind m B = Bm at *
        have hdu : ∀ k : Nat, k < Bm.2.length → 1 ≤ H1 (t + 2 + 6) k ∧ ∃ x ∈ Bm.2, H1 (t + 2 + 6) k = x.2.2.2.1 := fun k hk => by
          have hx : Bm.2[k]? = some Bm.2[k] := List.getElem?_eq_getElem hk
          have := (hL.2 k _ hx).2.2.2.1
          have hmem := List.getElem_mem hk
          exact ⟨by rw [this]; exact (hbm.2.2 _ hmem).2.1, _, hmem, this⟩
        have hsn := snext_rng (n := Bm.2.length) (du := H1 (t + 2 + 6)) (most := (left : Int)) (by omega) (fun k hk => (hdu k hk).1)
        rw [rX7_advance_2]
        simp only [rX7_advance_0, rX7_advance_1, rX7_advance_3, rX7_advance_6, rX7_advance_7, rX7_advance_8, rX7_advance_11, rX7_advance_12, rX7_advance_15, rX7_advance_18, rX7_advance_19, rX7_advance_20, rX7_advance_21, rX7_advance_24, rX7_advance_25, rX7_advance_28, rX7_advance_29, rX7_advance_32, rX7_advance_33, rX7_advance_34, rX7_advance_37, rX7_advance_38, rX7_advance_39, rX7_advance_42, rX7_advance_43, rX7_advance_44, rX7_advance_45, rX7_advance_46, rX7_advance_49, true_and, and_true, true_or, or_true, false_or, or_false, Option.toList_some, Option.toList_none, List.nil_append, List.cons_append, zn1, kTr hG ht, kB hG ho, kX0_weeksToNextDue hG ho hL.1 hbm.2.1]
        rw [if_neg (by omega)]
        generalize hsp : snext Bm.2.length (H1 (t + 2 + 6)) (left : Int) = sp at *
        rw [show max 1 sp = sp by omega]
        obtain ⟨k, rfl⟩ := nat_of (show 0 ≤ sp by omega)
        have hxs : ∀ x ∈ Bm.2, (k : Int) ≤ x.2.2.2.1 := fun x hx => by
          obtain ⟨j, hj, rfl⟩ := List.getElem_of_mem hx
          have := hsn.2.2 j hj
          have e := (hL.2 j _ (List.getElem?_eq_getElem hj)).2.2.2.1
          rw [e] at this
          exact this
        have hw6 : ag6 (H1 (t + 2 + 1)) Bm.1.1 := fun p a b => (ag.1 p a b).1
        have hw1 : sWok (H1 (t + 2 + 1)) := sWok_ag hw6 hbm.1
        refine kX7_noteDeaths hG ht (by rw [e3]; omega) (by rw [e3]; omega) (fun H2 f2 c2 => ?_)
        simp only [rX7_advance_0, rX7_advance_1, rX7_advance_3, rX7_advance_6, rX7_advance_7, rX7_advance_8, rX7_advance_11, rX7_advance_12, rX7_advance_15, rX7_advance_18, rX7_advance_19, rX7_advance_20, rX7_advance_21, rX7_advance_24, rX7_advance_25, rX7_advance_28, rX7_advance_29, rX7_advance_32, rX7_advance_33, rX7_advance_34, rX7_advance_37, rX7_advance_38, rX7_advance_39, rX7_advance_42, rX7_advance_43, rX7_advance_44, rX7_advance_45, rX7_advance_46, rX7_advance_49, true_and, and_true, true_or, or_true, false_or, or_false, Option.toList_some, Option.toList_none, List.nil_append, List.cons_append, zn1, kTr hG ht, kB hG ho]
        have hL2 : LA H2 (t + 2) Bm.2 := ⟨by rw [f2 _ (by omega)]; exact hL.1, fun j x hj => by
          have := hL.2 j x hj
          unfold AR at this ⊢
          rw [f2 _ (by omega), f2 _ (by omega), f2 _ (by omega), f2 _ (by omega), f2 _ (by omega)]
          exact this⟩
        have e32 : H2 3 = H 3 := by rw [f2 _ (by omega), e3]
        have hT2 : tOK H2 := by
          unfold tOK at hT ⊢
          rw [e32]
          exact hT
        refine kX0_pass hG ho hT2 (by rw [f2 _ (by omega)]; exact hw1) hL2 hbm.2.1 (fun x hx => by rw [e32, eP]; exact (hbm.2.2 x hx).1) (fun x hx => by have := (hbm.2.2 x hx).2; omega) (by omega) (by omega) (fun H3 s hs f3 s1 s2 s8 hL3 _ m3 => ?_)
        rw [e32, eP, er, ek, f2 (t + 2 + 1) (by omega), f2 (t + 2 + 2) (by omega), f2 (t + 2 + 8) (by omega)] at hs
        simp only [rX7_advance_0, rX7_advance_1, rX7_advance_3, rX7_advance_6, rX7_advance_7, rX7_advance_8, rX7_advance_11, rX7_advance_12, rX7_advance_15, rX7_advance_18, rX7_advance_19, rX7_advance_20, rX7_advance_21, rX7_advance_24, rX7_advance_25, rX7_advance_28, rX7_advance_29, rX7_advance_32, rX7_advance_33, rX7_advance_34, rX7_advance_37, rX7_advance_38, rX7_advance_39, rX7_advance_42, rX7_advance_43, rX7_advance_44, rX7_advance_45, rX7_advance_46, rX7_advance_49, true_and, and_true, true_or, or_true, false_or, or_false, Option.toList_some, Option.toList_none, List.nil_append, List.cons_append, zn1, kTr hG ht, zup_def]
        have et : H3 t = H1 t := by rw [f3 _ (by omega), f2 _ (by omega)]
        have hleap : wkn P r kind (m + k) B = leap P r kind k Bm := by
          rw [wkn_add, hBm, leap_eq P1 hbm (by omega) hxs]
        rw [zw_id (z := (left : Int) - (k : Int)) (by omega) (by omega), show (left : Int) - (k : Int) = ((left - k : Nat) : Int) by omega]
        refine ih (m + k) (left - k) _ _ (by omega) (by omega) (fun b hb' => ?_) ⟨?_, ?_⟩ ?_ (fun hm => by
          rw [zset_ne (by omega)]
          refine m3 ?_
          rw [f2 _ (by omega)]
          exact m1 hm)
        · rw [zset_ne (by omega), f3 _ (by omega), f2 _ (by omega)]
          exact f1 b hb'
        · rw [zset_ne (by omega), zset_ne (by omega), zset_ne (by omega), s1, s2, s8, hleap]
          show agS s (send P r kind (swkS P k Bm.1) (Bm.2.map (sdn k)))
          rw [hs]
          exact send_ag P1 (swkS_ag ag) (fun y hy => by
            obtain ⟨x, hx, rfl⟩ := List.mem_map.mp hy
            exact (hbm.2.2 x hx).1)
        · rw [hleap]
          refine ⟨by rw [zset_ne (by omega)]; exact hL3.1, fun j x hj => ?_⟩
          have := hL3.2 j x hj
          unfold AR at this ⊢
          rw [zset_ne (by omega), zset_ne (by omega), zset_ne (by omega), zset_ne (by omega), zset_ne (by omega)]
          exact this
        · intro B0 m0 hB0 hb0 ht2 hle hdd
          obtain ⟨q1, q2⟩ := d1 B0 m0 hB0 hb0 ht2 (by omega) hdd
          have hB0m : wkn P r kind (m0 + m) B0 = Bm := by rw [wkn_add, ← hB0, hBm]
          refine ⟨?_, fun p p0 p1 => ?_⟩
          · rw [zset_eq, zfu_at, if_pos rfl, et, q1, zw_id (by omega) (by omega)]
            omega
          · rw [zset_ne (by omega), f3 _ (by omega), c2 p p0 p1, e3, eP, hw6 p p0 p1, q1]
            have hle6 := (hbm.1.le p p0 p1)
            have := dOK_leap (kind := kind) (m := m0 + m) (n := k) (p := p) P1 r0 r1 hb0 (by omega) (by rw [hB0m]; exact hxs) p0 (q2 p p0 p1)
            rw [hB0m] at this
            rw [zw_id (by omega) (by omega), show m0 + (m + k) = m0 + m + k by omega]
            exact this
  exact loop n 0 n H vu (Nat.le_refl _) (by omega) frT.rf hB (fun B0 m0 hB0 hb0 ht2 hle hdd => ⟨ht2, hdd⟩) (fun h => h)
