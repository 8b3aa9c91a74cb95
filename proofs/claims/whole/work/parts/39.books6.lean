/-! Books: a stretch of weeks; books opened, copied, marked; a loan more -/
/-- the weeks behind a stretch -/
def swk (P span : Int) (w : Int → Int) : Int → Int := fun p => if 0 ≤ p ∧ p < P then max 0 (w p - span) else w p
def sdn (span : Int) (x : zLn) : zLn := (x.1, x.2.1, x.2.2.1, x.2.2.2.1 - span, x.2.2.2.2)
theorem swk_ok {P span : Int} {w : Int → Int} (hP : P ≤ 6) (hs : 0 ≤ span) (h : sWok w) : sWok (swk P span w) := by
  have hb := h.le
  have hs2 := h.2
  have le : ∀ p : Int, 0 ≤ p → p < 6 → 0 ≤ swk P span w p ∧ swk P span w p ≤ w p := by
    intro p h0 h1
    have := hb p h0 h1
    unfold swk
    split <;> omega
  refine ⟨fun p h0 h1 => (le p h0 h1).1, ?_⟩
  have l0 := le 0 (by omega) (by omega)
  have l1 := le 1 (by omega) (by omega)
  have l2 := le 2 (by omega) (by omega)
  have l3 := le 3 (by omega) (by omega)
  have l4 := le 4 (by omega) (by omega)
  have l5 := le 5 (by omega) (by omega)
  unfold ssum at hs2 ⊢
  omega
/-- nothing but a book's own cells -/
def frB (o : Nat) (H H' : zH) : Prop := ∀ b : Nat, b < o ∨ o + 8 < b → H' b = H b
theorem frB.rf {o : Nat} {H : zH} : frB o H H := fun _ _ => rfl
theorem frB.tr {o : Nat} {H H1 H2 : zH} (h1 : frB o H H1) (h2 : frB o H1 H2) : frB o H H2 := fun b x => (h2 b x).trans (h1 b x)
/-- what a week's end makes of weeks, lost, paid, and of the loans: the loans' rows already a stretch on -/
def sahd (kind : Int) (ls : List zLn) : Int := if kind = 2 then sgreat ls.length (fun k => (ls.getD k.toNat (0, 0, 0, 0, 0)).2.2.1) (fun k => (ls.getD k.toNat (0, 0, 0, 0, 0)).2.2.2.1) else -4
def send (P r kind : Int) (s : sT) (ls : List zLn) : sT :=
  (flt (sahd kind ls) 0 ls).foldl (spay1 P r kind) (if sahd kind ls = -4 then s else spay1 P r kind s (ls.getD (sahd kind ls).toNat (0, 0, 0, 0, 0)))
theorem sgreat_rng {n : Nat} {am du : Int → Int} : sgreat n am du = -4 ∨ (∃ k : Nat, sgreat n am du = (k : Int) ∧ k < n) := by
  unfold sgreat
  have := zfor_inv (I := fun (k : Nat) (g : Int) => g = -4 ∨ ∃ j : Nat, g = (j : Int) ∧ j < k) (F := fun (k : Nat) (g : Int) => if du k ≤ 0 ∧ (g = -4 ∨ am g < am k) then (k : Int) else g) (n := n) (fun k g hk hi => by
    split
    · exact Or.inr ⟨k, rfl, by omega⟩
    · rcases hi with h | ⟨j, h1, h2⟩
      · exact Or.inl h
      · exact Or.inr ⟨j, h1, by omega⟩) n 0 (-4) (by omega) (Or.inl rfl)
  exact this
theorem sgreat_congr {n : Nat} {am du am' du' : Int → Int} (h1 : ∀ k : Nat, k < n → am k = am' k) (h2 : ∀ k : Nat, k < n → du k = du' k) : sgreat n am du = sgreat n am' du' := by
  unfold sgreat
  have := zfor_rel (T := fun (k : Nat) (g g' : Int) => g = g' ∧ (g = -4 ∨ ∃ j : Nat, g = (j : Int) ∧ j < k)) (F := fun (k : Nat) (g : Int) => if du k ≤ 0 ∧ (g = -4 ∨ am g < am k) then (k : Int) else g) (F' := fun (k : Nat) (g : Int) => if du' k ≤ 0 ∧ (g = -4 ∨ am' g < am' k) then (k : Int) else g) (n := n) (fun k g g' hk hi => by
    obtain ⟨rfl, hi⟩ := hi
    have e : (g = -4 ∨ am g < am k) ↔ (g = -4 ∨ am' g < am' k) := by
      rcases hi with h | ⟨j, hj, hjk⟩
      · simp [h]
      · rw [hj, h1 j (by omega), h1 k hk]
    rw [h2 k hk]
    simp only [e]
    refine ⟨trivial, ?_⟩
    split
    · exact Or.inr ⟨k, rfl, by omega⟩
    · rcases hi with h | ⟨j, h1, h2⟩
      · exact Or.inl h
      · exact Or.inr ⟨j, h1, by omega⟩) n 0 (-4) (-4) (by omega) ⟨rfl, Or.inl rfl⟩
  exact this.1
theorem LA_get {H : zH} {o : Nat} {ls : List zLn} (h : LA H o ls) {k : Nat} (hk : k < ls.length) : AR H o k (ls.getD k (0, 0, 0, 0, 0)) := by
  refine h.2 k _ ?_
  rw [List.getD_eq_getElem?_getD, List.getElem?_eq_getElem hk]
  rfl
theorem sahd_eq {H : zH} {o : Nat} {ls : List zLn} (h : LA H o ls) (kind : Int) : sahd kind ls = if kind = 2 then sgreat ls.length (H (o + 5)) (H (o + 6)) else -4 := by
  unfold sahd
  split
  · refine sgreat_congr (fun k hk => ?_) (fun k hk => ?_)
    · simpa using (LA_get h hk).2.2.1.symm
    · simpa using (LA_get h hk).2.2.2.1.symm
  · rfl
theorem sahd_rng (kind : Int) (ls : List zLn) : sahd kind ls = -4 ∨ (∃ k : Nat, sahd kind ls = (k : Int) ∧ k < ls.length) := by
  unfold sahd
  split
  · exact sgreat_rng
  · exact Or.inl rfl
theorem kpayDue {o : Nat} {ls : List zLn} {G : zG} {H : zH} {Q : Option zV → zG → zH → Prop} (hG : zOK G) (ho : isBk o) (hT : tOK H) (hw : sWok (H (o + 1))) (hL : LA H o ls) (h8 : ls.length ≤ 8) (hok : ∀ x ∈ ls, lok (H 3 1) x) : zCall qX0_payThoseDue [vr o] G H Q ↔ Q none G (zset3 H o (send (H 3 1) (H 3 2) (H 3 3) (H (o + 1), H (o + 2), H (o + 8)) ls)) := by
  refine kX0_payThoseDue hG ho hT hw hL h8 hok (sahd_eq hL _) (fun x => ?_) (sahd_rng _ _)
  rcases sahd_rng (H 3 3) ls with h | ⟨k, hk, hkl⟩
  · exact Or.inl ⟨h, by rw [if_pos h]⟩
  · refine Or.inr ⟨k, hk, fun hx => ?_⟩
    rw [if_neg (by omega), hk]
    congr 1
    rw [show ((k : Nat) : Int).toNat = k by omega, List.getD_eq_getElem?_getD, hx]
    rfl
theorem kX0_pass {o : Nat} {ls : List zLn} {span : Int} {G : zG} {H : zH} {Q' : Option zV → zG → zH → Prop} (hG : zOK G) (ho : isBk o) (hT : tOK H) (hw : sWok (H (o + 1))) (hL : LA H o ls) (h8 : ls.length ≤ 8) (hok : ∀ x ∈ ls, lok (H 3 1) x) (hd : ∀ x ∈ ls, -1000000 ≤ x.2.2.2.1 ∧ x.2.2.2.1 ≤ 1000000) (sp0 : 0 ≤ span) (sp1 : span ≤ 100000)
    (hq : ∀ (H' : zH) (s : sT), s = send (H 3 1) (H 3 2) (H 3 3) (swk (H 3 1) span (H (o + 1)), H (o + 2), H (o + 8)) (ls.map (sdn span)) → frB o H H' → H' (o + 1) = s.1 → H' (o + 2) = s.2.1 → H' (o + 8) = s.2.2 → LA H' o ((ls.map (sdn span)).filter nd) → H' o 10 = zw (H o 10 + span) → (mk8 (H (o + 7)) → mk8 (H' (o + 7))) → Q' none G H') : zCall qX0_pass [vr o, vi span] G H Q' := by
  rw [rX0_pass_in]
  simp only [rX0_pass_0, rX0_pass_1, rX0_pass_3, rX0_pass_4, rX0_pass_7, rX0_pass_10, rX0_pass_13, rX0_pass_14, rX0_pass_17, rX0_pass_18, rX0_pass_19, rX0_pass_20, rX0_pass_23, rX0_pass_24, rX0_pass_25, rX0_pass_26, rX0_pass_27, rX0_pass_30, rX0_pass_31, rX0_pass_34, rX0_pass_37, rX0_pass_38, rX0_pass_40, rX0_pass_41, rX0_pass_44, rX0_pass_47, rX0_pass_48, rX0_pass_51, rX0_pass_52, rX0_pass_53, rX0_pass_54, rX0_pass_55, rX0_pass_56, rX0_pass_57, rX0_pass_60, rX0_pass_63, rX0_pass_64, rX0_pass_67, rX0_pass_68, rX0_pass_71, rX0_pass_72, rX0_pass_73, rX0_pass_76, rX0_pass_77, rX0_pass_78, rX0_pass_81, true_and, and_true, true_or, or_true, false_or, or_false, Option.toList_some, Option.toList_none, List.nil_append, List.cons_append, zn1]
  have hb := bk_ge ho
  have hT' := hT
  obtain ⟨⟨p0, p1⟩, -⟩ := hT'
  obtain ⟨P, hP⟩ := nat_of (show 0 ≤ H 3 1 by omega)
  obtain ⟨hn, hA⟩ := id hL
  -- the weeks
  refine zfor_goI (R := fun k H1 => zRun qX0_pass 2 [vr o, vi span, vi (k : Int)] [] G H1 Q') (fun k H1 => H1 = zset H (o + 1) (fun p => if 0 ≤ p ∧ p < (k : Int) then max 0 (H (o + 1) p - span) else H (o + 1) p)) (F := fun k H1 => zset H (o + 1) (fun p => if 0 ≤ p ∧ p < (k : Int) + 1 then max 0 (H (o + 1) p - span) else H (o + 1) p)) (n := P) (fun k H1 hk hi => ?_) (fun k H1 hk hi hq => ?_) H ?_ ?_
  · rw [show ((k + 1 : Nat) : Int) = (k : Int) + 1 by omega]
  · subst hi
    rw [rX0_pass_2]
    simp only [rX0_pass_0, rX0_pass_1, rX0_pass_3, rX0_pass_4, rX0_pass_7, rX0_pass_10, rX0_pass_13, rX0_pass_14, rX0_pass_17, rX0_pass_18, rX0_pass_19, rX0_pass_20, rX0_pass_23, rX0_pass_24, rX0_pass_25, rX0_pass_26, rX0_pass_27, rX0_pass_30, rX0_pass_31, rX0_pass_34, rX0_pass_37, rX0_pass_38, rX0_pass_40, rX0_pass_41, rX0_pass_44, rX0_pass_47, rX0_pass_48, rX0_pass_51, rX0_pass_52, rX0_pass_53, rX0_pass_54, rX0_pass_55, rX0_pass_56, rX0_pass_57, rX0_pass_60, rX0_pass_63, rX0_pass_64, rX0_pass_67, rX0_pass_68, rX0_pass_71, rX0_pass_72, rX0_pass_73, rX0_pass_76, rX0_pass_77, rX0_pass_78, rX0_pass_81, true_and, and_true, true_or, or_true, false_or, or_false, Option.toList_some, Option.toList_none, List.nil_append, List.cons_append, zn1, kB hG ho, sO_3 hG, neB ho, zup_def, zset_at, zset_set, if_true, if_false, zwk (show k < 2000000000 by omega)]
    rw [if_neg (by omega)]
    have hwk := hw.le k (by omega) (by omega)
    refine ⟨by omega, by omega, ?_⟩
    rw [if_neg (show ¬ (0 ≤ (k : Int) ∧ (k : Int) < k) by omega), zw_id (z := H (o + 1) k - span) (by omega) (by omega)]
    have e : zfu (fun p => if 0 ≤ p ∧ p < (k : Int) then max 0 (H (o + 1) p - span) else H (o + 1) p) k (max 0 (H (o + 1) k - span)) = (fun p => if 0 ≤ p ∧ p < (k : Int) + 1 then max 0 (H (o + 1) p - span) else H (o + 1) p) := by
      funext p
      rw [zfu_at]
      by_cases c : p = k
      · subst c
        rw [if_pos rfl, if_pos (by omega)]
      · rw [if_neg c]
        by_cases c2 : 0 ≤ p ∧ p < (k : Int)
        · rw [if_pos c2, if_pos (by omega)]
        · rw [if_neg c2, if_neg (by omega)]
    rw [e]
    exact hq
  · have e : (fun p => if 0 ≤ p ∧ p < ((0 : Nat) : Int) then max 0 (H (o + 1) p - span) else H (o + 1) p) = H (o + 1) := by
      funext p
      rw [if_neg (by omega)]
    rw [e, zset_self]
  -- the loans
  obtain ⟨H2, hH2⟩ : ∃ H2, H2 = zset H (o + 1) (swk (H 3 1) span (H (o + 1))) := ⟨_, rfl⟩
  have eW : zfor (fun k H1 => zset H (o + 1) (fun p => if 0 ≤ p ∧ p < ((k : Nat) : Int) + 1 then max 0 (H (o + 1) p - span) else H (o + 1) p)) 0 P H = H2 := by
    rw [hH2]
    have hP1 : P = (P - 1) + 1 := by omega
    rw [hP1, zfor_succ]
    unfold swk
    rw [hP]
    congr 2
    funext p
    rw [show ((0 + (P - 1) : Nat) : Int) + 1 = P by omega]
  rw [eW]
  rw [rX0_pass_2]
  have f3 : H2 3 = H 3 := by rw [hH2, zset_ne (by omega)]
  have f1 : H2 (o + 1) = swk (H 3 1) span (H (o + 1)) := by rw [hH2, zset_eq]
  have fo : ∀ b, b ≠ o + 1 → H2 b = H b := fun b hb => by rw [hH2, zset_ne hb]
  simp only [rX0_pass_0, rX0_pass_1, rX0_pass_3, rX0_pass_4, rX0_pass_7, rX0_pass_10, rX0_pass_13, rX0_pass_14, rX0_pass_17, rX0_pass_18, rX0_pass_19, rX0_pass_20, rX0_pass_23, rX0_pass_24, rX0_pass_25, rX0_pass_26, rX0_pass_27, rX0_pass_30, rX0_pass_31, rX0_pass_34, rX0_pass_37, rX0_pass_38, rX0_pass_40, rX0_pass_41, rX0_pass_44, rX0_pass_47, rX0_pass_48, rX0_pass_51, rX0_pass_52, rX0_pass_53, rX0_pass_54, rX0_pass_55, rX0_pass_56, rX0_pass_57, rX0_pass_60, rX0_pass_63, rX0_pass_64, rX0_pass_67, rX0_pass_68, rX0_pass_71, rX0_pass_72, rX0_pass_73, rX0_pass_76, rX0_pass_77, rX0_pass_78, rX0_pass_81, true_and, and_true, true_or, or_true, false_or, or_false, Option.toList_some, Option.toList_none, List.nil_append, List.cons_append, zn1, kB hG ho, sO_3 hG, f3]
  rw [if_pos (by omega)]
  have loop : ∀ (rest : List zLn) (k : Nat) (H3 : zH), ls.drop k = rest → k ≤ ls.length → (∀ b, b ≠ o + 6 → H3 b = H2 b) → (∀ (j : Nat) (x : zLn), ls[j]? = some x → H3 (o + 6) (j : Int) = if j < k then x.2.2.2.1 - span else x.2.2.2.1) → zRun qX0_pass 39 [vr o, vi span, vi (k : Int)] [] G H3 Q' := by
    intro rest
    induction rest with
    | nil =>
      intro k H3 hk hkl h3 h6
      have hlen : ls.length ≤ k := List.drop_eq_nil_iff.mp hk
      have e9 : H3 o 9 = (ls.length : Int) := by rw [h3 o (by omega), fo o (by omega)]; exact hn
      have t3 : H3 3 = H 3 := by rw [h3 3 (by omega), f3]
      have w3 : H3 (o + 1) = swk (H 3 1) span (H (o + 1)) := by rw [h3 _ (by omega), f1]
      have l3 : H3 (o + 2) = H (o + 2) := by rw [h3 _ (by omega), fo _ (by omega)]
      have m3 : H3 (o + 8) = H (o + 8) := by rw [h3 _ (by omega), fo _ (by omega)]
      have hL3 : LA H3 o (ls.map (sdn span)) := by
        refine ⟨by rw [e9]; simp, fun j y hj => ?_⟩
        rw [List.getElem?_map] at hj
        cases hx : ls[j]? with
        | none => rw [hx] at hj; cases hj
        | some x =>
          rw [hx] at hj
          cases hj
          have hjl : j < ls.length := (List.getElem?_eq_some_iff.mp hx).1
          obtain ⟨a1, a2, a3, a4, a5⟩ := hA j x hx
          refine ⟨?_, ?_, ?_, ?_, ?_⟩
          · rw [h3 _ (by omega), fo _ (by omega)]; exact a1
          · rw [h3 _ (by omega), fo _ (by omega)]; exact a2
          · rw [h3 _ (by omega), fo _ (by omega)]; exact a3
          · rw [h6 j x hx, if_pos (by omega)]; rfl
          · rw [h3 _ (by omega), fo _ (by omega)]; exact a5
      have hok3 : ∀ x ∈ ls.map (sdn span), lok (H3 3 1) x := by
        intro y hy
        obtain ⟨x, hx, rfl⟩ := List.mem_map.mp hy
        rw [t3]
        exact hok x hx
      have hT3 : tOK H3 := by
        unfold tOK at hT ⊢
        rw [t3]
        exact hT
      rw [rX0_pass_39]
      simp only [rX0_pass_0, rX0_pass_1, rX0_pass_3, rX0_pass_4, rX0_pass_7, rX0_pass_10, rX0_pass_13, rX0_pass_14, rX0_pass_17, rX0_pass_18, rX0_pass_19, rX0_pass_20, rX0_pass_23, rX0_pass_24, rX0_pass_25, rX0_pass_26, rX0_pass_27, rX0_pass_30, rX0_pass_31, rX0_pass_34, rX0_pass_37, rX0_pass_38, rX0_pass_40, rX0_pass_41, rX0_pass_44, rX0_pass_47, rX0_pass_48, rX0_pass_51, rX0_pass_52, rX0_pass_53, rX0_pass_54, rX0_pass_55, rX0_pass_56, rX0_pass_57, rX0_pass_60, rX0_pass_63, rX0_pass_64, rX0_pass_67, rX0_pass_68, rX0_pass_71, rX0_pass_72, rX0_pass_73, rX0_pass_76, rX0_pass_77, rX0_pass_78, rX0_pass_81, true_and, and_true, true_or, or_true, false_or, or_false, Option.toList_some, Option.toList_none, List.nil_append, List.cons_append, zn1, kB hG ho, e9]
      rw [if_pos (by omega)]
      rw [kpayDue hG ho hT3 (by rw [w3]; exact swk_ok p1 sp0 hw) hL3 (by simpa using h8) hok3]
      simp only [rX0_pass_0, rX0_pass_1, rX0_pass_3, rX0_pass_4, rX0_pass_7, rX0_pass_10, rX0_pass_13, rX0_pass_14, rX0_pass_17, rX0_pass_18, rX0_pass_19, rX0_pass_20, rX0_pass_23, rX0_pass_24, rX0_pass_25, rX0_pass_26, rX0_pass_27, rX0_pass_30, rX0_pass_31, rX0_pass_34, rX0_pass_37, rX0_pass_38, rX0_pass_40, rX0_pass_41, rX0_pass_44, rX0_pass_47, rX0_pass_48, rX0_pass_51, rX0_pass_52, rX0_pass_53, rX0_pass_54, rX0_pass_55, rX0_pass_56, rX0_pass_57, rX0_pass_60, rX0_pass_63, rX0_pass_64, rX0_pass_67, rX0_pass_68, rX0_pass_71, rX0_pass_72, rX0_pass_73, rX0_pass_76, rX0_pass_77, rX0_pass_78, rX0_pass_81, true_and, and_true, true_or, or_true, false_or, or_false, Option.toList_some, Option.toList_none, List.nil_append, List.cons_append, zn1, kB hG ho]
      rw [t3, w3, l3, m3]
      generalize hs : send (H 3 1) (H 3 2) (H 3 3) (swk (H 3 1) span (H (o + 1)), H (o + 2), H (o + 8)) (ls.map (sdn span)) = s
      have hL4 : LA (zset3 H3 o s) o (ls.map (sdn span)) := ⟨by rw [zset3_ne (by omega) (by omega) (by omega)]; exact hL3.1, fun j x hj => AR_set3 (hL3.2 j x hj)⟩
      refine kX0_dropThoseDue hG ho hL4 (by simpa using h8) (fun H5 hf hL5 hm5 => ?_)
      simp only [rX0_pass_0, rX0_pass_1, rX0_pass_3, rX0_pass_4, rX0_pass_7, rX0_pass_10, rX0_pass_13, rX0_pass_14, rX0_pass_17, rX0_pass_18, rX0_pass_19, rX0_pass_20, rX0_pass_23, rX0_pass_24, rX0_pass_25, rX0_pass_26, rX0_pass_27, rX0_pass_30, rX0_pass_31, rX0_pass_34, rX0_pass_37, rX0_pass_38, rX0_pass_40, rX0_pass_41, rX0_pass_44, rX0_pass_47, rX0_pass_48, rX0_pass_51, rX0_pass_52, rX0_pass_53, rX0_pass_54, rX0_pass_55, rX0_pass_56, rX0_pass_57, rX0_pass_60, rX0_pass_63, rX0_pass_64, rX0_pass_67, rX0_pass_68, rX0_pass_71, rX0_pass_72, rX0_pass_73, rX0_pass_76, rX0_pass_77, rX0_pass_78, rX0_pass_81, true_and, and_true, true_or, or_true, false_or, or_false, Option.toList_some, Option.toList_none, List.nil_append, List.cons_append, zn1, kB hG ho, zup_def]
      have eo : ∀ i : Int, i ≠ 9 → H5 o i = H o i := fun i hi => by
        rw [hf.2 i hi, zset3_ne (by omega) (by omega) (by omega), h3 _ (by omega), fo _ (by omega)]
      refine hq _ s hs.symm (fun b hb' => ?_) ?_ ?_ ?_ ?_ ?_ (fun hm => by
        rw [zset_ne (by omega)]
        refine hm5 ?_
        rw [zset3_ne (by omega) (by omega) (by omega), h3 _ (by omega), fo _ (by omega)]
        exact hm)
      · rw [zset_ne (by omega), hf.1 b (by omega) (by omega), zset3_ne (by omega) (by omega) (by omega), h3 _ (by omega), fo _ (by omega)]
      · rw [zset_ne (by omega), hf.1 _ (by omega) (by omega), zset3_1]
      · rw [zset_ne (by omega), hf.1 _ (by omega) (by omega), zset3_2]
      · rw [zset_ne (by omega), hf.1 _ (by omega) (by omega), zset3_8]
      · refine ⟨?_, fun j x hj => ?_⟩
        · rw [zset_eq, zfu_at, if_neg (by omega)]
          exact hL5.1
        · have := hL5.2 j x hj
          unfold AR at this ⊢
          rw [zset_ne (by omega), zset_ne (by omega), zset_ne (by omega), zset_ne (by omega), zset_ne (by omega)]
          exact this
      · rw [zset_eq, zfu_at, if_pos rfl, eo 10 (by omega)]
    | cons x rest ih =>
      intro k H3 hk hkl h3 h6
      have hlt : k < ls.length := by
        rcases Nat.lt_or_ge k ls.length with q | q
        · exact q
        · rw [List.drop_eq_nil_of_le q] at hk
          cases hk
      have hx : ls[k]? = some x := by
        have := congrArg (fun l => l[0]?) hk
        simpa using this
      have hdr : ls.drop (k + 1) = rest := by
        have := congrArg List.tail hk
        simpa using this
      have hdx := hd x (List.mem_of_getElem? hx)
      have e9 : H3 o 9 = (ls.length : Int) := by rw [h3 o (by omega), fo o (by omega)]; exact hn
      have e6 : H3 (o + 6) (k : Int) = x.2.2.2.1 := by rw [h6 k x hx, if_neg (by omega)]
      rw [rX0_pass_39]
      simp only [rX0_pass_0, rX0_pass_1, rX0_pass_3, rX0_pass_4, rX0_pass_7, rX0_pass_10, rX0_pass_13, rX0_pass_14, rX0_pass_17, rX0_pass_18, rX0_pass_19, rX0_pass_20, rX0_pass_23, rX0_pass_24, rX0_pass_25, rX0_pass_26, rX0_pass_27, rX0_pass_30, rX0_pass_31, rX0_pass_34, rX0_pass_37, rX0_pass_38, rX0_pass_40, rX0_pass_41, rX0_pass_44, rX0_pass_47, rX0_pass_48, rX0_pass_51, rX0_pass_52, rX0_pass_53, rX0_pass_54, rX0_pass_55, rX0_pass_56, rX0_pass_57, rX0_pass_60, rX0_pass_63, rX0_pass_64, rX0_pass_67, rX0_pass_68, rX0_pass_71, rX0_pass_72, rX0_pass_73, rX0_pass_76, rX0_pass_77, rX0_pass_78, rX0_pass_81, true_and, and_true, true_or, or_true, false_or, or_false, Option.toList_some, Option.toList_none, List.nil_append, List.cons_append, zn1, kB hG ho, e9, e6, zup_def, zwk (show k < 2000000000 by omega)]
      rw [if_neg (by omega)]
      refine ⟨by omega, by omega, ?_⟩
      rw [zw_id (z := x.2.2.2.1 - span) (by omega) (by omega)]
      refine ih (k + 1) _ hdr (by omega) (fun b hb' => ?_) (fun j y hj => ?_)
      · rw [zset_ne hb']
        exact h3 b hb'
      · rw [zset_eq, zfu_at]
        by_cases c : j = k
        · subst c
          rw [hx] at hj
          cases hj
          rw [if_pos rfl, if_pos (by omega)]
        · rw [if_neg (by omega), h6 j y hj]
          by_cases c2 : j < k
          · rw [if_pos c2, if_pos (by omega)]
          · rw [if_neg c2, if_neg (by omega)]
  refine loop ls 0 H2 rfl (Nat.zero_le _) (fun _ _ => rfl) (fun j x hj => ?_)
  rw [if_neg (by omega), fo _ (by omega)]
  exact (hA j x hj).2.2.2.1
