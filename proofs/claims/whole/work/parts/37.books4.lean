/-! Books: all that is due is paid, and dropped -/
/-- a loan: who lent, to whom, how many weeks, due in, its mark -/
abbrev zLn : Type := Int × Int × Int × Int × Int
def AR (H : zH) (o : Nat) (k : Nat) (x : zLn) : Prop := H (o + 3) k = x.1 ∧ H (o + 4) k = x.2.1 ∧ H (o + 5) k = x.2.2.1 ∧ H (o + 6) k = x.2.2.2.1 ∧ H (o + 7) k = x.2.2.2.2
def LA (H : zH) (o : Nat) (ls : List zLn) : Prop := H o 9 = (ls.length : Int) ∧ ∀ (k : Nat) (x : zLn), ls[k]? = some x → AR H o k x
/-- a loan as it may be, of P persons -/
def lok (P : Int) (x : zLn) : Prop := (0 ≤ x.1 ∧ x.1 < P) ∧ (0 ≤ x.2.1 ∧ x.2.1 < P) ∧ (1 ≤ x.2.2.1 ∧ x.2.2.1 ≤ 200) ∧ (0 ≤ x.2.2.2.2 ∧ x.2.2.2.2 < 8)
def tOK (H : zH) : Prop := (1 ≤ H 3 1 ∧ H 3 1 ≤ 6) ∧ (0 ≤ H 3 2 ∧ H 3 2 ≤ 99) ∧ (0 ≤ H 3 3 ∧ H 3 3 ≤ 3) ∧ (0 ≤ H 3 4 ∧ H 3 4 ≤ 2)
/-- weeks, lost, paid by mark -/
abbrev sT : Type := (Int → Int) × (Int → Int) × (Int → Int)
def spay1 (P r kind : Int) (s : sT) (x : zLn) : sT :=
  if 0 < s.1 x.1 then (sw2 P kind s.1 x.1 x.2.1 (zdue r x.2.2.1), zfu s.2.1 x.1 (zw (s.2.1 x.1 + (zdue r x.2.2.1 - spaid P kind s.1 x.1 x.2.1 (zdue r x.2.2.1)))), zfu s.2.2 x.2.2.2.2 (spaid P kind s.1 x.1 x.2.1 (zdue r x.2.2.1)))
  else s
def zset3 (H : zH) (o : Nat) (s : sT) : zH := zset (zset (zset H (o + 1) s.1) (o + 8) s.2.2) (o + 2) s.2.1
theorem zset3_self {H : zH} {o : Nat} : zset3 H o (H (o + 1), H (o + 2), H (o + 8)) = H := by
  funext b
  simp only [zset3, zset_at]
  repeat' split
  all_goals (first | rfl | (rename_i h; rw [h]) | skip)
  all_goals simp_all
theorem zset3_set {H : zH} {o : Nat} {s t : sT} : zset3 (zset3 H o s) o t = zset3 H o t := by
  funext b
  simp only [zset3, zset_at]
  repeat' split
  all_goals (first | rfl | simp_all)
theorem zset3_1 {H : zH} {o : Nat} {s : sT} : zset3 H o s (o + 1) = s.1 := by
  simp only [zset3, zset_at]
  rw [if_neg (by omega), if_neg (by omega), if_true]
theorem zset3_2 {H : zH} {o : Nat} {s : sT} : zset3 H o s (o + 2) = s.2.1 := by
  simp only [zset3, zset_at]
  rw [if_true]
theorem zset3_8 {H : zH} {o : Nat} {s : sT} : zset3 H o s (o + 8) = s.2.2 := by
  simp only [zset3, zset_at]
  rw [if_neg (by omega), if_true]
theorem zset3_ne {H : zH} {o b : Nat} {s : sT} (h1 : b ≠ o + 1) (h2 : b ≠ o + 2) (h3 : b ≠ o + 8) : zset3 H o s b = H b := by
  simp only [zset3, zset_at]
  rw [if_neg h2, if_neg h3, if_neg h1]
theorem spayH_eq {H : zH} {o k : Nat} {x : zLn} (h : AR H o k x) : spayH o k H = zset3 H o (spay1 (H 3 1) (H 3 2) (H 3 3) (H (o + 1), H (o + 2), H (o + 8)) x) := by
  obtain ⟨a1, a2, a3, a4, a5⟩ := h
  unfold spayH spay1
  rw [a1, a2, a3, a5]
  dsimp only
  split
  · rfl
  · exact zset3_self.symm
theorem spay1_ok {P r kind : Int} {s : sT} {x : zLn} (hP : P ≤ 6) (r0 : 0 ≤ r) (r1 : r ≤ 99) (hw : sWok s.1) (hx : lok P x) : sWok (spay1 P r kind s x).1 := by
  obtain ⟨⟨i0, i1⟩, ⟨j0, j1⟩, ⟨n0, n1⟩, -⟩ := hx
  have hd := zdue_rng r0 r1 (show 0 ≤ x.2.2.1 by omega) n1
  unfold spay1
  split
  · exact sw2_ok hP hw i0 (by omega) (by omega)
  · exact hw
/-- those that are due, but for the one at a -/
def flt (a : Int) : Nat → List zLn → List zLn
  | _, [] => []
  | k, x :: r => if x.2.2.2.1 ≤ 0 ∧ (k : Int) ≠ a then x :: flt a (k + 1) r else flt a (k + 1) r
theorem AR_set3 {H : zH} {o k : Nat} {x : zLn} {s : sT} (h : AR H o k x) : AR (zset3 H o s) o k x := by
  unfold AR at h ⊢
  rw [zset3_ne (by omega) (by omega) (by omega), zset3_ne (by omega) (by omega) (by omega), zset3_ne (by omega) (by omega) (by omega), zset3_ne (by omega) (by omega) (by omega), zset3_ne (by omega) (by omega) (by omega)]
  exact h
/-- a loan is paid, by its place -/
theorem kpay {o k : Nat} {x : zLn} {s : sT} {P r kind : Int} {G : zG} {H : zH} {Q : Option zV → zG → zH → Prop} (hG : zOK G) (ho : isBk o) (hT : tOK H) (eP : H 3 1 = P) (er : H 3 2 = r) (ek : H 3 3 = kind) (hw : sWok s.1) (k8 : k < 8) (hx : lok P x) (hA : AR H o k x) : zCall qX0_pay [vr o, vi (k : Int)] G (zset3 H o s) Q ↔ Q none G (zset3 H o (spay1 P r kind s x)) := by
  have hb := bk_ge ho
  have e3 : zset3 H o s 3 = H 3 := zset3_ne (by omega) (by omega) (by omega)
  have hA' := AR_set3 (s := s) hA
  obtain ⟨a1, a2, a3, a4, a5⟩ := id hA'
  obtain ⟨t1, t2, t3, t4⟩ := hT
  subst eP
  obtain ⟨b1, b2, b3, b5⟩ := hx
  rw [kX0_pay hG ho (by rw [e3]; omega) (by rw [e3]; omega) (by rw [e3]; omega) (by rw [e3]; omega) (by rw [zset3_1]; exact hw) (by omega) (by omega) (by rw [a1]; omega) (by rw [a1, e3]; omega) (by rw [a2]; omega) (by rw [a2, e3]; omega) (by rw [a3]; omega) (by rw [a3]; omega) (by rw [a5]; omega) (by rw [a5]; omega)]
  rw [spayH_eq hA', e3, zset3_1, zset3_2, zset3_8, zset3_set, er, ek]
theorem kX0_payThoseDue {o : Nat} {ls : List zLn} {G : zG} {H : zH} {Q : Option zV → zG → zH → Prop} (hG : zOK G) (ho : isBk o) (hT : tOK H) (hw : sWok (H (o + 1))) (hL : LA H o ls) (h8 : ls.length ≤ 8) (hok : ∀ x ∈ ls, lok (H 3 1) x)
    {a : Int} (ha : a = if H 3 3 = 2 then sgreat ls.length (H (o + 5)) (H (o + 6)) else -4) {s1 : sT} (hs1 : ∀ x, a = -4 ∧ s1 = (H (o + 1), H (o + 2), H (o + 8)) ∨ (∃ k : Nat, a = (k : Int) ∧ (ls[k]? = some x → s1 = spay1 (H 3 1) (H 3 2) (H 3 3) (H (o + 1), H (o + 2), H (o + 8)) x))) (ha8 : a = -4 ∨ (∃ k : Nat, a = (k : Int) ∧ k < ls.length)) :
    zCall qX0_payThoseDue [vr o] G H Q ↔ Q none G (zset3 H o ((flt a 0 ls).foldl (spay1 (H 3 1) (H 3 2) (H 3 3)) s1)) := by
  refine zCall_det (fun Q' hq => ?_)
  rw [rX0_payThoseDue_in]
  have hb := bk_ge ho
  obtain ⟨hn, hA⟩ := hL
  have hT' := hT
  obtain ⟨⟨p0, p1⟩, ⟨r0, r1⟩, ⟨k0, k1⟩, -⟩ := hT'
  -- the loop
  have loop : ∀ (rest : List zLn) (k : Nat) (s : sT) (v2 : zV), ls.drop k = rest → k ≤ ls.length → sWok s.1 → Q' none G (zset3 H o ((flt a k rest).foldl (spay1 (H 3 1) (H 3 2) (H 3 3)) s)) → zRun qX0_payThoseDue 34 [vr o, vi a, vi (k : Int)] [] G (zset3 H o s) Q' := by
    intro rest
    induction rest with
    | nil =>
      intro k s v2 hk hkl hws hq
      have hlen : ls.length ≤ k := List.drop_eq_nil_iff.mp hk
      have e9 : zset3 H o s o 9 = (ls.length : Int) := by rw [zset3_ne (by omega) (by omega) (by omega)]; exact hn
      rw [rX0_payThoseDue_34]
      simp only [rX0_payThoseDue_0, rX0_payThoseDue_1, rX0_payThoseDue_4, rX0_payThoseDue_7, rX0_payThoseDue_8, rX0_payThoseDue_11, rX0_payThoseDue_12, rX0_payThoseDue_15, rX0_payThoseDue_18, rX0_payThoseDue_20, rX0_payThoseDue_21, rX0_payThoseDue_22, rX0_payThoseDue_24, rX0_payThoseDue_27, rX0_payThoseDue_28, rX0_payThoseDue_29, rX0_payThoseDue_32, rX0_payThoseDue_33, rX0_payThoseDue_35, rX0_payThoseDue_36, rX0_payThoseDue_39, rX0_payThoseDue_42, rX0_payThoseDue_43, rX0_payThoseDue_44, rX0_payThoseDue_47, rX0_payThoseDue_50, rX0_payThoseDue_51, rX0_payThoseDue_52, rX0_payThoseDue_55, rX0_payThoseDue_56, rX0_payThoseDue_57, rX0_payThoseDue_60, rX0_payThoseDue_63, rX0_payThoseDue_66, true_and, and_true, true_or, or_true, false_or, or_false, Option.toList_some, Option.toList_none, List.nil_append, List.cons_append, zn1, kB hG ho, e9]
      rw [if_pos (by omega)]
      exact hq
    | cons x rest ih =>
      intro k s v2 hk hkl hws hq
      have hlt : k < ls.length := by
        rcases Nat.lt_or_ge k ls.length with q | q
        · exact q
        · rw [List.drop_eq_nil_of_le q] at hk
          cases hk
      have hx : ls[k]? = some x := by
        have := congrArg (fun l => l[0]?) hk
        simpa using this
      have hdr : ls.drop (k + 1) = rest := by
        have := congrArg List.tail hk
        simpa using this
      have hmem : x ∈ ls := List.mem_of_getElem? hx
      have hAk := hA k x hx
      have e9 : zset3 H o s o 9 = (ls.length : Int) := by rw [zset3_ne (by omega) (by omega) (by omega)]; exact hn
      have e6 : zset3 H o s (o + 6) (k : Int) = x.2.2.2.1 := by rw [zset3_ne (by omega) (by omega) (by omega)]; exact hAk.2.2.2.1
      rw [rX0_payThoseDue_34]
      simp only [rX0_payThoseDue_0, rX0_payThoseDue_1, rX0_payThoseDue_4, rX0_payThoseDue_7, rX0_payThoseDue_8, rX0_payThoseDue_11, rX0_payThoseDue_12, rX0_payThoseDue_15, rX0_payThoseDue_18, rX0_payThoseDue_20, rX0_payThoseDue_21, rX0_payThoseDue_22, rX0_payThoseDue_24, rX0_payThoseDue_27, rX0_payThoseDue_28, rX0_payThoseDue_29, rX0_payThoseDue_32, rX0_payThoseDue_33, rX0_payThoseDue_35, rX0_payThoseDue_36, rX0_payThoseDue_39, rX0_payThoseDue_42, rX0_payThoseDue_43, rX0_payThoseDue_44, rX0_payThoseDue_47, rX0_payThoseDue_50, rX0_payThoseDue_51, rX0_payThoseDue_52, rX0_payThoseDue_55, rX0_payThoseDue_56, rX0_payThoseDue_57, rX0_payThoseDue_60, rX0_payThoseDue_63, rX0_payThoseDue_66, true_and, and_true, true_or, or_true, false_or, or_false, Option.toList_some, Option.toList_none, List.nil_append, List.cons_append, zn1, kB hG ho, e9, kX0_isDue hG ho (show (0 : Int) ≤ k by omega) (show (k : Int) < 8 by omega), e6, bi_eq0, zwk (show k < 2000000000 by omega), kpay hG ho hT rfl rfl rfl hws (show k < 8 by omega) (hok x hmem) hAk]
      rw [if_neg (by omega)]
      rw [flt] at hq
      by_cases c1 : x.2.2.2.1 ≤ 0
      · rw [if_neg (fun z => z c1)]
        by_cases c2 : (k : Int) = a
        · rw [if_pos c2]
          rw [if_neg (fun z => z.2 c2)] at hq
          exact ih (k + 1) s v2 hdr (by omega) hws hq
        · rw [if_neg c2]
          rw [if_pos ⟨c1, c2⟩] at hq
          exact ih (k + 1) _ v2 hdr (by omega) (spay1_ok p1 r0 r1 hws (hok x hmem)) hq
      · rw [if_pos c1]
        rw [if_neg (fun z => c1 z.1)] at hq
        exact ih (k + 1) s v2 hdr (by omega) hws hq
  -- from the first one on
  have mid : zRun qX0_payThoseDue 20 [vr o, vu, vu] [vi a] G H Q' := by
    simp only [rX0_payThoseDue_20, rX0_payThoseDue_21, rX0_payThoseDue_22, rX0_payThoseDue_24, rX0_payThoseDue_27, rX0_payThoseDue_28, rX0_payThoseDue_29, rX0_payThoseDue_32, rX0_payThoseDue_33, true_and, and_true, true_or, or_true, false_or, or_false, Option.toList_some, Option.toList_none, List.nil_append, List.cons_append, zn1]
    by_cases c0 : a = -4
    · rw [if_pos c0]
      have es : s1 = (H (o + 1), H (o + 2), H (o + 8)) := by
        rcases hs1 (0, 0, 0, 0, 0) with h | ⟨k, h, -⟩
        · exact h.2
        · omega
      have := loop ls 0 s1 vu rfl (Nat.zero_le _) (by rw [es]; exact hw) hq
      rw [es, zset3_self] at this
      exact this
    · rw [if_neg c0]
      rcases ha8 with h | ⟨k, hk, hkl⟩
      · exact absurd h c0
      · obtain ⟨x, hx⟩ : ∃ x, ls[k]? = some x := ⟨_, List.getElem?_eq_getElem hkl⟩
        have es : s1 = spay1 (H 3 1) (H 3 2) (H 3 3) (H (o + 1), H (o + 2), H (o + 8)) x := by
          rcases hs1 x with h | ⟨k', h, h'⟩
          · exact absurd h.1 c0
          · have : k' = k := by omega
            subst this
            exact h' hx
        have hmem : x ∈ ls := List.mem_of_getElem? hx
        have hc := kpay (s := (H (o + 1), H (o + 2), H (o + 8))) (Q := fun r G H => zRun qX0_payThoseDue 34 [vr o, vi a, vi 0] (r.toList ++ []) G H Q') hG ho hT rfl rfl rfl hw (show k < 8 by omega) (hok x hmem) (hA k x hx)
        rw [zset3_self] at hc
        refine ⟨(kB hG ho).1, ?_⟩
        rw [hk] at hc ⊢
        rw [hk] at loop hq
        rw [hc, ← es]
        exact loop ls 0 s1 vu rfl (Nat.zero_le _) (by rw [es]; exact spay1_ok p1 r0 r1 hw (hok x hmem)) hq
  simp only [rX0_payThoseDue_0, rX0_payThoseDue_1, rX0_payThoseDue_4, rX0_payThoseDue_7, rX0_payThoseDue_8, rX0_payThoseDue_11, rX0_payThoseDue_12, rX0_payThoseDue_15, rX0_payThoseDue_18, true_and, and_true, true_or, or_true, false_or, or_false, Option.toList_some, Option.toList_none, List.nil_append, List.cons_append, zn1, kB hG ho, sO_3 hG, kX0_greatestDue hG ho hn h8]
  by_cases ck : H 3 3 = 2
  · rw [if_pos ck] at ha
    rw [if_neg (fun z => z ck), ← ha]
    exact mid
  · rw [if_neg ck] at ha
    rw [if_pos ck, ← ha]
    exact mid
