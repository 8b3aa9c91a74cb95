/-! the model: a week, whole -/
theorem kX9_goes {P r kind : Int} {ls : List zLn} {G : zG} {H : zH} {Q' : Option zV → zG → zH → Prop} (hG : zOK G) (hT : tOKm H) (eP : H 130 4 = P) (er : H 130 6 = r) (ek : H 130 7 = kind) (hw : sWok (H 134)) (hL : LM (H 134) (H 139) ls) (h8 : ls.length ≤ 8) (hok : ∀ x ∈ ls, lokm P x ∧ 1 ≤ x.2.2.2.1 ∧ x.2.2.2.1 ≤ 200) (hn : nmok (H 139))
    (hq : ∀ H2 : zH, frM H H2 → agS (mS H2) (msend P r kind (swkS P 1 (mS H)) (ls.map (sdn 1))) → LM (H2 134) (H2 139) ((ls.map (sdn 1)).filter nd) → H2 134 45 = zw (H 134 45 + 1) → nmok (H2 139) → Q' none G H2) : zCall qX9_goes [vr 130] G H Q' := by
  have hT' := hT
  obtain ⟨⟨P0, P1⟩, ⟨r0, r1⟩, -⟩ := hT'
  rw [eP] at P0 P1
  rw [er] at r0 r1
  obtain ⟨Pn, hP⟩ := nat_of (show 0 ≤ P by omega)
  rw [rX9_goes_in]
  simp only [rX9_goes_0, rX9_goes_1, rX9_goes_3, rX9_goes_4, rX9_goes_7, rX9_goes_10, rX9_goes_11, rX9_goes_14, rX9_goes_15, rX9_goes_16, rX9_goes_17, rX9_goes_18, rX9_goes_21, rX9_goes_22, rX9_goes_23, rX9_goes_26, rX9_goes_27, rX9_goes_30, rX9_goes_31, rX9_goes_32, rX9_goes_33, rX9_goes_36, rX9_goes_39, rX9_goes_40, rX9_goes_42, rX9_goes_43, rX9_goes_46, rX9_goes_48, rX9_goes_49, rX9_goes_52, rX9_goes_53, rX9_goes_56, rX9_goes_58, rX9_goes_59, rX9_goes_60, rX9_goes_61, rX9_goes_62, rX9_goes_63, rX9_goes_64, rX9_goes_65, rX9_goes_66, rX9_goes_67, rX9_goes_68, rX9_goes_69, rX9_goes_72, rX9_goes_75, rX9_goes_76, rX9_goes_77, rX9_goes_80, rX9_goes_81, rX9_goes_84, rX9_goes_85, rX9_goes_88, rX9_goes_89, rX9_goes_92, rX9_goes_94, rX9_goes_96, rX9_goes_99, rX9_goes_100, rX9_goes_101, rX9_goes_104, rX9_goes_105, rX9_goes_106, rX9_goes_109, rX9_goes_110, rX9_goes_111, rX9_goes_114, rX9_goes_115, rX9_goes_118, rX9_goes_119, rX9_goes_122, rX9_goes_124, rX9_goes_125, rX9_goes_126, rX9_goes_127, rX9_goes_128, rX9_goes_129, true_and, and_true, true_or, or_true, false_or, or_false, Option.toList_some, Option.toList_none, List.nil_append, List.cons_append, zn1]
  -- behind both loops
  have mid : ∀ H3 : zH, frM H H3 → (∀ b, b ≠ 134 → H3 b = H b) → (∀ i : Int, i < 13 ∨ i = 45 → H3 134 i = swk P 1 (H 134) i) → LM (H3 134) (H3 139) (ls.map (sdn 1)) → zRun qX9_goes 75 [vr 130, vi (ls.length : Int)] [] G H3 Q' := by
    intro H3 f3 g3 i3 l3
    have e130 : H3 130 = H 130 := g3 130 (by omega)
    have hm : (ls.map (sdn 1)).length = ls.length := List.length_map _
    have hok3 : ∀ y ∈ ls.map (sdn 1), lokm P y ∧ 0 ≤ y.2.2.2.1 := fun y hy => by
      obtain ⟨x, hx, rfl⟩ := List.mem_map.mp hy
      obtain ⟨c1, c2, c3⟩ := hok x hx
      exact ⟨c1, by show 0 ≤ x.2.2.2.1 - 1; omega⟩
    have hw3 : sWok (H3 134) := sWok_ag (fun p p0 p1 => i3 p (by omega)) (swk_ok P1 (by omega) hw)
    have hn3 : nmok (H3 139) := by rw [g3 139 (by omega)]; exact hn
    have a3 : agS (mS H3) (swkS P 1 (mS H)) := by
      refine ⟨fun p p0 p1 => ⟨i3 p (by omega), ?_⟩, fun k k0 k1 => ?_⟩
      · show H3 134 (6 + p) = H 134 (6 + p)
        rw [i3 _ (by omega)]
        unfold swk
        rw [if_neg (by omega)]
      · show H3 140 k = H 140 k
        rw [g3 140 (by omega)]
    have c45 : H3 134 45 = H 134 45 := by
      rw [i3 45 (by omega)]
      unfold swk
      rw [if_neg (by omega)]
    have hT3 := tOKm_fr e130 hT
    have q130 : ∀ i, H3 130 i = H 130 i := fun i => by rw [e130]
    simp only [rX9_goes_75, rX9_goes_76, rX9_goes_77, rX9_goes_80, rX9_goes_81, rX9_goes_84, rX9_goes_85, rX9_goes_88, rX9_goes_89, true_and, and_true, true_or, or_true, false_or, or_false, Option.toList_some, Option.toList_none, List.nil_append, List.cons_append, zn1, kM hG, q130]
    by_cases ck : kind = 2
    · rw [ek, if_neg (fun z => z ck)]
      refine kX9_dueNow (n := (ls.map (sdn 1)).length) hG l3.1 (by omega) (fun g hg => ?_)
      simp only [rX9_goes_92, true_and, and_true, true_or, or_true, false_or, or_false, Option.toList_some, Option.toList_none, List.nil_append, List.cons_append, zn1]
      have eg := DN_ahead l3 (fun x hx => (hok3 x hx).2) hg
      rw [← ck] at eg
      rcases pord_cases kind (ls.map (sdn 1)) with ⟨h1, h2⟩ | ⟨k, x, h1, hx, hd, h2⟩
      · rw [h1] at eg
        have hno : ∀ x ∈ ls.map (sdn 1), due0 x = false := fun x hx => by
          obtain ⟨j, hj, rfl⟩ := List.getElem_of_mem hx
          rcases hg with ⟨d1, d2⟩ | ⟨j', -, -, j2, -⟩
          · have := d2 j (by omega) hj
            have e := (l3.2 j _ (List.getElem?_eq_getElem hj)).2.2.2.1
            have h0 := (hok3 _ hx).2
            simp only [due0, decide_eq_false_iff_not]
            dsimp only at this
            omega
          · omega
        refine goes_loop (P := P) (r := r) (kind := kind) hG _ _ H3 g (Nat.le_refl _) hT3 (by rw [e130]; exact eP) (by rw [e130]; exact er) (by rw [e130]; exact ek) hw3 l3 (by omega) hok3 hn3 ?_ (fun H4 f4 a4 l4 e4 n4 => ?_)
        · refine Or.inl ⟨eg, fun j j0 j1 => ?_⟩
          have := hno _ (List.getElem_mem j1)
          have e := (l3.2 j _ (List.getElem?_eq_getElem j1)).2.2.2.1
          simp only [due0, decide_eq_false_iff_not] at this
          dsimp only
          omega
        · refine hq H4 (f3.tr f4) ?_ l4 (by rw [e4, c45]) n4
          unfold msend
          rw [h2]
          exact a4.tr (mfold_ag P1 _ a3 (fun y hy => (hok3 y (List.mem_filter.mp hy).1).1))
      · rw [h1] at eg
        subst eg
        have hk : k < (ls.map (sdn 1)).length := (List.getElem?_eq_some_iff.mp hx).1
        have hlen : ((ls.map (sdn 1)).eraseIdx k).length = (ls.map (sdn 1)).length - 1 := by rw [List.length_eraseIdx, if_pos hk]
        have hsub : ∀ y ∈ (ls.map (sdn 1)).eraseIdx k, y ∈ ls.map (sdn 1) := fun y hy => List.mem_of_mem_eraseIdx hy
        refine goes_step (P := P) (r := r) (kind := kind) hG hT3 (by rw [e130]; exact eP) (by rw [e130]; exact er) (by rw [e130]; exact ek) hw3 l3 (by omega) (fun y hy => (hok3 y hy).1) hn3 hx (fun H4 g f4 a4 l4 e4 n4 d4 => ?_)
        have e430 : H4 130 = H 130 := by rw [f4 130 (by omega) (by omega) (by omega), e130]
        have hw4 : sWok (H4 134) := sWok_ag (fun p p0 p1 => (a4.1 p p0 p1).1) (mpay1_ok P1 r0 r1 hw3 (hok3 x (List.mem_of_getElem? hx)).1)
        refine goes_loop (P := P) (r := r) (kind := kind) hG _ _ H4 g (Nat.le_refl _) (tOKm_fr e430 hT) (by rw [e430]; exact eP) (by rw [e430]; exact er) (by rw [e430]; exact ek) hw4 l4 (by omega) (fun y hy => hok3 y (hsub y hy)) n4 d4 (fun H5 f5 a5 l5 e5 n5 => ?_)
        refine hq H5 ((f3.tr f4).tr f5) ?_ ?_ (by rw [e5, e4, c45]) n5
        · unfold msend
          rw [h2, List.foldl_cons]
          exact a5.tr (mfold_ag P1 _ (a4.tr (mpay1_ag P1 a3 (hok3 x (List.mem_of_getElem? hx)).1)) (fun y hy => (hok3 y (hsub y (List.mem_filter.mp hy).1)).1))
        · rw [filt_nd hd _ k hx]
          exact l5
    · rw [ek, if_pos ck]
      refine kX9_dueNow (n := (ls.map (sdn 1)).length) hG l3.1 (by omega) (fun g hg => ?_)
      simp only [rX9_goes_92, true_and, and_true, true_or, or_true, false_or, or_false, Option.toList_some, Option.toList_none, List.nil_append, List.cons_append, zn1]
      refine goes_loop (P := P) (r := r) (kind := kind) hG _ _ H3 g (Nat.le_refl _) hT3 (by rw [e130]; exact eP) (by rw [e130]; exact er) (by rw [e130]; exact ek) hw3 l3 (by omega) hok3 hn3 hg (fun H4 f4 a4 l4 e4 n4 => ?_)
      refine hq H4 (f3.tr f4) ?_ l4 (by rw [e4, c45]) n4
      have h2 : pord kind (ls.map (sdn 1)) = (ls.map (sdn 1)).filter due0 := by
        have : sahd kind (ls.map (sdn 1)) = -4 := by
          unfold sahd
          rw [if_neg ck]
        unfold pord
        rw [if_pos this, this, flt_lo _ 0 (by omega)]
      unfold msend
      rw [h2]
      exact a4.tr (mfold_ag P1 _ a3 (fun y hy => (hok3 y (List.mem_filter.mp hy).1).1))
  -- the loans
  have loop2 : ∀ (rest : List zLn) (k : Nat) (H2 : zH), ls.drop k = rest → k ≤ ls.length → (∀ b, b ≠ 134 → H2 b = H b) → (∀ i : Int, i < 13 ∨ i = 45 → H2 134 i = swk P 1 (H 134) i) → (∀ j x, ls[j]? = some x → ARm (H2 134) (H2 139) j (if j < k then sdn 1 x else x)) → zRun qX9_goes 41 [vr 130, vi (k : Int)] [] G H2 Q' := by
    intro rest
    induction rest with
    | nil =>
      intro k H2 hk hkl g2 i2 l2
      have hlen : ls.length ≤ k := List.drop_eq_nil_iff.mp hk
      have : k = ls.length := by omega
      subst this
      have e12 : H2 134 12 = (ls.length : Int) := by
        rw [i2 12 (by omega)]
        unfold swk
        rw [if_neg (by omega)]
        exact hL.1
      rw [rX9_goes_41]
      simp only [rX9_goes_42, rX9_goes_43, rX9_goes_46, rX9_goes_48, rX9_goes_49, true_and, and_true, true_or, or_true, false_or, or_false, Option.toList_some, Option.toList_none, List.nil_append, List.cons_append, zn1, kM hG, e12]
      rw [if_pos (by omega)]
      refine ⟨by omega, mid H2 (fun b b1 b2 b3 => g2 b b1) g2 i2 ⟨by rw [List.length_map]; exact e12, fun j y hj => ?_⟩⟩
      rw [List.getElem?_map] at hj
      cases hx : ls[j]? with
      | none => rw [hx] at hj; cases hj
      | some x =>
        rw [hx] at hj
        cases hj
        have := l2 j x hx
        rw [if_pos (List.getElem?_eq_some_iff.mp hx).1] at this
        exact this
    | cons x rest ih =>
      intro k H2 hk hkl g2 i2 l2
      have hlt : k < ls.length := by
        rcases Nat.lt_or_ge k ls.length with q | q
        · exact q
        · rw [List.drop_eq_nil_of_le q] at hk
          cases hk
      have hx : ls[k]? = some x := by
        have := congrArg (fun l => l[0]?) hk
        simpa using this
      have hdr : ls.drop (k + 1) = rest := by
        have := congrArg List.tail hk
        simpa using this
      have e12 : H2 134 12 = (ls.length : Int) := by
        rw [i2 12 (by omega)]
        unfold swk
        rw [if_neg (by omega)]
        exact hL.1
      have hA := l2 k x hx
      rw [if_neg (by omega)] at hA
      have e3 := hA.2.2.2.1
      have hdx := (hok x (List.mem_of_getElem? hx)).2
      have b3 : 0 ≤ 13 + 4 * (k : Int) + 3 ∧ 13 + 4 * (k : Int) + 3 < 46 := by omega
      have ez : zw (x.2.2.2.1 - 1) = x.2.2.2.1 - 1 := zw_id (by omega) (by omega)
      rw [rX9_goes_41]
      simp only [rX9_goes_42, rX9_goes_43, rX9_goes_46, rX9_goes_48, rX9_goes_49, rX9_goes_52, rX9_goes_53, rX9_goes_56, rX9_goes_58, rX9_goes_59, rX9_goes_60, rX9_goes_61, rX9_goes_62, rX9_goes_63, rX9_goes_64, rX9_goes_65, rX9_goes_66, rX9_goes_67, rX9_goes_68, rX9_goes_69, rX9_goes_72, true_and, and_true, true_or, or_true, false_or, or_false, Option.toList_some, Option.toList_none, List.nil_append, List.cons_append, zn1, kM hG, e12, ix4 (show k ≤ 8 by omega), b3, e3, ez, zup_def, zwk (show k < 2000000000 by omega)]
      rw [if_neg (by omega)]
      refine ⟨by omega, ?_⟩
      refine ih (k + 1) _ hdr (by omega) (fun b hb => ?_) (fun i hi => ?_) (fun j y hj => ?_)
      · rw [zset_ne hb]
        exact g2 b hb
      · rw [zset_eq, zfu_at, if_neg (by omega)]
        exact i2 i hi
      · have := l2 j y hj
        rw [zset_eq, zset_ne (show 139 ≠ 134 by omega)]
        by_cases c : j = k
        · subst c
          rw [hx] at hj
          cases hj
          rw [if_neg (by omega)] at this
          rw [if_pos (by omega)]
          unfold ARm at this ⊢
          rw [zfu_at, if_neg (by omega), zfu_at, if_neg (by omega), zfu_at, if_neg (by omega), zfu_at, if_pos rfl]
          exact ⟨this.1, this.2.1, this.2.2.1, rfl, this.2.2.2.2⟩
        · have e2 : (if j < k + 1 then sdn 1 y else y) = (if j < k then sdn 1 y else y) := by
            by_cases c2 : j < k
            · rw [if_pos c2, if_pos (by omega)]
            · rw [if_neg c2, if_neg (by omega)]
          rw [e2]
          generalize (if j < k then sdn 1 y else y) = y' at this ⊢
          unfold ARm at this ⊢
          rw [zfu_at, if_neg (by omega), zfu_at, if_neg (by omega), zfu_at, if_neg (by omega), zfu_at, if_neg (by omega)]
          exact this
  -- the weeks
  have loop1 : ∀ (m k : Nat) (H1 : zH), k + m = Pn → (∀ b, b ≠ 134 → H1 b = H b) → (∀ i : Int, H1 134 i = if 0 ≤ i ∧ i < (k : Int) then max 0 (H 134 i - 1) else H 134 i) → zRun qX9_goes 2 [vr 130, vi (k : Int)] [] G H1 Q' := by
    intro m
    induction m with
    | zero =>
      intro k H1 hk g1 i1
      have e130 : H1 130 = H 130 := g1 130 (by omega)
      have e4 : H1 130 4 = P := by rw [e130]; exact eP
      rw [rX9_goes_2]
      simp only [rX9_goes_3, rX9_goes_4, rX9_goes_7, rX9_goes_39, rX9_goes_40, true_and, and_true, true_or, or_true, false_or, or_false, Option.toList_some, Option.toList_none, List.nil_append, List.cons_append, zn1, kM hG, e4]
      rw [if_pos (by omega)]
      refine loop2 ls 0 H1 rfl (Nat.zero_le _) g1 (fun i hi => ?_) (fun j x hj => ?_)
      · rw [i1 i]
        unfold swk
        rw [hP]
        have : k = Pn := by omega
        rw [this]
      · rw [if_neg (by omega)]
        have := hL.2 j x hj
        unfold ARm at this ⊢
        rw [g1 139 (by omega), i1, i1, i1, i1, if_neg (by omega), if_neg (by omega), if_neg (by omega), if_neg (by omega)]
        exact this
    | succ m ih =>
      intro k H1 hk g1 i1
      have e130 : H1 130 = H 130 := g1 130 (by omega)
      have e4 : H1 130 4 = P := by rw [e130]; exact eP
      have ek1 : H1 134 k = H 134 k := by rw [i1, if_neg (by omega)]
      have hwk := hw.le k (by omega) (by omega)
      rw [rX9_goes_2]
      simp only [rX9_goes_3, rX9_goes_4, rX9_goes_7, rX9_goes_10, rX9_goes_11, rX9_goes_14, rX9_goes_15, rX9_goes_16, rX9_goes_17, rX9_goes_18, rX9_goes_21, rX9_goes_22, rX9_goes_23, rX9_goes_26, rX9_goes_27, rX9_goes_30, rX9_goes_31, rX9_goes_32, rX9_goes_33, rX9_goes_36, true_and, and_true, true_or, or_true, false_or, or_false, Option.toList_some, Option.toList_none, List.nil_append, List.cons_append, zn1, kM hG, e4, ek1, zup_def, zwk (show k < 2000000000 by omega)]
      rw [if_neg (by omega)]
      have fin : ∀ v : Int, v = max 0 (H 134 k - 1) → zRun qX9_goes 2 [vr 130, vi ((k + 1 : Nat) : Int)] [] G (zset H1 134 (zfu (H1 134) k v)) Q' := by
        intro v hv
        refine ih (k + 1) _ (by omega) (fun b hb => ?_) (fun i => ?_)
        · rw [zset_ne hb]
          exact g1 b hb
        · rw [zset_eq, zfu_at]
          by_cases c : i = k
          · subst c
            rw [if_pos rfl, if_pos (by omega)]
            exact hv
          · rw [if_neg c, i1 i]
            by_cases c2 : 0 ≤ i ∧ i < (k : Int)
            · rw [if_pos c2, if_pos (by omega)]
            · rw [if_neg c2, if_neg (by omega)]
      refine ⟨by omega, by omega, ?_⟩
      by_cases c : H 134 k ≤ 0
      · rw [if_pos c, zw_id (z := H 134 k - 0) (by omega) (by omega)]
        exact ⟨by omega, fin _ (by omega)⟩
      · rw [if_neg c, zw_id (z := H 134 k - 1) (by omega) (by omega)]
        exact ⟨by omega, fin _ (by omega)⟩
  exact loop1 Pn 0 H (by omega) (fun _ _ => rfl) (fun i => by rw [if_neg (by omega)])
/-! the model's books as the class's, but for marks -/
def MB (H : zH) (B : sB) : Prop := agw (mS H) B.1 ∧ ∃ ls : List zLn, LM (H 134) (H 139) ls ∧ ls.map cor = B.2.map cor
/-- marks and what is paid as well -/
def MP (H : zH) (B : sB) : Prop := agS (mS H) B.1 ∧ LM (H 134) (H 139) B.2
theorem MP.b {H : zH} {B : sB} (h : MP H B) : MB H B := ⟨h.1.w, B.2, h.2, rfl⟩
theorem lokm_cor {P : Int} {x y : zLn} (h : cor x = cor y) (hy : lok P y) (hm : 0 ≤ mrk x ∧ mrk x ≤ 8) : lokm P x := by
  obtain ⟨a, b, c, -⟩ := cor_eq h
  obtain ⟨h1, h2, h3, -⟩ := hy
  unfold lokm
  rw [a, b, c]
  exact ⟨h1, h2, h3, hm⟩
theorem MB_ok {P : Int} {H : zH} {B : sB} {ls : List zLn} (hb : bok P B) (hn : nmok (H 139)) (hL : LM (H 134) (H 139) ls) (hc : ls.map cor = B.2.map cor) : ls.length ≤ 8 ∧ ∀ x ∈ ls, lokm P x ∧ 1 ≤ x.2.2.2.1 ∧ x.2.2.2.1 ≤ 200 := by
  have hl : ls.length = B.2.length := by simpa using congrArg List.length hc
  refine ⟨by rw [hl]; exact hb.2.1, fun x hx => ?_⟩
  obtain ⟨j, hj, rfl⟩ := List.getElem_of_mem hx
  have hjB : j < B.2.length := by omega
  have e : cor ls[j] = cor B.2[j] := by
    have := congrArg (fun l => l[j]?) hc
    simpa [List.getElem?_eq_getElem hj, List.getElem?_eq_getElem hjB] using this
  have hy := hb.2.2 _ (List.getElem_mem hjB)
  have hm := hn j (by omega) (by have := hb.2.1; omega)
  rw [(hL.2 j _ (List.getElem?_eq_getElem hj)).2.2.2.2] at hm
  refine ⟨lokm_cor e hy.1 hm, ?_⟩
  rw [(cor_eq e).2.2.2]
  exact hy.2
theorem goesB {P r kind : Int} {B : sB} {G : zG} {H : zH} {Q' : Option zV → zG → zH → Prop} (hG : zOK G) (hT : tOKm H) (eP : H 130 4 = P) (er : H 130 6 = r) (ek : H 130 7 = kind) (hB : MB H B) (hb : bok P B) (hn : nmok (H 139))
    (hq : ∀ H2 : zH, frM H H2 → MB H2 (wk1 P r kind B) → H2 134 45 = zw (H 134 45 + 1) → nmok (H2 139) → Q' none G H2) : zCall qX9_goes [vr 130] G H Q' := by
  obtain ⟨ha, ls, hL, hc⟩ := hB
  obtain ⟨h8, hok⟩ := MB_ok hb hn hL hc
  have P1 : P ≤ 6 := by rw [← eP]; exact hT.1.2
  have hw : sWok (H 134) := sWok_ag (fun p p0 p1 => (ha p p0 p1).1) hb.1
  refine kX9_goes hG hT eP er ek hw hL h8 hok hn (fun H2 f2 a2 l2 e2 n2 => ?_)
  have hc1 := sdn_cor (n := 1) _ _ hc
  refine hq H2 f2 ⟨a2.w.tr ?_, _, l2, filter_cor _ _ hc1⟩ e2 n2
  exact msend_cor P1 (swkS_w ha) hc1 (fun y hy => by
    obtain ⟨x, hx, rfl⟩ := List.mem_map.mp hy
    exact (hb.2.2 x hx).1)
theorem goesP {P r kind : Int} {B : sB} {G : zG} {H : zH} {Q' : Option zV → zG → zH → Prop} (hG : zOK G) (hT : tOKm H) (eP : H 130 4 = P) (er : H 130 6 = r) (ek : H 130 7 = kind) (hB : MP H B) (hb : bok P B) (hz : mz B) (hn : nmok (H 139))
    (hq : ∀ H2 : zH, frM H H2 → MP H2 (wk1 P r kind B) → nmok (H2 139) → Q' none G H2) : zCall qX9_goes [vr 130] G H Q' := by
  obtain ⟨ha, hL⟩ := hB
  obtain ⟨h8, hok⟩ := MB_ok hb hn hL rfl
  have hT' := hT
  obtain ⟨⟨P0, P1⟩, ⟨r0, r1⟩, -⟩ := hT'
  rw [eP] at P1
  rw [er] at r0 r1
  have hw : sWok (H 134) := sWok_ag (fun p p0 p1 => (ha.1 p p0 p1).1) hb.1
  refine kX9_goes hG hT eP er ek hw hL h8 hok hn (fun H2 f2 a2 l2 e2 n2 => ?_)
  exact hq H2 f2 ⟨a2.tr (msend_paid P1 r0 r1 hb hz (swkS_ag ha)), l2⟩ n2
