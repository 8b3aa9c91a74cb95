/-! the model: a week goes by -/
def nmok (f : Int → Int) : Prop := ∀ k : Int, 0 ≤ k → k < 8 → 0 ≤ f k ∧ f k ≤ 8
def frM (H H' : zH) : Prop := ∀ b : Nat, b ≠ 134 → b ≠ 139 → b ≠ 140 → H' b = H b
theorem frM.rf {H : zH} : frM H H := fun _ _ _ _ => rfl
theorem frM.tr {H H1 H2 : zH} (h1 : frM H H1) (h2 : frM H1 H2) : frM H H2 := fun b x y z => (h2 b x y z).trans (h1 b x y z)
theorem tOKm_fr {H H' : zH} (h : H' 130 = H 130) (hT : tOKm H) : tOKm H' := by
  unfold tOKm at hT ⊢
  rw [h]
  exact hT
/-- one is paid and dropped; then the next that is due -/
theorem goes_step {P r kind : Int} {cur : List zLn} {k : Nat} {x : zLn} {G : zG} {H1 : zH} {Q' : Option zV → zG → zH → Prop} (hG : zOK G) (hT : tOKm H1) (eP : H1 130 4 = P) (er : H1 130 6 = r) (ek : H1 130 7 = kind) (hw : sWok (H1 134)) (hL : LM (H1 134) (H1 139) cur) (h8 : cur.length ≤ 8) (hok : ∀ x ∈ cur, lokm P x) (hn : nmok (H1 139)) (hx : cur[k]? = some x)
    (hq : ∀ (H2 : zH) (g : Int), frM H1 H2 → agS (mS H2) (mpay1 P r kind (mS H1) x) → LM (H2 134) (H2 139) (cur.eraseIdx k) → H2 134 45 = H1 134 45 → nmok (H2 139) → DN 0 (fun k => H2 134 (13 + 4 * (k : Int) + 2)) (fun k => H2 134 (13 + 4 * (k : Int) + 3)) (cur.eraseIdx k).length 0 g → zRun qX9_goes 93 [vr 130, vi g] [] G H2 Q') : zRun qX9_goes 93 [vr 130, vi (k : Int)] [] G H1 Q' := by
  have hk : k < cur.length := (List.getElem?_eq_some_iff.mp hx).1
  have hlen : (cur.eraseIdx k).length = cur.length - 1 := by rw [List.length_eraseIdx, if_pos hk]
  rw [rX9_goes_93]
  simp only [rX9_goes_0, rX9_goes_1, rX9_goes_3, rX9_goes_4, rX9_goes_7, rX9_goes_10, rX9_goes_11, rX9_goes_14, rX9_goes_15, rX9_goes_16, rX9_goes_17, rX9_goes_18, rX9_goes_21, rX9_goes_22, rX9_goes_23, rX9_goes_26, rX9_goes_27, rX9_goes_30, rX9_goes_31, rX9_goes_32, rX9_goes_33, rX9_goes_36, rX9_goes_39, rX9_goes_40, rX9_goes_42, rX9_goes_43, rX9_goes_46, rX9_goes_48, rX9_goes_49, rX9_goes_52, rX9_goes_53, rX9_goes_56, rX9_goes_58, rX9_goes_59, rX9_goes_60, rX9_goes_61, rX9_goes_62, rX9_goes_63, rX9_goes_64, rX9_goes_65, rX9_goes_66, rX9_goes_67, rX9_goes_68, rX9_goes_69, rX9_goes_72, rX9_goes_75, rX9_goes_76, rX9_goes_77, rX9_goes_80, rX9_goes_81, rX9_goes_84, rX9_goes_85, rX9_goes_88, rX9_goes_89, rX9_goes_92, rX9_goes_94, rX9_goes_96, rX9_goes_99, rX9_goes_100, rX9_goes_101, rX9_goes_104, rX9_goes_105, rX9_goes_106, rX9_goes_109, rX9_goes_110, rX9_goes_111, rX9_goes_114, rX9_goes_115, rX9_goes_118, rX9_goes_119, rX9_goes_122, rX9_goes_124, rX9_goes_125, rX9_goes_126, rX9_goes_127, rX9_goes_128, rX9_goes_129, true_and, and_true, true_or, or_true, false_or, or_false, Option.toList_some, Option.toList_none, List.nil_append, List.cons_append, zn1, kM hG]
  rw [if_neg (by omega)]
  refine kX9_pays hG hT eP er ek hw (by omega) (hok x (List.mem_of_getElem? hx)) (hL.2 k x hx) (fun H2 f2 g2 a2 => ?_)
  simp only [rX9_goes_0, rX9_goes_1, rX9_goes_3, rX9_goes_4, rX9_goes_7, rX9_goes_10, rX9_goes_11, rX9_goes_14, rX9_goes_15, rX9_goes_16, rX9_goes_17, rX9_goes_18, rX9_goes_21, rX9_goes_22, rX9_goes_23, rX9_goes_26, rX9_goes_27, rX9_goes_30, rX9_goes_31, rX9_goes_32, rX9_goes_33, rX9_goes_36, rX9_goes_39, rX9_goes_40, rX9_goes_42, rX9_goes_43, rX9_goes_46, rX9_goes_48, rX9_goes_49, rX9_goes_52, rX9_goes_53, rX9_goes_56, rX9_goes_58, rX9_goes_59, rX9_goes_60, rX9_goes_61, rX9_goes_62, rX9_goes_63, rX9_goes_64, rX9_goes_65, rX9_goes_66, rX9_goes_67, rX9_goes_68, rX9_goes_69, rX9_goes_72, rX9_goes_75, rX9_goes_76, rX9_goes_77, rX9_goes_80, rX9_goes_81, rX9_goes_84, rX9_goes_85, rX9_goes_88, rX9_goes_89, rX9_goes_92, rX9_goes_94, rX9_goes_96, rX9_goes_99, rX9_goes_100, rX9_goes_101, rX9_goes_104, rX9_goes_105, rX9_goes_106, rX9_goes_109, rX9_goes_110, rX9_goes_111, rX9_goes_114, rX9_goes_115, rX9_goes_118, rX9_goes_119, rX9_goes_122, rX9_goes_124, rX9_goes_125, rX9_goes_126, rX9_goes_127, rX9_goes_128, rX9_goes_129, true_and, and_true, true_or, or_true, false_or, or_false, Option.toList_some, Option.toList_none, List.nil_append, List.cons_append, zn1, kM hG]
  have hL2 : LM (H2 134) (H2 139) cur := by
    refine ⟨by rw [g2 12 (by omega)]; exact hL.1, fun j y hj => ?_⟩
    have := hL.2 j y hj
    unfold ARm at this ⊢
    rw [f2 139 (by omega) (by omega), g2 _ (by omega), g2 _ (by omega), g2 _ (by omega), g2 _ (by omega)]
    exact this
  rw [kX9_drops hG hL2.1 h8 hk]
  simp only [rX9_goes_0, rX9_goes_1, rX9_goes_3, rX9_goes_4, rX9_goes_7, rX9_goes_10, rX9_goes_11, rX9_goes_14, rX9_goes_15, rX9_goes_16, rX9_goes_17, rX9_goes_18, rX9_goes_21, rX9_goes_22, rX9_goes_23, rX9_goes_26, rX9_goes_27, rX9_goes_30, rX9_goes_31, rX9_goes_32, rX9_goes_33, rX9_goes_36, rX9_goes_39, rX9_goes_40, rX9_goes_42, rX9_goes_43, rX9_goes_46, rX9_goes_48, rX9_goes_49, rX9_goes_52, rX9_goes_53, rX9_goes_56, rX9_goes_58, rX9_goes_59, rX9_goes_60, rX9_goes_61, rX9_goes_62, rX9_goes_63, rX9_goes_64, rX9_goes_65, rX9_goes_66, rX9_goes_67, rX9_goes_68, rX9_goes_69, rX9_goes_72, rX9_goes_75, rX9_goes_76, rX9_goes_77, rX9_goes_80, rX9_goes_81, rX9_goes_84, rX9_goes_85, rX9_goes_88, rX9_goes_89, rX9_goes_92, rX9_goes_94, rX9_goes_96, rX9_goes_99, rX9_goes_100, rX9_goes_101, rX9_goes_104, rX9_goes_105, rX9_goes_106, rX9_goes_109, rX9_goes_110, rX9_goes_111, rX9_goes_114, rX9_goes_115, rX9_goes_118, rX9_goes_119, rX9_goes_122, rX9_goes_124, rX9_goes_125, rX9_goes_126, rX9_goes_127, rX9_goes_128, rX9_goes_129, true_and, and_true, true_or, or_true, false_or, or_false, Option.toList_some, Option.toList_none, List.nil_append, List.cons_append, zn1, kM hG]
  have hL3 := LM_drop hL2 h8 hk
  refine kX9_dueNow (n := (cur.eraseIdx k).length) hG ?_ (by omega) (fun g hg => ?_)
  · rw [zset_ne (by omega), zset_eq]
    exact hL3.1
  · simp only [rX9_goes_0, rX9_goes_1, rX9_goes_3, rX9_goes_4, rX9_goes_7, rX9_goes_10, rX9_goes_11, rX9_goes_14, rX9_goes_15, rX9_goes_16, rX9_goes_17, rX9_goes_18, rX9_goes_21, rX9_goes_22, rX9_goes_23, rX9_goes_26, rX9_goes_27, rX9_goes_30, rX9_goes_31, rX9_goes_32, rX9_goes_33, rX9_goes_36, rX9_goes_39, rX9_goes_40, rX9_goes_42, rX9_goes_43, rX9_goes_46, rX9_goes_48, rX9_goes_49, rX9_goes_52, rX9_goes_53, rX9_goes_56, rX9_goes_58, rX9_goes_59, rX9_goes_60, rX9_goes_61, rX9_goes_62, rX9_goes_63, rX9_goes_64, rX9_goes_65, rX9_goes_66, rX9_goes_67, rX9_goes_68, rX9_goes_69, rX9_goes_72, rX9_goes_75, rX9_goes_76, rX9_goes_77, rX9_goes_80, rX9_goes_81, rX9_goes_84, rX9_goes_85, rX9_goes_88, rX9_goes_89, rX9_goes_92, rX9_goes_94, rX9_goes_96, rX9_goes_99, rX9_goes_100, rX9_goes_101, rX9_goes_104, rX9_goes_105, rX9_goes_106, rX9_goes_109, rX9_goes_110, rX9_goes_111, rX9_goes_114, rX9_goes_115, rX9_goes_118, rX9_goes_119, rX9_goes_122, rX9_goes_124, rX9_goes_125, rX9_goes_126, rX9_goes_127, rX9_goes_128, rX9_goes_129, true_and, and_true, true_or, or_true, false_or, or_false, Option.toList_some, Option.toList_none, List.nil_append, List.cons_append, zn1]
    refine hq _ g (fun b b1 b2 b3 => ?_) ?_ ?_ ?_ (fun j j0 j1 => ?_) hg
    · rw [zset_ne b2, zset_ne b1]
      exact f2 b b1 b3
    · refine agS.tr ?_ a2
      unfold mS
      rw [zset_ne (show 134 ≠ 139 by omega), zset_eq, zset_ne (show 140 ≠ 139 by omega), zset_ne (show 140 ≠ 134 by omega)]
      refine ⟨fun p p0 p1 => ⟨?_, ?_⟩, fun _ _ _ => rfl⟩
      · exact dpA_lo hk (by omega)
      · exact dpA_lo hk (by omega)
    · rw [zset_ne (show 134 ≠ 139 by omega), zset_eq, zset_eq]
      exact hL3
    · rw [zset_ne (show 134 ≠ 139 by omega), zset_eq, dpA_45 h8, g2 45 (by omega)]
    · rw [zset_eq, f2 139 (by omega) (by omega)]
      unfold shN
      split
      · exact hn _ (by omega) (by omega)
      · exact hn _ j0 j1
theorem DN_first {a nm : Int → Int} {cur : List zLn} {g : Int} (hL : LM a nm cur) (hd : ∀ x ∈ cur, 0 ≤ x.2.2.2.1) (h : DN 0 (fun k => a (13 + 4 * (k : Int) + 2)) (fun k => a (13 + 4 * (k : Int) + 3)) cur.length 0 g) : (g = -4 ∧ ∀ x ∈ cur, due0 x = false) ∨ ∃ (k : Nat) (x : zLn), g = (k : Int) ∧ cur[k]? = some x ∧ due0 x = true ∧ ∀ j y, j < k → cur[j]? = some y → due0 y = false := by
  have nz : ∀ (j : Nat) (y : zLn), cur[j]? = some y → a (13 + 4 * (j : Int) + 3) ≠ 0 → due0 y = false := fun j y hj hz => by
    have := (hL.2 j y hj).2.2.2.1
    have := hd y (List.mem_of_getElem? hj)
    simp only [due0, decide_eq_false_iff_not]
    omega
  rcases h with ⟨h1, h2⟩ | ⟨k, k0, k1, k2, k3, k4⟩
  · refine Or.inl ⟨h1, fun x hx => ?_⟩
    obtain ⟨j, hj, rfl⟩ := List.getElem_of_mem hx
    exact nz j _ (List.getElem?_eq_getElem hj) (h2 j (by omega) hj)
  · have hx : cur[k]? = some cur[k] := List.getElem?_eq_getElem k1
    refine Or.inr ⟨k, cur[k], k2, hx, ?_, fun j y hj hy => ?_⟩
    · have e := (hL.2 k _ hx).2.2.2.1
      simp only [due0, decide_eq_true_eq]
      have k3 : a (13 + 4 * (k : Int) + 3) = 0 := k3
      omega
    · by_cases c : a (13 + 4 * (j : Int) + 3) = 0
      · have := k4 j (by omega) (by omega) c
        rw [if_pos rfl] at this
        omega
      · exact nz j y hy c
theorem mS_45 {H : zH} {v : Int} : agS (mS (zset H 134 (zfu (H 134) 45 v))) (mS H) := by
  unfold mS
  rw [zset_eq, zset_ne (show 140 ≠ 134 by omega)]
  refine ⟨fun p p0 p1 => ⟨?_, ?_⟩, fun _ _ _ => rfl⟩
  · show zfu (H 134) 45 v p = H 134 p
    rw [zfu_at, if_neg (by omega)]
  · show zfu (H 134) 45 v (6 + p) = H 134 (6 + p)
    rw [zfu_at, if_neg (by omega)]
theorem goes_loop {P r kind : Int} {G : zG} {Q' : Option zV → zG → zH → Prop} (hG : zOK G) : ∀ (m : Nat) (cur : List zLn) (H1 : zH) (g : Int), cur.length ≤ m → tOKm H1 → H1 130 4 = P → H1 130 6 = r → H1 130 7 = kind → sWok (H1 134) → LM (H1 134) (H1 139) cur → cur.length ≤ 8 → (∀ x ∈ cur, lokm P x ∧ 0 ≤ x.2.2.2.1) → nmok (H1 139) → DN 0 (fun k => H1 134 (13 + 4 * (k : Int) + 2)) (fun k => H1 134 (13 + 4 * (k : Int) + 3)) cur.length 0 g
    → (∀ H2 : zH, frM H1 H2 → agS (mS H2) ((cur.filter due0).foldl (mpay1 P r kind) (mS H1)) → LM (H2 134) (H2 139) (cur.filter nd) → H2 134 45 = zw (H1 134 45 + 1) → nmok (H2 139) → Q' none G H2) → zRun qX9_goes 93 [vr 130, vi g] [] G H1 Q' := by
  intro m
  induction m with
  | zero =>
    intro cur H1 g hm hT eP er ek hw hL h8 hok hn hg hq
    have : cur = [] := List.length_eq_zero_iff.mp (by omega)
    subst this
    rcases DN_first hL (fun x hx => (hok x hx).2) hg with ⟨rfl, -⟩ | ⟨k, x, -, hx, -⟩
    · rw [rX9_goes_93]
      simp only [rX9_goes_0, rX9_goes_1, rX9_goes_3, rX9_goes_4, rX9_goes_7, rX9_goes_10, rX9_goes_11, rX9_goes_14, rX9_goes_15, rX9_goes_16, rX9_goes_17, rX9_goes_18, rX9_goes_21, rX9_goes_22, rX9_goes_23, rX9_goes_26, rX9_goes_27, rX9_goes_30, rX9_goes_31, rX9_goes_32, rX9_goes_33, rX9_goes_36, rX9_goes_39, rX9_goes_40, rX9_goes_42, rX9_goes_43, rX9_goes_46, rX9_goes_48, rX9_goes_49, rX9_goes_52, rX9_goes_53, rX9_goes_56, rX9_goes_58, rX9_goes_59, rX9_goes_60, rX9_goes_61, rX9_goes_62, rX9_goes_63, rX9_goes_64, rX9_goes_65, rX9_goes_66, rX9_goes_67, rX9_goes_68, rX9_goes_69, rX9_goes_72, rX9_goes_75, rX9_goes_76, rX9_goes_77, rX9_goes_80, rX9_goes_81, rX9_goes_84, rX9_goes_85, rX9_goes_88, rX9_goes_89, rX9_goes_92, rX9_goes_94, rX9_goes_96, rX9_goes_99, rX9_goes_100, rX9_goes_101, rX9_goes_104, rX9_goes_105, rX9_goes_106, rX9_goes_109, rX9_goes_110, rX9_goes_111, rX9_goes_114, rX9_goes_115, rX9_goes_118, rX9_goes_119, rX9_goes_122, rX9_goes_124, rX9_goes_125, rX9_goes_126, rX9_goes_127, rX9_goes_128, rX9_goes_129, true_and, and_true, true_or, or_true, false_or, or_false, Option.toList_some, Option.toList_none, List.nil_append, List.cons_append, zn1, kM hG, if_true, zup_def]
      refine ⟨by omega, by omega, hq _ (fun b b1 b2 b3 => by rw [zset_ne b1]) ?_ ?_ ?_ ?_⟩
      · exact mS_45
      · refine ⟨?_, fun j y hj => by simp at hj⟩
        rw [zset_eq, zfu_at, if_neg (by omega)]
        exact hL.1
      · rw [zset_eq, zfu_at, if_pos rfl]
      · rw [zset_ne (by omega)]
        exact hn
    · simp at hx
  | succ m ih =>
    intro cur H1 g hm hT eP er ek hw hL h8 hok hn hg hq
    have hT' := hT
    obtain ⟨⟨P0, P1⟩, ⟨r0, r1⟩, -⟩ := hT'
    rw [eP] at P0 P1
    rw [er] at r0 r1
    rcases DN_first hL (fun x hx => (hok x hx).2) hg with ⟨rfl, hno⟩ | ⟨k, x, rfl, hx, hd, hf⟩
    · obtain ⟨e1, e2⟩ := filt_none0 hno
      rw [e1, e2] at hq
      rw [rX9_goes_93]
      simp only [rX9_goes_0, rX9_goes_1, rX9_goes_3, rX9_goes_4, rX9_goes_7, rX9_goes_10, rX9_goes_11, rX9_goes_14, rX9_goes_15, rX9_goes_16, rX9_goes_17, rX9_goes_18, rX9_goes_21, rX9_goes_22, rX9_goes_23, rX9_goes_26, rX9_goes_27, rX9_goes_30, rX9_goes_31, rX9_goes_32, rX9_goes_33, rX9_goes_36, rX9_goes_39, rX9_goes_40, rX9_goes_42, rX9_goes_43, rX9_goes_46, rX9_goes_48, rX9_goes_49, rX9_goes_52, rX9_goes_53, rX9_goes_56, rX9_goes_58, rX9_goes_59, rX9_goes_60, rX9_goes_61, rX9_goes_62, rX9_goes_63, rX9_goes_64, rX9_goes_65, rX9_goes_66, rX9_goes_67, rX9_goes_68, rX9_goes_69, rX9_goes_72, rX9_goes_75, rX9_goes_76, rX9_goes_77, rX9_goes_80, rX9_goes_81, rX9_goes_84, rX9_goes_85, rX9_goes_88, rX9_goes_89, rX9_goes_92, rX9_goes_94, rX9_goes_96, rX9_goes_99, rX9_goes_100, rX9_goes_101, rX9_goes_104, rX9_goes_105, rX9_goes_106, rX9_goes_109, rX9_goes_110, rX9_goes_111, rX9_goes_114, rX9_goes_115, rX9_goes_118, rX9_goes_119, rX9_goes_122, rX9_goes_124, rX9_goes_125, rX9_goes_126, rX9_goes_127, rX9_goes_128, rX9_goes_129, true_and, and_true, true_or, or_true, false_or, or_false, Option.toList_some, Option.toList_none, List.nil_append, List.cons_append, zn1, kM hG, if_true, zup_def]
      refine ⟨by omega, by omega, hq _ (fun b b1 b2 b3 => by rw [zset_ne b1]) ?_ ?_ ?_ ?_⟩
      · exact mS_45
      · refine ⟨?_, fun j y hj => ?_⟩
        · rw [zset_eq, zfu_at, if_neg (by omega)]
          exact hL.1
        · have hjl : j < cur.length := (List.getElem?_eq_some_iff.mp hj).1
          have := hL.2 j y hj
          unfold ARm at this ⊢
          rw [zset_eq, zset_ne (show 139 ≠ 134 by omega), zfu_at, zfu_at, zfu_at, zfu_at, if_neg (by omega), if_neg (by omega), if_neg (by omega), if_neg (by omega)]
          exact this
      · rw [zset_eq, zfu_at, if_pos rfl]
      · rw [zset_ne (by omega)]
        exact hn
    · have hk : k < cur.length := (List.getElem?_eq_some_iff.mp hx).1
      have hlen : (cur.eraseIdx k).length = cur.length - 1 := by rw [List.length_eraseIdx, if_pos hk]
      have hsub : ∀ y ∈ cur.eraseIdx k, y ∈ cur := fun y hy => List.mem_of_mem_eraseIdx hy
      refine goes_step hG hT eP er ek hw hL h8 (fun y hy => (hok y hy).1) hn hx (fun H2 g f2 a2 l2 e2 n2 d2 => ?_)
      have e130 : H2 130 = H1 130 := f2 130 (by omega) (by omega) (by omega)
      have hw2 : sWok (H2 134) := sWok_ag (fun p p0 p1 => (a2.1 p p0 p1).1) (mpay1_ok P1 r0 r1 hw (hok x (List.mem_of_getElem? hx)).1)
      refine ih (cur.eraseIdx k) H2 g (by omega) (tOKm_fr e130 hT) (by rw [e130]; exact eP) (by rw [e130]; exact er) (by rw [e130]; exact ek) hw2 l2 (by omega) (fun y hy => hok y (hsub y hy)) n2 d2 (fun H3 f3 a3 l3 e3 n3 => ?_)
      refine hq H3 (f2.tr f3) ?_ ?_ (by rw [e3, e2]) n3
      · rw [filt_first hd cur k hx hf, List.foldl_cons]
        exact a3.tr (mfold_ag P1 _ a2 (fun y hy => (hok y (hsub y (List.mem_filter.mp hy).1)).1))
      · rw [filt_nd hd cur k hx]
        exact l3
theorem sgreat_spec {am du : Nat → Int} : ∀ (n : Nat), (zfor (fun k (g : Int) => if du k ≤ 0 ∧ (g = -4 ∨ am g.toNat < am k) then (k : Int) else g) 0 n (-4) = -4 ∧ ∀ j, j < n → ¬ du j ≤ 0) ∨ ∃ k : Nat, k < n ∧ zfor (fun k (g : Int) => if du k ≤ 0 ∧ (g = -4 ∨ am g.toNat < am k) then (k : Int) else g) 0 n (-4) = (k : Int) ∧ du k ≤ 0 ∧ ∀ j, j < n → du j ≤ 0 → am j ≤ am k ∧ (j < k → am j < am k)
  | 0 => Or.inl ⟨rfl, fun j hj => by omega⟩
  | n + 1 => by
    rw [zfor_succ, Nat.zero_add]
    rcases sgreat_spec (am := am) (du := du) n with ⟨h1, h2⟩ | ⟨k, k0, k1, k2, k3⟩
    · rw [h1]
      by_cases c : du n ≤ 0
      · rw [if_pos ⟨c, Or.inl rfl⟩]
        refine Or.inr ⟨n, by omega, rfl, c, fun j hj hd => ?_⟩
        have : j = n := by
          rcases Nat.lt_or_ge j n with q | q
          · exact absurd hd (h2 j q)
          · omega
        subst this
        exact ⟨Int.le_refl _, fun z => by omega⟩
      · rw [if_neg (fun z => c z.1)]
        refine Or.inl ⟨rfl, fun j hj => ?_⟩
        by_cases cj : j = n
        · subst cj
          exact c
        · exact h2 j (by omega)
    · rw [k1]
      by_cases c : du n ≤ 0 ∧ am k < am n
      · rw [if_pos ⟨c.1, Or.inr (by rw [show ((k : Nat) : Int).toNat = k by omega]; exact c.2)⟩]
        refine Or.inr ⟨n, by omega, rfl, c.1, fun j hj hd => ?_⟩
        by_cases cj : j = n
        · subst cj
          exact ⟨Int.le_refl _, fun z => by omega⟩
        · have := (k3 j (by omega) hd).1
          exact ⟨by omega, fun _ => by omega⟩
      · rw [if_neg (fun z => by rw [show ((k : Nat) : Int).toNat = k by omega] at z; omega)]
        refine Or.inr ⟨k, by omega, rfl, k2, fun j hj hd => ?_⟩
        by_cases cj : j = n
        · subst cj
          exact ⟨by omega, fun z => by omega⟩
        · exact k3 j (by omega) hd
/-- the model's first one is the class's -/
theorem DN_ahead {a nm : Int → Int} {ls : List zLn} {g : Int} (hL : LM a nm ls) (hd : ∀ x ∈ ls, 0 ≤ x.2.2.2.1) (h : DN 1 (fun k => a (13 + 4 * (k : Int) + 2)) (fun k => a (13 + 4 * (k : Int) + 3)) ls.length 0 g) : g = sahd 2 ls := by
  have hg : ∀ k, k < ls.length → a (13 + 4 * (k : Int) + 2) = (ls.getD k (0, 0, 0, 0, 0)).2.2.1 ∧ (a (13 + 4 * (k : Int) + 3) = 0 ↔ (ls.getD k (0, 0, 0, 0, 0)).2.2.2.1 ≤ 0) := fun k hk => by
    have hx : ls[k]? = some ls[k] := List.getElem?_eq_getElem hk
    have := hL.2 k _ hx
    have h0 := hd _ (List.getElem_mem hk)
    rw [List.getD_eq_getElem?_getD, hx]
    refine ⟨this.2.2.1, ?_⟩
    rw [this.2.2.2.1]
    show ls[k].2.2.2.1 = 0 ↔ ls[k].2.2.2.1 ≤ 0
    omega
  have e : sahd 2 ls = zfor (fun k (g : Int) => if (ls.getD k (0, 0, 0, 0, 0)).2.2.2.1 ≤ 0 ∧ (g = -4 ∨ (ls.getD g.toNat (0, 0, 0, 0, 0)).2.2.1 < (ls.getD k (0, 0, 0, 0, 0)).2.2.1) then (k : Int) else g) 0 ls.length (-4) := by
    unfold sahd sgreat
    rw [if_pos rfl]
    refine zfor_congr (n := ls.length) (fun k g hk => ?_) _ _ _ (by omega)
    rfl
  rw [e]
  rcases sgreat_spec (am := fun k => (ls.getD k (0, 0, 0, 0, 0)).2.2.1) (du := fun k => (ls.getD k (0, 0, 0, 0, 0)).2.2.2.1) ls.length with ⟨h1, h2⟩ | ⟨k, k0, k1, k2, k3⟩
  · rw [h1]
    rcases h with ⟨d1, d2⟩ | ⟨j, j0, j1, j2, j3, j4⟩
    · exact d1
    · exact absurd ((hg j j1).2.mp j3) (h2 j j1)
  · rw [k1]
    rcases h with ⟨d1, d2⟩ | ⟨j, j0, j1, j2, j3, j4⟩
    · exact absurd ((hg k k0).2.mpr k2) (d2 k (by omega) k0)
    · rw [j2]
      have q1 := k3 j j1 ((hg j j1).2.mp j3)
      have q2 := j4 k (by omega) k0 ((hg k k0).2.mpr k2)
      rw [if_neg (by omega)] at q2
      dsimp only at q1 q2
      rw [(hg k k0).1, (hg j j1).1] at q2
      rcases Nat.lt_trichotomy j k with c | c | c
      · have := q1.2 c
        omega
      · rw [c]
      · have := q2.2 c
        omega
