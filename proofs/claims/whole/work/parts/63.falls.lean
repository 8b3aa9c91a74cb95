/-! three hundred weeks -/
theorem wk1_keep {P r kind : Int} {B : sB} {k : Int} (h : k ∉ B.2.map mrk) : (wk1 P r kind B).1.2.2 k = B.1.2.2 k ∧ k ∉ (wk1 P r kind B).2.map mrk := by
  refine ⟨?_, fun z => h ?_⟩
  · show (send P r kind (swkS P 1 B.1) (B.2.map (sdn 1))).2.2 k = _
    rw [send_ord, fold_keep _ (fun x hx e => h ?_)]
    · rfl
    · have := List.mem_map_of_mem (f := mrk) (pord_sub hx)
      rw [sdn_mrk, ← e] at this
      exact this
  · obtain ⟨x, hx, rfl⟩ := List.mem_map.mp z
    have hx : x ∈ (B.2.map (sdn 1)).filter nd := hx
    have := List.mem_map_of_mem (f := mrk) (List.mem_filter.mp hx).1
    rw [sdn_mrk] at this
    exact this
theorem wkn_keep {P r kind : Int} {k : Int} : ∀ (n : Nat) {B : sB}, k ∉ B.2.map mrk → (wkn P r kind n B).1.2.2 k = B.1.2.2 k
  | 0, B, _ => rfl
  | n + 1, B, h => by
    have h1 := wk1_keep (P := P) (r := r) (kind := kind) h
    show (wkn P r kind n (wk1 P r kind B)).1.2.2 k = _
    rw [wkn_keep n h1.2, h1.1]
theorem wkn_mz {P r kind : Int} : ∀ (n : Nat) {B : sB}, mz B → mz (wkn P r kind n B)
  | 0, B, h => h
  | n + 1, B, h => wkn_mz n (wk1_mz h).1
theorem wm_mrk {cs : List zCo} {k : Int} (h : (cs.length : Int) ≤ k) : k ∉ (wm (fun k => k) 0 cs).map mrk := by
  intro z
  obtain ⟨x, hx, rfl⟩ := List.mem_map.mp z
  obtain ⟨j, hj, rfl⟩ := List.getElem_of_mem hx
  obtain ⟨c, hc, e⟩ := wm_get' (List.getElem?_eq_getElem hj)
  have hl : j < cs.length := (List.getElem?_eq_some_iff.mp hc).1
  rw [e] at h
  have : (cs.length : Int) ≤ (j : Int) := h
  omega
/-- nothing but the run's own cells -/
def frR (H H' : zH) : Prop := ∀ b : Nat, b ≠ 134 → b ≠ 139 → b ≠ 140 → b ≠ 142 → H' b = H b
theorem frR.tr {H H1 H2 : zH} (h1 : frR H H1) (h2 : frR H1 H2) : frR H H2 := fun b x y z w => (h2 b x y z w).trans (h1 b x y z w)
theorem dAns_step {P r kind p v : Int} {B : sB} {m : Nat} {x : Int} (hx : 0 < x ↔ alv P r kind B p (m + 1)) (x0 : 0 ≤ x) (h : dAns P r kind B m p v) : dAns P r kind B (m + 1) p (if v = -4 ∧ x = 0 then ((m + 1 : Nat) : Int) else v) := by
  rcases h with ⟨rfl, h1⟩ | ⟨j, hj, rfl, h2, h3⟩
  · by_cases c : x = 0
    · rw [if_pos ⟨rfl, c⟩]
      exact Or.inr ⟨m + 1, Nat.le_refl _, rfl, fun z => by have := hx.mpr z; omega, fun i hi => h1 i (by omega)⟩
    · rw [if_neg (fun z => c z.2)]
      refine Or.inl ⟨rfl, fun j hj => ?_⟩
      rcases Nat.lt_or_ge j (m + 1) with q | q
      · exact h1 j (by omega)
      · have : j = m + 1 := by omega
        subst this
        exact hx.mp (by omega)
  · rw [if_neg (by omega)]
    exact Or.inr ⟨j, by omega, rfl, h2, h3⟩
theorem kX9_runs {P r kind : Int} {cs : List zCo} {w l : Int → Int} {G : zG} {H : zH} {Q' : Option zV → zG → zH → Prop} (hG : zOK G) (hT : tOKm H) (eP : H 130 4 = P) (er : H 130 6 = r) (ek : H 130 7 = kind) (hb : bok P ((w, l, fun _ => 0), wm (fun k => k) 0 cs)) (hw : ∀ p : Int, 0 ≤ p → p < 6 → H 134 p = w p ∧ H 134 (6 + p) = l p) (hR : RBk (H 134) cs)
    (hq : ∀ H' : zH, frR H H' → MP H' (wkn P r kind 300 ((w, l, fun _ => 0), wm (fun k => k) 0 cs)) → (∀ p : Int, 0 ≤ p → p < P → dAns P r kind ((w, l, fun _ => 0), wm (fun k => k) 0 cs) 300 p (H' 142 p)) → nmok (H' 139) → Q' none G H') : zCall qX9_runs [vr 130] G H Q' := by
  have hT' := hT
  obtain ⟨⟨P0, P1⟩, ⟨r0, r1⟩, -⟩ := hT'
  rw [eP] at P0 P1
  rw [er] at r0 r1
  obtain ⟨Pn, hPn⟩ := nat_of (show 0 ≤ P by omega)
  have hmz : mz ((w, l, fun _ => 0), wm (fun k => k) 0 cs) := B0_mz (H := fun b => if b = 8 then w else l) (cs := cs)
  have h8 : cs.length ≤ 8 := by
    have := hb.2.1
    rw [wm_len] at this
    exact this
  generalize hB : (((w, l, fun _ => 0), wm (fun k => k) 0 cs) : sB) = B at *
  rw [rX9_runs_in]
  simp only [rX9_runs_0, rX9_runs_1, true_and, and_true, true_or, or_true, false_or, or_false, Option.toList_some, Option.toList_none, List.nil_append, List.cons_append, zn1]
  -- the weeks
  have inner : ∀ (n : Nat) (m k : Nat) (H1 : zH), n < 300 → k + m = Pn → frR H H1 → MP H1 (wkn P r kind (n + 1) B) → nmok (H1 139) → (∀ p : Int, 0 ≤ p → p < P → dAns P r kind B (if p < (k : Int) then n + 1 else n) p (H1 142 p)) → (∀ H2 : zH, frR H H2 → MP H2 (wkn P r kind (n + 1) B) → nmok (H2 139) → (∀ p : Int, 0 ≤ p → p < P → dAns P r kind B (n + 1) p (H2 142 p)) → zRun qX9_runs 67 [vr 130, vi ((n + 1 + 1 : Nat) : Int), vi P] [] G H2 Q') → zRun qX9_runs 80 [vr 130, vi ((n + 1 : Nat) : Int), vi (k : Int)] [] G H1 Q' := by
    intro n m
    induction m with
    | zero =>
      intro k H1 hn hk f1 b1 n1 d1 hq1
      have e130 : H1 130 = H 130 := f1 130 (by omega) (by omega) (by omega) (by omega)
      have q4 : H1 130 4 = P := by rw [e130]; exact eP
      rw [rX9_runs_80]
      simp only [rX9_runs_81, rX9_runs_82, rX9_runs_85, rX9_runs_130, rX9_runs_133, true_and, and_true, true_or, or_true, false_or, or_false, Option.toList_some, Option.toList_none, List.nil_append, List.cons_append, zn1, kM hG, q4, zwk (show n + 1 < 2000000000 by omega)]
      rw [if_pos (by omega)]
      have := hq1 H1 f1 b1 n1 (fun p p0 p1 => by
        have := d1 p p0 p1
        rw [if_pos (by omega)] at this
        exact this)
      rw [show (k : Int) = P by omega]
      exact this
    | succ m ih =>
      intro k H1 hn hk f1 b1 n1 d1 hq1
      have e130 : H1 130 = H 130 := f1 130 (by omega) (by omega) (by omega) (by omega)
      have q4 : H1 130 4 = P := by rw [e130]; exact eP
      have k6 : (0 : Int) ≤ k ∧ (k : Int) < 6 := by omega
      have k46 : (0 : Int) ≤ k ∧ (k : Int) < 46 := by omega
      have hbn := wkn_ok (kind := kind) P1 r0 r1 (n + 1) hb
      have ek1 : H1 134 k = (wkn P r kind (n + 1) B).1.1 k := (b1.1.1 k (by omega) (by omega)).1
      have hx : 0 < H1 134 k ↔ alv P r kind B k (n + 1) := by
        rw [ek1]
        exact ⟨fun z => ⟨by omega, z⟩, fun z => z.2⟩
      have hx0 : 0 ≤ H1 134 k := by
        rw [ek1]
        exact hbn.1.1 k (by omega) (by omega)
      have dk := d1 k (by omega) (by omega)
      rw [if_neg (by omega)] at dk
      have dk' := dAns_step hx hx0 dk
      rw [rX9_runs_80]
      simp only [rX9_runs_81, rX9_runs_82, rX9_runs_85, rX9_runs_88, rX9_runs_89, rX9_runs_92, rX9_runs_93, rX9_runs_94, rX9_runs_97, rX9_runs_98, rX9_runs_99, rX9_runs_101, rX9_runs_104, rX9_runs_105, rX9_runs_108, rX9_runs_109, rX9_runs_110, rX9_runs_113, rX9_runs_114, rX9_runs_117, rX9_runs_118, rX9_runs_121, rX9_runs_122, rX9_runs_123, rX9_runs_124, rX9_runs_127, true_and, and_true, true_or, or_true, false_or, or_false, Option.toList_some, Option.toList_none, List.nil_append, List.cons_append, zn1, kM hG, q4, k6, k46, zup_def, zwk (show k < 2000000000 by omega)]
      rw [if_neg (by omega)]
      have fin : ∀ v : Int, v = (if H1 142 k = -4 ∧ H1 134 k = 0 then ((n + 1 : Nat) : Int) else H1 142 k) → zRun qX9_runs 80 [vr 130, vi ((n + 1 : Nat) : Int), vi ((k + 1 : Nat) : Int)] [] G (zset H1 142 (zfu (H1 142) k v)) Q' := by
        intro v hv
        refine ih (k + 1) _ hn (by omega) (fun b x1 x2 x3 x4 => ?_) ?_ ?_ (fun p p0 p1 => ?_) hq1
        · rw [zset_ne x4]
          exact f1 b x1 x2 x3 x4
        · refine ⟨?_, ?_⟩
          · unfold mS
            rw [zset_ne (by omega), zset_ne (by omega)]
            exact b1.1
          · rw [zset_ne (by omega), zset_ne (by omega)]
            exact b1.2
        · rw [zset_ne (by omega)]
          exact n1
        · rw [zset_eq, zfu_at]
          by_cases c : p = k
          · subst c
            rw [if_pos (by omega), if_pos rfl, hv]
            exact dk'
          · have := d1 p p0 p1
            rw [if_neg c]
            by_cases c2 : p < (k : Int)
            · rw [if_pos (by omega)]
              rw [if_pos c2] at this
              exact this
            · rw [if_neg (by omega)]
              rw [if_neg c2] at this
              exact this
      by_cases c1 : H1 142 k = -4
      · rw [if_neg (fun z => z c1)]
        by_cases c2 : H1 134 k = 0
        · rw [if_neg (fun z => z c2)]
          exact fin _ (by rw [if_pos ⟨c1, c2⟩])
        · rw [if_pos c2]
          exact fin _ (by rw [if_neg (fun z => c2 z.2)])
      · rw [if_pos c1]
        exact fin _ (by rw [if_neg (fun z => c1 z.1)])
  have weeks : ∀ (m n : Nat) (H1 : zH) (v2 : zV), n + m = 300 → frR H H1 → MP H1 (wkn P r kind n B) → nmok (H1 139) → (∀ p : Int, 0 ≤ p → p < P → dAns P r kind B n p (H1 142 p)) → zRun qX9_runs 67 [vr 130, vi ((n + 1 : Nat) : Int), v2] [] G H1 Q' ∨ (∃ z, v2 = .inr (.inl z)) := by
    intro m
    induction m with
    | zero =>
      intro n H1 v2 hn f1 b1 n1 d1
      have : n = 300 := by omega
      subst this
      refine Or.inl ?_
      rw [rX9_runs_67]
      simp only [rX9_runs_68, rX9_runs_71, rX9_runs_136, true_and, and_true, true_or, or_true, false_or, or_false, Option.toList_some, Option.toList_none, List.nil_append, List.cons_append, zn1]
      rw [if_pos (by omega)]
      exact hq H1 f1 b1 d1 n1
    | succ m ih =>
      intro n H1 v2 hn f1 b1 n1 d1
      have e130 : H1 130 = H 130 := f1 130 (by omega) (by omega) (by omega) (by omega)
      refine Or.inl ?_
      rw [rX9_runs_67]
      simp only [rX9_runs_68, rX9_runs_71, rX9_runs_74, rX9_runs_75, true_and, and_true, true_or, or_true, false_or, or_false, Option.toList_some, Option.toList_none, List.nil_append, List.cons_append, zn1, kM hG]
      rw [if_neg (by omega)]
      refine goesP (P := P) (r := r) (kind := kind) hG (tOKm_fr e130 hT) (by rw [e130]; exact eP) (by rw [e130]; exact er) (by rw [e130]; exact ek) b1 (wkn_ok P1 r0 r1 n hb) (wkn_mz n hmz) n1 (fun H2 f2 b2 n2 => ?_)
      simp only [rX9_runs_78, rX9_runs_79, true_and, and_true, true_or, or_true, false_or, or_false, Option.toList_some, Option.toList_none, List.nil_append, List.cons_append, zn1]
      have := inner n Pn 0 H2 (by omega) (by omega) (fun b x1 x2 x3 x4 => by rw [f2 b x1 x2 x3]; exact f1 b x1 x2 x3 x4) (by rw [wkn_succ]; exact b2) n2 (fun p p0 p1 => by
        rw [if_neg (by omega), f2 142 (by omega) (by omega) (by omega)]
        exact d1 p p0 p1) (fun H3 f3 b3 n3 d3 => by
        rcases ih (n + 1) H3 (vi P) (by omega) f3 b3 n3 d3 with h | ⟨z, h⟩
        · exact h
        · cases h)
      exact this
  -- the deaths
  have deaths : ∀ (m k : Nat) (H1 : zH), k + m = Pn → frR H H1 → MP H1 B → nmok (H1 139) → (∀ p : Int, 0 ≤ p → p < (k : Int) → dAns P r kind B 0 p (H1 142 p)) → zRun qX9_runs 30 [vr 130, vi (k : Int), vu] [] G H1 Q' := by
    intro m
    induction m with
    | zero =>
      intro k H1 hk f1 b1 n1 d1
      have e130 : H1 130 = H 130 := f1 130 (by omega) (by omega) (by omega) (by omega)
      have q4 : H1 130 4 = P := by rw [e130]; exact eP
      rw [rX9_runs_30]
      simp only [rX9_runs_31, rX9_runs_32, rX9_runs_35, rX9_runs_65, rX9_runs_66, true_and, and_true, true_or, or_true, false_or, or_false, Option.toList_some, Option.toList_none, List.nil_append, List.cons_append, zn1, kM hG, q4]
      rw [if_pos (by omega)]
      rcases weeks 300 0 H1 vu (by omega) f1 b1 n1 (fun p p0 p1 => d1 p p0 (by omega)) with h | ⟨z, h⟩
      · exact h
      · cases h
    | succ m ih =>
      intro k H1 hk f1 b1 n1 d1
      have e130 : H1 130 = H 130 := f1 130 (by omega) (by omega) (by omega) (by omega)
      have q4 : H1 130 4 = P := by rw [e130]; exact eP
      have k6 : (0 : Int) ≤ k ∧ (k : Int) < 6 := by omega
      have k46 : (0 : Int) ≤ k ∧ (k : Int) < 46 := by omega
      have ek1 : H1 134 k = B.1.1 k := (b1.1.1 k (by omega) (by omega)).1
      have hx0 : 0 ≤ B.1.1 k := hb.1.1 k (by omega) (by omega)
      rw [rX9_runs_30]
      simp only [rX9_runs_31, rX9_runs_32, rX9_runs_35, rX9_runs_38, rX9_runs_39, rX9_runs_42, rX9_runs_43, rX9_runs_44, rX9_runs_47, rX9_runs_48, rX9_runs_49, rX9_runs_52, rX9_runs_53, rX9_runs_56, rX9_runs_58, rX9_runs_59, rX9_runs_62, true_and, and_true, true_or, or_true, false_or, or_false, Option.toList_some, Option.toList_none, List.nil_append, List.cons_append, zn1, kM hG, q4, k6, k46, zup_def, zwk (show k < 2000000000 by omega)]
      rw [if_neg (by omega)]
      have fin : ∀ v : Int, dAns P r kind B 0 k v → zRun qX9_runs 30 [vr 130, vi ((k + 1 : Nat) : Int), vu] [] G (zset H1 142 (zfu (H1 142) k v)) Q' := by
        intro v hv
        refine ih (k + 1) _ (by omega) (fun b x1 x2 x3 x4 => ?_) ?_ ?_ (fun p p0 p1 => ?_)
        · rw [zset_ne x4]
          exact f1 b x1 x2 x3 x4
        · refine ⟨?_, ?_⟩
          · unfold mS
            rw [zset_ne (by omega), zset_ne (by omega)]
            exact b1.1
          · rw [zset_ne (by omega), zset_ne (by omega)]
            exact b1.2
        · rw [zset_ne (by omega)]
          exact n1
        · rw [zset_eq, zfu_at]
          by_cases c : p = k
          · subst c
            rw [if_pos rfl]
            exact hv
          · rw [if_neg c]
            exact d1 p p0 (by omega)
      by_cases c1 : H1 134 k = 0
      · rw [if_neg (fun z => z c1)]
        refine fin _ (Or.inr ⟨0, Nat.le_refl _, rfl, fun z => ?_, fun i hi => by omega⟩)
        have : 0 < B.1.1 k := z.2
        omega
      · rw [if_pos c1]
        refine fin _ (Or.inl ⟨rfl, fun j hj => ?_⟩)
        have : j = 0 := by omega
        subst this
        exact ⟨by omega, by show 0 < B.1.1 k; omega⟩
  -- names, paid
  have names : ∀ (m k : Nat) (H1 : zH), k + m = 8 → (∀ b : Nat, b ≠ 139 → b ≠ 140 → H1 b = H b) → (∀ j : Int, 0 ≤ j → j < (k : Int) → H1 139 j = j ∧ H1 140 j = 0) → zRun qX9_runs 2 [vr 130, vi (k : Int), vu] [] G H1 Q' := by
    intro m
    induction m with
    | zero =>
      intro k H1 hk f1 j1
      rw [rX9_runs_2]
      simp only [rX9_runs_3, rX9_runs_5, rX9_runs_28, rX9_runs_29, true_and, and_true, true_or, or_true, false_or, or_false, Option.toList_some, Option.toList_none, List.nil_append, List.cons_append, zn1]
      rw [if_pos (by omega)]
      have e134 : H1 134 = H 134 := f1 134 (by omega) (by omega)
      have hMP : MP H1 B := by
        rw [← hB]
        refine ⟨⟨fun p p0 p1 => ?_, fun q q0 q1 => (j1 q q0 (by omega)).2⟩, ?_⟩
        · show H1 134 p = w p ∧ H1 134 (6 + p) = l p
          rw [e134]
          exact hw p p0 p1
        · rw [e134]
          refine ⟨by rw [wm_len]; exact hR.1, fun q x hx => ?_⟩
          obtain ⟨c, hc, rfl⟩ := wm_get' hx
          have hl : q < cs.length := (List.getElem?_eq_some_iff.mp hc).1
          obtain ⟨a1, a2, a3, a4⟩ := hR.2 q c hc
          exact ⟨a1, a2, a3, a4, (j1 q (by omega) (by omega)).1⟩
      exact deaths Pn 0 H1 (by omega) (fun b x1 x2 x3 x4 => f1 b x2 x3) hMP (fun q q0 q1 => by rw [(j1 q q0 (by omega)).1]; omega) (fun p p0 p1 => by omega)
    | succ m ih =>
      intro k H1 hk f1 j1
      have k8 : (0 : Int) ≤ k ∧ (k : Int) < 8 := by omega
      have k9 : (0 : Int) ≤ k ∧ (k : Int) < 9 := by omega
      rw [rX9_runs_2]
      simp only [rX9_runs_3, rX9_runs_5, rX9_runs_8, rX9_runs_9, rX9_runs_12, rX9_runs_13, rX9_runs_14, rX9_runs_15, rX9_runs_16, rX9_runs_19, rX9_runs_20, rX9_runs_21, rX9_runs_22, rX9_runs_25, true_and, and_true, true_or, or_true, false_or, or_false, Option.toList_some, Option.toList_none, List.nil_append, List.cons_append, zn1, kM hG, k9, zup_def, zwk (show k < 2000000000 by omega)]
      rw [if_neg (by omega)]
      refine ⟨k8.2, ih (k + 1) _ (by omega) (fun b x1 x2 => by rw [zset_ne x2, zset_ne x1]; exact f1 b x1 x2) (fun j j0 j2 => ?_)⟩
      rw [zset_ne (show 139 ≠ 140 by omega), zset_eq, zset_eq, zset_ne (show 140 ≠ 139 by omega), zfu_at, zfu_at]
      by_cases c : j = k
      · rw [if_pos c, if_pos c]
        exact ⟨c.symm, rfl⟩
      · rw [if_neg c, if_neg c]
        exact j1 j j0 (by omega)
  exact names 8 0 H (by omega) (fun _ _ _ => rfl) (fun j j0 j1 => by omega)
