/-! the model: a loan is paid -/
def ARm (a nm : Int → Int) (k : Nat) (x : zLn) : Prop := a (13 + 4 * (k : Int)) = x.1 ∧ a (13 + 4 * (k : Int) + 1) = x.2.1 ∧ a (13 + 4 * (k : Int) + 2) = x.2.2.1 ∧ a (13 + 4 * (k : Int) + 3) = x.2.2.2.1 ∧ nm (k : Int) = x.2.2.2.2
def LM (a nm : Int → Int) (ls : List zLn) : Prop := a 12 = (ls.length : Int) ∧ ∀ (k : Nat) (x : zLn), ls[k]? = some x → ARm a nm k x
def lokm (P : Int) (x : zLn) : Prop := (0 ≤ x.1 ∧ x.1 < P) ∧ (0 ≤ x.2.1 ∧ x.2.1 < P) ∧ (1 ≤ x.2.2.1 ∧ x.2.2.1 ≤ 200) ∧ (0 ≤ x.2.2.2.2 ∧ x.2.2.2.2 ≤ 8)
def mpay1 (P r kind : Int) (s : sT) (x : zLn) : sT :=
  if 0 < s.1 x.1 then (sw2 P kind s.1 x.1 x.2.1 (zdue r x.2.2.1), zfu s.2.1 x.1 (zw (s.2.1 x.1 + (zdue r x.2.2.1 - spaid P kind s.1 x.1 x.2.1 (zdue r x.2.2.1)))), zfu s.2.2 x.2.2.2.2 (zw (s.2.2 x.2.2.2.2 + spaid P kind s.1 x.1 x.2.1 (zdue r x.2.2.1))))
  else s
theorem zset_over {H : zH} {a b : Nat} {f g h : Int → Int} : zset (zset (zset H a f) b g) a h = zset (zset H b g) a h := by
  funext c
  simp only [zset_at]
  repeat' split
  all_goals first | rfl | simp_all
def mS (H : zH) : sT := (H 134, fun p => H 134 (6 + p), H 140)
/-- behind what is given -/
theorem mpay_end {k i j due p : Int} {v6 v7 : zV} {G : zG} {H : zH} {Q' : Option zV → zG → zH → Prop} (hG : zOK G) (k0 : 0 ≤ k) (k1 : k < 8) (i0 : 0 ≤ i) (i1 : i < 6) (m0 : 0 ≤ H 139 k) (m1 : H 139 k ≤ 8) (d0 : 0 ≤ due) (d1 : due ≤ 400) (p0 : 0 ≤ p) (p1 : p ≤ due) (hq : Q' none G (zset (zset H 140 (zfu (H 140) (H 139 k) (zw (H 140 (H 139 k) + p)))) 134 (zfu (H 134) (6 + i) (zw (H 134 (6 + i) + (due - p)))))) : zRun qX9_pays 185 [vr 130, vi k, vi i, vi j, vi due, vi p, v6, v7] [] G H Q' := by
  have e := zw_id (z := 6 + i) (by omega) (by omega)
  have e2 := zw_id (z := due - p) (by omega) (by omega)
  simp only [rX9_pays_0, rX9_pays_1, rX9_pays_4, rX9_pays_6, rX9_pays_7, rX9_pays_8, rX9_pays_9, rX9_pays_10, rX9_pays_11, rX9_pays_12, rX9_pays_13, rX9_pays_16, rX9_pays_18, rX9_pays_19, rX9_pays_20, rX9_pays_21, rX9_pays_22, rX9_pays_23, rX9_pays_24, rX9_pays_25, rX9_pays_26, rX9_pays_27, rX9_pays_28, rX9_pays_31, rX9_pays_33, rX9_pays_34, rX9_pays_35, rX9_pays_36, rX9_pays_37, rX9_pays_38, rX9_pays_39, rX9_pays_40, rX9_pays_43, rX9_pays_45, rX9_pays_46, rX9_pays_49, rX9_pays_50, rX9_pays_51, rX9_pays_54, rX9_pays_55, rX9_pays_56, rX9_pays_59, rX9_pays_60, rX9_pays_63, rX9_pays_64, rX9_pays_67, rX9_pays_68, rX9_pays_69, rX9_pays_71, rX9_pays_74, rX9_pays_75, rX9_pays_76, rX9_pays_77, rX9_pays_79, rX9_pays_82, rX9_pays_85, rX9_pays_86, rX9_pays_88, rX9_pays_89, rX9_pays_92, rX9_pays_93, rX9_pays_96, rX9_pays_98, rX9_pays_100, rX9_pays_103, rX9_pays_105, rX9_pays_107, rX9_pays_108, rX9_pays_111, rX9_pays_112, rX9_pays_113, rX9_pays_115, rX9_pays_117, rX9_pays_120, rX9_pays_122, rX9_pays_123, rX9_pays_126, rX9_pays_128, rX9_pays_129, rX9_pays_132, rX9_pays_133, rX9_pays_136, rX9_pays_138, rX9_pays_139, rX9_pays_142, rX9_pays_144, rX9_pays_147, rX9_pays_149, rX9_pays_151, rX9_pays_154, rX9_pays_157, rX9_pays_159, rX9_pays_161, rX9_pays_163, rX9_pays_166, rX9_pays_167, rX9_pays_170, rX9_pays_171, rX9_pays_173, rX9_pays_174, rX9_pays_176, rX9_pays_178, rX9_pays_179, rX9_pays_182, rX9_pays_183, rX9_pays_185, rX9_pays_186, rX9_pays_189, rX9_pays_190, rX9_pays_193, rX9_pays_194, rX9_pays_195, rX9_pays_196, rX9_pays_197, rX9_pays_199, rX9_pays_200, rX9_pays_201, rX9_pays_202, rX9_pays_205, rX9_pays_207, rX9_pays_208, rX9_pays_209, rX9_pays_210, rX9_pays_211, rX9_pays_213, rX9_pays_215, rX9_pays_216, rX9_pays_217, rX9_pays_218, true_and, and_true, true_or, or_true, false_or, or_false, Option.toList_some, Option.toList_none, List.nil_append, List.cons_append, zn1, kM hG, zup_def, zset_at, e, e2, if_true, if_false, show ¬ (134 = 140) by omega]
  exact ⟨by omega, by omega, by omega, by omega, by omega, hq⟩
theorem zff_step {c : Nat → Bool} {P k : Nat} (h : k < P) : zff c k (P - k) = if c k = true then (k : Int) else zff c (k + 1) (P - (k + 1)) := by
  rw [show P - k = (P - (k + 1)) + 1 by omega]
  rfl
/-- the one who helps -/
theorem mpay_helper {k i j due p : Int} {v6 v7 : zV} {G : zG} {H : zH} {Q' : Option zV → zG → zH → Prop} (hG : zOK G) (h1 : 1 ≤ H 130 4) (h2 : H 130 4 ≤ 6)
    (hq : zRun qX9_pays 157 [vr 130, vi k, vi i, vi j, vi due, vi p, vi (soth (H 130 4) (H 134) i j), vi (-1)] [] G H Q') : zRun qX9_pays 115 [vr 130, vi k, vi i, vi j, vi due, vi p, vi (-4), vi (H 130 4 - 1)] [] G H Q' := by
  obtain ⟨P, hP⟩ := nat_of (show 0 ≤ H 130 4 by omega)
  have loop : ∀ q : Nat, q ≤ P → zRun qX9_pays 115 [vr 130, vi k, vi i, vi j, vi due, vi p, vi (zff (fun p => decide (((p : Int) ≠ i ∧ (p : Int) ≠ j) ∧ 0 < H 134 p)) q (P - q)), vi ((q : Int) - 1)] [] G H Q' := by
    intro q
    induction q with
    | zero =>
      intro _
      rw [rX9_pays_115]
      simp only [rX9_pays_117]
      rw [if_pos (by omega)]
      unfold soth at hq
      rw [show (H 130 4).toNat = P by omega] at hq
      exact hq
    | succ q ih =>
      intro hqP
      have ih := ih (by omega)
      rw [zff_step (by omega)] at ih
      rw [show ((q + 1 : Nat) : Int) - 1 = (q : Int) by omega]
      have e : zw ((q : Int) + -1) = (q : Int) - 1 := zw_id (by omega) (by omega)
      rw [rX9_pays_115]
      simp only [rX9_pays_117, rX9_pays_120, rX9_pays_122, rX9_pays_123, rX9_pays_126, rX9_pays_128, rX9_pays_129, rX9_pays_132, rX9_pays_133, rX9_pays_136, rX9_pays_138, rX9_pays_139, rX9_pays_142, rX9_pays_144, rX9_pays_147, rX9_pays_149, rX9_pays_151, rX9_pays_154, true_and, and_true, true_or, or_true, false_or, or_false, Option.toList_some, Option.toList_none, List.nil_append, List.cons_append, zn1, kM hG, e]
      rw [if_neg (by omega)]
      by_cases c1 : (q : Int) = i
      · rw [if_pos c1]
        rw [if_neg (by simp [c1])] at ih
        exact ih
      · rw [if_neg c1]
        by_cases c2 : (q : Int) = j
        · rw [if_pos c2]
          rw [if_neg (by simp [c2])] at ih
          exact ih
        · rw [if_neg c2]
          refine ⟨by omega, ?_⟩
          by_cases c3 : H 134 q ≤ 0
          · rw [if_pos c3]
            rw [if_neg (by simp [c1, c2, c3])] at ih
            exact ih
          · rw [if_neg c3]
            rw [if_pos (by simp [c1, c2]; omega)] at ih
            exact ih
  have := loop P (Nat.le_refl _)
  rw [Nat.sub_self, ← hP] at this
  exact this
theorem mpay_tail {k i j due p : Int} {v5 v6 v7 : zV} {G : zG} {H : zH} {Q' : Option zV → zG → zH → Prop} (hG : zOK G) (h1 : 1 ≤ H 130 4) (h2 : H 130 4 ≤ 6) (hw : sWok (H 134)) (k0 : 0 ≤ k) (k1 : k < 8) (i0 : 0 ≤ i) (i1 : i < 6) (m0 : 0 ≤ H 139 k) (m1 : H 139 k ≤ 8) (d0 : 0 ≤ due) (d1 : due ≤ 400) (p0 : 0 ≤ p) (p1 : p ≤ due)
    (hq : ∀ v : Int, v = (if H 130 7 = 3 then sgv (H 130 4) (H 134) (soth (H 130 4) (H 134) i j) (due - p) else 0) → ∀ w, w = (if H 130 7 = 3 then smv (H 134) (soth (H 130 4) (H 134) i j) i v else H 134) → Q' none G (zset (zset H 140 (zfu (H 140) (H 139 k) (zw (H 140 (H 139 k) + (p + v))))) 134 (zfu w (6 + i) (zw (w (6 + i) + (due - (p + v))))))) : zRun qX9_pays 86 [vr 130, vi k, vi i, vi j, vi due, v5, v6, v7] [vi p] G H Q' := by
  have hq := hq _ rfl _ rfl
  have e := zw_id (z := due - p) (by omega) (by omega)
  have e4 := zw_id (z := H 130 4 - 1) (by omega) (by omega)
  simp only [rX9_pays_86, rX9_pays_88, rX9_pays_89, rX9_pays_92, rX9_pays_93, rX9_pays_96, rX9_pays_98, rX9_pays_100, rX9_pays_103, rX9_pays_105, rX9_pays_107, rX9_pays_108, rX9_pays_111, rX9_pays_112, rX9_pays_113, true_and, and_true, true_or, or_true, false_or, or_false, Option.toList_some, Option.toList_none, List.nil_append, List.cons_append, zn1, kM hG, e4]
  have same : zset (zset H 140 (zfu (H 140) (H 139 k) (zw (H 140 (H 139 k) + (p + 0))))) 134 (zfu (H 134) (6 + i) (zw (H 134 (6 + i) + (due - (p + 0))))) = zset (zset H 140 (zfu (H 140) (H 139 k) (zw (H 140 (H 139 k) + p)))) 134 (zfu (H 134) (6 + i) (zw (H 134 (6 + i) + (due - p)))) := by rw [Int.add_zero]
  by_cases hk : H 130 7 = 3
  · rw [if_pos hk, if_pos hk] at hq
    rw [if_neg (fun z => z hk)]
    have hr := sgv_rng (g := soth (H 130 4) (H 134) i j) (a := due - p) h2 hw.le (by omega)
    have hor := soth_rng (w := H 134) (i := i) (j := j) h2
    by_cases c : due ≤ p
    · rw [if_pos c]
      have hz : sgv (H 130 4) (H 134) (soth (H 130 4) (H 134) i j) (due - p) = 0 := by omega
      rw [hz, smv_0, same] at hq
      exact mpay_end hG k0 k1 i0 i1 m0 m1 d0 d1 p0 p1 hq
    · rw [if_neg c]
      refine mpay_helper (v6 := vu) (v7 := vu) hG h1 h2 ?_
      simp only [rX9_pays_157, rX9_pays_159, rX9_pays_161, rX9_pays_163, rX9_pays_166, rX9_pays_167, rX9_pays_170, rX9_pays_171, rX9_pays_173, rX9_pays_174, rX9_pays_176, rX9_pays_178, rX9_pays_179, rX9_pays_182, rX9_pays_183, true_and, and_true, true_or, or_true, false_or, or_false, Option.toList_some, Option.toList_none, List.nil_append, List.cons_append, zn1, kM hG, e]
      generalize hs : soth (H 130 4) (H 134) i j = g at *
      by_cases c2 : g = -4
      · rw [if_neg (fun z => z c2)]
        have hz : sgv (H 130 4) (H 134) g (due - p) = 0 := by
          unfold sgv
          rw [if_neg (by omega)]
        rw [hz, smv_0, same] at hq
        rw [Int.add_zero, zw_id (z := p) (by omega) (by omega)]
        exact mpay_end hG k0 k1 i0 i1 m0 m1 d0 d1 p0 p1 hq
      · rw [if_pos c2]
        rw [kX9_gives hG h2 hw.le (by omega) (by omega) i0 i1 (by omega) (by omega)]
        simp only [rX9_pays_182, rX9_pays_183, true_and, and_true, true_or, or_true, false_or, or_false, Option.toList_some, Option.toList_none, List.nil_append, List.cons_append, zn1]
        generalize sgv (H 130 4) (H 134) g (due - p) = v at *
        rw [zw_id (z := p + v) (by omega) (by omega)]
        refine mpay_end hG k0 k1 i0 i1 ?_ ?_ d0 d1 (by omega) (by omega) ?_
        · simp only [zset_at, show ¬ (139 = 134) by omega, if_false]
          exact m0
        · simp only [zset_at, show ¬ (139 = 134) by omega, if_false]
          exact m1
        · simp only [zset_at, show ¬ (139 = 134) by omega, show ¬ (140 = 134) by omega, if_true, if_false]
          rw [zset_over]
          exact hq
  · rw [if_neg hk, if_neg hk, same] at hq
    rw [if_pos hk]
    exact mpay_end hG k0 k1 i0 i1 m0 m1 d0 d1 p0 p1 hq
theorem kX9_pays {k : Nat} {x : zLn} {P r kind : Int} {G : zG} {H : zH} {Q' : Option zV → zG → zH → Prop} (hG : zOK G) (hT : tOKm H) (eP : H 130 4 = P) (er : H 130 6 = r) (ek : H 130 7 = kind) (hw : sWok (H 134)) (k8 : k < 8) (hx : lokm P x) (hA : ARm (H 134) (H 139) k x)
    (hq : ∀ H' : zH, (∀ b, b ≠ 134 → b ≠ 140 → H' b = H b) → (∀ i : Int, 12 ≤ i → H' 134 i = H 134 i) → agS (mS H') (mpay1 P r kind (mS H) x) → Q' none G H') : zCall qX9_pays [vr 130, vi (k : Int)] G H Q' := by
  subst eP er ek
  obtain ⟨⟨P0, P1⟩, ⟨r0, r1⟩, ⟨d0, d1⟩, -⟩ := hT
  obtain ⟨⟨i0, i1⟩, ⟨j0, j1⟩, ⟨n0, n1⟩, m0, m1⟩ := hx
  obtain ⟨a1, a2, a3, a4, a5⟩ := hA
  have hd := zdue_rng r0 r1 (show 0 ≤ x.2.2.1 by omega) n1
  rw [rX9_pays_in]
  simp only [rX9_pays_0, rX9_pays_1, rX9_pays_4, rX9_pays_6, rX9_pays_7, rX9_pays_8, rX9_pays_9, rX9_pays_10, rX9_pays_11, rX9_pays_12, rX9_pays_13, rX9_pays_16, rX9_pays_18, rX9_pays_19, rX9_pays_20, rX9_pays_21, rX9_pays_22, rX9_pays_23, rX9_pays_24, rX9_pays_25, rX9_pays_26, rX9_pays_27, rX9_pays_28, rX9_pays_31, rX9_pays_33, rX9_pays_34, rX9_pays_35, rX9_pays_36, rX9_pays_37, rX9_pays_38, rX9_pays_39, rX9_pays_40, rX9_pays_43, rX9_pays_45, rX9_pays_46, rX9_pays_49, rX9_pays_50, rX9_pays_51, rX9_pays_54, rX9_pays_55, rX9_pays_56, rX9_pays_59, rX9_pays_60, rX9_pays_63, rX9_pays_64, rX9_pays_67, rX9_pays_68, rX9_pays_69, rX9_pays_71, rX9_pays_74, rX9_pays_75, rX9_pays_76, rX9_pays_77, rX9_pays_79, rX9_pays_82, rX9_pays_85, rX9_pays_88, rX9_pays_89, rX9_pays_92, rX9_pays_93, rX9_pays_96, rX9_pays_98, rX9_pays_100, rX9_pays_103, rX9_pays_105, rX9_pays_107, rX9_pays_108, rX9_pays_111, rX9_pays_112, rX9_pays_113, rX9_pays_117, rX9_pays_120, rX9_pays_122, rX9_pays_123, rX9_pays_126, rX9_pays_128, rX9_pays_129, rX9_pays_132, rX9_pays_133, rX9_pays_136, rX9_pays_138, rX9_pays_139, rX9_pays_142, rX9_pays_144, rX9_pays_147, rX9_pays_149, rX9_pays_151, rX9_pays_154, rX9_pays_159, rX9_pays_161, rX9_pays_163, rX9_pays_166, rX9_pays_167, rX9_pays_170, rX9_pays_171, rX9_pays_173, rX9_pays_174, rX9_pays_176, rX9_pays_178, rX9_pays_179, rX9_pays_182, rX9_pays_183, rX9_pays_186, rX9_pays_189, rX9_pays_190, rX9_pays_193, rX9_pays_194, rX9_pays_195, rX9_pays_196, rX9_pays_197, rX9_pays_199, rX9_pays_200, rX9_pays_201, rX9_pays_202, rX9_pays_205, rX9_pays_207, rX9_pays_208, rX9_pays_209, rX9_pays_210, rX9_pays_211, rX9_pays_213, rX9_pays_215, rX9_pays_216, rX9_pays_217, rX9_pays_218, true_and, and_true, true_or, or_true, false_or, or_false, Option.toList_some, Option.toList_none, List.nil_append, List.cons_append, zn1, kM hG, ix4 (show k ≤ 8 by omega), a1, a2, a3, kX9_dueOf hG]
  refine ⟨by omega, by omega, by omega, by omega, ?_⟩
  generalize hi : x.1 = i at *
  generalize hj : x.2.1 = j at *
  generalize hdd : zdue (H 130 6) x.2.2.1 = due at *
  have hwi := hw.1 i i0 (by omega)
  by_cases c0 : H 134 i = 0
  · rw [if_neg (fun z => z c0)]
    refine hq H (fun _ _ _ => rfl) (fun _ _ => rfl) ?_
    unfold mpay1
    rw [if_neg (by show ¬ 0 < H 134 x.1; rw [hi]; omega)]
    exact agS.rf
  · rw [if_pos c0]
    have a0 := sask_rng (kind := H 130 7) (w := H 134) (j := j) (due := due) (by omega)
    have s1 := sp1_rng (kind := H 130 7) (j := j) (due := due) P1 hw (by omega)
    have key : ∀ p w, p = sp1 (H 130 4) (H 130 7) (H 134) j due → w = sw1 (H 130 4) (H 130 7) (H 134) i j due → zRun qX9_pays 86 [vr 130, vi (k : Int), vi i, vi j, vi due, vu, vu, vu] [vi p] G (zset H 134 w) Q' := by
      intro p w hp hww
      refine mpay_tail hG ?_ ?_ ?_ (by omega) (by omega) i0 (by omega) ?_ ?_ (by omega) (by omega) (by rw [hp]; exact s1.1) (by rw [hp]; exact s1.2) ?_
      · simp only [zset_at, show ¬ (130 = 134) by omega, if_false]
        exact P0
      · simp only [zset_at, show ¬ (130 = 134) by omega, if_false]
        exact P1
      · simp only [zset_at, if_true]
        rw [hww]
        exact sw1_ok P1 hw i0 (by omega) (by omega)
      · simp only [zset_at, show ¬ (139 = 134) by omega, if_false]
        rw [a5]
        exact m0
      · simp only [zset_at, show ¬ (139 = 134) by omega, if_false]
        rw [a5]
        exact m1
      · simp only [zset_at, show ¬ (130 = 134) by omega, show ¬ (139 = 134) by omega, show ¬ (140 = 134) by omega, if_true, if_false, zset_over, a5]
        intro v hv w2 hw2
        have ev : v = sp2 (H 130 4) (H 130 7) (H 134) i j due := by
          rw [hv, hww, hp]
          rfl
        have ew : w2 = sw2 (H 130 4) (H 130 7) (H 134) i j due := by
          rw [hw2, hww, ev]
          rfl
        have eL : ∀ q : Int, 6 ≤ q → w2 q = H 134 q := by
          intro q hq6
          rw [ew]
          have e1 : sw1 (H 130 4) (H 130 7) (H 134) i j due q = H 134 q := by
            unfold sw1 smv
            rw [zfu_at, if_neg (by omega), zfu_at, if_neg (by omega)]
          unfold sw2
          split
          · have hor := soth_rng (w := sw1 (H 130 4) (H 130 7) (H 134) i j due) (i := i) (j := j) P1
            unfold smv
            rw [zfu_at, if_neg (by omega), zfu_at, if_neg (by omega)]
            exact e1
          · exact e1
        have epd : p + v = spaid (H 130 4) (H 130 7) (H 134) i j due := by
          rw [hp, ev]
          rfl
        rw [epd]
        refine hq _ (fun b b1 b2 => ?_) (fun q q0 => ?_) ⟨fun q q0 q1 => ?_, fun q q0 q1 => ?_⟩
        · rw [zset_ne b1, zset_ne b2]
        · rw [zset_eq, zfu_at, if_neg (by omega), eL q (by omega)]
        · unfold mpay1 mS
          dsimp only
          rw [hi, hj, if_pos (by omega), zset_eq, zfu_at, if_neg (by omega), zfu_at, hdd]
          dsimp only
          rw [zfu_at]
          refine ⟨by rw [ew], ?_⟩
          by_cases c : q = i
          · subst c
            rw [if_pos rfl, if_pos rfl, eL _ (by omega)]
          · rw [if_neg (by omega), if_neg c, eL _ (by omega)]
        · unfold mpay1 mS
          dsimp only
          rw [hi, hj, if_pos (by omega), zset_ne (by omega), zset_eq, hdd]
    have key0 : sask (H 130 7) (H 134) j due = 0 → zRun qX9_pays 86 [vr 130, vi (k : Int), vi i, vi j, vi due, vu, vu, vu] [vi 0] G H Q' := by
      intro h0
      have e1 : sp1 (H 130 4) (H 130 7) (H 134) j due = 0 := by
        have := sgv_rng (g := j) (a := 0) P1 hw.le (by omega)
        unfold sp1
        rw [h0]
        omega
      have e2 : sw1 (H 130 4) (H 130 7) (H 134) i j due = H 134 := by
        unfold sw1
        rw [e1, smv_0]
      have := key 0 (H 134) e1.symm e2.symm
      rw [zset_self] at this
      exact this
    have keyd : sask (H 130 7) (H 134) j due = due → zCall qX9_gives [vr 130, vi j, vi i, vi due] G H (fun r G H => zRun qX9_pays 86 [vr 130, vi (k : Int), vi i, vi j, vi due, vu, vu, vu] (r.toList ++ []) G H Q') := by
      intro h0
      rw [kX9_gives hG P1 hw.le j0 j1 i0 (by omega) (by omega) (by omega)]
      simp only [true_and, and_true, true_or, or_true, false_or, or_false, Option.toList_some, Option.toList_none, List.nil_append, List.cons_append, zn1]
      refine key _ _ ?_ ?_
      · unfold sp1
        rw [h0]
      · unfold sw1 sp1
        rw [h0]
    unfold sask at key0 keyd
    by_cases c1 : H 130 7 = 1
    · rw [if_neg (fun z => z c1)]
      refine ⟨by omega, ?_⟩
      by_cases c2 : H 134 j ≤ due
      · rw [if_pos c2]
        exact key0 (by rw [if_pos ⟨c1, c2⟩])
      · rw [if_neg c2]
        exact keyd (by rw [if_neg (fun z => c2 z.2)])
    · rw [if_pos c1]
      exact keyd (by rw [if_neg (fun z => c1 z.1)])
