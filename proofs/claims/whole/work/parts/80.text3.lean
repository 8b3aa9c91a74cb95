/-! terms are read: the model -/
def bat (t : Int → Int) (len : Nat) (p : Nat) : Int := if p < len then t p else -1
theorem kX9_byteAt {len p : Nat} {G : zG} {H : zH} {Q : Option zV → zG → zH → Prop} (hG : zOK G) (hl : H 130 2 = (len : Int)) (h3 : len ≤ 300) : zCall qX9_byteAt [vr 130, vi (p : Int)] G H Q ↔ Q (some (vi (bat (H 131) len p))) G H := by
  refine zCall_det (fun Q' hq => ?_)
  rw [rX9_byteAt_in]
  simp only [rX9_byteAt_0, rX9_byteAt_1, rX9_byteAt_2, rX9_byteAt_5, rX9_byteAt_8, rX9_byteAt_9, rX9_byteAt_12, rX9_byteAt_13, rX9_byteAt_14, rX9_byteAt_17, rX9_byteAt_18, true_and, and_true, true_or, or_true, false_or, or_false, Option.toList_some, Option.toList_none, List.nil_append, List.cons_append, zn1, kM hG, hl]
  unfold bat at hq
  by_cases c : p < len
  · rw [if_pos c] at hq
    rw [if_neg (by omega)]
    exact ⟨by omega, hq⟩
  · rw [if_neg c] at hq
    rw [if_pos (by omega)]
    exact hq
def dM (H : zH) (D : zD) : Prop := H 132 0 = (D.1 : Int) ∧ (∀ p : Int, 0 ≤ p → p < (D.1 : Int) → H 132 (1 + p) = D.2.1 p) ∧ H 132 7 = D.2.2.1 ∧ H 132 8 = D.2.2.2.1 ∧ H 132 9 = D.2.2.2.2
theorem kX9_isWell {D : zD} {c v : Int} {G : zG} {H : zH} {Q' : Option zV → zG → zH → Prop} (hG : zOK G) (hD : H 132 0 = (D.1 : Int)) (v0 : 0 ≤ v) (v1 : v ≤ 999)
    (hqy : well D c v → Q' (some (vi 1)) G H) (hqn : ¬ well D c v → Q' (some (vi 0)) G H) : zCall qX9_isWell [vr 130, vi c, vi v] G H Q' := by
  have c10 : (0 : Int) ≤ 0 ∧ (0 : Int) < 10 := by omega
  rw [rX9_isWell_in]
  simp only [rX9_isWell_0, rX9_isWell_1, rX9_isWell_3, rX9_isWell_6, rX9_isWell_7, rX9_isWell_8, rX9_isWell_11, rX9_isWell_14, rX9_isWell_17, rX9_isWell_18, rX9_isWell_21, rX9_isWell_22, rX9_isWell_23, rX9_isWell_25, rX9_isWell_28, rX9_isWell_29, rX9_isWell_32, rX9_isWell_33, rX9_isWell_34, rX9_isWell_35, rX9_isWell_37, rX9_isWell_40, rX9_isWell_41, rX9_isWell_43, rX9_isWell_46, rX9_isWell_47, rX9_isWell_50, rX9_isWell_51, rX9_isWell_54, rX9_isWell_55, rX9_isWell_57, rX9_isWell_60, rX9_isWell_61, rX9_isWell_62, rX9_isWell_65, rX9_isWell_66, rX9_isWell_69, rX9_isWell_70, rX9_isWell_73, rX9_isWell_74, rX9_isWell_76, rX9_isWell_79, rX9_isWell_80, rX9_isWell_81, rX9_isWell_84, rX9_isWell_85, rX9_isWell_88, rX9_isWell_89, true_and, and_true, true_or, or_true, false_or, or_false, Option.toList_some, Option.toList_none, List.nil_append, List.cons_append, zn1, kM hG, kX9_in, bi_eq0, hD, c10]
  unfold well at hqy hqn
  by_cases c0 : c = 112
  · rw [if_neg (fun z => z c0)]
    by_cases cv : 1 ≤ v ∧ v ≤ 999
    · rw [if_neg (fun z => z cv)]
      by_cases cp : (6 : Int) ≤ (D.1 : Int)
      · rw [if_pos cp]
        exact hqn (by omega)
      · rw [if_neg cp]
        exact hqy (by omega)
    · rw [if_pos cv]
      exact hqn (by omega)
  · rw [if_pos c0]
    by_cases c1 : c = 114
    · rw [if_neg (fun z => z c1)]
      by_cases cv : 100 ≤ v
      · rw [if_pos cv]
        exact hqn (by omega)
      · rw [if_neg cv]
        exact hqy (by omega)
    · rw [if_pos c1]
      by_cases c2 : c = 107
      · rw [if_neg (fun z => z c2)]
        by_cases cv : 4 ≤ v
        · rw [if_pos cv]
          exact hqn (by omega)
        · rw [if_neg cv]
          exact hqy (by omega)
      · rw [if_pos c2]
        by_cases c3 : c = 110
        · rw [if_neg (fun z => z c3)]
          by_cases cv : 3 ≤ v
          · rw [if_pos cv]
            exact hqn (by omega)
          · rw [if_neg cv]
            exact hqy (by omega)
        · rw [if_pos c3]
          exact hqn (by omega)
theorem prs_congr {t t' : Int → Int} {len : Nat} (h : ∀ k : Nat, k < len → t k = t' k) : ∀ (f a : Nat) (D : zD), prs t len f a D = prs t' len f a D := by
  have hs : ∀ (f p : Nat) (v : Int), scan t len f p v = scan t' len f p v := by
    intro f
    induction f with
    | zero => intro p v; rfl
    | succ f ih =>
      intro p v
      rw [scan, scan]
      by_cases c : p < len
      · rw [h p c]
        split
        · exact ih _ _
        · rfl
      · rw [if_neg (fun z => c z.1), if_neg (fun z => c z.1)]
  intro f
  induction f with
  | zero => intro a D; rfl
  | succ f ih =>
    intro a D
    by_cases c : a < len
    · have hi : itok t len a D ↔ itok t' len a D := by
        unfold itok
        rw [hs, h a c]
        constructor
        · rintro ⟨⟨x1, x2, x3⟩, x4⟩
          exact ⟨⟨x1, x2, by rw [← h _ x2]; exact x3⟩, x4⟩
        · rintro ⟨⟨x1, x2, x3⟩, x4⟩
          exact ⟨⟨x1, x2, by rw [h _ x2]; exact x3⟩, x4⟩
      by_cases c2 : itok t len a D
      · rw [prs_y c c2, prs_y c (hi.mp c2), hs, h a c, ih]
      · rw [prs_n c c2, prs_n c (fun z => c2 (hi.mpr z))]
    · rw [prs_e c, prs_e c]
theorem kX9_faultOf {len : Nat} {G : zG} {H : zH} {Q' : Option zV → zG → zH → Prop} (hG : zOK G) (hl : H 130 2 = (len : Int)) (h3 : len ≤ 300) (hb : ∀ k : Int, 0 ≤ k → k < (len : Int) → 0 ≤ H 131 k ∧ H 131 k ≤ 255)
    (hq : ∀ H' : zH, (∀ b, b ≠ 132 → H' b = H b) → ((prs (H 131) len 301 0 D0).1 = -4 → dM H' (prs (H 131) len 301 0 D0).2) → Q' (some (vi (prs (H 131) len 301 0 D0).1)) G H') : zCall qX9_faultOf [vr 130] G H Q' := by
  have loop : ∀ (f a : Nat) (D : zD) (H1 : zH) (v2 v3 v4 : zV), 300 ≤ a + f → a ≤ 304 → DOK D → dM H1 D → (∀ b, b ≠ 132 → H1 b = H b) → zn1 v2 → zn1 v3 → prs (H 131) len (f + 1) a D = prs (H 131) len 301 0 D0 → zRun qX9_faultOf 34 [vr 130, vi (a : Int), v2, v3, v4] [] G H1 Q' := by
    intro f
    induction f with
    | zero =>
      intro a D H1 v2 v3 v4 hf ha hD hM f1 _ _ hp
      have k1 : H1 130 2 = (len : Int) := by rw [f1 130 (by omega)]; exact hl
      have na : ¬ a < len := by omega
      rw [prs_e na] at hp
      rw [← hp] at hq
      rw [rX9_faultOf_34]
      simp only [rX9_faultOf_35, rX9_faultOf_36, rX9_faultOf_39, rX9_faultOf_198, rX9_faultOf_200, true_and, and_true, true_or, or_true, false_or, or_false, Option.toList_some, Option.toList_none, List.nil_append, List.cons_append, zn1, kM hG, k1]
      rw [if_pos (by omega)]
      exact hq H1 f1 (fun _ => hM)
    | succ f ih =>
      intro a D H1 v2 v3 v4 hf ha hD hM f1 _ _ hp
      have k1 : H1 130 2 = (len : Int) := by rw [f1 130 (by omega)]; exact hl
      have k131 : H1 131 = H 131 := f1 131 (by omega)
      by_cases ca : a < len
      · have hsc := scan_ge (t := H 131) (len := len) 3 (a + 1) 0
        have hsv := scan_rng (t := H 131) (len := len) (p := a + 1)
        have hba := fun p Q2 => kX9_byteAt (G := G) (H := H1) (Q := Q2) (p := p) hG k1 h3
        rw [k131] at hba
        have eba : bat (H 131) len a = H 131 a := if_pos ca
        -- behind the figures
        have fin : ∀ (p : Nat) (v : Int), (p, v) = scan (H 131) len 3 (a + 1) 0 → zRun qX9_faultOf 99 [vr 130, vi (a : Int), vi (H 131 a), vi (p : Int), vi v] [] G H1 Q' := by
          intro p v hpv
          have e1 : (scan (H 131) len 3 (a + 1) 0).1 = p := by rw [← hpv]
          have e2 : (scan (H 131) len 3 (a + 1) 0).2 = v := by rw [← hpv]
          rw [e1] at hsc
          rw [e2] at hsv
          have bad : ¬ itok (H 131) len a D → Q' (some (vi (a : Int))) G H1 := by
            intro hw
            rw [prs_n ca hw] at hp
            rw [← hp] at hq
            refine hq H1 f1 (fun z => ?_)
            have z : (a : Int) = -4 := z
            omega
          simp only [rX9_faultOf_99, rX9_faultOf_100, rX9_faultOf_101, rX9_faultOf_102, rX9_faultOf_103, rX9_faultOf_106, rX9_faultOf_107, rX9_faultOf_108, rX9_faultOf_111, rX9_faultOf_113, rX9_faultOf_116, rX9_faultOf_117, rX9_faultOf_118, rX9_faultOf_120, rX9_faultOf_126, rX9_faultOf_127, true_and, and_true, true_or, or_true, false_or, or_false, Option.toList_some, Option.toList_none, List.nil_append, List.cons_append, zn1, kM hG, hba, zwk (show a < 2000000000 by omega)]
          by_cases c1 : (p : Int) = ((a + 1 : Nat) : Int)
          · rw [if_pos c1]
            exact bad (fun z => by have := z.1.1; omega)
          · rw [if_neg c1]
            by_cases c2 : bat (H 131) len p = 59
            · rw [if_neg (fun z => z c2)]
              have c3 : p < len ∧ H 131 p = 59 := by
                unfold bat at c2
                by_cases cp : p < len
                · rw [if_pos cp] at c2
                  exact ⟨cp, c2⟩
                · rw [if_neg cp] at c2
                  omega
              refine kX9_isWell hG hM.1 hsv.1 hsv.2 (fun hw => ?_) (fun hw => ?_)
              · have hit : itok (H 131) len a D := by
                  refine ⟨?_, by rw [e2]; exact hw⟩
                  rw [e1]
                  exact ⟨by omega, c3.1, c3.2⟩
                rw [prs_y ca hit, e1, e2] at hp
                obtain ⟨d1, d2, d3, d4, d5⟩ := hM
                have hD' := updD_ok hD hsv.1 hw
                have next : ∀ H2 : zH, (∀ b, b ≠ 132 → H2 b = H b) → dM H2 (updD D (H 131 a) v) → zRun qX9_faultOf 191 [vr 130, vi (a : Int), vi (H 131 a), vi (p : Int), vi v] [] G H2 Q' := by
                  intro H2 f2 m2
                  simp only [rX9_faultOf_191, rX9_faultOf_192, rX9_faultOf_193, rX9_faultOf_194, rX9_faultOf_195, true_and, and_true, true_or, or_true, false_or, or_false, Option.toList_some, Option.toList_none, List.nil_append, List.cons_append, zn1, zwk (show p < 2000000000 by omega)]
                  exact ih (p + 1) _ H2 _ _ _ (by omega) (by omega) hD' m2 f2 trivial trivial hp
                unfold updD at next
                simp only [rX9_faultOf_123, rX9_faultOf_128, rX9_faultOf_129, rX9_faultOf_131, rX9_faultOf_134, rX9_faultOf_135, rX9_faultOf_138, rX9_faultOf_139, rX9_faultOf_140, rX9_faultOf_141, rX9_faultOf_142, rX9_faultOf_143, rX9_faultOf_144, rX9_faultOf_145, rX9_faultOf_148, rX9_faultOf_149, rX9_faultOf_152, rX9_faultOf_153, rX9_faultOf_154, rX9_faultOf_156, rX9_faultOf_157, rX9_faultOf_160, rX9_faultOf_161, rX9_faultOf_164, rX9_faultOf_165, rX9_faultOf_167, rX9_faultOf_170, rX9_faultOf_172, rX9_faultOf_175, rX9_faultOf_176, rX9_faultOf_178, rX9_faultOf_181, rX9_faultOf_183, rX9_faultOf_186, rX9_faultOf_188, rX9_faultOf_190, true_and, and_true, true_or, or_true, false_or, or_false, Option.toList_some, Option.toList_none, List.nil_append, List.cons_append, zn1, kM hG, zup_def, zset_set, zset_eq, zfu_at, reduceIte, d1, zwk (show D.1 < 2000000000 by have := hD.1.1; omega)]
                rw [if_pos (by omega)]
                have d6 := hD.1.1
                generalize H 131 a = c at *
                rcases hw with ⟨rfl, hv, h6⟩ | ⟨rfl, hv⟩ | ⟨rfl, hv⟩ | ⟨rfl, hv⟩
                · rw [if_neg (fun z => z rfl)]
                  rw [if_pos rfl] at next
                  refine ⟨by omega, by omega, by omega, by omega, next _ (fun b hb => by rw [zset_ne hb]; exact f1 b hb) ⟨?_, fun q q0 q1 => ?_, ?_, ?_, ?_⟩⟩
                  · rw [zset_eq, zfu_at, if_neg (by omega), zfu_at, if_pos rfl]
                  · have q1 : q < ((D.1 + 1 : Nat) : Int) := q1
                    rw [zset_eq]
                    show _ = zfu D.2.1 D.1 v q
                    simp only [zfu_at]
                    by_cases cq : q = D.1
                    · rw [if_pos (show 1 + q = ((D.1 + 1 : Nat) : Int) by omega), if_pos cq]
                    · rw [if_neg (show ¬ 1 + q = ((D.1 + 1 : Nat) : Int) by omega), if_neg (show ¬ 1 + q = 0 by omega), if_neg cq]
                      exact d2 q q0 (by omega)
                  · rw [zset_eq, zfu_at, if_neg (by omega), zfu_at, if_neg (by omega)]; exact d3
                  · rw [zset_eq, zfu_at, if_neg (by omega), zfu_at, if_neg (by omega)]; exact d4
                  · rw [zset_eq, zfu_at, if_neg (by omega), zfu_at, if_neg (by omega)]; exact d5
                · rw [if_pos (by omega), if_neg (fun z => z rfl)]
                  rw [if_neg (by omega), if_pos rfl] at next
                  refine ⟨by omega, next _ (fun b hb => by rw [zset_ne hb]; exact f1 b hb) ⟨?_, fun q q0 q1 => ?_, ?_, ?_, ?_⟩⟩
                  · rw [zset_eq, zfu_at, if_neg (by omega)]; exact d1
                  · have q1 : q < ((D.1 : Nat) : Int) := q1
                    rw [zset_eq, zfu_at, if_neg (by omega)]; exact d2 q q0 q1
                  · rw [zset_eq, zfu_at, if_pos rfl]
                  · rw [zset_eq, zfu_at, if_neg (by omega)]; exact d4
                  · rw [zset_eq, zfu_at, if_neg (by omega)]; exact d5
                · rw [if_pos (by omega), if_pos (by omega), if_neg (fun z => z rfl)]
                  rw [if_neg (by omega), if_neg (by omega), if_pos rfl] at next
                  refine ⟨by omega, next _ (fun b hb => by rw [zset_ne hb]; exact f1 b hb) ⟨?_, fun q q0 q1 => ?_, ?_, ?_, ?_⟩⟩
                  · rw [zset_eq, zfu_at, if_neg (by omega)]; exact d1
                  · have q1 : q < ((D.1 : Nat) : Int) := q1
                    rw [zset_eq, zfu_at, if_neg (by omega)]; exact d2 q q0 q1
                  · rw [zset_eq, zfu_at, if_neg (by omega)]; exact d3
                  · rw [zset_eq, zfu_at, if_pos rfl]
                  · rw [zset_eq, zfu_at, if_neg (by omega)]; exact d5
                · rw [if_pos (by omega), if_pos (by omega), if_pos (by omega)]
                  rw [if_neg (by omega), if_neg (by omega), if_neg (by omega)] at next
                  refine ⟨by omega, next _ (fun b hb => by rw [zset_ne hb]; exact f1 b hb) ⟨?_, fun q q0 q1 => ?_, ?_, ?_, ?_⟩⟩
                  · rw [zset_eq, zfu_at, if_neg (by omega)]; exact d1
                  · have q1 : q < ((D.1 : Nat) : Int) := q1
                    rw [zset_eq, zfu_at, if_neg (by omega)]; exact d2 q q0 q1
                  · rw [zset_eq, zfu_at, if_neg (by omega)]; exact d3
                  · rw [zset_eq, zfu_at, if_neg (by omega)]; exact d4
                  · rw [zset_eq, zfu_at, if_pos rfl]
              · simp only [rX9_faultOf_123, rX9_faultOf_126, rX9_faultOf_127, true_and, and_true, true_or, or_true, false_or, or_false, Option.toList_some, Option.toList_none, List.nil_append, List.cons_append, zn1]
                rw [if_neg (by omega)]
                exact bad (fun z => hw (by rw [← e2]; exact z.2))
            · rw [if_pos c2]
              refine bad (fun z => c2 ?_)
              have := z.1.2
              rw [e1] at this
              unfold bat
              rw [if_pos this.1]
              exact this.2
        have figs : ∀ (g p : Nat) (v : Int), g ≤ 3 → p + g = a + 4 → (0 ≤ v ∧ v ≤ 999) → (g = 3 → v = 0) → (g = 2 → v ≤ 9) → (g = 1 → v ≤ 99) → scan (H 131) len g p v = scan (H 131) len 3 (a + 1) 0 → zRun qX9_faultOf 55 [vr 130, vi (a : Int), vi (H 131 a), vi (p : Int), vi v] [] G H1 Q' := by
          intro g
          induction g with
          | zero =>
            intro p v hg hp hv _ _ _ hs
            have e := fin p v hs
            rw [rX9_faultOf_55]
            simp only [rX9_faultOf_56, rX9_faultOf_57, rX9_faultOf_60, rX9_faultOf_62, rX9_faultOf_64, rX9_faultOf_67, rX9_faultOf_70, rX9_faultOf_71, rX9_faultOf_72, rX9_faultOf_73, rX9_faultOf_74, true_and, and_true, true_or, or_true, false_or, or_false, Option.toList_some, Option.toList_none, List.nil_append, List.cons_append, zn1, kM hG, hba, kX9_in, bi_eq0, zw_id (z := (a : Int) + 4) (by omega) (by omega)]
            by_cases c : 48 ≤ bat (H 131) len p ∧ bat (H 131) len p ≤ 57
            · rw [if_neg (fun z => z c), if_pos (by omega)]
              exact e
            · rw [if_pos c]
              exact e
          | succ g ihg =>
            intro p v hg hp hv g3 g2 g1 hs
            rw [scan] at hs
            have hcond : (48 ≤ bat (H 131) len p ∧ bat (H 131) len p ≤ 57) ↔ (p < len ∧ (48 ≤ H 131 p ∧ H 131 p ≤ 57)) := by
              unfold bat
              by_cases cp : p < len
              · rw [if_pos cp]
                exact ⟨fun z => ⟨cp, z⟩, fun z => z.2⟩
              · rw [if_neg cp]
                omega
            rw [rX9_faultOf_55]
            simp only [rX9_faultOf_56, rX9_faultOf_57, rX9_faultOf_60, rX9_faultOf_62, rX9_faultOf_64, rX9_faultOf_67, rX9_faultOf_70, rX9_faultOf_71, rX9_faultOf_72, rX9_faultOf_73, rX9_faultOf_74, rX9_faultOf_77, rX9_faultOf_79, rX9_faultOf_81, rX9_faultOf_82, rX9_faultOf_83, rX9_faultOf_84, rX9_faultOf_87, rX9_faultOf_88, rX9_faultOf_90, rX9_faultOf_91, rX9_faultOf_93, rX9_faultOf_96, true_and, and_true, true_or, or_true, false_or, or_false, Option.toList_some, Option.toList_none, List.nil_append, List.cons_append, zn1, kM hG, hba, kX9_in, bi_eq0, zw_id (z := (a : Int) + 4) (by omega) (by omega), zwk (show p < 2000000000 by omega)]
            by_cases c : 48 ≤ bat (H 131) len p ∧ bat (H 131) len p ≤ 57
            · have c' := hcond.mp c
              have eb : bat (H 131) len p = H 131 p := if_pos c'.1
              rw [if_pos c'] at hs
              have := ihg (p + 1) _ (by omega) (by omega) (by omega) (by omega) (by omega) (by omega) hs
              rw [if_neg (fun z => z c), if_neg (by omega), eb, zw_id (z := 10 * v) (by omega) (by omega), zw_id (z := 10 * v + H 131 p) (by omega) (by omega), zw_id (z := 10 * v + H 131 p - 48) (by omega) (by omega)]
              exact this
            · rw [if_neg (fun z => c (hcond.mpr z))] at hs
              rw [if_pos c]
              exact fin p v hs
        have go := figs 3 (a + 1) 0 (by omega) (by omega) (by omega) (fun _ => rfl) (by omega) (by omega) rfl
        rw [rX9_faultOf_34]
        simp only [rX9_faultOf_35, rX9_faultOf_36, rX9_faultOf_39, rX9_faultOf_42, rX9_faultOf_43, rX9_faultOf_44, rX9_faultOf_47, rX9_faultOf_48, rX9_faultOf_49, rX9_faultOf_50, rX9_faultOf_51, rX9_faultOf_52, rX9_faultOf_53, true_and, and_true, true_or, or_true, false_or, or_false, Option.toList_some, Option.toList_none, List.nil_append, List.cons_append, zn1, kM hG, k1, hba, eba, zwk (show a < 2000000000 by omega)]
        rw [if_neg (by omega)]
        exact go
      · rw [prs_e ca] at hp
        rw [← hp] at hq
        rw [rX9_faultOf_34]
        simp only [rX9_faultOf_35, rX9_faultOf_36, rX9_faultOf_39, rX9_faultOf_198, rX9_faultOf_200, true_and, and_true, true_or, or_true, false_or, or_false, Option.toList_some, Option.toList_none, List.nil_append, List.cons_append, zn1, kM hG, k1]
        rw [if_pos (by omega)]
        exact hq H1 f1 (fun _ => hM)
  have b0 : (0 : Int) ≤ 0 ∧ (0 : Int) < 10 := by omega
  have b7 : (0 : Int) ≤ 7 ∧ (7 : Int) < 10 := by omega
  have b8 : (0 : Int) ≤ 8 ∧ (8 : Int) < 10 := by omega
  have b9 : (0 : Int) ≤ 9 ∧ (9 : Int) < 10 := by omega
  rw [rX9_faultOf_in]
  simp only [rX9_faultOf_0, rX9_faultOf_1, rX9_faultOf_4, rX9_faultOf_5, rX9_faultOf_6, rX9_faultOf_7, rX9_faultOf_8, rX9_faultOf_11, rX9_faultOf_13, rX9_faultOf_15, rX9_faultOf_16, rX9_faultOf_17, rX9_faultOf_20, rX9_faultOf_22, rX9_faultOf_23, rX9_faultOf_24, rX9_faultOf_25, rX9_faultOf_28, rX9_faultOf_30, rX9_faultOf_31, rX9_faultOf_32, rX9_faultOf_33, true_and, and_true, true_or, or_true, false_or, or_false, Option.toList_some, Option.toList_none, List.nil_append, List.cons_append, zn1, kM hG, zup_def, zset_set, zset_eq, b0, b7, b8, b9]
  refine loop 300 0 D0 _ vu vu vu (by omega) (by omega) D0_ok ⟨?_, fun p p0 p1 => ?_, ?_, ?_, ?_⟩ (fun b hb => by rw [zset_ne hb]) trivial trivial rfl
  · rw [zset_eq, zfu_at, if_neg (by omega), zfu_at, if_neg (by omega), zfu_at, if_neg (by omega), zfu_at, if_pos rfl]
    rfl
  · have p1 : p < ((0 : Nat) : Int) := p1
    omega
  · rw [zset_eq, zfu_at, if_neg (by omega), zfu_at, if_neg (by omega), zfu_at, if_pos rfl]
    rfl
  · rw [zset_eq, zfu_at, if_neg (by omega), zfu_at, if_pos rfl]
    rfl
  · rw [zset_eq, zfu_at, if_pos rfl]
    rfl
