/-! terms are read: the class -/
theorem kTm5 {G : zG} (hG : zOK G) : zC G 5 4 ∧ zR G 5 0 = 6 ∧ zlt G 6 ∧ zC G 6 100 ∧ zlen G 6 = 6 := kT hG tm5
theorem kX4_accept {D : zD} {c v : Int} {G : zG} {H : zH} {Q' : Option zV → zG → zH → Prop} (hG : zOK G) (hD : dC H D) (h6 : D.1 ≤ 6) (v0 : 0 ≤ v) (v1 : v ≤ 999)
    (hqy : well D c v → ∀ H' : zH, (∀ b, b ≠ 5 → b ≠ 6 → H' b = H b) → dC H' (updD D c v) → Q' (some (vi 1)) G H') (hqn : ¬ well D c v → ∀ H' : zH, (∀ b, b ≠ 5 → b ≠ 6 → H' b = H b) → Q' (some (vi 0)) G H') : zCall qX4_accept [vr 5, vi c, vi v] G H Q' := by
  obtain ⟨d1, d2, d3, d4, d5⟩ := hD
  unfold updD at hqy
  have bib : ∀ (P : Prop) [Decidable P], (bi P = 0 ∨ bi P = 1) = True := fun P _ => by
    unfold bi
    split <;> simp
  have bad : ¬ well D c v → Q' (some (vi 0)) G H := fun z => hqn z H (fun _ _ _ => rfl)
  rw [rX4_accept_in]
  simp only [rX4_accept_0, rX4_accept_1, rX4_accept_48, rX4_accept_49, rX4_accept_50, rX4_accept_53, rX4_accept_54, rX4_accept_55, rX4_accept_56, rX4_accept_59, rX4_accept_60, rX4_accept_61, rX4_accept_63, rX4_accept_66, rX4_accept_67, rX4_accept_68, rX4_accept_69, rX4_accept_72, rX4_accept_73, rX4_accept_74, rX4_accept_75, rX4_accept_78, rX4_accept_79, rX4_accept_80, rX4_accept_81, rX4_accept_84, rX4_accept_85, rX4_accept_86, rX4_accept_87, rX4_accept_90, rX4_accept_91, rX4_accept_92, true_and, and_true, true_or, or_true, false_or, or_false, Option.toList_some, Option.toList_none, List.nil_append, List.cons_append, zn1, kTm5 hG, kX8_within, zup_def, bib]
  by_cases c0 : c = 107
  · rw [if_pos c0]
    subst c0
    rw [if_neg (by omega), if_neg (by omega), if_pos rfl] at hqy
    by_cases cv : 0 ≤ v ∧ v ≤ 3
    · rw [bi_t cv]
      refine hqy (Or.inr (Or.inr (Or.inl ⟨rfl, by omega⟩))) _ (fun b x1 x2 => by rw [zset_ne x1]) ⟨?_, fun p p0 p1 => ?_, ?_, ?_, ?_⟩
      · rw [zset_eq, zfu_at, if_neg (by omega)]; exact d1
      · rw [zset_ne (by omega)]; exact d2 p p0 p1
      · rw [zset_eq, zfu_at, if_neg (by omega)]; exact d3
      · rw [zset_eq, zfu_at, if_pos rfl]
      · rw [zset_eq, zfu_at, if_neg (by omega)]; exact d5
    · rw [bi_f cv]
      exact hqn (fun z => by unfold well at z; omega) _ (fun b x1 x2 => by rw [zset_ne x1])
  · rw [if_neg c0]
    by_cases c1 : c = 108
    · rw [if_pos c1]
      exact bad (fun z => by unfold well at z; omega)
    · rw [if_neg c1]
      by_cases c2 : c = 109
      · rw [if_pos c2]
        exact bad (fun z => by unfold well at z; omega)
      · rw [if_neg c2]
        by_cases c3 : c = 110
        · rw [if_pos c3]
          subst c3
          rw [if_neg (by omega), if_neg (by omega), if_neg (by omega)] at hqy
          by_cases cv : 0 ≤ v ∧ v ≤ 2
          · rw [bi_t cv]
            refine hqy (Or.inr (Or.inr (Or.inr ⟨rfl, by omega⟩))) _ (fun b x1 x2 => by rw [zset_ne x1]) ⟨?_, fun p p0 p1 => ?_, ?_, ?_, ?_⟩
            · rw [zset_eq, zfu_at, if_neg (by omega)]; exact d1
            · rw [zset_ne (by omega)]; exact d2 p p0 p1
            · rw [zset_eq, zfu_at, if_neg (by omega)]; exact d3
            · rw [zset_eq, zfu_at, if_neg (by omega)]; exact d4
            · rw [zset_eq, zfu_at, if_pos rfl]
          · rw [bi_f cv]
            exact hqn (fun z => by unfold well at z; omega) _ (fun b x1 x2 => by rw [zset_ne x1])
        · rw [if_neg c3]
          by_cases c4 : c = 111
          · rw [if_pos c4]
            exact bad (fun z => by unfold well at z; omega)
          · rw [if_neg c4]
            by_cases c5 : c = 112
            · rw [if_pos c5]
              subst c5
              rw [if_pos rfl] at hqy
              rw [rX4_addPerson_in]
              simp only [rX4_addPerson_0, rX4_addPerson_1, rX4_addPerson_2, rX4_addPerson_5, rX4_addPerson_8, rX4_addPerson_11, rX4_addPerson_12, rX4_addPerson_15, rX4_addPerson_17, rX4_addPerson_20, rX4_addPerson_21, rX4_addPerson_22, rX4_addPerson_23, rX4_addPerson_26, rX4_addPerson_27, rX4_addPerson_30, rX4_addPerson_31, rX4_addPerson_32, rX4_addPerson_33, rX4_addPerson_34, rX4_addPerson_37, rX4_addPerson_38, rX4_addPerson_39, rX4_addPerson_42, rX4_addPerson_43, rX4_accept_53, true_and, and_true, true_or, or_true, false_or, or_false, Option.toList_some, Option.toList_none, List.nil_append, List.cons_append, zn1, kTm5 hG, kX8_within, bi_eq0, d1, zup_def]
              by_cases cv : 1 ≤ v ∧ v ≤ 999
              · rw [if_neg (fun z => z cv)]
                by_cases cp : (D.1 : Int) < 6
                · rw [if_pos cp]
                  simp only [zset_at, Nat.reduceEqDiff, reduceIte, d1, zwk (show D.1 < 2000000000 by omega)]
                  refine ⟨by omega, hqy (Or.inl ⟨rfl, cv, by omega⟩) _ (fun b x1 x2 => by rw [zset_ne x1, zset_ne x2]) ⟨?_, fun p p0 p1 => ?_, ?_, ?_, ?_⟩⟩
                  · rw [zset_eq, zfu_at, if_pos rfl]
                  · have p1 : p < ((D.1 + 1 : Nat) : Int) := p1
                    rw [zset_ne (by omega), zset_eq, zfu_at]
                    show _ = zfu D.2.1 D.1 v p
                    rw [zfu_at]
                    by_cases cc : p = D.1
                    · rw [if_pos cc, if_pos cc]
                    · rw [if_neg cc, if_neg cc]
                      exact d2 p p0 (by omega)
                  · rw [zset_eq, zfu_at, if_neg (by omega)]; exact d3
                  · rw [zset_eq, zfu_at, if_neg (by omega)]; exact d4
                  · rw [zset_eq, zfu_at, if_neg (by omega)]; exact d5
                · rw [if_neg cp]
                  exact bad (fun z => by unfold well at z; omega)
              · rw [if_pos cv]
                exact bad (fun z => by unfold well at z; omega)
            · rw [if_neg c5]
              by_cases c6 : c = 113
              · rw [if_pos c6]
                exact bad (fun z => by unfold well at z; omega)
              · rw [if_neg c6]
                by_cases c7 : c = 114
                · rw [if_pos c7]
                  subst c7
                  rw [if_neg (by omega), if_pos rfl] at hqy
                  by_cases cv : 0 ≤ v ∧ v ≤ 99
                  · rw [bi_t cv]
                    refine hqy (Or.inr (Or.inl ⟨rfl, by omega⟩)) _ (fun b x1 x2 => by rw [zset_ne x1]) ⟨?_, fun p p0 p1 => ?_, ?_, ?_, ?_⟩
                    · rw [zset_eq, zfu_at, if_neg (by omega)]; exact d1
                    · rw [zset_ne (by omega)]; exact d2 p p0 p1
                    · rw [zset_eq, zfu_at, if_pos rfl]
                    · rw [zset_eq, zfu_at, if_neg (by omega)]; exact d4
                    · rw [zset_eq, zfu_at, if_neg (by omega)]; exact d5
                  · rw [bi_f cv]
                    exact hqn (fun z => by unfold well at z; omega) _ (fun b x1 x2 => by rw [zset_ne x1])
                · rw [if_neg c7]
                  exact bad (fun z => by unfold well at z; omega)
/-- nothing said yet -/
def D0 : zD := (0, fun _ => 0, 10, 0, 0)
theorem D0_ok : DOK D0 := ⟨⟨by decide, fun p p0 p1 => by
  have p1 : p < ((0 : Nat) : Int) := p1
  omega⟩, by decide, by decide, by decide⟩
/-- nothing but the draft, and what an item reads -/
def frX (H H' : zH) : Prop := (∀ b, b ≠ 1 → b ≠ 5 → b ≠ 6 → H' b = H b) ∧ H' 1 1 = H 1 1
theorem kX4_readFrom {len : Nat} {G : zG} {H : zH} {Q' : Option zV → zG → zH → Prop} (hG : zOK G) (hl : H 1 1 = (len : Int)) (h3 : len ≤ 300) (hb : ∀ k : Int, 0 ≤ k → k < (len : Int) → 0 ≤ H 2 k ∧ H 2 k ≤ 255)
    (hq : ∀ H' : zH, frX H H' → ((prs (H 2) len 301 0 D0).1 = -4 → dC H' (prs (H 2) len 301 0 D0).2) → Q' (some (vi (prs (H 2) len 301 0 D0).1)) G H') : zCall qX4_readFrom [vr 5, vr 1] G H Q' := by
  have loop : ∀ (f a : Nat) (D : zD) (H1 : zH), 300 ≤ a + f → a ≤ 304 → DOK D → dC H1 D → frX H H1 → prs (H 2) len (f + 1) a D = prs (H 2) len 301 0 D0 → zRun qX4_readFrom 6 [vr 5, vr 1, vi (a : Int)] [] G H1 Q' := by
    intro f
    induction f with
    | zero =>
      intro a D H1 hf ha hD hC f1 hp
      have k1 : H1 1 1 = (len : Int) := by rw [f1.2]; exact hl
      have na : ¬ a < len := by omega
      rw [prs_e na] at hp
      rw [← hp] at hq
      rw [rX4_readFrom_6]
      simp only [rX4_readFrom_7, rX4_readFrom_8, rX4_readFrom_11, rX4_readFrom_53, rX4_readFrom_55, true_and, and_true, true_or, or_true, false_or, or_false, Option.toList_some, Option.toList_none, List.nil_append, List.cons_append, zn1, kTx hG, k1]
      rw [if_pos (by omega)]
      exact hq H1 f1 (fun _ => hC)
    | succ f ih =>
      intro a D H1 hf ha hD hC f1 hp
      have k1 : H1 1 1 = (len : Int) := by rw [f1.2]; exact hl
      have k2 : H1 2 = H 2 := f1.1 2 (by omega) (by omega) (by omega)
      by_cases ca : a < len
      · have hsc := scan_ge (t := H 2) (len := len) 3 (a + 1) 0
        have hsv := scan_rng (t := H 2) (len := len) (p := a + 1)
        rw [rX4_readFrom_6]
        simp only [rX4_readFrom_7, rX4_readFrom_8, rX4_readFrom_11, rX4_readFrom_14, rX4_readFrom_15, rX4_readFrom_16, true_and, and_true, true_or, or_true, false_or, or_false, Option.toList_some, Option.toList_none, List.nil_append, List.cons_append, zn1, kTx hG, k1]
        rw [if_neg (by omega)]
        refine kX5_readItem hG k1 h3 ca (by rw [k2]; exact hb) (fun H2 f2 e1 e2 e3 e4 => ?_)
        rw [k2] at e2 e3 e4 ⊢
        have f2' : frX H H2 := ⟨fun b x1 x2 x3 => by rw [f2 b x1]; exact f1.1 b x1 x2 x3, by rw [e1]; exact f1.2⟩
        have hC2 : dC H2 D := by
          unfold dC at hC ⊢
          rw [f2 5 (by omega), f2 6 (by omega)]
          exact hC
        simp only [rX4_readFrom_19, rX4_readFrom_22, rX4_readFrom_23, rX4_readFrom_24, rX4_readFrom_27, rX4_readFrom_28, rX4_readFrom_31, rX4_readFrom_37, rX4_readFrom_38, true_and, and_true, true_or, or_true, false_or, or_false, Option.toList_some, Option.toList_none, List.nil_append, List.cons_append, zn1, kTx hG, kTm5 hG, bi_eq0, e2, e3]
        by_cases c1 : a + 1 < (scan (H 2) len 3 (a + 1) 0).1 ∧ (scan (H 2) len 3 (a + 1) 0).1 < len ∧ H 2 ((scan (H 2) len 3 (a + 1) 0).1 : Nat) = 59
        · rw [if_neg (fun z => z c1)]
          refine kX4_accept hG hC2 hD.1.1 hsv.1 hsv.2 (fun hw H3 f3 d3 => ?_) (fun hw H3 f3 => ?_)
          · have k3 : H3 1 = H2 1 := f3 1 (by omega) (by omega)
            have k34 : H3 1 4 = ((scan (H 2) len 3 (a + 1) 0).1 : Int) + 1 := by rw [k3]; exact e4
            rw [prs_y ca ⟨c1, hw⟩] at hp
            simp only [rX4_readFrom_34, rX4_readFrom_39, rX4_readFrom_40, rX4_readFrom_41, rX4_readFrom_42, rX4_readFrom_43, rX4_readFrom_46, rX4_readFrom_49, rX4_readFrom_50, true_and, and_true, true_or, or_true, false_or, or_false, Option.toList_some, Option.toList_none, List.nil_append, List.cons_append, zn1, kTx hG, k34, zw_id (z := (a : Int) + 1) (by omega) (by omega)]
            rw [if_pos (by omega), show max ((a : Int) + 1) (((scan (H 2) len 3 (a + 1) 0).1 : Int) + 1) = (((scan (H 2) len 3 (a + 1) 0).1 + 1 : Nat) : Int) by omega]
            exact ih _ _ H3 (by omega) (by omega) (updD_ok hD hsv.1 hw) d3 ⟨fun b x1 x2 x3 => by rw [f3 b x2 x3]; exact f2'.1 b x1 x2 x3, by rw [k3]; exact f2'.2⟩ hp
          · rw [prs_n ca (fun z => hw z.2)] at hp
            rw [← hp] at hq
            simp only [rX4_readFrom_34, rX4_readFrom_37, rX4_readFrom_38, true_and, and_true, true_or, or_true, false_or, or_false, Option.toList_some, Option.toList_none, List.nil_append, List.cons_append, zn1]
            rw [if_neg (by omega)]
            refine hq H3 ⟨fun b x1 x2 x3 => by rw [f3 b x2 x3]; exact f2'.1 b x1 x2 x3, by rw [f3 1 (by omega) (by omega)]; exact f2'.2⟩ (fun z => ?_)
            have z : (a : Int) = -4 := z
            omega
        · rw [if_pos c1]
          rw [prs_n ca (fun z => c1 z.1)] at hp
          rw [← hp] at hq
          refine hq H2 f2' (fun z => ?_)
          have z : (a : Int) = -4 := z
          omega
      · rw [prs_e ca] at hp
        rw [← hp] at hq
        rw [rX4_readFrom_6]
        simp only [rX4_readFrom_7, rX4_readFrom_8, rX4_readFrom_11, rX4_readFrom_53, rX4_readFrom_55, true_and, and_true, true_or, or_true, false_or, or_false, Option.toList_some, Option.toList_none, List.nil_append, List.cons_append, zn1, kTx hG, k1]
        rw [if_pos (by omega)]
        exact hq H1 f1 (fun _ => hC)
  rw [rX4_readFrom_in]
  simp only [rX4_readFrom_0, rX4_readFrom_1, true_and, and_true, true_or, or_true, false_or, or_false, Option.toList_some, Option.toList_none, List.nil_append, List.cons_append, zn1, kTm5 hG]
  rw [rX4_clear_in]
  simp only [rX4_clear_0, rX4_clear_1, rX4_clear_2, rX4_clear_5, rX4_clear_6, rX4_clear_8, rX4_clear_11, rX4_clear_12, rX4_clear_13, rX4_clear_16, rX4_clear_17, rX4_clear_18, rX4_clear_21, rX4_readFrom_4, rX4_readFrom_5, true_and, and_true, true_or, or_true, false_or, or_false, Option.toList_some, Option.toList_none, List.nil_append, List.cons_append, zn1, kTm5 hG, zup_def, zset_set, zset_eq]
  refine loop 300 0 D0 _ (by omega) (by omega) D0_ok ⟨?_, fun p p0 p1 => ?_, ?_, ?_, ?_⟩ ⟨fun b x1 x2 x3 => by rw [zset_ne x2], by rw [zset_ne (by omega)]⟩ rfl
  · rw [zset_eq, zfu_at, if_neg (by omega), zfu_at, if_neg (by omega), zfu_at, if_neg (by omega), zfu_at, if_pos rfl]
    rfl
  · have p1 : p < ((0 : Nat) : Int) := p1
    omega
  · rw [zset_eq, zfu_at, if_neg (by omega), zfu_at, if_neg (by omega), zfu_at, if_pos rfl]
    rfl
  · rw [zset_eq, zfu_at, if_neg (by omega), zfu_at, if_pos rfl]
    rfl
  · rw [zset_eq, zfu_at, if_pos rfl]
    rfl
