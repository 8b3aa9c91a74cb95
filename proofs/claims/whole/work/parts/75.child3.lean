/-! a child: the model -/
theorem lt_sn {p : Int} {k : Nat} (h : p < ((k + 1 : Nat) : Int)) (c : ¬ p = (k : Int)) : p < (k : Int) := by omega
theorem tkn_hi {P : Int} {g r : Int → Int} (hz : ∀ p : Int, P ≤ p → p < 6 → r p = 0) : ∀ (n : Nat) (p : Int), P ≤ p → p < 6 → (tkn n (g, r)).2 p = 0
  | 0, p, p0, p1 => hz p p0 p1
  | n + 1, p, p0, p1 => by
    show zfu (tkn n (g, r)).2 (amx (tkn n (g, r)).2) 0 p = 0
    rw [zfu_at]
    split
    · rfl
    · exact tkn_hi hz n p p0 p1
theorem shares_end {P W A : Int} {w : Int → Int} {lf : Int} {v4 v5 : zV} {G : zG} {H : zH} {Q' : Option zV → zG → zH → Prop} (hG : zOK G) (P0 : 1 ≤ P) (P1 : P ≤ 6) (eP : H 130 4 = P) (ew : ag6 (H 134) w) (hw : sWok w) 
    (hq1 : (∀ p : Int, 0 ≤ p → p < P → 0 < w p → H 142 p < w p) → Q' (some (vi 1)) G H) (hq0 : (∃ p : Int, 0 ≤ p ∧ p < P ∧ 0 < w p ∧ w p ≤ H 142 p) → Q' (some (vi 0)) G H) : zRun qX9_shares 183 [vr 130, vi W, vi A, vi lf, v4, v5] [] G H Q' := by
  obtain ⟨Pn, hPn⟩ := nat_of (show 0 ≤ P by omega)
  have loop : ∀ (m k : Nat) (v : Int), k + m = Pn → ((v = 1 ∧ ∀ p : Int, 0 ≤ p → p < (k : Int) → 0 < w p → H 142 p < w p) ∨ (v = 0 ∧ ∃ p : Int, 0 ≤ p ∧ p < (k : Int) ∧ 0 < w p ∧ w p ≤ H 142 p)) → zRun qX9_shares 189 [vr 130, vi W, vi A, vi lf, vi v, vi (k : Int)] [] G H Q' := by
    intro m
    induction m with
    | zero =>
      intro k v hk hv
      rw [rX9_shares_189]
      simp only [rX9_shares_191, rX9_shares_192, rX9_shares_195, rX9_shares_243, rX9_shares_245, true_and, and_true, true_or, or_true, false_or, or_false, Option.toList_some, Option.toList_none, List.nil_append, List.cons_append, zn1, kM hG, eP]
      rw [if_pos (by omega)]
      rcases hv with ⟨rfl, hv⟩ | ⟨rfl, p, p0, p1, hv⟩
      · exact ⟨Or.inr rfl, hq1 (fun p p0 p1 => hv p p0 (by omega))⟩
      · exact ⟨Or.inl rfl, hq0 ⟨p, p0, by omega, hv⟩⟩
    | succ m ih =>
      intro k v hk hv
      have ck : (0 : Int) ≤ k ∧ (k : Int) < 6 := by omega
      have ck' : (0 : Int) ≤ k ∧ (k : Int) < 46 := by omega
      have ek := ew k (by omega) (by omega)
      have hwk := hw.1 k (by omega) (by omega)
      rw [rX9_shares_189]
      simp only [rX9_shares_191, rX9_shares_192, rX9_shares_195, rX9_shares_198, rX9_shares_200, rX9_shares_203, rX9_shares_204, rX9_shares_207, rX9_shares_209, rX9_shares_210, rX9_shares_213, rX9_shares_214, rX9_shares_217, rX9_shares_219, rX9_shares_220, rX9_shares_221, rX9_shares_224, rX9_shares_226, rX9_shares_227, rX9_shares_230, rX9_shares_231, rX9_shares_234, rX9_shares_235, rX9_shares_237, rX9_shares_240, true_and, and_true, true_or, or_true, false_or, or_false, Option.toList_some, Option.toList_none, List.nil_append, List.cons_append, zn1, kM hG, eP, ek, zwk (show k < 2000000000 by omega)]
      rw [if_neg (by omega)]
      rcases hv with ⟨rfl, hv⟩ | ⟨rfl, p, p0, p1, hv⟩
      · rw [if_neg (show ¬ ((1 : Int) = 0) by omega)]
        refine ⟨ck', ?_⟩
        by_cases c1 : w k = 0
        · rw [if_pos c1]
          refine ih (k + 1) 1 (by omega) (Or.inl ⟨rfl, fun p p0 p1 hp => ?_⟩)
          by_cases c : p = k
          · subst c
            omega
          · exact hv p p0 (by omega) hp
        · rw [if_neg c1]
          refine ⟨ck, ck', ?_⟩
          by_cases c2 : w k ≤ H 142 k
          · rw [if_pos c2]
            exact ih (k + 1) 0 (by omega) (Or.inr ⟨rfl, k, by omega, by omega, by omega, c2⟩)
          · rw [if_neg c2]
            refine ih (k + 1) 1 (by omega) (Or.inl ⟨rfl, fun p p0 p1 hp => ?_⟩)
            by_cases c : p = k
            · subst c
              omega
            · exact hv p p0 (by omega) hp
      · rw [if_pos rfl]
        exact ih (k + 1) 0 (by omega) (Or.inr ⟨rfl, p, p0, by omega, hv⟩)
  simp only [rX9_shares_183, rX9_shares_184, rX9_shares_186, rX9_shares_187, true_and, and_true, true_or, or_true, false_or, or_false, Option.toList_some, Option.toList_none, List.nil_append, List.cons_append, zn1]
  exact loop Pn 0 1 (by omega) (Or.inl ⟨rfl, fun p p0 p1 => by omega⟩)
theorem shares_argmax {P W A lf : Int} {G : zG} {H : zH} {v4 v5 : zV} {Q' : Option zV → zG → zH → Prop} (hG : zOK G) (P0 : 1 ≤ P) (P1 : P ≤ 6) (eP : H 130 4 = P) (hl : 0 < lf) (hlb : lf ≤ 10) (h4 : zn1 v4)
    (hg : ∀ p : Int, 0 ≤ p → p < P → 0 ≤ H 142 p ∧ H 142 p ≤ 1000)
    (hq : ∀ (m : Int) (u4 u5 : zV), zn1 u4 → AMX (H 143) P m → zRun qX9_shares 107 [vr 130, vi W, vi A, vi (lf - 1), u4, u5] [] G (zset (zset H 142 (zfu (H 142) m (H 142 m + 1))) 143 (zfu (H 143) m (-1))) Q') : zRun qX9_shares 107 [vr 130, vi W, vi A, vi lf, v4, v5] [] G H Q' := by
  obtain ⟨Pn, hPn⟩ := nat_of (show 0 ≤ P by omega)
  have h4' : zn1 v4 = True := by simp [h4]
  have loop : ∀ (l k : Nat) (m : Int), 1 ≤ k → k + l = Pn → AMX (H 143) k m → zRun qX9_shares 117 [vr 130, vi W, vi A, vi lf, vi m, vi (k : Int)] [] G H Q' := by
    intro l
    induction l with
    | zero =>
      intro k m hk0 hk hm
      obtain ⟨m0, m1⟩ := hm.1
      have c : 0 ≤ m ∧ m < 6 := ⟨m0, by omega⟩
      have hgm := hg m m0 (by omega)
      have ez := zw_id (z := H 142 m + 1) (by omega) (by omega)
      have el : zw (lf + -1) = lf - 1 := zw_id (by omega) (by omega)
      rw [rX9_shares_117]
      simp only [rX9_shares_119, rX9_shares_120, rX9_shares_123, rX9_shares_158, rX9_shares_159, rX9_shares_162, rX9_shares_164, rX9_shares_165, rX9_shares_166, rX9_shares_167, rX9_shares_168, rX9_shares_169, rX9_shares_170, rX9_shares_173, rX9_shares_175, rX9_shares_176, rX9_shares_177, rX9_shares_180, true_and, and_true, true_or, or_true, false_or, or_false, Option.toList_some, Option.toList_none, List.nil_append, List.cons_append, zn1, kM hG, eP, c, zup_def, zset_at, Nat.reduceEqDiff, reduceIte, ez, el]
      rw [if_pos (by omega)]
      rw [show (k : Int) = P by omega] at hm
      exact hq m _ _ trivial hm
    | succ l ih =>
      intro k m hk0 hk hm
      obtain ⟨m0, m1⟩ := hm.1
      have c : 0 ≤ m ∧ m < 6 := ⟨m0, by omega⟩
      have ck : (0 : Int) ≤ k ∧ (k : Int) < 6 := by omega
      have hs := AMX_s (by omega) hm
      rw [show (k : Int) + 1 = ((k + 1 : Nat) : Int) by omega] at hs
      rw [rX9_shares_117]
      simp only [rX9_shares_119, rX9_shares_120, rX9_shares_123, rX9_shares_126, rX9_shares_127, rX9_shares_130, rX9_shares_132, rX9_shares_133, rX9_shares_134, rX9_shares_137, rX9_shares_139, rX9_shares_140, rX9_shares_143, rX9_shares_145, rX9_shares_148, rX9_shares_150, rX9_shares_152, rX9_shares_155, true_and, and_true, true_or, or_true, false_or, or_false, Option.toList_some, Option.toList_none, List.nil_append, List.cons_append, zn1, kM hG, eP, c, ck, zwk (show k < 2000000000 by omega)]
      rw [if_neg (by omega)]
      by_cases c1 : H 143 k ≤ H 143 m
      · rw [if_pos c1]
        rw [if_pos c1] at hs
        exact ih (k + 1) m (by omega) (by omega) hs
      · rw [if_neg c1]
        rw [if_neg c1] at hs
        exact ih (k + 1) k (by omega) (by omega) hs
  rw [rX9_shares_107]
  simp only [rX9_shares_108, rX9_shares_111, rX9_shares_112, rX9_shares_114, rX9_shares_115, true_and, and_true, true_or, or_true, false_or, or_false, Option.toList_some, Option.toList_none, List.nil_append, List.cons_append, zn1, h4']
  rw [if_neg (by omega)]
  exact loop (Pn - 1) 1 0 (by omega) (by omega) AMX_1
theorem kX9_shares {P W A : Int} {w : Int → Int} {G : zG} {H : zH} {Q' : Option zV → zG → zH → Prop} (hG : zOK G) (P0 : 1 ≤ P) (P1 : P ≤ 6) (eP : H 130 4 = P) (ew : ag6 (H 134) w) (hw : sWok w) (hA : ssum (uu P w) = A) (A0 : 1 ≤ A) (W0 : 1 ≤ W) (W1 : W ≤ 99)
    (hq : ∀ (H' : zH) (v : Int), (∀ b, b ≠ 142 → b ≠ 143 → H' b = H b) → (∀ p : Int, 0 ≤ p → p < P → H' 142 p = (tkn (W - ssum (sg0 W A (uu P w))).toNat (sg0 W A (uu P w), sr0 W A (uu P w))).1 p) → ((v = 1 ∧ ∀ p : Int, 0 ≤ p → p < P → 0 < w p → H' 142 p < w p) ∨ (v = 0 ∧ ∃ p : Int, 0 ≤ p ∧ p < P ∧ 0 < w p ∧ w p ≤ H' 142 p)) → Q' (some (vi v)) G H') : zCall qX9_shares [vr 130, vi W] G H Q' := by
  obtain ⟨Pn, hPn⟩ := nat_of (show 0 ≤ P by omega)
  obtain ⟨hu, A1⟩ := uu_rng P1 hw hA
  have hu0 : ∀ p : Int, 0 ≤ p → p < 6 → 0 ≤ uu P w p := fun p p0 p1 => (hu p p0 p1).1
  have huk : ∀ k : Nat, k < Pn → uu P w k = w k := fun k hk => by
    unfold uu
    rw [if_pos (by omega)]
  have huz : ∀ p : Int, P ≤ p → uu P w p = 0 := fun p hp => by
    unfold uu
    rw [if_neg (by omega)]
  obtain ⟨L, hL⟩ := nat_of (lack_rng (W := W) (show 0 < A by omega) hA).1
  have hL5 := (lack_rng (W := W) (show 0 < A by omega) hA).2
  have hR : rOK A ((L : Int) * A) (sr0 W A (uu P w)) := ⟨fun p p0 p1 => sr0_rng (by omega) p, by rw [share_sum (by omega) hA, hL]; exact Int.le_refl _⟩
  rw [hL] at hq hL5
  rw [show ((L : Nat) : Int).toNat = L by omega] at hq
  have hg0 := fun (p : Int) p0 p1 => sg0_rng (W := W) (u := uu P w) (p := p) (show 0 < A by omega) (by omega) W1 hu p0 p1
  have hz0 : ∀ p : Int, P ≤ p → p < 6 → sr0 W A (uu P w) p = 0 := fun p p0 p1 => by
    unfold sr0
    rw [huz p p0, Int.mul_zero, Int.zero_emod]
  have hgz : ∀ p : Int, P ≤ p → sg0 W A (uu P w) p = 0 := fun p p0 => by
    unfold sg0
    rw [huz p p0, Int.mul_zero, Int.zero_ediv]
  -- the gifts one by one
  have l3 : ∀ (m n : Nat) (H1 : zH) (v4 v5 : zV), n + m = L → zn1 v4 → (∀ b, b ≠ 142 → b ≠ 143 → H1 b = H b) → (∀ p : Int, 0 ≤ p → p < P → H1 142 p = (tkn n (sg0 W A (uu P w), sr0 W A (uu P w))).1 p) → eR P (tkn n (sg0 W A (uu P w), sr0 W A (uu P w))).2 (H1 143) → zRun qX9_shares 107 [vr 130, vi W, vi A, vi ((L : Int) - (n : Int)), v4, v5] [] G H1 Q' := by
    intro m
    induction m with
    | zero =>
      intro n H1 v4 v5 hn h4 f1 a1 b1
      have : n = L := by omega
      subst this
      have e4 : H1 130 4 = P := by rw [f1 130 (by omega) (by omega)]; exact eP
      have e134 : ag6 (H1 134) w := by rw [f1 134 (by omega) (by omega)]; exact ew
      rw [rX9_shares_107]
      simp only [rX9_shares_108]
      rw [if_pos (by omega)]
      exact shares_end hG P0 P1 e4 e134 hw (fun z => hq H1 1 f1 a1 (Or.inl ⟨rfl, z⟩)) (fun z => hq H1 0 f1 a1 (Or.inr ⟨rfl, z⟩))
    | succ m ih =>
      intro n H1 v4 v5 hn h4 f1 a1 b1
      have e4 : H1 130 4 = P := by rw [f1 130 (by omega) (by omega)]; exact eP
      have nb : 99 + (n : Int) ≤ 1000 := by omega
      have hn1 : (0 : Int) < (L : Int) - (n : Int) := by omega
      have hn2 : (L : Int) - (n : Int) ≤ 10 := by omega
      have hn3 : (L : Int) - (n : Int) - 1 = (L : Int) - ((n + 1 : Nat) : Int) := by omega
      have hn4 : n + 1 + m = L := by omega
      have hok := tkn_ok (g := sg0 W A (uu P w)) (show 0 < A by omega) n hR
      rw [← Int.sub_mul] at hok
      have hpos := rOK_pos hok (Int.mul_pos hn1 (by omega))
      refine shares_argmax hG P0 P1 e4 hn1 hn2 h4 (fun p p0 p1 => ?_) (fun q u4 u5 hu4 hq' => ?_)
      · have := tkn_g (r := sr0 W A (uu P w)) (fun p p0 p1 => hg0 p p0 p1) n p p0 (by omega)
        rw [a1 p p0 p1]
        exact ⟨this.1, Int.le_trans this.2 nb⟩
      · have eq := eR_amx P1 b1 (tkn_hi hz0 n) (fun p p0 p1 => (hok.1 p p0 p1).1) hpos hq'
        obtain ⟨q0, q1⟩ := hq'.1
        rw [hn3]
        refine ih (n + 1) _ u4 u5 hn4 hu4 (fun b x1 x2 => by rw [zset_ne x2, zset_ne x1]; exact f1 b x1 x2) (fun p p0 p1 => ?_) (fun p p0 p1 => ?_)
        · rw [zset_ne (by omega), zset_eq]
          show zfu (H1 142) q (H1 142 q + 1) p = zfu (tkn n (sg0 W A (uu P w), sr0 W A (uu P w))).1 (amx (tkn n (sg0 W A (uu P w), sr0 W A (uu P w))).2) ((tkn n (sg0 W A (uu P w), sr0 W A (uu P w))).1 (amx (tkn n (sg0 W A (uu P w), sr0 W A (uu P w))).2) + 1) p
          rw [← eq, zfu_at, zfu_at, a1 q q0 q1, a1 p p0 p1]
        · rw [zset_eq]
          show (zfu (H1 143) q (-1) p = zfu (tkn n (sg0 W A (uu P w), sr0 W A (uu P w))).2 (amx (tkn n (sg0 W A (uu P w), sr0 W A (uu P w))).2) 0 p ∧ _) ∨ (_ ∧ zfu (tkn n (sg0 W A (uu P w), sr0 W A (uu P w))).2 (amx (tkn n (sg0 W A (uu P w), sr0 W A (uu P w))).2) 0 p = 0)
          rw [← eq, zfu_at, zfu_at]
          by_cases c : p = q
          · rw [if_pos c, if_pos c]
            exact Or.inr ⟨rfl, rfl⟩
          · rw [if_neg c, if_neg c]
            exact b1 p p0 p1
  have hgs := psum_6 (u := sg0 W A (uu P w))
  have hus := psum_6 (u := uu P w)
  rw [hA] at hus
  have hgsP : psum (sg0 W A (uu P w)) Pn = ssum (sg0 W A (uu P w)) := by
    have := psum_0 (u := sg0 W A (uu P w)) (P := Pn) (6 - Pn) (fun k a b => hgz k (by omega))
    rw [show Pn + (6 - Pn) = 6 by omega, hgs] at this
    exact this.symm
  have husP : psum (uu P w) Pn = A := by
    have := psum_0 (u := uu P w) (P := Pn) (6 - Pn) (fun k a b => huz k (by omega))
    rw [show Pn + (6 - Pn) = 6 by omega, hus] at this
    exact this.symm
  have hgm : ∀ k : Nat, k ≤ 6 → 0 ≤ psum (sg0 W A (uu P w)) k ∧ psum (sg0 W A (uu P w)) k ≤ 99 := fun k hk => by
    have h1 := psum_le (u := sg0 W A (uu P w)) (fun p p0 p1 => (hg0 p p0 p1).1) (6 - k) k (by omega)
    rw [show k + (6 - k) = 6 by omega, hgs] at h1
    exact ⟨h1.1, by omega⟩
  have hum : ∀ k : Nat, k ≤ 6 → 0 ≤ psum (uu P w) k ∧ psum (uu P w) k ≤ 6000 := fun k hk => by
    have h1 := psum_le hu0 (6 - k) k (by omega)
    rw [show k + (6 - k) = 6 by omega, hus] at h1
    exact ⟨h1.1, by omega⟩
  clear hgs hus hu0
  have l2 : ∀ (m k : Nat) (H1 : zH) (v5 : zV), k + m = Pn → (∀ b, b ≠ 142 → b ≠ 143 → H1 b = H b) → (∀ p : Int, 0 ≤ p → p < (k : Int) → H1 142 p = sg0 W A (uu P w) p ∧ ((H1 143 p = sr0 W A (uu P w) p ∧ 0 ≤ H1 143 p) ∨ (H1 143 p = -1 ∧ sr0 W A (uu P w) p = 0))) → zRun qX9_shares 32 [vr 130, vi W, vi A, vi (W - psum (sg0 W A (uu P w)) k), vi (k : Int), v5] [] G H1 Q' := by
    intro m
    induction m with
    | zero =>
      intro k H1 v5 hk f1 a1
      have : k = Pn := by omega
      subst this
      have e4 : H1 130 4 = P := by rw [f1 130 (by omega) (by omega)]; exact eP
      have hk' : (P : Int) ≤ (k : Int) := by omega
      have hk2 : ∀ p : Int, p < P → p < (k : Int) := fun p hp => by omega
      rw [hgsP, hL, rX9_shares_32]
      simp only [rX9_shares_34, rX9_shares_35, rX9_shares_38, true_and, and_true, true_or, or_true, false_or, or_false, Option.toList_some, Option.toList_none, List.nil_append, List.cons_append, zn1, kM hG, e4]
      rw [if_pos hk']
      have := l3 L 0 H1 (vi (k : Int)) v5 (Nat.zero_add _) trivial f1 (fun p p0 p1 => (a1 p p0 (hk2 p p1)).1) (fun p p0 p1 => (a1 p p0 (hk2 p p1)).2)
      rw [show ((L : Int) - ((0 : Nat) : Int)) = (L : Int) from Int.sub_zero _] at this
      exact this
    | succ m ih =>
      intro k H1 v5 hk f1 a1
      have e4 : H1 130 4 = P := by rw [f1 130 (by omega) (by omega)]; exact eP
      have e134 : H1 134 = H 134 := f1 134 (by omega) (by omega)
      have hkP : ¬ P ≤ (k : Int) := by omega
      have ck : (0 : Int) ≤ k ∧ (k : Int) < 6 := by omega
      have ck' : (0 : Int) ≤ k ∧ (k : Int) < 46 := by omega
      have hkm : k + 1 + m = Pn := by omega
      have hwk := hw.le k ck.1 ck.2
      have ek := ew k ck.1 ck.2
      have huk' := huk k (by omega)
      have eg : sg0 W A (uu P w) k = W * w k / A := by
        unfold sg0
        rw [huk']
      have er : sr0 W A (uu P w) k = W * w k % A := by
        unfold sr0
        rw [huk']
      have hss : psum (sg0 W A (uu P w)) (k + 1) = psum (sg0 W A (uu P w)) k + sg0 W A (uu P w) k := rfl
      have g1 := hgm (k + 1) (by omega)
      have g0 := hgm k (by omega)
      have zl : zw (W - psum (sg0 W A (uu P w)) k - sg0 W A (uu P w) k) = W - psum (sg0 W A (uu P w)) (k + 1) := by
        rw [hss] at g1
        rw [zw_id (by omega) (by omega), hss]
        omega
      have kz := zwk (show k < 2000000000 by omega)
      have m0 : 0 ≤ W * w k := Int.mul_nonneg (by omega) hwk.1
      have m1 : W * w k ≤ 99 * 6000 := Int.mul_le_mul W1 hwk.2 hwk.1 (by omega)
      have z1 := zw_id (z := W * w k) (by omega) (by omega)
      have z2 := zdiv_pos (a := W * w k) (b := A) m0 (by omega) (by omega) (by omega)
      have z3 := zrem_pos (a := W * w k) (b := A) m0 (by omega) (by omega) (by omega)
      have hA0 : (A ≠ 0) = True := by
        simp only [ne_eq, eq_iff_iff, iff_true]
        omega
      rw [← eg] at z2
      rw [← er] at z3
      have hrr := sr0_rng (W := W) (u := uu P w) (show 0 < A by omega) k
      have hr0 : ¬ 0 < w k → sr0 W A (uu P w) k = 0 := fun z => by
        rw [er, show w k = 0 by omega, Int.mul_zero, Int.zero_emod]
      have next : ∀ x : Int, ((x = sr0 W A (uu P w) k ∧ 0 ≤ x) ∨ (x = -1 ∧ sr0 W A (uu P w) k = 0)) → zRun qX9_shares 32 [vr 130, vi W, vi A, vi (W - psum (sg0 W A (uu P w)) (k + 1)), vi ((k + 1 : Nat) : Int), v5] [] G (zset (zset H1 142 (zfu (H1 142) k (sg0 W A (uu P w) k))) 143 (zfu (H1 143) k x)) Q' := by
        intro x hx
        refine ih (k + 1) _ v5 hkm (fun b x1 x2 => by rw [zset_ne x2, zset_ne x1]; exact f1 b x1 x2) (fun p p0 p1 => ?_)
        rw [zset_ne (show 142 ≠ 143 by decide), zset_eq, zset_eq, zfu_at, zfu_at]
        by_cases c : p = k
        · subst c
          rw [if_pos rfl, if_pos rfl]
          exact ⟨rfl, hx⟩
        · rw [if_neg c, if_neg c]
          exact a1 p p0 (lt_sn p1 c)
      rw [rX9_shares_32]
      simp only [rX9_shares_34, rX9_shares_35, rX9_shares_38, rX9_shares_41, rX9_shares_42, rX9_shares_45, rX9_shares_47, rX9_shares_48, rX9_shares_49, rX9_shares_52, rX9_shares_54, rX9_shares_55, rX9_shares_56, rX9_shares_57, rX9_shares_58, rX9_shares_59, rX9_shares_60, rX9_shares_63, rX9_shares_65, rX9_shares_66, rX9_shares_69, rX9_shares_71, rX9_shares_72, rX9_shares_75, rX9_shares_76, rX9_shares_77, rX9_shares_80, rX9_shares_82, rX9_shares_83, rX9_shares_84, rX9_shares_85, rX9_shares_86, rX9_shares_89, rX9_shares_90, rX9_shares_91, rX9_shares_92, rX9_shares_93, rX9_shares_96, rX9_shares_98, rX9_shares_99, rX9_shares_100, rX9_shares_101, rX9_shares_104, true_and, and_true, true_or, or_true, false_or, or_false, Option.toList_some, Option.toList_none, List.nil_append, List.cons_append, zn1, kM hG, e4, e134, ek, zup_def, zset_at, zfu_at, Nat.reduceEqDiff, reduceIte, z1, z2, z3, hA0, zl, kz]
      rw [if_neg hkP]
      refine ⟨ck', ck, ck', ?_⟩
      by_cases c : w k ≤ 0
      · rw [if_pos c]
        exact ⟨ck, ck, next _ (Or.inr ⟨rfl, hr0 (Int.not_lt.mpr c)⟩)⟩
      · rw [if_neg c]
        exact ⟨ck', ck, ck, next _ (Or.inl ⟨rfl, hrr.1⟩)⟩
  have l1 : ∀ (m k : Nat), k + m = Pn → zRun qX9_shares 4 [vr 130, vi W, vi (psum (uu P w) k), vi (k : Int), vu, vu] [] G H Q' := by
    intro m
    induction m with
    | zero =>
      intro k hk
      have : k = Pn := by omega
      subst this
      have hk' : (P : Int) ≤ (k : Int) := by omega
      rw [husP, rX9_shares_4]
      simp only [rX9_shares_5, rX9_shares_6, rX9_shares_9, rX9_shares_27, rX9_shares_28, rX9_shares_29, rX9_shares_30, true_and, and_true, true_or, or_true, false_or, or_false, Option.toList_some, Option.toList_none, List.nil_append, List.cons_append, zn1, kM hG, eP]
      rw [if_pos hk']
      have := l2 k 0 H vu (Nat.zero_add _) (fun _ _ _ => rfl) (fun p p0 p1 => absurd p1 (Int.not_lt.mpr p0))
      rw [show psum (sg0 W A (uu P w)) 0 = 0 from rfl, Int.sub_zero] at this
      exact this
    | succ m ih =>
      intro k hk
      have hkP : ¬ P ≤ (k : Int) := by omega
      have ck' : (0 : Int) ≤ k ∧ (k : Int) < 46 := by omega
      have ek := ew k (by omega) (by omega)
      have huk' := huk k (by omega)
      have u1 := hum (k + 1) (by omega)
      have ihk := ih (k + 1) (by omega)
      have kz := zwk (show k < 2000000000 by omega)
      have hss : psum (uu P w) (k + 1) = psum (uu P w) k + w k := by
        show psum (uu P w) k + uu P w k = _
        rw [huk']
      have zl : zw (psum (uu P w) k + w k) = psum (uu P w) (k + 1) := by
        rw [← hss]
        exact zw_id (by omega) (by omega)
      rw [rX9_shares_4]
      simp only [rX9_shares_5, rX9_shares_6, rX9_shares_9, rX9_shares_12, rX9_shares_13, rX9_shares_14, rX9_shares_17, rX9_shares_18, rX9_shares_19, rX9_shares_20, rX9_shares_21, rX9_shares_24, true_and, and_true, true_or, or_true, false_or, or_false, Option.toList_some, Option.toList_none, List.nil_append, List.cons_append, zn1, kM hG, eP, ek, zl, kz]
      rw [if_neg hkP]
      exact ⟨ck', ihk⟩
  rw [rX9_shares_in]
  simp only [rX9_shares_0, rX9_shares_1, rX9_shares_2, rX9_shares_3, true_and, and_true, true_or, or_true, false_or, or_false, Option.toList_some, Option.toList_none, List.nil_append, List.cons_append, zn1]
  exact l1 Pn 0 (Nat.zero_add _)
