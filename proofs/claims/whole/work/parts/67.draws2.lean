/-! draws: the model -/
theorem MB_len {H : zH} {B : sB} (h : MB H B) : H 134 12 = (B.2.length : Int) := by
  obtain ⟨-, ls, hL, hc⟩ := h
  have hl : ls.length = B.2.length := by simpa using congrArg List.length hc
  rw [hL.1, hl]
theorem mdraw {P r law z : Int} {t n : Nat} {B : sB} {w : Int} {v5 v6 v7 v8 : zV} {G : zG} {H : zH} {Q' : Option zV → zG → zH → Prop} (hG : zOK G) (hT : tOKm H) (eP : H 130 4 = P) (er : H 130 6 = r) (el : H 130 8 = law) (hB : MB H B) (hb : bok P B) (hn : nmok (H 139)) (z0 : 0 ≤ z) (z1 : z ≤ 9999) (ht : t < 60) (h5 : zn1 v5) (h6 : zn1 v6) (h7 : zn1 v7)
    (hq : ∀ (H' : zH) (u5 u6 u7 u8 : Int), frM H H' → MB H' (drB P law r z t B) → nmok (H' 139) → zRun qX9_drawn 161 [vr 130, vi z, vi (n : Int), vi w, vi (t : Int), vi u5, vi u6, vi u7, vi u8] [] G H' Q') : zRun qX9_drawn 51 [vr 130, vi z, vi (n : Int), vi w, vi (t : Int), v5, v6, v7, v8] [] G H Q' := by
  have hT' := hT
  obtain ⟨⟨P0, P1⟩, -⟩ := hT'
  have hlen := MB_len hB
  obtain ⟨ha, ls, hL, hc⟩ := id hB
  have hl : ls.length = B.2.length := by simpa using congrArg List.length hc
  have h8 : ls.length ≤ 8 := by rw [hl]; exact hb.2.1
  obtain ⟨g1, g2, g3⟩ := f_cor hc
  obtain ⟨-, hok⟩ := MB_ok hb hn hL hc
  have ag : ag6 (H 134) B.1.1 := fun p p0 p1 => (ha p p0 p1).1
  have hw : sWok (H 134) := sWok_ag ag hb.1
  have n0 : H 130 4 ≠ 0 := by omega
  have m0 := drw_mod (t := t) (k := 0) z0 z1 ht (by omega) (by omega) (show 0 < H 130 4 by omega) (by omega)
  have m1 := drw_mod (t := t) (k := 1) z0 z1 ht (by omega) (by omega) (show 0 < H 130 4 by omega) (by omega)
  have m2 := drw_mod (t := t) (k := 2) (m := 20) z0 z1 ht (by omega) (by omega) (by omega) (by omega)
  have m3 := drw_mod (t := t) (k := 3) (m := 30) z0 z1 ht (by omega) (by omega) (by omega) (by omega)
  have e2 := zw_id (z := 1 + zdrw z t 2 % 20) (by omega) (by omega)
  have e3 := zw_id (z := 1 + zdrw z t 3 % 30) (by omega) (by omega)
  have b12 : (0 : Int) ≤ 12 ∧ (12 : Int) < 46 := by omega
  have hsh : drh P law r z t B = 0 ↔ shind (H 130 4) (H 130 8) (H 130 6) ls.length (H 134) (mBo (H 134)) (mAm (H 134)) (mDu (H 134)) (zdrw z t 0 % H 130 4) (zdrw z t 1 % H 130 4) (1 + zdrw z t 2 % 20) (1 + zdrw z t 3 % 30) = 0 := by
    unfold drh
    rw [eP, er, el, ← hl]
    refine (shind_ag (by omega) ag (fun k hk => ?_) (fun k hk => ?_) (fun k hk => ?_)).symm
    · rw [← g1]
      exact (f_LM hL hk).1
    · rw [← g2]
      exact (f_LM hL hk).2.1
    · rw [← g3]
      exact (f_LM hL hk).2.2
  have nope : drh P law r z t B ≠ 0 → ∀ u5 u6 u7 u8 : Int, zRun qX9_drawn 161 [vr 130, vi z, vi (n : Int), vi w, vi (t : Int), vi u5, vi u6, vi u7, vi u8] [] G H Q' := by
    intro hc u5 u6 u7 u8
    refine hq H u5 u6 u7 u8 frM.rf ?_ hn
    unfold drB
    rw [if_neg hc]
    exact hB
  have h5' : zn1 v5 = True := by simp [h5]
  simp only [rX9_drawn_51, rX9_drawn_52, rX9_drawn_54, rX9_drawn_55, rX9_drawn_58, rX9_drawn_59, rX9_drawn_62, rX9_drawn_63, rX9_drawn_65, rX9_drawn_66, rX9_drawn_68, rX9_drawn_69, rX9_drawn_72, rX9_drawn_73, rX9_drawn_76, rX9_drawn_77, rX9_drawn_79, rX9_drawn_80, rX9_drawn_81, rX9_drawn_83, rX9_drawn_84, rX9_drawn_87, rX9_drawn_89, rX9_drawn_90, rX9_drawn_91, rX9_drawn_93, rX9_drawn_94, rX9_drawn_95, rX9_drawn_97, rX9_drawn_98, rX9_drawn_101, rX9_drawn_103, rX9_drawn_104, rX9_drawn_105, rX9_drawn_107, rX9_drawn_108, rX9_drawn_110, rX9_drawn_112, rX9_drawn_114, rX9_drawn_116, true_and, and_true, true_or, or_true, false_or, or_false, Option.toList_some, Option.toList_none, List.nil_append, List.cons_append, zn1, kM hG, kX9_draw, m0.1, m1.1, m2.1, m3.1, e2, e3, ne_eq, n0, not_false_eq_true, Int.reduceEq, kX9_mayAsk hG P0 P1]
  simp only [rX9_drawn_119, rX9_drawn_122, rX9_drawn_123, rX9_drawn_125, rX9_drawn_127, rX9_drawn_129, rX9_drawn_131, true_and, and_true, true_or, or_true, false_or, or_false, Option.toList_some, Option.toList_none, List.nil_append, List.cons_append, zn1, kM hG, bi_eq0]
  generalize hi : zdrw z t 0 % H 130 4 = i at *
  generalize hj : zdrw z t 1 % H 130 4 = j at *
  by_cases c : (i ≠ j ∧ ((0 ≤ i ∧ i < H 130 4) ∧ 0 < H 134 i)) ∧ ((0 ≤ j ∧ j < H 130 4) ∧ 0 < H 134 j) ∧ ((1 ≤ 1 + zdrw z t 2 % 20 ∧ 1 + zdrw z t 2 % 20 ≤ 200) ∧ (1 ≤ 1 + zdrw z t 3 % 30 ∧ 1 + zdrw z t 3 % 30 ≤ 200))
  · rw [if_neg (fun x => x c)]
    rw [kX9_says (n := ls.length) hG hT hL.1 h8 hw (by omega) (by omega) (by omega) (by omega) (by omega) (by omega) (by omega) (by omega) (fun k hk => by
      rw [(f_LM hL hk).2.1]
      have hx := hok (ls.getD k (0, 0, 0, 0, 0)) (by rw [List.getD_eq_getElem?_getD, List.getElem?_eq_getElem hk]; exact List.getElem_mem hk)
      exact hx.1.2.2.1)]
    simp only [rX9_drawn_134, rX9_drawn_137, rX9_drawn_138, rX9_drawn_141, rX9_drawn_143, rX9_drawn_144, rX9_drawn_146, rX9_drawn_149, rX9_drawn_150, rX9_drawn_152, rX9_drawn_154, rX9_drawn_156, rX9_drawn_158, true_and, and_true, true_or, or_true, false_or, or_false, Option.toList_some, Option.toList_none, List.nil_append, List.cons_append, zn1, kM hG, b12, hL.1]
    by_cases c1 : sgb (H 130 8) (H 130 6) ls.length (H 134) (mBo (H 134)) (mAm (H 134)) (mDu (H 134)) i j (1 + zdrw z t 2 % 20) (1 + zdrw z t 3 % 30) = 0
    · rw [if_pos c1]
      exact nope (fun x => (shind_0.mp (hsh.mp x)).2.1 c1) _ _ _ _
    · rw [if_neg c1]
      by_cases c2 : (8 : Int) ≤ (ls.length : Int)
      · rw [if_pos c2]
        exact nope (fun x => by have := (shind_0.mp (hsh.mp x)).2.2; omega) _ _ _ _
      · rw [if_neg c2]
        have hd : drh P law r z t B = 0 := hsh.mpr (shind_0.mpr ⟨c, c1, by omega⟩)
        refine kX9_lends (n := ls.length) hG hL.1 (by omega) hw (by omega) (by omega) (by omega) (by omega) c.1.1 (by omega) (by omega) (fun H4 f4 n4 p4 q4 t4 g4 o4 a4 => ?_)
        simp only [true_and, and_true, true_or, or_true, false_or, or_false, Option.toList_some, Option.toList_none, List.nil_append, List.cons_append, zn1]
        refine hq H4 _ _ _ _ (fun b b1 b2 b3 => f4 b b1 b2) ⟨?_, ?_⟩ ?_
        · unfold drB
          rw [if_pos hd]
          intro p p0 p1
          show H4 134 p = smv B.1.1 _ _ _ p ∧ H4 134 (6 + p) = B.1.2.1 p
          rw [p4 p p0 p1, q4 _ (by omega) (by omega), ← eP, hi, hj]
          exact ⟨smv_ag ag (Or.inr ⟨by omega, by omega⟩) (by omega) (by omega) p p0 p1, (ha p p0 p1).2⟩
        · unfold drB
          rw [if_pos hd]
          refine ⟨ls ++ [(i, j, 1 + zdrw z t 2 % 20, 1 + zdrw z t 3 % 30, 8)], ⟨?_, fun k x hx => ?_⟩, ?_⟩
          · rw [t4]
            simp
          · rcases Nat.lt_or_ge k ls.length with q | q
            · rw [List.getElem?_append_left q] at hx
              have := hL.2 k x hx
              unfold ARm at this ⊢
              rw [n4, zfu_at, if_neg (by omega), o4 _ (by omega) (by omega), o4 _ (by omega) (by omega), o4 _ (by omega) (by omega), o4 _ (by omega) (by omega)]
              exact this
            · have hkl : k = ls.length := by
                have := (List.getElem?_eq_some_iff.mp hx).1
                simp at this
                omega
              subst hkl
              simp at hx
              subst hx
              refine ⟨a4.1, a4.2.1, a4.2.2.1, a4.2.2.2, ?_⟩
              rw [n4, zfu_at, if_pos rfl]
          · unfold lnd
            rw [List.map_append, List.map_append, hc, ← eP, hi, hj]
            rfl
        · rw [n4]
          intro k k0 k1
          rw [zfu_at]
          split
          · omega
          · exact hn k k0 k1
  · rw [if_pos c]
    exact nope (fun x => c (shind_0.mp (hsh.mp x)).1) _ _ _ _
theorem drawn_end {P r law kind z w : Int} {n : Nat} {B : sB} {u : List zV} {G : zG} {H H1 : zH} {Q' : Option zV → zG → zH → Prop} {u5 u6 u7 u8 : zV} (hG : zOK G) (P0 : 1 ≤ P) (P1 : P ≤ 6) (eP : H1 130 4 = P) (hB : agw (mS H1) B.1) (hq : Q' (some (vi (if w = 0 then slive P B.1.1 else slost P B.1.2.1))) G (bck H1)) : zRun qX9_drawn 171 [vr 130, vi z, vi (n : Int), vi w, vi (n : Int), u5, u6, u7, u8] [] G H1 Q' := by
  have ag : ag6 (H1 134) B.1.1 := fun p p0 p1 => (hB p p0 p1).1
  obtain ⟨Pn, hPn⟩ := nat_of (show 0 ≤ P by omega)
  have fin : zRun qX9_drawn 207 [vr 130, vi z, vi (n : Int), vi w, vi (slost P B.1.2.1), vi (Pn : Int), u6, u7, u8] [] G H1 Q' := by
    simp only [rX9_drawn_207, rX9_drawn_208, rX9_drawn_211, rX9_drawn_212, rX9_drawn_215, rX9_drawn_218, rX9_drawn_220, rX9_drawn_222, rX9_drawn_223, rX9_drawn_224, rX9_drawn_227, rX9_drawn_229, true_and, and_true, true_or, or_true, false_or, or_false, Option.toList_some, Option.toList_none, List.nil_append, List.cons_append, zn1, kM hG, kX9_living hG (show 1 ≤ H1 130 4 by omega) (show H1 130 4 ≤ 6 by omega), kX9_aside0 hG, eP]
    by_cases c : w = 0
    · rw [if_neg (fun x => x c)]
      rw [if_pos c] at hq
      rw [slive_ag P1 ag]
      exact hq
    · rw [if_pos c]
      rw [if_neg c] at hq
      exact hq
  simp only [rX9_drawn_171, rX9_drawn_172, rX9_drawn_174, rX9_drawn_175, true_and, and_true, true_or, or_true, false_or, or_false, Option.toList_some, Option.toList_none, List.nil_append, List.cons_append, zn1]
  refine zfor_go (R := fun k acc => zRun qX9_drawn 177 [vr 130, vi z, vi (n : Int), vi w, vi acc, vi (k : Int), u6, u7, u8] [] G H1 Q') (F := fun k acc => zw (acc + B.1.2.1 k)) (n := Pn) (fun k acc hk hq => ?_) 0 ?_
  · have e6 := zw_id (z := 6 + (k : Int)) (by omega) (by omega)
    have b6 : 0 ≤ 6 + (k : Int) ∧ 6 + (k : Int) < 46 := by omega
    have el : H1 134 (6 + (k : Int)) = B.1.2.1 k := (hB k (by omega) (by omega)).2
    rw [rX9_drawn_177]
    simp only [rX9_drawn_179, rX9_drawn_180, rX9_drawn_183, rX9_drawn_186, rX9_drawn_188, rX9_drawn_189, rX9_drawn_192, rX9_drawn_194, rX9_drawn_196, rX9_drawn_197, rX9_drawn_198, rX9_drawn_199, rX9_drawn_201, rX9_drawn_204, true_and, and_true, true_or, or_true, false_or, or_false, Option.toList_some, Option.toList_none, List.nil_append, List.cons_append, zn1, kM hG, eP, e6, b6, el, zwk (show k < 2000000000 by omega)]
    rw [if_neg (by omega)]
    exact hq
  · rw [rX9_drawn_177]
    simp only [rX9_drawn_179, rX9_drawn_180, rX9_drawn_183, true_and, and_true, true_or, or_true, false_or, or_false, Option.toList_some, Option.toList_none, List.nil_append, List.cons_append, zn1, kM hG, eP]
    rw [if_pos (by omega)]
    unfold slost at fin
    rw [show P.toNat = Pn by omega] at fin
    exact fin
theorem kX9_drawn {P r law kind z w : Int} {n : Nat} {B : sB} {G : zG} {H : zH} {Q' : Option zV → zG → zH → Prop} (hG : zOK G) (hT : tOKm H) (eP : H 130 4 = P) (er : H 130 6 = r) (ek : H 130 7 = kind) (el : H 130 8 = law) (hB : MB (asd H) B) (hb : bok P B) (hn : nmok (H 139)) (z0 : 0 ≤ z) (z1 : z ≤ 9999) (n0 : 1 ≤ n) (n1 : n ≤ 60) (w0 : 0 ≤ w) (w1 : w ≤ 1)
    (hq : ∀ H' : zH, ksM H H' → Q' (some (vi (if w = 0 then slive P (drN P law r kind z n B).1.1 else slost P (drN P law r kind z n B).1.2.1))) G H') : zCall qX9_drawn [vr 130, vi z, vi (n : Int), vi w] G H Q' := by
  have et : zset H 130 (zfu (H 130) 0 0) = th0 H := rfl
  have hT' := hT
  obtain ⟨⟨P0, P1⟩, ⟨r0, r1⟩, -⟩ := hT'
  rw [eP] at P0 P1
  rw [er] at r0 r1
  rw [rX9_drawn_in]
  simp only [rX9_drawn_0, rX9_drawn_1, rX9_drawn_2, rX9_drawn_5, rX9_drawn_6, rX9_drawn_7, rX9_drawn_10, rX9_drawn_13, rX9_drawn_16, rX9_drawn_17, rX9_drawn_18, rX9_drawn_20, rX9_drawn_23, rX9_drawn_26, rX9_drawn_27, rX9_drawn_28, rX9_drawn_29, rX9_drawn_32, rX9_drawn_37, rX9_drawn_38, rX9_drawn_39, rX9_drawn_42, rX9_drawn_43, true_and, and_true, true_or, or_true, false_or, or_false, Option.toList_some, Option.toList_none, List.nil_append, List.cons_append, zn1, kM hG, zup_def, et, kX9_in, bi_ne0, bi_eq0, kX9_aside1 hG]
  rw [if_neg (fun x => x ⟨z0, z1⟩), if_neg (fun x => x (by omega)), if_pos ⟨w0, w1⟩]
  have loop : ∀ (m k : Nat) (H1 : zH) (u5 u6 u7 u8 : zV), zn1 u5 → zn1 u6 → zn1 u7 → k + m = n → frM (asd H) H1 → MB H1 (drN P law r kind z k B) → nmok (H1 139) → zRun qX9_drawn 45 [vr 130, vi z, vi (n : Int), vi w, vi (k : Int), u5, u6, u7, u8] [] G H1 Q' := by
    intro m
    induction m with
    | zero =>
      intro k H1 u5 u6 u7 u8 h5 h6 h7 hk f1 b1 m1
      have : k = n := by omega
      subst this
      have e130 : H1 130 = asd H 130 := f1 130 (by omega) (by omega) (by omega)
      rw [rX9_drawn_45]
      simp only [rX9_drawn_47, rX9_drawn_48]
      rw [if_pos (by omega)]
      exact drawn_end (P := P) (r := r) (law := law) (kind := kind) (B := drN P law r kind z k B) (u := []) (H := H) hG P0 P1 (by rw [e130, asd_130 (by omega)]; exact eP) b1.1 (hq _ (ks_aside f1 m1))
    | succ m ih =>
      intro k H1 u5 u6 u7 u8 h5 h6 h7 hk f1 b1 m1
      have e130 : H1 130 = asd H 130 := f1 130 (by omega) (by omega) (by omega)
      have hbk := drN_ok (law := law) (kind := kind) (z := z) P1 r0 r1 k hb
      rw [rX9_drawn_45]
      simp only [rX9_drawn_47, rX9_drawn_48]
      rw [if_neg (by omega)]
      refine mdraw (P := P) (r := r) (law := law) (B := drN P law r kind z k B) hG (tOKm_asd hT e130) (by rw [e130, asd_130 (by omega)]; exact eP) (by rw [e130, asd_130 (by omega)]; exact er) (by rw [e130, asd_130 (by omega)]; exact el) b1 hbk m1 z0 z1 (by omega) h5 h6 h7 (fun H2 v5 v6 v7 v8 f2 b2 m2 => ?_)
      have e230 : H2 130 = asd H 130 := by rw [f2 130 (by omega) (by omega) (by omega), e130]
      simp only [rX9_drawn_161, rX9_drawn_162, true_and, and_true, true_or, or_true, false_or, or_false, Option.toList_some, Option.toList_none, List.nil_append, List.cons_append, zn1, kM hG]
      refine goesB (P := P) (r := r) (kind := kind) hG (tOKm_asd hT e230) (by rw [e230, asd_130 (by omega)]; exact eP) (by rw [e230, asd_130 (by omega)]; exact er) (by rw [e230, asd_130 (by omega)]; exact ek) b2 (drB_ok P1 hbk) m2 (fun H3 f3 b3 _ m3 => ?_)
      simp only [rX9_drawn_165, rX9_drawn_168, true_and, and_true, true_or, or_true, false_or, or_false, Option.toList_some, Option.toList_none, List.nil_append, List.cons_append, zn1, zwk (show k < 2000000000 by omega)]
      exact ih (k + 1) H3 _ _ _ _ trivial trivial trivial (by omega) ((f1.tr f2).tr f3) b3 m3
  exact loop n 0 (asd H) vu vu vu vu trivial trivial trivial (by omega) frM.rf hB (by rw [asd_ne (by omega) (by omega)]; exact hn)
theorem sim_drawn {z n w : Int} : simOp qX8_drawn qX9_drawn [vi z, vi n, vi w] := by
  intro G H h
  have hS := h
  obtain ⟨hG, ht, hx, ⟨⟨cs, hB⟩, hm8, hn8⟩, -⟩ := h
  obtain ⟨hT, ⟨m4, m6, m7, m8⟩, -⟩ := ht
  by_cases c : ((0 ≤ z ∧ z ≤ 9999) ∧ (1 ≤ n ∧ n ≤ 60)) ∧ (0 ≤ w ∧ w ≤ 1)
  · obtain ⟨k, rfl⟩ := nat_of (show 0 ≤ n by omega)
    refine kX8_drawn (P := H 3 1) (r := H 3 2) (kind := H 3 3) (law := H 3 4) hG hT rfl rfl rfl rfl hB c.1.1.1 c.1.1.2 (by omega) (by omega) c.2.1 c.2.2 (fun H2 f2 => ?_)
    have cF : ∀ b : Nat, b < 16 ∨ 26 < b → H2 b = H b := fun b hb => f2 b (by omega)
    have hS2 : SR G H2 := SR_C hS (ksC_T (fun b hb => cF b (by omega)))
    refine ⟨_, rfl, kX9_drawn (P := H 3 1) (r := H 3 2) (kind := H 3 3) (law := H 3 4) (B := B0 H cs) hG (tOKm_of hS2.2.1) (by rw [cF 130 (by omega)]; exact m4) (by rw [cF 130 (by omega)]; exact m6) (by rw [cF 130 (by omega)]; exact m7) (by rw [cF 130 (by omega)]; exact m8) (MB_0 hB (by rw [asd_ne (by omega) (by omega), cF 134 (by omega)])) (B0_ok hB) (by rw [cF 139 (by omega)]; exact hn8) c.1.1.1 c.1.1.2 (by omega) (by omega) c.2.1 c.2.2 (fun H3 k3 => ⟨rfl, SR_M hS2 k3⟩)⟩
  · have et : zset H 130 (zfu (H 130) 0 0) = th0 H := rfl
    have hbad : ∃ v' : Int, some (vi (-1)) = some (vi v') ∧ zCall qX9_drawn [vr 130, vi z, vi n, vi w] G H (fun r' G2 H2 => r' = some (vi v') ∧ SR G2 H2) := by
      refine ⟨_, rfl, ?_⟩
      rw [rX9_drawn_in]
      simp only [rX9_drawn_0, rX9_drawn_1, rX9_drawn_2, rX9_drawn_5, rX9_drawn_6, rX9_drawn_7, rX9_drawn_10, rX9_drawn_13, rX9_drawn_16, rX9_drawn_17, rX9_drawn_18, rX9_drawn_20, rX9_drawn_23, rX9_drawn_26, rX9_drawn_27, rX9_drawn_28, rX9_drawn_29, rX9_drawn_32, rX9_drawn_35, rX9_drawn_36, true_and, and_true, true_or, or_true, false_or, or_false, Option.toList_some, Option.toList_none, List.nil_append, List.cons_append, zn1, kM hG, zup_def, et, kX9_in, bi_ne0, bi_eq0]
      by_cases c1 : 0 ≤ z ∧ z ≤ 9999
      · rw [if_neg (fun x => x c1)]
        by_cases c2 : 1 ≤ n ∧ n ≤ 60
        · rw [if_neg (fun x => x c2), if_neg (fun x => c ⟨⟨c1, c2⟩, x⟩)]
          exact SR_th hS
        · rw [if_pos c2]
          exact SR_th hS
      · rw [if_pos c1]
        exact SR_th hS
    rw [rX8_drawn_in]
    simp only [rX8_drawn_0, rX8_drawn_1, rX8_drawn_2, rX8_drawn_5, rX8_drawn_8, rX8_drawn_11, rX8_drawn_12, rX8_drawn_13, rX8_drawn_15, rX8_drawn_18, rX8_drawn_21, rX8_drawn_22, rX8_drawn_23, rX8_drawn_24, rX8_drawn_27, rX8_drawn_30, rX8_drawn_31, true_and, and_true, true_or, or_true, false_or, or_false, Option.toList_some, Option.toList_none, List.nil_append, List.cons_append, zn1, sO_0 hG, kX8_within, bi_ne0, bi_eq0]
    by_cases c1 : 0 ≤ z ∧ z ≤ 9999
    · rw [if_neg (fun x => x c1)]
      by_cases c2 : 1 ≤ n ∧ n ≤ 60
      · rw [if_neg (fun x => x c2), if_neg (fun x => c ⟨⟨c1, c2⟩, x⟩)]
        exact hbad
      · rw [if_pos c2]
        exact hbad
    · rw [if_pos c1]
      exact hbad
