/-! draws -/
def fBo (ls : List zLn) : Int → Int := fun k => (ls.getD k.toNat (0, 0, 0, 0, 0)).2.1
def fAm (ls : List zLn) : Int → Int := fun k => (ls.getD k.toNat (0, 0, 0, 0, 0)).2.2.1
def fDu (ls : List zLn) : Int → Int := fun k => (ls.getD k.toNat (0, 0, 0, 0, 0)).2.2.2.1
theorem f_cor {xs ys : List zLn} (h : xs.map cor = ys.map cor) : fBo xs = fBo ys ∧ fAm xs = fAm ys ∧ fDu xs = fDu ys := by
  refine ⟨?_, ?_, ?_⟩
  · funext k
    exact (cor_eq (cor_getD h _)).2.1
  · funext k
    exact (cor_eq (cor_getD h _)).2.2.1
  · funext k
    exact (cor_eq (cor_getD h _)).2.2.2
theorem f_LA {H : zH} {o : Nat} {ls : List zLn} (h : LA H o ls) {k : Nat} (hk : k < ls.length) : H (o + 4) k = fBo ls k ∧ H (o + 5) k = fAm ls k ∧ H (o + 6) k = fDu ls k := by
  have := LA_get h hk
  exact ⟨this.2.1, this.2.2.1, this.2.2.2.1⟩
theorem f_LM {a nm : Int → Int} {ls : List zLn} (h : LM a nm ls) {k : Nat} (hk : k < ls.length) : mBo a k = fBo ls k ∧ mAm a k = fAm ls k ∧ mDu a k = fDu ls k := by
  have := h.2 k (ls.getD k (0, 0, 0, 0, 0)) (by rw [List.getD_eq_getElem?_getD, List.getElem?_eq_getElem hk]; rfl)
  exact ⟨this.2.1, this.2.2.1, this.2.2.2.1⟩
def lnd (B : sB) (i j a d : Int) : sB := ((smv B.1.1 i j a, B.1.2.1, B.1.2.2), B.2 ++ [(i, j, a, d, 0)])
noncomputable def drh (P law r z : Int) (t : Nat) (B : sB) : Int := shind P law r B.2.length B.1.1 (fBo B.2) (fAm B.2) (fDu B.2) (zdrw z t 0 % P) (zdrw z t 1 % P) (1 + zdrw z t 2 % 20) (1 + zdrw z t 3 % 30)
noncomputable def drB (P law r z : Int) (t : Nat) (B : sB) : sB := if drh P law r z t B = 0 then lnd B (zdrw z t 0 % P) (zdrw z t 1 % P) (1 + zdrw z t 2 % 20) (1 + zdrw z t 3 % 30) else B
noncomputable def drN (P law r kind z : Int) : Nat → sB → sB
  | 0, B => B
  | n + 1, B => wk1 P r kind (drB P law r z n (drN P law r kind z n B))
theorem sgb_gt {law r : Int} {n : Nat} {w bo am du : Int → Int} {i j a d : Int} (h : sgb law r n w bo am du i j a d ≠ 0) : a < w i := by
  unfold sgb at h
  by_cases z : a < w i
  · exact z
  · exfalso
    apply h
    by_cases l0 : law = 0
    · rw [if_pos l0, if_neg (fun w => z w.1)]
    · rw [if_neg l0]
      by_cases l1 : law = 1
      · rw [if_pos l1, if_neg z]
      · rw [if_neg l1]
theorem shind_0 {P law r : Int} {n : Nat} {w bo am du : Int → Int} {i j a d : Int} : shind P law r n w bo am du i j a d = 0 ↔ (((i ≠ j ∧ ((0 ≤ i ∧ i < P) ∧ 0 < w i)) ∧ ((0 ≤ j ∧ j < P) ∧ 0 < w j) ∧ ((1 ≤ a ∧ a ≤ 200) ∧ (1 ≤ d ∧ d ≤ 200))) ∧ sgb law r n w bo am du i j a d ≠ 0 ∧ (n : Int) < 8) := by
  unfold shind
  by_cases c : (i ≠ j ∧ ((0 ≤ i ∧ i < P) ∧ 0 < w i)) ∧ ((0 ≤ j ∧ j < P) ∧ 0 < w j) ∧ ((1 ≤ a ∧ a ≤ 200) ∧ (1 ≤ d ∧ d ≤ 200))
  · rw [if_pos c]
    by_cases c1 : sgb law r n w bo am du i j a d = 0
    · rw [if_pos c1]
      exact ⟨fun z => by omega, fun z => absurd c1 z.2.1⟩
    · rw [if_neg c1]
      by_cases c2 : (n : Int) < 8
      · rw [if_pos c2]
        exact ⟨fun _ => ⟨c, c1, c2⟩, fun _ => rfl⟩
      · rw [if_neg c2]
        exact ⟨fun z => by omega, fun z => absurd z.2.2 c2⟩
  · rw [if_neg c]
    exact ⟨fun z => by omega, fun z => absurd z.1 c⟩
theorem shind_ag {P law r : Int} {n : Nat} {w w' bo am du bo' am' du' : Int → Int} {i j a d : Int} (hP : P ≤ 6) (h : ag6 w w') (h1 : ∀ k : Nat, k < n → bo k = bo' k) (h2 : ∀ k : Nat, k < n → am k = am' k) (h3 : ∀ k : Nat, k < n → du k = du' k) : shind P law r n w bo am du i j a d = 0 ↔ shind P law r n w' bo' am' du' i j a d = 0 := by
  rw [shind_0, shind_0, fit_ag hP h]
  constructor
  · rintro ⟨c, c1, c2⟩
    rw [sgb_congr (h i (by omega) (by omega)) (h j (by omega) (by omega)) h1 h2 h3] at c1
    exact ⟨c, c1, c2⟩
  · rintro ⟨c, c1, c2⟩
    rw [← sgb_congr (h i (by omega) (by omega)) (h j (by omega) (by omega)) h1 h2 h3] at c1
    exact ⟨c, c1, c2⟩
theorem lnd_ok {P law r : Int} {B : sB} {i j a d : Int} (hP : P ≤ 6) (hb : bok P B) (h : shind P law r B.2.length B.1.1 (fBo B.2) (fAm B.2) (fDu B.2) i j a d = 0) : bok P (lnd B i j a d) := by
  obtain ⟨c, c1, c2⟩ := shind_0.mp h
  have hai := sgb_gt c1
  refine ⟨⟨fun p p0 p1 => ?_, ?_⟩, ?_, fun x hx => ?_⟩
  · have hp := hb.1.1 p p0 p1
    have hj := hb.1.1 j (by omega) (by omega)
    show 0 ≤ smv B.1.1 i j a p
    unfold smv
    simp only [zfu_at]
    repeat' split
    all_goals omega
  · show ssum (smv B.1.1 i j a) ≤ 6000
    rw [ssum_mv (by omega) (by omega) (by omega) (by omega)]
    exact hb.1.2
  · show (B.2 ++ [_]).length ≤ 8
    simp
    omega
  · rcases List.mem_append.mp hx with z | z
    · exact hb.2.2 x z
    · simp at z
      subst z
      exact ⟨⟨c.1.2.1, c.2.1.1, c.2.2.1, by show (0 : Int) ≤ 0; omega, by show (0 : Int) < 8; omega⟩, c.2.2.2⟩
theorem drB_ok {P law r z : Int} {t : Nat} {B : sB} (hP : P ≤ 6) (hb : bok P B) : bok P (drB P law r z t B) := by
  unfold drB
  split
  · rename_i c
    exact lnd_ok hP hb c
  · exact hb
theorem drN_ok {P law r kind z : Int} (hP : P ≤ 6) (r0 : 0 ≤ r) (r1 : r ≤ 99) : ∀ (n : Nat) {B : sB}, bok P B → bok P (drN P law r kind z n B)
  | 0, B, h => h
  | n + 1, B, h => leap_ok hP r0 r1 (by omega) (drB_ok hP (drN_ok hP r0 r1 n h))
theorem agw.sm {s t : sT} (h : agw s t) : agw t s := fun p a b => ⟨(h p a b).1.symm, (h p a b).2.symm⟩
theorem agw.rf {s : sT} : agw s s := fun _ _ _ => ⟨rfl, rfl⟩
/-- weeks do not look at marks -/
theorem wk1_cor {P r kind : Int} (hP : P ≤ 6) {A B : sB} (h : agw A.1 B.1) (hc : A.2.map cor = B.2.map cor) (hA : ∀ x ∈ A.2, lok P x) (hB : ∀ x ∈ B.2, lok P x) : agw (wk1 P r kind A).1 (wk1 P r kind B).1 ∧ (wk1 P r kind A).2.map cor = (wk1 P r kind B).2.map cor := by
  have hc1 := sdn_cor (n := 1) _ _ hc
  have hl : ∀ {C : sB}, (∀ x ∈ C.2, lok P x) → ∀ y ∈ C.2.map (sdn 1), lok P y := fun {C} hC y hy => by
    obtain ⟨x, hx, rfl⟩ := List.mem_map.mp hy
    exact hC x hx
  refine ⟨?_, filter_cor _ _ hc1⟩
  have a1 : agw (msend P r kind (swkS P 1 A.1) (A.2.map (sdn 1))) (send P r kind (swkS P 1 A.1) (A.2.map (sdn 1))) := msend_cor hP agw.rf rfl (hl hA)
  have a2 : agw (msend P r kind (swkS P 1 A.1) (A.2.map (sdn 1))) (send P r kind (swkS P 1 B.1) (B.2.map (sdn 1))) := msend_cor hP (swkS_w h) hc1 (hl hB)
  exact a1.sm.tr a2
/-- a trial's books, but for marks -/
def TC (t : Nat) (H : zH) (B : sB) : Prop := agw (H (t + 2 + 1), H (t + 2 + 2), H (t + 2 + 8)) B.1 ∧ (∃ ls : List zLn, LA H (t + 2) ls ∧ ls.map cor = B.2.map cor) ∧ mk8 (H (t + 2 + 7))
theorem TC_bok {P : Int} {t : Nat} {H : zH} {B : sB} {ls : List zLn} (hb : bok P B) (h : agw (H (t + 2 + 1), H (t + 2 + 2), H (t + 2 + 8)) B.1) (hL : LA H (t + 2) ls) (hc : ls.map cor = B.2.map cor) (hm : mk8 (H (t + 2 + 7))) : bok P ((H (t + 2 + 1), H (t + 2 + 2), H (t + 2 + 8)), ls) := by
  have hl : ls.length = B.2.length := by simpa using congrArg List.length hc
  refine ⟨sWok_ag (fun p p0 p1 => (h p p0 p1).1) hb.1, by rw [hl]; exact hb.2.1, fun x hx => ?_⟩
  obtain ⟨j, hj, rfl⟩ := List.getElem_of_mem hx
  have hj : j < ls.length := hj
  have hjB : j < B.2.length := by omega
  have e : cor ls[j] = cor B.2[j] := by
    have := congrArg (fun l => l[j]?) hc
    simpa [List.getElem?_eq_getElem hj, List.getElem?_eq_getElem hjB] using this
  show lok P ls[j] ∧ 1 ≤ ls[j].2.2.2.1 ∧ ls[j].2.2.2.1 ≤ 200
  obtain ⟨e1, e2, e3, e4⟩ := cor_eq e
  obtain ⟨⟨c1, c2, c3, -⟩, c4⟩ := hb.2.2 _ (List.getElem_mem hjB)
  have hmj := hm j (by omega) (by have := hb.2.1; omega)
  rw [(hL.2 j _ (List.getElem?_eq_getElem hj)).2.2.2.2] at hmj
  refine ⟨⟨?_, ?_, ?_, hmj⟩, ?_⟩
  · rw [e1]; exact c1
  · rw [e2]; exact c2
  · rw [e3]; exact c3
  · rw [e4]; exact c4
theorem kadvC {P r kind : Int} {t : Nat} {B : sB} {G : zG} {H : zH} {Q' : Option zV → zG → zH → Prop} (hG : zOK G) (ht : isTr t) (hT : tOK H) (eP : H 3 1 = P) (er : H 3 2 = r) (ek : H 3 3 = kind) (hB : TC t H B) (hb : bok P B)
    (hq : ∀ H' : zH, frT t H H' → TC t H' (wk1 P r kind B) → Q' none G H') : zCall qX7_advance [vr t, vi 1] G H Q' := by
  obtain ⟨ha, ⟨ls, hL, hc⟩, hm⟩ := hB
  have P1 : P ≤ 6 := by rw [← eP]; exact hT.1.2
  have hb' := TC_bok hb ha hL hc hm
  refine kX7_advance (n := 1) (B := ((H (t + 2 + 1), H (t + 2 + 2), H (t + 2 + 8)), ls)) hG ht hT eP er ek ⟨agS.rf, hL⟩ hb' (by omega) (fun H' f b d m => hq H' f ?_)
  have hw := wk1_cor (kind := kind) (r := r) P1 ha hc (fun x hx => (hb'.2.2 x hx).1) (fun x hx => (hb.2.2 x hx).1)
  exact ⟨b.1.w.tr hw.1, ⟨_, b.2, hw.2⟩, m hm⟩
theorem drw_mod {z : Int} {t : Nat} {k m : Int} (h1 : 0 ≤ z) (h2 : z ≤ 9999) (h4 : t < 60) (h5 : 0 ≤ k) (h6 : k ≤ 3) (m0 : 0 < m) (m1 : m ≤ 1000) : zrem (zdrw z t k) m = zdrw z t k % m ∧ 0 ≤ zdrw z t k % m ∧ zdrw z t k % m < m := by
  have := zdrw_rng (z := z) (t := (t : Int)) (k := k) h1 h2 (by omega) (by omega) h5 h6
  refine ⟨zrem_pos this.1 (by omega) m0 (by omega), Int.emod_nonneg _ (by omega), Int.emod_lt_of_pos _ m0⟩
theorem kldraw {P r law z : Int} {t : Nat} {B : sB} {G : zG} {H : zH} {Q' : Option zV → zG → zH → Prop} (hG : zOK G) (hT : tOK H) (eP : H 3 1 = P) (er : H 3 2 = r) (el : H 3 4 = law) (hB : TC 16 H B) (hb : bok P B) (z0 : 0 ≤ z) (z1 : z ≤ 9999) (ht : t < 60)
    (hq : ∀ H' : zH, frT 16 H H' → TC 16 H' (drB P law r z t B) → Q' none G H') : zCall qX8_lendByDraw [vr 0, vr 18, vi z, vi (t : Int)] G H Q' := by
  obtain ⟨ha, ⟨ls, hL, hc⟩, hm⟩ := hB
  have hT' := hT
  obtain ⟨⟨P0, P1⟩, -⟩ := hT'
  have hl : ls.length = B.2.length := by simpa using congrArg List.length hc
  have h8 : ls.length ≤ 8 := by rw [hl]; exact hb.2.1
  obtain ⟨g1, g2, g3⟩ := f_cor hc
  have ag : ag6 (H (16 + 2 + 1)) B.1.1 := fun p p0 p1 => (ha p p0 p1).1
  have n0 : H 3 1 ≠ 0 := by omega
  have m0 := drw_mod (t := t) (k := 0) z0 z1 ht (by omega) (by omega) (show 0 < H 3 1 by omega) (by omega)
  have m1 := drw_mod (t := t) (k := 1) z0 z1 ht (by omega) (by omega) (show 0 < H 3 1 by omega) (by omega)
  have m2 := drw_mod (t := t) (k := 2) (m := 20) z0 z1 ht (by omega) (by omega) (by omega) (by omega)
  have m3 := drw_mod (t := t) (k := 3) (m := 30) z0 z1 ht (by omega) (by omega) (by omega) (by omega)
  have e2 := zw_id (z := 1 + zdrw z t 2 % 20) (by omega) (by omega)
  have e3 := zw_id (z := 1 + zdrw z t 3 % 30) (by omega) (by omega)
  rw [rX8_lendByDraw_in]
  simp only [rX8_lendByDraw_0, rX8_lendByDraw_1, rX8_lendByDraw_4, rX8_lendByDraw_7, rX8_lendByDraw_9, rX8_lendByDraw_11, rX8_lendByDraw_12, rX8_lendByDraw_15, rX8_lendByDraw_16, rX8_lendByDraw_17, rX8_lendByDraw_18, rX8_lendByDraw_19, rX8_lendByDraw_22, rX8_lendByDraw_24, rX8_lendByDraw_25, rX8_lendByDraw_27, rX8_lendByDraw_28, rX8_lendByDraw_29, rX8_lendByDraw_30, rX8_lendByDraw_33, rX8_lendByDraw_35, rX8_lendByDraw_36, rX8_lendByDraw_38, rX8_lendByDraw_39, rX8_lendByDraw_40, rX8_lendByDraw_41, rX8_lendByDraw_42, rX8_lendByDraw_45, rX8_lendByDraw_47, rX8_lendByDraw_48, rX8_lendByDraw_49, rX8_lendByDraw_51, rX8_lendByDraw_52, rX8_lendByDraw_53, rX8_lendByDraw_54, rX8_lendByDraw_55, rX8_lendByDraw_58, rX8_lendByDraw_60, rX8_lendByDraw_61, rX8_lendByDraw_62, rX8_lendByDraw_64, rX8_lendByDraw_65, rX8_lendByDraw_67, rX8_lendByDraw_69, rX8_lendByDraw_71, rX8_lendByDraw_73, rX8_lendByDraw_76, rX8_lendByDraw_79, rX8_lendByDraw_80, rX8_lendByDraw_82, rX8_lendByDraw_84, rX8_lendByDraw_86, rX8_lendByDraw_88, rX8_lendByDraw_91, true_and, and_true, true_or, or_true, false_or, or_false, Option.toList_some, Option.toList_none, List.nil_append, List.cons_append, zn1, sO_0 hG, sO_3 hG, kX8_draw, m0.1, m1.1, m2.1, m3.1, e2, e3, ne_eq, n0, not_false_eq_true, Int.reduceEq, kB hG bk18, kX0_hindrance (n := ls.length) hG bk18 hL.1 h8 P0 P1]
  rw [if_pos P0]
  have hsh : shind (H 3 1) (H 3 4) (H 3 2) ls.length (H (18 + 1)) (H (18 + 4)) (H (18 + 5)) (H (18 + 6)) (zdrw z t 0 % H 3 1) (zdrw z t 1 % H 3 1) (1 + zdrw z t 2 % 20) (1 + zdrw z t 3 % 30) = 0 ↔ drh P law r z t B = 0 := by
    unfold drh
    rw [eP, er, el, ← hl]
    refine shind_ag (by omega) ag (fun k hk => ?_) (fun k hk => ?_) (fun k hk => ?_)
    · rw [← g1]
      exact (f_LA hL hk).1
    · rw [← g2]
      exact (f_LA hL hk).2.1
    · rw [← g3]
      exact (f_LA hL hk).2.2
  by_cases c : drh P law r z t B = 0
  · have c' := hsh.mpr c
    rw [if_neg (fun x => x c')]
    obtain ⟨f1, f2, f3⟩ := shind_0.mp c'
    refine kX0_addLoan (n := ls.length) hG bk18 hL.1 (by omega) (sWok_ag ag hb.1) (by omega) (by omega) (by omega) (by omega) (by omega) (by omega) (fun H2 fr2 w2 l2 k2 p2 n2 g2 o2 a2 => ?_)
    simp only [rX8_lendByDraw_0, rX8_lendByDraw_1, rX8_lendByDraw_4, rX8_lendByDraw_7, rX8_lendByDraw_9, rX8_lendByDraw_11, rX8_lendByDraw_12, rX8_lendByDraw_15, rX8_lendByDraw_16, rX8_lendByDraw_17, rX8_lendByDraw_18, rX8_lendByDraw_19, rX8_lendByDraw_22, rX8_lendByDraw_24, rX8_lendByDraw_25, rX8_lendByDraw_27, rX8_lendByDraw_28, rX8_lendByDraw_29, rX8_lendByDraw_30, rX8_lendByDraw_33, rX8_lendByDraw_35, rX8_lendByDraw_36, rX8_lendByDraw_38, rX8_lendByDraw_39, rX8_lendByDraw_40, rX8_lendByDraw_41, rX8_lendByDraw_42, rX8_lendByDraw_45, rX8_lendByDraw_47, rX8_lendByDraw_48, rX8_lendByDraw_49, rX8_lendByDraw_51, rX8_lendByDraw_52, rX8_lendByDraw_53, rX8_lendByDraw_54, rX8_lendByDraw_55, rX8_lendByDraw_58, rX8_lendByDraw_60, rX8_lendByDraw_61, rX8_lendByDraw_62, rX8_lendByDraw_64, rX8_lendByDraw_65, rX8_lendByDraw_67, rX8_lendByDraw_69, rX8_lendByDraw_71, rX8_lendByDraw_73, rX8_lendByDraw_76, rX8_lendByDraw_79, rX8_lendByDraw_80, rX8_lendByDraw_82, rX8_lendByDraw_84, rX8_lendByDraw_86, rX8_lendByDraw_88, rX8_lendByDraw_91, true_and, and_true, true_or, or_true, false_or, or_false, Option.toList_some, Option.toList_none, List.nil_append, List.cons_append, zn1]
    refine hq H2 (fun b hb' => fr2 b (by omega)) ⟨?_, ?_, ?_⟩
    · unfold drB
      rw [if_pos c]
      intro p p0 p1
      show H2 (18 + 1) p = smv B.1.1 _ _ _ p ∧ H2 (18 + 2) p = B.1.2.1 p
      rw [w2, l2]
      have m0' := m0.2
      have m1' := m1.2
      rw [eP] at m0' m1' ⊢
      exact ⟨smv_ag ag (Or.inr ⟨m0'.1, by omega⟩) m1'.1 (by omega) p p0 p1, (ha p p0 p1).2⟩
    · unfold drB
      rw [if_pos c]
      refine ⟨ls ++ [(zdrw z t 0 % P, zdrw z t 1 % P, 1 + zdrw z t 2 % 20, 1 + zdrw z t 3 % 30, H (18 + 7) ls.length)], ⟨?_, fun k x hx => ?_⟩, ?_⟩
      · show H2 18 9 = _
        rw [n2]
        simp
      · show AR H2 18 k x
        have k7 : H2 (18 + 7) = H (18 + 7) := k2
        rcases Nat.lt_or_ge k ls.length with q | q
        · rw [List.getElem?_append_left q] at hx
          obtain ⟨o1, o2', o3, o4⟩ := o2 k q
          have := hL.2 k x hx
          unfold AR at this ⊢
          rw [o1, o2', o3, o4, k7]
          exact this
        · have hkl : k = ls.length := by
            have := (List.getElem?_eq_some_iff.mp hx).1
            simp at this
            omega
          subst hkl
          simp at hx
          subst hx
          obtain ⟨o1, o2', o3, o4⟩ := a2
          unfold AR
          rw [o1, o2', o3, o4, k7, eP]
          exact ⟨rfl, rfl, rfl, rfl, rfl⟩
      · unfold lnd
        rw [List.map_append, List.map_append, hc]
        rfl
    · have k7 : H2 (16 + 2 + 7) = H (16 + 2 + 7) := k2
      rw [k7]
      exact hm
  · rw [if_pos (fun x => c (hsh.mp x))]
    refine hq H (fun _ _ => rfl) ⟨?_, ?_, hm⟩
    · unfold drB
      rw [if_neg c]
      exact ha
    · unfold drB
      rw [if_neg c]
      exact ⟨ls, hL, hc⟩
theorem kX8_drawn {P r law kind z : Int} {n : Nat} {w : Int} {cs : List zCo} {G : zG} {H : zH} {Q' : Option zV → zG → zH → Prop} (hG : zOK G) (hT : tOK H) (eP : H 3 1 = P) (er : H 3 2 = r) (ek : H 3 3 = kind) (el : H 3 4 = law) (hB : EB (H 3 1) H 7 (H 134) cs) (z0 : 0 ≤ z) (z1 : z ≤ 9999) (n0 : 1 ≤ n) (n1 : n ≤ 60) (w0 : 0 ≤ w) (w1 : w ≤ 1)
    (hq : ∀ H' : zH, frT 16 H H' → Q' (some (vi (if w = 0 then slive P (drN P law r kind z n (B0 H cs)).1.1 else slost P (drN P law r kind z n (B0 H cs)).1.2.1))) G H') : zCall qX8_drawn [vr 0, vi z, vi (n : Int), vi w] G H Q' := by
  have hT' := hT
  obtain ⟨⟨P0, P1⟩, ⟨r0, r1⟩, -⟩ := hT'
  rw [eP] at P0 P1
  rw [er] at r0 r1
  have hb0 := B0_ok hB
  rw [eP] at hb0
  rw [rX8_drawn_in]
  simp only [rX8_drawn_0, rX8_drawn_1, rX8_drawn_2, rX8_drawn_5, rX8_drawn_8, rX8_drawn_11, rX8_drawn_12, rX8_drawn_13, rX8_drawn_15, rX8_drawn_18, rX8_drawn_21, rX8_drawn_22, rX8_drawn_23, rX8_drawn_24, rX8_drawn_27, rX8_drawn_32, rX8_drawn_33, rX8_drawn_36, rX8_drawn_37, rX8_drawn_40, true_and, and_true, true_or, or_true, false_or, or_false, Option.toList_some, Option.toList_none, List.nil_append, List.cons_append, zn1, sO_0 hG, kX8_within, bi_ne0, bi_eq0, kTr hG tr16]
  rw [if_neg (fun x => x ⟨z0, z1⟩), if_neg (fun x => x (by omega)), if_pos ⟨w0, w1⟩]
  have hB' := hB
  obtain ⟨⟨h8, hc⟩, hb1, hb2, hb3, hb4, hb5⟩ := hB'
  refine kX7_start hG tr16 bk7 (by omega) (by rw [eP]; exact P0) (by rw [eP]; exact P1) (LA_of hb1) (by rw [wm_len]; exact h8) (fun H1 f1 w1' q1 l1 t1 d1 m1 => ?_)
  rw [mkL_wm] at l1
  simp only [rX8_drawn_43, rX8_drawn_44, true_and, and_true, true_or, or_true, false_or, or_false, Option.toList_some, Option.toList_none, List.nil_append, List.cons_append, zn1]
  have loop : ∀ (m k : Nat) (H2 : zH), k + m = n → frT 16 H H2 → TC 16 H2 (drN P law r kind z k (B0 H cs)) → zRun qX8_drawn 46 [vr 0, vi z, vi (n : Int), vi w, vi (k : Int)] [] G H2 Q' := by
    intro m
    induction m with
    | zero =>
      intro k H2 hk f2 b2
      have : k = n := by omega
      subst this
      have e23 : H2 3 = H 3 := f2 3 (by omega)
      have q3 : H2 3 1 = P := by rw [e23]; exact eP
      have a1 : ag6 (H2 (18 + 1)) (drN P law r kind z k (B0 H cs)).1.1 := fun p p0 p1 => (b2.1 p p0 p1).1
      have a2 : ag6 (H2 (18 + 2)) (drN P law r kind z k (B0 H cs)).1.2.1 := fun p p0 p1 => (b2.1 p p0 p1).2
      have fin := hq H2 f2
      rw [rX8_drawn_46]
      simp only [rX8_drawn_48, rX8_drawn_49, rX8_drawn_80, rX8_drawn_81, rX8_drawn_84, rX8_drawn_85, rX8_drawn_88, rX8_drawn_91, rX8_drawn_94, rX8_drawn_97, rX8_drawn_98, rX8_drawn_101, rX8_drawn_104, rX8_drawn_107, true_and, and_true, true_or, or_true, false_or, or_false, Option.toList_some, Option.toList_none, List.nil_append, List.cons_append, zn1, sO_0 hG, kTr hG tr16, kB hG bk18, kX0_living hG bk18 (show 1 ≤ H2 3 1 by omega) (show H2 3 1 ≤ 6 by omega), kX0_lostByAll hG bk18 (show 1 ≤ H2 3 1 by omega) (show H2 3 1 ≤ 6 by omega), q3]
      rw [if_pos (by omega), slive_ag P1 a1, slost_ag P1 a2]
      by_cases c : w = 0
      · rw [if_neg (fun x => x c)]
        rw [if_pos c] at fin
        exact fin
      · rw [if_pos c]
        rw [if_neg c] at fin
        exact fin
    | succ m ih =>
      intro k H2 hk f2 b2
      have e23 : H2 3 = H 3 := f2 3 (by omega)
      have hT2 : tOK H2 := by
        unfold tOK at hT ⊢
        rw [e23]
        exact hT
      have hbk := drN_ok (law := law) (kind := kind) (z := z) P1 r0 r1 k hb0
      rw [rX8_drawn_46]
      simp only [rX8_drawn_48, rX8_drawn_49, rX8_drawn_52, rX8_drawn_53, rX8_drawn_54, rX8_drawn_57, rX8_drawn_60, rX8_drawn_61, rX8_drawn_63, true_and, and_true, true_or, or_true, false_or, or_false, Option.toList_some, Option.toList_none, List.nil_append, List.cons_append, zn1, sO_0 hG, kTr hG tr16]
      rw [if_neg (by omega)]
      refine kldraw (P := P) (r := r) (law := law) (B := drN P law r kind z k (B0 H cs)) hG hT2 (by rw [e23]; exact eP) (by rw [e23]; exact er) (by rw [e23]; exact el) b2 hbk z0 z1 (by omega) (fun H3 f3 b3 => ?_)
      have e33 : H3 3 = H 3 := by rw [f3 3 (by omega), e23]
      have hT3 : tOK H3 := by
        unfold tOK at hT ⊢
        rw [e33]
        exact hT
      simp only [rX8_drawn_66, rX8_drawn_67, rX8_drawn_70, rX8_drawn_71, true_and, and_true, true_or, or_true, false_or, or_false, Option.toList_some, Option.toList_none, List.nil_append, List.cons_append, zn1, sO_0 hG, kTr hG tr16]
      refine kadvC (P := P) (r := r) (kind := kind) hG tr16 hT3 (by rw [e33]; exact eP) (by rw [e33]; exact er) (by rw [e33]; exact ek) b3 (drB_ok P1 hbk) (fun H4 f4 b4 => ?_)
      simp only [rX8_drawn_74, rX8_drawn_77, true_and, and_true, true_or, or_true, false_or, or_false, Option.toList_some, Option.toList_none, List.nil_append, List.cons_append, zn1, zwk (show k < 2000000000 by omega)]
      exact ih (k + 1) H4 (by omega) ((f2.tr f3).tr f4) b4
  exact loop n 0 H1 (by omega) f1 ⟨w1', ⟨_, l1, rfl⟩, m1⟩
