/-! who dies when; books run -/
def B0 (H : zH) (cs : List zCo) : sB := ((H 8, H 9, fun _ => 0), wm (fun k => k) 0 cs)
theorem mkL_wm {f : Int → Int} : ∀ (k : Nat) (cs : List zCo), mkL k (wm f k cs) = wm (fun k => k) k cs
  | k, [] => rfl
  | k, c :: r => by
    show _ :: mkL (k + 1) (wm f (k + 1) r) = _ :: wm (fun k => k) (k + 1) r
    rw [mkL_wm]
theorem B0_ok {H : zH} {cs : List zCo} (hB : EB (H 3 1) H 7 (H 134) cs) : bok (H 3 1) (B0 H cs) := by
  obtain ⟨⟨h8, hc⟩, hb1, hb2, hb3, hb4, hb5⟩ := hB
  exact bok_wm h8 hc (sWok_ag (fun p p0 p1 => (hb3 p p0 p1).1) hb4) (fun k k0 k1 => ⟨k0, k1⟩)
theorem B0_mz {H : zH} {cs : List zCo} : mz (B0 H cs) := by
  refine ⟨?_, fun x _ => rfl⟩
  have key : ∀ (cs : List zCo) (k : Nat), ((wm (fun k => k) k cs).map mrk).Nodup ∧ ∀ x ∈ (wm (fun k => k) k cs).map mrk, (k : Int) ≤ x := by
    intro cs
    induction cs with
    | nil => exact fun k => ⟨List.nodup_nil, fun x hx => by simp [wm] at hx⟩
    | cons c r ih =>
      intro k
      obtain ⟨h1, h2⟩ := ih (k + 1)
      show ((k : Int) :: (wm (fun k => k) (k + 1) r).map mrk).Nodup ∧ _
      refine ⟨List.nodup_cons.mpr ⟨fun z => by have := h2 _ z; omega, h1⟩, fun x hx => ?_⟩
      rcases List.mem_cons.mp hx with rfl | hx
      · exact Int.le_refl _
      · have := h2 x hx
        omega
  exact (key cs 0).1
theorem dOK_0 {P r kind p : Int} {B : sB} : dOK P r kind B 0 p (if p < P ∧ 0 < B.1.1 p then 1000000 else 0) := by
  by_cases c : p < P ∧ 0 < B.1.1 p
  · rw [if_pos c]
    refine Or.inl ⟨fun j hj => ?_, rfl⟩
    have : j = 0 := by omega
    subst this
    exact c
  · rw [if_neg c]
    exact Or.inr ⟨0, Nat.le_refl _, rfl, c, fun i hi => by omega⟩
theorem kstart {t : Nat} {cs : List zCo} {G : zG} {H : zH} {Q' : Option zV → zG → zH → Prop} (hG : zOK G) (ht : isTr t) (h1 : 1 ≤ H 3 1) (h2 : H 3 1 ≤ 6) (hB : EB (H 3 1) H 7 (H 134) cs)
    (hq : ∀ H1 : zH, frT t H H1 → TB t H1 (B0 H cs) → H1 t 2 = 0 → (∀ r kind p : Int, 0 ≤ p → p < 6 → dOK (H 3 1) r kind (B0 H cs) 0 p (H1 (t + 1) p)) → Q' none G H1) : zCall qX7_start [vr t, vr 7] G H Q' := by
  have hb := tr_ge ht
  obtain ⟨⟨h8, hc⟩, hb1, hb2, hb3, hb4, hb5⟩ := hB
  refine kX7_start hG ht bk7 (by omega) h1 h2 (LA_of hb1) (by rw [wm_len]; exact h8) (fun H1 f1 w1 q1 l1 t1 d1 _ => ?_)
  rw [mkL_wm] at l1
  refine hq H1 f1 ⟨⟨w1, fun k k0 k1 => q1 k k0 k1⟩, l1⟩ t1 (fun r kind p p0 p1 => ?_)
  rw [d1 p p0 p1]
  exact dOK_0
theorem kadv {t n : Nat} {B : sB} {P r kind : Int} {G : zG} {H : zH} {Q' : Option zV → zG → zH → Prop} (hG : zOK G) (ht : isTr t) (hT : tOK H) (eP : H 3 1 = P) (er : H 3 2 = r) (ek : H 3 3 = kind) (hB : TB t H B) (hb : bok P B) (hn : n ≤ 2000) (h0 : H t 2 = 0) (hd : ∀ p : Int, 0 ≤ p → p < 6 → dOK P r kind B 0 p (H (t + 1) p))
    (hq : ∀ H' : zH, frT t H H' → TB t H' (wkn P r kind n B) → (∀ p : Int, 0 ≤ p → p < 6 → dOK P r kind B n p (H' (t + 1) p)) → Q' none G H') : zCall qX7_advance [vr t, vi (n : Int)] G H Q' := by
  refine kX7_advance hG ht hT eP er ek hB hb hn (fun H' f b d _ => hq H' f b ?_)
  have := (d B 0 rfl hb (by rw [h0]; rfl) (by omega) hd).2
  rw [Nat.zero_add] at this
  exact this
theorem ksC_T {H H' : zH} (h : ∀ b : Nat, b < 16 ∨ 37 < b → H' b = H b) : ksC H H' := ⟨fun b hb => h b (by omega), by rw [h 1 (by omega)], fun b hb => h b (by omega)⟩
/-- the model's books aside -/
def asd (H : zH) : zH := zset (th0 H) 135 (cpyo (th0 H 135) (th0 H 134) 0 46)
theorem asd_ne {H : zH} {b : Nat} (h1 : b ≠ 130) (h2 : b ≠ 135) : asd H b = H b := by
  unfold asd
  rw [zset_ne h2, th0_ne h1]
theorem asd_130 {H : zH} {q : Int} (hq : q ≠ 0) : asd H 130 q = H 130 q := by
  unfold asd
  rw [zset_ne (by omega), th0_130 hq]
theorem asd_135 {H : zH} {i : Int} (h0 : 0 ≤ i) (h1 : i < 46) : asd H 135 i = H 134 i := by
  unfold asd
  rw [zset_eq, cpyo_in0 h0 h1, th0_ne (by omega)]
/-- and back -/
def bck (H : zH) : zH := zset H 134 (cpyo (H 134) (H 135) 0 46)
theorem ks_aside {H H' : zH} (h : frM (asd H) H') (hn : nmok (H' 139)) : ksM H (bck H') := by
  unfold bck
  refine ⟨fun b hb => ?_, ⟨?_, ?_, ?_, ?_, ?_⟩, fun i i0 i1 => ?_, fun i i0 _ _ => ?_, ?_⟩
  · rw [zset_ne (by omega), h b (by omega) (by omega) (by omega), asd_ne (by omega) (by omega)]
  · rw [zset_ne (by omega), h _ (by omega) (by omega) (by omega), asd_ne (by omega) (by omega)]
  · rw [zset_ne (by omega), h _ (by omega) (by omega) (by omega), asd_ne (by omega) (by omega)]
  · rw [zset_ne (by omega), h _ (by omega) (by omega) (by omega), asd_ne (by omega) (by omega)]
  · rw [zset_ne (by omega), h _ (by omega) (by omega) (by omega), asd_ne (by omega) (by omega)]
  · rw [zset_ne (by omega), h _ (by omega) (by omega) (by omega), asd_ne (by omega) (by omega)]
  · rw [zset_eq, cpyo_in0 i0 i1, h 135 (by omega) (by omega) (by omega), asd_135 i0 i1]
  · rw [zset_ne (by omega), h _ (by omega) (by omega) (by omega), asd_130 i0]
  · rw [zset_ne (by omega)]
    exact hn
theorem MB_0 {H H1 : zH} {cs : List zCo} (hB : EB (H 3 1) H 7 (H 134) cs) (e : H1 134 = H 134) : MB H1 (B0 H cs) := by
  obtain ⟨⟨h8, hc⟩, hb1, hb2, hb3, hb4, hb5⟩ := hB
  refine ⟨fun p p0 p1 => ?_, wm (H1 139) 0 cs, by rw [e]; exact LM_of hb2, ?_⟩
  · show H1 134 p = H 8 p ∧ H1 134 (6 + p) = H 9 p
    rw [e]
    exact ⟨(hb3 p p0 p1).1.symm, (hb3 p p0 p1).2.symm⟩
  · rw [wm_cor]
    exact (wm_cor _ _).symm
theorem tOKm_asd {H H1 : zH} (hT : tOKm H) (h : H1 130 = asd H 130) : tOKm H1 := by
  unfold tOKm at hT ⊢
  rw [h, asd_130 (by omega), asd_130 (by omega), asd_130 (by omega), asd_130 (by omega)]
  exact hT
/-- the week of one's death, of so many -/
def dAns (P r kind : Int) (B : sB) (m : Nat) (p v : Int) : Prop := (v = -4 ∧ ∀ j, j ≤ m → alv P r kind B p j) ∨ ∃ j : Nat, j ≤ m ∧ v = (j : Int) ∧ ¬ alv P r kind B p j ∧ ∀ i, i < j → alv P r kind B p i
theorem dAns_eq {P r kind p v d : Int} {B : sB} {m : Nat} (hm : m ≤ 5000) (hv : dAns P r kind B m p v) (hd : dOK P r kind B m p d) : v = if d = 1000000 then -4 else d := by
  rcases hv with ⟨rfl, h1⟩ | ⟨j, hj, rfl, h2, h3⟩
  · rcases hd with ⟨-, rfl⟩ | ⟨i, hi, rfl, h4, -⟩
    · rw [if_pos rfl]
    · exact absurd (h1 i hi) h4
  · rcases hd with ⟨h4, -⟩ | ⟨i, hi, rfl, h4, h5⟩
    · exact absurd (h4 j hj) h2
    · have : i = j := by
        rcases Nat.lt_trichotomy i j with q | q | q
        · exact absurd (h3 i q) h4
        · exact q
        · exact absurd (h5 j q) h2
      subst this
      rw [if_neg (by omega)]
theorem kX9_dies {P r kind i : Int} {B : sB} {G : zG} {H : zH} {Q' : Option zV → zG → zH → Prop} (hG : zOK G) (hT : tOKm H) (eP : H 130 4 = P) (er : H 130 6 = r) (ek : H 130 7 = kind) (hB : MB (asd H) B) (hb : bok P B) (hn : nmok (H 139)) (i0 : 0 ≤ i) (i1 : i < P)
    (hq : ∀ (H' : zH) (v : Int), ksM H H' → dAns P r kind B 2000 i v → Q' (some (vi v)) G H') : zCall qX9_dies [vr 130, vi i] G H Q' := by
  have et : zset H 130 (zfu (H 130) 0 0) = th0 H := rfl
  have P1 : P ≤ 6 := by rw [← eP]; exact hT.1.2
  have t4 : th0 H 130 4 = P := by rw [th0_130 (by omega)]; exact eP
  have hi46 : 0 ≤ i ∧ i < 46 := by omega
  rw [rX9_dies_in]
  simp only [rX9_dies_0, rX9_dies_1, rX9_dies_2, rX9_dies_5, rX9_dies_6, rX9_dies_7, rX9_dies_10, rX9_dies_13, rX9_dies_14, rX9_dies_15, rX9_dies_16, rX9_dies_17, rX9_dies_20, rX9_dies_21, rX9_dies_23, rX9_dies_26, rX9_dies_29, rX9_dies_30, rX9_dies_33, rX9_dies_34, rX9_dies_35, rX9_dies_38, rX9_dies_39, rX9_dies_42, rX9_dies_45, rX9_dies_48, rX9_dies_49, rX9_dies_52, rX9_dies_53, rX9_dies_54, rX9_dies_57, rX9_dies_59, rX9_dies_62, rX9_dies_63, rX9_dies_64, rX9_dies_65, rX9_dies_66, rX9_dies_69, rX9_dies_70, true_and, and_true, true_or, or_true, false_or, or_false, Option.toList_some, Option.toList_none, List.nil_append, List.cons_append, zn1, kM hG, zup_def, et, kX9_isPerson hG (show 1 ≤ th0 H 130 4 by omega) (show th0 H 130 4 ≤ 6 by omega), bi_ne0, t4, kX9_aside1 hG]
  rw [if_pos ⟨i0, i1⟩]
  have fin : ∀ (k : Nat) (H1 : zH), k ≤ 2000 → frM (asd H) H1 → MB H1 (wkn P r kind k B) → nmok (H1 139) → (∀ j, j < k → alv P r kind B i j) → (k = 2000 ∨ ¬ alv P r kind B i k) → zRun qX9_dies 48 [vr 130, vi i, vi (k : Int)] [] G H1 Q' := by
    intro k H1 hk f1 b1 n1 h1 h2
    have e : 0 < H1 134 i ↔ alv P r kind B i k := by
      have : H1 134 i = (wkn P r kind k B).1.1 i := (b1.1 i i0 (by omega)).1
      rw [this]
      exact ⟨fun z => ⟨i1, z⟩, fun z => z.2⟩
    simp only [rX9_dies_48, rX9_dies_49, rX9_dies_52, rX9_dies_53, rX9_dies_54, rX9_dies_57, rX9_dies_59, rX9_dies_62, rX9_dies_63, rX9_dies_64, rX9_dies_65, rX9_dies_66, rX9_dies_69, rX9_dies_70, true_and, and_true, true_or, or_true, false_or, or_false, Option.toList_some, Option.toList_none, List.nil_append, List.cons_append, zn1, kM hG, hi46, kX9_aside0 hG]
    by_cases c : H1 134 i ≤ 0
    · rw [if_pos c]
      exact hq _ _ (ks_aside f1 n1) (Or.inr ⟨k, hk, rfl, fun z => by have := e.mpr z; omega, h1⟩)
    · rw [if_neg c]
      have hal := e.mp (by omega)
      refine hq _ _ (ks_aside f1 n1) (Or.inl ⟨rfl, fun j hj => ?_⟩)
      rcases h2 with rfl | h2
      · rcases Nat.lt_or_ge j 2000 with q | q
        · exact h1 j q
        · have : j = 2000 := by omega
          subst this
          exact hal
      · exact absurd hal h2
  have loop : ∀ (m k : Nat) (H1 : zH), k + m = 2000 → frM (asd H) H1 → MB H1 (wkn P r kind k B) → nmok (H1 139) → (∀ j, j < k → alv P r kind B i j) → zRun qX9_dies 22 [vr 130, vi i, vi (k : Int)] [] G H1 Q' := by
    intro m
    induction m with
    | zero =>
      intro k H1 hk f1 b1 n1 h1
      rw [rX9_dies_22]
      simp only [rX9_dies_23, rX9_dies_26]
      rw [if_pos (by omega)]
      exact fin k H1 (by omega) f1 b1 n1 h1 (Or.inl (by omega))
    | succ m ih =>
      intro k H1 hk f1 b1 n1 h1
      have e : 0 < H1 134 i ↔ alv P r kind B i k := by
        have : H1 134 i = (wkn P r kind k B).1.1 i := (b1.1 i i0 (by omega)).1
        rw [this]
        exact ⟨fun z => ⟨i1, z⟩, fun z => z.2⟩
      have e130 : H1 130 = asd H 130 := f1 130 (by omega) (by omega) (by omega)
      rw [rX9_dies_22]
      simp only [rX9_dies_23, rX9_dies_26, rX9_dies_29, rX9_dies_30, rX9_dies_33, rX9_dies_34, rX9_dies_35, rX9_dies_38, rX9_dies_39, true_and, and_true, true_or, or_true, false_or, or_false, Option.toList_some, Option.toList_none, List.nil_append, List.cons_append, zn1, kM hG, hi46]
      rw [if_neg (by omega)]
      by_cases c : H1 134 i ≤ 0
      · rw [if_pos c]
        exact fin k H1 (by omega) f1 b1 n1 h1 (Or.inr (fun z => by have := e.mpr z; omega))
      · rw [if_neg c]
        have hal := e.mp (by omega)
        have rr := hT.2.1
        rw [er] at rr
        refine goesB (P := P) (r := r) (kind := kind) hG (tOKm_asd hT e130) (by rw [e130, asd_130 (by omega)]; exact eP) (by rw [e130, asd_130 (by omega)]; exact er) (by rw [e130, asd_130 (by omega)]; exact ek) b1 (wkn_ok P1 rr.1 rr.2 k hb) n1 (fun H2 f2 b2 _ n2 => ?_)
        simp only [rX9_dies_42, rX9_dies_45, true_and, and_true, true_or, or_true, false_or, or_false, Option.toList_some, Option.toList_none, List.nil_append, List.cons_append, zn1, zwk (show k < 2000000000 by omega)]
        refine ih (k + 1) H2 (by omega) (f1.tr f2) (by rw [wkn_succ]; exact b2) n2 (fun j hj => ?_)
        rcases Nat.lt_or_ge j k with q | q
        · exact h1 j q
        · have : j = k := by omega
          subst this
          exact hal
  exact loop 2000 0 (asd H) (by omega) frM.rf hB (by rw [asd_ne (by omega) (by omega)]; exact hn) (fun j hj => by omega)
theorem sim_dies {i : Int} : simOp qX8_dies qX9_dies [vi i] := by
  intro G H h
  have hS := h
  obtain ⟨hG, ht, hx, ⟨⟨cs, hB⟩, hm8, hn8⟩, -⟩ := h
  have hTm := tOKm_of ht
  obtain ⟨hT, ⟨m4, m6, m7, m8⟩, -⟩ := ht
  have hT' := hT
  obtain ⟨⟨P0, P1⟩, ⟨r0, r1⟩, -⟩ := hT'
  rw [rX8_dies_in]
  simp only [rX8_dies_0, rX8_dies_1, rX8_dies_2, rX8_dies_5, rX8_dies_8, rX8_dies_9, rX8_dies_10, rX8_dies_11, rX8_dies_14, rX8_dies_15, rX8_dies_18, rX8_dies_21, rX8_dies_22, rX8_dies_25, rX8_dies_28, rX8_dies_31, rX8_dies_32, rX8_dies_35, rX8_dies_38, rX8_dies_39, rX8_dies_40, rX8_dies_42, rX8_dies_45, rX8_dies_47, rX8_dies_50, rX8_dies_51, rX8_dies_54, rX8_dies_57, rX8_dies_58, rX8_dies_59, true_and, and_true, true_or, or_true, false_or, or_false, Option.toList_some, Option.toList_none, List.nil_append, List.cons_append, zn1, sO_0 hG, kX8_isPerson hG P0 P1, bi_ne0, kTr hG tr16]
  by_cases c : 0 ≤ i ∧ i < H 3 1
  · rw [if_pos c]
    refine kstart hG tr16 P0 P1 hB (fun H1 f1 b1 t1 d1 => ?_)
    have e13 : H1 3 = H 3 := f1 3 (by omega)
    have hT1 : tOK H1 := by
      unfold tOK at hT ⊢
      rw [e13]
      exact hT
    simp only [rX8_dies_0, rX8_dies_1, rX8_dies_2, rX8_dies_5, rX8_dies_8, rX8_dies_9, rX8_dies_10, rX8_dies_11, rX8_dies_14, rX8_dies_15, rX8_dies_18, rX8_dies_21, rX8_dies_22, rX8_dies_25, rX8_dies_28, rX8_dies_31, rX8_dies_32, rX8_dies_35, rX8_dies_38, rX8_dies_39, rX8_dies_40, rX8_dies_42, rX8_dies_45, rX8_dies_47, rX8_dies_50, rX8_dies_51, rX8_dies_54, rX8_dies_57, rX8_dies_58, rX8_dies_59, true_and, and_true, true_or, or_true, false_or, or_false, Option.toList_some, Option.toList_none, List.nil_append, List.cons_append, zn1, sO_0 hG, kTr hG tr16]
    refine kadv (n := 2000) (P := H 3 1) (r := H 3 2) (kind := H 3 3) hG tr16 hT1 (by rw [e13]) (by rw [e13]) (by rw [e13]) b1 (B0_ok hB) (by omega) t1 (d1 _ _) (fun H2 f2 b2 d2 => ?_)
    have hd := d2 i c.1 (by omega)
    simp only [rX8_dies_0, rX8_dies_1, rX8_dies_2, rX8_dies_5, rX8_dies_8, rX8_dies_9, rX8_dies_10, rX8_dies_11, rX8_dies_14, rX8_dies_15, rX8_dies_18, rX8_dies_21, rX8_dies_22, rX8_dies_25, rX8_dies_28, rX8_dies_31, rX8_dies_32, rX8_dies_35, rX8_dies_38, rX8_dies_39, rX8_dies_40, rX8_dies_42, rX8_dies_45, rX8_dies_47, rX8_dies_50, rX8_dies_51, rX8_dies_54, rX8_dies_57, rX8_dies_58, rX8_dies_59, true_and, and_true, true_or, or_true, false_or, or_false, Option.toList_some, Option.toList_none, List.nil_append, List.cons_append, zn1, sO_0 hG, kTr hG tr16]
    have cF : ∀ b : Nat, b < 16 ∨ 26 < b → H2 b = H b := fun b hb => by rw [f2 b (by omega), f1 b (by omega)]
    have hS2 : SR G H2 := SR_C hS (ksC_T (fun b hb => cF b (by omega)))
    have key : ∀ v : Int, v = (if H2 17 i = 1000000 then -4 else H2 17 i) → (∃ v' : Int, some (vi v) = some (vi v') ∧ zCall qX9_dies [vr 130, vi i] G H2 (fun r' G2 H2 => r' = some (vi v') ∧ SR G2 H2)) := by
      intro v hv
      refine ⟨v, rfl, kX9_dies (P := H 3 1) (r := H 3 2) (kind := H 3 3) (B := B0 H cs) hG (tOKm_of hS2.2.1) (by rw [cF 130 (by omega)]; exact m4) (by rw [cF 130 (by omega)]; exact m6) (by rw [cF 130 (by omega)]; exact m7) (MB_0 hB (by rw [asd_ne (by omega) (by omega), cF 134 (by omega)])) (B0_ok hB) (by rw [cF 139 (by omega)]; exact hn8) c.1 c.2 (fun H3 v' k3 a3 => ⟨?_, SR_M hS2 k3⟩)⟩
      rw [hv, dAns_eq (by omega) a3 hd]
    have hi6 : 0 ≤ i ∧ i < 6 := by omega
    simp only [hi6, and_self, true_and]
    by_cases c2 : H2 17 i = 1000000
    · rw [if_neg (fun z => z c2)]
      exact key _ (by rw [if_pos c2])
    · rw [if_pos c2]
      exact key _ (by rw [if_neg c2])
  · rw [if_neg c]
    refine ⟨_, rfl, ?_⟩
    have et : zset H 130 (zfu (H 130) 0 0) = th0 H := rfl
    have t4 : th0 H 130 4 = H 3 1 := by rw [th0_130 (by omega)]; exact m4
    rw [rX9_dies_in]
    simp only [rX9_dies_0, rX9_dies_1, rX9_dies_2, rX9_dies_5, rX9_dies_6, rX9_dies_7, rX9_dies_10, rX9_dies_13, rX9_dies_14, rX9_dies_15, rX9_dies_16, rX9_dies_17, rX9_dies_20, rX9_dies_21, rX9_dies_23, rX9_dies_26, rX9_dies_29, rX9_dies_30, rX9_dies_33, rX9_dies_34, rX9_dies_35, rX9_dies_38, rX9_dies_39, rX9_dies_42, rX9_dies_45, rX9_dies_48, rX9_dies_49, rX9_dies_52, rX9_dies_53, rX9_dies_54, rX9_dies_57, rX9_dies_59, rX9_dies_62, rX9_dies_63, rX9_dies_64, rX9_dies_65, rX9_dies_66, rX9_dies_69, rX9_dies_70, true_and, and_true, true_or, or_true, false_or, or_false, Option.toList_some, Option.toList_none, List.nil_append, List.cons_append, zn1, kM hG, zup_def, et, kX9_isPerson hG (show 1 ≤ th0 H 130 4 by omega) (show th0 H 130 4 ≤ 6 by omega), bi_ne0, t4]
    rw [if_neg c]
    exact SR_th hS
