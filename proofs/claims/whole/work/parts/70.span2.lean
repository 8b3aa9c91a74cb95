/-! spans: the model -/
theorem okW_s {n : Nat} {pp mo lim : Int → Int} {i x : Int} : okW (n + 1) pp mo lim i x ↔ okW n pp mo lim i x ∧ (pp n = i → (lim n < x ↔ mo n = 1)) := by
  constructor
  · intro h
    exact ⟨fun t ht => h t (by omega), h n (by omega)⟩
  · rintro ⟨h1, h2⟩ t ht
    rcases Nat.lt_or_ge t n with q | q
    · exact h1 t q
    · have : t = n := by omega
      subst this
      exact h2
def spB (L Gr x : Int) : Int × Int := (if L ≤ Gr ∧ L < x then L else -4, if L ≤ Gr ∧ L < x then min (x - 1) Gr else -4)
theorem kX9_spans {n : Nat} {i L Gr : Int} {G : zG} {H : zH} {Q' : Option zV → zG → zH → Prop} (hG : zOK G) (hn : H 130 16 = (n : Int)) (h12 : n ≤ 12) (r0 : 0 ≤ H 130 6) (r1 : H 130 6 ≤ 99) (ht : ∀ t : Nat, t < n → (1 ≤ H 138 (4 * (t : Int) + 1) ∧ H 138 (4 * (t : Int) + 1) ≤ 200) ∧ (1 ≤ H 138 (4 * (t : Int) + 2) ∧ H 138 (4 * (t : Int) + 2) ≤ 200) ∧ (mMo (H 138) t = 0 ∨ mMo (H 138) t = 1)) (eL : L = sleast n (mPp (H 138)) (mMo (H 138)) (mLi (H 130 6) (H 138)) i) (eG : Gr = sgrst n (mPp (H 138)) (mMo (H 138)) (mLi (H 130 6) (H 138)) i)
    (hq : ∀ H' : zH, (∀ b, b ≠ 130 → H' b = H b) → (∀ q : Int, q ≠ 24 → q ≠ 25 → H' 130 q = H 130 q) → H' 130 24 = (if L ≤ Gr then L else -4) → H' 130 25 = (if L ≤ Gr then Gr else -4) → Q' none G H') : zCall qX9_spans [vr 130, vi i] G H Q' := by
  have hlim : ∀ t : Nat, t < n → (1 ≤ mLi (H 130 6) (H 138) t ∧ mLi (H 130 6) (H 138) t ≤ 400) ∧ (mMo (H 138) t = 0 ∨ mMo (H 138) t = 1) := fun t h => by
    obtain ⟨h1, h2, h3⟩ := ht t h
    have := zint_eq r0 r1 (show 0 ≤ H 138 (4 * (t : Int) + 1) by omega) h1.2
    refine ⟨?_, h3⟩
    unfold mLi
    rw [this.1]
    omega
  have hL := (sl_spec (pp := mPp (H 138)) (i := i) n hlim).1
  have hGr := (sg_spec (pp := mPp (H 138)) (i := i) n hlim).1
  rw [← eL] at hL
  rw [← eG] at hGr
  have hok : ∀ x : Int, 1 ≤ x → x ≤ 999 → (okW n (mPp (H 138)) (mMo (H 138)) (mLi (H 130 6) (H 138)) i x ↔ L ≤ x ∧ x ≤ Gr) := fun x x0 x1 => by
    rw [okW_iff hlim x0 x1, ← eL, ← eG]
  -- behind the inner loop
  have tail : ∀ (x : Nat) (H1 : zH) (v : Int), 1 ≤ x → x ≤ 999 → (∀ b, b ≠ 130 → H1 b = H b) → (∀ q : Int, q ≠ 24 → q ≠ 25 → H1 130 q = H 130 q) → H1 130 24 = (spB L Gr x).1 → H1 130 25 = (spB L Gr x).2 → ((v = 1 ∧ (L ≤ (x : Int) ∧ (x : Int) ≤ Gr)) ∨ (v = 0 ∧ ¬ (L ≤ (x : Int) ∧ (x : Int) ≤ Gr))) → (∀ H2 : zH, (∀ b, b ≠ 130 → H2 b = H b) → (∀ q : Int, q ≠ 24 → q ≠ 25 → H2 130 q = H 130 q) → H2 130 24 = (spB L Gr ((x + 1 : Nat) : Int)).1 → H2 130 25 = (spB L Gr ((x + 1 : Nat) : Int)).2 → zRun qX9_spans 14 [vr 130, vi i, vi ((x + 1 : Nat) : Int), vi v, vi (n : Int)] [] G H2 Q') → zRun qX9_spans 74 [vr 130, vi i, vi (x : Int), vi v, vi (n : Int)] [] G H1 Q' := by
    intro x H1 v x0 x1 f1 g1 e24 e25 hv hq1
    simp only [rX9_spans_74, rX9_spans_75, rX9_spans_76, rX9_spans_79, rX9_spans_80, rX9_spans_83, rX9_spans_85, rX9_spans_88, rX9_spans_89, rX9_spans_92, rX9_spans_93, rX9_spans_96, rX9_spans_99, rX9_spans_100, rX9_spans_101, rX9_spans_104, rX9_spans_105, rX9_spans_108, rX9_spans_109, rX9_spans_112, rX9_spans_115, rX9_spans_118, true_and, and_true, true_or, or_true, false_or, or_false, Option.toList_some, Option.toList_none, List.nil_append, List.cons_append, zn1, kM hG, zup_def, zset_set, zset_eq, zfu_at, Int.reduceEq, reduceIte, zwk (show x < 2000000000 by omega)]
    have fin : ∀ a b : Int, a = (spB L Gr ((x + 1 : Nat) : Int)).1 → b = (spB L Gr ((x + 1 : Nat) : Int)).2 → zRun qX9_spans 14 [vr 130, vi i, vi ((x + 1 : Nat) : Int), vi v, vi (n : Int)] [] G (zset H1 130 (zfu (zfu (H1 130) 24 a) 25 b)) Q' := by
      intro a b ha hb
      refine hq1 _ (fun c hc => by rw [zset_ne hc]; exact f1 c hc) (fun q q1 q2 => ?_) ?_ ?_
      · rw [zset_eq, zfu_at, if_neg q2, zfu_at, if_neg q1]
        exact g1 q q1 q2
      · rw [zset_eq, zfu_at, if_neg (by omega), zfu_at, if_pos rfl]
        exact ha
      · rw [zset_eq, zfu_at, if_pos rfl]
        exact hb
    rw [e24]
    rw [e25]
    unfold spB at fin e24 e25 ⊢
    dsimp only at fin e24 e25 ⊢
    rcases hv with ⟨rfl, hv⟩ | ⟨rfl, hv⟩
    · rw [if_neg (show ¬ ((1 : Int) = 0) by omega), if_neg (show ¬ ((1 : Int) = 0) by omega)]
      rw [if_pos (show L ≤ Gr ∧ L < ((x + 1 : Nat) : Int) by omega), if_pos (show L ≤ Gr ∧ L < ((x + 1 : Nat) : Int) by omega)] at fin
      by_cases c : L < (x : Int)
      · rw [if_pos (show L ≤ Gr ∧ L < (x : Int) by omega), if_pos (show L ≠ -4 by omega)]
        exact fin _ _ rfl (by omega)
      · rw [if_neg (show ¬ (L ≤ Gr ∧ L < (x : Int)) by omega), if_neg (show ¬ ((-4 : Int) ≠ -4) by omega)]
        exact fin _ _ (by omega) (by omega)
    · rw [if_pos rfl, if_pos rfl]
      by_cases c : L ≤ Gr ∧ L < (x : Int)
      · rw [if_pos c, if_pos c]
        rw [if_pos (show L ≤ Gr ∧ L < ((x + 1 : Nat) : Int) by omega), if_pos (show L ≤ Gr ∧ L < ((x + 1 : Nat) : Int) by omega)] at fin
        exact fin _ _ rfl (by omega)
      · rw [if_neg c, if_neg c]
        rw [if_neg (show ¬ (L ≤ Gr ∧ L < ((x + 1 : Nat) : Int)) by omega), if_neg (show ¬ (L ≤ Gr ∧ L < ((x + 1 : Nat) : Int)) by omega)] at fin
        exact fin _ _ rfl rfl
  have inner : ∀ (x : Nat) (m k : Nat) (H1 : zH) (v : Int), 1 ≤ x → x ≤ 999 → k + m = n → (∀ b, b ≠ 130 → H1 b = H b) → (∀ q : Int, q ≠ 24 → q ≠ 25 → H1 130 q = H 130 q) → H1 130 24 = (spB L Gr x).1 → H1 130 25 = (spB L Gr x).2 → ((v = 1 ∧ okW k (mPp (H 138)) (mMo (H 138)) (mLi (H 130 6) (H 138)) i x) ∨ (v = 0 ∧ ¬ okW k (mPp (H 138)) (mMo (H 138)) (mLi (H 130 6) (H 138)) i x)) → (∀ (H2 : zH) (v : Int), (∀ b, b ≠ 130 → H2 b = H b) → (∀ q : Int, q ≠ 24 → q ≠ 25 → H2 130 q = H 130 q) → H2 130 24 = (spB L Gr ((x + 1 : Nat) : Int)).1 → H2 130 25 = (spB L Gr ((x + 1 : Nat) : Int)).2 → zRun qX9_spans 14 [vr 130, vi i, vi ((x + 1 : Nat) : Int), vi v, vi (n : Int)] [] G H2 Q') → zRun qX9_spans 26 [vr 130, vi i, vi (x : Int), vi v, vi (k : Int)] [] G H1 Q' := by
    intro x m
    induction m with
    | zero =>
      intro k H1 v x0 x1 hk f1 g1 e24 e25 hv hq1
      have : k = n := by omega
      subst this
      have q16 : H1 130 16 = (k : Int) := by rw [g1 16 (by omega) (by omega)]; exact hn
      rw [rX9_spans_26]
      simp only [rX9_spans_28, rX9_spans_29, rX9_spans_32, true_and, and_true, true_or, or_true, false_or, or_false, Option.toList_some, Option.toList_none, List.nil_append, List.cons_append, zn1, kM hG, q16]
      rw [if_pos (by omega)]
      refine tail x H1 v x0 x1 f1 g1 e24 e25 ?_ (fun H2 a b c d => hq1 H2 v a b c d)
      rw [hok x (by omega) (by omega)] at hv
      exact hv
    | succ m ih =>
      intro k H1 v x0 x1 hk f1 g1 e24 e25 hv hq1
      have q16 : H1 130 16 = (n : Int) := by rw [g1 16 (by omega) (by omega)]; exact hn
      have q6 : H1 130 6 = H 130 6 := g1 6 (by omega) (by omega)
      have q138 : H1 138 = H 138 := f1 138 (by omega)
      have y0 : zw (4 * (k : Int)) = 4 * (k : Int) := zw_id (by omega) (by omega)
      have z0 : 0 ≤ 4 * (k : Int) ∧ 4 * (k : Int) < 48 := by omega
      obtain ⟨t1, t2, t3⟩ := ht k (by omega)
      have hso := fun Q2 => kX9_isSo (G := G) (H := H1) (Q := Q2) (t := k) (x := (x : Int)) hG (by omega) (by omega) (by omega) (by rw [q138]; exact t1.1) (by rw [q138]; exact t1.2) (by rw [q138]; exact t2.1) (by rw [q138]; exact t2.2)
      rw [q138, q6] at hso
      rw [rX9_spans_26]
      simp only [rX9_spans_28, rX9_spans_29, rX9_spans_32, rX9_spans_35, rX9_spans_36, rX9_spans_39, rX9_spans_40, rX9_spans_43, rX9_spans_44, rX9_spans_46, rX9_spans_47, rX9_spans_48, rX9_spans_49, rX9_spans_52, rX9_spans_53, rX9_spans_55, rX9_spans_56, rX9_spans_59, rX9_spans_62, rX9_spans_63, rX9_spans_66, rX9_spans_67, rX9_spans_68, rX9_spans_71, true_and, and_true, true_or, or_true, false_or, or_false, Option.toList_some, Option.toList_none, List.nil_append, List.cons_append, zn1, kM hG, q16, q138, y0, z0, hso, bi_eq0, zwk (show k < 2000000000 by omega)]
      rw [if_neg (by omega)]
      have yes : okW (k + 1) (mPp (H 138)) (mMo (H 138)) (mLi (H 130 6) (H 138)) i x → zRun qX9_spans 26 [vr 130, vi i, vi (x : Int), vi 1, vi ((k + 1 : Nat) : Int)] [] G H1 Q' := fun hw => ih (k + 1) H1 1 x0 x1 (by omega) f1 g1 e24 e25 (Or.inl ⟨rfl, hw⟩) hq1
      have no : ¬ okW (k + 1) (mPp (H 138)) (mMo (H 138)) (mLi (H 130 6) (H 138)) i x → zRun qX9_spans 26 [vr 130, vi i, vi (x : Int), vi 0, vi ((k + 1 : Nat) : Int)] [] G H1 Q' := fun hw => ih (k + 1) H1 0 x0 x1 (by omega) f1 g1 e24 e25 (Or.inr ⟨rfl, hw⟩) hq1
      rw [okW_s] at yes no
      rcases hv with ⟨rfl, hv⟩ | ⟨rfl, hv⟩
      · rw [if_neg (show ¬ ((1 : Int) = 0) by omega)]
        by_cases c1 : H 138 (4 * (k : Int)) = i
        · rw [if_neg (fun z => z c1)]
          by_cases c2 : (mLi (H 130 6) (H 138) k < (x : Int) ↔ mMo (H 138) k = 1)
          · rw [if_neg (fun z => z c2)]
            exact yes ⟨hv, fun _ => c2⟩
          · rw [if_pos c2]
            exact no (fun z => c2 (z.2 c1))
        · rw [if_pos c1]
          exact yes ⟨hv, fun z => absurd z c1⟩
      · rw [if_pos rfl]
        exact no (fun z => hv z.1)
  have outer : ∀ (m x : Nat) (H1 : zH) (v3 v4 : zV), 1 ≤ x → x + m = 1000 → zn1 v3 → (∀ b, b ≠ 130 → H1 b = H b) → (∀ q : Int, q ≠ 24 → q ≠ 25 → H1 130 q = H 130 q) → H1 130 24 = (spB L Gr x).1 → H1 130 25 = (spB L Gr x).2 → zRun qX9_spans 14 [vr 130, vi i, vi (x : Int), v3, v4] [] G H1 Q' := by
    intro m
    induction m with
    | zero =>
      intro x H1 v3 v4 x0 hx _ f1 g1 e24 e25
      have : x = 1000 := by omega
      subst this
      rw [rX9_spans_14]
      simp only [rX9_spans_15, rX9_spans_18, rX9_spans_121]
      rw [if_pos (by omega)]
      refine hq H1 f1 g1 ?_ ?_
      · rw [e24]
        unfold spB
        dsimp only
        by_cases c : L ≤ Gr
        · rw [if_pos c, if_pos (by omega)]
        · rw [if_neg c, if_neg (fun z => c z.1)]
      · rw [e25]
        unfold spB
        dsimp only
        by_cases c : L ≤ Gr
        · rw [if_pos c, if_pos (by omega)]
          omega
        · rw [if_neg c, if_neg (fun z => c z.1)]
    | succ m ih =>
      intro x H1 v3 v4 x0 hx _ f1 g1 e24 e25
      rw [rX9_spans_14]
      simp only [rX9_spans_15, rX9_spans_18, rX9_spans_21, rX9_spans_22, rX9_spans_23, rX9_spans_24, true_and, and_true, true_or, or_true, false_or, or_false, Option.toList_some, Option.toList_none, List.nil_append, List.cons_append, zn1]
      rw [if_neg (by omega)]
      exact inner x n 0 H1 1 x0 (by omega) (by omega) f1 g1 e24 e25 (Or.inl ⟨rfl, fun t ht => by omega⟩) (fun H2 v a b c d => ih (x + 1) H2 _ _ (by omega) (by omega) trivial a b c d)
  rw [rX9_spans_in]
  simp only [rX9_spans_0, rX9_spans_1, rX9_spans_3, rX9_spans_6, rX9_spans_7, rX9_spans_9, rX9_spans_12, rX9_spans_13, true_and, and_true, true_or, or_true, false_or, or_false, Option.toList_some, Option.toList_none, List.nil_append, List.cons_append, zn1, kM hG, zup_def, zset_set, zset_eq]
  refine outer 999 1 _ vu vu (by omega) (by omega) trivial (fun b hb => by rw [zset_ne hb]) (fun q q1 q2 => by rw [zset_eq, zfu_at, if_neg q2, zfu_at, if_neg q1]) ?_ ?_
  · rw [zset_eq, zfu_at, if_neg (by omega), zfu_at, if_pos rfl]
    unfold spB
    dsimp only
    rw [if_neg (by omega)]
  · rw [zset_eq, zfu_at, if_pos rfl]
    unfold spB
    dsimp only
    rw [if_neg (by omega)]
theorem sl_congr {n : Nat} {pp mo lim pp' mo' lim' : Int → Int} {i : Int} (h : ∀ t : Nat, t < n → pp t = pp' t ∧ mo t = mo' t ∧ lim t = lim' t) : sleast n pp mo lim i = sleast n pp' mo' lim' i ∧ sgrst n pp mo lim i = sgrst n pp' mo' lim' i := by
  unfold sleast sgrst
  refine ⟨zfor_congr (n := n) (fun k s hk => ?_) n 0 _ (by omega), zfor_congr (n := n) (fun k s hk => ?_) n 0 _ (by omega)⟩
  · obtain ⟨h1, h2, h3⟩ := h k hk
    rw [h1, h2, h3]
  · obtain ⟨h1, h2, h3⟩ := h k hk
    rw [h1, h2, h3]
theorem td_m {H : zH} {t : Nat} (m6 : H 130 6 = H 3 2) (h : tdOK H t) : H 115 t = mPp (H 138) t ∧ H 117 t = mMo (H 138) t ∧ H 116 t = mLi (H 130 6) (H 138) t := by
  obtain ⟨-, h1, -, -, h2, -, h3⟩ := h
  unfold mPp mMo mLi
  rw [m6]
  exact ⟨h1.symm, h3.symm, h2⟩
/-- what the model's spans come to, out of the class's -/
theorem kspans {n : Nat} {i : Int} {G : zG} {H H1 : zH} {Q' : Option zV → zG → zH → Prop} (hG : zOK G) (hT : tOK H) (m6 : H 130 6 = H 3 2) (hn : H 130 16 = (n : Int)) (h12 : n ≤ 12) (ho : ∀ t : Nat, t < n → tdOK H t) (e130 : ∀ q : Int, q ≠ 0 → H1 130 q = H 130 q) (e138 : H1 138 = H 138)
    (hq : ∀ H' : zH, (∀ b, b ≠ 130 → H' b = H1 b) → (∀ q : Int, q ≠ 24 → q ≠ 25 → H' 130 q = H1 130 q) → H' 130 24 = (if sleast n (H 115) (H 117) (H 116) i ≤ sgrst n (H 115) (H 117) (H 116) i then sleast n (H 115) (H 117) (H 116) i else -4) → H' 130 25 = (if sleast n (H 115) (H 117) (H 116) i ≤ sgrst n (H 115) (H 117) (H 116) i then sgrst n (H 115) (H 117) (H 116) i else -4) → Q' none G H') : zCall qX9_spans [vr 130, vi i] G H1 Q' := by
  have hc := sl_congr (i := i) (fun t ht => td_m m6 (ho t ht))
  have q6 : H1 130 6 = H 130 6 := e130 6 (by omega)
  refine kX9_spans (n := n) hG (by rw [e130 16 (by omega)]; exact hn) h12 (by rw [q6, m6]; exact hT.2.1.1) (by rw [q6, m6]; exact hT.2.1.2) (fun t ht => ?_) rfl rfl (fun H' f g a b => hq H' f g ?_ ?_)
  · rw [e138]
    obtain ⟨-, -, x1, x2, -, x3, x4⟩ := ho t ht
    refine ⟨x1, x2, ?_⟩
    unfold mMo
    rw [x4]
    exact x3
  · rw [a, e138, q6, hc.1, hc.2]
  · rw [b, e138, q6, hc.1, hc.2]
theorem sim_span {i w : Int} : simOp qX8_span qX9_span [vi i, vi w] := by
  intro G H h
  have hS := h
  obtain ⟨hG, ht, hx, hbk, hd, hk, ⟨on, o0, o1, o2, o3⟩⟩ := h
  obtain ⟨hT, ⟨m4, m6, m7, m8⟩, -⟩ := ht
  have hT' := hT
  obtain ⟨⟨P0, P1⟩, ⟨r0, r1⟩, -⟩ := hT'
  have et : zset H 130 (zfu (H 130) 0 0) = th0 H := rfl
  have t4 : th0 H 130 4 = H 3 1 := by rw [th0_130 (by omega)]; exact m4
  generalize hL : sleast on (H 115) (H 117) (H 116) i = L
  generalize hGr : sgrst on (H 115) (H 117) (H 116) i = Gr
  have pre : ∀ v : Int, v = (if (0 ≤ i ∧ i < H 3 1) ∧ (0 ≤ w ∧ w ≤ 1) then (if L ≤ Gr then (if w = 0 then L else Gr) else -4) else -1) → (∃ v' : Int, some (vi v) = some (vi v') ∧ zCall qX9_span [vr 130, vi i, vi w] G H (fun r' G2 H2 => r' = some (vi v') ∧ SR G2 H2)) := by
    intro v hv
    refine ⟨v, rfl, ?_⟩
    rw [rX9_span_in]
    simp only [rX9_span_0, rX9_span_1, rX9_span_2, rX9_span_5, rX9_span_6, rX9_span_7, rX9_span_10, rX9_span_13, rX9_span_14, rX9_span_15, rX9_span_16, rX9_span_19, rX9_span_22, rX9_span_23, rX9_span_24, rX9_span_25, rX9_span_26, rX9_span_29, rX9_span_30, rX9_span_33, rX9_span_34, rX9_span_37, rX9_span_40, rX9_span_41, rX9_span_44, true_and, and_true, true_or, or_true, false_or, or_false, Option.toList_some, Option.toList_none, List.nil_append, List.cons_append, zn1, kM hG, zup_def, et, kX9_isPerson hG (show 1 ≤ th0 H 130 4 by omega) (show th0 H 130 4 ≤ 6 by omega), kX9_in, bi_ne0, bi_eq0, t4]
    by_cases c1 : 0 ≤ i ∧ i < H 3 1
    · rw [if_neg (fun z => z c1)]
      by_cases c2 : 0 ≤ w ∧ w ≤ 1
      · rw [if_pos c2]
        rw [if_pos ⟨c1, c2⟩] at hv
        refine kspans (n := on) (H := H) hG hT m6 o2 o0 o3 (fun q hq => th0_130 hq) (th0_ne (by omega)) (fun H2 f2 g2 a2 b2 => ?_)
        rw [hL, hGr] at a2 b2
        have hS2 : SR G H2 := by
          refine SR_M (SR_th hS) ⟨fun b hb => f2 b (by omega), ⟨f2 _ (by omega), f2 _ (by omega), f2 _ (by omega), f2 _ (by omega), f2 _ (by omega)⟩, fun q _ _ => by rw [f2 134 (by omega)], fun q _ q2 q3 => g2 q q2 q3, ?_⟩
          rw [f2 139 (by omega), th0_ne (by omega)]
          exact hbk.2.2
        simp only [rX9_span_0, rX9_span_1, rX9_span_2, rX9_span_5, rX9_span_6, rX9_span_7, rX9_span_10, rX9_span_13, rX9_span_14, rX9_span_15, rX9_span_16, rX9_span_19, rX9_span_22, rX9_span_23, rX9_span_24, rX9_span_25, rX9_span_26, rX9_span_29, rX9_span_30, rX9_span_33, rX9_span_34, rX9_span_37, rX9_span_40, rX9_span_41, rX9_span_44, true_and, and_true, true_or, or_true, false_or, or_false, Option.toList_some, Option.toList_none, List.nil_append, List.cons_append, zn1, kM hG, a2, b2]
        by_cases c3 : w = 0
        · rw [if_neg (fun z => z c3)]
          rw [if_pos c3] at hv
          exact ⟨by rw [hv], hS2⟩
        · rw [if_pos c3]
          rw [if_neg c3] at hv
          exact ⟨by rw [hv], hS2⟩
      · rw [if_neg c2]
        rw [if_neg (fun z => c2 z.2)] at hv
        exact ⟨by rw [hv], SR_th hS⟩
    · rw [if_pos c1]
      rw [if_neg (fun z => c1 z.1)] at hv
      exact ⟨by rw [hv], SR_th hS⟩
  rw [rX8_span_in]
  simp only [rX8_span_0, rX8_span_1, rX8_span_2, rX8_span_5, rX8_span_8, rX8_span_9, rX8_span_10, rX8_span_11, rX8_span_14, rX8_span_17, rX8_span_18, rX8_span_19, rX8_span_20, rX8_span_23, rX8_span_24, rX8_span_27, rX8_span_28, rX8_span_29, rX8_span_32, rX8_span_33, rX8_span_36, rX8_span_38, rX8_span_39, rX8_span_41, rX8_span_44, rX8_span_46, rX8_span_47, rX8_span_48, rX8_span_51, rX8_span_52, rX8_span_55, rX8_span_57, true_and, and_true, true_or, or_true, false_or, or_false, Option.toList_some, Option.toList_none, List.nil_append, List.cons_append, zn1, sO_0 hG, kTd hG, kX8_isPerson hG P0 P1, kX8_within, bi_ne0, bi_eq0, kX6_least hG o1 o0, kX6_greatest hG o1 o0, hL, hGr]
  by_cases c1 : 0 ≤ i ∧ i < H 3 1
  · rw [if_neg (fun z => z c1)]
    by_cases c2 : 0 ≤ w ∧ w ≤ 1
    · rw [if_pos c2]
      by_cases c3 : L ≤ Gr
      · rw [if_pos c3]
        by_cases c4 : w = 0
        · rw [if_neg (fun z => z c4)]
          exact pre _ (by rw [if_pos ⟨c1, c2⟩, if_pos c3, if_pos c4])
        · rw [if_pos c4]
          exact pre _ (by rw [if_pos ⟨c1, c2⟩, if_pos c3, if_neg c4])
      · rw [if_neg c3]
        exact pre _ (by rw [if_pos ⟨c1, c2⟩, if_neg c3])
    · rw [if_neg c2]
      exact pre _ (by rw [if_neg (fun z => c2 z.2)])
  · rw [if_pos c1]
    exact pre _ (by rw [if_neg (fun z => c1 z.1)])
