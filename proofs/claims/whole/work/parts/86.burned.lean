/-! rows: the model; burned -/
theorem rem_n {a m : Nat} (ha : a ≤ 100000) (hm : 1 ≤ m) (h12 : m ≤ 12) : zrem (a : Int) (m : Int) = ((a % m : Nat) : Int) := by
  rw [zrem_pos (by omega) (by omega) (by omega) (by omega), Int.natCast_emod]
theorem div_n {a m : Nat} (ha : a ≤ 100000) (hm : 1 ≤ m) (h12 : m ≤ 12) : zdiv (a : Int) (m : Int) = ((a / m : Nat) : Int) := by
  rw [zdiv_pos (by omega) (by omega) (by omega) (by omega), Int.natCast_ediv]
theorem Dg_le {m r j : Nat} (hm : 1 ≤ m) : 1 ≤ Dg m r j ∧ Dg m r j ≤ m := by
  unfold Dg
  have := Nat.mod_lt (r / m ^ j) (show 0 < m by omega)
  omega
theorem sDg_le {m r : Nat} (hm : 1 ≤ m) : ∀ j : Nat, sDg m r j ≤ j * m
  | 0 => Nat.zero_le _
  | j + 1 => by
    have h1 := sDg_le (r := r) hm j
    have h2 := Dg_le (r := r) (j := j) hm
    show sumN (Dg m r) j + Dg m r j ≤ (j + 1) * m
    rw [Nat.add_mul, Nat.one_mul]
    unfold sDg at h1
    omega
/-- one row is looked at -/
theorem bu_row {n m r N : Nat} {s i mn : Int} {v8 v9 v10 v11 : zV} {G : zG} {H : zH} {Q' : Option zV → zG → zH → Prop} (hG : zOK G) (hm : 1 ≤ m) (h12 : m ≤ 12) (hn0 : 1 ≤ n) (hn : n ≤ 4) (hr : r < m ^ n)
    (hq : ∀ (H' : zH) (b : Int) (u8 u11 : Int), (∀ x, x ≠ 146 → H' x = H x) → (∀ k : Nat, k < n → H' 146 k = (Dg m r (n - 1 - k) : Int)) → ((b = 1 ∧ nds m r n) ∨ (b = 0 ∧ ¬ nds m r n)) → zRun qX9_burned 182 [vr 130, vi (n : Int), vi (m : Int), vi s, vi i, vi (N : Int), vi mn, vi (r : Int), vi u8, vi (sDg m r n : Int), vi b, vi u11] [] G H' Q') : zRun qX9_burned 86 [vr 130, vi (n : Int), vi (m : Int), vi s, vi i, vi (N : Int), vi mn, vi (r : Int), v8, v9, v10, v11] [] G H Q' := by
  have hN := pow12 h12 hn
  have loop : ∀ (c j : Nat) (H1 : zH) (b : Int), c + j = n → (∀ x, x ≠ 146 → H1 x = H x) → (∀ l : Nat, l < j → H1 146 ((n - 1 - l : Nat) : Int) = (Dg m r l : Int)) → ((b = 1 ∧ nds m r j) ∨ (b = 0 ∧ ¬ nds m r j)) → zRun qX9_burned 101 [vr 130, vi (n : Int), vi (m : Int), vi s, vi i, vi (N : Int), vi mn, vi (r : Int), vi ((r / m ^ j : Nat) : Int), vi (sDg m r j : Int), vi b, vi ((c : Int) - 1)] [] G H1 Q' := by
    intro c
    induction c with
    | zero =>
      intro j H1 b hj f1 a1 hb
      have : j = n := by omega
      subst this
      have go := hq H1 b ((r / m ^ j : Nat) : Int) ((0 : Nat) - 1 : Int) f1 (fun k hk => by
        have := a1 (j - 1 - k) (by omega)
        rw [show j - 1 - (j - 1 - k) = k by omega] at this
        exact this) hb
      rw [rX9_burned_101]
      simp only [rX9_burned_103]
      rw [if_pos (by omega)]
      exact go
    | succ c ih =>
      intro j H1 b hj f1 a1 hb
      rw [show ((c + 1 : Nat) : Int) - 1 = (c : Int) by omega]
      have hjn : j < n := by omega
      have hrest : r / m ^ j ≤ 20736 := Nat.le_trans (Nat.div_le_self _ _) (by omega)
      have hDl := Dg_le (r := r) (j := j) hm
      have hSl := sDg_le (r := r) hm j
      have hjm : j * m ≤ 4 * 12 := Nat.mul_le_mul (by omega) h12
      have eD : (1 : Int) + ((r / m ^ j % m : Nat) : Int) = (Dg m r j : Int) := by
        unfold Dg
        omega
      have eq : r / m ^ j / m = r / m ^ (j + 1) := by rw [Nat.div_div_eq_div_mul, Nat.pow_succ]
      have es : sDg m r (j + 1) = sDg m r j + Dg m r j := rfl
      have c4 : (0 : Int) ≤ c ∧ (c : Int) < 4 := by omega
      have hm0 : ((m : Int) ≠ 0) = True := by
        simp only [ne_eq, eq_iff_iff, iff_true]
        omega
      have n1 : ¬ (c : Int) < 0 := by omega
      have zc : zw ((c : Int) + -1) = (c : Int) - 1 := zw_id (by omega) (by omega)
      have zn : zw ((n : Int) - 1) = (n : Int) - 1 := zw_id (by omega) (by omega)
      have zs : zw ((sDg m r j : Int) + (Dg m r j : Int)) = (sDg m r (j + 1) : Int) := by
        rw [zw_id (by omega) (by omega), es]
        omega
      have zD : zw (1 + ((r / m ^ j % m : Nat) : Int)) = (Dg m r j : Int) := by
        rw [eD]
        exact zw_id (by omega) (by omega)
      -- what follows
      have next : ∀ b' : Int, ((b' = 1 ∧ nds m r (j + 1)) ∨ (b' = 0 ∧ ¬ nds m r (j + 1))) → zRun qX9_burned 101 [vr 130, vi (n : Int), vi (m : Int), vi s, vi i, vi (N : Int), vi mn, vi (r : Int), vi ((r / m ^ (j + 1) : Nat) : Int), vi (sDg m r (j + 1) : Int), vi b', vi ((c : Int) - 1)] [] G (zset H1 146 (zfu (H1 146) c (Dg m r j : Int))) Q' := by
        intro b' hb'
        refine ih (j + 1) _ b' (by omega) (fun x hx => by rw [zset_ne hx]; exact f1 x hx) (fun l hl => ?_) hb'
        rw [zset_eq, zfu_at]
        by_cases cl : l = j
        · subst cl
          rw [if_pos (by omega)]
        · rw [if_neg (by omega)]
          exact a1 l (by omega)
      have ndn : nds m r (j + 1) ↔ nds m r j ∧ (j = 0 ∨ Dg m r j ≤ Dg m r (j - 1)) := by
        constructor
        · intro h
          refine ⟨fun l hl => h l (by omega), ?_⟩
          rcases Nat.eq_zero_or_pos j with q | q
          · exact Or.inl q
          · have := h (j - 1) (by omega)
            rw [show j - 1 + 1 = j by omega] at this
            exact Or.inr this
        · rintro ⟨h1, h2⟩ l hl
          by_cases cl : l + 1 = j
          · rcases h2 with h2 | h2
            · omega
            · rw [show j - 1 = l by omega] at h2
              rw [cl]
              exact h2
          · exact h1 l (by omega)
      have e46 : H1 146 = H1 146 := rfl
      rw [rX9_burned_101]
      simp only [rX9_burned_103, rX9_burned_106, rX9_burned_107, rX9_burned_110, rX9_burned_112, rX9_burned_113, rX9_burned_115, rX9_burned_116, rX9_burned_117, rX9_burned_118, rX9_burned_119, rX9_burned_121, rX9_burned_122, rX9_burned_123, rX9_burned_125, rX9_burned_127, rX9_burned_128, rX9_burned_131, rX9_burned_133, rX9_burned_134, rX9_burned_135, rX9_burned_137, rX9_burned_139, rX9_burned_142, rX9_burned_144, rX9_burned_145, rX9_burned_146, rX9_burned_147, rX9_burned_150, rX9_burned_151, rX9_burned_154, rX9_burned_156, rX9_burned_157, rX9_burned_158, rX9_burned_161, rX9_burned_163, rX9_burned_164, rX9_burned_165, rX9_burned_166, rX9_burned_169, rX9_burned_170, rX9_burned_173, rX9_burned_174, rX9_burned_176, rX9_burned_179, true_and, and_true, true_or, or_true, false_or, or_false, Option.toList_some, Option.toList_none, List.nil_append, List.cons_append, zn1, kM hG, c4, hm0, rem_n (show r / m ^ j ≤ 100000 by omega) hm h12, div_n (show r / m ^ j ≤ 100000 by omega) hm h12, zD, eq, zc, zn, zup_def, zset_eq, zfu_at, if_true, zs]
      rw [if_neg n1]
      clear zc zn zs zD
      rcases hb with ⟨rfl, hb⟩ | ⟨rfl, hb⟩
      · rw [if_neg (show ¬ ((1 : Int) = 0) by omega)]
        by_cases cn : (c : Int) = (n : Int) - 1
        · rw [if_pos cn]
          exact next 1 (Or.inl ⟨rfl, ndn.mpr ⟨hb, Or.inl (by omega)⟩⟩)
        · rw [if_neg cn]
          have a0 := a1 (j - 1) (by omega)
          have e0 : ((n - 1 - (j - 1) : Nat) : Int) = (c : Int) + 1 := by omega
          rw [e0] at a0
          rw [zw_id (z := (c : Int) + 1) (by omega) (by omega), if_neg (show ¬ (c : Int) + 1 = (c : Int) by omega), a0]
          refine ⟨by omega, ?_⟩
          by_cases cd : (Dg m r (j - 1) : Int) < (Dg m r j : Int)
          · rw [if_pos cd]
            refine next 0 (Or.inr ⟨rfl, fun z => ?_⟩)
            rcases (ndn.mp z).2 with q | q
            · omega
            · omega
          · rw [if_neg cd]
            exact next 1 (Or.inl ⟨rfl, ndn.mpr ⟨hb, Or.inr (by omega)⟩⟩)
      · rw [if_pos rfl]
        exact next 0 (Or.inr ⟨rfl, fun z => hb (ndn.mp z).1⟩)
  have go := loop n 0 H 1 (by omega) (fun _ _ => rfl) (fun l hl => by omega) (Or.inl ⟨rfl, fun j hj => by omega⟩)
  rw [Nat.pow_zero, Nat.div_one] at go
  simp only [rX9_burned_86, rX9_burned_88, rX9_burned_90, rX9_burned_91, rX9_burned_93, rX9_burned_94, rX9_burned_96, rX9_burned_97, rX9_burned_98, rX9_burned_99, true_and, and_true, true_or, or_true, false_or, or_false, Option.toList_some, Option.toList_none, List.nil_append, List.cons_append, zn1, zw_id (z := (n : Int) - 1) (by omega) (by omega)]
  exact go
theorem kX9_burned {n m : Nat} {s i : Int} {G : zG} {H : zH} {Q' : Option zV → zG → zH → Prop} (hG : zOK G) (hn0 : 2 ≤ n) (hn : n ≤ 4) (hm : 1 ≤ m) (h12 : m ≤ 12) (s0 : 0 ≤ s) (s1 : s ≤ 999) (i0 : -1 ≤ i) (i1 : i ≤ (n : Int) - 1)
    (hq : ∀ (H' : zH) (v : Int), (∀ x, x ≠ 146 → x ≠ 130 → H' x = H x) → (∀ q : Int, q ≠ 0 → H' 130 q = H 130 q) → (i = -1 → v = (Cn m n 1 s : Int)) → (i ≠ -1 → Cn m n 1 s = 0 → v = -4) → (∀ k : Nat, i = (k : Int) → Cn m n 1 s ≠ 0 → ∃ x : Nat, (gl m n 1 s)[k]? = some x ∧ v = (x : Int)) → Q' (some (vi v)) G H') : zCall qX9_burned [vr 130, vi (n : Int), vi (m : Int), vi s, vi i] G H Q' := by
  have hN := pow12 h12 hn
  have et : zset H 130 (zfu (H 130) 0 0) = th0 H := rfl
  rw [rX9_burned_in]
  simp only [rX9_burned_0, rX9_burned_1, rX9_burned_2, rX9_burned_5, rX9_burned_6, rX9_burned_7, rX9_burned_8, rX9_burned_11, rX9_burned_14, rX9_burned_15, rX9_burned_16, rX9_burned_18, rX9_burned_21, rX9_burned_24, rX9_burned_25, rX9_burned_26, rX9_burned_29, rX9_burned_32, rX9_burned_35, rX9_burned_37, rX9_burned_38, rX9_burned_39, rX9_burned_40, rX9_burned_41, rX9_burned_44, rX9_burned_49, rX9_burned_50, rX9_burned_52, rX9_burned_53, true_and, and_true, true_or, or_true, false_or, or_false, Option.toList_some, Option.toList_none, List.nil_append, List.cons_append, zn1, kM hG, zup_def, et, kX9_in, bi_ne0, bi_eq0, zw_id (z := (n : Int) - 1) (by omega) (by omega)]
  rw [if_neg (fun z => z (by omega)), if_neg (fun z => z (by omega)), if_neg (fun z => z ⟨s0, s1⟩), if_pos ⟨i0, i1⟩]
  -- the rows
  have rows : ∀ (c r : Nat) (H1 : zH) (mn : Nat) (v8 v9 v10 v11 : zV), c + r = m ^ n → (∀ x, x ≠ 146 → H1 x = th0 H x) → (i < 0 → mn = cnt (okp m n 1 s) r) → (0 ≤ i → mn = 0 ∧ ∀ q, q < r → okp m n 1 s q = false) → mn ≤ r → zRun qX9_burned 79 [vr 130, vi (n : Int), vi (m : Int), vi s, vi i, vi ((m ^ n : Nat) : Int), vi (mn : Int), vi (r : Int), v8, v9, v10, v11] [] G H1 Q' := by
    intro c
    induction c with
    | zero =>
      intro r H1 mn v8 v9 v10 v11 hr f1 hc hf hmr
      have : r = m ^ n := by omega
      subst this
      have ks1 : ∀ x, x ≠ 146 → x ≠ 130 → H1 x = H x := fun x x1 x2 => by rw [f1 x x1, th0_ne x2]
      have ks2 : ∀ q : Int, q ≠ 0 → H1 130 q = H 130 q := fun q hq' => by rw [f1 130 (by omega), th0_130 hq']
      rw [rX9_burned_79]
      simp only [rX9_burned_81, rX9_burned_83, rX9_burned_215, rX9_burned_217, rX9_burned_220, rX9_burned_222, rX9_burned_225, rX9_burned_227, true_and, and_true, true_or, or_true, false_or, or_false, Option.toList_some, Option.toList_none, List.nil_append, List.cons_append, zn1]
      rw [if_pos (Int.le_refl _)]
      by_cases ci : 0 ≤ i
      · rw [if_pos ci]
        obtain ⟨-, hno⟩ := hf ci
        have hC : Cn m n 1 s = 0 := by
          rw [← cnt_C hm]
          exact sumN_0 _ (fun q hq' => by rw [hno q hq']; rfl)
        exact hq H1 _ ks1 ks2 (fun z => by omega) (fun _ _ => rfl) (fun k hk hz => absurd hC hz)
      · rw [if_neg ci]
        have hC : mn = Cn m n 1 s := by rw [hc (by omega), cnt_C hm]
        exact hq H1 _ ks1 ks2 (fun _ => by rw [hC]) (fun z => by omega) (fun k hk => by omega)
    | succ c ih =>
      intro r H1 mn v8 v9 v10 v11 hr f1 hc hf hmr
      have hrN : r < m ^ n := by omega
      have hrN' : ¬ ((m ^ n : Nat) : Int) ≤ (r : Int) := by omega
      have hok := okp_iff hm n 1 s r hrN
      have hD1 := (Dg_le (r := r) (j := n - 1) hm).1
      rw [rX9_burned_79]
      simp only [rX9_burned_81, rX9_burned_83]
      rw [if_neg hrN']
      refine bu_row hG hm h12 (by omega) hn hrN (fun H2 b u8 u11 f2 a2 hb => ?_)
      have f2' : ∀ x, x ≠ 146 → H2 x = th0 H x := fun x hx => by rw [f2 x hx]; exact f1 x hx
      have ks1 : ∀ x, x ≠ 146 → x ≠ 130 → H2 x = H x := fun x x1 x2 => by rw [f2' x x1, th0_ne x2]
      have ks2 : ∀ q : Int, q ≠ 0 → H2 130 q = H 130 q := fun q hq' => by rw [f2' 130 (by omega), th0_130 hq']
      have no : okp m n 1 s r = false → zRun qX9_burned 209 [vr 130, vi (n : Int), vi (m : Int), vi s, vi i, vi ((m ^ n : Nat) : Int), vi (mn : Int), vi (r : Int), vi u8, vi (sDg m r n : Int), vi b, vi u11] [] G H2 Q' := by
        intro hno
        simp only [rX9_burned_209, rX9_burned_212, true_and, and_true, true_or, or_true, false_or, or_false, Option.toList_some, Option.toList_none, List.nil_append, List.cons_append, zn1, zwk (show r < 2000000000 by omega)]
        refine ih (r + 1) H2 mn _ _ _ _ (by omega) f2' (fun z => ?_) (fun z => ⟨(hf z).1, fun q hq' => ?_⟩) (by omega)
        · rw [hc z]
          show _ = sumN _ r + (if okp m n 1 s r = true then 1 else 0)
          rw [hno]
          rfl
        · by_cases cq : q = r
          · rw [cq]
            exact hno
          · exact (hf z).2 q (by omega)
      simp only [rX9_burned_182, rX9_burned_184, rX9_burned_187, rX9_burned_189, rX9_burned_190, rX9_burned_193, rX9_burned_195, rX9_burned_198, rX9_burned_199, rX9_burned_202, rX9_burned_204, rX9_burned_205, rX9_burned_206, true_and, and_true, true_or, or_true, false_or, or_false, Option.toList_some, Option.toList_none, List.nil_append, List.cons_append, zn1, kM hG, zwk (show mn < 2000000000 by omega)]
      rcases hb with ⟨rfl, hb⟩ | ⟨rfl, hb⟩
      · rw [if_neg (show ¬ ((1 : Int) = 0) by omega)]
        by_cases cs : (sDg m r n : Int) = s
        · rw [if_neg (fun z => z cs)]
          have hyes : okp m n 1 s r = true := hok.mpr ⟨Or.inr hD1, hb, cs⟩
          by_cases ci : i < 0
          · rw [if_pos ci]
            simp only [rX9_burned_209, rX9_burned_212, true_and, and_true, true_or, or_true, false_or, or_false, Option.toList_some, Option.toList_none, List.nil_append, List.cons_append, zn1, zwk (show r < 2000000000 by omega)]
            refine ih (r + 1) H2 (mn + 1) _ _ _ _ (by omega) f2' (fun z => ?_) (fun z => by omega) (by omega)
            rw [hc z]
            show _ = sumN _ r + (if okp m n 1 s r = true then 1 else 0)
            rw [hyes]
            rfl
          · rw [if_neg ci]
            obtain ⟨k, hk⟩ := nat_of (show 0 ≤ i by omega)
            refine ⟨by omega, hq H2 _ ks1 ks2 (fun z => by omega) (fun _ hz => absurd hz (okp_C hm hrN hyes)) (fun k' hk' hz => ?_)⟩
            have : k' = k := by omega
            subst this
            obtain ⟨r', h1, h2, h3, h4⟩ := first_row hm h12 n 1 s (Nat.le_refl _) hz
            have er : r' = r := by
              rcases Nat.lt_trichotomy r' r with q | q | q
              · rw [(hf (by omega)).2 r' q] at h2
                cases h2
              · exact q
              · rw [h3 r q] at hyes
                cases hyes
            rw [er] at h4
            refine ⟨Dg m r (n - 1 - k'), ?_, ?_⟩
            · rw [← h4]
              exact rwd_get hm n r k' hrN (by omega)
            · rw [hk]
              exact a2 k' (by omega)
        · rw [if_pos cs]
          refine no ?_
          cases hv : okp m n 1 s r with
          | false => rfl
          | true => exact absurd (hok.mp hv).2.2 cs
      · rw [if_pos rfl]
        refine no ?_
        cases hv : okp m n 1 s r with
        | false => rfl
        | true => exact absurd (hok.mp hv).2.1 hb
  have pows : ∀ (c k : Nat), c + k = n → zRun qX9_burned 55 [vr 130, vi (n : Int), vi (m : Int), vi s, vi i, vi ((m ^ k : Nat) : Int), vi (k : Int), vu, vu, vu, vu, vu] [] G (th0 H) Q' := by
    intro c
    induction c with
    | zero =>
      intro k hk
      have : k = n := by omega
      subst this
      have go := rows (m ^ k) 0 (th0 H) 0 vu vu vu vu (by omega) (fun _ _ => rfl) (fun _ => rfl) (fun _ => ⟨rfl, fun q hq' => by omega⟩) (Nat.le_refl _)
      rw [rX9_burned_55]
      simp only [rX9_burned_57, rX9_burned_58, rX9_burned_73, rX9_burned_74, rX9_burned_76, rX9_burned_77, true_and, and_true, true_or, or_true, false_or, or_false, Option.toList_some, Option.toList_none, List.nil_append, List.cons_append, zn1]
      rw [if_pos (Int.le_refl _)]
      exact go
    | succ c ih =>
      intro k hk
      have h1 : m ^ (k + 1) ≤ 20736 := pow12 h12 (by omega)
      have go := ih (k + 1) (by omega)
      have e : ((m ^ k : Nat) : Int) * (m : Int) = ((m ^ (k + 1) : Nat) : Int) := by rw [Nat.pow_succ, Int.natCast_mul]
      have ez : zw (((m ^ k : Nat) : Int) * (m : Int)) = ((m ^ (k + 1) : Nat) : Int) := by
        rw [e]
        exact zw_id (by omega) (by omega)
      have nk : ¬ (n : Int) ≤ (k : Int) := by omega
      rw [rX9_burned_55]
      simp only [rX9_burned_57, rX9_burned_58, rX9_burned_61, rX9_burned_63, rX9_burned_64, rX9_burned_65, rX9_burned_67, rX9_burned_70, true_and, and_true, true_or, or_true, false_or, or_false, Option.toList_some, Option.toList_none, List.nil_append, List.cons_append, zn1, ez, zwk (show k < 2000000000 by omega)]
      rw [if_neg nk]
      exact go
  exact pows n 0 (by omega)
theorem sim_burned {n m s i : Int} : simOp qX8_burned qX9_burned [vi n, vi m, vi s, vi i] := by
  intro G H h
  have hS := h
  obtain ⟨hG, ht, hx, ⟨hbk, hm8, hn8⟩, -⟩ := h
  have et : zset H 130 (zfu (H 130) 0 0) = th0 H := rfl
  by_cases c : (((2 ≤ n ∧ n ≤ 4) ∧ (1 ≤ m ∧ m ≤ 12)) ∧ (0 ≤ s ∧ s ≤ 999)) ∧ (-1 ≤ i ∧ i ≤ n - 1)
  · obtain ⟨⟨⟨c1, c2⟩, c3⟩, c4⟩ := c
    obtain ⟨n, rfl⟩ := nat_of (show 0 ≤ n by omega)
    obtain ⟨m, rfl⟩ := nat_of (show 0 ≤ m by omega)
    have mod : ∀ v : Int, (∀ v' : Int, (i = -1 → v' = (Cn m n 1 s : Int)) → (i ≠ -1 → Cn m n 1 s = 0 → v' = -4) → (∀ k : Nat, i = (k : Int) → Cn m n 1 s ≠ 0 → ∃ x : Nat, (gl m n 1 s)[k]? = some x ∧ v' = (x : Int)) → v' = v) → (∃ v' : Int, some (vi v) = some (vi v') ∧ zCall qX9_burned [vr 130, vi (n : Int), vi (m : Int), vi s, vi i] G H (fun r' G2 H2 => r' = some (vi v') ∧ SR G2 H2)) := by
      intro v hv
      refine ⟨v, rfl, kX9_burned hG (by omega) (by omega) (by omega) (by omega) c3.1 c3.2 c4.1 c4.2 (fun H2 v' f2 g2 a1 a2 a3 => ⟨by rw [hv v' a1 a2 a3], ?_⟩)⟩
      refine SR_M hS ⟨fun b hb => f2 b (by omega) (by omega), ⟨f2 _ (by omega) (by omega), f2 _ (by omega) (by omega), f2 _ (by omega) (by omega), f2 _ (by omega) (by omega), f2 _ (by omega) (by omega)⟩, fun q _ _ => by rw [f2 134 (by omega) (by omega)], fun q q1 _ _ => g2 q q1, ?_⟩
      rw [f2 139 (by omega) (by omega)]
      exact hn8
    rw [rX8_burned_in]
    simp only [rX8_burned_0, rX8_burned_1, rX8_burned_2, rX8_burned_3, rX8_burned_6, rX8_burned_9, rX8_burned_10, rX8_burned_11, rX8_burned_13, rX8_burned_16, rX8_burned_19, rX8_burned_20, rX8_burned_21, rX8_burned_24, rX8_burned_27, rX8_burned_30, rX8_burned_32, rX8_burned_33, rX8_burned_34, rX8_burned_35, rX8_burned_36, rX8_burned_39, rX8_burned_44, rX8_burned_45, rX8_burned_46, rX8_burned_47, rX8_burned_48, true_and, and_true, true_or, or_true, false_or, or_false, Option.toList_some, Option.toList_none, List.nil_append, List.cons_append, zn1, kX8_within, bi_ne0, bi_eq0, zw_id (z := (n : Int) - 1) (by omega) (by omega)]
    rw [if_neg (fun z => z c1), if_neg (fun z => z c2), if_neg (fun z => z c3), if_pos c4]
    refine krows7 (lo := 1) (by omega) (by omega) (by omega) (by omega) (by omega) (by omega) (by omega) ?_
    simp only [rX8_burned_51, rX8_burned_53, rX8_burned_55, rX8_burned_56, rX8_burned_59, rX8_burned_61, rX8_burned_62, rX8_burned_64, rX8_burned_67, rX8_burned_69, rX8_burned_72, rX8_burned_73, rX8_burned_74, rX8_burned_75, rX8_burned_77, rX8_burned_80, true_and, and_true, true_or, or_true, false_or, or_false, Option.toList_some, Option.toList_none, List.nil_append, List.cons_append, zn1]
    by_cases ci : i = -1
    · rw [if_neg (fun z => z ci)]
      exact mod _ (fun v' a1 _ _ => a1 ci)
    · rw [if_pos ci]
      by_cases cC : Cn m n 1 s = 0
      · rw [cC, if_neg (by omega)]
        exact mod _ (fun v' _ a2 _ => a2 ci cC)
      · rw [if_pos (by omega)]
        obtain ⟨k, rfl⟩ := nat_of (show 0 ≤ i by omega)
        refine kfirst (by omega) (by omega) (by omega) (by omega) c3.1 c3.2 (fun x hx => ?_)
        simp only [rX8_burned_80, true_and, and_true, true_or, or_true, false_or, or_false, Option.toList_some, Option.toList_none, List.nil_append, List.cons_append, zn1]
        refine mod _ (fun v' _ _ a3 => ?_)
        obtain ⟨y, hy, rfl⟩ := a3 k rfl cC
        rw [hx] at hy
        cases hy
        rfl
  · have hbad : ∃ v' : Int, some (vi (-1)) = some (vi v') ∧ zCall qX9_burned [vr 130, vi n, vi m, vi s, vi i] G H (fun r' G2 H2 => r' = some (vi v') ∧ SR G2 H2) := by
      refine ⟨_, rfl, ?_⟩
      rw [rX9_burned_in]
      simp only [rX9_burned_0, rX9_burned_1, rX9_burned_2, rX9_burned_5, rX9_burned_6, rX9_burned_7, rX9_burned_8, rX9_burned_11, rX9_burned_14, rX9_burned_15, rX9_burned_16, rX9_burned_18, rX9_burned_21, rX9_burned_24, rX9_burned_25, rX9_burned_26, rX9_burned_29, rX9_burned_32, rX9_burned_35, rX9_burned_37, rX9_burned_38, rX9_burned_39, rX9_burned_40, rX9_burned_41, rX9_burned_44, rX9_burned_47, rX9_burned_48, true_and, and_true, true_or, or_true, false_or, or_false, Option.toList_some, Option.toList_none, List.nil_append, List.cons_append, zn1, kM hG, zup_def, et, kX9_in, bi_ne0, bi_eq0]
      by_cases c1 : 2 ≤ n ∧ n ≤ 4
      · rw [if_neg (fun z => z c1)]
        by_cases c2 : 1 ≤ m ∧ m ≤ 12
        · rw [if_neg (fun z => z c2)]
          by_cases c3 : 0 ≤ s ∧ s ≤ 999
          · rw [if_neg (fun z => z c3), zw_id (z := n - 1) (by omega) (by omega), if_neg (fun z => c ⟨⟨⟨c1, c2⟩, c3⟩, z⟩)]
            exact SR_th hS
          · rw [if_pos c3]
            exact SR_th hS
        · rw [if_pos c2]
          exact SR_th hS
      · rw [if_pos c1]
        exact SR_th hS
    rw [rX8_burned_in]
    simp only [rX8_burned_0, rX8_burned_1, rX8_burned_2, rX8_burned_3, rX8_burned_6, rX8_burned_9, rX8_burned_10, rX8_burned_11, rX8_burned_13, rX8_burned_16, rX8_burned_19, rX8_burned_20, rX8_burned_21, rX8_burned_24, rX8_burned_27, rX8_burned_30, rX8_burned_32, rX8_burned_33, rX8_burned_34, rX8_burned_35, rX8_burned_36, rX8_burned_39, rX8_burned_42, rX8_burned_43, true_and, and_true, true_or, or_true, false_or, or_false, Option.toList_some, Option.toList_none, List.nil_append, List.cons_append, zn1, kX8_within, bi_ne0, bi_eq0]
    by_cases c1 : 2 ≤ n ∧ n ≤ 4
    · rw [if_neg (fun z => z c1)]
      by_cases c2 : 1 ≤ m ∧ m ≤ 12
      · rw [if_neg (fun z => z c2)]
        by_cases c3 : 0 ≤ s ∧ s ≤ 999
        · rw [if_neg (fun z => z c3), zw_id (z := n - 1) (by omega) (by omega), if_neg (fun z => c ⟨⟨⟨c1, c2⟩, c3⟩, z⟩)]
          exact hbad
        · rw [if_pos c3]
          exact hbad
      · rw [if_pos c2]
        exact hbad
    · rw [if_pos c1]
      exact hbad
