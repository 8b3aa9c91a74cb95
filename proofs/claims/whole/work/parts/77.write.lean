/-! bytes -/
theorem bit255 (w : Nat) (hw : 8 ≤ w) (i : Nat) : (BitVec.ofNat w 255).getLsbD i = decide (i < 8) := by
  have h : 255 < 2 ^ w := Nat.lt_of_lt_of_le (by decide : 255 < 2 ^ 8) (Nat.pow_le_pow_right (by decide) hw)
  show (BitVec.ofNat w 255).toNat.testBit i = _
  rw [BitVec.toNat_ofNat, Nat.mod_eq_of_lt h]
  exact Nat.testBit_two_pow_sub_one 8 i
theorem bytX (X : BitVec 64) {s : Nat} (hs : s ≤ 56) : (((X >>> s).signExtend 32) &&& 255#32).toNat = ((X.sshiftRight s) &&& 255#64).toNat := by
  apply Nat.eq_of_testBit_eq
  intro i
  show (((X >>> s).signExtend 32) &&& 255#32).getLsbD i = ((X.sshiftRight s) &&& 255#64).getLsbD i
  rw [BitVec.getLsbD_and, BitVec.getLsbD_and, bit255 32 (by decide), bit255 64 (by decide), BitVec.getLsbD_signExtend, BitVec.getLsbD_ushiftRight, BitVec.getLsbD_sshiftRight]
  by_cases c : i < 8
  · have h1 : i < 32 := by omega
    have h2 : i < 64 := by omega
    have h3 : ¬ 64 ≤ i := by omega
    have h4 : s + i < 64 := by omega
    simp [c, h1, h2, h3, h4]
  · simp [c]
theorem and255 {w : Nat} (hw : 8 ≤ w) (X : BitVec w) : (X &&& BitVec.ofNat w 255).toNat < 256 := by
  have h : 255 < 2 ^ w := Nat.lt_of_lt_of_le (by decide : 255 < 2 ^ 8) (Nat.pow_le_pow_right (by decide) hw)
  rw [BitVec.toNat_and, BitVec.toNat_ofNat, Nat.mod_eq_of_lt h]
  exact Nat.and_lt_two_pow (n := 8) _ (by decide)
theorem ofInt_zw (z : Int) : Int32.ofInt (zw z) = Int32.ofInt z := by
  apply Int32.toBitVec_inj.mp
  show BitVec.ofInt 32 (zw z) = BitVec.ofInt 32 z
  apply BitVec.eq_of_toInt_eq
  rw [BitVec.toInt_ofInt, BitVec.toInt_ofInt]
  unfold zw
  exact Int.bmod_bmod
theorem usr_bv (x : Int64) {k : Nat} (hk : k < 8) : (x.toUInt64 >>> ((Int32.ofInt (8 * (k : Int))).toInt64.toUInt64 &&& Int64.toUInt64 63)).toInt64.toBitVec = x.toBitVec >>> (8 * k) := by
  show (x.toUInt64 >>> ((Int32.ofInt (8 * (k : Int))).toInt64.toUInt64 &&& Int64.toUInt64 63)).toBitVec = _
  rw [UInt64.toBitVec_shiftRight]
  have e : (((Int32.ofInt (8 * (k : Int))).toInt64.toUInt64 &&& Int64.toUInt64 63).toBitVec % 64) = BitVec.ofNat 64 (8 * k) := by
    rcases (show k = 0 ∨ k = 1 ∨ k = 2 ∨ k = 3 ∨ k = 4 ∨ k = 5 ∨ k = 6 ∨ k = 7 by omega) with rfl | rfl | rfl | rfl | rfl | rfl | rfl | rfl <;> decide
  rw [show (64 : BitVec 64) = 64 from rfl] at e
  rw [e, BitVec.ushiftRight_eq', BitVec.toNat_ofNat, Nat.mod_eq_of_lt (by omega)]
  rfl
theorem ssr_bv (x : Int64) {k : Nat} (hk : k < 8) : (x >>> ((Int32.ofInt (8 * (k : Int))).toInt64 &&& 63)).toBitVec = x.toBitVec.sshiftRight (8 * k) := by
  rw [Int64.toBitVec_shiftRight]
  have e : (((Int32.ofInt (8 * (k : Int))).toInt64 &&& 63).toBitVec.smod 64) = BitVec.ofNat 64 (8 * k) := by
    rcases (show k = 0 ∨ k = 1 ∨ k = 2 ∨ k = 3 ∨ k = 4 ∨ k = 5 ∨ k = 6 ∨ k = 7 by omega) with rfl | rfl | rfl | rfl | rfl | rfl | rfl | rfl <;> decide
  rw [e, BitVec.sshiftRight_eq', BitVec.toNat_ofNat, Nat.mod_eq_of_lt (by omega)]
def bv (v : Int) (k : Int) : Int := zand (zw (zlushr v (8 * k))) 255
theorem byt (v : Int) {k : Nat} (hk : k < 8) : (0 ≤ bv v k ∧ bv v k ≤ 255) ∧ zw (zland (zlshr v (8 * (k : Int))) 255) = bv v k := by
  have h1 := usr_bv (Int64.ofInt v) hk
  have h2 := ssr_bv (Int64.ofInt v) hk
  generalize hA : ((Int64.ofInt v).toUInt64 >>> ((Int32.ofInt (8 * (k : Int))).toInt64.toUInt64 &&& Int64.toUInt64 63)).toInt64 = A at h1
  generalize hZ : (Int64.ofInt v >>> ((Int32.ofInt (8 * (k : Int))).toInt64 &&& 63)) = Z at h2
  have hX := bytX (Int64.ofInt v).toBitVec (s := 8 * k) (by omega)
  rw [← h1, ← h2] at hX
  have l1 := and255 (by decide : 8 ≤ 32) (A.toBitVec.signExtend 32)
  have l2 := and255 (by decide : 8 ≤ 64) Z.toBitVec
  have e1 : bv v k = (((A.toBitVec.signExtend 32) &&& 255#32).toNat : Int) := by
    unfold bv zand
    rw [ofInt_zw]
    unfold zlushr
    rw [hA]
    show ((A.toBitVec.signExtend 32) &&& 255#32).toInt = _
    exact BitVec.toInt_eq_toNat_of_lt (by omega)
  have e2 : zland (zlshr v (8 * (k : Int))) 255 = ((Z.toBitVec &&& 255#64).toNat : Int) := by
    unfold zland zlshr
    rw [hZ, Int64.ofInt_toInt]
    show (Z.toBitVec &&& 255#64).toInt = _
    exact BitVec.toInt_eq_toNat_of_lt (by omega)
  rw [e1, e2, zw_id (by omega) (by omega), hX]
  exact ⟨by omega, rfl⟩
/-! write -/
theorem kTx {G : zG} (hG : zOK G) : (zC G 1 5 ∧ zR G 1 0 = 2 ∧ zlt G 2) ∧ (zC G 2 100 ∧ zlen G 2 = 300) := ⟨sO_1 hG, sO_2 hG⟩
theorem kX5_append {n len : Nat} {v : Int} {G : zG} {H : zH} {Q' : Option zV → zG → zH → Prop} (hG : zOK G) (hl : H 1 1 = (len : Int)) (hn : n ≤ 8) (h3 : len + n ≤ 300)
    (hq : ∀ H' : zH, (∀ b, b ≠ 1 → b ≠ 2 → H' b = H b) → H' 1 1 = ((len + n : Nat) : Int) → (∀ j : Int, j < (len : Int) → H' 2 j = H 2 j) → (∀ j : Nat, j < n → H' 2 ((len + j : Nat) : Int) = bv v ((n : Int) - 1 - (j : Int))) → Q' none G H') : zCall qX5_append [vr 1, vi (n : Int), vl v] G H Q' := by
  have en := zw_id (z := (n : Int) - 1) (by omega) (by omega)
  rw [rX5_append_in]
  simp only [rX5_append_0, rX5_append_1, rX5_append_2, rX5_append_3, true_and, and_true, true_or, or_true, false_or, or_false, Option.toList_some, Option.toList_none, List.nil_append, List.cons_append, zn1, en]
  have loop : ∀ (c m : Nat) (H1 : zH), c + m = n → (∀ b, b ≠ 1 → b ≠ 2 → H1 b = H b) → H1 1 1 = ((len + m : Nat) : Int) → (∀ j : Int, j < (len : Int) → H1 2 j = H 2 j) → (∀ j : Nat, j < m → H1 2 ((len + j : Nat) : Int) = bv v ((n : Int) - 1 - (j : Int))) → zRun qX5_append 5 [vr 1, vi (n : Int), vl v, vu, vi ((c : Int) - 1)] [] G H1 Q' := by
    intro c
    induction c with
    | zero =>
      intro m H1 hm f1 e1 a1 b1
      have : m = n := by omega
      subst this
      rw [rX5_append_5]
      simp only [rX5_append_7, rX5_append_57]
      rw [if_pos (by omega)]
      exact hq H1 f1 e1 a1 b1
    | succ c ih =>
      intro m H1 hm f1 e1 a1 b1
      rw [show ((c + 1 : Nat) : Int) - 1 = (c : Int) by omega]
      have e8 : zw (8 * (c : Int)) = 8 * (c : Int) := zw_id (by omega) (by omega)
      have ec : zw ((c : Int) + -1) = (c : Int) - 1 := zw_id (by omega) (by omega)
      have el := zwk (show len + m < 2000000000 by omega)
      have hb : zand (zw (zlushr v (8 * (c : Int)))) 255 = bv v c := rfl
      have cl : (0 : Int) ≤ ((len + m : Nat) : Int) ∧ ((len + m : Nat) : Int) < 300 := by omega
      have n1 : ¬ (c : Int) < 0 := by omega
      have n2 : ¬ (300 : Int) ≤ ((len + m : Nat) : Int) := by omega
      rw [rX5_append_5]
      simp only [rX5_append_7, rX5_append_10, rX5_append_11, rX5_append_14, rX5_append_17, rX5_append_20, rX5_append_21, rX5_append_24, rX5_append_25, rX5_append_28, rX5_append_29, rX5_append_31, rX5_append_33, rX5_append_34, rX5_append_35, rX5_append_36, rX5_append_39, rX5_append_40, rX5_append_41, rX5_append_42, rX5_append_43, rX5_append_46, rX5_append_47, rX5_append_48, rX5_append_51, rX5_append_54, true_and, and_true, true_or, or_true, false_or, or_false, Option.toList_some, Option.toList_none, List.nil_append, List.cons_append, zn1, kTx hG, e1, e8, ec, el, hb, zup_def, zset_at, Nat.reduceEqDiff, reduceIte]
      rw [if_neg n1, if_neg n2]
      refine ⟨cl, ih (m + 1) _ (by omega) (fun b x1 x2 => by rw [zset_ne x1, zset_ne x2]; exact f1 b x1 x2) ?_ (fun j hj => ?_) (fun j hj => ?_)⟩
      · rw [zset_eq, zfu_at, if_pos rfl]
        rfl
      · rw [zset_ne (by omega), zset_eq, zfu_at, if_neg (by omega)]
        exact a1 j hj
      · rw [zset_ne (by omega), zset_eq, zfu_at]
        by_cases cj : j = m
        · subst cj
          rw [if_pos rfl, show (n : Int) - 1 - (j : Int) = (c : Int) by omega]
        · rw [if_neg (by omega)]
          exact b1 j (by omega)
  exact loop n 0 H (by omega) (fun _ _ _ => rfl) (by rw [hl]; rfl) (fun _ _ => rfl) (fun j hj => by omega)
theorem sim_write {n v : Int} : simOp qX8_write qX9_write [vi n, vl v] := by
  intro G H h
  have hS := h
  obtain ⟨hG, ht, hx, hbk, hd, hk, ho⟩ := h
  obtain ⟨⟨x0, x1⟩, x2, x3⟩ := hx
  obtain ⟨len, hlen⟩ := nat_of x0
  have et : ∀ H1 : zH, zset H1 130 (zfu (H1 130) 0 0) = th0 H1 := fun _ => rfl
  have t2 : th0 H 130 2 = H 1 1 := by rw [th0_130 (by omega)]; exact x2
  rw [rX8_write_in]
  simp only [rX8_write_0, rX8_write_1, rX8_write_2, rX8_write_4, rX8_write_7, rX8_write_10, rX8_write_11, rX8_write_12, rX8_write_13, rX8_write_16, rX8_write_19, rX8_write_20, rX8_write_21, rX8_write_24, rX8_write_27, rX8_write_29, rX8_write_30, rX8_write_31, rX8_write_34, rX8_write_35, rX8_write_36, rX8_write_39, rX8_write_40, rX8_write_43, rX8_write_46, true_and, and_true, true_or, or_true, false_or, or_false, Option.toList_some, Option.toList_none, List.nil_append, List.cons_append, zn1, sO_0 hG, kTx hG, kX8_within, bi_ne0, hlen]
  by_cases c1 : 1 ≤ n ∧ n ≤ 8
  · rw [if_pos c1]
    obtain ⟨k, rfl⟩ := nat_of (show 0 ≤ n by omega)
    have ez := zw_id (z := (len : Int) + (k : Int)) (by omega) (by omega)
    rw [ez]
    by_cases c2 : (len : Int) + (k : Int) ≤ 300
    · rw [if_pos c2]
      refine kX5_append hG hlen (by omega) (by omega) (fun H1 f1 e1 a1 b1 => ?_)
      simp only [rX8_write_0, rX8_write_1, rX8_write_2, rX8_write_4, rX8_write_7, rX8_write_10, rX8_write_11, rX8_write_12, rX8_write_13, rX8_write_16, rX8_write_19, rX8_write_20, rX8_write_21, rX8_write_24, rX8_write_27, rX8_write_29, rX8_write_30, rX8_write_31, rX8_write_34, rX8_write_35, rX8_write_36, rX8_write_39, rX8_write_40, rX8_write_43, rX8_write_46, true_and, and_true, true_or, or_true, false_or, or_false, Option.toList_some, Option.toList_none, List.nil_append, List.cons_append, zn1, sO_0 hG, kTx hG, e1]
      refine ⟨_, rfl, ?_⟩
      have u2 : th0 H1 130 2 = (len : Int) := by rw [th0_130 (by omega), f1 130 (by omega) (by omega), x2, hlen]
      have ek := zw_id (z := (k : Int) - 1) (by omega) (by omega)
      have e131 : th0 H1 131 = H 131 := by rw [th0_ne (by omega), f1 131 (by omega) (by omega)]
      rw [rX9_write_in]
      simp only [rX9_write_0, rX9_write_1, rX9_write_2, rX9_write_5, rX9_write_6, rX9_write_7, rX9_write_9, rX9_write_12, rX9_write_17, rX9_write_18, rX9_write_21, rX9_write_22, rX9_write_23, rX9_write_26, rX9_write_32, rX9_write_33, rX9_write_34, rX9_write_35, true_and, and_true, true_or, or_true, false_or, or_false, Option.toList_some, Option.toList_none, List.nil_append, List.cons_append, zn1, kM hG, zup_def, et, kX9_in, bi_ne0, u2, ez, ek]
      rw [if_pos c1, if_pos c2]
      have loop : ∀ (c m : Nat) (H2 : zH), c + m = k → (∀ b, b ≠ 130 → b ≠ 131 → H2 b = H1 b) → (∀ q : Int, q ≠ 0 → q ≠ 2 → H2 130 q = H1 130 q) → H2 130 2 = ((len + m : Nat) : Int) → (∀ j : Int, j < (len : Int) → H2 131 j = H 131 j) → (∀ j : Nat, j < m → H2 131 ((len + j : Nat) : Int) = bv v ((k : Int) - 1 - (j : Int))) → zRun qX9_write 37 [vr 130, vi (k : Int), vl v, vu, vi ((c : Int) - 1)] [] G H2 (fun r' G2 H2 => r' = some (vi ((len + k : Nat) : Int)) ∧ SR G2 H2) := by
        intro c
        induction c with
        | zero =>
          intro m H2 hm f2 g2 e2 a2 b2
          have : m = k := by omega
          subst this
          have aF : ∀ b, b ≠ 130 → b ≠ 131 → b ≠ 1 → b ≠ 2 → H2 b = H b := fun b y1 y2 y3 y4 => by
            rw [f2 b y1 y2]
            exact f1 b y3 y4
          have m130 : ∀ q : Int, q ≠ 0 → q ≠ 2 → H2 130 q = H 130 q := fun q q1 q2 => by
            rw [g2 q q1 q2, f1 130 (by omega) (by omega)]
          have e3 : H2 3 = H 3 := aF 3 (by omega) (by omega) (by omega) (by omega)
          have eH1 : H2 1 1 = ((len + m : Nat) : Int) := by rw [f2 1 (by omega) (by omega)]; exact e1
          rw [rX9_write_37]
          simp only [rX9_write_39, rX9_write_79, rX9_write_80, rX9_write_83, true_and, and_true, true_or, or_true, false_or, or_false, Option.toList_some, Option.toList_none, List.nil_append, List.cons_append, zn1, kM hG, e2]
          rw [if_pos (by omega)]
          refine ⟨hG, SRt_c ht e3 (aF 4 (by omega) (by omega) (by omega) (by omega)) (aF 133 (by omega) (by omega) (by omega) (by omega)) (m130 4 (by omega) (by omega)) (m130 6 (by omega) (by omega)) (m130 7 (by omega) (by omega)) (m130 8 (by omega) (by omega)), ⟨by rw [eH1]; omega, by rw [eH1]; exact e2, fun j j0 j1 => ?_⟩, SRb_c hbk (by rw [e3]) (fun b b0 b1 => aF b (by omega) (by omega) (by omega) (by omega)) (fun q _ _ => by rw [aF 134 (by omega) (by omega) (by omega) (by omega)]) (by rw [aF 139 (by omega) (by omega) (by omega) (by omega)]; exact hbk.2.2), SRd_c hG hd (by rw [e3]) (by rw [aF 38 (by omega) (by omega) (by omega) (by omega)]) (m130 12 (by omega) (by omega)) (fun b b0 b1 => aF b (by omega) (by omega) (by omega) (by omega)) (aF 136 (by omega) (by omega) (by omega) (by omega)), SRk_c hk (by rw [e3]) (by rw [aF 94 (by omega) (by omega) (by omega) (by omega)]) (m130 14 (by omega) (by omega)) (fun b b0 b1 => aF b (by omega) (by omega) (by omega) (by omega)) (aF 137 (by omega) (by omega) (by omega) (by omega)), SRo_c ho e3 (by rw [aF 114 (by omega) (by omega) (by omega) (by omega)]) (m130 16 (by omega) (by omega)) (aF 115 (by omega) (by omega) (by omega) (by omega)) (aF 116 (by omega) (by omega) (by omega) (by omega)) (aF 117 (by omega) (by omega) (by omega) (by omega)) (aF 138 (by omega) (by omega) (by omega) (by omega))⟩
          rw [eH1] at j1
          rw [f2 2 (by omega) (by omega)]
          by_cases cj : j < (len : Int)
          · rw [a2 j cj, a1 j cj]
            exact x3 j j0 (by omega)
          · obtain ⟨i, hi⟩ := nat_of (show 0 ≤ j - (len : Int) by omega)
            have ej : j = ((len + i : Nat) : Int) := by omega
            have hik : i < m := by omega
            rw [ej, b2 i hik, b1 i hik]
            obtain ⟨q, hq⟩ := nat_of (show 0 ≤ (m : Int) - 1 - (i : Int) by omega)
            rw [hq]
            exact ⟨rfl, (byt v (by omega)).1⟩
        | succ c ih =>
          intro m H2 hm f2 g2 e2 a2 b2
          have hc8 : c < 8 := by omega
          have cl : (0 : Int) ≤ ((len + m : Nat) : Int) ∧ ((len + m : Nat) : Int) < 300 := by omega
          have n1 : ¬ (c : Int) < 0 := by omega
          rw [show ((c + 1 : Nat) : Int) - 1 = (c : Int) by omega]
          have hcm : c + (m + 1) = k := by omega
          have hkc : (k : Int) - 1 - (m : Int) = (c : Int) := by omega
          have hjl : ∀ j : Int, j < (len : Int) → ¬ j = ((len + m : Nat) : Int) := fun j hj => by omega
          have hjm : ∀ j : Nat, j < m + 1 → ¬ j = m → j < m ∧ ¬ ((len + j : Nat) : Int) = ((len + m : Nat) : Int) := fun j hj hm => by omega
          have e8 : zw (8 * (c : Int)) = 8 * (c : Int) := zw_id (by omega) (by omega)
          have ec : zw ((c : Int) + -1) = (c : Int) - 1 := zw_id (by omega) (by omega)
          have el := zwk (show len + m < 2000000000 by omega)
          have hb := (byt v hc8).2
          rw [rX9_write_37]
          simp only [rX9_write_39, rX9_write_42, rX9_write_43, rX9_write_46, rX9_write_47, rX9_write_50, rX9_write_51, rX9_write_53, rX9_write_55, rX9_write_56, rX9_write_57, rX9_write_60, rX9_write_61, rX9_write_62, rX9_write_63, rX9_write_64, rX9_write_65, rX9_write_68, rX9_write_69, rX9_write_70, rX9_write_73, rX9_write_76, true_and, and_true, true_or, or_true, false_or, or_false, Option.toList_some, Option.toList_none, List.nil_append, List.cons_append, zn1, kM hG, e2, e8, ec, el, hb, zup_def, zset_at, Nat.reduceEqDiff, reduceIte]
          rw [if_neg n1]
          refine ⟨cl, ih (m + 1) _ hcm (fun b y1 y2 => by rw [zset_ne y1, zset_ne y2]; exact f2 b y1 y2) (fun q q1 q2 => ?_) ?_ (fun j hj => ?_) (fun j hj => ?_)⟩
          · rw [zset_eq, zfu_at, if_neg q2]
            exact g2 q q1 q2
          · rw [zset_eq, zfu_at, if_pos rfl]
            rfl
          · rw [zset_ne (by decide), zset_eq, zfu_at, if_neg (hjl j hj)]
            exact a2 j hj
          · rw [zset_ne (by decide), zset_eq, zfu_at]
            by_cases cj : j = m
            · rw [cj, if_pos rfl, hkc]
            · rw [if_neg (hjm j hj cj).2]
              exact b2 j (hjm j hj cj).1
      exact loop k 0 (th0 H1) (by omega) (fun b y1 y2 => th0_ne y1) (fun q q1 q2 => th0_130 q1) (by rw [u2]; rfl) (fun j hj => by rw [e131]) (fun j hj => by omega)
    · rw [if_neg c2]
      refine ⟨_, rfl, ?_⟩
      rw [hlen] at t2
      rw [rX9_write_in]
      simp only [rX9_write_0, rX9_write_1, rX9_write_2, rX9_write_5, rX9_write_6, rX9_write_7, rX9_write_9, rX9_write_12, rX9_write_17, rX9_write_18, rX9_write_21, rX9_write_22, rX9_write_23, rX9_write_26, rX9_write_29, rX9_write_31, true_and, and_true, true_or, or_true, false_or, or_false, Option.toList_some, Option.toList_none, List.nil_append, List.cons_append, zn1, kM hG, zup_def, et, kX9_in, bi_ne0, t2, ez]
      rw [if_pos c1, if_neg c2]
      exact SR_th hS
  · rw [if_neg c1]
    refine ⟨_, rfl, ?_⟩
    rw [rX9_write_in]
    simp only [rX9_write_0, rX9_write_1, rX9_write_2, rX9_write_5, rX9_write_6, rX9_write_7, rX9_write_9, rX9_write_12, rX9_write_15, rX9_write_16, true_and, and_true, true_or, or_true, false_or, or_false, Option.toList_some, Option.toList_none, List.nil_append, List.cons_append, zn1, kM hG, zup_def, et, kX9_in, bi_ne0]
    rw [if_neg c1]
    exact SR_th hS
