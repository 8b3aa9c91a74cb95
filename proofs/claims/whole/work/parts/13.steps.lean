/-! one step, all kinds -/
theorem zgetf_some {m : zM} {i pc : Nat} {L S : List zV} {G : zG} {H : zH} {x : zN} (h : zgetf m i pc L S G H = some (.inl x)) : ∃ a S' t k, S = .inr (.inr (.inl a)) :: S' ∧ zfd m.1 i = some (t, k) ∧ (a < G.1 ∧ (G.2.2.1 a).1 = t) ∧ ((zrf t k = true ∧ G.2.2.2 a k < G.1 ∧ x = (pc, L, vr (G.2.2.2 a k) :: S', G, H)) ∨ (zrf t k = false ∧ x = (pc, L, vi (H a k) :: S', G, H))) := by
  unfold zgetf at h
  split at h
  · rename_i a S'
    split at h
    · rename_i t k e
      obtain ⟨h1, h2⟩ := zif_some h
      refine ⟨a, S', t, k, rfl, e, zCb_iff.mp h1, ?_⟩
      split at h2
      · rename_i e2
        obtain ⟨h3, h4⟩ := zif_go h2
        exact Or.inl ⟨e2, by simpa using h3, h4⟩
      · rename_i e2
        exact Or.inr ⟨e2, zgo_eq h2⟩
    · cases h
  · cases h
theorem zputf_some {m : zM} {i pc : Nat} {L S : List zV} {G : zG} {H : zH} {x : zN} (h : zputf m i pc L S G H = some (.inl x)) : ∃ a S' t k, zfd m.1 i = some (t, k) ∧ (a < G.1 ∧ (G.2.2.1 a).1 = t) ∧ ((zrf t k = false ∧ ∃ z, S = .inl z :: .inr (.inr (.inl a)) :: S' ∧ x = (pc, L, S', G, zup H a k z)) ∨ (zrf t k = true ∧ m.1 = t ∧ m.2.1.name = "<init>" ∧ ∃ y, S = .inr (.inr (.inl y)) :: .inr (.inr (.inl a)) :: S' ∧ x = (pc, L, S', (G.1, G.2.1, G.2.2.1, zrset G.2.2.2 a (zru (G.2.2.2 a) k y)), H))) := by
  unfold zputf at h
  split at h
  · cases h
  · rename_i t k e
    split at h
    · rename_i z a S' e2
      obtain ⟨h1, h2⟩ := zif_go h
      exact ⟨a, S', t, k, e, zCb_iff.mp h1, Or.inl ⟨e2, z, rfl, h2⟩⟩
    · rename_i y a S' e2
      obtain ⟨h1, h2⟩ := zif_go h
      simp only [Bool.and_eq_true, decide_eq_true_eq, zCb_iff] at h1
      exact ⟨a, S', t, k, e, h1.1, Or.inr ⟨e2, h1.2.1, h1.2.2, y, rfl, h2⟩⟩
    · cases h
theorem zarld_some {o : Option (Nat × (Int → Int))} {t pc : Nat} {L S : List zV} {G : zG} {H : zH} {x : zN} (h : zarld o t pc L S G H = some (.inl x)) : (∃ i a S', S = .inl i :: .inr (.inr (.inl a)) :: S' ∧ (a < G.1 ∧ (G.2.2.1 a).1 = t) ∧ (0 ≤ i ∧ i < ((G.2.2.1 a).2 : Int)) ∧ x = (pc, L, vi (H a i) :: S', G, H)) ∨ (∃ i S' n f, S = .inl i :: .inr (.inr (.inr 1)) :: S' ∧ o = some (n, f) ∧ t = 100 ∧ (0 ≤ i ∧ i < (n : Int)) ∧ x = (pc, L, vi (f i) :: S', G, H)) := by
  unfold zarld at h
  split at h
  · rename_i i a S'
    obtain ⟨h1, h2⟩ := zif_go h
    simp only [Bool.and_eq_true, zCb_iff, zInb_iff] at h1
    exact Or.inl ⟨i, a, S', rfl, h1.1, h1.2, h2⟩
  · rename_i i S'
    split at h
    · rename_i n f
      obtain ⟨h1, h2⟩ := zif_go h
      simp only [Bool.and_eq_true, decide_eq_true_eq] at h1
      exact Or.inr ⟨i, S', n, f, rfl, rfl, h1.1, h1.2, h2⟩
    · cases h
  · cases h
theorem zarst_some {t pc : Nat} {L S : List zV} {G : zG} {H : zH} {x : zN} (h : zarst t pc L S G H = some (.inl x)) : ∃ v i a S', S = .inl v :: .inl i :: .inr (.inr (.inl a)) :: S' ∧ (a < G.1 ∧ (G.2.2.1 a).1 = t) ∧ (0 ≤ i ∧ i < ((G.2.2.1 a).2 : Int)) ∧ (t = 100 ∨ (v = 0 ∨ v = 1)) ∧ x = (pc, L, S', G, zup H a i v) := by
  unfold zarst at h
  split at h
  · rename_i v i a S'
    obtain ⟨h1, h2⟩ := zif_go h
    simp only [Bool.and_eq_true, Bool.or_eq_true, decide_eq_true_eq, zCb_iff, zInb_iff] at h1
    exact ⟨v, i, a, S', rfl, h1.1.1, h1.1.2, h1.2, h2⟩
  · cases h
section ZSS
variable {p : Program} {l : Launch} {e : Env} {R : Room} {s : State} {m : MethodId} {args : Array Value} {below : List Frame} {meth : Method} {c : Code} {Q : State → Prop} {D : va_G} {cs : zCs} {A : Nat → Prop} {b n0 s0 : Nat} {ad0 : Nat → Nat} {q : zM} {pc : Nat} {L S : List zV} {G : zG} {H : zH}
set_option maxHeartbeats 4000000 in
theorem zs_step (C : zCx p s m args meth c D cs A q) {o : Option (Nat × (Int → Int))} (hO : zSc s A b o) {d : Nat} (hR : d ≤ R.frames ∧ 60 * d ≤ R.locals) {x : zN} (h : zst o d q pc L S G H = some (.inl x)) (r1 : x.2.2.2.1.1 - n0 ≤ R.cells) (r2 : x.2.2.2.1.2.1 - s0 ≤ R.slots) (K : zGo p l e R s m args below meth c Q D cs A b n0 s0 ad0 q x.1 x.2.1 x.2.2.1 x.2.2.2.1 x.2.2.2.2) : zGo p l e R s m args below meth c Q D cs A b n0 s0 ad0 q pc L S G H := by
  unfold zst at h
  split at h
  next op len hd =>
    obtain ⟨hl, h⟩ := zif_some h
    cases op with
    | iconst n =>
      obtain ⟨h1, rfl⟩ := zif_go (show zif _ (zgo _ _ _ _ _) = _ from h)
      obtain rfl : len = 1 := by simpa [zlo] using hl
      simp only [Bool.and_eq_true, decide_eq_true_eq] at h1
      exact zs_iconst C hd h1.1 h1.2 K
    | bipush n =>
      obtain ⟨h1, rfl⟩ := zif_go (show zif _ (zgo _ _ _ _ _) = _ from h)
      obtain rfl : len = 2 := by simpa [zlo] using hl
      simp only [Bool.and_eq_true, decide_eq_true_eq] at h1
      exact zs_bipush C hd h1.1 h1.2 K
    | sipush n =>
      obtain ⟨h1, rfl⟩ := zif_go (show zif _ (zgo _ _ _ _ _) = _ from h)
      obtain rfl : len = 3 := by simpa [zlo] using hl
      simp only [Bool.and_eq_true, decide_eq_true_eq] at h1
      exact zs_sipush C hd h1.1 h1.2 K
    | lconst n =>
      obtain rfl := zgo_eq (show zgo _ _ _ _ _ = _ from h)
      obtain rfl : len = 1 := by simpa [zlo] using hl
      exact zs_lconst C hd K
    | ldc i =>
      obtain rfl : len = 2 := by simpa [zlo] using hl
      simp only [zstp] at h
      split at h
      · rename_i z e
        obtain rfl := zgo_eq h
        exact zs_ldc C hd e K
      · cases h
    | ldc2_w i =>
      obtain rfl : len = 3 := by simpa [zlo] using hl
      simp only [zstp] at h
      split at h
      · rename_i z e
        obtain rfl := zgo_eq h
        exact zs_ldc2 C hd e K
      · cases h
    | iload_n i =>
      obtain rfl : len = 1 := by simpa [zlo] using hl
      obtain ⟨z, h1, rfl⟩ := zld_some (show zld _ _ _ _ _ _ = _ from h)
      exact zs_iload_n C hd h1 K
    | iload i =>
      obtain rfl : len = 2 := by simpa [zlo] using hl
      obtain ⟨z, h1, rfl⟩ := zld_some (show zld _ _ _ _ _ _ = _ from h)
      exact zs_iload C hd h1 K
    | lload_n i =>
      obtain rfl : len = 1 := by simpa [zlo] using hl
      obtain ⟨z, h1, rfl⟩ := zlld_some (show zlld _ _ _ _ _ _ = _ from h)
      exact zs_lload_n C hd h1 K
    | aload_n i =>
      obtain rfl : len = 1 := by simpa [zlo] using hl
      rcases zald_some (show zald _ _ _ _ _ _ = _ from h) with ⟨z, h1, rfl⟩ | ⟨h1, rfl⟩
      · exact zs_aload_n C hd h1 K
      · exact zs_aload_nx C hd h1 K
    | aload i =>
      obtain rfl : len = 2 := by simpa [zlo] using hl
      rcases zald_some (show zald _ _ _ _ _ _ = _ from h) with ⟨z, h1, rfl⟩ | ⟨h1, rfl⟩
      · exact zs_aload C hd h1 K
      · exact zs_aloadx C hd h1 K
    | istore_n i =>
      obtain rfl : len = 1 := by simpa [zlo] using hl
      obtain ⟨z, S', rfl, h1, h2, rfl⟩ := zist_some (show zist _ _ _ _ _ _ = _ from h)
      exact zs_istore_n C hd h1 h2 K
    | istore i =>
      obtain rfl : len = 2 := by simpa [zlo] using hl
      obtain ⟨z, S', rfl, h1, h2, rfl⟩ := zist_some (show zist _ _ _ _ _ _ = _ from h)
      exact zs_istore C hd h1 h2 K
    | lstore_n i =>
      obtain rfl : len = 1 := by simpa [zlo] using hl
      obtain ⟨z, S', rfl, h1, h2, rfl⟩ := zlst_some (show zlst _ _ _ _ _ _ = _ from h)
      exact zs_lstore_n C hd h1 h2 K
    | astore_n i =>
      obtain rfl : len = 1 := by simpa [zlo] using hl
      obtain ⟨z, S', rfl, h1, h2, rfl⟩ := zast_some (show zast _ _ _ _ _ _ = _ from h)
      exact zs_astore_n C hd h1 h2 K
    | astore i =>
      obtain rfl : len = 2 := by simpa [zlo] using hl
      obtain ⟨z, S', rfl, h1, h2, rfl⟩ := zast_some (show zast _ _ _ _ _ _ = _ from h)
      exact zs_astore C hd h1 h2 K
    | iinc i n =>
      obtain rfl : len = 3 := by simpa [zlo] using hl
      have h : ziinc i n (pc + 3) L S G H = _ := h
      unfold ziinc at h
      split at h
      · rename_i z e
        obtain ⟨h1, rfl⟩ := zif_go h
        exact zs_iinc C hd e h1 K
      · cases h
    | iadd =>
      obtain rfl : len = 1 := by simpa [zlo] using hl
      obtain ⟨a, b', S', rfl, rfl⟩ := zint2_some (show zint2 _ _ _ _ _ _ = _ from h)
      exact zs_iadd C hd K
    | isub =>
      obtain rfl : len = 1 := by simpa [zlo] using hl
      obtain ⟨a, b', S', rfl, rfl⟩ := zint2_some (show zint2 _ _ _ _ _ _ = _ from h)
      exact zs_isub C hd K
    | imul =>
      obtain rfl : len = 1 := by simpa [zlo] using hl
      obtain ⟨a, b', S', rfl, rfl⟩ := zint2_some (show zint2 _ _ _ _ _ _ = _ from h)
      exact zs_imul C hd K
    | idiv =>
      obtain rfl : len = 1 := by simpa [zlo] using hl
      obtain ⟨a, b', S', rfl, h0, rfl⟩ := zdivs_some (show zdivs _ _ _ _ _ _ = _ from h)
      exact zs_idiv C hd h0 K
    | irem =>
      obtain rfl : len = 1 := by simpa [zlo] using hl
      obtain ⟨a, b', S', rfl, h0, rfl⟩ := zdivs_some (show zdivs _ _ _ _ _ _ = _ from h)
      exact zs_irem C hd h0 K
    | iand =>
      obtain rfl : len = 1 := by simpa [zlo] using hl
      obtain ⟨a, b', S', rfl, rfl⟩ := zint2_some (show zint2 _ _ _ _ _ _ = _ from h)
      exact zs_iand C hd K
    | ior =>
      obtain rfl : len = 1 := by simpa [zlo] using hl
      obtain ⟨a, b', S', rfl, rfl⟩ := zint2_some (show zint2 _ _ _ _ _ _ = _ from h)
      exact zs_ior C hd K
    | ishl =>
      obtain rfl : len = 1 := by simpa [zlo] using hl
      obtain ⟨a, b', S', rfl, rfl⟩ := zint2_some (show zint2 _ _ _ _ _ _ = _ from h)
      exact zs_ishl C hd K
    | ishr =>
      obtain rfl : len = 1 := by simpa [zlo] using hl
      obtain ⟨a, b', S', rfl, rfl⟩ := zint2_some (show zint2 _ _ _ _ _ _ = _ from h)
      exact zs_ishr C hd K
    | ladd =>
      obtain rfl : len = 1 := by simpa [zlo] using hl
      obtain ⟨a, b', S', rfl, rfl⟩ := zlong2_some (show zlong2 _ _ _ _ _ _ = _ from h)
      exact zs_ladd C hd K
    | lmul =>
      obtain rfl : len = 1 := by simpa [zlo] using hl
      obtain ⟨a, b', S', rfl, rfl⟩ := zlong2_some (show zlong2 _ _ _ _ _ _ = _ from h)
      exact zs_lmul C hd K
    | lrem =>
      obtain rfl : len = 1 := by simpa [zlo] using hl
      simp only [zstp] at h
      split at h
      · obtain ⟨h1, rfl⟩ := zif_go h
        exact zs_lrem C hd (by simpa using h1) K
      · cases h
    | land =>
      obtain rfl : len = 1 := by simpa [zlo] using hl
      obtain ⟨a, b', S', rfl, rfl⟩ := zlong2_some (show zlong2 _ _ _ _ _ _ = _ from h)
      exact zs_land C hd K
    | lor =>
      obtain rfl : len = 1 := by simpa [zlo] using hl
      obtain ⟨a, b', S', rfl, rfl⟩ := zlong2_some (show zlong2 _ _ _ _ _ _ = _ from h)
      exact zs_lor C hd K
    | lshl =>
      obtain rfl : len = 1 := by simpa [zlo] using hl
      obtain ⟨a, b', S', rfl, rfl⟩ := zlongi_some (show zlongi _ _ _ _ _ _ = _ from h)
      exact zs_lshl C hd K
    | lshr =>
      obtain rfl : len = 1 := by simpa [zlo] using hl
      obtain ⟨a, b', S', rfl, rfl⟩ := zlongi_some (show zlongi _ _ _ _ _ _ = _ from h)
      exact zs_lshr C hd K
    | lushr =>
      obtain rfl : len = 1 := by simpa [zlo] using hl
      obtain ⟨a, b', S', rfl, rfl⟩ := zlongi_some (show zlongi _ _ _ _ _ _ = _ from h)
      exact zs_lushr C hd K
    | i2l =>
      obtain rfl : len = 1 := by simpa [zlo] using hl
      simp only [zstp] at h
      split at h
      · obtain rfl := zgo_eq h
        exact zs_i2l C hd K
      · cases h
    | l2i =>
      obtain rfl : len = 1 := by simpa [zlo] using hl
      simp only [zstp] at h
      split at h
      · obtain rfl := zgo_eq h
        exact zs_l2i C hd K
      · cases h
    | dup =>
      obtain rfl : len = 1 := by simpa [zlo] using hl
      simp only [zstp, zdup] at h
      split at h
      · obtain rfl := zgo_eq h
        exact zs_dup_i C hd K
      · obtain rfl := zgo_eq h
        exact zs_dup_r C hd K
      · cases h
    | dup2 =>
      obtain rfl : len = 1 := by simpa [zlo] using hl
      simp only [zstp, zdup2] at h
      split at h
      · obtain rfl := zgo_eq h
        exact zs_dup2 C hd K
      · cases h
    | pop =>
      obtain rfl : len = 1 := by simpa [zlo] using hl
      simp only [zstp, zpop] at h
      split at h
      · obtain rfl := zgo_eq h
        exact zs_pop C hd K
      · cases h
    | ifCond cd off =>
      obtain rfl : len = 3 := by simpa [zlo] using hl
      obtain ⟨h1, h⟩ := zif_some (show zif _ (zift _ _ _ _ _ _ _) = _ from h)
      simp only [zift] at h
      split at h
      · obtain rfl := zgo_eq h
        exact zs_if C hd (by simpa using h1) K
      · cases h
    | if_icmp cd off =>
      obtain rfl : len = 3 := by simpa [zlo] using hl
      obtain ⟨h1, h⟩ := zif_some (show zif _ (zicm _ _ _ _ _ _ _) = _ from h)
      simp only [zicm] at h
      split at h
      · obtain rfl := zgo_eq h
        exact zs_icmp C hd (by simpa using h1) K
      · cases h
    | goto off =>
      obtain rfl : len = 3 := by simpa [zlo] using hl
      obtain ⟨h1, rfl⟩ := zif_go (show zif _ (zgo _ _ _ _ _) = _ from h)
      exact zs_goto C hd (by simpa using h1) K
    | tableswitch dd lo hi offs =>
      simp only [zstp] at h
      split at h
      · obtain ⟨h1, h⟩ := zif_some h
        simp only [Bool.and_eq_true, decide_eq_true_eq] at h1
        split at h
        · rename_i t e
          obtain rfl := zgo_eq h
          exact zs_table C hd h1.1 h1.2 e K
        · cases h
      · cases h
    | lookupswitch dd ps =>
      simp only [zstp] at h
      split at h
      · obtain ⟨h1, rfl⟩ := zif_go h
        simp only [Bool.and_eq_true, decide_eq_true_eq] at h1
        exact zs_look C hd h1.1 h1.2 K
      · cases h
    | getfield i =>
      obtain rfl : len = 3 := by simpa [zlo] using hl
      obtain ⟨a, S', t, k, rfl, h1, h2, ⟨h3, h4, rfl⟩ | ⟨h3, rfl⟩⟩ := zgetf_some (show zgetf _ _ _ _ _ _ _ = _ from h)
      · exact zs_getr C hd h1 h3 h2.1 h2.2 h4 K
      · exact zs_geti C hd h1 h3 h2.1 h2.2 K
    | putfield i =>
      obtain rfl : len = 3 := by simpa [zlo] using hl
      obtain ⟨a, S', t, k, h1, h2, ⟨h3, z, rfl, rfl⟩ | ⟨h3, h4, h5, y, rfl, rfl⟩⟩ := zputf_some (show zputf _ _ _ _ _ _ _ = _ from h)
      · exact zs_puti C hd h1 h3 h2.1 h2.2 K
      · exact zs_putr C hd h1 h3 h2.1 h2.2 h4 h5 K
    | iaload =>
      obtain rfl : len = 1 := by simpa [zlo] using hl
      rcases zarld_some (show zarld _ _ _ _ _ _ _ = _ from h) with ⟨i, a, S', rfl, h1, h2, rfl⟩ | ⟨i, S', n, f, rfl, h1, -, h2, rfl⟩
      · exact zs_iald C hd h1.1 h1.2 h2.1 h2.2 K
      · exact zs_sald C hO h1 hd h2.1 h2.2 K
    | baload =>
      obtain rfl : len = 1 := by simpa [zlo] using hl
      rcases zarld_some (show zarld _ _ _ _ _ _ _ = _ from h) with ⟨i, a, S', rfl, h1, h2, rfl⟩ | ⟨i, S', n, f, rfl, h1, h3, h2, rfl⟩
      · exact zs_bald C hd h1.1 h1.2 h2.1 h2.2 K
      · omega
    | iastore =>
      obtain rfl : len = 1 := by simpa [zlo] using hl
      obtain ⟨v, i, a, S', rfl, h1, h2, -, rfl⟩ := zarst_some (show zarst _ _ _ _ _ _ = _ from h)
      exact zs_iast C hd h1.1 h1.2 h2.1 h2.2 K
    | bastore =>
      obtain rfl : len = 1 := by simpa [zlo] using hl
      obtain ⟨v, i, a, S', rfl, h1, h2, h3, rfl⟩ := zarst_some (show zarst _ _ _ _ _ _ = _ from h)
      exact zs_bast C hd h1.1 h1.2 h2.1 h2.2 (by omega) K
    | aaload =>
      obtain rfl : len = 1 := by simpa [zlo] using hl
      simp only [zstp, zaald] at h
      split at h
      · obtain ⟨h1, rfl⟩ := zif_go h
        simp only [Bool.and_eq_true, Bool.or_eq_true, decide_eq_true_eq, zCb_iff, zInb_iff] at h1
        obtain ⟨⟨h1, h2⟩, h3⟩ := h1
        exact zs_aald C hd (by rcases h1 with h1 | h1 <;> exact h1.1) (by rcases h1 with h1 | h1; exact Or.inl h1.2; exact Or.inr h1.2) h2.1 h2.2 h3 K
      · cases h
    | aastore =>
      obtain rfl : len = 1 := by simpa [zlo] using hl
      simp only [zstp, zaast] at h
      split at h
      · obtain ⟨h1, rfl⟩ := zif_go h
        simp only [Bool.and_eq_true, zCb_iff, zInb_iff] at h1
        obtain ⟨⟨h1, h2⟩, h3⟩ := h1
        exact zs_aast C hd h1.1 h1.2 h2.1 h2.2 h3.1 h3.2 K
      · cases h
    | arraylength =>
      obtain rfl : len = 1 := by simpa [zlo] using hl
      simp only [zstp, zalen] at h
      split at h
      · obtain ⟨h1, rfl⟩ := zif_go h
        simp only [Bool.and_eq_true, decide_eq_true_eq] at h1
        exact zs_alen C hd h1.1 h1.2.1.1 h1.2.1.2 h1.2.2 K
      · split at h
        · rename_i n f
          obtain rfl := zgo_eq h
          exact zs_slen C hO rfl hd K
        · cases h
      · cases h
    | new i =>
      obtain rfl : len = 3 := by simpa [zlo] using hl
      simp only [zstp, znewo] at h
      split at h
      · rename_i t e
        obtain ⟨h1, rfl⟩ := zif_go h
        simp only [Bool.and_eq_true, decide_eq_true_eq] at h1
        exact zs_new C hd e h1.1 h1.2 r1 r2 K
      · cases h
    | newarray ty =>
      obtain rfl : len = 2 := by simpa [zlo] using hl
      cases ty <;> first | (simp [zstp] at h; done) | skip
      · simp only [zstp, znewa] at h
        split at h
        · obtain ⟨h1, rfl⟩ := zif_go h
          simp only [Bool.and_eq_true, decide_eq_true_eq] at h1
          exact zs_newz C hd h1.1.1 h1.1.2 h1.2 r1 r2 K
        · cases h
      · simp only [zstp, znewa] at h
        split at h
        · obtain ⟨h1, rfl⟩ := zif_go h
          simp only [Bool.and_eq_true, decide_eq_true_eq] at h1
          exact zs_newi C hd h1.1.1 h1.1.2 h1.2 r1 r2 K
        · cases h
    | anewarray i =>
      obtain rfl : len = 3 := by simpa [zlo] using hl
      simp only [zstp] at h
      split at h
      · rename_i e
        simp only [znewa] at h
        split at h
        · obtain ⟨h1, rfl⟩ := zif_go h
          simp only [Bool.and_eq_true, decide_eq_true_eq] at h1
          exact zs_newb C hd e h1.1.1 h1.1.2 h1.2 r1 r2 K
        · cases h
      · cases h
    | multianewarray i dims =>
      obtain rfl : len = 4 := by simpa [zlo] using hl
      by_cases hdm : dims = 2
      · subst hdm
        simp only [zstp] at h
        split at h
        · rename_i e
          simp only [znewm] at h
          split at h
          · rename_i k n S' _
            obtain ⟨h1, h2⟩ := zif_some h
            have h2 := zgo_eq h2
            simp only [Bool.and_eq_true, decide_eq_true_eq] at h1
            obtain ⟨⟨⟨c1, c2⟩, c3, c4⟩, c5⟩ := h1
            have N1 := znews_n (znew G 103 n.toNat) (zset H G.1 (fun _ => 0)) k.toNat n.toNat
            have N2 := znews_s (znew G 103 n.toNat) (zset H G.1 (fun _ => 0)) k.toNat n.toNat
            have z1 : (znew G 103 n.toNat).1 = G.1 + 1 := rfl
            have z2 : (znew G 103 n.toNat).2.1 = G.2.1 + n.toNat := rfl
            rw [z1] at N1
            rw [z2] at N1
            rw [z1] at N2
            generalize znews (znew G 103 n.toNat) (zset H G.1 (fun _ => 0)) k.toNat n.toNat = Z at h2 N1 N2
            subst h2
            have r1 : Z.1.1 - n0 ≤ R.cells := r1
            have r2 : Z.1.2.1 - s0 ≤ R.slots := r2
            refine zs_newm C hd e c1 c2 c3 c4 c5 (by omega) (by omega) (n := n) (k := k) (G' := (Z.1.1, Z.1.2.1, Z.1.2.2.1, zrset Z.1.2.2.2 G.1 (fun i => if 0 ≤ i ∧ i < n then G.1 + 1 + i.toNat else znul))) (H' := Z.2) N1.1 N1.2 (fun j => ?_) (fun j => ?_) (fun j => ?_) K
            · show Z.1.2.2.1 j = _
              rw [(N2 j).1]
              show (if G.1 + 1 ≤ j ∧ j < G.1 + 1 + n.toNat then (100, k.toNat) else zsh G.2.2.1 G.1 (103, n.toNat) j) = _
              by_cases e1 : j = G.1
              · subst e1
                rw [if_neg (by omega), zsh_eq, if_pos rfl]
              · rw [if_neg e1, zsh_ne e1]
            · show zrset Z.1.2.2.2 G.1 _ j = _
              by_cases e1 : j = G.1
              · subst e1
                rw [zrset_eq, if_pos rfl]
              · rw [if_neg e1, zrset_ne e1, (N2 j).2.1]
                show (if G.1 + 1 ≤ j ∧ j < G.1 + 1 + n.toNat then (fun _ => znul) else zrset G.2.2.2 G.1 (fun _ => znul) j) = _
                rw [zrset_ne e1]
            · show Z.2 j = _
              rw [(N2 j).2.2]
              by_cases e1 : j = G.1
              · subst e1
                rw [if_neg (by omega), zset_eq, if_pos (by omega)]
              · rw [zset_ne e1]
                by_cases e2 : G.1 + 1 ≤ j ∧ j < G.1 + 1 + n.toNat
                · rw [if_pos e2, if_pos (by omega)]
                · rw [if_neg e2, if_neg (by omega)]
          · cases h
        · cases h
      · exfalso
        have : zstp o d q pc (.multianewarray i dims) 4 L S G H = none := by
          unfold zstp
          split <;> simp_all
        rw [this] at h
        cases h
    | invokevirtual i =>
      obtain ⟨h1, h⟩ := zif_some (show zif _ (zinv _ _ _ _ _ _ _ _) = _ from h)
      simp only [zinv] at h
      split at h
      · have := (zif_some h).1
        simp at this
      · split at h
        · obtain ⟨-, h⟩ := zif_some h
          split at h
          · have := (zif_some h).2
            cases this
          all_goals cases h
        · cases h
    | invokestatic i =>
      obtain rfl : len = 3 := by simpa [zlo] using hl
      obtain ⟨h1, h⟩ := zif_some (show zif _ (zinv _ _ _ _ _ _ _ _) = _ from h)
      simp only [zinv] at h
      split at h
      · rename_i bb e
        obtain ⟨h2, h⟩ := zif_some h
        simp at h2
        exact zs_bui C (by simpa using h1) hR e ⟨fun z => absurd z h2, fun _ => hd⟩ h r1 r2 K
      · split at h
        · obtain ⟨-, h⟩ := zif_some h
          cases h
        · cases h
    | invokespecial i =>
      obtain rfl : len = 3 := by simpa [zlo] using hl
      obtain ⟨h1, h⟩ := zif_some (show zif _ (zinv _ _ _ _ _ _ _ _) = _ from h)
      simp only [zinv] at h
      split at h
      · rename_i bb e
        obtain ⟨h2, h⟩ := zif_some h
        simp at h2
        exact zs_bui C (by simpa using h1) hR e ⟨fun _ => hd, fun z => absurd h2 z⟩ h r1 r2 K
      · split at h
        · obtain ⟨-, h⟩ := zif_some h
          split at h
          · have := (zif_some h).2
            cases this
          all_goals cases h
        · cases h
    | ireturn =>
      simp only [zstp, zret] at h
      split at h
      · split at h
        · cases h
        · have := (zif_some h).2
          cases this
        · cases h
      · cases h
    | return_ =>
      simp only [zstp] at h
      split at h <;> cases h
    | _ => simp [zstp] at h
  next => cases h
end ZSS
