/-! no step takes cells away -/
theorem zbui_mono {bb pc : Nat} {L S : List zV} {G : zG} {H : zH} {x : zN} (h : zbui bb pc L S G H = some (.inl x)) : G.1 ≤ x.2.2.2.1.1 ∧ G.2.1 ≤ x.2.2.2.1.2.1 := by
  unfold zbui at h
  split at h
  · obtain ⟨h1, rfl⟩ := zif_go h
    exact ⟨Nat.le_refl _, Nat.le_refl _⟩
  · obtain ⟨h1, rfl⟩ := zif_go h
    exact ⟨Nat.le_refl _, Nat.le_refl _⟩
  · obtain ⟨h1, rfl⟩ := zif_go h
    exact ⟨Nat.le_refl _, Nat.le_refl _⟩
  · obtain ⟨h1, rfl⟩ := zif_go h
    exact ⟨Nat.le_refl _, Nat.le_refl _⟩
  · cases h
set_option maxHeartbeats 4000000 in
theorem zst_mono {o : Option (Nat × (Int → Int))} {d : Nat} {q : zM} {pc : Nat} {L S : List zV} {G : zG} {H : zH} {x : zN} (h : zst o d q pc L S G H = some (.inl x)) : G.1 ≤ x.2.2.2.1.1 ∧ G.2.1 ≤ x.2.2.2.1.2.1 := by
  unfold zst at h
  split at h
  next op len hd =>
    obtain ⟨hl, h⟩ := zif_some h
    cases op with
    | iconst n =>
      obtain ⟨h1, rfl⟩ := zif_go (show zif _ (zgo _ _ _ _ _) = _ from h)
      obtain rfl : len = 1 := by simpa [zlo] using hl
      simp only [Bool.and_eq_true, decide_eq_true_eq] at h1
      exact ⟨Nat.le_refl _, Nat.le_refl _⟩
    | bipush n =>
      obtain ⟨h1, rfl⟩ := zif_go (show zif _ (zgo _ _ _ _ _) = _ from h)
      obtain rfl : len = 2 := by simpa [zlo] using hl
      simp only [Bool.and_eq_true, decide_eq_true_eq] at h1
      exact ⟨Nat.le_refl _, Nat.le_refl _⟩
    | sipush n =>
      obtain ⟨h1, rfl⟩ := zif_go (show zif _ (zgo _ _ _ _ _) = _ from h)
      obtain rfl : len = 3 := by simpa [zlo] using hl
      simp only [Bool.and_eq_true, decide_eq_true_eq] at h1
      exact ⟨Nat.le_refl _, Nat.le_refl _⟩
    | lconst n =>
      obtain rfl := zgo_eq (show zgo _ _ _ _ _ = _ from h)
      obtain rfl : len = 1 := by simpa [zlo] using hl
      exact ⟨Nat.le_refl _, Nat.le_refl _⟩
    | ldc i =>
      obtain rfl : len = 2 := by simpa [zlo] using hl
      simp only [zstp] at h
      split at h
      · rename_i z e
        obtain rfl := zgo_eq h
        exact ⟨Nat.le_refl _, Nat.le_refl _⟩
      · cases h
    | ldc2_w i =>
      obtain rfl : len = 3 := by simpa [zlo] using hl
      simp only [zstp] at h
      split at h
      · rename_i z e
        obtain rfl := zgo_eq h
        exact ⟨Nat.le_refl _, Nat.le_refl _⟩
      · cases h
    | iload_n i =>
      obtain rfl : len = 1 := by simpa [zlo] using hl
      obtain ⟨z, h1, rfl⟩ := zld_some (show zld _ _ _ _ _ _ = _ from h)
      exact ⟨Nat.le_refl _, Nat.le_refl _⟩
    | iload i =>
      obtain rfl : len = 2 := by simpa [zlo] using hl
      obtain ⟨z, h1, rfl⟩ := zld_some (show zld _ _ _ _ _ _ = _ from h)
      exact ⟨Nat.le_refl _, Nat.le_refl _⟩
    | lload_n i =>
      obtain rfl : len = 1 := by simpa [zlo] using hl
      obtain ⟨z, h1, rfl⟩ := zlld_some (show zlld _ _ _ _ _ _ = _ from h)
      exact ⟨Nat.le_refl _, Nat.le_refl _⟩
    | aload_n i =>
      obtain rfl : len = 1 := by simpa [zlo] using hl
      rcases zald_some (show zald _ _ _ _ _ _ = _ from h) with ⟨z, h1, rfl⟩ | ⟨h1, rfl⟩
      · exact ⟨Nat.le_refl _, Nat.le_refl _⟩
      · exact ⟨Nat.le_refl _, Nat.le_refl _⟩
    | aload i =>
      obtain rfl : len = 2 := by simpa [zlo] using hl
      rcases zald_some (show zald _ _ _ _ _ _ = _ from h) with ⟨z, h1, rfl⟩ | ⟨h1, rfl⟩
      · exact ⟨Nat.le_refl _, Nat.le_refl _⟩
      · exact ⟨Nat.le_refl _, Nat.le_refl _⟩
    | istore_n i =>
      obtain rfl : len = 1 := by simpa [zlo] using hl
      obtain ⟨z, S', rfl, h1, h2, rfl⟩ := zist_some (show zist _ _ _ _ _ _ = _ from h)
      exact ⟨Nat.le_refl _, Nat.le_refl _⟩
    | istore i =>
      obtain rfl : len = 2 := by simpa [zlo] using hl
      obtain ⟨z, S', rfl, h1, h2, rfl⟩ := zist_some (show zist _ _ _ _ _ _ = _ from h)
      exact ⟨Nat.le_refl _, Nat.le_refl _⟩
    | lstore_n i =>
      obtain rfl : len = 1 := by simpa [zlo] using hl
      obtain ⟨z, S', rfl, h1, h2, rfl⟩ := zlst_some (show zlst _ _ _ _ _ _ = _ from h)
      exact ⟨Nat.le_refl _, Nat.le_refl _⟩
    | astore_n i =>
      obtain rfl : len = 1 := by simpa [zlo] using hl
      obtain ⟨z, S', rfl, h1, h2, rfl⟩ := zast_some (show zast _ _ _ _ _ _ = _ from h)
      exact ⟨Nat.le_refl _, Nat.le_refl _⟩
    | astore i =>
      obtain rfl : len = 2 := by simpa [zlo] using hl
      obtain ⟨z, S', rfl, h1, h2, rfl⟩ := zast_some (show zast _ _ _ _ _ _ = _ from h)
      exact ⟨Nat.le_refl _, Nat.le_refl _⟩
    | iinc i n =>
      obtain rfl : len = 3 := by simpa [zlo] using hl
      have h : ziinc i n (pc + 3) L S G H = _ := h
      unfold ziinc at h
      split at h
      · rename_i z e
        obtain ⟨h1, rfl⟩ := zif_go h
        exact ⟨Nat.le_refl _, Nat.le_refl _⟩
      · cases h
    | iadd =>
      obtain rfl : len = 1 := by simpa [zlo] using hl
      obtain ⟨a, b', S', rfl, rfl⟩ := zint2_some (show zint2 _ _ _ _ _ _ = _ from h)
      exact ⟨Nat.le_refl _, Nat.le_refl _⟩
    | isub =>
      obtain rfl : len = 1 := by simpa [zlo] using hl
      obtain ⟨a, b', S', rfl, rfl⟩ := zint2_some (show zint2 _ _ _ _ _ _ = _ from h)
      exact ⟨Nat.le_refl _, Nat.le_refl _⟩
    | imul =>
      obtain rfl : len = 1 := by simpa [zlo] using hl
      obtain ⟨a, b', S', rfl, rfl⟩ := zint2_some (show zint2 _ _ _ _ _ _ = _ from h)
      exact ⟨Nat.le_refl _, Nat.le_refl _⟩
    | idiv =>
      obtain rfl : len = 1 := by simpa [zlo] using hl
      obtain ⟨a, b', S', rfl, h0, rfl⟩ := zdivs_some (show zdivs _ _ _ _ _ _ = _ from h)
      exact ⟨Nat.le_refl _, Nat.le_refl _⟩
    | irem =>
      obtain rfl : len = 1 := by simpa [zlo] using hl
      obtain ⟨a, b', S', rfl, h0, rfl⟩ := zdivs_some (show zdivs _ _ _ _ _ _ = _ from h)
      exact ⟨Nat.le_refl _, Nat.le_refl _⟩
    | iand =>
      obtain rfl : len = 1 := by simpa [zlo] using hl
      obtain ⟨a, b', S', rfl, rfl⟩ := zint2_some (show zint2 _ _ _ _ _ _ = _ from h)
      exact ⟨Nat.le_refl _, Nat.le_refl _⟩
    | ior =>
      obtain rfl : len = 1 := by simpa [zlo] using hl
      obtain ⟨a, b', S', rfl, rfl⟩ := zint2_some (show zint2 _ _ _ _ _ _ = _ from h)
      exact ⟨Nat.le_refl _, Nat.le_refl _⟩
    | ishl =>
      obtain rfl : len = 1 := by simpa [zlo] using hl
      obtain ⟨a, b', S', rfl, rfl⟩ := zint2_some (show zint2 _ _ _ _ _ _ = _ from h)
      exact ⟨Nat.le_refl _, Nat.le_refl _⟩
    | ishr =>
      obtain rfl : len = 1 := by simpa [zlo] using hl
      obtain ⟨a, b', S', rfl, rfl⟩ := zint2_some (show zint2 _ _ _ _ _ _ = _ from h)
      exact ⟨Nat.le_refl _, Nat.le_refl _⟩
    | ladd =>
      obtain rfl : len = 1 := by simpa [zlo] using hl
      obtain ⟨a, b', S', rfl, rfl⟩ := zlong2_some (show zlong2 _ _ _ _ _ _ = _ from h)
      exact ⟨Nat.le_refl _, Nat.le_refl _⟩
    | lmul =>
      obtain rfl : len = 1 := by simpa [zlo] using hl
      obtain ⟨a, b', S', rfl, rfl⟩ := zlong2_some (show zlong2 _ _ _ _ _ _ = _ from h)
      exact ⟨Nat.le_refl _, Nat.le_refl _⟩
    | lrem =>
      obtain rfl : len = 1 := by simpa [zlo] using hl
      simp only [zstp] at h
      split at h
      · obtain ⟨h1, rfl⟩ := zif_go h
        exact ⟨Nat.le_refl _, Nat.le_refl _⟩
      · cases h
    | land =>
      obtain rfl : len = 1 := by simpa [zlo] using hl
      obtain ⟨a, b', S', rfl, rfl⟩ := zlong2_some (show zlong2 _ _ _ _ _ _ = _ from h)
      exact ⟨Nat.le_refl _, Nat.le_refl _⟩
    | lor =>
      obtain rfl : len = 1 := by simpa [zlo] using hl
      obtain ⟨a, b', S', rfl, rfl⟩ := zlong2_some (show zlong2 _ _ _ _ _ _ = _ from h)
      exact ⟨Nat.le_refl _, Nat.le_refl _⟩
    | lshl =>
      obtain rfl : len = 1 := by simpa [zlo] using hl
      obtain ⟨a, b', S', rfl, rfl⟩ := zlongi_some (show zlongi _ _ _ _ _ _ = _ from h)
      exact ⟨Nat.le_refl _, Nat.le_refl _⟩
    | lshr =>
      obtain rfl : len = 1 := by simpa [zlo] using hl
      obtain ⟨a, b', S', rfl, rfl⟩ := zlongi_some (show zlongi _ _ _ _ _ _ = _ from h)
      exact ⟨Nat.le_refl _, Nat.le_refl _⟩
    | lushr =>
      obtain rfl : len = 1 := by simpa [zlo] using hl
      obtain ⟨a, b', S', rfl, rfl⟩ := zlongi_some (show zlongi _ _ _ _ _ _ = _ from h)
      exact ⟨Nat.le_refl _, Nat.le_refl _⟩
    | i2l =>
      obtain rfl : len = 1 := by simpa [zlo] using hl
      simp only [zstp] at h
      split at h
      · obtain rfl := zgo_eq h
        exact ⟨Nat.le_refl _, Nat.le_refl _⟩
      · cases h
    | l2i =>
      obtain rfl : len = 1 := by simpa [zlo] using hl
      simp only [zstp] at h
      split at h
      · obtain rfl := zgo_eq h
        exact ⟨Nat.le_refl _, Nat.le_refl _⟩
      · cases h
    | dup =>
      obtain rfl : len = 1 := by simpa [zlo] using hl
      simp only [zstp, zdup] at h
      split at h
      · obtain rfl := zgo_eq h
        exact ⟨Nat.le_refl _, Nat.le_refl _⟩
      · obtain rfl := zgo_eq h
        exact ⟨Nat.le_refl _, Nat.le_refl _⟩
      · cases h
    | dup2 =>
      obtain rfl : len = 1 := by simpa [zlo] using hl
      simp only [zstp, zdup2] at h
      split at h
      · obtain rfl := zgo_eq h
        exact ⟨Nat.le_refl _, Nat.le_refl _⟩
      · cases h
    | pop =>
      obtain rfl : len = 1 := by simpa [zlo] using hl
      simp only [zstp, zpop] at h
      split at h
      · obtain rfl := zgo_eq h
        exact ⟨Nat.le_refl _, Nat.le_refl _⟩
      · cases h
    | ifCond cd off =>
      obtain rfl : len = 3 := by simpa [zlo] using hl
      obtain ⟨h1, h⟩ := zif_some (show zif _ (zift _ _ _ _ _ _ _) = _ from h)
      simp only [zift] at h
      split at h
      · obtain rfl := zgo_eq h
        exact ⟨Nat.le_refl _, Nat.le_refl _⟩
      · cases h
    | if_icmp cd off =>
      obtain rfl : len = 3 := by simpa [zlo] using hl
      obtain ⟨h1, h⟩ := zif_some (show zif _ (zicm _ _ _ _ _ _ _) = _ from h)
      simp only [zicm] at h
      split at h
      · obtain rfl := zgo_eq h
        exact ⟨Nat.le_refl _, Nat.le_refl _⟩
      · cases h
    | goto off =>
      obtain rfl : len = 3 := by simpa [zlo] using hl
      obtain ⟨h1, rfl⟩ := zif_go (show zif _ (zgo _ _ _ _ _) = _ from h)
      exact ⟨Nat.le_refl _, Nat.le_refl _⟩
    | tableswitch dd lo hi offs =>
      simp only [zstp] at h
      split at h
      · obtain ⟨h1, h⟩ := zif_some h
        simp only [Bool.and_eq_true, decide_eq_true_eq] at h1
        split at h
        · rename_i t e
          obtain rfl := zgo_eq h
          exact ⟨Nat.le_refl _, Nat.le_refl _⟩
        · cases h
      · cases h
    | lookupswitch dd ps =>
      simp only [zstp] at h
      split at h
      · obtain ⟨h1, rfl⟩ := zif_go h
        simp only [Bool.and_eq_true, decide_eq_true_eq] at h1
        exact ⟨Nat.le_refl _, Nat.le_refl _⟩
      · cases h
    | getfield i =>
      obtain rfl : len = 3 := by simpa [zlo] using hl
      obtain ⟨a, S', t, k, rfl, h1, h2, ⟨h3, h4, rfl⟩ | ⟨h3, rfl⟩⟩ := zgetf_some (show zgetf _ _ _ _ _ _ _ = _ from h)
      · exact ⟨Nat.le_refl _, Nat.le_refl _⟩
      · exact ⟨Nat.le_refl _, Nat.le_refl _⟩
    | putfield i =>
      obtain rfl : len = 3 := by simpa [zlo] using hl
      obtain ⟨a, S', t, k, h1, h2, ⟨h3, z, rfl, rfl⟩ | ⟨h3, h4, h5, y, rfl, rfl⟩⟩ := zputf_some (show zputf _ _ _ _ _ _ _ = _ from h)
      · exact ⟨Nat.le_refl _, Nat.le_refl _⟩
      · exact ⟨Nat.le_refl _, Nat.le_refl _⟩
    | iaload =>
      obtain rfl : len = 1 := by simpa [zlo] using hl
      rcases zarld_some (show zarld _ _ _ _ _ _ _ = _ from h) with ⟨i, a, S', rfl, h1, h2, rfl⟩ | ⟨i, S', n, f, rfl, h1, -, h2, rfl⟩
      · exact ⟨Nat.le_refl _, Nat.le_refl _⟩
      · exact ⟨Nat.le_refl _, Nat.le_refl _⟩
    | baload =>
      obtain rfl : len = 1 := by simpa [zlo] using hl
      rcases zarld_some (show zarld _ _ _ _ _ _ _ = _ from h) with ⟨i, a, S', rfl, h1, h2, rfl⟩ | ⟨i, S', n, f, rfl, h1, h3, h2, rfl⟩
      · exact ⟨Nat.le_refl _, Nat.le_refl _⟩
      · omega
    | iastore =>
      obtain rfl : len = 1 := by simpa [zlo] using hl
      obtain ⟨v, i, a, S', rfl, h1, h2, -, rfl⟩ := zarst_some (show zarst _ _ _ _ _ _ = _ from h)
      exact ⟨Nat.le_refl _, Nat.le_refl _⟩
    | bastore =>
      obtain rfl : len = 1 := by simpa [zlo] using hl
      obtain ⟨v, i, a, S', rfl, h1, h2, h3, rfl⟩ := zarst_some (show zarst _ _ _ _ _ _ = _ from h)
      exact ⟨Nat.le_refl _, Nat.le_refl _⟩
    | aaload =>
      obtain rfl : len = 1 := by simpa [zlo] using hl
      simp only [zstp, zaald] at h
      split at h
      · obtain ⟨h1, rfl⟩ := zif_go h
        simp only [Bool.and_eq_true, Bool.or_eq_true, decide_eq_true_eq, zCb_iff, zInb_iff] at h1
        obtain ⟨⟨h1, h2⟩, h3⟩ := h1
        exact ⟨Nat.le_refl _, Nat.le_refl _⟩
      · cases h
    | aastore =>
      obtain rfl : len = 1 := by simpa [zlo] using hl
      simp only [zstp, zaast] at h
      split at h
      · obtain ⟨h1, rfl⟩ := zif_go h
        simp only [Bool.and_eq_true, zCb_iff, zInb_iff] at h1
        obtain ⟨⟨h1, h2⟩, h3⟩ := h1
        exact ⟨Nat.le_refl _, Nat.le_refl _⟩
      · cases h
    | arraylength =>
      obtain rfl : len = 1 := by simpa [zlo] using hl
      simp only [zstp, zalen] at h
      split at h
      · obtain ⟨h1, rfl⟩ := zif_go h
        simp only [Bool.and_eq_true, decide_eq_true_eq] at h1
        exact ⟨Nat.le_refl _, Nat.le_refl _⟩
      · split at h
        · rename_i n f
          obtain rfl := zgo_eq h
          exact ⟨Nat.le_refl _, Nat.le_refl _⟩
        · cases h
      · cases h
    | new i =>
      obtain rfl : len = 3 := by simpa [zlo] using hl
      simp only [zstp, znewo] at h
      split at h
      · rename_i t e
        obtain ⟨h1, rfl⟩ := zif_go h
        simp only [Bool.and_eq_true, decide_eq_true_eq] at h1
        exact ⟨Nat.le_succ _, Nat.le_add_right _ _⟩
      · cases h
    | newarray ty =>
      obtain rfl : len = 2 := by simpa [zlo] using hl
      cases ty <;> first | (simp [zstp] at h; done) | skip
      · simp only [zstp, znewa] at h
        split at h
        · obtain ⟨h1, rfl⟩ := zif_go h
          simp only [Bool.and_eq_true, decide_eq_true_eq] at h1
          exact ⟨Nat.le_succ _, Nat.le_add_right _ _⟩
        · cases h
      · simp only [zstp, znewa] at h
        split at h
        · obtain ⟨h1, rfl⟩ := zif_go h
          simp only [Bool.and_eq_true, decide_eq_true_eq] at h1
          exact ⟨Nat.le_succ _, Nat.le_add_right _ _⟩
        · cases h
    | anewarray i =>
      obtain rfl : len = 3 := by simpa [zlo] using hl
      simp only [zstp] at h
      split at h
      · rename_i e
        simp only [znewa] at h
        split at h
        · obtain ⟨h1, rfl⟩ := zif_go h
          simp only [Bool.and_eq_true, decide_eq_true_eq] at h1
          exact ⟨Nat.le_succ _, Nat.le_add_right _ _⟩
        · cases h
      · cases h
    | multianewarray i dims =>
      obtain rfl : len = 4 := by simpa [zlo] using hl
      by_cases hdm : dims = 2
      · subst hdm
        simp only [zstp] at h
        split at h
        · rename_i e
          simp only [znewm] at h
          split at h
          · rename_i k n S' _
            obtain ⟨h1, h2⟩ := zif_some h
            have h2 := zgo_eq h2
            skip
            have N1 := znews_n (znew G 103 n.toNat) (zset H G.1 (fun _ => 0)) k.toNat n.toNat
            have N2 := znews_s (znew G 103 n.toNat) (zset H G.1 (fun _ => 0)) k.toNat n.toNat
            have z1 : (znew G 103 n.toNat).1 = G.1 + 1 := rfl
            have z2 : (znew G 103 n.toNat).2.1 = G.2.1 + n.toNat := rfl
            rw [z1] at N1
            rw [z2] at N1
            rw [z1] at N2
            generalize znews (znew G 103 n.toNat) (zset H G.1 (fun _ => 0)) k.toNat n.toNat = Z at h2 N1 N2
            subst h2
            exact ⟨by show G.1 ≤ Z.1.1; omega, by show G.2.1 ≤ Z.1.2.1; omega⟩
          · cases h
        · cases h
      · exfalso
        have : zstp o d q pc (.multianewarray i dims) 4 L S G H = none := by
          unfold zstp
          split <;> simp_all
        rw [this] at h
        cases h
    | invokevirtual i =>
      obtain ⟨h1, h⟩ := zif_some (show zif _ (zinv _ _ _ _ _ _ _ _) = _ from h)
      simp only [zinv] at h
      split at h
      · have := (zif_some h).1
        simp at this
      · split at h
        · obtain ⟨-, h⟩ := zif_some h
          split at h
          · have := (zif_some h).2
            cases this
          all_goals cases h
        · cases h
    | invokestatic i =>
      obtain rfl : len = 3 := by simpa [zlo] using hl
      obtain ⟨h1, h⟩ := zif_some (show zif _ (zinv _ _ _ _ _ _ _ _) = _ from h)
      simp only [zinv] at h
      split at h
      · rename_i bb e
        obtain ⟨h2, h⟩ := zif_some h
        simp at h2
        exact zbui_mono h
      · split at h
        · obtain ⟨-, h⟩ := zif_some h
          cases h
        · cases h
    | invokespecial i =>
      obtain rfl : len = 3 := by simpa [zlo] using hl
      obtain ⟨h1, h⟩ := zif_some (show zif _ (zinv _ _ _ _ _ _ _ _) = _ from h)
      simp only [zinv] at h
      split at h
      · rename_i bb e
        obtain ⟨h2, h⟩ := zif_some h
        simp at h2
        exact zbui_mono h
      · split at h
        · obtain ⟨-, h⟩ := zif_some h
          split at h
          · have := (zif_some h).2
            cases this
          all_goals cases h
        · cases h
    | ireturn =>
      simp only [zstp, zret] at h
      split at h
      · split at h
        · cases h
        · have := (zif_some h).2
          cases this
        · cases h
      · cases h
    | return_ =>
      simp only [zstp] at h
      split at h <;> cases h
    | _ => simp [zstp] at h
  next => cases h
