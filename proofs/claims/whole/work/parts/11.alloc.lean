/-! new cells; the machine's own methods -/
theorem zWR_push {cs : zCs} {G : zG} {H : zH} {ad : Nat → Nat} {ws : va_W} {t n a : Nat} {e : va_E} (hW : zWR cs G H ad ws) (hn : G.1 < znul) (he : zCR cs (fun k => if k = G.1 then a else ad k) (znew G t n) (zset H G.1 (fun _ => 0)) G.1 e) : zWR cs (znew G t n) (zset H G.1 (fun _ => 0)) (fun k => if k = G.1 then a else ad k) (ws ++ [(a, e)]) := by
  obtain ⟨w1, w2, w3⟩ := hW
  refine ⟨by rw [List.length_append, w1]; rfl, hn, fun k hk => ?_⟩
  have hk : k < G.1 + 1 := hk
  by_cases e1 : k = G.1
  · subst e1
    refine ⟨e, ?_, he⟩
    rw [List.getElem?_append_right (by omega), w1]
    simp
  · have hk2 : k < G.1 := by omega
    obtain ⟨e', g1, g2⟩ := w3 k hk2
    refine ⟨e', ?_, ?_⟩
    · rw [List.getElem?_append_left (by omega), g1]
      simp [e1]
    · exact zCR_mono (Nat.le_succ G.1) (fun j hj => if_neg (by omega)) (zsh_ne e1) (zrset_ne e1) (zset_ne e1) g2
theorem zadk {G : zG} {ad ad0 : Nat → Nat} {n0 a : Nat} (a1 : ∀ k, k < n0 → ad k = ad0 k) (a2 : n0 ≤ G.1) : ∀ k, k < n0 → (fun k => if k = G.1 then a else ad k) k = ad0 k := fun k hk => by
  show (if k = G.1 then a else ad k) = ad0 k
  rw [if_neg (by omega)]
  exact a1 k hk
theorem zcat_le {n : Nat} {ad : Nat → Nat} {b : Nat} : ∀ {S : List zV} {t : List Value}, zSR n ad b S t → (t.map fun v => v.category).sum ≤ 2 * S.length
  | [], t, h => by rw [h]; simp
  | v :: S, t, ⟨x, t', e, hv, hS⟩ => by
    have ih := zcat_le hS
    rw [e]
    simp only [List.map_cons, List.sum_cons, List.length_cons]
    rcases lv_cat x with h | h <;> omega
theorem znews_n (G : zG) (H : zH) (k : Nat) : ∀ n, (znews G H k n).1.1 = G.1 + n ∧ (znews G H k n).1.2.1 = G.2.1 + n * k
  | 0 => ⟨rfl, by simp [znews]⟩
  | n + 1 => by
    obtain ⟨h1, h2⟩ := znews_n G H k n
    refine ⟨?_, ?_⟩
    · show (znews G H k n).1.1 + 1 = _
      rw [h1]
      omega
    · show (znews G H k n).1.2.1 + k = _
      rw [h2, Nat.succ_mul]
      omega
theorem znews_s (G : zG) (H : zH) (k : Nat) : ∀ (n j : Nat), (znews G H k n).1.2.2.1 j = (if G.1 ≤ j ∧ j < G.1 + n then (100, k) else G.2.2.1 j) ∧ (znews G H k n).1.2.2.2 j = (if G.1 ≤ j ∧ j < G.1 + n then (fun _ => znul) else G.2.2.2 j) ∧ (znews G H k n).2 j = (if G.1 ≤ j ∧ j < G.1 + n then (fun _ => 0) else H j)
  | 0, j => by
    rw [if_neg (by omega), if_neg (by omega), if_neg (by omega)]
    exact ⟨rfl, rfl, rfl⟩
  | n + 1, j => by
    obtain ⟨h1, h2, h3⟩ := znews_s G H k n j
    have hn := (znews_n G H k n).1
    show zsh (znews G H k n).1.2.2.1 (znews G H k n).1.1 (100, k) j = _ ∧ zrset (znews G H k n).1.2.2.2 (znews G H k n).1.1 (fun _ => znul) j = _ ∧ zset (znews G H k n).2 (znews G H k n).1.1 (fun _ => 0) j = _
    rw [hn]
    by_cases e1 : j = G.1 + n
    · subst e1
      rw [zsh_eq, zrset_eq, zset_eq, if_pos (by omega), if_pos (by omega), if_pos (by omega)]
      exact ⟨rfl, rfl, rfl⟩
    · rw [zsh_ne e1, zrset_ne e1, zset_ne e1, h1, h2, h3]
      by_cases e2 : G.1 ≤ j ∧ j < G.1 + n
      · rw [if_pos e2, if_pos e2, if_pos e2, if_pos (by omega), if_pos (by omega), if_pos (by omega)]
        exact ⟨rfl, rfl, rfl⟩
      · rw [if_neg e2, if_neg e2, if_neg e2, if_neg (by omega), if_neg (by omega), if_neg (by omega)]
        exact ⟨rfl, rfl, rfl⟩
section ZAL
variable {p : Program} {l : Launch} {e : Env} {R : Room} {s : State} {m : MethodId} {args : Array Value} {below : List Frame} {meth : Method} {c : Code} {Q : State → Prop} {D : va_G} {cs : zCs} {A : Nat → Prop} {b n0 s0 : Nat} {ad0 : Nat → Nat} {q : zM} {pc : Nat} {L S : List zV} {G : zG} {H : zH}
theorem zs_new (C : zCx p s m args meth c D cs A q) {i t : Nat} (hd : decode q.2.2.1 pc = .ok (.new i, 3)) (hi : zct q.1 i = some t) (h10 : t < 10) (hn : G.1 < znul) (r1 : G.1 + 1 - n0 ≤ R.cells) (r2 : G.2.1 + zNN t - s0 ≤ R.slots) (K : zGo p l e R s m args below meth c Q D cs A b n0 s0 ad0 q (pc + 3) L (vr G.1 :: S) (znew G t (zNN t)) (zset H G.1 (fun _ => 0))) : zGo p l e R s m args below meth c Q D cs A b n0 s0 ad0 q pc L S G H := by
  intro ad ws Hr locs ls stk a1 a2 a3 hW hP hD hS hL hst
  obtain ⟨hx, hb, hml, hown, hts, hin, hK, hA⟩ := C
  have e1 : G.1 + 1 - n0 = (G.1 - n0) + 1 := by omega
  have e2 : G.2.1 + zNN t - s0 = (G.2.1 - s0) + zNN t := by omega
  refine va_new (ci := t) (fs := (List.range (zNN t)).map (fun j => defaultValue (zty t j))) (C := zcn t) (T := zT t) (N := zNN t) (own := zcn q.1) hx hb hts (zk_in2 h10) (zty t) (zk_pd h10) hown (hts _ (zTB_of ((zct_ok hi).1 h10) rfl)) (hts _ (zk_mk h10).1) (hts _ (zk_mk h10).2) hK.1 hP hD hS hA (zk_cl h10) (fun j hj => by simp [vp_V, hj]) (by omega) (by omega) hd (fun a H1 hP1 hD1 hS1 => ?_)
  have hm : ∀ k, k < G.1 → (fun k => if k = G.1 then a else ad k) k = ad k := fun k hk => if_neg (by omega)
  have KK := K (fun k => if k = G.1 then a else ad k) _ H1 locs ls (.ref a :: stk) (zadk a1 a2) (by show n0 ≤ G.1 + 1; omega) (by show s0 ≤ G.2.1 + zNN t; omega) (zWR_push hW hn (e := .inr (t, (List.range (zNN t)).map (fun j => defaultValue (zty t j)))) ?_) hP1 hD1 hS1 (zLR_mono (Nat.le_succ _) hm hL) ⟨_, _, rfl, ⟨Nat.lt_succ_self _, by simp⟩, zSR_mono (Nat.le_succ _) hm hst⟩
  · have KK2 : W p l e R s m args below meth c H1 locs (G.1 + 1 - n0) (G.2.1 + zNN t - s0) Q (F0 m (pc + 3) ls (.ref a :: stk)) := KK
    rw [e1, e2] at KK2
    exact KK2
  · have hsh : (znew G t (zNN t)).2.2.1 G.1 = (t, zNN t) := zsh_eq
    refine Or.inl ⟨by rw [hsh]; exact h10, by rw [hsh], _, by rw [hsh], by rw [hsh]; simp, fun j v hj => ?_⟩
    rw [hsh]
    have hjl : j < zNN t := by
      have := (List.getElem?_eq_some_iff.mp hj).1
      simpa using this
    rw [List.getElem?_map, List.getElem?_range hjl] at hj
    cases hj
    cases hrf : zrf t j with
    | true =>
      have hr := (zk_ty h10 j hjl).1 hrf
      refine Or.inl ⟨hrf, Or.inr ⟨?_, ?_⟩⟩
      · show zrset G.2.2.2 G.1 (fun _ => znul) G.1 j = znul
        rw [zrset_eq]
      · show defaultValue (zty t j) = Value.null
        cases hz : zty t j <;> first | rfl | (rw [hz] at hr; simp [zisr] at hr)
    | false =>
      have hr := (zk_ty h10 j hjl).2 hrf
      refine Or.inr ⟨hrf, 0, by show defaultValue (zty t j) = Value.int 0; rw [hr]; rfl, ?_⟩
      rw [zset_eq]
      rfl
theorem zs_newi (C : zCx p s m args meth c D cs A q) {n : Int} (hd : decode q.2.2.1 pc = .ok (.newarray .int, 2)) (h0 : 0 ≤ n) (h1 : n ≤ 10000) (hn : G.1 < znul) (r1 : G.1 + 1 - n0 ≤ R.cells) (r2 : G.2.1 + n.toNat - s0 ≤ R.slots) (K : zGo p l e R s m args below meth c Q D cs A b n0 s0 ad0 q (pc + 2) L (vr G.1 :: S) (znew G 100 n.toNat) (zset H G.1 (fun _ => 0))) : zGo p l e R s m args below meth c Q D cs A b n0 s0 ad0 q pc L (.inl n :: S) G H := by
  intro ad ws Hr locs ls stk a1 a2 a3 hW hP hD hS hL hst
  obtain ⟨hx, hb, hml, hown, hts, hin, hK, hA⟩ := C
  obtain ⟨x, u, rfl, rfl, hst1⟩ := zSi hst
  have e1 : G.1 + 1 - n0 = (G.1 - n0) + 1 := by omega
  have e2 : G.2.1 + x.toInt.toNat - s0 = (G.2.1 - s0) + x.toInt.toNat := by omega
  have hx0 : ¬ x < 0 := fun z => by
    have := Int32.lt_iff_toInt_lt.mp z
    have z0 : (0 : Int32).toInt = 0 := rfl
    omega
  refine va_newa (atype := .int) (ty := .int) (a0 := (x.toInt.toNat, .inl (fun _ => 0))) hx hb (hts _ zb_arr.1) rfl hK.1 hP hD hS hA (fun cA => rfl) hx0 (zclamp x) (by show x.toInt.toNat * 4 ≤ 536870912; omega) (by omega) (by omega) hd (fun a cA H1 hK1 hP1 hD1 hS1 => ?_)
  have hcA : cA = cs.1 := by
    have k1 : s.vm.findClass ("[" ++ (FieldType.int).toString) = some cs.1 := (hK.1.2 0 _ rfl).2
    have k2 : s.vm.findClass ("[" ++ (FieldType.int).toString) = some cA := (hK1.2 4 _ rfl).2
    exact Option.some.inj (k2.symm.trans k1)
  subst hcA
  have hm : ∀ k, k < G.1 → (fun k => if k = G.1 then a else ad k) k = ad k := fun k hk => if_neg (by omega)
  have KK := K (fun k => if k = G.1 then a else ad k) _ H1 locs ls (.ref a :: u) (zadk a1 a2) (by show n0 ≤ G.1 + 1; omega) (by show s0 ≤ G.2.1 + x.toInt.toNat; omega) (zWR_push hW hn (e := .inl (cs.1, x.toInt.toNat, .inl (fun _ => 0))) ?_) hP1 hD1 hS1 (zLR_mono (Nat.le_succ _) hm hL) ⟨_, _, rfl, ⟨Nat.lt_succ_self _, by simp⟩, zSR_mono (Nat.le_succ _) hm hst1⟩
  · have KK2 : W p l e R s m args below meth c H1 locs (G.1 + 1 - n0) (G.2.1 + x.toInt.toNat - s0) Q (F0 m (pc + 2) ls (.ref a :: u)) := KK
    rw [e1, e2] at KK2
    exact KK2
  · have hsh : (znew G 100 x.toInt.toNat).2.2.1 G.1 = (100, x.toInt.toNat) := zsh_eq
    refine Or.inr (Or.inl ⟨by rw [hsh], (fun _ => 0), by rw [hsh], fun j hj => ?_⟩)
    rw [zset_eq]
    rfl
theorem zs_newz (C : zCx p s m args meth c D cs A q) {n : Int} (hd : decode q.2.2.1 pc = .ok (.newarray .boolean, 2)) (h0 : 0 ≤ n) (h1 : n ≤ 10000) (hn : G.1 < znul) (r1 : G.1 + 1 - n0 ≤ R.cells) (r2 : G.2.1 + n.toNat - s0 ≤ R.slots) (K : zGo p l e R s m args below meth c Q D cs A b n0 s0 ad0 q (pc + 2) L (vr G.1 :: S) (znew G 101 n.toNat) (zset H G.1 (fun _ => 0))) : zGo p l e R s m args below meth c Q D cs A b n0 s0 ad0 q pc L (.inl n :: S) G H := by
  intro ad ws Hr locs ls stk a1 a2 a3 hW hP hD hS hL hst
  obtain ⟨hx, hb, hml, hown, hts, hin, hK, hA⟩ := C
  obtain ⟨x, u, rfl, rfl, hst1⟩ := zSi hst
  have e1 : G.1 + 1 - n0 = (G.1 - n0) + 1 := by omega
  have e2 : G.2.1 + x.toInt.toNat - s0 = (G.2.1 - s0) + x.toInt.toNat := by omega
  have hx0 : ¬ x < 0 := fun z => by
    have := Int32.lt_iff_toInt_lt.mp z
    have z0 : (0 : Int32).toInt = 0 := rfl
    omega
  refine va_newa (atype := .boolean) (ty := .boolean) (a0 := (x.toInt.toNat, .inl (fun _ => 0))) hx hb (hts _ zb_arr.2) rfl hK.1 hP hD hS hA (fun cA => rfl) hx0 (zclamp x) (by show x.toInt.toNat * 1 ≤ 536870912; omega) (by omega) (by omega) hd (fun a cA H1 hK1 hP1 hD1 hS1 => ?_)
  have hcA : cA = cs.2.1 := by
    have k1 : s.vm.findClass ("[" ++ (FieldType.boolean).toString) = some cs.2.1 := (hK.1.2 1 _ rfl).2
    have k2 : s.vm.findClass ("[" ++ (FieldType.boolean).toString) = some cA := (hK1.2 4 _ rfl).2
    exact Option.some.inj (k2.symm.trans k1)
  subst hcA
  have hm : ∀ k, k < G.1 → (fun k => if k = G.1 then a else ad k) k = ad k := fun k hk => if_neg (by omega)
  have KK := K (fun k => if k = G.1 then a else ad k) _ H1 locs ls (.ref a :: u) (zadk a1 a2) (by show n0 ≤ G.1 + 1; omega) (by show s0 ≤ G.2.1 + x.toInt.toNat; omega) (zWR_push hW hn (e := .inl (cs.2.1, x.toInt.toNat, .inl (fun _ => 0))) ?_) hP1 hD1 hS1 (zLR_mono (Nat.le_succ _) hm hL) ⟨_, _, rfl, ⟨Nat.lt_succ_self _, by simp⟩, zSR_mono (Nat.le_succ _) hm hst1⟩
  · have KK2 : W p l e R s m args below meth c H1 locs (G.1 + 1 - n0) (G.2.1 + x.toInt.toNat - s0) Q (F0 m (pc + 2) ls (.ref a :: u)) := KK
    rw [e1, e2] at KK2
    exact KK2
  · have hsh : (znew G 101 x.toInt.toNat).2.2.1 G.1 = (101, x.toInt.toNat) := zsh_eq
    refine Or.inr (Or.inr (Or.inl ⟨by rw [hsh], (fun _ => 0), by rw [hsh], fun j hj => ?_⟩))
    rw [zset_eq]
    rfl
theorem zs_newb (C : zCx p s m args meth c D cs A q) {i : Nat} {n : Int} (hd : decode q.2.2.1 pc = .ok (.anewarray i, 3)) (hi : zct q.1 i = some 0) (h0 : 0 ≤ n) (h1 : n ≤ 10000) (hn : G.1 < znul) (r1 : G.1 + 1 - n0 ≤ R.cells) (r2 : G.2.1 + n.toNat - s0 ≤ R.slots) (K : zGo p l e R s m args below meth c Q D cs A b n0 s0 ad0 q (pc + 3) L (vr G.1 :: S) (znew G 102 n.toNat) (zset H G.1 (fun _ => 0))) : zGo p l e R s m args below meth c Q D cs A b n0 s0 ad0 q pc L (.inl n :: S) G H := by
  intro ad ws Hr locs ls stk a1 a2 a3 hW hP hD hS hL hst
  obtain ⟨hx, hb, hml, hown, hts, hin, hK, hA⟩ := C
  obtain ⟨x, u, rfl, rfl, hst1⟩ := zSi hst
  have e1 : G.1 + 1 - n0 = (G.1 - n0) + 1 := by omega
  have e2 : G.2.1 + x.toInt.toNat - s0 = (G.2.1 - s0) + x.toInt.toNat := by omega
  have hx0 : ¬ x < 0 := fun z => by
    have := Int32.lt_iff_toInt_lt.mp z
    have z0 : (0 : Int32).toInt = 0 := rfl
    omega
  refine va_newq (C := RX0) (own := zcn q.1) hx hb hown (hts _ (zTB_of ((zct_ok hi).1 (by show 0 < 10; omega)) rfl)) hK.2.2.1 hK.1 hP hD hS hA hx0 (zclamp x) (by omega) (by omega) (by omega) hd (fun a cA H1 hK1 hP1 hD1 hS1 => ?_)
  have hcA : cA = cs.2.2.1 := by
    obtain ⟨_, _, -, -, -, k1⟩ := (hK.1.2 2 _ rfl).2
    obtain ⟨_, _, -, -, -, k2⟩ := (hK1.2 4 _ rfl).2
    exact Option.some.inj (k2.symm.trans k1)
  subst hcA
  have hm : ∀ k, k < G.1 → (fun k => if k = G.1 then a else ad k) k = ad k := fun k hk => if_neg (by omega)
  have KK := K (fun k => if k = G.1 then a else ad k) _ H1 locs ls (.ref a :: u) (zadk a1 a2) (by show n0 ≤ G.1 + 1; omega) (by show s0 ≤ G.2.1 + x.toInt.toNat; omega) (zWR_push hW hn (e := .inl (cs.2.2.1, x.toInt.toNat, .inr (.inr (.inr (.inr (fun _ => none)))))) ?_) hP1 hD1 hS1 (zLR_mono (Nat.le_succ _) hm hL) ⟨_, _, rfl, ⟨Nat.lt_succ_self _, by simp⟩, zSR_mono (Nat.le_succ _) hm hst1⟩
  · have KK2 : W p l e R s m args below meth c H1 locs (G.1 + 1 - n0) (G.2.1 + x.toInt.toNat - s0) Q (F0 m (pc + 3) ls (.ref a :: u)) := KK
    rw [e1, e2] at KK2
    exact KK2
  · have hsh : (znew G 102 x.toInt.toNat).2.2.1 G.1 = (102, x.toInt.toNat) := zsh_eq
    refine Or.inr (Or.inr (Or.inr (Or.inl ⟨by rw [hsh], (fun _ => none), by rw [hsh], fun j hj => Or.inr ⟨?_, rfl⟩⟩)))
    show zrset G.2.2.2 G.1 (fun _ => znul) G.1 j = znul
    rw [zrset_eq]
theorem zs_max (C : zCx p s m args meth c D cs A q) {i : Nat} {x y : Int} {d : Nat} (h1d : 1 ≤ d) (hR : d ≤ R.frames ∧ 60 * d ≤ R.locals) (r1 : G.1 - n0 ≤ R.cells) (r2 : G.2.1 - s0 ≤ R.slots) (hd : decode q.2.2.1 pc = .ok (.invokestatic i, 3)) (hi : zbt q.1 i = some 0) (hl : S.length ≤ 4) (K : zGo p l e R s m args below meth c Q D cs A b n0 s0 ad0 q (pc + 3) L (vi (if x < y then y else x) :: S) G H) : zGo p l e R s m args below meth c Q D cs A b n0 s0 ad0 q pc L (.inl y :: .inl x :: S) G H := by
  intro ad ws Hr locs ls stk a1 a2 a3 hW hP hD hS hL hst
  obtain ⟨hx, hb, hml, hown, hts, hin, hK, hA⟩ := C
  obtain ⟨y', u, rfl, rfl, hst0⟩ := zSi hst
  obtain ⟨x', u, rfl, rfl, hst1⟩ := zSi hst0
  have hc := zcat_le hst1
  have hsz : c.maxLocals = ls.size := by rw [hml]; exact hL.2.choose_spec.1.1.symm
  refine va_mmax (own := zcn q.1) hx hb hsz hown (hts _ (zTB_of ((zbt_ok hi).1 rfl) rfl)) (hts _ zb_max.1) (hts _ zb_max.2.1) (hts _ zb_max.2.2) (by omega) (by omega) r1 r2 hd ?_
  refine K ad ws Hr locs ls _ a1 a2 a3 hW hP hD hS hL (zPi ?_ hst1)
  by_cases h : x' < y'
  · rw [if_pos h, if_pos (Int32.lt_iff_toInt_lt.mp h)]
  · rw [if_neg h, if_neg (fun z => h (Int32.lt_iff_toInt_lt.mpr z))]
theorem zs_min (C : zCx p s m args meth c D cs A q) {i : Nat} {x y : Int} {d : Nat} (h1d : 1 ≤ d) (hR : d ≤ R.frames ∧ 60 * d ≤ R.locals) (r1 : G.1 - n0 ≤ R.cells) (r2 : G.2.1 - s0 ≤ R.slots) (hd : decode q.2.2.1 pc = .ok (.invokestatic i, 3)) (hi : zbt q.1 i = some 1) (hl : S.length ≤ 4) (K : zGo p l e R s m args below meth c Q D cs A b n0 s0 ad0 q (pc + 3) L (vi (if y < x then y else x) :: S) G H) : zGo p l e R s m args below meth c Q D cs A b n0 s0 ad0 q pc L (.inl y :: .inl x :: S) G H := by
  intro ad ws Hr locs ls stk a1 a2 a3 hW hP hD hS hL hst
  obtain ⟨hx, hb, hml, hown, hts, hin, hK, hA⟩ := C
  obtain ⟨y', u, rfl, rfl, hst0⟩ := zSi hst
  obtain ⟨x', u, rfl, rfl, hst1⟩ := zSi hst0
  have hc := zcat_le hst1
  have hsz : c.maxLocals = ls.size := by rw [hml]; exact hL.2.choose_spec.1.1.symm
  refine va_mmin (own := zcn q.1) hx hb hsz hown (hts _ (zTB_of ((zbt_ok hi).2.1 rfl) rfl)) (hts _ zb_min.1) (hts _ zb_max.2.1) (hts _ zb_min.2) (by omega) (by omega) r1 r2 hd ?_
  refine K ad ws Hr locs ls _ a1 a2 a3 hW hP hD hS hL (zPi ?_ hst1)
  by_cases h : y' < x'
  · rw [if_pos h, if_pos (Int32.lt_iff_toInt_lt.mp h)]
  · rw [if_neg h, if_neg (fun z => h (Int32.lt_iff_toInt_lt.mpr z))]
theorem zs_objinit (C : zCx p s m args meth c D cs A q) {i a : Nat} {d : Nat} (h1d : 1 ≤ d) (hR : d ≤ R.frames ∧ 60 * d ≤ R.locals) (hd : decode q.2.2.1 pc = .ok (.invokespecial i, 3)) (hi : zbt q.1 i = some 3) (hl : S.length ≤ 4) (K : zGo p l e R s m args below meth c Q D cs A b n0 s0 ad0 q (pc + 3) L S G H) : zGo p l e R s m args below meth c Q D cs A b n0 s0 ad0 q pc L (.inr (.inr (.inl a)) :: S) G H := by
  intro ad ws Hr locs ls stk a1 a2 a3 hW hP hD hS hL hst
  obtain ⟨hx, hb, hml, hown, hts, hin, hK, hA⟩ := C
  obtain ⟨u, rfl, -, hst1⟩ := zSr hst
  have hc := zcat_le hst1
  have hsz : ls.size = c.maxLocals := by rw [hml]; exact hL.2.choose_spec.1.1
  exact W.objInit (own := zcn q.1) hx hb hown (hts _ (zTB_of ((zbt_ok hi).2.2.2 rfl) rfl)) (hts _ zb_obj.1) (hts _ zb_obj.2) rfl hsz rfl hd (by omega) (by show 2 * 0 + _ + 12 ≤ _; omega) (K ad ws Hr locs ls _ a1 a2 a3 hW hP hD hS hL hst1)
theorem zs_copy (C : zCx p s m args meth c D cs A q) {i a a' : Nat} {sp dp n : Int} {d : Nat} (h1d : 1 ≤ d) (hR : d ≤ R.frames ∧ 60 * d ≤ R.locals) (hd : decode q.2.2.1 pc = .ok (.invokestatic i, 3)) (hi : zbt q.1 i = some 2) (hl : S.length ≤ 4) (ha : a < G.1) (ht : (G.2.2.1 a).1 = 100) (ha' : a' < G.1) (ht' : (G.2.2.1 a').1 = 100) (h1 : 0 ≤ sp) (h2 : 0 ≤ dp) (h3 : 0 ≤ n) (h4 : sp + n ≤ ((G.2.2.1 a).2 : Int)) (h5 : dp + n ≤ ((G.2.2.1 a').2 : Int))
    (K : zGo p l e R s m args below meth c Q D cs A b n0 s0 ad0 q (pc + 3) L S G (zset H a' (zcpy H a a' sp dp n))) : zGo p l e R s m args below meth c Q D cs A b n0 s0 ad0 q pc L (.inl n :: .inl dp :: .inr (.inr (.inl a')) :: .inl sp :: .inr (.inr (.inl a)) :: S) G H := by
  intro ad ws Hr locs ls stk a1 a2 a3 hW hP hD hS hL hst
  obtain ⟨hx, hb, hml, hown, hts, hin, hK, hA⟩ := C
  obtain ⟨n', u, rfl, hn', hst0⟩ := zSi hst
  obtain ⟨dp', u, rfl, hdp, hst1⟩ := zSi hst0
  obtain ⟨u, rfl, -, hst2⟩ := zSr hst1
  obtain ⟨sp', u, rfl, hsp, hst3⟩ := zSi hst2
  obtain ⟨u, rfl, -, hst4⟩ := zSr hst3
  have hc := zcat_le hst4
  have hsz : c.maxLocals = ls.size := by rw [hml]; exact hL.2.choose_spec.1.1.symm
  obtain ⟨f, g1, g2⟩ := zWR_int hW ha ht
  obtain ⟨f', g3, g4⟩ := zWR_int hW ha' ht'
  have nn : ∀ z : Int32, 0 ≤ z.toInt → ¬ z < 0 := fun z hz w => by
    have := Int32.lt_iff_toInt_lt.mp w
    have z0 : (0 : Int32).toInt = 0 := rfl
    omega
  subst hn'; subst hdp; subst hsp
  refine va_copyi (D := D) (tys := ztys cs) (own := zcn q.1) hx hb hsz hown (hts _ (zTB_of ((zbt_ok hi).2.2.1 rfl) rfl)) (hts _ zb_cpy.1) (hts _ zb_cpy.2.1) (hts _ zb_cpy.2.2) hK.1 hP hD hS a a' 0 0 g1 g3 rfl rfl rfl (nn _ h1) (nn _ h2) (nn _ h3) (by rw [zclamp, zclamp]; omega) (by rw [zclamp, zclamp]; omega) (fun _ _ => rfl) (by omega) (by show _ + (5 + 2 + 11) ≤ _; omega) hd (fun H1 locs1 hP1 hD1 hS1 => ?_)
  refine K ad _ H1 locs1 ls _ a1 a2 a3 (zWR_set hW ha' rfl (fun _ _ => rfl) (fun _ _ => rfl) (fun k' hk' => zset_ne hk') ?_) hP1 hD1 hS1 hL hst4
  refine Or.inr (Or.inl ⟨ht', _, rfl, fun j hj => ?_⟩)
  rw [zset_eq]
  unfold zcpy va_cpy
  rw [zclamp, zclamp, zclamp]
  by_cases e1 : dp'.toInt ≤ (j : Int) ∧ (j : Int) < dp'.toInt + n'.toInt
  · rw [if_pos e1, if_pos (by omega), g2 _ (by omega)]
    congr 1
    omega
  · rw [if_neg e1, if_neg (by omega)]
    exact g4 j hj
theorem zs_newm (C : zCx p s m args meth c D cs A q) {i : Nat} {n k : Int} (hd : decode q.2.2.1 pc = .ok (.multianewarray i 2, 4)) (hi : zct q.1 i = some 200) (h0 : 0 ≤ n) (h1 : n ≤ 100) (k0 : 0 ≤ k) (k1 : k ≤ 100) (hn : G.1 + n.toNat < znul) (r1 : G.1 + 1 + n.toNat - n0 ≤ R.cells) (r2 : G.2.1 + n.toNat + n.toNat * k.toNat - s0 ≤ R.slots) {G' : zG} {H' : zH} (g1 : G'.1 = G.1 + 1 + n.toNat) (g2 : G'.2.1 = G.2.1 + n.toNat + n.toNat * k.toNat)
    (g3 : ∀ j, G'.2.2.1 j = if j = G.1 then (103, n.toNat) else if G.1 + 1 ≤ j ∧ j < G.1 + 1 + n.toNat then (100, k.toNat) else G.2.2.1 j) (g4 : ∀ j, G'.2.2.2 j = if j = G.1 then (fun i => if 0 ≤ i ∧ i < n then G.1 + 1 + i.toNat else znul) else if G.1 + 1 ≤ j ∧ j < G.1 + 1 + n.toNat then (fun _ => znul) else G.2.2.2 j) (g5 : ∀ j, H' j = if G.1 ≤ j ∧ j < G.1 + 1 + n.toNat then (fun _ => 0) else H j)
    (K : zGo p l e R s m args below meth c Q D cs A b n0 s0 ad0 q (pc + 4) L (vr G.1 :: S) G' H') : zGo p l e R s m args below meth c Q D cs A b n0 s0 ad0 q pc L (.inl k :: .inl n :: S) G H := by
  intro ad ws Hr locs ls stk a1 a2 a3 hW hP hD hS hL hst
  obtain ⟨hx, hb, hml, hown, hts, hin, hK, hA⟩ := C
  obtain ⟨y, u, rfl, rfl, hst0⟩ := zSi hst
  obtain ⟨x, u, rfl, rfl, hst1⟩ := zSi hst0
  have nn : ∀ z : Int32, 0 ≤ z.toInt → ¬ z < 0 := fun z hz w => by
    have := Int32.lt_iff_toInt_lt.mp w
    have z0 : (0 : Int32).toInt = 0 := rfl
    omega
  have hNK : x.toInt.toNat * y.toInt.toNat ≤ 100 * 100 := Nat.mul_le_mul (by omega) (by omega)
  have hws : ws ++ va_pl [] (fun _ => (.inl (cs.1, 0, .inl (fun _ => 0)) : va_E)) = ws := by simp [va_pl]
  refine va_mna (own := zcn q.1) (X := ws) (L := []) (f := fun _ => .inl (cs.1, 0, .inl (fun _ => 0))) (ty := .int) (cy := cs.1) (z := (y.toInt.toNat, .inl (fun _ => 0))) hx hb hown (hts _ (zTB_of ((zct_ok hi).2 rfl) rfl)) hK.2.2.2 (hts _ zb_arr.1) ((hK.1.2 0 _ rfl).2) hK.1 (by rw [hws]; exact hP) (by rw [hws]; exact hD) hS hA (nn _ h0) (nn _ k0) (zclamp x) (zclamp y) (by omega) (by show y.toInt.toNat * 4 ≤ 536870912; omega) (by omega) rfl rfl (by omega) (by omega) (fun cA => ?_) hd (fun a r cA H1 r1' r2' hK1 hP1 hD1 hS1 => ?_)
  · rw [vp_cell_i, ← arrV_new]
    rfl
  have hcA : cA = cs.2.2.2 := by
    have k1 : s.vm.findClass ("[" ++ (FieldType.array .int).toString) = some cs.2.2.2 := (hK.1.2 3 _ rfl).2
    have k2 : s.vm.findClass ("[" ++ (FieldType.array .int).toString) = some cA := (hK1.2 4 _ rfl).2
    exact Option.some.inj (k2.symm.trans k1)
  subst hcA
  generalize hN : x.toInt.toNat = N at *
  generalize hM : y.toInt.toNat = M at *
  have hrow : va_pl ([] ++ (List.range N).map r) (vr_up (fun _ => .inl (cs.1, 0, .inl (fun _ => 0))) ((List.range N).map r) (.inl (cs.1, M, .inl (fun _ => 0)))) = (List.range N).map (fun j => (r j, (.inl (cs.1, M, .inl (fun _ => 0)) : va_E))) := by
    unfold va_pl
    rw [List.nil_append, List.map_map]
    apply List.map_congr_left
    intro j hj
    simp only [Function.comp]
    rw [vr_up_in (List.mem_map.mpr ⟨j, hj, rfl⟩)]
  rw [hrow] at hP1 hD1
  obtain ⟨w1, w2, w3⟩ := hW
  obtain ⟨adn, hm, hm1, hm2⟩ : ∃ adn : Nat → Nat, (∀ k, k < G.1 → adn k = ad k) ∧ adn G.1 = a ∧ ∀ k, G.1 < k → adn k = r (k - G.1 - 1) := ⟨fun k => if k < G.1 then ad k else if k = G.1 then a else r (k - G.1 - 1), fun k hk => if_pos hk, by show (if G.1 < G.1 then _ else if G.1 = G.1 then a else _) = a; rw [if_neg (by omega), if_pos rfl], fun k hk => by show (if k < G.1 then _ else if k = G.1 then a else _) = _; rw [if_neg (by omega), if_neg (by omega)]⟩
  have KK := K adn _ H1 locs ls (.ref a :: u) (fun k hk => by rw [hm k (by omega)]; exact a1 k hk) (by rw [g1]; omega) (by rw [g2]; omega) ?_ hP1 hD1 hS1 (zLR_mono (by rw [g1]; omega) hm hL) ⟨_, _, rfl, ⟨by rw [g1]; omega, by rw [hm1]⟩, zSR_mono (by rw [g1]; omega) hm hst1⟩
  · rw [g1, g2] at KK
    have e1 : G.1 + 1 + N - n0 = (G.1 - n0) + 1 + N := by omega
    have e2 : G.2.1 + N + N * M - s0 = (G.2.1 - s0) + N + N * M := by omega
    rw [e1, e2] at KK
    exact KK
  · refine ⟨?_, by rw [g1]; omega, fun j hj => ?_⟩
    · rw [g1]
      simp [w1]
      omega
    · rw [g1] at hj
      by_cases c1 : j < G.1
      · obtain ⟨e', b1, b2⟩ := w3 j c1
        refine ⟨e', ?_, ?_⟩
        · rw [List.getElem?_append_left (by simp [w1]; omega), List.getElem?_append_left (by omega), b1, hm j c1]
        · exact zCR_mono (by rw [g1]; omega) hm (by rw [g3, if_neg (by omega), if_neg (by omega)]) (by rw [g4, if_neg (by omega), if_neg (by omega)]) (by rw [g5, if_neg (by omega)]) b2
      · by_cases c2 : j = G.1
        · subst c2
          refine ⟨.inl (cs.2.2.2, N, .inr (.inr (.inr (.inr (fun i => if i < N then some (r i) else none))))), ?_, ?_⟩
          · rw [List.getElem?_append_left (by simp [w1]), List.getElem?_append_right (by omega), w1, hm1]
            simp
          · refine Or.inr (Or.inr (Or.inr (Or.inr ⟨by rw [g3, if_pos rfl], _, by rw [g3, if_pos rfl], fun i hi => ?_⟩)))
            rw [g3, if_pos rfl] at hi
            have hi : i < N := hi
            rw [g4, if_pos rfl, if_pos hi]
            have e0 : (if 0 ≤ (i : Int) ∧ (i : Int) < x.toInt then G.1 + 1 + (i : Int).toNat else znul) = G.1 + 1 + i := by
              rw [if_pos (by omega)]
              omega
            rw [e0]
            refine Or.inl ⟨by rw [g1]; omega, ?_⟩
            show Value.ref (r i) = _
            rw [hm2 _ (by omega)]
            congr 2
            omega
        · refine ⟨.inl (cs.1, M, .inl (fun _ => 0)), ?_, ?_⟩
          · rw [List.getElem?_append_right (by simp [w1]; omega), List.getElem?_map]
            have e3 : j - (ws ++ [(a, (.inl (cs.2.2.2, N, .inr (.inr (.inr (.inr (fun i => if i < N then some (r i) else none))))) : va_E))]).length = j - G.1 - 1 := by
              simp [w1]
              omega
            rw [e3, List.getElem?_range (by omega), hm2 j (by omega)]
            rfl
          · refine Or.inr (Or.inl ⟨by rw [g3, if_neg c2, if_pos (by omega)], (fun _ => 0), by rw [g3, if_neg c2, if_pos (by omega)], fun i hi => ?_⟩)
            rw [g5, if_pos (by omega)]
            rfl
end ZAL
