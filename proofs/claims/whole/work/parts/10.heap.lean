/-! the instructions that read and write cells -/
theorem zCb_iff {G : zG} {a c : Nat} : zCb G a c = true ↔ a < G.1 ∧ (G.2.2.1 a).1 = c := by simp [zCb]
theorem zInb_iff {G : zG} {a : Nat} {i : Int} : zInb G a i = true ↔ 0 ≤ i ∧ i < ((G.2.2.1 a).2 : Int) := by simp [zInb]
theorem zCR_same {cs : zCs} {ad : Nat → Nat} {G G' : zG} {H H' : zH} {k : Nat} {e : va_E} (h1 : G'.1 = G.1) (h2 : G'.2.2.1 k = G.2.2.1 k) (h3 : G'.2.2.2 k = G.2.2.2 k) (h4 : H' k = H k) (h : zCR cs ad G H k e) : zCR cs ad G' H' k e := by
  unfold zCR zFV at h ⊢
  rw [h1, h2, h3, h4]
  exact h
theorem zRV_mono {n n' : Nat} {ad ad' : Nat → Nat} (hn : n ≤ n') (ha : ∀ k, k < n → ad' k = ad k) {r : Nat} {v : Value} (h : zRV n ad r v) : zRV n' ad' r v := by
  rcases h with ⟨h1, h2⟩ | h
  · exact Or.inl ⟨Nat.lt_of_lt_of_le h1 hn, by rw [ha r h1]; exact h2⟩
  · exact Or.inr h
theorem zCR_mono {cs : zCs} {ad ad' : Nat → Nat} {G G' : zG} {H H' : zH} {k : Nat} {e : va_E} (h1 : G.1 ≤ G'.1) (ha : ∀ k, k < G.1 → ad' k = ad k) (h2 : G'.2.2.1 k = G.2.2.1 k) (h3 : G'.2.2.2 k = G.2.2.2 k) (h4 : H' k = H k) (h : zCR cs ad G H k e) : zCR cs ad' G' H' k e := by
  unfold zCR zFV at h ⊢
  rw [h2, h3, h4]
  rcases h with ⟨a1, a2, fs, a3, a4, a5⟩ | h | h | ⟨a1, f, a2, a3⟩ | ⟨a1, f, a2, a3⟩
  · refine Or.inl ⟨a1, a2, fs, a3, a4, fun j v hj => ?_⟩
    rcases a5 j v hj with ⟨b1, b2⟩ | b
    · exact Or.inl ⟨b1, zRV_mono h1 ha b2⟩
    · exact Or.inr b
  · exact Or.inr (Or.inl h)
  · exact Or.inr (Or.inr (Or.inl h))
  · exact Or.inr (Or.inr (Or.inr (Or.inl ⟨a1, f, a2, fun j hj => zRV_mono h1 ha (a3 j hj)⟩)))
  · exact Or.inr (Or.inr (Or.inr (Or.inr ⟨a1, f, a2, fun j hj => zRV_mono h1 ha (a3 j hj)⟩)))
theorem zWR_set {cs : zCs} {G G' : zG} {H H' : zH} {ad : Nat → Nat} {ws : va_W} {a : Nat} {e : va_E} (hW : zWR cs G H ad ws) (ha : a < G.1) (h1 : G'.1 = G.1) (h2 : ∀ k, k ≠ a → G'.2.2.1 k = G.2.2.1 k) (h3 : ∀ k, k ≠ a → G'.2.2.2 k = G.2.2.2 k) (h4 : ∀ k, k ≠ a → H' k = H k) (he : zCR cs ad G' H' a e) : zWR cs G' H' ad (ws.set a (ad a, e)) := by
  obtain ⟨w1, w2, w3⟩ := hW
  refine ⟨by rw [List.length_set, h1]; exact w1, by rw [h1]; exact w2, fun k hk => ?_⟩
  rw [h1] at hk
  rw [List.getElem?_set]
  by_cases e1 : a = k
  · subst e1
    rw [if_pos rfl, if_pos (by rw [w1]; exact ha)]
    exact ⟨e, rfl, he⟩
  · rw [if_neg e1]
    obtain ⟨e', g1, g2⟩ := w3 k hk
    have e2 : k ≠ a := fun z => e1 z.symm
    exact ⟨e', g1, zCR_same h1 (h2 k e2) (h3 k e2) (h4 k e2) g2⟩
/-- an object of a class among the cells -/
theorem zWR_obj {cs : zCs} {G : zG} {H : zH} {ad : Nat → Nat} {ws : va_W} {a t : Nat} (hW : zWR cs G H ad ws) (ha : a < G.1) (ht : (G.2.2.1 a).1 = t) (h10 : t < 10) : ∃ fs : List Value, ws[a]? = some (ad a, .inr (t, fs)) ∧ fs.length = zNN t ∧ (G.2.2.1 a).2 = zNN t ∧ ∀ (j : Nat) (v : Value), fs[j]? = some v → zFV ad G H t a j v := by
  obtain ⟨e, h1, h2⟩ := hW.2.2 a ha
  subst ht
  rcases h2 with ⟨g1, g2, fs, g3, g4, g5⟩ | ⟨g1, -⟩ | ⟨g1, -⟩ | ⟨g1, -⟩ | ⟨g1, -⟩
  · subst g3
    exact ⟨fs, h1, by rw [g4]; exact g2, g2, g5⟩
  all_goals omega
theorem zWR_int {cs : zCs} {G : zG} {H : zH} {ad : Nat → Nat} {ws : va_W} {a : Nat} (hW : zWR cs G H ad ws) (ha : a < G.1) (ht : (G.2.2.1 a).1 = 100) : ∃ f : Nat → Int32, ws[a]? = some (ad a, .inl (cs.1, (G.2.2.1 a).2, .inl f)) ∧ ∀ j : Nat, j < (G.2.2.1 a).2 → (f j).toInt = H a (j : Int) := by
  obtain ⟨e, h1, h2⟩ := hW.2.2 a ha
  rcases h2 with ⟨g1, -⟩ | ⟨g1, f, g2, g3⟩ | ⟨g1, -⟩ | ⟨g1, -⟩ | ⟨g1, -⟩
  · omega
  · subst g2
    exact ⟨f, h1, g3⟩
  all_goals omega
theorem zWR_boo {cs : zCs} {G : zG} {H : zH} {ad : Nat → Nat} {ws : va_W} {a : Nat} (hW : zWR cs G H ad ws) (ha : a < G.1) (ht : (G.2.2.1 a).1 = 101) : ∃ f : Nat → Int32, ws[a]? = some (ad a, .inl (cs.2.1, (G.2.2.1 a).2, .inl f)) ∧ ∀ j : Nat, j < (G.2.2.1 a).2 → (f j).toInt = H a (j : Int) := by
  obtain ⟨e, h1, h2⟩ := hW.2.2 a ha
  rcases h2 with ⟨g1, -⟩ | ⟨g1, -⟩ | ⟨g1, f, g2, g3⟩ | ⟨g1, -⟩ | ⟨g1, -⟩
  · omega
  · omega
  · subst g2
    exact ⟨f, h1, g3⟩
  all_goals omega
theorem zWR_bks {cs : zCs} {G : zG} {H : zH} {ad : Nat → Nat} {ws : va_W} {a : Nat} (hW : zWR cs G H ad ws) (ha : a < G.1) (ht : (G.2.2.1 a).1 = 102) : ∃ f : Nat → Option Nat, ws[a]? = some (ad a, .inl (cs.2.2.1, (G.2.2.1 a).2, .inr (.inr (.inr (.inr f))))) ∧ ∀ j : Nat, j < (G.2.2.1 a).2 → zRV G.1 ad (G.2.2.2 a (j : Int)) (va_rf (f j)) := by
  obtain ⟨e, h1, h2⟩ := hW.2.2 a ha
  rcases h2 with ⟨g1, -⟩ | ⟨g1, -⟩ | ⟨g1, -⟩ | ⟨g1, f, g2, g3⟩ | ⟨g1, -⟩
  · omega
  · omega
  · omega
  · subst g2
    exact ⟨f, h1, g3⟩
  all_goals omega
theorem zWR_row {cs : zCs} {G : zG} {H : zH} {ad : Nat → Nat} {ws : va_W} {a : Nat} (hW : zWR cs G H ad ws) (ha : a < G.1) (ht : (G.2.2.1 a).1 = 103) : ∃ f : Nat → Option Nat, ws[a]? = some (ad a, .inl (cs.2.2.2, (G.2.2.1 a).2, .inr (.inr (.inr (.inr f))))) ∧ ∀ j : Nat, j < (G.2.2.1 a).2 → zRV G.1 ad (G.2.2.2 a (j : Int)) (va_rf (f j)) := by
  obtain ⟨e, h1, h2⟩ := hW.2.2 a ha
  rcases h2 with ⟨g1, -⟩ | ⟨g1, -⟩ | ⟨g1, -⟩ | ⟨g1, -⟩ | ⟨g1, f, g2, g3⟩
  · omega
  · omega
  · omega
  · omega
  · subst g2
    exact ⟨f, h1, g3⟩
theorem zset_ne {H : zH} {a b : Nat} {f : Int → Int} (h : b ≠ a) : zset H a f b = H b := if_neg h
theorem zset_eq {H : zH} {a : Nat} {f : Int → Int} : zset H a f a = f := if_pos rfl
theorem zrset_ne {r : Nat → Int → Nat} {a b : Nat} {f : Int → Nat} (h : b ≠ a) : zrset r a f b = r b := if_neg h
theorem zrset_eq {r : Nat → Int → Nat} {a : Nat} {f : Int → Nat} : zrset r a f a = f := if_pos rfl
theorem zsh_ne {s : Nat → Nat × Nat} {a b : Nat} {x : Nat × Nat} (h : b ≠ a) : zsh s a x b = s b := if_neg h
theorem zsh_eq {s : Nat → Nat × Nat} {a : Nat} {x : Nat × Nat} : zsh s a x a = x := if_pos rfl
theorem zix {x : Int32} (h : 0 ≤ x.toInt) : ((x.toNatClampNeg : Nat) : Int) = x.toInt := by
  rw [zclamp]
  omega
theorem zvpin {x : Int32} {n : Nat} (h1 : 0 ≤ x.toInt) (h2 : x.toInt < (n : Int)) : vp_in x n := vp_in_iff.mpr ⟨h1, h2⟩
section ZHP
variable {p : Program} {l : Launch} {e : Env} {R : Room} {s : State} {m : MethodId} {args : Array Value} {below : List Frame} {meth : Method} {c : Code} {Q : State → Prop} {D : va_G} {cs : zCs} {A : Nat → Prop} {b n0 s0 : Nat} {ad0 : Nat → Nat} {q : zM} {pc : Nat} {L S : List zV} {G : zG} {H : zH}
theorem zs_geti (C : zCx p s m args meth c D cs A q) {i a t k : Nat} (hd : decode q.2.2.1 pc = .ok (.getfield i, 3)) (hf : zfd q.1 i = some (t, k)) (hr : zrf t k = false) (ha : a < G.1) (ht : (G.2.2.1 a).1 = t) (K : zGo p l e R s m args below meth c Q D cs A b n0 s0 ad0 q (pc + 3) L (vi (H a k) :: S) G H) : zGo p l e R s m args below meth c Q D cs A b n0 s0 ad0 q pc L (.inr (.inr (.inl a)) :: S) G H := by
  intro ad ws Hr locs ls stk a1 a2 a3 hW hP hD hS hL hst
  obtain ⟨hx, hb, hml, hown, hts, hin, hK, hA⟩ := C
  obtain ⟨⟨h10, hk⟩, hw⟩ := zf_ok hf
  obtain ⟨u, rfl, -, hst1⟩ := zSr hst
  obtain ⟨fs, g1, g2, -, g3⟩ := zWR_obj hW ha ht h10
  have hv : fs[k]? = some (fs[k]'(by rw [g2]; exact hk)) := List.getElem?_eq_getElem _
  rcases g3 k _ hv with ⟨z, -⟩ | ⟨-, x, e1, e2⟩
  · rw [hr] at z
    cases z
  · rw [e1] at hv
    exact va_get (D := D) (ci := t) (C := zcn t) (T := zT t) (N := zNN t) (own := zcn q.1) (ref := (zT t k).1) hx hb hts (zk_in2 h10) hown hK.1 hP a g1 (zk_cl h10) k hk (hts _ hw) (fun _ z => z) hv hd (K ad ws Hr locs ls _ a1 a2 a3 hW hP hD hS hL (zPi e2 hst1))
theorem zs_getr (C : zCx p s m args meth c D cs A q) {i a t k : Nat} (hd : decode q.2.2.1 pc = .ok (.getfield i, 3)) (hf : zfd q.1 i = some (t, k)) (hr : zrf t k = true) (ha : a < G.1) (ht : (G.2.2.1 a).1 = t) (hlt : G.2.2.2 a k < G.1) (K : zGo p l e R s m args below meth c Q D cs A b n0 s0 ad0 q (pc + 3) L (vr (G.2.2.2 a k) :: S) G H) : zGo p l e R s m args below meth c Q D cs A b n0 s0 ad0 q pc L (.inr (.inr (.inl a)) :: S) G H := by
  intro ad ws Hr locs ls stk a1 a2 a3 hW hP hD hS hL hst
  obtain ⟨hx, hb, hml, hown, hts, hin, hK, hA⟩ := C
  obtain ⟨⟨h10, hk⟩, hw⟩ := zf_ok hf
  obtain ⟨u, rfl, -, hst1⟩ := zSr hst
  obtain ⟨fs, g1, g2, -, g3⟩ := zWR_obj hW ha ht h10
  have hv : fs[k]? = some (fs[k]'(by rw [g2]; exact hk)) := List.getElem?_eq_getElem _
  rcases g3 k _ hv with ⟨-, ⟨b1, b2⟩ | ⟨b1, -⟩⟩ | ⟨z, -⟩
  · rw [b2] at hv
    exact va_get (D := D) (ci := t) (C := zcn t) (T := zT t) (N := zNN t) (own := zcn q.1) (ref := (zT t k).1) hx hb hts (zk_in2 h10) hown hK.1 hP a g1 (zk_cl h10) k hk (hts _ hw) (fun _ z => z) hv hd (K ad ws Hr locs ls _ a1 a2 a3 hW hP hD hS hL (zPr b1 hst1))
  · have := hW.2.1
    omega
  · rw [hr] at z
    cases z
theorem zs_puti (C : zCx p s m args meth c D cs A q) {i a t k : Nat} {z : Int} (hd : decode q.2.2.1 pc = .ok (.putfield i, 3)) (hf : zfd q.1 i = some (t, k)) (hr : zrf t k = false) (ha : a < G.1) (ht : (G.2.2.1 a).1 = t) (K : zGo p l e R s m args below meth c Q D cs A b n0 s0 ad0 q (pc + 3) L S G (zup H a k z)) : zGo p l e R s m args below meth c Q D cs A b n0 s0 ad0 q pc L (.inl z :: .inr (.inr (.inl a)) :: S) G H := by
  intro ad ws Hr locs ls stk a1 a2 a3 hW hP hD hS hL hst
  obtain ⟨hx, hb, hml, hown, hts, hin, hK, hA⟩ := C
  obtain ⟨⟨h10, hk⟩, hw⟩ := zf_ok hf
  obtain ⟨x, u, rfl, hz, hst0⟩ := zSi hst
  obtain ⟨u, rfl, -, hst1⟩ := zSr hst0
  obtain ⟨fs, g1, g2, g4, g3⟩ := zWR_obj hW ha ht h10
  have hpd := zk_pd h10 k hk
  have hty := (zk_ty h10 k hk).2 hr
  rw [hty] at hpd
  refine va_put (D := D) (ci := t) (C := zcn t) (T := zT t) (N := zNN t) (own := zcn q.1) (ref := (zT t k).1) hx hb hts (zk_in2 h10) (zty t) (zk_pd h10) (zk_nm h10) hown hK.1 hP hD hS a g1 (zk_cl h10) k hk (hts _ hw) (fun _ z => z) (by rw [(zk_ow h10 k hk).2]; exact hr) (ty := .int) (v := .int x) hpd rfl rfl (by rw [g2]; exact hk) hd (fun H1 locs1 hP1 hD1 hS1 => ?_)
  refine K ad _ H1 locs1 ls _ a1 a2 a3 (zWR_set hW ha rfl (fun _ _ => rfl) (fun _ _ => rfl) (fun k' hk' => zset_ne hk') ?_) hP1 hD1 hS1 hL hst1
  refine Or.inl ⟨by rw [ht]; exact h10, by rw [ht]; exact g4, fs.set k (.int x), by rw [ht], by rw [List.length_set, g2, g4], fun j v hj => ?_⟩
  rw [ht]
  rw [List.getElem?_set] at hj
  by_cases e1 : k = j
  · subst e1
    rw [if_pos rfl, if_pos (by rw [g2]; exact hk)] at hj
    cases hj
    refine Or.inr ⟨hr, x, rfl, ?_⟩
    rw [zup, zset_eq, zfu, if_pos rfl]
    exact hz
  · rw [if_neg e1] at hj
    rcases g3 j v hj with b | ⟨b1, y, b2, b3⟩
    · exact Or.inl b
    · refine Or.inr ⟨b1, y, b2, ?_⟩
      rw [zup, zset_eq, zfu, if_neg (by omega)]
      exact b3
theorem zfits_ref {ty : FieldType} {a : Nat} (h : zisr ty = true) : narrow ty (.ref a) = .ref a ∧ fits ty (.ref a) = true := by
  cases ty <;> first | (simp [zisr] at h; done) | exact ⟨rfl, rfl⟩
theorem zs_putr (C : zCx p s m args meth c D cs A q) {i a t k x : Nat} (hd : decode q.2.2.1 pc = .ok (.putfield i, 3)) (hf : zfd q.1 i = some (t, k)) (hr : zrf t k = true) (ha : a < G.1) (ht : (G.2.2.1 a).1 = t) (ho : q.1 = t) (hi : q.2.1.name = "<init>") (K : zGo p l e R s m args below meth c Q D cs A b n0 s0 ad0 q (pc + 3) L S (G.1, G.2.1, G.2.2.1, zrset G.2.2.2 a (zru (G.2.2.2 a) k x)) H) : zGo p l e R s m args below meth c Q D cs A b n0 s0 ad0 q pc L (.inr (.inr (.inl x)) :: .inr (.inr (.inl a)) :: S) G H := by
  intro ad ws Hr locs ls stk a1 a2 a3 hW hP hD hS hL hst
  obtain ⟨hx, hb, hml, hown, hts, hin, hK, hA⟩ := C
  obtain ⟨⟨h10, hk⟩, hw⟩ := zf_ok hf
  obtain ⟨u, rfl, hxl, hst0⟩ := zSr hst
  obtain ⟨u, rfl, -, hst1⟩ := zSr hst0
  obtain ⟨fs, g1, g2, g4, g3⟩ := zWR_obj hW ha ht h10
  have hpd := zk_pd h10 k hk
  have hty := (zk_ty h10 k hk).1 hr
  refine va_putF (D := D) (ci := t) (C := zcn t) (T := zT t) (N := zNN t) (own := zcn q.1) (ref := (zT t k).1) hx hb hts (zk_in2 h10) (zty t) (zk_pd h10) (zk_nm h10) hown hK.1 hP hD hS a g1 (zk_cl h10) k hk (hts _ hw) (fun _ z => z) (by rw [(zk_ow h10 k hk).2]; exact hr) (hin hi) (by rw [(zk_ow h10 k hk).1, ho]) (v := .ref (ad x)) hpd (zfits_ref hty).1 (zfits_ref hty).2 (by rw [g2]; exact hk) hd (fun H1 locs1 hP1 hD1 hS1 => ?_)
  refine K ad _ H1 locs1 ls _ a1 a2 a3 (zWR_set hW ha rfl (fun _ _ => rfl) (fun k' hk' => zrset_ne hk') (fun k' hk' => rfl) ?_) hP1 hD1 hS1 hL hst1
  refine Or.inl ⟨by show (G.2.2.1 a).1 < 10; rw [ht]; exact h10, by show (G.2.2.1 a).2 = zNN (G.2.2.1 a).1; rw [ht]; exact g4, fs.set k (.ref (ad x)), by show _ = Sum.inr ((G.2.2.1 a).1, _); rw [ht], by rw [List.length_set, g2]; exact g4.symm, fun j v hj => ?_⟩
  show zFV ad _ H (G.2.2.1 a).1 a j v
  rw [ht]
  rw [List.getElem?_set] at hj
  by_cases e1 : k = j
  · subst e1
    rw [if_pos rfl, if_pos (by rw [g2]; exact hk)] at hj
    cases hj
    refine Or.inl ⟨hr, Or.inl ?_⟩
    show zrset G.2.2.2 a (zru (G.2.2.2 a) k x) a k < G.1 ∧ Value.ref (ad x) = Value.ref (ad (zrset G.2.2.2 a (zru (G.2.2.2 a) k x) a k))
    rw [zrset_eq, zru, if_pos rfl]
    exact ⟨hxl, rfl⟩
  · rw [if_neg e1] at hj
    rcases g3 j v hj with ⟨b1, b2⟩ | b
    · refine Or.inl ⟨b1, ?_⟩
      show zRV G.1 ad (zrset G.2.2.2 a (zru (G.2.2.2 a) k x) a j) v
      rw [zrset_eq, zru, if_neg (by omega)]
      exact b2
    · exact Or.inr b
theorem zs_iald (C : zCx p s m args meth c D cs A q) {a : Nat} {i : Int} (hd : decode q.2.2.1 pc = .ok (.iaload, 1)) (ha : a < G.1) (ht : (G.2.2.1 a).1 = 100) (h0 : 0 ≤ i) (h1 : i < ((G.2.2.1 a).2 : Int)) (K : zGo p l e R s m args below meth c Q D cs A b n0 s0 ad0 q (pc + 1) L (vi (H a i) :: S) G H) : zGo p l e R s m args below meth c Q D cs A b n0 s0 ad0 q pc L (.inl i :: .inr (.inr (.inl a)) :: S) G H := by
  intro ad ws Hr locs ls stk a1 a2 a3 hW hP hD hS hL hst
  obtain ⟨hx, hb, hml, hown, hts, hin, hK, hA⟩ := C
  obtain ⟨x, u, rfl, rfl, hst0⟩ := zSi hst
  obtain ⟨u, rfl, -, hst1⟩ := zSr hst0
  obtain ⟨f, g1, g2⟩ := zWR_int hW ha ht
  have hlt : x.toNatClampNeg < (G.2.2.1 a).2 := by rw [zclamp]; omega
  exact va_iald (D := D) (tys := ztys cs) hx hb hK.1 hP a 0 g1 rfl (zvpin h0 h1) hd (K ad ws Hr locs ls _ a1 a2 a3 hW hP hD hS hL (zPi (by rw [g2 _ hlt, zix h0]) hst1))
theorem zs_bald (C : zCx p s m args meth c D cs A q) {a : Nat} {i : Int} (hd : decode q.2.2.1 pc = .ok (.baload, 1)) (ha : a < G.1) (ht : (G.2.2.1 a).1 = 101) (h0 : 0 ≤ i) (h1 : i < ((G.2.2.1 a).2 : Int)) (K : zGo p l e R s m args below meth c Q D cs A b n0 s0 ad0 q (pc + 1) L (vi (H a i) :: S) G H) : zGo p l e R s m args below meth c Q D cs A b n0 s0 ad0 q pc L (.inl i :: .inr (.inr (.inl a)) :: S) G H := by
  intro ad ws Hr locs ls stk a1 a2 a3 hW hP hD hS hL hst
  obtain ⟨hx, hb, hml, hown, hts, hin, hK, hA⟩ := C
  obtain ⟨x, u, rfl, rfl, hst0⟩ := zSi hst
  obtain ⟨u, rfl, -, hst1⟩ := zSr hst0
  obtain ⟨f, g1, g2⟩ := zWR_boo hW ha ht
  have hlt : x.toNatClampNeg < (G.2.2.1 a).2 := by rw [zclamp]; omega
  exact va_zald (D := D) (tys := ztys cs) hx hb hK.1 hP a 1 g1 rfl (zvpin h0 h1) hd (K ad ws Hr locs ls _ a1 a2 a3 hW hP hD hS hL (zPi (by rw [g2 _ hlt, zix h0]) hst1))
theorem zs_sald (C : zCx p s m args meth c D cs A q) {o : Option (Nat × (Int → Int))} (hO : zSc s A b o) {n : Nat} {f : Int → Int} (ho : o = some (n, f)) {i : Int} (hd : decode q.2.2.1 pc = .ok (.iaload, 1)) (h0 : 0 ≤ i) (h1 : i < (n : Int)) (K : zGo p l e R s m args below meth c Q D cs A b n0 s0 ad0 q (pc + 1) L (vi (f i) :: S) G H) : zGo p l e R s m args below meth c Q D cs A b n0 s0 ad0 q pc L (.inl i :: .inr (.inr (.inr 1)) :: S) G H := by
  intro ad ws Hr locs ls stk a1 a2 a3 hW hP hD hS hL hst
  obtain ⟨hx, hb, hml, hown, hts, hin, hK, hA⟩ := C
  obtain ⟨x, u, rfl, rfl, hst0⟩ := zSi hst
  obtain ⟨u, rfl, -, hst1⟩ := zSx hst0
  obtain ⟨xs, o1, o2, o3, o4, o5⟩ := hO _ ho
  have hlt : x.toNatClampNeg < n := by rw [zclamp]; omega
  exact va_sld hx hb o1 o2 o3 hS (zvpin h0 h1) hd (K ad ws Hr locs ls _ a1 a2 a3 hW hP hD hS hL (zPi (by rw [o5 _ hlt, zix h0]) hst1))
theorem zs_slen (C : zCx p s m args meth c D cs A q) {o : Option (Nat × (Int → Int))} (hO : zSc s A b o) {n : Nat} {f : Int → Int} (ho : o = some (n, f)) (hd : decode q.2.2.1 pc = .ok (.arraylength, 1)) (K : zGo p l e R s m args below meth c Q D cs A b n0 s0 ad0 q (pc + 1) L (vi (n : Int) :: S) G H) : zGo p l e R s m args below meth c Q D cs A b n0 s0 ad0 q pc L (.inr (.inr (.inr 1)) :: S) G H := by
  intro ad ws Hr locs ls stk a1 a2 a3 hW hP hD hS hL hst
  obtain ⟨hx, hb, hml, hown, hts, hin, hK, hA⟩ := C
  obtain ⟨u, rfl, -, hst1⟩ := zSx hst
  obtain ⟨xs, o1, o2, o3, o4, o5⟩ := hO _ ho
  exact va_slen hx hb o1 o2 o3 hS hd (K ad ws Hr locs ls _ a1 a2 a3 hW hP hD hS hL (zPi (nI_toInt o4) hst1))
theorem zs_iast (C : zCx p s m args meth c D cs A q) {a : Nat} {i v : Int} (hd : decode q.2.2.1 pc = .ok (.iastore, 1)) (ha : a < G.1) (ht : (G.2.2.1 a).1 = 100) (h0 : 0 ≤ i) (h1 : i < ((G.2.2.1 a).2 : Int)) (K : zGo p l e R s m args below meth c Q D cs A b n0 s0 ad0 q (pc + 1) L S G (zup H a i v)) : zGo p l e R s m args below meth c Q D cs A b n0 s0 ad0 q pc L (.inl v :: .inl i :: .inr (.inr (.inl a)) :: S) G H := by
  intro ad ws Hr locs ls stk a1 a2 a3 hW hP hD hS hL hst
  obtain ⟨hx, hb, hml, hown, hts, hin, hK, hA⟩ := C
  obtain ⟨y, u, rfl, hy, hst2⟩ := zSi hst
  obtain ⟨x, u, rfl, hxi, hst0⟩ := zSi hst2
  obtain ⟨u, rfl, -, hst1⟩ := zSr hst0
  obtain ⟨f, g1, g2⟩ := zWR_int hW ha ht
  subst hxi
  refine va_iast (D := D) (tys := ztys cs) hx hb hK.1 hP hD hS a 0 g1 rfl (zvpin h0 h1) hd (fun H1 locs1 hP1 hD1 hS1 => ?_)
  refine K ad _ H1 locs1 ls _ a1 a2 a3 (zWR_set hW ha rfl (fun _ _ => rfl) (fun _ _ => rfl) (fun k' hk' => zset_ne hk') ?_) hP1 hD1 hS1 hL hst1
  refine Or.inr (Or.inl ⟨ht, _, rfl, fun j hj => ?_⟩)
  rw [zup, zset_eq, zfu]
  unfold upd
  by_cases e1 : j = x.toNatClampNeg
  · rw [if_pos e1, if_pos (by rw [e1, zix h0])]
    exact hy
  · rw [if_neg e1, if_neg (fun z => e1 (by rw [zclamp]; omega))]
    exact g2 j hj
theorem zs_bast (C : zCx p s m args meth c D cs A q) {a : Nat} {i v : Int} (hd : decode q.2.2.1 pc = .ok (.bastore, 1)) (ha : a < G.1) (ht : (G.2.2.1 a).1 = 101) (h0 : 0 ≤ i) (h1 : i < ((G.2.2.1 a).2 : Int)) (hv : v = 0 ∨ v = 1) (K : zGo p l e R s m args below meth c Q D cs A b n0 s0 ad0 q (pc + 1) L S G (zup H a i v)) : zGo p l e R s m args below meth c Q D cs A b n0 s0 ad0 q pc L (.inl v :: .inl i :: .inr (.inr (.inl a)) :: S) G H := by
  intro ad ws Hr locs ls stk a1 a2 a3 hW hP hD hS hL hst
  obtain ⟨hx, hb, hml, hown, hts, hin, hK, hA⟩ := C
  obtain ⟨y, u, rfl, hy, hst2⟩ := zSi hst
  obtain ⟨x, u, rfl, hxi, hst0⟩ := zSi hst2
  obtain ⟨u, rfl, -, hst1⟩ := zSr hst0
  obtain ⟨f, g1, g2⟩ := zWR_boo hW ha ht
  subst hxi
  refine va_zast (D := D) (tys := ztys cs) hx hb hK.1 hP hD hS a 1 g1 rfl (zvpin h0 h1) hd (fun H1 locs1 hP1 hD1 hS1 => ?_)
  refine K ad _ H1 locs1 ls _ a1 a2 a3 (zWR_set hW ha rfl (fun _ _ => rfl) (fun _ _ => rfl) (fun k' hk' => zset_ne hk') ?_) hP1 hD1 hS1 hL hst1
  refine Or.inr (Or.inr (Or.inl ⟨ht, _, rfl, fun j hj => ?_⟩))
  have hn : (vp_nar .boolean y).toInt = v := by
    have e0 : y = Int32.ofInt v := (zof32 hy).symm
    rcases hv with rfl | rfl <;> (rw [e0]; decide)
  rw [zup, zset_eq, zfu]
  unfold upd
  by_cases e1 : j = x.toNatClampNeg
  · rw [if_pos e1, if_pos (by rw [e1, zix h0])]
    exact hn
  · rw [if_neg e1, if_neg (fun z => e1 (by rw [zclamp]; omega))]
    exact g2 j hj
theorem zs_aald (C : zCx p s m args meth c D cs A q) {a : Nat} {i : Int} (hd : decode q.2.2.1 pc = .ok (.aaload, 1)) (ha : a < G.1) (ht : (G.2.2.1 a).1 = 102 ∨ (G.2.2.1 a).1 = 103) (h0 : 0 ≤ i) (h1 : i < ((G.2.2.1 a).2 : Int)) (hlt : G.2.2.2 a i < G.1) (K : zGo p l e R s m args below meth c Q D cs A b n0 s0 ad0 q (pc + 1) L (vr (G.2.2.2 a i) :: S) G H) : zGo p l e R s m args below meth c Q D cs A b n0 s0 ad0 q pc L (.inl i :: .inr (.inr (.inl a)) :: S) G H := by
  intro ad ws Hr locs ls stk a1 a2 a3 hW hP hD hS hL hst
  obtain ⟨hx, hb, hml, hown, hts, hin, hK, hA⟩ := C
  obtain ⟨x, u, rfl, rfl, hst0⟩ := zSi hst
  obtain ⟨u, rfl, -, hst1⟩ := zSr hst0
  have hl : x.toNatClampNeg < (G.2.2.1 a).2 := by rw [zclamp]; omega
  have hnul := hW.2.1
  rcases ht with ht | ht
  · obtain ⟨f, g1, g2⟩ := zWR_bks hW ha ht
    have g3 := g2 _ hl
    rw [zix h0] at g3
    rcases g3 with ⟨b1, b2⟩ | ⟨b1, -⟩
    · refine va_aldq (D := D) (tys := ztys cs) hx hb hK.1 hP a 2 g1 rfl (zvpin h0 h1) hd ?_
      rw [b2]
      exact K ad ws Hr locs ls _ a1 a2 a3 hW hP hD hS hL (zPr b1 hst1)
    · omega
  · obtain ⟨f, g1, g2⟩ := zWR_row hW ha ht
    have g3 := g2 _ hl
    rw [zix h0] at g3
    rcases g3 with ⟨b1, b2⟩ | ⟨b1, -⟩
    · refine W.aald (v := va_rf (f x.toNatClampNeg)) (ty := .array .int) hx hb (hP a _ g1) ((hK.1.2 3 _ rfl).1 (G.2.2.1 a).2 (fun j => va_rf (f j))) rfl (fun z => by cases z) (by show ¬ (x < 0 ∨ (arrV _ _ _).slots.size ≤ _); rw [arrV_size]; exact zvpin h0 h1) (by show (arrV _ _ _).slots[_]? = _; rw [arrV_read _ _ hl]) rfl rfl hd ?_
      rw [b2]
      exact K ad ws Hr locs ls _ a1 a2 a3 hW hP hD hS hL (zPr b1 hst1)
    · omega
theorem zs_aast (C : zCx p s m args meth c D cs A q) {a y : Nat} {i : Int} (hd : decode q.2.2.1 pc = .ok (.aastore, 1)) (ha : a < G.1) (ht : (G.2.2.1 a).1 = 102) (h0 : 0 ≤ i) (h1 : i < ((G.2.2.1 a).2 : Int)) (hy : y < G.1) (hyt : (G.2.2.1 y).1 = 0) (K : zGo p l e R s m args below meth c Q D cs A b n0 s0 ad0 q (pc + 1) L S (G.1, G.2.1, G.2.2.1, zrset G.2.2.2 a (zru (G.2.2.2 a) i y)) H) : zGo p l e R s m args below meth c Q D cs A b n0 s0 ad0 q pc L (.inr (.inr (.inl y)) :: .inl i :: .inr (.inr (.inl a)) :: S) G H := by
  intro ad ws Hr locs ls stk a1 a2 a3 hW hP hD hS hL hst
  obtain ⟨hx, hb, hml, hown, hts, hin, hK, hA⟩ := C
  obtain ⟨u, rfl, -, hst2⟩ := zSr hst
  obtain ⟨x, u, rfl, hxi, hst0⟩ := zSi hst2
  obtain ⟨u, rfl, -, hst1⟩ := zSr hst0
  obtain ⟨f, g1, g2⟩ := zWR_bks hW ha ht
  obtain ⟨fs, k1, -⟩ := zWR_obj hW hy hyt (by omega)
  subst hxi
  refine va_astq (D := D) (tys := ztys cs) hx hb hK.1 hP hD hS a 2 y 0 (r := (RX0, TX0, 11)) g1 rfl k1 rfl (zvpin h0 h1) hd (fun H1 locs1 hP1 hD1 hS1 => ?_)
  refine K ad _ H1 locs1 ls _ a1 a2 a3 (zWR_set hW ha rfl (fun _ _ => rfl) (fun k' hk' => zrset_ne hk') (fun _ _ => rfl) ?_) hP1 hD1 hS1 hL hst1
  refine Or.inr (Or.inr (Or.inr (Or.inl ⟨ht, _, rfl, fun j hj => ?_⟩)))
  show zRV G.1 ad (zrset G.2.2.2 a (zru (G.2.2.2 a) x.toInt y) a j) _
  rw [zrset_eq, zru]
  unfold va_up
  by_cases e1 : j = x.toNatClampNeg
  · rw [if_pos e1, if_pos (by rw [e1, zix h0])]
    exact Or.inl ⟨hy, rfl⟩
  · rw [if_neg e1, if_neg (fun z => e1 (by rw [zclamp]; omega))]
    exact g2 j hj
theorem zs_alen (C : zCx p s m args meth c D cs A q) {a : Nat} (hd : decode q.2.2.1 pc = .ok (.arraylength, 1)) (ha : a < G.1) (h1 : 100 ≤ (G.2.2.1 a).1) (h2 : (G.2.2.1 a).1 ≤ 103) (hs : (G.2.2.1 a).2 < 2 ^ 31) (K : zGo p l e R s m args below meth c Q D cs A b n0 s0 ad0 q (pc + 1) L (vi ((G.2.2.1 a).2 : Int) :: S) G H) : zGo p l e R s m args below meth c Q D cs A b n0 s0 ad0 q pc L (.inr (.inr (.inl a)) :: S) G H := by
  intro ad ws Hr locs ls stk a1 a2 a3 hW hP hD hS hL hst
  obtain ⟨hx, hb, hml, hown, hts, hin, hK, hA⟩ := C
  obtain ⟨u, rfl, -, hst1⟩ := zSr hst
  have KK := K ad ws Hr locs ls _ a1 a2 a3 hW hP hD hS hL (zPi (nI_toInt hs) hst1)
  rcases (show (G.2.2.1 a).1 = 100 ∨ (G.2.2.1 a).1 = 101 ∨ (G.2.2.1 a).1 = 102 ∨ (G.2.2.1 a).1 = 103 by omega) with ht | ht | ht | ht
  · obtain ⟨f, g1, -⟩ := zWR_int hW ha ht
    exact va_alen (D := D) (tys := ztys cs) hx hb hK.1 hP a 0 g1 rfl rfl hd KK
  · obtain ⟨f, g1, -⟩ := zWR_boo hW ha ht
    exact va_alen (D := D) (tys := ztys cs) hx hb hK.1 hP a 1 g1 rfl rfl hd KK
  · obtain ⟨f, g1, -⟩ := zWR_bks hW ha ht
    exact va_alen (D := D) (tys := ztys cs) hx hb hK.1 hP a 2 g1 rfl rfl hd KK
  · obtain ⟨f, g1, -⟩ := zWR_row hW ha ht
    exact va_alen (D := D) (tys := ztys cs) hx hb hK.1 hP a 3 g1 rfl rfl hd KK
end ZHP
