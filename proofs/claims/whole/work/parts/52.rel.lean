/-! how class and model stand to each other -/
abbrev zCo : Type := Int × Int × Int × Int
def cok (P : Int) (c : zCo) : Prop := (0 ≤ c.1 ∧ c.1 < P) ∧ (0 ≤ c.2.1 ∧ c.2.1 < P) ∧ (1 ≤ c.2.2.1 ∧ c.2.2.1 ≤ 200) ∧ (1 ≤ c.2.2.2 ∧ c.2.2.2 ≤ 200 ∧ c.1 ≠ c.2.1)
def CB (H : zH) (o : Nat) (cs : List zCo) : Prop := H o 9 = (cs.length : Int) ∧ ∀ (k : Nat) (c : zCo), cs[k]? = some c → H (o + 3) k = c.1 ∧ H (o + 4) k = c.2.1 ∧ H (o + 5) k = c.2.2.1 ∧ H (o + 6) k = c.2.2.2
def RBk (a : Int → Int) (cs : List zCo) : Prop := a 12 = (cs.length : Int) ∧ ∀ (k : Nat) (c : zCo), cs[k]? = some c → a (13 + 4 * (k : Int)) = c.1 ∧ a (13 + 4 * (k : Int) + 1) = c.2.1 ∧ a (13 + 4 * (k : Int) + 2) = c.2.2.1 ∧ a (13 + 4 * (k : Int) + 3) = c.2.2.2
/-- a book of the class and a row of the model are the same books -/
def EB (P : Int) (H : zH) (o : Nat) (a : Int → Int) (cs : List zCo) : Prop := (cs.length ≤ 8 ∧ ∀ c ∈ cs, cok P c) ∧ CB H o cs ∧ RBk a cs ∧ (∀ p : Int, 0 ≤ p → p < 6 → H (o + 1) p = a p ∧ H (o + 2) p = a (6 + p)) ∧ sWok a ∧ H o 10 = a 45
def EBk (P : Int) (H : zH) (o : Nat) (a : Int → Int) : Prop := ∃ cs : List zCo, EB P H o a cs
/-- with marks -/
def wm (f : Int → Int) : Nat → List zCo → List zLn
  | _, [] => []
  | k, c :: r => (c.1, c.2.1, c.2.2.1, c.2.2.2, f (k : Int)) :: wm f (k + 1) r
theorem wm_len {f : Int → Int} : ∀ (k : Nat) (cs : List zCo), (wm f k cs).length = cs.length
  | k, [] => rfl
  | k, x :: r => by
    show (wm f (k + 1) r).length + 1 = r.length + 1
    rw [wm_len]
theorem wm_cor {f : Int → Int} : ∀ (k : Nat) (cs : List zCo), (wm f k cs).map cor = cs
  | k, [] => rfl
  | k, x :: r => by
    show cor _ :: (wm f (k + 1) r).map cor = x :: r
    rw [wm_cor]
    rfl
theorem wm_get {f : Int → Int} : ∀ (cs : List zCo) (k j : Nat), (wm f k cs)[j]? = (cs[j]?).map (fun x => (x.1, x.2.1, x.2.2.1, x.2.2.2, f ((k + j : Nat) : Int)))
  | [], k, j => by simp [wm]
  | x :: r, k, 0 => by simp [wm]
  | x :: r, k, j + 1 => by
    show (wm f (k + 1) r)[j]? = _
    rw [wm_get r (k + 1) j, show k + 1 + j = k + (j + 1) by omega]
    rfl
theorem wm_get' {f : Int → Int} {cs : List zCo} {j : Nat} {x : zLn} (h : (wm f 0 cs)[j]? = some x) : ∃ c, cs[j]? = some c ∧ x = (c.1, c.2.1, c.2.2.1, c.2.2.2, f (j : Int)) := by
  rw [wm_get] at h
  cases hc : cs[j]? with
  | none => rw [hc] at h; cases h
  | some c =>
    rw [hc] at h
    refine ⟨c, rfl, ?_⟩
    rw [Nat.zero_add] at h
    exact (Option.some.inj h).symm
theorem LA_of {H : zH} {o : Nat} {cs : List zCo} (h : CB H o cs) : LA H o (wm (H (o + 7)) 0 cs) := by
  refine ⟨by rw [wm_len]; exact h.1, fun k x hx => ?_⟩
  obtain ⟨c, hc, rfl⟩ := wm_get' hx
  obtain ⟨a1, a2, a3, a4⟩ := h.2 k c hc
  exact ⟨a1, a2, a3, a4, rfl⟩
theorem LM_of {a nm : Int → Int} {cs : List zCo} (h : RBk a cs) : LM a nm (wm nm 0 cs) := by
  refine ⟨by rw [wm_len]; exact h.1, fun k x hx => ?_⟩
  obtain ⟨c, hc, rfl⟩ := wm_get' hx
  obtain ⟨a1, a2, a3, a4⟩ := h.2 k c hc
  exact ⟨a1, a2, a3, a4, rfl⟩
theorem mapc_get {ls : List zLn} {k : Nat} {c : zCo} (h : (ls.map cor)[k]? = some c) : ∃ x, ls[k]? = some x ∧ c = cor x := by
  rw [List.getElem?_map] at h
  cases hx : ls[k]? with
  | none => rw [hx] at h; cases h
  | some x =>
    rw [hx] at h
    exact ⟨x, rfl, (Option.some.inj h).symm⟩
theorem CB_of {H : zH} {o : Nat} {ls : List zLn} (h : LA H o ls) : CB H o (ls.map cor) := by
  refine ⟨by rw [List.length_map]; exact h.1, fun k c hc => ?_⟩
  obtain ⟨x, hx, rfl⟩ := mapc_get hc
  obtain ⟨a1, a2, a3, a4, a5⟩ := h.2 k x hx
  exact ⟨a1, a2, a3, a4⟩
theorem RB_of {a nm : Int → Int} {ls : List zLn} (h : LM a nm ls) : RBk a (ls.map cor) := by
  refine ⟨by rw [List.length_map]; exact h.1, fun k c hc => ?_⟩
  obtain ⟨x, hx, rfl⟩ := mapc_get hc
  obtain ⟨a1, a2, a3, a4, a5⟩ := h.2 k x hx
  exact ⟨a1, a2, a3, a4⟩
theorem EBk_congr {P : Int} {H H' : zH} {o : Nat} {a a' : Int → Int} (hf : ∀ b, o ≤ b → b ≤ o + 6 → H' b = H b) (ha : ∀ i : Int, 0 ≤ i → i < 46 → a' i = a i) (h : EBk P H o a) : EBk P H' o a' := by
  obtain ⟨cs, ⟨h8, hc⟩, h1, h2, h3, h4, h5⟩ := h
  refine ⟨cs, ⟨h8, hc⟩, ⟨by rw [hf o (by omega) (by omega)]; exact h1.1, fun k c hk => ?_⟩, ⟨by rw [ha 12 (by omega) (by omega)]; exact h2.1, fun k c hk => ?_⟩, fun p p0 p1 => ?_, ?_, ?_⟩
  · rw [hf _ (by omega) (by omega), hf _ (by omega) (by omega), hf _ (by omega) (by omega), hf _ (by omega) (by omega)]
    exact h1.2 k c hk
  · have hl : k < cs.length := (List.getElem?_eq_some_iff.mp hk).1
    rw [ha _ (by omega) (by omega), ha _ (by omega) (by omega), ha _ (by omega) (by omega), ha _ (by omega) (by omega)]
    exact h2.2 k c hk
  · rw [hf _ (by omega) (by omega), hf _ (by omega) (by omega), ha _ (by omega) (by omega), ha _ (by omega) (by omega)]
    exact h3 p p0 p1
  · exact sWok_ag (fun p p0 p1 => ha p p0 (by omega)) h4
  · rw [hf _ (by omega) (by omega), ha _ (by omega) (by omega)]
    exact h5
/-- both are copied -/
theorem EBk_copy {P : Int} {H H' : zH} {o s : Nat} {a a' : Int → Int} (hf : cpB H s H' o) (ha : ∀ i : Int, 0 ≤ i → i < 46 → a' i = a i) (h : EBk P H s a) : EBk P H' o a' := by
  obtain ⟨cs, ⟨h8, hc⟩, h1, h2, h3, h4, h5⟩ := h
  obtain ⟨f1, f2, f3, f4⟩ := hf
  refine ⟨cs, ⟨h8, hc⟩, ⟨by rw [f3]; exact h1.1, fun k c hk => ?_⟩, ⟨by rw [ha 12 (by omega) (by omega)]; exact h2.1, fun k c hk => ?_⟩, fun p p0 p1 => ?_, ?_, ?_⟩
  · have hl : k < cs.length := (List.getElem?_eq_some_iff.mp hk).1
    obtain ⟨g1, g2, g3, g4⟩ := f2 k (by omega) (by omega)
    rw [g1, g2, g3, g4]
    exact h1.2 k c hk
  · have hl : k < cs.length := (List.getElem?_eq_some_iff.mp hk).1
    rw [ha _ (by omega) (by omega), ha _ (by omega) (by omega), ha _ (by omega) (by omega), ha _ (by omega) (by omega)]
    exact h2.2 k c hk
  · rw [(f1 p p0 p1).1, (f1 p p0 p1).2, ha _ (by omega) (by omega), ha _ (by omega) (by omega)]
    exact h3 p p0 p1
  · exact sWok_ag (fun p p0 p1 => ha p p0 (by omega)) h4
  · rw [f4, ha _ (by omega) (by omega)]
    exact h5
theorem bok_wm {P : Int} {w l q f : Int → Int} {cs : List zCo} (h8 : cs.length ≤ 8) (hc : ∀ c ∈ cs, cok P c) (hw : sWok w) (hf : mk8 f) : bok P ((w, l, q), wm f 0 cs) := by
  refine ⟨hw, by rw [wm_len]; exact h8, fun x hx => ?_⟩
  obtain ⟨j, hj, rfl⟩ := List.getElem_of_mem hx
  obtain ⟨c, hc', e⟩ := wm_get' (List.getElem?_eq_getElem hj)
  have hl : j < cs.length := (List.getElem?_eq_some_iff.mp hc').1
  obtain ⟨c1, c2, c3, c4⟩ := hc c (List.mem_of_getElem? hc')
  rw [e]
  exact ⟨⟨c1, c2, c3, hf j (by omega) (by omega)⟩, c4.1, c4.2.1⟩
theorem bok_cok {P : Int} {B : sB} (h : bok P B) (hne : ∀ x ∈ B.2, x.1 ≠ x.2.1) : (B.2.map cor).length ≤ 8 ∧ ∀ c ∈ B.2.map cor, cok P c := by
  refine ⟨by rw [List.length_map]; exact h.2.1, fun c hc => ?_⟩
  obtain ⟨x, hx, rfl⟩ := List.mem_map.mp hc
  obtain ⟨⟨c1, c2, c3, -⟩, c4⟩ := h.2.2 x hx
  exact ⟨c1, c2, c3, c4.1, c4.2, hne x hx⟩
/-! all of it -/
def tdOK (H : zH) (t : Nat) : Prop := (0 ≤ H 115 t ∧ H 115 t < H 3 1) ∧ H 138 (4 * (t : Int)) = H 115 t ∧ (1 ≤ H 138 (4 * (t : Int) + 1) ∧ H 138 (4 * (t : Int) + 1) ≤ 200) ∧ (1 ≤ H 138 (4 * (t : Int) + 2) ∧ H 138 (4 * (t : Int) + 2) ≤ 200) ∧ H 116 t = H 138 (4 * (t : Int) + 2) + zint (H 3 2) (H 138 (4 * (t : Int) + 1)) ∧ (H 117 t = 0 ∨ H 117 t = 1) ∧ H 138 (4 * (t : Int) + 3) = H 117 t
def SRt (H : zH) : Prop := tOK H ∧ (H 130 4 = H 3 1 ∧ H 130 6 = H 3 2 ∧ H 130 7 = H 3 3 ∧ H 130 8 = H 3 4) ∧ ∀ p : Int, 0 ≤ p → p < H 3 1 → H 133 p = H 4 p ∧ 1 ≤ H 4 p ∧ H 4 p ≤ 999
def SRx (H : zH) : Prop := (0 ≤ H 1 1 ∧ H 1 1 ≤ 300) ∧ H 130 2 = H 1 1 ∧ ∀ k : Int, 0 ≤ k → k < H 1 1 → H 131 k = H 2 k ∧ 0 ≤ H 2 k ∧ H 2 k ≤ 255
def SRb (H : zH) : Prop := EBk (H 3 1) H 7 (H 134) ∧ mk8 (H 14) ∧ nmok (H 139)
def SRd (G : zG) (H : zH) : Prop := ∃ n : Nat, n ≤ 6 ∧ H 38 1 = (n : Int) ∧ H 130 12 = (n : Int) ∧ ∀ k : Nat, k < n → EBk (H 3 1) H (zR G 39 k) (fun i => H 136 (46 * (k : Int) + i))
def SRk (H : zH) : Prop := ∃ n : Nat, n ≤ 2 ∧ H 94 1 = (n : Int) ∧ H 130 14 = (n : Int) ∧ ∀ k : Nat, k < n → EBk (H 3 1) H (96 + 9 * k) (fun i => H 137 (46 * (k : Int) + i))
def SRo (H : zH) : Prop := ∃ n : Nat, n ≤ 12 ∧ H 114 3 = (n : Int) ∧ H 130 16 = (n : Int) ∧ ∀ t : Nat, t < n → tdOK H t
def SR (G : zG) (H : zH) : Prop := zOK G ∧ SRt H ∧ SRx H ∧ SRb H ∧ SRd G H ∧ SRk H ∧ SRo H
/-- what the class leaves as it was, when it is asked -/
def ksC (H H' : zH) : Prop := (∀ b : Nat, (b = 2 ∨ b = 3 ∨ b = 4 ∨ (7 ≤ b ∧ b ≤ 15) ∨ (38 ≤ b ∧ b ≤ 117)) → H' b = H b) ∧ H' 1 1 = H 1 1 ∧ ∀ b : Nat, 130 ≤ b → H' b = H b
def ksM (H H' : zH) : Prop := (∀ b : Nat, b < 130 → H' b = H b) ∧ (H' 131 = H 131 ∧ H' 133 = H 133 ∧ H' 136 = H 136 ∧ H' 137 = H 137 ∧ H' 138 = H 138) ∧ (∀ i : Int, 0 ≤ i → i < 46 → H' 134 i = H 134 i) ∧ (∀ i : Int, i ≠ 0 → i ≠ 24 → i ≠ 25 → H' 130 i = H 130 i) ∧ nmok (H' 139)
theorem dcp {G : zG} (hG : zOK G) {k : Nat} (h : k < 6) : zR G 39 (k : Int) ∈ [40, 49, 58, 67, 76, 85] := hG.2.2.2.1 k (by omega) (by omega)
theorem dcp_rng {x : Nat} (h : x ∈ [40, 49, 58, 67, 76, 85]) : 40 ≤ x ∧ x ≤ 85 ∧ isBk x := by
  have e : ∀ x ∈ [40, 49, 58, 67, 76, 85], 40 ≤ x ∧ x ≤ 85 ∧ x ∈ [7, 18, 29, 40, 49, 58, 67, 76, 85, 96, 105] := by decide
  exact e x h
theorem SR_C {G : zG} {H H' : zH} (h : SR G H) (hk : ksC H H') : SR G H' := by
  obtain ⟨hG, ⟨t1, t2, t3⟩, ⟨x1, x2, x3⟩, ⟨b1, b2, b3⟩, ⟨dn, d0, d1, d2, d3⟩, ⟨kn, k0, k1, k2, k3⟩, ⟨on, o0, o1, o2, o3⟩⟩ := h
  obtain ⟨f, f1, fm⟩ := hk
  have e3 : H' 3 = H 3 := f 3 (by omega)
  have e130 : H' 130 = H 130 := fm 130 (by omega)
  refine ⟨hG, ⟨?_, ?_, ?_⟩, ⟨?_, ?_, ?_⟩, ⟨?_, ?_, ?_⟩, ⟨dn, d0, ?_, ?_, ?_⟩, ⟨kn, k0, ?_, ?_, ?_⟩, ⟨on, o0, ?_, ?_, ?_⟩⟩
  · unfold tOK at t1 ⊢
    rw [e3]
    exact t1
  · rw [e3, e130]
    exact t2
  · rw [e3, f 4 (by omega), fm 133 (by omega)]
    exact t3
  · rw [f1]
    exact x1
  · rw [f1, e130]
    exact x2
  · rw [f1, f 2 (by omega), fm 131 (by omega)]
    exact x3
  · rw [e3, fm 134 (by omega)]
    exact EBk_congr (fun b b0 b1 => f b (by omega)) (fun _ _ _ => rfl) b1
  · rw [f 14 (by omega)]
    exact b2
  · rw [fm 139 (by omega)]
    exact b3
  · rw [f 38 (by omega)]
    exact d1
  · rw [e130]
    exact d2
  · intro k hk
    have := dcp_rng (dcp hG (show k < 6 by omega))
    rw [e3, fm 136 (by omega)]
    exact EBk_congr (fun b b0 b1 => f b (by omega)) (fun _ _ _ => rfl) (d3 k hk)
  · rw [f 94 (by omega)]
    exact k1
  · rw [e130]
    exact k2
  · intro k hk
    rw [e3, fm 137 (by omega)]
    exact EBk_congr (fun b b0 b1 => f b (by omega)) (fun _ _ _ => rfl) (k3 k hk)
  · rw [f 114 (by omega)]
    exact o1
  · rw [e130]
    exact o2
  · intro t ht
    have := o3 t ht
    unfold tdOK at this ⊢
    rw [e3, f 115 (by omega), f 116 (by omega), f 117 (by omega), fm 138 (by omega)]
    exact this
theorem SR_M {G : zG} {H H' : zH} (h : SR G H) (hk : ksM H H') : SR G H' := by
  obtain ⟨hG, ⟨t1, t2, t3⟩, ⟨x1, x2, x3⟩, ⟨b1, b2, b3⟩, ⟨dn, d0, d1, d2, d3⟩, ⟨kn, k0, k1, k2, k3⟩, ⟨on, o0, o1, o2, o3⟩⟩ := h
  obtain ⟨f, ⟨f131, f133, f136, f137, f138⟩, f134, f130, fn⟩ := hk
  have e3 : H' 3 = H 3 := f 3 (by omega)
  refine ⟨hG, ⟨?_, ?_, ?_⟩, ⟨?_, ?_, ?_⟩, ⟨?_, ?_, fn⟩, ⟨dn, d0, ?_, ?_, ?_⟩, ⟨kn, k0, ?_, ?_, ?_⟩, ⟨on, o0, ?_, ?_, ?_⟩⟩
  · unfold tOK at t1 ⊢
    rw [e3]
    exact t1
  · rw [e3, f130 4 (by omega) (by omega) (by omega), f130 6 (by omega) (by omega) (by omega), f130 7 (by omega) (by omega) (by omega), f130 8 (by omega) (by omega) (by omega)]
    exact t2
  · rw [e3, f 4 (by omega), f133]
    exact t3
  · rw [f 1 (by omega)]
    exact x1
  · rw [f 1 (by omega), f130 2 (by omega) (by omega) (by omega)]
    exact x2
  · rw [f 1 (by omega), f 2 (by omega), f131]
    exact x3
  · rw [e3]
    exact EBk_congr (fun b b0 b1 => f b (by omega)) f134 b1
  · rw [f 14 (by omega)]
    exact b2
  · rw [f 38 (by omega)]
    exact d1
  · rw [f130 12 (by omega) (by omega) (by omega)]
    exact d2
  · intro k hk
    have := dcp_rng (dcp hG (show k < 6 by omega))
    rw [e3, f136]
    exact EBk_congr (fun b b0 b1 => f b (by omega)) (fun _ _ _ => rfl) (d3 k hk)
  · rw [f 94 (by omega)]
    exact k1
  · rw [f130 14 (by omega) (by omega) (by omega)]
    exact k2
  · intro k hk
    rw [e3, f137]
    exact EBk_congr (fun b b0 b1 => f b (by omega)) (fun _ _ _ => rfl) (k3 k hk)
  · rw [f 114 (by omega)]
    exact o1
  · rw [f130 16 (by omega) (by omega) (by omega)]
    exact o2
  · intro t ht
    have := o3 t ht
    unfold tdOK at this ⊢
    rw [e3, f 115 (by omega), f 116 (by omega), f 117 (by omega), f138]
    exact this
theorem ksC.rf {H : zH} : ksC H H := ⟨fun _ _ => rfl, rfl, fun _ _ => rfl⟩
theorem ksM.tr {H H1 H2 : zH} (h1 : ksM H H1) (h2 : ksM H1 H2) : ksM H H2 := by
  obtain ⟨a1, ⟨a2, a3, a4, a5, a6⟩, a7, a8, a9⟩ := h1
  obtain ⟨b1, ⟨b2, b3, b4, b5, b6⟩, b7, b8, b9⟩ := h2
  exact ⟨fun b hb => (b1 b hb).trans (a1 b hb), ⟨b2.trans a2, b3.trans a3, b4.trans a4, b5.trans a5, b6.trans a6⟩, fun i i0 i1 => (b7 i i0 i1).trans (a7 i i0 i1), fun i x y z => (b8 i x y z).trans (a8 i x y z), b9⟩
/-- one answer, and they stand so again -/
def simOp (qc qm : zM) (as : List zV) : Prop := ∀ (G : zG) (H : zH), SR G H → zCall qc (vr 0 :: as) G H (fun r G1 H1 => ∃ v : Int, r = some (vi v) ∧ zCall qm (vr 130 :: as) G1 H1 (fun r' G2 H2 => r' = some (vi v) ∧ SR G2 H2))
/-- the model's first deed: nothing thrown -/
def th0 (H : zH) : zH := zset H 130 (zfu (H 130) 0 0)
theorem th0_ks {H : zH} (hn : nmok (H 139)) : ksM H (th0 H) := by
  unfold th0
  refine ⟨fun b hb => zset_ne (by omega), ⟨zset_ne (by omega), zset_ne (by omega), zset_ne (by omega), zset_ne (by omega), zset_ne (by omega)⟩, fun i _ _ => by rw [zset_ne (by omega)], fun i h1 h2 h3 => ?_, ?_⟩
  · rw [zset_eq, zfu_at, if_neg h1]
  · rw [zset_ne (by omega)]
    exact hn
theorem SR_th {G : zG} {H : zH} (h : SR G H) : SR G (th0 H) := SR_M h (th0_ks h.2.2.2.1.2.2)
