/-! what the small machine's state says of the machine's: values, locals, stack, cells -/
def zVR (n : Nat) (ad : Nat → Nat) (b : Nat) : zV → Value → Prop
  | .inl z, v => ∃ x : Int32, v = .int x ∧ x.toInt = z
  | .inr (.inl z), v => ∃ x : Int64, v = .long x ∧ x.toInt = z
  | .inr (.inr (.inl k)), v => k < n ∧ v = .ref (ad k)
  | .inr (.inr (.inr u)), v => u = 1 ∧ v = .ref b
def zSR (n : Nat) (ad : Nat → Nat) (b : Nat) : List zV → List Value → Prop
  | [], t => t = []
  | v :: S, t => ∃ (x : Value) (t' : List Value), t = x :: t' ∧ zVR n ad b v x ∧ zSR n ad b S t'
def zLR (n : Nat) (ad : Nat → Nat) (b nL : Nat) (L : List zV) (ls : Array Slot) : Prop :=
  L.length = nL ∧ ∃ lv : List (Nat × Value), lv_has ls nL lv ∧ ∀ (j : Nat) (v : zV), L[j]? = some v → v ≠ vu → ∃ x : Value, zVR n ad b v x ∧ (j, x) ∈ lv
def zRV (n : Nat) (ad : Nat → Nat) (r : Nat) (v : Value) : Prop := (r < n ∧ v = .ref (ad r)) ∨ (r = znul ∧ v = .null)
def zFV (ad : Nat → Nat) (G : zG) (H : zH) (t k j : Nat) (v : Value) : Prop := (zrf t j = true ∧ zRV G.1 ad (G.2.2.2 k (j : Int)) v) ∨ (zrf t j = false ∧ ∃ x : Int32, v = .int x ∧ x.toInt = H k (j : Int))
abbrev zCs : Type := ClassId × ClassId × ClassId × ClassId
def ztys (cs : zCs) : List (ClassId × FieldType) := [(cs.1, .int), (cs.2.1, .boolean), (cs.2.2.1, .object RX0), (cs.2.2.2, .array .int)]
def zCR (cs : zCs) (ad : Nat → Nat) (G : zG) (H : zH) (k : Nat) (e : va_E) : Prop :=
  ((G.2.2.1 k).1 < 10 ∧ (G.2.2.1 k).2 = zNN (G.2.2.1 k).1 ∧ ∃ fs : List Value, e = .inr ((G.2.2.1 k).1, fs) ∧ fs.length = (G.2.2.1 k).2 ∧ ∀ (j : Nat) (v : Value), fs[j]? = some v → zFV ad G H (G.2.2.1 k).1 k j v) ∨
  ((G.2.2.1 k).1 = 100 ∧ ∃ f : Nat → Int32, e = .inl (cs.1, (G.2.2.1 k).2, .inl f) ∧ ∀ j : Nat, j < (G.2.2.1 k).2 → (f j).toInt = H k (j : Int)) ∨
  ((G.2.2.1 k).1 = 101 ∧ ∃ f : Nat → Int32, e = .inl (cs.2.1, (G.2.2.1 k).2, .inl f) ∧ ∀ j : Nat, j < (G.2.2.1 k).2 → (f j).toInt = H k (j : Int)) ∨
  ((G.2.2.1 k).1 = 102 ∧ ∃ f : Nat → Option Nat, e = .inl (cs.2.2.1, (G.2.2.1 k).2, .inr (.inr (.inr (.inr f)))) ∧ ∀ j : Nat, j < (G.2.2.1 k).2 → zRV G.1 ad (G.2.2.2 k (j : Int)) (va_rf (f j))) ∨
  ((G.2.2.1 k).1 = 103 ∧ ∃ f : Nat → Option Nat, e = .inl (cs.2.2.2, (G.2.2.1 k).2, .inr (.inr (.inr (.inr f)))) ∧ ∀ j : Nat, j < (G.2.2.1 k).2 → zRV G.1 ad (G.2.2.2 k (j : Int)) (va_rf (f j)))
def zWR (cs : zCs) (G : zG) (H : zH) (ad : Nat → Nat) (ws : va_W) : Prop := ws.length = G.1 ∧ G.1 ≤ znul ∧ ∀ k : Nat, k < G.1 → ∃ e : va_E, ws[k]? = some (ad k, e) ∧ zCR cs ad G H k e
/-- an array over arrays, as the tables say it -/
def zAOA (t : FieldType) (U : State) : Prop := (Cond.arrayOver (.array t)).before #[] U = true
def zKn (D : va_G) (cs : zCs) (U : State) : Prop := va_K D vwCl (ztys cs) U ∧ (∀ q ∈ znst, va_Nw (.methodLinkNest q.1 q.2.1 q.2.2.1 q.2.2.2) U) ∧ va_AO RX0 U ∧ zAOA .int U
/-- what is known in a body -/
def zCx (p : Program) (s : State) (m : MethodId) (args : Array Value) (meth : Method) (c : Code) (D : va_G) (cs : zCs) (A : Nat → Prop) (q : zM) : Prop :=
  p.tables.exec = Jvm.exec ∧ c.code = q.2.2.1 ∧ c.maxLocals = q.2.2.2.1 ∧ s.vm.findClass (zcn q.1) = some m.cls ∧ (∀ w ∈ zTB, w.before args s = true) ∧ (q.2.1.name = "<init>" → meth.name = "<init>") ∧ zKn D cs s ∧ (∀ x : Nat, s.heap.size ≤ x → A x)
def zSc (s : State) (A : Nat → Prop) (b : Nat) (o : Option (Nat × (Int → Int))) : Prop := ∀ x, o = some x → ∃ xs : Nat → Int32, va_X b x.1 xs s s.heap ∧ b < s.heap.size ∧ ¬ A b ∧ x.1 < 2 ^ 31 ∧ ∀ j : Nat, j < x.1 → (xs j).toInt = x.2 (j : Int)
def zGo (p : Program) (l : Launch) (e : Env) (R : Room) (s : State) (m : MethodId) (args : Array Value) (below : List Frame) (meth : Method) (c : Code) (Q : State → Prop) (D : va_G) (cs : zCs) (A : Nat → Prop) (b n0 s0 : Nat) (ad0 : Nat → Nat) (q : zM) (pc : Nat) (L S : List zV) (G : zG) (H : zH) : Prop :=
  ∀ (ad : Nat → Nat) (ws : va_W) (Hr : Heap) (locs : List Loc) (ls : Array Slot) (stk : List Value), (∀ k, k < n0 → ad k = ad0 k) → n0 ≤ G.1 → s0 ≤ G.2.1 → zWR cs G H ad ws → va_P D vwCl ws Hr → va_D A ws → va_S A s.heap Hr locs → zLR G.1 ad b q.2.2.2.1 L ls → zSR G.1 ad b S stk →
    W p l e R s m args below meth c Hr locs (G.1 - n0) (G.2.1 - s0) Q (F0 m pc ls stk)
theorem zVR_mono {n n' : Nat} {ad ad' : Nat → Nat} {b : Nat} (hn : n ≤ n') (ha : ∀ k, k < n → ad' k = ad k) {v : zV} {x : Value} (h : zVR n ad b v x) : zVR n' ad' b v x := by
  match v, h with
  | .inl z, h => exact h
  | .inr (.inl z), h => exact h
  | .inr (.inr (.inl k)), h => exact ⟨Nat.lt_of_lt_of_le h.1 hn, by rw [ha k h.1]; exact h.2⟩
  | .inr (.inr (.inr u)), h => exact h
theorem zSR_mono {n n' : Nat} {ad ad' : Nat → Nat} {b : Nat} (hn : n ≤ n') (ha : ∀ k, k < n → ad' k = ad k) : ∀ {S : List zV} {t : List Value}, zSR n ad b S t → zSR n' ad' b S t
  | [], t, h => h
  | v :: S, t, ⟨x, t', e, hv, hS⟩ => ⟨x, t', e, zVR_mono hn ha hv, zSR_mono hn ha hS⟩
theorem zLR_mono {n n' : Nat} {ad ad' : Nat → Nat} {b nL : Nat} (hn : n ≤ n') (ha : ∀ k, k < n → ad' k = ad k) {L : List zV} {ls : Array Slot} (h : zLR n ad b nL L ls) : zLR n' ad' b nL L ls := by
  obtain ⟨h1, lv, h2, h3⟩ := h
  refine ⟨h1, lv, h2, fun j v hj hv => ?_⟩
  obtain ⟨x, hx, hm⟩ := h3 j v hj hv
  exact ⟨x, zVR_mono hn ha hx, hm⟩
theorem zLR_at {n : Nat} {ad : Nat → Nat} {b nL : Nat} {L : List zV} {ls : Array Slot} (h : zLR n ad b nL L ls) {i : Nat} {v : zV} (hi : L[i]? = some v) (hv : v ≠ vu) : ∃ x : Value, zVR n ad b v x ∧ ls[i]? = some (.val x) := by
  obtain ⟨-, lv, h2, h3⟩ := h
  obtain ⟨x, hx, hm⟩ := h3 i v hi hv
  exact ⟨x, hx, h2.2.2 _ hm⟩
theorem zVR_cat {n : Nat} {ad : Nat → Nat} {b : Nat} {v : zV} {x : Value} (h : zVR n ad b v x) (hc : x.category = 2) : ∃ z, v = .inr (.inl z) := by
  match v, h with
  | .inl z, ⟨y, e, _⟩ => rw [e] at hc; simp [Value.category] at hc
  | .inr (.inl z), h => exact ⟨z, rfl⟩
  | .inr (.inr (.inl k)), h => rw [h.2] at hc; simp [Value.category] at hc
  | .inr (.inr (.inr u)), h => rw [h.2] at hc; simp [Value.category] at hc
/-- a store of one slot -/
theorem zLR_set {n : Nat} {ad : Nat → Nat} {b nL i : Nat} {L : List zV} {lv lv' : List (Nat × Value)} {v : zV} {x : Value} {ls' : Array Slot} (h1 : L.length = nL) (h3 : ∀ (j : Nat) (v : zV), L[j]? = some v → v ≠ vu → ∃ x : Value, zVR n ad b v x ∧ (j, x) ∈ lv)
    (hnl : znl L i = true) (hv : zVR n ad b v x) (he : (i, x) :: lv.filter (fun q => !(q.1 == i) && !(q.1 + 1 == i && q.2.category == 2)) = lv') (h' : lv_has ls' nL lv') : zLR n ad b nL (L.set i v) ls' := by
  refine ⟨by rw [List.length_set]; exact h1, lv', h', fun j w hj hw => ?_⟩
  rw [List.getElem?_set] at hj
  by_cases e : i = j
  · rw [if_pos e] at hj
    split at hj
    · cases hj
      subst e
      exact ⟨x, hv, by rw [← he]; exact List.mem_cons_self⟩
    · cases hj
  · rw [if_neg e] at hj
    obtain ⟨y, hy, hm⟩ := h3 j w hj hw
    refine ⟨y, hy, ?_⟩
    rw [← he]
    refine List.mem_cons_of_mem _ (List.mem_filter.mpr ⟨hm, ?_⟩)
    have e1 : ¬ j = i := fun q => e q.symm
    by_cases c1 : j + 1 = i
    · subst c1
      by_cases c2 : y.category = 2
      · obtain ⟨z, rfl⟩ := zVR_cat hy c2
        simp [znl, hj] at hnl
      · simp [c2]
    · simp [e1, c1]
/-- a store of two slots -/
theorem zLR_set2 {n : Nat} {ad : Nat → Nat} {b nL i : Nat} {L : List zV} {lv lv' : List (Nat × Value)} {v : zV} {x : Value} {ls' : Array Slot} (h1 : L.length = nL) (h3 : ∀ (j : Nat) (v : zV), L[j]? = some v → v ≠ vu → ∃ x : Value, zVR n ad b v x ∧ (j, x) ∈ lv)
    (hnl : znl L i = true) (hv : zVR n ad b v x) (he : (i, x) :: lv.filter (fun q => !(q.1 == i) && (!(q.1 == i + 1) && !(q.1 + 1 == i && q.2.category == 2))) = lv') (h' : lv_has ls' nL lv') : zLR n ad b nL ((L.set i v).set (i + 1) vu) ls' := by
  refine ⟨by rw [List.length_set, List.length_set]; exact h1, lv', h', fun j w hj hw => ?_⟩
  rw [List.getElem?_set] at hj
  by_cases e2 : i + 1 = j
  · rw [if_pos e2] at hj
    split at hj
    · cases hj
      exact absurd rfl hw
    · cases hj
  · rw [if_neg e2, List.getElem?_set] at hj
    by_cases e : i = j
    · rw [if_pos e] at hj
      split at hj
      · cases hj
        subst e
        exact ⟨x, hv, by rw [← he]; exact List.mem_cons_self⟩
      · cases hj
    · rw [if_neg e] at hj
      obtain ⟨y, hy, hm⟩ := h3 j w hj hw
      refine ⟨y, hy, ?_⟩
      rw [← he]
      refine List.mem_cons_of_mem _ (List.mem_filter.mpr ⟨hm, ?_⟩)
      have e1 : ¬ j = i := fun q => e q.symm
      have e3 : ¬ j = i + 1 := fun q => e2 q.symm
      by_cases c1 : j + 1 = i
      · subst c1
        by_cases c2 : y.category = 2
        · obtain ⟨z, rfl⟩ := zVR_cat hy c2
          simp [znl, hj] at hnl
        · simp [c2]
          omega
      · simp [e1, e3, c1]
theorem zof32 {x : Int32} {z : Int} (h : x.toInt = z) : Int32.ofInt z = x := by rw [← h]; exact Int32.ofInt_toInt x
theorem zof64 {x : Int64} {z : Int} (h : x.toInt = z) : Int64.ofInt z = x := by rw [← h]; exact Int64.ofInt_toInt x
theorem zw_add (x y : Int32) : (x + y).toInt = zw (x.toInt + y.toInt) := Int32.toInt_add x y
theorem zw_sub (x y : Int32) : (x - y).toInt = zw (x.toInt - y.toInt) := Int32.toInt_sub x y
theorem zw_mul (x y : Int32) : (x * y).toInt = zw (x.toInt * y.toInt) := Int32.toInt_mul x y
theorem zwl_add (x y : Int64) : (x + y).toInt = zwl (x.toInt + y.toInt) := Int64.toInt_add x y
theorem zwl_mul (x y : Int64) : (x * y).toInt = zwl (x.toInt * y.toInt) := Int64.toInt_mul x y
theorem zl2i (x : Int64) : x.toInt32.toInt = zw x.toInt := Int64.toInt_toInt32 x
theorem zi2l (x : Int32) : x.toInt64.toInt = x.toInt := Int32.toInt_toInt64 x
theorem zclamp (x : Int32) : x.toNatClampNeg = x.toInt.toNat := rfl
theorem zif_some {b : Bool} {x : Option zO} {y : zO} (h : zif b x = some y) : b = true ∧ x = some y := by
  cases b with
  | true => exact ⟨rfl, h⟩
  | false => simp [zif] at h
theorem zgo_some {pc pc' : Nat} {L S L' S' : List zV} {G G' : zG} {H H' : zH} (h : zgo pc L S G H = some (.inl (pc', L', S', G', H'))) : pc = pc' ∧ L = L' ∧ S = S' ∧ G = G' ∧ H = H' := by
  unfold zgo at h
  have h := Sum.inl.inj (Option.some.inj h)
  injection h with h1 h2
  injection h2 with h2 h3
  injection h3 with h3 h4
  injection h4 with h4 h5
  exact ⟨h1, h2, h3, h4, h5⟩
theorem zAOA_moved {t : FieldType} {u U : State} (hvm : u.vm.Alike U.vm) (h : zAOA t u) : zAOA t U := by
  unfold zAOA at h ⊢
  obtain ⟨comp, c, k, h1, h2, h3, h4, h5⟩ := arrayOverA_spec h
  obtain ⟨k', hk', he⟩ := hvm.2.2 _ _ h3
  have hb : U.vm.bare = u.vm.bare := by first | exact hvm.bare_eq | exact hvm.bare_eq.symm
  have h0 := va_idx_bare U.vm comp
  have h9 := va_idx_bare u.vm comp
  rw [hb] at h0
  have hi := h0.symm.trans (h9.trans h2)
  have hkind : k'.kind = .array comp (.array t) := by rw [he]; exact h4
  have f1 : U.vm.findClass (FieldType.array t).toString = some comp := by rw [hvm.findClass]; exact h1
  have f2 : U.vm.findClass ("[" ++ (FieldType.array t).toString) = some c := by rw [hvm.findClass]; exact h5
  unfold Cond.before Cond.holds
  simp only [Cond.value]
  rw [f1, Option.bind_some]
  refine (congrArg (fun o : Option Nat => (o.bind (fun c => (U.vm.classes[c]?).map fun (k : Class) => match k.kind with | .array _ ty => decide (ty = FieldType.array t) && decide (U.vm.findClass ("[" ++ (FieldType.array t).toString) = some c) | _ => false) == some true)) hi).trans ?_
  simp [hk', hkind, f2]
