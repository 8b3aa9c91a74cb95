/-! each instruction of the small machine is the machine's -/
theorem zt32 {z : Int} (h1 : -2147483648 ≤ z) (h2 : z ≤ 2147483647) : (Int32.ofInt z).toInt = z := by
  rw [Int32.toInt_ofInt]
  simp only [Int.bmod, Int32.size]
  split <;> omega
theorem zt64 {z : Int} (h1 : -9223372036854775808 ≤ z) (h2 : z ≤ 9223372036854775807) : (Int64.ofInt z).toInt = z := by
  rw [Int64.toInt_ofInt]
  simp only [Int.bmod, Int64.size]
  split <;> omega
theorem zt8 {z : Int} (h1 : -128 ≤ z) (h2 : z ≤ 127) : (Int8.ofInt z).toInt32.toInt = z := by
  rw [Int8.toInt_toInt32, Int8.toInt_ofInt]
  simp only [Int.bmod, Int8.size]
  split <;> omega
theorem zt16 {z : Int} (h1 : -32768 ≤ z) (h2 : z ≤ 32767) : (Int16.ofInt z).toInt32.toInt = z := by
  rw [Int16.toInt_toInt32, Int16.toInt_ofInt]
  simp only [Int.bmod, Int16.size]
  split <;> omega
theorem zS1 {n : Nat} {ad : Nat → Nat} {b : Nat} {v : zV} {S : List zV} {stk : List Value} (h : zSR n ad b (v :: S) stk) : ∃ (x : Value) (t : List Value), stk = x :: t ∧ zVR n ad b v x ∧ zSR n ad b S t := h
theorem zSi {n : Nat} {ad : Nat → Nat} {b : Nat} {z : Int} {S : List zV} {stk : List Value} (h : zSR n ad b (.inl z :: S) stk) : ∃ (x : Int32) (t : List Value), stk = .int x :: t ∧ x.toInt = z ∧ zSR n ad b S t := by
  obtain ⟨y, t, rfl, ⟨x, rfl, hx⟩, hS⟩ := h
  exact ⟨x, t, rfl, hx, hS⟩
theorem zSl {n : Nat} {ad : Nat → Nat} {b : Nat} {z : Int} {S : List zV} {stk : List Value} (h : zSR n ad b (.inr (.inl z) :: S) stk) : ∃ (x : Int64) (t : List Value), stk = .long x :: t ∧ x.toInt = z ∧ zSR n ad b S t := by
  obtain ⟨y, t, rfl, ⟨x, rfl, hx⟩, hS⟩ := h
  exact ⟨x, t, rfl, hx, hS⟩
theorem zSr {n : Nat} {ad : Nat → Nat} {b : Nat} {k : Nat} {S : List zV} {stk : List Value} (h : zSR n ad b (.inr (.inr (.inl k)) :: S) stk) : ∃ (t : List Value), stk = .ref (ad k) :: t ∧ k < n ∧ zSR n ad b S t := by
  obtain ⟨y, t, rfl, ⟨hk, rfl⟩, hS⟩ := h
  exact ⟨t, rfl, hk, hS⟩
theorem zSx {n : Nat} {ad : Nat → Nat} {b : Nat} {k : Nat} {S : List zV} {stk : List Value} (h : zSR n ad b (.inr (.inr (.inr k)) :: S) stk) : ∃ (t : List Value), stk = .ref b :: t ∧ k = 1 ∧ zSR n ad b S t := by
  obtain ⟨y, t, rfl, ⟨hk, rfl⟩, hS⟩ := h
  exact ⟨t, rfl, hk, hS⟩
theorem zPi {n : Nat} {ad : Nat → Nat} {b : Nat} {z : Int} {x : Int32} {S : List zV} {t : List Value} (hx : x.toInt = z) (h : zSR n ad b S t) : zSR n ad b (.inl z :: S) (.int x :: t) := ⟨_, _, rfl, ⟨x, rfl, hx⟩, h⟩
theorem zPl {n : Nat} {ad : Nat → Nat} {b : Nat} {z : Int} {x : Int64} {S : List zV} {t : List Value} (hx : x.toInt = z) (h : zSR n ad b S t) : zSR n ad b (.inr (.inl z) :: S) (.long x :: t) := ⟨_, _, rfl, ⟨x, rfl, hx⟩, h⟩
theorem zPr {n : Nat} {ad : Nat → Nat} {b : Nat} {k : Nat} {S : List zV} {t : List Value} (hx : k < n) (h : zSR n ad b S t) : zSR n ad b (.inr (.inr (.inl k)) :: S) (.ref (ad k) :: t) := ⟨_, _, rfl, ⟨hx, rfl⟩, h⟩
section ZOPS
variable {p : Program} {l : Launch} {e : Env} {R : Room} {s : State} {m : MethodId} {args : Array Value} {below : List Frame} {meth : Method} {c : Code} {Q : State → Prop} {D : va_G} {cs : zCs} {A : Nat → Prop} {b n0 s0 : Nat} {ad0 : Nat → Nat} {q : zM} {pc : Nat} {L S : List zV} {G : zG} {H : zH}
theorem zs_iconst (C : zCx p s m args meth c D cs A q) {n : Int} (hd : decode q.2.2.1 pc = .ok (.iconst n, 1)) (h1 : -1 ≤ n) (h2 : n ≤ 5) (k : zGo p l e R s m args below meth c Q D cs A b n0 s0 ad0 q (pc + 1) L (vi n :: S) G H) : zGo p l e R s m args below meth c Q D cs A b n0 s0 ad0 q pc L S G H := by
  intro ad ws Hr locs ls stk a1 a2 a3 hW hP hD hS hL hst
  obtain ⟨hx, hb, hml, hown, hts, hin, hK, hA⟩ := C
  exact lv_iconst hx hb hd rfl (k ad ws Hr locs ls _ a1 a2 a3 hW hP hD hS hL (zPi (zt32 (by omega) (by omega)) hst))
theorem zs_bipush (C : zCx p s m args meth c D cs A q) {n : Int} (hd : decode q.2.2.1 pc = .ok (.bipush n, 2)) (h1 : -128 ≤ n) (h2 : n ≤ 127) (k : zGo p l e R s m args below meth c Q D cs A b n0 s0 ad0 q (pc + 2) L (vi n :: S) G H) : zGo p l e R s m args below meth c Q D cs A b n0 s0 ad0 q pc L S G H := by
  intro ad ws Hr locs ls stk a1 a2 a3 hW hP hD hS hL hst
  obtain ⟨hx, hb, hml, hown, hts, hin, hK, hA⟩ := C
  exact lv_bipush hx hb hd rfl (k ad ws Hr locs ls _ a1 a2 a3 hW hP hD hS hL (zPi (zt8 h1 h2) hst))
theorem zs_sipush (C : zCx p s m args meth c D cs A q) {n : Int} (hd : decode q.2.2.1 pc = .ok (.sipush n, 3)) (h1 : -32768 ≤ n) (h2 : n ≤ 32767) (k : zGo p l e R s m args below meth c Q D cs A b n0 s0 ad0 q (pc + 3) L (vi n :: S) G H) : zGo p l e R s m args below meth c Q D cs A b n0 s0 ad0 q pc L S G H := by
  intro ad ws Hr locs ls stk a1 a2 a3 hW hP hD hS hL hst
  obtain ⟨hx, hb, hml, hown, hts, hin, hK, hA⟩ := C
  exact lv_sipush hx hb hd rfl (k ad ws Hr locs ls _ a1 a2 a3 hW hP hD hS hL (zPi (zt16 h1 h2) hst))
theorem zs_lconst (C : zCx p s m args meth c D cs A q) {n : Fin 2} (hd : decode q.2.2.1 pc = .ok (.lconst n, 1)) (k : zGo p l e R s m args below meth c Q D cs A b n0 s0 ad0 q (pc + 1) L (vl (n.val : Int) :: S) G H) : zGo p l e R s m args below meth c Q D cs A b n0 s0 ad0 q pc L S G H := by
  intro ad ws Hr locs ls stk a1 a2 a3 hW hP hD hS hL hst
  obtain ⟨hx, hb, hml, hown, hts, hin, hK, hA⟩ := C
  refine lv_lconst hx hb hd rfl (k ad ws Hr locs ls _ a1 a2 a3 hW hP hD hS hL (zPl ?_ hst))
  exact (by decide : ∀ n : Fin 2, (Int64.ofNat n.val).toInt = (n.val : Int)) n
theorem zs_ldc (C : zCx p s m args meth c D cs A q) {i : Nat} {z : Int} (hd : decode q.2.2.1 pc = .ok (.ldc i, 2)) (hz : zki q.1 i = some z) (k : zGo p l e R s m args below meth c Q D cs A b n0 s0 ad0 q (pc + 2) L (vi z :: S) G H) : zGo p l e R s m args below meth c Q D cs A b n0 s0 ad0 q pc L S G H := by
  intro ad ws Hr locs ls stk a1 a2 a3 hW hP hD hS hL hst
  obtain ⟨hx, hb, hml, hown, hts, hin, hK, hA⟩ := C
  obtain ⟨⟨h1, h2⟩, h3⟩ := zki_ok hz
  exact lv_ldc hx hb hown (hts _ (zTB_of h3 rfl)) hd (k ad ws Hr locs ls _ a1 a2 a3 hW hP hD hS hL (zPi (zt32 h1 h2) hst))
theorem zs_ldc2 (C : zCx p s m args meth c D cs A q) {i : Nat} {z : Int} (hd : decode q.2.2.1 pc = .ok (.ldc2_w i, 3)) (hz : zkl q.1 i = some z) (k : zGo p l e R s m args below meth c Q D cs A b n0 s0 ad0 q (pc + 3) L (vl z :: S) G H) : zGo p l e R s m args below meth c Q D cs A b n0 s0 ad0 q pc L S G H := by
  intro ad ws Hr locs ls stk a1 a2 a3 hW hP hD hS hL hst
  obtain ⟨hx, hb, hml, hown, hts, hin, hK, hA⟩ := C
  obtain ⟨⟨h1, h2⟩, h3⟩ := zkl_ok hz
  exact lv_ldc2 hx hb hown (hts _ (zTB_of h3 rfl)) hd (k ad ws Hr locs ls _ a1 a2 a3 hW hP hD hS hL (zPl (zt64 h1 h2) hst))
theorem zs_iload_n (C : zCx p s m args meth c D cs A q) {i : Fin 4} {z : Int} (hd : decode q.2.2.1 pc = .ok (.iload_n i, 1)) (hi : L[i.val]? = some (.inl z)) (k : zGo p l e R s m args below meth c Q D cs A b n0 s0 ad0 q (pc + 1) L (vi z :: S) G H) : zGo p l e R s m args below meth c Q D cs A b n0 s0 ad0 q pc L S G H := by
  intro ad ws Hr locs ls stk a1 a2 a3 hW hP hD hS hL hst
  obtain ⟨hx, hb, hml, hown, hts, hin, hK, hA⟩ := C
  obtain ⟨_, ⟨x, rfl, hz⟩, h1⟩ := zLR_at hL hi (fun h => by cases h)
  exact lv_iload_n hx hb hd rfl h1 (k ad ws Hr locs ls _ a1 a2 a3 hW hP hD hS hL (zPi hz hst))
theorem zs_iload (C : zCx p s m args meth c D cs A q) {i : Nat} {z : Int} (hd : decode q.2.2.1 pc = .ok (.iload i, 2)) (hi : L[i]? = some (.inl z)) (k : zGo p l e R s m args below meth c Q D cs A b n0 s0 ad0 q (pc + 2) L (vi z :: S) G H) : zGo p l e R s m args below meth c Q D cs A b n0 s0 ad0 q pc L S G H := by
  intro ad ws Hr locs ls stk a1 a2 a3 hW hP hD hS hL hst
  obtain ⟨hx, hb, hml, hown, hts, hin, hK, hA⟩ := C
  obtain ⟨_, ⟨x, rfl, hz⟩, h1⟩ := zLR_at hL hi (fun h => by cases h)
  exact lv_iload hx hb hd h1 (k ad ws Hr locs ls _ a1 a2 a3 hW hP hD hS hL (zPi hz hst))
theorem zs_lload_n (C : zCx p s m args meth c D cs A q) {i : Fin 4} {z : Int} (hd : decode q.2.2.1 pc = .ok (.lload_n i, 1)) (hi : L[i.val]? = some (.inr (.inl z))) (k : zGo p l e R s m args below meth c Q D cs A b n0 s0 ad0 q (pc + 1) L (vl z :: S) G H) : zGo p l e R s m args below meth c Q D cs A b n0 s0 ad0 q pc L S G H := by
  intro ad ws Hr locs ls stk a1 a2 a3 hW hP hD hS hL hst
  obtain ⟨hx, hb, hml, hown, hts, hin, hK, hA⟩ := C
  obtain ⟨_, ⟨x, rfl, hz⟩, h1⟩ := zLR_at hL hi (fun h => by cases h)
  exact lv_lload_n hx hb hd rfl h1 (k ad ws Hr locs ls _ a1 a2 a3 hW hP hD hS hL (zPl hz hst))
theorem zs_aload_n (C : zCx p s m args meth c D cs A q) {i : Fin 4} {z : Nat} (hd : decode q.2.2.1 pc = .ok (.aload_n i, 1)) (hi : L[i.val]? = some (.inr (.inr (.inl z)))) (k : zGo p l e R s m args below meth c Q D cs A b n0 s0 ad0 q (pc + 1) L (vr z :: S) G H) : zGo p l e R s m args below meth c Q D cs A b n0 s0 ad0 q pc L S G H := by
  intro ad ws Hr locs ls stk a1 a2 a3 hW hP hD hS hL hst
  obtain ⟨hx, hb, hml, hown, hts, hin, hK, hA⟩ := C
  obtain ⟨_, ⟨hz, rfl⟩, h1⟩ := zLR_at hL hi (fun h => by cases h)
  exact lv_aload_n hx hb hd rfl h1 (k ad ws Hr locs ls _ a1 a2 a3 hW hP hD hS hL (zPr hz hst))
theorem zs_aload (C : zCx p s m args meth c D cs A q) {i : Nat} {z : Nat} (hd : decode q.2.2.1 pc = .ok (.aload i, 2)) (hi : L[i]? = some (.inr (.inr (.inl z)))) (k : zGo p l e R s m args below meth c Q D cs A b n0 s0 ad0 q (pc + 2) L (vr z :: S) G H) : zGo p l e R s m args below meth c Q D cs A b n0 s0 ad0 q pc L S G H := by
  intro ad ws Hr locs ls stk a1 a2 a3 hW hP hD hS hL hst
  obtain ⟨hx, hb, hml, hown, hts, hin, hK, hA⟩ := C
  obtain ⟨_, ⟨hz, rfl⟩, h1⟩ := zLR_at hL hi (fun h => by cases h)
  exact lv_aload hx hb hd h1 (k ad ws Hr locs ls _ a1 a2 a3 hW hP hD hS hL (zPr hz hst))
theorem zs_aload_nx (C : zCx p s m args meth c D cs A q) {i : Fin 4} (hd : decode q.2.2.1 pc = .ok (.aload_n i, 1)) (hi : L[i.val]? = some (.inr (.inr (.inr 1)))) (k : zGo p l e R s m args below meth c Q D cs A b n0 s0 ad0 q (pc + 1) L (vx :: S) G H) : zGo p l e R s m args below meth c Q D cs A b n0 s0 ad0 q pc L S G H := by
  intro ad ws Hr locs ls stk a1 a2 a3 hW hP hD hS hL hst
  obtain ⟨hx, hb, hml, hown, hts, hin, hK, hA⟩ := C
  obtain ⟨_, ⟨hz, rfl⟩, h1⟩ := zLR_at hL hi (fun h => by cases h)
  exact lv_aload_n hx hb hd rfl h1 (k ad ws Hr locs ls _ a1 a2 a3 hW hP hD hS hL ⟨_, _, rfl, ⟨rfl, rfl⟩, hst⟩)
theorem zs_aloadx (C : zCx p s m args meth c D cs A q) {i : Nat} (hd : decode q.2.2.1 pc = .ok (.aload i, 2)) (hi : L[i]? = some (.inr (.inr (.inr 1)))) (k : zGo p l e R s m args below meth c Q D cs A b n0 s0 ad0 q (pc + 2) L (vx :: S) G H) : zGo p l e R s m args below meth c Q D cs A b n0 s0 ad0 q pc L S G H := by
  intro ad ws Hr locs ls stk a1 a2 a3 hW hP hD hS hL hst
  obtain ⟨hx, hb, hml, hown, hts, hin, hK, hA⟩ := C
  obtain ⟨_, ⟨hz, rfl⟩, h1⟩ := zLR_at hL hi (fun h => by cases h)
  exact lv_aload hx hb hd h1 (k ad ws Hr locs ls _ a1 a2 a3 hW hP hD hS hL ⟨_, _, rfl, ⟨rfl, rfl⟩, hst⟩)
theorem zs_istore_n (C : zCx p s m args meth c D cs A q) {i : Fin 4} {z : Int} (hd : decode q.2.2.1 pc = .ok (.istore_n i, 1)) (hi : i.val < L.length) (hn : znl L i.val = true) (k : zGo p l e R s m args below meth c Q D cs A b n0 s0 ad0 q (pc + 1) (L.set i.val (vi z)) S G H) : zGo p l e R s m args below meth c Q D cs A b n0 s0 ad0 q pc L (.inl z :: S) G H := by
  intro ad ws Hr locs ls stk a1 a2 a3 hW hP hD hS hL hst
  obtain ⟨hx, hb, hml, hown, hts, hin, hK, hA⟩ := C
  obtain ⟨x, t, rfl, hz, hst1⟩ := zSi hst
  obtain ⟨h1, lv, h2, h3⟩ := hL
  exact lv_istore_n hx hb hd rfl h2 (h1 ▸ hi) rfl (fun ls' h' => k ad ws Hr locs ls' _ a1 a2 a3 hW hP hD hS (zLR_set h1 h3 hn ⟨x, rfl, hz⟩ rfl h') hst1)
theorem zs_istore (C : zCx p s m args meth c D cs A q) {i : Nat} {z : Int} (hd : decode q.2.2.1 pc = .ok (.istore i, 2)) (hi : i < L.length) (hn : znl L i = true) (k : zGo p l e R s m args below meth c Q D cs A b n0 s0 ad0 q (pc + 2) (L.set i (vi z)) S G H) : zGo p l e R s m args below meth c Q D cs A b n0 s0 ad0 q pc L (.inl z :: S) G H := by
  intro ad ws Hr locs ls stk a1 a2 a3 hW hP hD hS hL hst
  obtain ⟨hx, hb, hml, hown, hts, hin, hK, hA⟩ := C
  obtain ⟨x, t, rfl, hz, hst1⟩ := zSi hst
  obtain ⟨h1, lv, h2, h3⟩ := hL
  exact lv_istore hx hb hd h2 (h1 ▸ hi) rfl (fun ls' h' => k ad ws Hr locs ls' _ a1 a2 a3 hW hP hD hS (zLR_set h1 h3 hn ⟨x, rfl, hz⟩ rfl h') hst1)
theorem zs_lstore_n (C : zCx p s m args meth c D cs A q) {i : Fin 4} {z : Int} (hd : decode q.2.2.1 pc = .ok (.lstore_n i, 1)) (hi : i.val + 1 < L.length) (hn : znl L i.val = true) (k : zGo p l e R s m args below meth c Q D cs A b n0 s0 ad0 q (pc + 1) ((L.set i.val (vl z)).set (i.val + 1) vu) S G H) : zGo p l e R s m args below meth c Q D cs A b n0 s0 ad0 q pc L (.inr (.inl z) :: S) G H := by
  intro ad ws Hr locs ls stk a1 a2 a3 hW hP hD hS hL hst
  obtain ⟨hx, hb, hml, hown, hts, hin, hK, hA⟩ := C
  obtain ⟨x, t, rfl, hz, hst1⟩ := zSl hst
  obtain ⟨h1, lv, h2, h3⟩ := hL
  exact lv_lstore_n hx hb hd rfl h2 (h1 ▸ hi) rfl (fun ls' h' => k ad ws Hr locs ls' _ a1 a2 a3 hW hP hD hS (zLR_set2 h1 h3 hn ⟨x, rfl, hz⟩ rfl h') hst1)
theorem zs_astore_n (C : zCx p s m args meth c D cs A q) {i : Fin 4} {z : Nat} (hd : decode q.2.2.1 pc = .ok (.astore_n i, 1)) (hi : i.val < L.length) (hn : znl L i.val = true) (k : zGo p l e R s m args below meth c Q D cs A b n0 s0 ad0 q (pc + 1) (L.set i.val (vr z)) S G H) : zGo p l e R s m args below meth c Q D cs A b n0 s0 ad0 q pc L (.inr (.inr (.inl z)) :: S) G H := by
  intro ad ws Hr locs ls stk a1 a2 a3 hW hP hD hS hL hst
  obtain ⟨hx, hb, hml, hown, hts, hin, hK, hA⟩ := C
  obtain ⟨t, rfl, hz, hst1⟩ := zSr hst
  obtain ⟨h1, lv, h2, h3⟩ := hL
  exact lv_astore_n hx hb hd rfl h2 (h1 ▸ hi) rfl (fun ls' h' => k ad ws Hr locs ls' _ a1 a2 a3 hW hP hD hS (zLR_set h1 h3 hn ⟨hz, rfl⟩ rfl h') hst1)
theorem zs_astore (C : zCx p s m args meth c D cs A q) {i : Nat} {z : Nat} (hd : decode q.2.2.1 pc = .ok (.astore i, 2)) (hi : i < L.length) (hn : znl L i = true) (k : zGo p l e R s m args below meth c Q D cs A b n0 s0 ad0 q (pc + 2) (L.set i (vr z)) S G H) : zGo p l e R s m args below meth c Q D cs A b n0 s0 ad0 q pc L (.inr (.inr (.inl z)) :: S) G H := by
  intro ad ws Hr locs ls stk a1 a2 a3 hW hP hD hS hL hst
  obtain ⟨hx, hb, hml, hown, hts, hin, hK, hA⟩ := C
  obtain ⟨t, rfl, hz, hst1⟩ := zSr hst
  obtain ⟨h1, lv, h2, h3⟩ := hL
  exact lv_astore hx hb hd h2 (h1 ▸ hi) rfl (fun ls' h' => k ad ws Hr locs ls' _ a1 a2 a3 hW hP hD hS (zLR_set h1 h3 hn ⟨hz, rfl⟩ rfl h') hst1)
theorem zs_iinc (C : zCx p s m args meth c D cs A q) {i : Nat} {n z : Int} (hd : decode q.2.2.1 pc = .ok (.iinc i n, 3)) (hi : L[i]? = some (.inl z)) (hn : znl L i = true) (k : zGo p l e R s m args below meth c Q D cs A b n0 s0 ad0 q (pc + 3) (L.set i (vi (zw (z + n)))) S G H) : zGo p l e R s m args below meth c Q D cs A b n0 s0 ad0 q pc L S G H := by
  intro ad ws Hr locs ls stk a1 a2 a3 hW hP hD hS hL hst
  obtain ⟨hx, hb, hml, hown, hts, hin, hK, hA⟩ := C
  obtain ⟨h1, lv, h2, h3⟩ := hL
  obtain ⟨_, ⟨x, rfl, hz⟩, hm⟩ := h3 i _ hi (fun h => by cases h)
  obtain ⟨j, hj⟩ := List.getElem?_of_mem hm
  have hlt : i < q.2.2.2.1 := by rw [← h1]; exact (List.getElem?_eq_some_iff.mp hi).1
  refine lv_iinc (k := j) hx hb hd h2 hj rfl hlt rfl (fun ls' h' => k ad ws Hr locs ls' _ a1 a2 a3 hW hP hD hS (zLR_set h1 h3 hn ⟨_, rfl, ?_⟩ rfl h') hst)
  rw [zw_add, hz, Int32.toInt_ofInt]
  unfold zw
  rw [show Int32.size = 4294967296 from rfl, Int.add_bmod_bmod]
theorem zs_iadd (C : zCx p s m args meth c D cs A q) {x y : Int} (hd : decode q.2.2.1 pc = .ok (.iadd, 1)) (k : zGo p l e R s m args below meth c Q D cs A b n0 s0 ad0 q (pc + 1) L (vi (zw (x + y)) :: S) G H) : zGo p l e R s m args below meth c Q D cs A b n0 s0 ad0 q pc L (.inl y :: .inl x :: S) G H := by
  intro ad ws Hr locs ls stk a1 a2 a3 hW hP hD hS hL hst
  obtain ⟨hx, hb, hml, hown, hts, hin, hK, hA⟩ := C
  obtain ⟨y', t, rfl, rfl, hst1⟩ := zSi hst
  obtain ⟨x', t, rfl, rfl, hst2⟩ := zSi hst1
  exact lv_iadd hx hb hd (k ad ws Hr locs ls _ a1 a2 a3 hW hP hD hS hL (zPi (zw_add _ _) hst2))
theorem zs_isub (C : zCx p s m args meth c D cs A q) {x y : Int} (hd : decode q.2.2.1 pc = .ok (.isub, 1)) (k : zGo p l e R s m args below meth c Q D cs A b n0 s0 ad0 q (pc + 1) L (vi (zw (x - y)) :: S) G H) : zGo p l e R s m args below meth c Q D cs A b n0 s0 ad0 q pc L (.inl y :: .inl x :: S) G H := by
  intro ad ws Hr locs ls stk a1 a2 a3 hW hP hD hS hL hst
  obtain ⟨hx, hb, hml, hown, hts, hin, hK, hA⟩ := C
  obtain ⟨y', t, rfl, rfl, hst1⟩ := zSi hst
  obtain ⟨x', t, rfl, rfl, hst2⟩ := zSi hst1
  exact lv_isub hx hb hd (k ad ws Hr locs ls _ a1 a2 a3 hW hP hD hS hL (zPi (zw_sub _ _) hst2))
theorem zs_imul (C : zCx p s m args meth c D cs A q) {x y : Int} (hd : decode q.2.2.1 pc = .ok (.imul, 1)) (k : zGo p l e R s m args below meth c Q D cs A b n0 s0 ad0 q (pc + 1) L (vi (zw (x * y)) :: S) G H) : zGo p l e R s m args below meth c Q D cs A b n0 s0 ad0 q pc L (.inl y :: .inl x :: S) G H := by
  intro ad ws Hr locs ls stk a1 a2 a3 hW hP hD hS hL hst
  obtain ⟨hx, hb, hml, hown, hts, hin, hK, hA⟩ := C
  obtain ⟨y', t, rfl, rfl, hst1⟩ := zSi hst
  obtain ⟨x', t, rfl, rfl, hst2⟩ := zSi hst1
  exact lv_imul hx hb hd (k ad ws Hr locs ls _ a1 a2 a3 hW hP hD hS hL (zPi (zw_mul _ _) hst2))
theorem zs_idiv (C : zCx p s m args meth c D cs A q) {x y : Int} (hd : decode q.2.2.1 pc = .ok (.idiv, 1)) (h0 : y ≠ 0) (k : zGo p l e R s m args below meth c Q D cs A b n0 s0 ad0 q (pc + 1) L (vi (zdiv x y) :: S) G H) : zGo p l e R s m args below meth c Q D cs A b n0 s0 ad0 q pc L (.inl y :: .inl x :: S) G H := by
  intro ad ws Hr locs ls stk a1 a2 a3 hW hP hD hS hL hst
  obtain ⟨hx, hb, hml, hown, hts, hin, hK, hA⟩ := C
  obtain ⟨y', t, rfl, rfl, hst1⟩ := zSi hst
  obtain ⟨x', t, rfl, rfl, hst2⟩ := zSi hst1
  refine lv_idiv hx hb hd (fun h => h0 (by rw [h]; rfl)) (k ad ws Hr locs ls _ a1 a2 a3 hW hP hD hS hL (zPi ?_ hst2))
  unfold zdiv
  rw [Int32.ofInt_toInt, Int32.ofInt_toInt]
theorem zs_irem (C : zCx p s m args meth c D cs A q) {x y : Int} (hd : decode q.2.2.1 pc = .ok (.irem, 1)) (h0 : y ≠ 0) (k : zGo p l e R s m args below meth c Q D cs A b n0 s0 ad0 q (pc + 1) L (vi (zrem x y) :: S) G H) : zGo p l e R s m args below meth c Q D cs A b n0 s0 ad0 q pc L (.inl y :: .inl x :: S) G H := by
  intro ad ws Hr locs ls stk a1 a2 a3 hW hP hD hS hL hst
  obtain ⟨hx, hb, hml, hown, hts, hin, hK, hA⟩ := C
  obtain ⟨y', t, rfl, rfl, hst1⟩ := zSi hst
  obtain ⟨x', t, rfl, rfl, hst2⟩ := zSi hst1
  refine lv_irem hx hb hd (fun h => h0 (by rw [h]; rfl)) (k ad ws Hr locs ls _ a1 a2 a3 hW hP hD hS hL (zPi ?_ hst2))
  unfold zrem
  rw [Int32.ofInt_toInt, Int32.ofInt_toInt]
theorem zs_iand (C : zCx p s m args meth c D cs A q) {x y : Int} (hd : decode q.2.2.1 pc = .ok (.iand, 1)) (k : zGo p l e R s m args below meth c Q D cs A b n0 s0 ad0 q (pc + 1) L (vi (zand x y) :: S) G H) : zGo p l e R s m args below meth c Q D cs A b n0 s0 ad0 q pc L (.inl y :: .inl x :: S) G H := by
  intro ad ws Hr locs ls stk a1 a2 a3 hW hP hD hS hL hst
  obtain ⟨hx, hb, hml, hown, hts, hin, hK, hA⟩ := C
  obtain ⟨y', t, rfl, rfl, hst1⟩ := zSi hst
  obtain ⟨x', t, rfl, rfl, hst2⟩ := zSi hst1
  refine lv_iand hx hb hd (k ad ws Hr locs ls _ a1 a2 a3 hW hP hD hS hL (zPi ?_ hst2))
  unfold zand
  rw [Int32.ofInt_toInt, Int32.ofInt_toInt]
theorem zs_ior (C : zCx p s m args meth c D cs A q) {x y : Int} (hd : decode q.2.2.1 pc = .ok (.ior, 1)) (k : zGo p l e R s m args below meth c Q D cs A b n0 s0 ad0 q (pc + 1) L (vi (zor x y) :: S) G H) : zGo p l e R s m args below meth c Q D cs A b n0 s0 ad0 q pc L (.inl y :: .inl x :: S) G H := by
  intro ad ws Hr locs ls stk a1 a2 a3 hW hP hD hS hL hst
  obtain ⟨hx, hb, hml, hown, hts, hin, hK, hA⟩ := C
  obtain ⟨y', t, rfl, rfl, hst1⟩ := zSi hst
  obtain ⟨x', t, rfl, rfl, hst2⟩ := zSi hst1
  refine lv_ior hx hb hd (k ad ws Hr locs ls _ a1 a2 a3 hW hP hD hS hL (zPi ?_ hst2))
  unfold zor
  rw [Int32.ofInt_toInt, Int32.ofInt_toInt]
theorem zs_ishl (C : zCx p s m args meth c D cs A q) {x y : Int} (hd : decode q.2.2.1 pc = .ok (.ishl, 1)) (k : zGo p l e R s m args below meth c Q D cs A b n0 s0 ad0 q (pc + 1) L (vi (zshl x y) :: S) G H) : zGo p l e R s m args below meth c Q D cs A b n0 s0 ad0 q pc L (.inl y :: .inl x :: S) G H := by
  intro ad ws Hr locs ls stk a1 a2 a3 hW hP hD hS hL hst
  obtain ⟨hx, hb, hml, hown, hts, hin, hK, hA⟩ := C
  obtain ⟨y', t, rfl, rfl, hst1⟩ := zSi hst
  obtain ⟨x', t, rfl, rfl, hst2⟩ := zSi hst1
  refine lv_ishl hx hb hd (k ad ws Hr locs ls _ a1 a2 a3 hW hP hD hS hL (zPi ?_ hst2))
  unfold zshl
  rw [Int32.ofInt_toInt, Int32.ofInt_toInt]
theorem zs_ishr (C : zCx p s m args meth c D cs A q) {x y : Int} (hd : decode q.2.2.1 pc = .ok (.ishr, 1)) (k : zGo p l e R s m args below meth c Q D cs A b n0 s0 ad0 q (pc + 1) L (vi (zshr x y) :: S) G H) : zGo p l e R s m args below meth c Q D cs A b n0 s0 ad0 q pc L (.inl y :: .inl x :: S) G H := by
  intro ad ws Hr locs ls stk a1 a2 a3 hW hP hD hS hL hst
  obtain ⟨hx, hb, hml, hown, hts, hin, hK, hA⟩ := C
  obtain ⟨y', t, rfl, rfl, hst1⟩ := zSi hst
  obtain ⟨x', t, rfl, rfl, hst2⟩ := zSi hst1
  refine lv_ishr hx hb hd (k ad ws Hr locs ls _ a1 a2 a3 hW hP hD hS hL (zPi ?_ hst2))
  unfold zshr
  rw [Int32.ofInt_toInt, Int32.ofInt_toInt]
theorem zs_ladd (C : zCx p s m args meth c D cs A q) {x y : Int} (hd : decode q.2.2.1 pc = .ok (.ladd, 1)) (k : zGo p l e R s m args below meth c Q D cs A b n0 s0 ad0 q (pc + 1) L (vl (zwl (x + y)) :: S) G H) : zGo p l e R s m args below meth c Q D cs A b n0 s0 ad0 q pc L (.inr (.inl y) :: .inr (.inl x) :: S) G H := by
  intro ad ws Hr locs ls stk a1 a2 a3 hW hP hD hS hL hst
  obtain ⟨hx, hb, hml, hown, hts, hin, hK, hA⟩ := C
  obtain ⟨y', t, rfl, rfl, hst1⟩ := zSl hst
  obtain ⟨x', t, rfl, rfl, hst2⟩ := zSl hst1
  exact lv_ladd hx hb hd (k ad ws Hr locs ls _ a1 a2 a3 hW hP hD hS hL (zPl (zwl_add _ _) hst2))
theorem zs_lmul (C : zCx p s m args meth c D cs A q) {x y : Int} (hd : decode q.2.2.1 pc = .ok (.lmul, 1)) (k : zGo p l e R s m args below meth c Q D cs A b n0 s0 ad0 q (pc + 1) L (vl (zwl (x * y)) :: S) G H) : zGo p l e R s m args below meth c Q D cs A b n0 s0 ad0 q pc L (.inr (.inl y) :: .inr (.inl x) :: S) G H := by
  intro ad ws Hr locs ls stk a1 a2 a3 hW hP hD hS hL hst
  obtain ⟨hx, hb, hml, hown, hts, hin, hK, hA⟩ := C
  obtain ⟨y', t, rfl, rfl, hst1⟩ := zSl hst
  obtain ⟨x', t, rfl, rfl, hst2⟩ := zSl hst1
  exact lv_lmul hx hb hd (k ad ws Hr locs ls _ a1 a2 a3 hW hP hD hS hL (zPl (zwl_mul _ _) hst2))
theorem zs_lrem (C : zCx p s m args meth c D cs A q) {x y : Int} (hd : decode q.2.2.1 pc = .ok (.lrem, 1)) (h0 : y ≠ 0) (k : zGo p l e R s m args below meth c Q D cs A b n0 s0 ad0 q (pc + 1) L (vl (zlrem x y) :: S) G H) : zGo p l e R s m args below meth c Q D cs A b n0 s0 ad0 q pc L (.inr (.inl y) :: .inr (.inl x) :: S) G H := by
  intro ad ws Hr locs ls stk a1 a2 a3 hW hP hD hS hL hst
  obtain ⟨hx, hb, hml, hown, hts, hin, hK, hA⟩ := C
  obtain ⟨y', t, rfl, rfl, hst1⟩ := zSl hst
  obtain ⟨x', t, rfl, rfl, hst2⟩ := zSl hst1
  refine lv_lrem hx hb hd (fun h => h0 (by rw [h]; rfl)) (k ad ws Hr locs ls _ a1 a2 a3 hW hP hD hS hL (zPl ?_ hst2))
  unfold zlrem
  rw [Int64.ofInt_toInt, Int64.ofInt_toInt]
theorem zs_land (C : zCx p s m args meth c D cs A q) {x y : Int} (hd : decode q.2.2.1 pc = .ok (.land, 1)) (k : zGo p l e R s m args below meth c Q D cs A b n0 s0 ad0 q (pc + 1) L (vl (zland x y) :: S) G H) : zGo p l e R s m args below meth c Q D cs A b n0 s0 ad0 q pc L (.inr (.inl y) :: .inr (.inl x) :: S) G H := by
  intro ad ws Hr locs ls stk a1 a2 a3 hW hP hD hS hL hst
  obtain ⟨hx, hb, hml, hown, hts, hin, hK, hA⟩ := C
  obtain ⟨y', t, rfl, rfl, hst1⟩ := zSl hst
  obtain ⟨x', t, rfl, rfl, hst2⟩ := zSl hst1
  refine lv_land hx hb hd (k ad ws Hr locs ls _ a1 a2 a3 hW hP hD hS hL (zPl ?_ hst2))
  unfold zland
  rw [Int64.ofInt_toInt, Int64.ofInt_toInt]
theorem zs_lor (C : zCx p s m args meth c D cs A q) {x y : Int} (hd : decode q.2.2.1 pc = .ok (.lor, 1)) (k : zGo p l e R s m args below meth c Q D cs A b n0 s0 ad0 q (pc + 1) L (vl (zlor x y) :: S) G H) : zGo p l e R s m args below meth c Q D cs A b n0 s0 ad0 q pc L (.inr (.inl y) :: .inr (.inl x) :: S) G H := by
  intro ad ws Hr locs ls stk a1 a2 a3 hW hP hD hS hL hst
  obtain ⟨hx, hb, hml, hown, hts, hin, hK, hA⟩ := C
  obtain ⟨y', t, rfl, rfl, hst1⟩ := zSl hst
  obtain ⟨x', t, rfl, rfl, hst2⟩ := zSl hst1
  refine lv_lor hx hb hd (k ad ws Hr locs ls _ a1 a2 a3 hW hP hD hS hL (zPl ?_ hst2))
  unfold zlor
  rw [Int64.ofInt_toInt, Int64.ofInt_toInt]
theorem zs_lshl (C : zCx p s m args meth c D cs A q) {x y : Int} (hd : decode q.2.2.1 pc = .ok (.lshl, 1)) (k : zGo p l e R s m args below meth c Q D cs A b n0 s0 ad0 q (pc + 1) L (vl (zlshl x y) :: S) G H) : zGo p l e R s m args below meth c Q D cs A b n0 s0 ad0 q pc L (.inl y :: .inr (.inl x) :: S) G H := by
  intro ad ws Hr locs ls stk a1 a2 a3 hW hP hD hS hL hst
  obtain ⟨hx, hb, hml, hown, hts, hin, hK, hA⟩ := C
  obtain ⟨y', t, rfl, rfl, hst1⟩ := zSi hst
  obtain ⟨x', t, rfl, rfl, hst2⟩ := zSl hst1
  refine lv_lshl hx hb hd rfl (k ad ws Hr locs ls _ a1 a2 a3 hW hP hD hS hL (zPl ?_ hst2))
  unfold zlshl
  rw [Int64.ofInt_toInt, Int32.ofInt_toInt]
theorem zs_lshr (C : zCx p s m args meth c D cs A q) {x y : Int} (hd : decode q.2.2.1 pc = .ok (.lshr, 1)) (k : zGo p l e R s m args below meth c Q D cs A b n0 s0 ad0 q (pc + 1) L (vl (zlshr x y) :: S) G H) : zGo p l e R s m args below meth c Q D cs A b n0 s0 ad0 q pc L (.inl y :: .inr (.inl x) :: S) G H := by
  intro ad ws Hr locs ls stk a1 a2 a3 hW hP hD hS hL hst
  obtain ⟨hx, hb, hml, hown, hts, hin, hK, hA⟩ := C
  obtain ⟨y', t, rfl, rfl, hst1⟩ := zSi hst
  obtain ⟨x', t, rfl, rfl, hst2⟩ := zSl hst1
  refine lv_lshr hx hb hd rfl (k ad ws Hr locs ls _ a1 a2 a3 hW hP hD hS hL (zPl ?_ hst2))
  unfold zlshr
  rw [Int64.ofInt_toInt, Int32.ofInt_toInt]
theorem zs_lushr (C : zCx p s m args meth c D cs A q) {x y : Int} (hd : decode q.2.2.1 pc = .ok (.lushr, 1)) (k : zGo p l e R s m args below meth c Q D cs A b n0 s0 ad0 q (pc + 1) L (vl (zlushr x y) :: S) G H) : zGo p l e R s m args below meth c Q D cs A b n0 s0 ad0 q pc L (.inl y :: .inr (.inl x) :: S) G H := by
  intro ad ws Hr locs ls stk a1 a2 a3 hW hP hD hS hL hst
  obtain ⟨hx, hb, hml, hown, hts, hin, hK, hA⟩ := C
  obtain ⟨y', t, rfl, rfl, hst1⟩ := zSi hst
  obtain ⟨x', t, rfl, rfl, hst2⟩ := zSl hst1
  refine lv_lushr hx hb hd rfl (k ad ws Hr locs ls _ a1 a2 a3 hW hP hD hS hL (zPl ?_ hst2))
  unfold zlushr
  rw [Int64.ofInt_toInt, Int32.ofInt_toInt]
theorem zs_i2l (C : zCx p s m args meth c D cs A q) {x : Int} (hd : decode q.2.2.1 pc = .ok (.i2l, 1)) (k : zGo p l e R s m args below meth c Q D cs A b n0 s0 ad0 q (pc + 1) L (vl x :: S) G H) : zGo p l e R s m args below meth c Q D cs A b n0 s0 ad0 q pc L (.inl x :: S) G H := by
  intro ad ws Hr locs ls stk a1 a2 a3 hW hP hD hS hL hst
  obtain ⟨hx, hb, hml, hown, hts, hin, hK, hA⟩ := C
  obtain ⟨x', t, rfl, rfl, hst1⟩ := zSi hst
  exact lv_i2l hx hb hd rfl (k ad ws Hr locs ls _ a1 a2 a3 hW hP hD hS hL (zPl (zi2l _) hst1))
theorem zs_l2i (C : zCx p s m args meth c D cs A q) {x : Int} (hd : decode q.2.2.1 pc = .ok (.l2i, 1)) (k : zGo p l e R s m args below meth c Q D cs A b n0 s0 ad0 q (pc + 1) L (vi (zw x) :: S) G H) : zGo p l e R s m args below meth c Q D cs A b n0 s0 ad0 q pc L (.inr (.inl x) :: S) G H := by
  intro ad ws Hr locs ls stk a1 a2 a3 hW hP hD hS hL hst
  obtain ⟨hx, hb, hml, hown, hts, hin, hK, hA⟩ := C
  obtain ⟨x', t, rfl, rfl, hst1⟩ := zSl hst
  exact lv_l2i hx hb hd rfl (k ad ws Hr locs ls _ a1 a2 a3 hW hP hD hS hL (zPi (zl2i _) hst1))
theorem zs_dup_i (C : zCx p s m args meth c D cs A q) {x : Int} (hd : decode q.2.2.1 pc = .ok (.dup, 1)) (k : zGo p l e R s m args below meth c Q D cs A b n0 s0 ad0 q (pc + 1) L (vi x :: vi x :: S) G H) : zGo p l e R s m args below meth c Q D cs A b n0 s0 ad0 q pc L (.inl x :: S) G H := by
  intro ad ws Hr locs ls stk a1 a2 a3 hW hP hD hS hL hst
  obtain ⟨hx, hb, hml, hown, hts, hin, hK, hA⟩ := C
  obtain ⟨x', t, rfl, rfl, hst1⟩ := zSi hst
  exact lv_dup hx hb hd rfl (k ad ws Hr locs ls _ a1 a2 a3 hW hP hD hS hL (zPi rfl (zPi rfl hst1)))
theorem zs_dup_r (C : zCx p s m args meth c D cs A q) {x : Nat} (hd : decode q.2.2.1 pc = .ok (.dup, 1)) (k : zGo p l e R s m args below meth c Q D cs A b n0 s0 ad0 q (pc + 1) L (vr x :: vr x :: S) G H) : zGo p l e R s m args below meth c Q D cs A b n0 s0 ad0 q pc L (.inr (.inr (.inl x)) :: S) G H := by
  intro ad ws Hr locs ls stk a1 a2 a3 hW hP hD hS hL hst
  obtain ⟨hx, hb, hml, hown, hts, hin, hK, hA⟩ := C
  obtain ⟨t, rfl, h, hst1⟩ := zSr hst
  exact lv_dup hx hb hd rfl (k ad ws Hr locs ls _ a1 a2 a3 hW hP hD hS hL (zPr h (zPr h hst1)))
theorem zs_dup2 (C : zCx p s m args meth c D cs A q) {x : Int} {y : Nat} (hd : decode q.2.2.1 pc = .ok (.dup2, 1)) (k : zGo p l e R s m args below meth c Q D cs A b n0 s0 ad0 q (pc + 1) L (vi x :: vr y :: vi x :: vr y :: S) G H) : zGo p l e R s m args below meth c Q D cs A b n0 s0 ad0 q pc L (.inl x :: .inr (.inr (.inl y)) :: S) G H := by
  intro ad ws Hr locs ls stk a1 a2 a3 hW hP hD hS hL hst
  obtain ⟨hx, hb, hml, hown, hts, hin, hK, hA⟩ := C
  obtain ⟨x', t, rfl, rfl, hst1⟩ := zSi hst
  obtain ⟨t, rfl, h, hst2⟩ := zSr hst1
  exact lv_dup2_11 hx hb hd rfl rfl (k ad ws Hr locs ls _ a1 a2 a3 hW hP hD hS hL (zPi rfl (zPr h (zPi rfl (zPr h hst2)))))
theorem zs_pop (C : zCx p s m args meth c D cs A q) {x : Int} (hd : decode q.2.2.1 pc = .ok (.pop, 1)) (k : zGo p l e R s m args below meth c Q D cs A b n0 s0 ad0 q (pc + 1) L S G H) : zGo p l e R s m args below meth c Q D cs A b n0 s0 ad0 q pc L (.inl x :: S) G H := by
  intro ad ws Hr locs ls stk a1 a2 a3 hW hP hD hS hL hst
  obtain ⟨hx, hb, hml, hown, hts, hin, hK, hA⟩ := C
  obtain ⟨x', t, rfl, rfl, hst1⟩ := zSi hst
  exact lv_pop hx hb hd rfl (k ad ws Hr locs ls _ a1 a2 a3 hW hP hD hS hL hst1)
theorem zjmp_eq {off : Int} (h : 0 ≤ (pc : Int) + off) : (pc : Int) + off = (zjmp pc off : Int) := by
  unfold zjmp
  omega
theorem zs_goto (C : zCx p s m args meth c D cs A q) {off : Int} (hd : decode q.2.2.1 pc = .ok (.goto off, 3)) (h0 : 0 ≤ (pc : Int) + off) (k : zGo p l e R s m args below meth c Q D cs A b n0 s0 ad0 q (zjmp pc off) L S G H) : zGo p l e R s m args below meth c Q D cs A b n0 s0 ad0 q pc L S G H := by
  intro ad ws Hr locs ls stk a1 a2 a3 hW hP hD hS hL hst
  obtain ⟨hx, hb, hml, hown, hts, hin, hK, hA⟩ := C
  exact lv_goto hx hb hd (zjmp_eq h0) (k ad ws Hr locs ls _ a1 a2 a3 hW hP hD hS hL hst)
theorem zx0 {x : Int32} : x = 0 ↔ x.toInt = 0 := ⟨fun h => by rw [h]; rfl, fun h => Int32.toInt_inj.mp (by rw [h]; rfl)⟩
theorem zs_if (C : zCx p s m args meth c D cs A q) {cd : ClassFile.Cond} {off : Int} {x : Int} (hd : decode q.2.2.1 pc = .ok (.ifCond cd off, 3)) (h0 : 0 ≤ (pc : Int) + off) (k : zGo p l e R s m args below meth c Q D cs A b n0 s0 ad0 q (if zcm cd x 0 = true then zjmp pc off else pc + 3) L S G H) : zGo p l e R s m args below meth c Q D cs A b n0 s0 ad0 q pc L (.inl x :: S) G H := by
  intro ad ws Hr locs ls stk a1 a2 a3 hW hP hD hS hL hst
  obtain ⟨hx, hb, hml, hown, hts, hin, hK, hA⟩ := C
  obtain ⟨x', t, rfl, rfl, hst1⟩ := zSi hst
  have K := k ad ws Hr locs ls _ a1 a2 a3 hW hP hD hS hL hst1
  have z0 : (0 : Int32).toInt = 0 := rfl
  cases cd with
  | eq => exact lv_if_eq hx hb hd (zjmp_eq h0) (fun h => by rw [if_pos (by simp [zcm, zx0.mp h])] at K; exact K) (fun h => by rw [if_neg (by simpa [zcm] using fun q => h (zx0.mpr q))] at K; exact K)
  | ne => exact lv_if_ne hx hb hd (zjmp_eq h0) (fun h => by rw [if_pos (by simpa [zcm] using fun q => h (zx0.mpr q))] at K; exact K) (fun h => by rw [if_neg (by simp [zcm, zx0.mp h])] at K; exact K)
  | lt => exact lv_if_lt hx hb hd (zjmp_eq h0) (fun h => by rw [if_pos (by simpa [zcm] using Int32.lt_iff_toInt_lt.mp h)] at K; exact K) (fun h => by rw [if_neg (by intro q; exact h (Int32.lt_iff_toInt_lt.mpr (by simpa [zcm] using q)))] at K; exact K)
  | ge => exact lv_if_ge hx hb hd (zjmp_eq h0) (fun h => by rw [if_pos (by simpa [zcm] using Int32.le_iff_toInt_le.mp h)] at K; exact K) (fun h => by rw [if_neg (by intro q; exact h (Int32.le_iff_toInt_le.mpr (by simpa [zcm] using q)))] at K; exact K)
  | gt => exact lv_if_gt hx hb hd (zjmp_eq h0) (fun h => by rw [if_pos (by simpa [zcm] using Int32.lt_iff_toInt_lt.mp h)] at K; exact K) (fun h => by rw [if_neg (by intro q; exact h (Int32.lt_iff_toInt_lt.mpr (by simpa [zcm] using q)))] at K; exact K)
  | le => exact lv_if_le hx hb hd (zjmp_eq h0) (fun h => by rw [if_pos (by simpa [zcm] using Int32.le_iff_toInt_le.mp h)] at K; exact K) (fun h => by rw [if_neg (by intro q; exact h (Int32.le_iff_toInt_le.mpr (by simpa [zcm] using q)))] at K; exact K)
theorem zs_icmp (C : zCx p s m args meth c D cs A q) {cd : ClassFile.Cond} {off : Int} {x y : Int} (hd : decode q.2.2.1 pc = .ok (.if_icmp cd off, 3)) (h0 : 0 ≤ (pc : Int) + off) (k : zGo p l e R s m args below meth c Q D cs A b n0 s0 ad0 q (if zcm cd x y = true then zjmp pc off else pc + 3) L S G H) : zGo p l e R s m args below meth c Q D cs A b n0 s0 ad0 q pc L (.inl y :: .inl x :: S) G H := by
  intro ad ws Hr locs ls stk a1 a2 a3 hW hP hD hS hL hst
  obtain ⟨hx, hb, hml, hown, hts, hin, hK, hA⟩ := C
  obtain ⟨y', t, rfl, rfl, hst1⟩ := zSi hst
  obtain ⟨x', t, rfl, rfl, hst2⟩ := zSi hst1
  have K := k ad ws Hr locs ls _ a1 a2 a3 hW hP hD hS hL hst2
  cases cd with
  | eq => exact lv_icmp_eq hx hb hd (zjmp_eq h0) (fun h => by rw [if_pos (by simp [zcm, h])] at K; exact K) (fun h => by rw [if_neg (by intro q; exact h (Int32.toInt_inj.mp (by simpa [zcm] using q)))] at K; exact K)
  | ne => exact lv_icmp_ne hx hb hd (zjmp_eq h0) (fun h => by rw [if_pos (by simpa [zcm, Int32.toInt_inj] using h)] at K; exact K) (fun h => by rw [if_neg (by simpa [zcm, Int32.toInt_inj] using h)] at K; exact K)
  | lt => exact lv_icmp_lt hx hb hd (zjmp_eq h0) (fun h => by rw [if_pos (by simpa [zcm] using Int32.lt_iff_toInt_lt.mp h)] at K; exact K) (fun h => by rw [if_neg (by intro q; exact h (Int32.lt_iff_toInt_lt.mpr (by simpa [zcm] using q)))] at K; exact K)
  | ge => exact lv_icmp_ge hx hb hd (zjmp_eq h0) (fun h => by rw [if_pos (by simpa [zcm] using Int32.le_iff_toInt_le.mp h)] at K; exact K) (fun h => by rw [if_neg (by intro q; exact h (Int32.le_iff_toInt_le.mpr (by simpa [zcm] using q)))] at K; exact K)
  | gt => exact lv_icmp_gt hx hb hd (zjmp_eq h0) (fun h => by rw [if_pos (by simpa [zcm] using Int32.lt_iff_toInt_lt.mp h)] at K; exact K) (fun h => by rw [if_neg (by intro q; exact h (Int32.lt_iff_toInt_lt.mpr (by simpa [zcm] using q)))] at K; exact K)
  | le => exact lv_icmp_le hx hb hd (zjmp_eq h0) (fun h => by rw [if_pos (by simpa [zcm] using Int32.le_iff_toInt_le.mp h)] at K; exact K) (fun h => by rw [if_neg (by intro q; exact h (Int32.le_iff_toInt_le.mpr (by simpa [zcm] using q)))] at K; exact K)
theorem zs_table (C : zCx p s m args meth c D cs A q) {dd lo hi : Int} {offs : Array Int} {len t : Nat} {x : Int} (hd : decode q.2.2.1 pc = .ok (.tableswitch dd lo hi offs, len)) (h0 : 0 ≤ (pc : Int) + dd) (h1 : offs.toList.all (fun q => decide (0 ≤ (pc : Int) + q)) = true) (ht : ztab pc dd lo hi offs x = some t) (k : zGo p l e R s m args below meth c Q D cs A b n0 s0 ad0 q t L S G H) : zGo p l e R s m args below meth c Q D cs A b n0 s0 ad0 q pc L (.inl x :: S) G H := by
  intro ad ws Hr locs ls stk a1 a2 a3 hW hP hD hS hL hst
  obtain ⟨hx, hb, hml, hown, hts, hin, hK, hA⟩ := C
  obtain ⟨x', u, rfl, rfl, hst1⟩ := zSi hst
  have K := k ad ws Hr locs ls _ a1 a2 a3 hW hP hD hS hL hst1
  unfold ztab at ht
  split at ht
  · rename_i h
    cases ht
    exact lv_tableOut hx hb hd h (zjmp_eq h0) K
  · rename_i h
    have hl : ¬ x'.toInt < lo := fun z => h (Or.inl z)
    have hh : ¬ hi < x'.toInt := fun z => h (Or.inr z)
    split at ht
    · rename_i off ho
      cases ht
      have hm : off ∈ offs.toList := by
        have := Array.mem_of_getElem? ho
        exact Array.mem_toList_iff.mpr this
      have hp : 0 ≤ (pc : Int) + off := by simpa using List.all_eq_true.mp h1 off hm
      exact lv_tableIn hx hb hd hl hh ho (zjmp_eq hp) K
    · cases ht
theorem zs_look (C : zCx p s m args meth c D cs A q) {dd : Int} {ps : Array (Int × Int)} {len : Nat} {x : Int} (hd : decode q.2.2.1 pc = .ok (.lookupswitch dd ps, len)) (h1 : (ps.toList.zip (ps.toList.drop 1)).all (fun (a, next) => a.1 < next.1) = true) (h0 : 0 ≤ (pc : Int) + Op.lookupswitch.offset ps.toList dd x) (k : zGo p l e R s m args below meth c Q D cs A b n0 s0 ad0 q (zjmp pc (Op.lookupswitch.offset ps.toList dd x)) L S G H) : zGo p l e R s m args below meth c Q D cs A b n0 s0 ad0 q pc L (.inl x :: S) G H := by
  intro ad ws Hr locs ls stk a1 a2 a3 hW hP hD hS hL hst
  obtain ⟨hx, hb, hml, hown, hts, hin, hK, hA⟩ := C
  obtain ⟨x', u, rfl, rfl, hst1⟩ := zSi hst
  exact lv_lookup hx hb hd h1 rfl (zjmp_eq h0) (k ad ws Hr locs ls _ a1 a2 a3 hW hP hD hS hL hst1)
end ZOPS
