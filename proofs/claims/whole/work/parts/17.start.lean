/-! THE CLAIM OUT OF ONE WALK OF THE LAW'S BODY. Your part is whole_start (and what it stands on); all else here is the same for every law, but numbers. -/
def R_law : String := "YearsLentLaw"
def lw_P (b : Addr) (xs : List Int32) (args : Array Value) (s : State) : Prop := args = #[.ref b] ∧ s.IntsAt b xs ∧ xs.length ≤ 2560 ∧ (Jvm.Cond.and given_1 narrow_1).before args s = true
def lw_Q (_ : Array Value) (s : State) (o : Outcome) (t : State) : Prop := o = .returned (some (.int 1)) ∧ Framed s o t [] 600000 7302249
def lw_Z (below : List Frame) (a : Array Value) (s : State) : State → Prop := fun t => ∃ o, t.status = .running ∧ Ended t below o ∧ lw_Q a s o t
/-- the law's own end, with 1 on the stack, nothing written that was there before, its room as the claim has it -/
theorem lw_ret {p : Program} {l : Launch} {e : Env} {s : State} {m : MethodId} {below : List Frame} {meth : Method} {c : Code} {b : Nat} (hx : p.tables.exec = Jvm.exec) (hb : c.code = code) (hr : meth.sig.returnType = ret) (hlocks : meth.locks = false) {pc : Nat} {H : Heap} {ls : Array Slot} (hdg : decode code pc = .ok (.ireturn, 1)) : W p l e room_1 s m #[Value.ref b] below meth c H [] 600000 7302249 (lw_Z below #[Value.ref b] s) (F0 m pc ls [.int 1]) := by
  intro T hT X
  obtain ⟨fs, hret, hrun, hended, hW, hframe⟩ := X.leave (v := some (.int 1)) (hlocks := hlocks) (fun h => by rw [hr] at h; cases h)
  have hmeth' : T.vm.method? m = some meth := X.method'
  refine ⟨T.setFrames fs, ?_, .returned (some (.int 1)), hrun, hended, rfl, ⟨_, rfl⟩, hW, hframe⟩
  jvm_step X.here [X.here.top, hx, hb, hdg, hmeth', hr, ret, narrow_b1]
  (try refine ⟨rfl, ?_⟩); (try refine ⟨rfl, ?_⟩)
  first | (intro acts; rw [hret _ acts rfl rfl rfl]) | rw [hret _ _ rfl rfl rfl]
  exact Steps.refl _
/-- what holds at the law's entry: the machine, the code, the tables' words (any of lw_tbl by 'hts w (by decide +kernel)'), the script of L ints xs at the cell b, what the Statement gives of the start (any of its parts by flat_of_before) -/
def lw_At (p : Program) (s : State) (m : MethodId) (meth : Method) (c : Code) (b L : Nat) (xs : Nat → Int32) : Prop :=
  p.tables.exec = Jvm.exec ∧ c.code = code ∧ meth.sig.returnType = ret ∧ c.maxLocals = 4 ∧ s.vm.findClass R_law = some m.cls ∧ (∀ w ∈ lw_tbl, w.before #[Value.ref b] s = true) ∧ va_X b L xs s s.heap ∧ b < s.heap.size ∧ meth.locks = false ∧ (Jvm.Cond.and given_1 narrow_1).before #[Value.ref b] s = true
/-! the law's walk out of a run of the small machine -/
def zG0 : zG := (0, 0, fun _ => (999, 0), fun _ _ => znul)
def zH0 : zH := fun _ _ => 0
/-- the law's run, on the small machine -/
def zLawOK : Prop := ∀ (n : Nat) (f : Int → Int), n ≤ 2560 → (∀ j : Int, 0 ≤ j → j < n → -2147483648 ≤ f j ∧ f j ≤ 2147483647) → ∃ (k : Nat) (G' : zG) (H' : zH), zexec k (some (n, f)) 14 qL_law 0 [vx, vu, vu, vu] [] zG0 zH0 = some (some (vi 1), G', H') ∧ G'.1 ≤ 600000 ∧ G'.2.1 ≤ 7302249
theorem zknow {args : Array Value} {s : State} (hts : ∀ w ∈ lw_tbl, w.before args s = true) : ∃ (D : va_G) (cs : zCs), zKn D cs s := by
  have hT : ∀ w ∈ zTB, w.before args s = true := fun w hw => hts w (List.mem_filter.mp hw).1
  have h0 : ∀ c : Nat, ∃ x : ClassId × (Nat → Nat), c < 10 → u_Kn s (zcn c) (zT c) (zNN c) x.1 x.2 := by
    intro c
    by_cases hc : c < 10
    · obtain ⟨c0, i0, h⟩ := u_known (C := zcn c) (T := zT c) (N := zNN c) (n := zNN c) hT (zk_in2 hc) (hT _ (zk_mk hc).1)
      exact ⟨(c0, i0), fun _ => h⟩
    · exact ⟨(0, fun _ => 0), fun h => absurd h hc⟩
  obtain ⟨g, hg⟩ := Classical.axiomOfChoice h0
  obtain ⟨cI, kI, pI, i1, i2, i3⟩ := Cond.arrayClass_spec (hT _ zb_arr.1)
  obtain ⟨cZ, kZ, pZ, z1, z2, z3⟩ := Cond.arrayClass_spec (hT _ zb_arr.2)
  obtain ⟨pB, cB, kB, b1, b2, b3, b4, b5⟩ := Cond.arrayOver_spec (hts _ zb_ovr.1)
  obtain ⟨pJ, cJ, kJ, j1, j2, j3, j4, j5⟩ := arrayOverA_spec (hts _ zb_ovr.2)
  refine ⟨(fun c => (g c).1, fun c => (g c).2), (cI, cZ, cB, cJ), ⟨fun c q hq => ?_, fun k q hq => ?_⟩, fun q hq => va_Nw.of rfl (hts _ (znst_ok q hq)), va_AO.of (hts _ zb_ovr.1), hts _ zb_ovr.2⟩
  · have hc : c < 10 := by
      have := (List.getElem?_eq_some_iff.mp hq).1
      simpa using this
    rw [zk_cl hc] at hq
    cases hq
    exact hg c hc
  · match k, hq with
    | 0, hq => cases hq; exact ⟨fun N z => ⟨(fun q hq => by cases hq), kI, i2, pI, i3⟩, i1⟩
    | 1, hq => cases hq; exact ⟨fun N z => ⟨(fun q hq => by cases hq), kZ, z2, pZ, z3⟩, z1⟩
    | 2, hq => cases hq; exact ⟨fun N z => ⟨(fun q hq => by cases hq), kB, b3, pB, b4⟩, kB, pB, b3, b4, b1, b5⟩
    | 3, hq => cases hq; exact ⟨fun N z => ⟨(fun q hq => by cases hq), kJ, j3, pJ, j4⟩, j5⟩
    | k + 4, hq => simp [ztys] at hq
theorem whole_from (hlaw : zLawOK) {p : Program} {e : Env} {s : State} {m : MethodId} {below : List Frame} {meth : Method} {c : Code} (l : Launch) {b L : Nat} {xs : Nat → Int32} (hL : L ≤ 2560) (C0 : lw_At p s m meth c b L xs) : W p l e room_1 s m #[Value.ref b] below meth c s.heap [] 0 0 (lw_Z below #[Value.ref b] s) (entryFrame m ([Value.ref b] : List Value).toArray 4) := by
  obtain ⟨hx, hb, hr, hml, hown, hts, hX, hbl, hlocks, hgv⟩ := id C0
  obtain ⟨D, cs, hKn⟩ := zknow hts
  have hT : ∀ w ∈ zTB, w.before #[Value.ref b] s = true := fun w hw => hts w (List.mem_filter.mp hw).1
  obtain ⟨k, G', H', hk, g1, g2⟩ := hlaw L (fun j => (xs j.toNat).toInt) hL (fun j _ _ => by
    have h1 := Int32.le_toInt (xs j.toNat)
    have h2 := Int32.toInt_lt (xs j.toNat)
    omega)
  have C : zCx p s m #[Value.ref b] meth c D cs (fun x => s.heap.size ≤ x) qL_law := ⟨hx, hb, hml, hown, hT, fun h => absurd h (by decide), hKn, fun _ h => h⟩
  have hO : zSc s (fun x => s.heap.size ≤ x) b (some (L, fun j => (xs j.toNat).toInt)) := by
    intro x hx1
    cases hx1
    exact ⟨xs, hX, hbl, Nat.not_le.mpr hbl, by show L < 2 ^ 31; omega, fun j _ => rfl⟩
  have hW : zWR cs zG0 zH0 (fun _ => 0) [] := ⟨rfl, Nat.zero_le _, fun k hk => absurd hk (Nat.not_lt_zero k)⟩
  have hl := lv_entry ([.ref b]) (n := 4) (Nat.le_of_ble_eq_true rfl)
  rw [lg_entry_eq]
  have K := zsound k hk p l e room_1 s m #[Value.ref b] below meth c (lw_Z below #[Value.ref b] s) D cs (fun x => s.heap.size ≤ x) b 0 0 (fun _ => 0) C hO ⟨Nat.le_of_ble_eq_true rfl, Nat.le_of_ble_eq_true rfl⟩ (by show G'.1 - 0 ≤ 600000; omega) (by show G'.2.1 - 0 ≤ 7302249; omega) ?_ (fun _ => 0) [] s.heap [] _ [] (fun _ _ => rfl) (Nat.le_refl _) (Nat.le_refl _) hW (fun k q h => by simp at h) ⟨fun i j p q h => by simp at h, fun k q h => by simp at h⟩ va_S.rf (zent (m := qL_law) (as := [vx]) (vs := [.ref b]) ⟨_, _, rfl, ⟨rfl, rfl⟩, rfl⟩ (by decide)) rfl
  · exact K
  · intro pc' L' S' hst ad' ws' Hr' locs ls stk a1 a2 a3 hW' hP' hD' hS' hL' hstk
    rcases zst_ret hst with ⟨hd, z, rfl, hz, hty⟩ | ⟨hd, rfl, hz, hty⟩
    · cases hz
      obtain ⟨x, t, rfl, hx1, ht⟩ := zSi hstk
      obtain rfl : t = [] := ht
      obtain rfl : x = 1 := Int32.toInt_inj.mp (by rw [hx1]; rfl)
      refine va_forget hS'.2.2 ?_
      refine W.widen (k := 600000) (n := 7302249) (by omega) (by omega) ?_
      exact lw_ret hx hb hr hlocks hd
    · cases hz
