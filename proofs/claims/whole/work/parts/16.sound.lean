/-! THE SMALL MACHINE's RUNS ARE THE MACHINE's -/
/-- an answer -/
def zAns (n : Nat) (ad : Nat → Nat) (b : Nat) : Option zV → Option Value → Prop
  | none, rv => rv = none
  | some v, rv => ∃ x, rv = some x ∧ zVR n ad b v x
/-- the world behind a call -/
def zBk (D : va_G) (cs : zCs) (A1 : Nat → Prop) (G G1 : zG) (H1 : zH) (ad : Nat → Nat) (b : Nat) (r : Option zV) (rv : Option Value) (t : State) : Prop :=
  ∃ (ad' : Nat → Nat) (ws' : va_W), (∀ k, k < G.1 → ad' k = ad k) ∧ zWR cs G1 H1 ad' ws' ∧ va_P D vwCl ws' t.heap ∧ va_D A1 ws' ∧ zAns G1.1 ad' b r rv
def zrm (d mc ms : Nat) : Room := { frames := d, cells := mc, slots := ms, locals := 60 * d }
def zIH (o : Option (Nat × (Int → Int))) (d : Nat) (q : zM) (pc : Nat) (L S : List zV) (G : zG) (H : zH) (r : Option zV) (G' : zG) (H' : zH) : Prop :=
  ∀ (p : Program) (l : Launch) (e : Env) (R : Room) (s : State) (m : MethodId) (args : Array Value) (below : List Frame) (meth : Method) (c : Code) (Q : State → Prop) (D : va_G) (cs : zCs) (A : Nat → Prop) (b n0 s0 : Nat) (ad0 : Nat → Nat), zCx p s m args meth c D cs A q → zSc s A b o → (d ≤ R.frames ∧ 60 * d ≤ R.locals) → G'.1 - n0 ≤ R.cells → G'.2.1 - s0 ≤ R.slots → (∀ (pc' : Nat) (L' S' : List zV), zst o d q pc' L' S' G' H' = some (.inr (.inl r)) → zGo p l e R s m args below meth c Q D cs A b n0 s0 ad0 q pc' L' S' G' H') → zGo p l e R s m args below meth c Q D cs A b n0 s0 ad0 q pc L S G H
theorem zKn_moved {D : va_G} {cs : zCs} {s U : State} (hW : s.WarmedH U.vm) (h : zKn D cs s) : zKn D cs U := ⟨va_K.moved hW.alike h.1, fun q hq => va_Nw.warmM hW (h.2.1 q hq), va_AO.moved hW.alike h.2.2.1, zAOA_moved hW.alike h.2.2.2⟩
theorem zKn_calling {D : va_G} {cs : zCs} {U : State} {g : JFrame} {mk : MethodId} {a : Array Value} (h : zKn D cs U) : zKn D cs (U.calling g mk a) := ⟨va_K.moved (u := U) (U := U.calling g mk a) (Vm.Alike.refl U.vm) h.1, fun q hq => va_Nw.same rfl rfl (h.2.1 q hq), va_AO.moved (u := U) (U := U.calling g mk a) (Vm.Alike.refl U.vm) h.2.2.1, zAOA_moved (u := U) (U := U.calling g mk a) (Vm.Alike.refl U.vm) h.2.2.2⟩
/-- a callee's contract at a heap -/
theorem zmet {l : Launch} {D : va_G} {cs : zCs} {b d : Nat} {q : zM} {as : List zV} {vs : List Value} {G G1 : zG} {H H1 : zH} {r : Option zV} {ad : Nat → Nat} {ws : va_W} {Hr : Heap} {A : Nat → Prop} (hpl : plainName q.2.1.cls = true) (hcl : q.2.1.cls = zcn q.1) (IH : zIH none d q 0 (zloc q as) [] G H r G1 H1) (hm : G.1 ≤ G1.1 ∧ G.2.1 ≤ G1.2.1)
    (hW : zWR cs G H ad ws) (hP : va_P D vwCl ws Hr) (hD : va_D A ws) (hA : zSR G.1 ad b as vs) (hl : (zlx as).length ≤ q.2.2.2.1) (Qc : Array Value → State → Outcome → State → Prop)
    (hq : ∀ (s' t : State) (rv : Option Value), s'.heap = Hr → zBk D cs (va_A ws Hr.size) G G1 H1 ad b r rv t → va_F (va_A ws Hr.size) s' t → Qc vs.toArray s' (.returned rv) t) :
    Met l q.2.1 (Cond.code q.2.1 q.2.2.1 q.2.2.2.1 q.2.2.2.2.1 :: zTB) (zrm d (G1.1 - G.1) (G1.2.1 - G.2.1)) (fun v U => v = vs.toArray ∧ U.heap = Hr ∧ zKn D cs U) Qc (G1.1 - G.1) (G1.2.1 - G.2.1) (va_A ws Hr.size) := by
  refine Met.ofW (cc := q.2.2.1) (maxL := q.2.2.2.1) (ret := q.2.2.2.2.1) hpl rfl ?_
  intro p e s m args below meth c s₁ B hml hv
  obtain ⟨rfl, hh, hKn⟩ := hv
  have hts := atoms_spec (ws := Cond.code q.2.1 q.2.2.1 q.2.2.2.1 q.2.2.2.2.1 :: zTB) B.pre
  have hown : s.vm.findClass q.2.1.cls = some m.cls := findClass_of_methodNamed B.named
  rw [hcl] at hown
  have hC : zCx p s m vs.toArray meth c D cs (va_A ws Hr.size) q := ⟨B.exec, B.bytes, hml, hown, fun w hw => hts w (List.mem_cons_of_mem _ hw), fun hn => by rw [← hn]; exact (name_of_methodNamed B.named B.method).1, hKn, fun x hx => Or.inr (by rw [← hh]; exact hx)⟩
  have hlocks := B.notSynchronized
  have hr := B.returns
  have hx := B.exec
  have hb := B.bytes
  rw [lg_entry_eq]
  have K := IH p l e (zrm d (G1.1 - G.1) (G1.2.1 - G.2.1)) s m vs.toArray below meth c (MQ below Qc vs.toArray s (G1.1 - G.1) (G1.2.1 - G.2.1) (va_A ws Hr.size)) D cs (va_A ws Hr.size) b G.1 G.2.1 ad hC (fun x h => by cases h) ⟨Nat.le_refl _, Nat.le_refl _⟩ (Nat.le_refl _) (Nat.le_refl _) ?_ ad ws s.heap [] _ [] (fun _ _ => rfl) (Nat.le_refl _) (Nat.le_refl _) hW (by rw [hh]; exact hP) hD.self va_S.rf (zent hA hl) rfl
  · rw [Nat.sub_self, Nat.sub_self] at K
    exact K
  · intro pc' L' S' hst
    intro ad' ws' Hr' locs ls stk a1 a2 a3 hW' hP' hD' hS' hL' hstk
    rcases zst_ret hst with ⟨hd, z, rfl, rfl, hty⟩ | ⟨hd, rfl, rfl, hty⟩
    · obtain ⟨x, t, rfl, hz, ht⟩ := zSi hstk
      obtain rfl : t = [] := ht
      have hQ : ∀ t : State, t.heap = Hr' → s.WarmedH t.vm → Qc vs.toArray s (.returned (some (.int x))) t := fun t ht hw => hq s t _ hh ⟨ad', ws', a1, hW', by rw [ht]; exact hP', hD', ⟨_, rfl, x, rfl, hz⟩⟩ (hS'.F ht)
      rcases hty with hty | ⟨hty, hz01⟩
      · exact W.iret hx hb (by rw [hr, hty]) hQ hS'.2.2 hd
      · refine W.zret (ty := .boolean) hx hb (by rw [hr, hty]) ?_ hQ hS'.2.2 hd
        have e0 : x = Int32.ofInt z := (zof32 hz).symm
        rcases hz01 with rfl | rfl <;> (rw [e0]; rfl)
    · obtain rfl : stk = [] := hstk
      exact W.vret hx hb (by rw [hr, hty]) (fun t ht hw => hq s t _ hh ⟨ad', ws', a1, hW', by rw [ht]; exact hP', hD', rfl⟩ (hS'.F ht)) hS'.2.2 hd
theorem zar1 {a b n r : Nat} (h1 : n ≤ a) (h2 : a ≤ b) (h3 : b - n ≤ r) : (a - n) + (b - a) ≤ r := by omega
theorem zar2 {a b n : Nat} (h1 : n ≤ a) (h2 : a ≤ b) : (a - n) + (b - a) = b - n := by omega
theorem zgood {ws : List Cond} (h1 : ∀ w ∈ ws, w ∈ zTB) : GoodIn zTB ws := fun w hw => ⟨h1 w hw, good_of_word (List.mem_filter.mp (h1 w hw)).2⟩
section ZCL
variable {p : Program} {l : Launch} {e : Env} {R : Room} {s : State} {m : MethodId} {args : Array Value} {below : List Frame} {meth : Method} {c : Code} {Q : State → Prop} {D : va_G} {cs : zCs} {A : Nat → Prop} {b n0 s0 : Nat} {ad0 : Nat → Nat} {q : zM} {pc : Nat} {L S : List zV} {G : zG} {H : zH}
/-- a call -/
theorem zs_call (C : zCx p s m args meth c D cs A q) {d i k na : Nat} {m' : zM} {as S' : List zV} {G1 : zG} {H1 : zH} {r : Option zV} (hR : d ≤ R.frames ∧ 60 * d ≤ R.locals) (hc : zcall q d pc i k na m' as S S' G) (IH : zIH none (zdn d m') m' 0 (zloc m' as) [] G H r G1 H1) (hm : G.1 ≤ G1.1 ∧ G.2.1 ≤ G1.2.1) (hret : ((m'.2.2.2.2.1 = some .int ∨ m'.2.2.2.2.1 = some .boolean) ∧ ∃ z, r = some (vi z)) ∨ (m'.2.2.2.2.1 = none ∧ r = none)) (r1 : G1.1 - n0 ≤ R.cells) (r2 : G1.2.1 - s0 ≤ R.slots)
    (K : zGo p l e R s m args below meth c Q D cs A b n0 s0 ad0 q (pc + 3) L (r.toList ++ S') G1 H1) : zGo p l e R s m args below meth c Q D cs A b n0 s0 ad0 q pc L S G H := by
  intro ad ws Hr locs ls stk a1 a2 a3 hW hP hD hS hL hst
  obtain ⟨hx, hb, hml, hown, hts, hin, hK, hA⟩ := C
  obtain ⟨hd1, hmt, rfl, hna, hS4, hlx, hkind⟩ := hc
  obtain ⟨hc11, hin⟩ := zm_in hmt
  obtain ⟨⟨A1, A2⟩, A3, A4⟩ := zm_A _ hc11 _ hin
  obtain ⟨B1, B2, B3⟩ := zm_C _ hc11 _ hin
  obtain ⟨D1, D2⟩ := zm_D _ hc11 _ hin
  obtain ⟨W1, W2, W3, W4, W5⟩ := zm_w hmt
  have hini : Cond.initialized m'.2.1.cls ∈ zTB := by rw [A2]; exact (zk_mk A1).2
  have hcode : Cond.code m'.2.1 m'.2.2.1 m'.2.2.2.1 m'.2.2.2.2.1 ∈ zTB := zTB_of W1 rfl
  have hwords : ∀ w ∈ Cond.code m'.2.1 m'.2.2.1 m'.2.2.2.1 m'.2.2.2.2.1 :: zTB, w ∈ zTB := fun w hw => by
    rcases List.mem_cons.mp hw with rfl | h
    · exact hcode
    · exact h
  obtain ⟨t1, t2, rfl, hs1, hs2⟩ := zSR_app hst
  have hvs : zSR G.1 ad b as t1.reverse := by
    have := zSR_rev hs1
    rw [List.reverse_reverse] at this
    exact this
  have hcat := zcat_le hs2
  have hdn : zdn d m' + 1 ≤ d := by
    unfold zdn
    split <;> omega
  have hsz : ls.size = q.2.2.2.1 := hL.2.choose_spec.1.1
  generalize hA1 : va_A ws Hr.size = A1' at *
  have hA0 : ∀ x, A1' x → A x := by
    intro x hx1
    rw [← hA1] at hx1
    rcases hx1 with ⟨j, e', hj⟩ | hx1
    · exact hD.2 j _ hj
    · exact hA x (Nat.le_trans hS.1 hx1)
  have hRR : (zrm (zdn d m') (G1.1 - G.1) (G1.2.1 - G.2.1)).frames + 1 ≤ R.frames ∧ 8 + (m'.2.2.2.1 + 11) + (zrm (zdn d m') (G1.1 - G.1) (G1.2.1 - G.2.1)).locals ≤ R.locals := by
    refine ⟨by show zdn d m' + 1 ≤ _; omega, ?_⟩
    show 8 + (m'.2.2.2.1 + 11) + 60 * zdn d m' ≤ _
    have : m'.2.2.2.1 ≤ 40 := A3
    omega
  have hf : (G.1 - n0) + (G1.1 - G.1) ≤ R.cells ∧ (G.2.1 - s0) + (G1.2.1 - G.2.1) ≤ R.slots := ⟨zar1 a2 hm.1 r1, zar1 a3 hm.2 r2⟩
  have hlen : t1.reverse.length = na := by rw [zSR_len hvs, hna]
  have hPb : FrameBlind (fun (v : Array Value) (U : State) => v = t1.reverse.toArray ∧ U.heap = Hr ∧ zKn D cs U) := fun a U g mk z => ⟨z.1, z.2.1, zKn_calling z.2.2⟩
  have hPs : ∀ U : State, U.heap = Hr → s.WarmedH U.vm → (fun (v : Array Value) (U : State) => v = t1.reverse.toArray ∧ U.heap = Hr ∧ zKn D cs U) t1.reverse.toArray U := fun U h1 h2 => ⟨rfl, h1, zKn_moved h2 hK⟩
  have hroom : 2 * (F0 m pc ls (t1 ++ t2)).monitorRoom + (t2.map fun v => v.category).sum ≤ 8 := lv_room (by omega)
  have hstk : t1 ++ t2 = t1.reverse.reverse ++ t2 := by rw [List.reverse_reverse]
  -- the run, whatever the end is
  have run : ∀ (Qc : Array Value → State → Outcome → State → Prop), (∀ (s' t : State) (rv : Option Value), s'.heap = Hr → zBk D cs A1' G G1 H1 ad b r rv t → va_F A1' s' t → Qc t1.reverse.toArray s' (.returned rv) t) →
      va_Run p l e R s m args below meth c Hr locs (G.1 - n0) (G.2.1 - s0) (G1.1 - G.1) (G1.2.1 - G.2.1) (F0 m pc ls (t1 ++ t2)) t2 (Qc t1.reverse.toArray) A1' := by
    intro Qc hq
    have hM := zmet (l := l) (D := D) (cs := cs) (b := b) (vs := t1.reverse) B1 A2 IH hm hW hP hD hvs hlx Qc (by rw [hA1]; exact hq)
    rw [hA1] at hM
    rcases hkind with ⟨rfl, hdc, a, as', rfl, ha, hta⟩ | ⟨hk, hdc⟩ | ⟨hk, hdc, a, as', rfl⟩
    · obtain ⟨x, vs', hv', ⟨hal, rfl⟩, hvs'⟩ := hvs
      rw [hv'] at hM hstk hlen hPb hPs ⊢
      obtain ⟨fs, g1, -⟩ := zWR_obj hW ha hta A1
      have hrec := va_recv (D := D) (tys := ztys cs) hK.1 hP (zk_cl A1) g1
      refine va_runV (As := vs') (C := m'.2.1.cls) (own := zcn q.1) (Ts := zTB) ⟨hx, hb, hml, hown, hts⟩ hM (cwV (na - 1) hts (zgood ?_) rfl rfl rfl ⟨rfl, B2, B3, by simpa using D1⟩ hRR) ⟨hPb, ?_, hPs⟩ rfl (by simp at hlen; omega) hsz (by rw [hstk]; simp) hroom hdc hf
      · intro w hw
        unfold wsV at hw
        rcases List.mem_append.mp hw with h | h
        · simp only [List.mem_cons, List.not_mem_nil, or_false] at h
          rcases h with rfl | rfl | rfl | rfl
          · exact zTB_of (W2 (Or.inl rfl)) rfl
          · exact zTB_of (W3 (Or.inl rfl)) rfl
          · exact zTB_of (W4 rfl) rfl
          · exact hini
        · exact hwords w h
      · rw [A2]
        exact hrec
    · rcases hk with rfl | rfl
      · refine va_runS (As := t1.reverse) (own := zcn q.1) (Ts := zTB) ⟨hx, hb, hml, hown, hts⟩ hM (cwS na hts (zgood ?_) rfl rfl rfl ⟨zm_K _ hc11 _ hin rfl, B2, B3, by simpa using D1⟩ hRR) ⟨hPb, hPs⟩ rfl hlen hsz hstk hroom hdc hf
        intro w hw
        unfold wsS at hw
        rcases List.mem_append.mp hw with h | h
        · simp only [List.mem_cons, List.not_mem_nil, or_false] at h
          rcases h with rfl | rfl | rfl
          · exact zTB_of (W2 (Or.inr (Or.inl rfl))) rfl
          · exact zTB_of (W5 (Or.inl rfl)) rfl
          · have := zm_K _ hc11 _ hin rfl
            rw [← this]
            exact hini
        · exact hwords w h
      · exact va_runSN (As := t1.reverse) (own := zcn q.1) (host := "YearsLent") (Ts := zTB) ⟨hx, hb, hml, hown, hts⟩ hM ⟨va_cnB na hts (zgood hwords) rfl rfl rfl (hK.2.1 _ (zm_G _ hc11 _ hin rfl)) (hts _ hini) ⟨B2, B3, by simpa using D1⟩ hRR, hts _ (zTB_of (W5 (Or.inr rfl)) rfl), trivial⟩ ⟨hPb, hPs⟩ rfl hlen hsz hstk hroom hdc hf
    · obtain ⟨x, vs', hv', ⟨hal, rfl⟩, hvs'⟩ := hvs
      rw [hv'] at hM hstk hlen hPb hPs ⊢
      have hnone := (zm_J _ hc11 _ hin (by rcases hk with rfl | rfl; exact Or.inl rfl; exact Or.inr rfl)).2
      have hname := (zm_J _ hc11 _ hin (by rcases hk with rfl | rfl; exact Or.inl rfl; exact Or.inr rfl)).1
      have hnone : m'.2.2.2.2.1 = none := hnone
      have hname : m'.2.1.name = "<init>" := hname
      rw [hnone] at hM hwords
      rcases hk with rfl | rfl
      · exact va_runI (As := vs') (own := zcn q.1) (Ts := zTB) ⟨hx, hb, hml, hown, hts⟩ hM (cwI (na - 1) hts (zgood hwords) rfl rfl rfl (hts _ hini) (hts _ (zTB_of (W2 (Or.inr (Or.inr rfl))) rfl)) (hts _ (zTB_of (W3 (Or.inr (Or.inl rfl))) rfl)) hname ⟨B2, B3, by simpa using D1⟩ hRR) ⟨hPb, hPs⟩ rfl (by simp at hlen; omega) hsz (by rw [hstk]; simp) hroom hdc hf
      · exact va_runIN (As := vs') (own := zcn q.1) (host := "YearsLent") (Ts := zTB) ⟨hx, hb, hml, hown, hts⟩ hM ⟨va_cnB (na - 1) hts (zgood hwords) rfl rfl rfl (hK.2.1 _ (zm_I _ hc11 _ hin rfl)) (hts _ hini) ⟨B2, B3, by simpa using D1⟩ hRR, hname, hts _ (zTB_of (W3 (Or.inr (Or.inr rfl))) rfl)⟩ ⟨hPb, hPs⟩ rfl (by simp at hlen; omega) hsz (by rw [hstk]; simp) hroom hdc hf
  have ec : (G.1 - n0) + (G1.1 - G.1) = G1.1 - n0 := zar2 a2 hm.1
  have es : (G.2.1 - s0) + (G1.2.1 - G.2.1) = G1.2.1 - s0 := zar2 a3 hm.2
  -- and on
  have on : ∀ (rv : Option Value) (t : State) (H1r : Heap) (locs1 : List Loc), t.heap = H1r → zBk D cs A1' G G1 H1 ad b r rv t → va_S A s.heap H1r locs1 → W p l e R s m args below meth c H1r locs1 (G.1 - n0 + (G1.1 - G.1)) (G.2.1 - s0 + (G1.2.1 - G.2.1)) Q (F0 m (pc + 3) ls (rv.toList ++ t2)) := by
    intro rv t H1r locs1 ht hB hS1
    obtain ⟨ad', ws', b1, b2, b3, b4, b5⟩ := hB
    rw [ec, es]
    refine K ad' ws' H1r locs1 ls _ (fun k hk => by rw [b1 k (by omega)]; exact a1 k hk) (by omega) (by omega) b2 (by rw [← ht]; exact b3) (b4.weaken (fun _ _ _ h => hA0 _ h)) hS1 (zLR_mono hm.1 b1 hL) ?_
    have hs3 := zSR_mono hm.1 b1 hs2
    cases r with
    | none =>
      obtain rfl : rv = none := b5
      exact hs3
    | some v =>
      obtain ⟨x, rfl, hx1⟩ := b5
      exact ⟨x, t2, rfl, hx1, hs3⟩
  rcases hret with ⟨-, z, rfl⟩ | ⟨-, rfl⟩
  · refine va_calli (S := Int32) (post := fun (r' u : Int32) => r' = u) (B := fun u t => zBk D cs A1' G G1 H1 ad b (some (vi z)) (some (.int u)) t) (A1 := A1') (run _ ?_) hS (fun x _ h => hA0 x h) hA0 (fun r' u t H1r locs1 ht hvm hp hB hz1 hk1 hS1 => ?_)
    · intro s' t rv hh hB hF
      obtain ⟨ad', ws', b1, b2, b3, b4, x, rfl, y, rfl, hy2⟩ := id hB
      exact ⟨⟨y, y, rfl, rfl, hB⟩, hF⟩
    · have hp : r' = u := hp
      subst hp
      exact on (some (.int r')) t H1r locs1 ht hB hS1
  · refine va_callv (S := Unit) (post := fun (_ : Unit) => True) (B := fun _ t => zBk D cs A1' G G1 H1 ad b none none t) (A1 := A1') (run _ ?_) hS (fun x _ h => hA0 x h) hA0 (fun u t H1r locs1 ht hvm hp hB hz1 hk1 hS1 => on none t H1r locs1 ht hB hS1)
    intro s' t rv hh hB hF
    obtain ⟨ad', ws', b1, b2, b3, b4, rfl⟩ := id hB
    exact ⟨⟨(), rfl, trivial, hB⟩, hF⟩
end ZCL
/-- a run of the small machine, walked by the machine -/
theorem zsound : ∀ (n : Nat) {o : Option (Nat × (Int → Int))} {d : Nat} {q : zM} {pc : Nat} {L S : List zV} {G G' : zG} {H H' : zH} {r : Option zV}, zexec n o d q pc L S G H = some (r, G', H') → zIH o d q pc L S G H r G' H'
  | 0, o, d, q, pc, L, S, G, G', H, H', r, h => by simp [zexec] at h
  | n + 1, o, d, q, pc, L, S, G, G', H, H', r, h => by
    intro p l e R s m args below meth c Q D cs A b n0 s0 ad0 C hO hR r1 r2 hend
    rw [zexec] at h
    split at h
    · cases h
    · rename_i pc1 L1 S1 G1 H1 e1
      have m2 := zexec_mono n h
      have K := zsound n h _ _ _ _ _ _ _ _ _ _ _ _ _ _ _ _ _ _ C hO hR r1 r2 hend
      exact zs_step C hO hR e1 (Nat.le_trans (Nat.sub_le_sub_right m2.1 _) r1) (Nat.le_trans (Nat.sub_le_sub_right m2.2 _) r2) K
    · rename_i r0 e1
      cases h
      exact hend pc L S e1
    · rename_i m' as S' e1
      split at h
      · cases h
      · rename_i r0 G1 H1 e2
        have m2 := zexec_mono n h
        have K := zsound n h _ _ _ _ _ _ _ _ _ _ _ _ _ _ _ _ _ _ C hO hR r1 r2 hend
        obtain ⟨i, k, na, hc⟩ := zst_call e1
        exact zs_call C hR hc (zsound n e2) (zexec_mono n e2) (zexec_ret n e2) (Nat.le_trans (Nat.sub_le_sub_right m2.1 _) r1) (Nat.le_trans (Nat.sub_le_sub_right m2.2 _) r2) K
