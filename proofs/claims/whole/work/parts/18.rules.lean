/-! what a run of the small machine comes to; a rule an instruction -/
theorem zexec_more : ∀ (n : Nat) {o : Option (Nat × (Int → Int))} {d : Nat} {q : zM} {pc : Nat} {L S : List zV} {G : zG} {H : zH} {x : Option zV × zG × zH}, zexec n o d q pc L S G H = some x → zexec (n + 1) o d q pc L S G H = some x
  | 0, o, d, q, pc, L, S, G, H, x, h => by simp [zexec] at h
  | n + 1, o, d, q, pc, L, S, G, H, x, h => by
    rw [zexec] at h ⊢
    split at h
    · cases h
    · exact zexec_more n h
    · exact h
    · split at h
      · cases h
      · rename_i r1 G1 H1 e2
        rw [zexec_more n e2]
        exact zexec_more n h
theorem zexec_le {n k : Nat} (hk : n ≤ k) {o : Option (Nat × (Int → Int))} {d : Nat} {q : zM} {pc : Nat} {L S : List zV} {G : zG} {H : zH} {x : Option zV × zG × zH} (h : zexec n o d q pc L S G H = some x) : zexec k o d q pc L S G H = some x := by
  induction hk with
  | refl => exact h
  | step _ ih => exact zexec_more _ ih
def zRunD (o : Option (Nat × (Int → Int))) (d : Nat) (q : zM) (pc : Nat) (L S : List zV) (G : zG) (H : zH) (Q : Option zV → zG → zH → Prop) : Prop := ∃ (n : Nat) (r : Option zV) (G' : zG) (H' : zH), zexec n o d q pc L S G H = some (r, G', H') ∧ Q r G' H'
def zRun (q : zM) (pc : Nat) (L S : List zV) (G : zG) (H : zH) (Q : Option zV → zG → zH → Prop) : Prop := zRunD none (zlev q) q pc L S G H Q
def zCallD (d : Nat) (q : zM) (as : List zV) (G : zG) (H : zH) (Q : Option zV → zG → zH → Prop) : Prop := zRunD none d q 0 (zloc q as) [] G H Q
def zCall (q : zM) (as : List zV) (G : zG) (H : zH) (Q : Option zV → zG → zH → Prop) : Prop := zCallD (zlev q) q as G H Q
/-- no long -/
def zn1 (v : zV) : Prop := match v with
  | .inr (.inl _) => False
  | _ => True
theorem znl_iff {L : List zV} {i : Nat} {v : zV} (h : L[i]? = some v) : znl L (i + 1) = true ↔ zn1 v := by
  simp only [znl, zn1]
  rw [h]
  match v with
  | .inl _ => simp
  | .inr (.inl _) => simp
  | .inr (.inr _) => simp
theorem zcm_eq {a b : Int} : zcm .eq a b = true ↔ a = b := by simp [zcm]
theorem zcm_ne {a b : Int} : zcm .ne a b = true ↔ a ≠ b := by simp [zcm]
theorem zcm_lt {a b : Int} : zcm .lt a b = true ↔ a < b := by simp [zcm]
theorem zcm_ge {a b : Int} : zcm .ge a b = true ↔ b ≤ a := by simp [zcm]
theorem zcm_gt {a b : Int} : zcm .gt a b = true ↔ b < a := by simp [zcm]
theorem zcm_le {a b : Int} : zcm .le a b = true ↔ a ≤ b := by simp [zcm]
section ZRL
variable {o : Option (Nat × (Int → Int))} {d : Nat} {q : zM} {pc : Nat} {L S : List zV} {G : zG} {H : zH} {Q : Option zV → zG → zH → Prop}
theorem zR_next {pc' : Nat} {L' S' : List zV} {G' : zG} {H' : zH} (h : zst o d q pc L S G H = some (.inl (pc', L', S', G', H'))) : zRunD o d q pc L S G H Q ↔ zRunD o d q pc' L' S' G' H' Q := by
  constructor
  · rintro ⟨n, r, G1, H1, h1, h2⟩
    cases n with
    | zero => simp [zexec] at h1
    | succ n =>
      rw [zexec, h] at h1
      exact ⟨n, r, G1, H1, h1, h2⟩
  · rintro ⟨n, r, G1, H1, h1, h2⟩
    refine ⟨n + 1, r, G1, H1, ?_, h2⟩
    rw [zexec, h]
    exact h1
theorem zR_ret {r : Option zV} (h : zst o d q pc L S G H = some (.inr (.inl r))) : zRunD o d q pc L S G H Q ↔ Q r G H := by
  constructor
  · rintro ⟨n, r1, G1, H1, h1, h2⟩
    cases n with
    | zero => simp [zexec] at h1
    | succ n =>
      rw [zexec, h] at h1
      cases h1
      exact h2
  · intro h1
    refine ⟨1, r, G, H, ?_, h1⟩
    rw [zexec, h]
theorem zR_none (h : zst o d q pc L S G H = none) : ¬ zRunD o d q pc L S G H Q := by
  rintro ⟨n, r1, G1, H1, h1, h2⟩
  cases n with
  | zero => simp [zexec] at h1
  | succ n =>
    rw [zexec, h] at h1
    cases h1
theorem zR_call {m' : zM} {as S' : List zV} (h : zst o d q pc L S G H = some (.inr (.inr (m', as, S')))) : zRunD o d q pc L S G H Q ↔ zCallD (zdn d m') m' as G H (fun r G' H' => zRunD o d q (pc + 3) L (r.toList ++ S') G' H' Q) := by
  constructor
  · rintro ⟨n, r, G1, H1, h1, h2⟩
    cases n with
    | zero => simp [zexec] at h1
    | succ n =>
      rw [zexec, h] at h1
      dsimp only at h1
      split at h1
      · cases h1
      · rename_i r0 G0 H0 e
        exact ⟨n, r0, G0, H0, e, n, r, G1, H1, h1, h2⟩
  · rintro ⟨n, r0, G0, H0, e, k, r, G1, H1, h1, h2⟩
    refine ⟨n + k + 1, r, G1, H1, ?_, h2⟩
    rw [zexec, h]
    dsimp only
    rw [zexec_le (Nat.le_add_right n k) e]
    exact zexec_le (Nat.le_add_left k n) h1
theorem zst_of {op : Instr} {len : Nat} (hd : decode q.2.2.1 pc = .ok (op, len)) (hl : zlo op len = true) : zst o d q pc L S G H = zstp o d q pc op len L S G H := by
  unfold zst
  rw [hd]
  show zif (zlo op len) _ = _
  rw [hl]
  rfl
/-- a step under a condition -/
theorem zR_if {P : Prop} {c : Bool} {pc' : Nat} {L' S' : List zV} {G' : zG} {H' : zH} (h : zst o d q pc L S G H = zif c (zgo pc' L' S' G' H')) (hc : c = true ↔ P) : zRunD o d q pc L S G H Q ↔ P ∧ zRunD o d q pc' L' S' G' H' Q := by
  cases c with
  | true => exact (zR_next h).trans ⟨fun z => ⟨hc.mp rfl, z⟩, fun z => z.2⟩
  | false => exact ⟨fun z => absurd z (zR_none h), fun z => absurd (hc.mpr z.1) (by simp)⟩
theorem zR_go {pc' : Nat} {L' S' : List zV} {G' : zG} {H' : zH} (h : zst o d q pc L S G H = zgo pc' L' S' G' H') : zRunD o d q pc L S G H Q ↔ zRunD o d q pc' L' S' G' H' Q := zR_next h
theorem zr_iconst {n : Int} (hd : decode q.2.2.1 pc = .ok (.iconst n, 1)) (hn : (decide (-1 ≤ n) && decide (n ≤ 5)) = true) : zRunD o d q pc L S G H Q ↔ zRunD o d q (pc + 1) L (vi n :: S) G H Q := by
  refine zR_go ?_
  rw [zst_of hd rfl]
  show zif _ _ = _
  rw [hn]
  rfl
theorem zr_bipush {n : Int} (hd : decode q.2.2.1 pc = .ok (.bipush n, 2)) (hn : (decide (-128 ≤ n) && decide (n ≤ 127)) = true) : zRunD o d q pc L S G H Q ↔ zRunD o d q (pc + 2) L (vi n :: S) G H Q := by
  refine zR_go ?_
  rw [zst_of hd rfl]
  show zif _ _ = _
  rw [hn]
  rfl
theorem zr_sipush {n : Int} (hd : decode q.2.2.1 pc = .ok (.sipush n, 3)) (hn : (decide (-32768 ≤ n) && decide (n ≤ 32767)) = true) : zRunD o d q pc L S G H Q ↔ zRunD o d q (pc + 3) L (vi n :: S) G H Q := by
  refine zR_go ?_
  rw [zst_of hd rfl]
  show zif _ _ = _
  rw [hn]
  rfl
theorem zr_lconst {n : Fin 2} (hd : decode q.2.2.1 pc = .ok (.lconst n, 1)) : zRunD o d q pc L S G H Q ↔ zRunD o d q (pc + 1) L (vl (n.val : Int) :: S) G H Q := by
  refine zR_go ?_
  rw [zst_of hd rfl]
  rfl
theorem zr_ldc {i : Nat} {z : Int} (hd : decode q.2.2.1 pc = .ok (.ldc i, 2)) (hz : zki q.1 i = some z) : zRunD o d q pc L S G H Q ↔ zRunD o d q (pc + 2) L (vi z :: S) G H Q := by
  refine zR_go ?_
  rw [zst_of hd rfl]
  simp only [zstp]
  rw [hz]
theorem zr_ldc2 {i : Nat} {z : Int} (hd : decode q.2.2.1 pc = .ok (.ldc2_w i, 3)) (hz : zkl q.1 i = some z) : zRunD o d q pc L S G H Q ↔ zRunD o d q (pc + 3) L (vl z :: S) G H Q := by
  refine zR_go ?_
  rw [zst_of hd rfl]
  simp only [zstp]
  rw [hz]
theorem zr_iload_n {i : Fin 4} {z : Int} (hd : decode q.2.2.1 pc = .ok (.iload_n i, 1)) (hL : L[i.val]? = some (.inl z)) : zRunD o d q pc L S G H Q ↔ zRunD o d q (pc + 1) L (vi z :: S) G H Q := by
  refine zR_go ?_
  rw [zst_of hd rfl]
  show zld i.val (pc + 1) L S G H = _
  unfold zld
  rw [hL]
theorem zr_iload {i : Nat} {z : Int} (hd : decode q.2.2.1 pc = .ok (.iload i, 2)) (hL : L[i]? = some (.inl z)) : zRunD o d q pc L S G H Q ↔ zRunD o d q (pc + 2) L (vi z :: S) G H Q := by
  refine zR_go ?_
  rw [zst_of hd rfl]
  show zld i (pc + 2) L S G H = _
  unfold zld
  rw [hL]
theorem zr_lload_n {i : Fin 4} {z : Int} (hd : decode q.2.2.1 pc = .ok (.lload_n i, 1)) (hL : L[i.val]? = some (.inr (.inl z))) : zRunD o d q pc L S G H Q ↔ zRunD o d q (pc + 1) L (vl z :: S) G H Q := by
  refine zR_go ?_
  rw [zst_of hd rfl]
  show zlld i.val (pc + 1) L S G H = _
  unfold zlld
  rw [hL]
theorem zr_aload_n {i : Fin 4} {z : Nat} (hd : decode q.2.2.1 pc = .ok (.aload_n i, 1)) (hL : L[i.val]? = some (.inr (.inr (.inl z)))) : zRunD o d q pc L S G H Q ↔ zRunD o d q (pc + 1) L (vr z :: S) G H Q := by
  refine zR_go ?_
  rw [zst_of hd rfl]
  show zald i.val (pc + 1) L S G H = _
  unfold zald
  rw [hL]
theorem zr_aload {i : Nat} {z : Nat} (hd : decode q.2.2.1 pc = .ok (.aload i, 2)) (hL : L[i]? = some (.inr (.inr (.inl z)))) : zRunD o d q pc L S G H Q ↔ zRunD o d q (pc + 2) L (vr z :: S) G H Q := by
  refine zR_go ?_
  rw [zst_of hd rfl]
  show zald i (pc + 2) L S G H = _
  unfold zald
  rw [hL]
theorem zr_xload_n {i : Fin 4} (hd : decode q.2.2.1 pc = .ok (.aload_n i, 1)) (hL : L[i.val]? = some (.inr (.inr (.inr 1)))) : zRunD o d q pc L S G H Q ↔ zRunD o d q (pc + 1) L (vx :: S) G H Q := by
  refine zR_go ?_
  rw [zst_of hd rfl]
  show zald i.val (pc + 1) L S G H = _
  unfold zald
  rw [hL]
  rfl
theorem zr_istore_n {i : Fin 4} {j : Nat} {z : Int} {v : zV} {L' : List zV} (hd : decode q.2.2.1 pc = .ok (.istore_n i, 1)) (hj : i.val = j + 1) (hl : j + 1 < L.length) (hv : L[j]? = some v) (hL : L.set (j + 1) (vi z) = L') : zRunD o d q pc L (vi z :: S) G H Q ↔ zn1 v ∧ zRunD o d q (pc + 1) L' S G H Q := by
  subst hL
  refine zR_if (c := decide (j + 1 < L.length) && znl L (j + 1)) ?_ (by rw [Bool.and_eq_true, decide_eq_true_eq, znl_iff hv]; exact ⟨fun z => z.2, fun z => ⟨hl, z⟩⟩)
  rw [zst_of hd rfl]
  show zist i.val (pc + 1) L (vi z :: S) G H = _
  rw [hj]
  rfl
theorem zr_istore {i : Nat} {j : Nat} {z : Int} {v : zV} {L' : List zV} (hd : decode q.2.2.1 pc = .ok (.istore i, 2)) (hj : i = j + 1) (hl : j + 1 < L.length) (hv : L[j]? = some v) (hL : L.set (j + 1) (vi z) = L') : zRunD o d q pc L (vi z :: S) G H Q ↔ zn1 v ∧ zRunD o d q (pc + 2) L' S G H Q := by
  subst hL
  refine zR_if (c := decide (j + 1 < L.length) && znl L (j + 1)) ?_ (by rw [Bool.and_eq_true, decide_eq_true_eq, znl_iff hv]; exact ⟨fun z => z.2, fun z => ⟨hl, z⟩⟩)
  rw [zst_of hd rfl]
  show zist i (pc + 2) L (vi z :: S) G H = _
  rw [hj]
  rfl
theorem zr_astore_n {i : Fin 4} {j : Nat} {z : Nat} {v : zV} {L' : List zV} (hd : decode q.2.2.1 pc = .ok (.astore_n i, 1)) (hj : i.val = j + 1) (hl : j + 1 < L.length) (hv : L[j]? = some v) (hL : L.set (j + 1) (vr z) = L') : zRunD o d q pc L (vr z :: S) G H Q ↔ zn1 v ∧ zRunD o d q (pc + 1) L' S G H Q := by
  subst hL
  refine zR_if (c := decide (j + 1 < L.length) && znl L (j + 1)) ?_ (by rw [Bool.and_eq_true, decide_eq_true_eq, znl_iff hv]; exact ⟨fun z => z.2, fun z => ⟨hl, z⟩⟩)
  rw [zst_of hd rfl]
  show zast i.val (pc + 1) L (vr z :: S) G H = _
  rw [hj]
  rfl
theorem zr_astore {i : Nat} {j : Nat} {z : Nat} {v : zV} {L' : List zV} (hd : decode q.2.2.1 pc = .ok (.astore i, 2)) (hj : i = j + 1) (hl : j + 1 < L.length) (hv : L[j]? = some v) (hL : L.set (j + 1) (vr z) = L') : zRunD o d q pc L (vr z :: S) G H Q ↔ zn1 v ∧ zRunD o d q (pc + 2) L' S G H Q := by
  subst hL
  refine zR_if (c := decide (j + 1 < L.length) && znl L (j + 1)) ?_ (by rw [Bool.and_eq_true, decide_eq_true_eq, znl_iff hv]; exact ⟨fun z => z.2, fun z => ⟨hl, z⟩⟩)
  rw [zst_of hd rfl]
  show zast i (pc + 2) L (vr z :: S) G H = _
  rw [hj]
  rfl
theorem zr_lstore_n {i : Fin 4} {j : Nat} {z : Int} {v : zV} {L' : List zV} (hd : decode q.2.2.1 pc = .ok (.lstore_n i, 1)) (hj : i.val = j + 1) (hl : j + 1 + 1 < L.length) (hv : L[j]? = some v) (hL : (L.set (j + 1) (vl z)).set (j + 1 + 1) vu = L') : zRunD o d q pc L (vl z :: S) G H Q ↔ zn1 v ∧ zRunD o d q (pc + 1) L' S G H Q := by
  subst hL
  refine zR_if (c := decide (j + 1 + 1 < L.length) && znl L (j + 1)) ?_ (by rw [Bool.and_eq_true, decide_eq_true_eq, znl_iff hv]; exact ⟨fun z => z.2, fun z => ⟨hl, z⟩⟩)
  rw [zst_of hd rfl]
  show zlst i.val (pc + 1) L (vl z :: S) G H = _
  rw [hj]
  rfl
theorem zr_iinc {i : Nat} {n z : Int} {v : zV} {L' : List zV} (hd : decode q.2.2.1 pc = .ok (.iinc (i + 1) n, 3)) (hz : L[i + 1]? = some (.inl z)) (hv : L[i]? = some v) (hL : L.set (i + 1) (vi (zw (z + n))) = L') : zRunD o d q pc L S G H Q ↔ zn1 v ∧ zRunD o d q (pc + 3) L' S G H Q := by
  subst hL
  refine zR_if (c := znl L (i + 1)) ?_ (znl_iff hv)
  rw [zst_of hd rfl]
  show ziinc (i + 1) n (pc + 3) L S G H = _
  unfold ziinc
  rw [hz]
theorem zr_iadd {a b : Int} (hd : decode q.2.2.1 pc = .ok (.iadd, 1)) : zRunD o d q pc L (vi b :: vi a :: S) G H Q ↔ zRunD o d q (pc + 1) L (vi (zw (a + b)) :: S) G H Q := by
  refine zR_go ?_
  rw [zst_of hd rfl]
  rfl
theorem zr_isub {a b : Int} (hd : decode q.2.2.1 pc = .ok (.isub, 1)) : zRunD o d q pc L (vi b :: vi a :: S) G H Q ↔ zRunD o d q (pc + 1) L (vi (zw (a - b)) :: S) G H Q := by
  refine zR_go ?_
  rw [zst_of hd rfl]
  rfl
theorem zr_imul {a b : Int} (hd : decode q.2.2.1 pc = .ok (.imul, 1)) : zRunD o d q pc L (vi b :: vi a :: S) G H Q ↔ zRunD o d q (pc + 1) L (vi (zw (a * b)) :: S) G H Q := by
  refine zR_go ?_
  rw [zst_of hd rfl]
  rfl
theorem zr_iand {a b : Int} (hd : decode q.2.2.1 pc = .ok (.iand, 1)) : zRunD o d q pc L (vi b :: vi a :: S) G H Q ↔ zRunD o d q (pc + 1) L (vi (zand a b) :: S) G H Q := by
  refine zR_go ?_
  rw [zst_of hd rfl]
  rfl
theorem zr_ior {a b : Int} (hd : decode q.2.2.1 pc = .ok (.ior, 1)) : zRunD o d q pc L (vi b :: vi a :: S) G H Q ↔ zRunD o d q (pc + 1) L (vi (zor a b) :: S) G H Q := by
  refine zR_go ?_
  rw [zst_of hd rfl]
  rfl
theorem zr_ishl {a b : Int} (hd : decode q.2.2.1 pc = .ok (.ishl, 1)) : zRunD o d q pc L (vi b :: vi a :: S) G H Q ↔ zRunD o d q (pc + 1) L (vi (zshl a b) :: S) G H Q := by
  refine zR_go ?_
  rw [zst_of hd rfl]
  rfl
theorem zr_ishr {a b : Int} (hd : decode q.2.2.1 pc = .ok (.ishr, 1)) : zRunD o d q pc L (vi b :: vi a :: S) G H Q ↔ zRunD o d q (pc + 1) L (vi (zshr a b) :: S) G H Q := by
  refine zR_go ?_
  rw [zst_of hd rfl]
  rfl
theorem zr_ladd {a b : Int} (hd : decode q.2.2.1 pc = .ok (.ladd, 1)) : zRunD o d q pc L (vl b :: vl a :: S) G H Q ↔ zRunD o d q (pc + 1) L (vl (zwl (a + b)) :: S) G H Q := by
  refine zR_go ?_
  rw [zst_of hd rfl]
  rfl
theorem zr_lmul {a b : Int} (hd : decode q.2.2.1 pc = .ok (.lmul, 1)) : zRunD o d q pc L (vl b :: vl a :: S) G H Q ↔ zRunD o d q (pc + 1) L (vl (zwl (a * b)) :: S) G H Q := by
  refine zR_go ?_
  rw [zst_of hd rfl]
  rfl
theorem zr_land {a b : Int} (hd : decode q.2.2.1 pc = .ok (.land, 1)) : zRunD o d q pc L (vl b :: vl a :: S) G H Q ↔ zRunD o d q (pc + 1) L (vl (zland a b) :: S) G H Q := by
  refine zR_go ?_
  rw [zst_of hd rfl]
  rfl
theorem zr_lor {a b : Int} (hd : decode q.2.2.1 pc = .ok (.lor, 1)) : zRunD o d q pc L (vl b :: vl a :: S) G H Q ↔ zRunD o d q (pc + 1) L (vl (zlor a b) :: S) G H Q := by
  refine zR_go ?_
  rw [zst_of hd rfl]
  rfl
theorem zr_lshl {a b : Int} (hd : decode q.2.2.1 pc = .ok (.lshl, 1)) : zRunD o d q pc L (vi b :: vl a :: S) G H Q ↔ zRunD o d q (pc + 1) L (vl (zlshl a b) :: S) G H Q := by
  refine zR_go ?_
  rw [zst_of hd rfl]
  rfl
theorem zr_lshr {a b : Int} (hd : decode q.2.2.1 pc = .ok (.lshr, 1)) : zRunD o d q pc L (vi b :: vl a :: S) G H Q ↔ zRunD o d q (pc + 1) L (vl (zlshr a b) :: S) G H Q := by
  refine zR_go ?_
  rw [zst_of hd rfl]
  rfl
theorem zr_lushr {a b : Int} (hd : decode q.2.2.1 pc = .ok (.lushr, 1)) : zRunD o d q pc L (vi b :: vl a :: S) G H Q ↔ zRunD o d q (pc + 1) L (vl (zlushr a b) :: S) G H Q := by
  refine zR_go ?_
  rw [zst_of hd rfl]
  rfl
theorem zr_idiv {a b : Int} (hd : decode q.2.2.1 pc = .ok (.idiv, 1)) : zRunD o d q pc L (vi b :: vi a :: S) G H Q ↔ b ≠ 0 ∧ zRunD o d q (pc + 1) L (vi (zdiv a b) :: S) G H Q := by
  refine zR_if (c := decide (b ≠ 0)) ?_ (by simp)
  rw [zst_of hd rfl]
  rfl
theorem zr_irem {a b : Int} (hd : decode q.2.2.1 pc = .ok (.irem, 1)) : zRunD o d q pc L (vi b :: vi a :: S) G H Q ↔ b ≠ 0 ∧ zRunD o d q (pc + 1) L (vi (zrem a b) :: S) G H Q := by
  refine zR_if (c := decide (b ≠ 0)) ?_ (by simp)
  rw [zst_of hd rfl]
  rfl
theorem zr_lrem {a b : Int} (hd : decode q.2.2.1 pc = .ok (.lrem, 1)) : zRunD o d q pc L (vl b :: vl a :: S) G H Q ↔ b ≠ 0 ∧ zRunD o d q (pc + 1) L (vl (zlrem a b) :: S) G H Q := by
  refine zR_if (c := decide (b ≠ 0)) ?_ (by simp)
  rw [zst_of hd rfl]
  rfl
theorem zr_i2l {a : Int} (hd : decode q.2.2.1 pc = .ok (.i2l, 1)) : zRunD o d q pc L (vi a :: S) G H Q ↔ zRunD o d q (pc + 1) L (vl a :: S) G H Q := by
  refine zR_go ?_
  rw [zst_of hd rfl]
  rfl
theorem zr_l2i {a : Int} (hd : decode q.2.2.1 pc = .ok (.l2i, 1)) : zRunD o d q pc L (vl a :: S) G H Q ↔ zRunD o d q (pc + 1) L (vi (zw a) :: S) G H Q := by
  refine zR_go ?_
  rw [zst_of hd rfl]
  rfl
theorem zr_dup {a : Nat} (hd : decode q.2.2.1 pc = .ok (.dup, 1)) : zRunD o d q pc L (vr a :: S) G H Q ↔ zRunD o d q (pc + 1) L (vr a :: vr a :: S) G H Q := by
  refine zR_go ?_
  rw [zst_of hd rfl]
  rfl
theorem zr_dup2 {a : Int} {b : Nat} (hd : decode q.2.2.1 pc = .ok (.dup2, 1)) : zRunD o d q pc L (vi a :: vr b :: S) G H Q ↔ zRunD o d q (pc + 1) L (vi a :: vr b :: vi a :: vr b :: S) G H Q := by
  refine zR_go ?_
  rw [zst_of hd rfl]
  rfl
theorem zr_pop {a : Int} (hd : decode q.2.2.1 pc = .ok (.pop, 1)) : zRunD o d q pc L (vi a :: S) G H Q ↔ zRunD o d q (pc + 1) L S G H Q := by
  refine zR_go ?_
  rw [zst_of hd rfl]
  rfl
theorem zr_goto {off : Int} {t : Nat} (hd : decode q.2.2.1 pc = .ok (.goto off, 3)) (h0 : decide (0 ≤ (pc : Int) + off) = true) (ht : zjmp pc off = t) : zRunD o d q pc L S G H Q ↔ zRunD o d q t L S G H Q := by
  refine zR_go ?_
  rw [zst_of hd rfl]
  show zif _ _ = _
  rw [h0, ht]
  rfl
theorem zr_br {t f : Nat} {S' : List zV} {c : ClassFile.Cond} {a b : Int} {P : Prop} {dP : Decidable P} (e : zst o d q pc L S G H = zgo (if zcm c a b = true then t else f) L S' G H) (hP : zcm c a b = true ↔ P) : zRunD o d q pc L S G H Q ↔ if P then zRunD o d q t L S' G H Q else zRunD o d q f L S' G H Q := by
  by_cases z : P
  · rw [if_pos z]
    rw [if_pos (hP.mpr z)] at e
    exact zR_go e
  · rw [if_neg z]
    rw [if_neg (fun w => z (hP.mp w))] at e
    exact zR_go e
theorem zr_icmp_eq {off : Int} {t : Nat} {a b : Int} (hd : decode q.2.2.1 pc = .ok (.if_icmp .eq off, 3)) (h0 : decide (0 ≤ (pc : Int) + off) = true) (ht : zjmp pc off = t) : zRunD o d q pc L (vi b :: vi a :: S) G H Q ↔ if a = b then zRunD o d q t L S G H Q else zRunD o d q (pc + 3) L S G H Q := by
  refine zr_br (c := .eq) (a := a) (b := b) ?_ zcm_eq
  rw [zst_of hd rfl]
  show zif _ _ = _
  rw [h0, ht]
  rfl
theorem zr_if_eq {off : Int} {t : Nat} {a : Int} (hd : decode q.2.2.1 pc = .ok (.ifCond .eq off, 3)) (h0 : decide (0 ≤ (pc : Int) + off) = true) (ht : zjmp pc off = t) : zRunD o d q pc L (vi a :: S) G H Q ↔ if a = 0 then zRunD o d q t L S G H Q else zRunD o d q (pc + 3) L S G H Q := by
  refine zr_br (c := .eq) (a := a) (b := 0) ?_ zcm_eq
  rw [zst_of hd rfl]
  show zif _ _ = _
  rw [h0, ht]
  rfl
theorem zr_icmp_ne {off : Int} {t : Nat} {a b : Int} (hd : decode q.2.2.1 pc = .ok (.if_icmp .ne off, 3)) (h0 : decide (0 ≤ (pc : Int) + off) = true) (ht : zjmp pc off = t) : zRunD o d q pc L (vi b :: vi a :: S) G H Q ↔ if a ≠ b then zRunD o d q t L S G H Q else zRunD o d q (pc + 3) L S G H Q := by
  refine zr_br (c := .ne) (a := a) (b := b) ?_ zcm_ne
  rw [zst_of hd rfl]
  show zif _ _ = _
  rw [h0, ht]
  rfl
theorem zr_if_ne {off : Int} {t : Nat} {a : Int} (hd : decode q.2.2.1 pc = .ok (.ifCond .ne off, 3)) (h0 : decide (0 ≤ (pc : Int) + off) = true) (ht : zjmp pc off = t) : zRunD o d q pc L (vi a :: S) G H Q ↔ if a ≠ 0 then zRunD o d q t L S G H Q else zRunD o d q (pc + 3) L S G H Q := by
  refine zr_br (c := .ne) (a := a) (b := 0) ?_ zcm_ne
  rw [zst_of hd rfl]
  show zif _ _ = _
  rw [h0, ht]
  rfl
theorem zr_icmp_lt {off : Int} {t : Nat} {a b : Int} (hd : decode q.2.2.1 pc = .ok (.if_icmp .lt off, 3)) (h0 : decide (0 ≤ (pc : Int) + off) = true) (ht : zjmp pc off = t) : zRunD o d q pc L (vi b :: vi a :: S) G H Q ↔ if a < b then zRunD o d q t L S G H Q else zRunD o d q (pc + 3) L S G H Q := by
  refine zr_br (c := .lt) (a := a) (b := b) ?_ zcm_lt
  rw [zst_of hd rfl]
  show zif _ _ = _
  rw [h0, ht]
  rfl
theorem zr_if_lt {off : Int} {t : Nat} {a : Int} (hd : decode q.2.2.1 pc = .ok (.ifCond .lt off, 3)) (h0 : decide (0 ≤ (pc : Int) + off) = true) (ht : zjmp pc off = t) : zRunD o d q pc L (vi a :: S) G H Q ↔ if a < 0 then zRunD o d q t L S G H Q else zRunD o d q (pc + 3) L S G H Q := by
  refine zr_br (c := .lt) (a := a) (b := 0) ?_ zcm_lt
  rw [zst_of hd rfl]
  show zif _ _ = _
  rw [h0, ht]
  rfl
theorem zr_icmp_ge {off : Int} {t : Nat} {a b : Int} (hd : decode q.2.2.1 pc = .ok (.if_icmp .ge off, 3)) (h0 : decide (0 ≤ (pc : Int) + off) = true) (ht : zjmp pc off = t) : zRunD o d q pc L (vi b :: vi a :: S) G H Q ↔ if b ≤ a then zRunD o d q t L S G H Q else zRunD o d q (pc + 3) L S G H Q := by
  refine zr_br (c := .ge) (a := a) (b := b) ?_ zcm_ge
  rw [zst_of hd rfl]
  show zif _ _ = _
  rw [h0, ht]
  rfl
theorem zr_if_ge {off : Int} {t : Nat} {a : Int} (hd : decode q.2.2.1 pc = .ok (.ifCond .ge off, 3)) (h0 : decide (0 ≤ (pc : Int) + off) = true) (ht : zjmp pc off = t) : zRunD o d q pc L (vi a :: S) G H Q ↔ if 0 ≤ a then zRunD o d q t L S G H Q else zRunD o d q (pc + 3) L S G H Q := by
  refine zr_br (c := .ge) (a := a) (b := 0) ?_ zcm_ge
  rw [zst_of hd rfl]
  show zif _ _ = _
  rw [h0, ht]
  rfl
theorem zr_icmp_gt {off : Int} {t : Nat} {a b : Int} (hd : decode q.2.2.1 pc = .ok (.if_icmp .gt off, 3)) (h0 : decide (0 ≤ (pc : Int) + off) = true) (ht : zjmp pc off = t) : zRunD o d q pc L (vi b :: vi a :: S) G H Q ↔ if b < a then zRunD o d q t L S G H Q else zRunD o d q (pc + 3) L S G H Q := by
  refine zr_br (c := .gt) (a := a) (b := b) ?_ zcm_gt
  rw [zst_of hd rfl]
  show zif _ _ = _
  rw [h0, ht]
  rfl
theorem zr_if_gt {off : Int} {t : Nat} {a : Int} (hd : decode q.2.2.1 pc = .ok (.ifCond .gt off, 3)) (h0 : decide (0 ≤ (pc : Int) + off) = true) (ht : zjmp pc off = t) : zRunD o d q pc L (vi a :: S) G H Q ↔ if 0 < a then zRunD o d q t L S G H Q else zRunD o d q (pc + 3) L S G H Q := by
  refine zr_br (c := .gt) (a := a) (b := 0) ?_ zcm_gt
  rw [zst_of hd rfl]
  show zif _ _ = _
  rw [h0, ht]
  rfl
theorem zr_icmp_le {off : Int} {t : Nat} {a b : Int} (hd : decode q.2.2.1 pc = .ok (.if_icmp .le off, 3)) (h0 : decide (0 ≤ (pc : Int) + off) = true) (ht : zjmp pc off = t) : zRunD o d q pc L (vi b :: vi a :: S) G H Q ↔ if a ≤ b then zRunD o d q t L S G H Q else zRunD o d q (pc + 3) L S G H Q := by
  refine zr_br (c := .le) (a := a) (b := b) ?_ zcm_le
  rw [zst_of hd rfl]
  show zif _ _ = _
  rw [h0, ht]
  rfl
theorem zr_if_le {off : Int} {t : Nat} {a : Int} (hd : decode q.2.2.1 pc = .ok (.ifCond .le off, 3)) (h0 : decide (0 ≤ (pc : Int) + off) = true) (ht : zjmp pc off = t) : zRunD o d q pc L (vi a :: S) G H Q ↔ if a ≤ 0 then zRunD o d q t L S G H Q else zRunD o d q (pc + 3) L S G H Q := by
  refine zr_br (c := .le) (a := a) (b := 0) ?_ zcm_le
  rw [zst_of hd rfl]
  show zif _ _ = _
  rw [h0, ht]
  rfl
theorem zr_geti {i a t k : Nat} {S' : List zV} (hd : decode q.2.2.1 pc = .ok (.getfield i, 3)) (hf : zfd q.1 i = some (t, k)) (hr : zrf t k = false) (hS : S = vr a :: S') : zRunD o d q pc L S G H Q ↔ zC G a t ∧ zRunD o d q (pc + 3) L (vi (H a k) :: S') G H Q := by
  subst hS
  refine zR_if (c := zCb G a t) ?_ zCb_iff
  rw [zst_of hd rfl]
  show zgetf q i (pc + 3) L (vr a :: S') G H = _
  unfold zgetf
  dsimp only
  rw [hf]
  dsimp only
  rw [hr]
theorem zr_getr {i a t k : Nat} {S' : List zV} (hd : decode q.2.2.1 pc = .ok (.getfield i, 3)) (hf : zfd q.1 i = some (t, k)) (hr : zrf t k = true) (hS : S = vr a :: S') : zRunD o d q pc L S G H Q ↔ zC G a t ∧ zlt G (zR G a k) ∧ zRunD o d q (pc + 3) L (vr (zR G a k) :: S') G H Q := by
  subst hS
  rw [← and_assoc]
  refine zR_if (c := zCb G a t && decide (G.2.2.2 a k < G.1)) ?_ (by rw [Bool.and_eq_true, zCb_iff, decide_eq_true_eq]; exact Iff.rfl)
  rw [zst_of hd rfl]
  show zgetf q i (pc + 3) L (vr a :: S') G H = _
  unfold zgetf
  dsimp only
  rw [hf]
  dsimp only
  rw [hr]
  cases zCb G a t <;> rfl
theorem zr_puti {i a t k : Nat} {z : Int} {S' : List zV} (hd : decode q.2.2.1 pc = .ok (.putfield i, 3)) (hf : zfd q.1 i = some (t, k)) (hr : zrf t k = false) (hS : S = vi z :: vr a :: S') : zRunD o d q pc L S G H Q ↔ zC G a t ∧ zRunD o d q (pc + 3) L S' G (zup H a k z) Q := by
  subst hS
  refine zR_if (c := zCb G a t) ?_ zCb_iff
  rw [zst_of hd rfl]
  show zputf q i (pc + 3) L (vi z :: vr a :: S') G H = _
  unfold zputf
  rw [hf]
  dsimp only
  rw [hr]
theorem zr_iald {a : Nat} {i : Int} {S' : List zV} (hd : decode q.2.2.1 pc = .ok (.iaload, 1)) (hS : S = vi i :: vr a :: S') : zRunD o d q pc L S G H Q ↔ (zC G a 100 ∧ 0 ≤ i ∧ i < zlen G a) ∧ zRunD o d q (pc + 1) L (vi (H a i) :: S') G H Q := by
  subst hS
  refine zR_if (c := zCb G a 100 && zInb G a i) ?_ (by rw [Bool.and_eq_true, zCb_iff, zInb_iff]; exact Iff.rfl)
  rw [zst_of hd rfl]
  rfl
theorem zr_bald {a : Nat} {i : Int} {S' : List zV} (hd : decode q.2.2.1 pc = .ok (.baload, 1)) (hS : S = vi i :: vr a :: S') : zRunD o d q pc L S G H Q ↔ (zC G a 101 ∧ 0 ≤ i ∧ i < zlen G a) ∧ zRunD o d q (pc + 1) L (vi (H a i) :: S') G H Q := by
  subst hS
  refine zR_if (c := zCb G a 101 && zInb G a i) ?_ (by rw [Bool.and_eq_true, zCb_iff, zInb_iff]; exact Iff.rfl)
  rw [zst_of hd rfl]
  rfl
theorem zr_iast {a : Nat} {i v : Int} {S' : List zV} (hd : decode q.2.2.1 pc = .ok (.iastore, 1)) (hS : S = vi v :: vi i :: vr a :: S') : zRunD o d q pc L S G H Q ↔ (zC G a 100 ∧ 0 ≤ i ∧ i < zlen G a) ∧ zRunD o d q (pc + 1) L S' G (zup H a i v) Q := by
  subst hS
  refine zR_if (c := (zCb G a 100 && zInb G a i) && (decide (100 = 100) || (decide (v = 0) || decide (v = 1)))) ?_ (by rw [Bool.and_eq_true, Bool.and_eq_true, zCb_iff, zInb_iff]; simp; exact Iff.rfl)
  rw [zst_of hd rfl]
  rfl
theorem zr_bast {a : Nat} {i v : Int} {S' : List zV} (hd : decode q.2.2.1 pc = .ok (.bastore, 1)) (hS : S = vi v :: vi i :: vr a :: S') : zRunD o d q pc L S G H Q ↔ ((zC G a 101 ∧ 0 ≤ i ∧ i < zlen G a) ∧ (v = 0 ∨ v = 1)) ∧ zRunD o d q (pc + 1) L S' G (zup H a i v) Q := by
  subst hS
  refine zR_if (c := (zCb G a 101 && zInb G a i) && (decide (101 = 100) || (decide (v = 0) || decide (v = 1)))) ?_ (by rw [Bool.and_eq_true, Bool.and_eq_true, zCb_iff, zInb_iff]; simp; exact fun _ => Iff.rfl)
  rw [zst_of hd rfl]
  rfl
theorem zr_aald {a : Nat} {i : Int} {S' : List zV} (hd : decode q.2.2.1 pc = .ok (.aaload, 1)) (hS : S = vi i :: vr a :: S') : zRunD o d q pc L S G H Q ↔ (((zC G a 102 ∨ zC G a 103) ∧ 0 ≤ i ∧ i < zlen G a) ∧ zlt G (zR G a i)) ∧ zRunD o d q (pc + 1) L (vr (zR G a i) :: S') G H Q := by
  subst hS
  refine zR_if (c := ((zCb G a 102 || zCb G a 103) && zInb G a i) && decide (G.2.2.2 a i < G.1)) ?_ (by rw [Bool.and_eq_true, Bool.and_eq_true, Bool.or_eq_true, zCb_iff, zCb_iff, zInb_iff, decide_eq_true_eq]; exact Iff.rfl)
  rw [zst_of hd rfl]
  rfl
theorem zr_aast {a x : Nat} {i : Int} {S' : List zV} (hd : decode q.2.2.1 pc = .ok (.aastore, 1)) (hS : S = vr x :: vi i :: vr a :: S') : zRunD o d q pc L S G H Q ↔ ((zC G a 102 ∧ 0 ≤ i ∧ i < zlen G a) ∧ zC G x 0) ∧ zRunD o d q (pc + 1) L S' (G.1, G.2.1, G.2.2.1, zrset G.2.2.2 a (zru (G.2.2.2 a) i x)) H Q := by
  subst hS
  refine zR_if (c := (zCb G a 102 && zInb G a i) && zCb G x 0) ?_ (by rw [Bool.and_eq_true, Bool.and_eq_true, zCb_iff, zCb_iff, zInb_iff]; exact Iff.rfl)
  rw [zst_of hd rfl]
  rfl
theorem zr_alen {a : Nat} {S' : List zV} (hd : decode q.2.2.1 pc = .ok (.arraylength, 1)) (hS : S = vr a :: S') : zRunD o d q pc L S G H Q ↔ (a < G.1 ∧ (100 ≤ (G.2.2.1 a).1 ∧ (G.2.2.1 a).1 ≤ 103) ∧ (G.2.2.1 a).2 < 2147483648) ∧ zRunD o d q (pc + 1) L (vi (zlen G a) :: S') G H Q := by
  subst hS
  refine zR_if (c := decide (a < G.1) && ((decide (100 ≤ (G.2.2.1 a).1) && decide ((G.2.2.1 a).1 ≤ 103)) && decide ((G.2.2.1 a).2 < 2147483648))) ?_ (by simp)
  rw [zst_of hd rfl]
  rfl
theorem zr_max {i : Nat} {x y : Int} {S' : List zV} (hd : decode q.2.2.1 pc = .ok (.invokestatic i, 3)) (hb : zbt q.1 i = some 0) (h1 : 1 ≤ d) (hl : S'.length ≤ 4) (hS : S = vi y :: vi x :: S') : zRunD o d q pc L S G H Q ↔ zRunD o d q (pc + 3) L (vi (max x y) :: S') G H Q := by
  subst hS
  refine zR_go ?_
  rw [zst_of hd rfl]
  show zif (decide (1 ≤ d)) (zinv q 1 i (pc + 3) L _ G H) = _
  rw [decide_eq_true h1]
  show zinv q 1 i (pc + 3) L _ G H = _
  unfold zinv
  rw [hb]
  show zif (decide (S'.length ≤ 4)) _ = _
  rw [decide_eq_true hl]
  have e : (if x < y then y else x) = max x y := by
    split <;> omega
  rw [e]
  rfl
theorem zr_min {i : Nat} {x y : Int} {S' : List zV} (hd : decode q.2.2.1 pc = .ok (.invokestatic i, 3)) (hb : zbt q.1 i = some 1) (h1 : 1 ≤ d) (hl : S'.length ≤ 4) (hS : S = vi y :: vi x :: S') : zRunD o d q pc L S G H Q ↔ zRunD o d q (pc + 3) L (vi (min x y) :: S') G H Q := by
  subst hS
  refine zR_go ?_
  rw [zst_of hd rfl]
  show zif (decide (1 ≤ d)) (zinv q 1 i (pc + 3) L _ G H) = _
  rw [decide_eq_true h1]
  show zinv q 1 i (pc + 3) L _ G H = _
  unfold zinv
  rw [hb]
  show zif (decide (S'.length ≤ 4)) _ = _
  rw [decide_eq_true hl]
  have e : (if y < x then y else x) = min x y := by
    split <;> omega
  rw [e]
  rfl
theorem zr_copy {i a b : Nat} {sp dp n : Int} {S' : List zV} (hd : decode q.2.2.1 pc = .ok (.invokestatic i, 3)) (hb : zbt q.1 i = some 2) (h1 : 1 ≤ d) (hl : S'.length ≤ 4) (hS : S = vi n :: vi dp :: vr b :: vi sp :: vr a :: S') : zRunD o d q pc L S G H Q ↔ (zC G a 100 ∧ zC G b 100 ∧ 0 ≤ sp ∧ 0 ≤ dp ∧ 0 ≤ n ∧ sp + n ≤ zlen G a ∧ dp + n ≤ zlen G b) ∧ zRunD o d q (pc + 3) L S' G (zset H b (zcpy H a b sp dp n)) Q := by
  subst hS
  refine zR_if (c := decide (S'.length ≤ 4) && ((zCb G a 100 && zCb G b 100) && ((decide (0 ≤ sp) && decide (0 ≤ dp)) && (decide (0 ≤ n) && (decide (sp + n ≤ ((G.2.2.1 a).2 : Int)) && decide (dp + n ≤ ((G.2.2.1 b).2 : Int))))))) ?_ ?_
  · rw [zst_of hd rfl]
    show zif (decide (1 ≤ d)) (zinv q 1 i (pc + 3) L _ G H) = _
    rw [decide_eq_true h1]
    show zinv q 1 i (pc + 3) L _ G H = _
    unfold zinv
    rw [hb]
    rfl
  · simp only [Bool.and_eq_true, decide_eq_true_eq, zCb_iff]
    unfold zC zlen
    constructor
    · rintro ⟨-, ⟨h2, h3⟩, ⟨h4, h5⟩, h6, h7, h8⟩
      exact ⟨h2, h3, h4, h5, h6, h7, h8⟩
    · rintro ⟨h2, h3, h4, h5, h6, h7, h8⟩
      exact ⟨hl, ⟨h2, h3⟩, ⟨h4, h5⟩, h6, h7, h8⟩
/-- calls: of an object, static -/
theorem zlist_td {α : Type} {X Y : List α} {n : Nat} (h : X.length = n) : (X ++ Y).take n = X ∧ (X ++ Y).drop n = Y := by
  subst h
  exact ⟨by simp, by simp⟩
theorem zr_callv {i na d' : Nat} {m' : zM} {as S' : List zV} {a : Nat} (hd : decode q.2.2.1 pc = .ok (.invokevirtual i, 3)) (hb : zbt q.1 i = none) (hm : zmt q.1 i = some (0, m', na)) (h1 : 1 ≤ d) (hd' : zdn d m' = d') (hS : S = (vr a :: as).reverse ++ S') (hna : (vr a :: as).length = na) (h4 : S'.length ≤ 4) (hlx : (zlx (vr a :: as)).length ≤ m'.2.2.2.1) : zRunD o d q pc L S G H Q ↔ zC G a m'.1 ∧ zCallD d' m' (vr a :: as) G H (fun r G H => zRunD o d q (pc + 3) L (r.toList ++ S') G H Q) := by
  have hlen : (vr a :: as).reverse.length = na := by rw [List.length_reverse]; exact hna
  obtain ⟨t1, t2⟩ := zlist_td (X := (vr a :: as).reverse) (Y := S') hlen
  have e : zst o d q pc L S G H = zif (zCb G a m'.1) (some (.inr (.inr (m', vr a :: as, S')))) := by
    rw [zst_of hd rfl]
    show zif (decide (1 ≤ d)) (zinv q 0 i (pc + 3) L S G H) = _
    rw [decide_eq_true h1]
    show zinv q 0 i (pc + 3) L S G H = _
    unfold zinv
    rw [hb]
    dsimp only
    rw [hm]
    dsimp only
    have hn : (((decide (na ≤ S.length) && decide (S.length ≤ na + 4)) && decide ((zlx (S.take na).reverse).length ≤ m'.2.2.2.1)) && decide (0 = 0 ∨ (0 ≠ 0 ∧ 0 = 0 + 1))) = true := by
      rw [hS, t1, List.reverse_reverse, List.length_append, hlen]
      simp only [Bool.and_eq_true, decide_eq_true_eq]
      exact ⟨⟨⟨by omega, by omega⟩, hlx⟩, Or.inl trivial⟩
    rw [hn, hS, t1, t2, List.reverse_reverse]
    rfl
  subst hd'
  cases hc : zCb G a m'.1 with
  | true =>
    rw [hc] at e
    exact (zR_call e).trans ⟨fun z => ⟨zCb_iff.mp hc, z⟩, fun z => z.2⟩
  | false =>
    rw [hc] at e
    exact ⟨fun z => absurd z (zR_none e), fun z => absurd (zCb_iff.mpr z.1) (by rw [hc]; simp)⟩
theorem zr_calls {i k na d' : Nat} {m' : zM} {as S' : List zV} (hd : decode q.2.2.1 pc = .ok (.invokestatic i, 3)) (hb : zbt q.1 i = none) (hm : zmt q.1 i = some (k, m', na)) (hk : k = 1 ∨ k = 2) (h1 : 1 ≤ d) (hd' : zdn d m' = d') (hS : S = as.reverse ++ S') (hna : as.length = na) (h4 : S'.length ≤ 4) (hlx : (zlx as).length ≤ m'.2.2.2.1) : zRunD o d q pc L S G H Q ↔ zCallD d' m' as G H (fun r G H => zRunD o d q (pc + 3) L (r.toList ++ S') G H Q) := by
  have hlen : as.reverse.length = na := by rw [List.length_reverse]; exact hna
  obtain ⟨t1, t2⟩ := zlist_td (X := as.reverse) (Y := S') hlen
  subst hd'
  refine zR_call ?_
  rw [zst_of hd rfl]
  show zif (decide (1 ≤ d)) (zinv q 1 i (pc + 3) L S G H) = _
  rw [decide_eq_true h1]
  show zinv q 1 i (pc + 3) L S G H = _
  unfold zinv
  rw [hb]
  dsimp only
  rw [hm]
  dsimp only
  have hn : (((decide (na ≤ S.length) && decide (S.length ≤ na + 4)) && decide ((zlx (S.take na).reverse).length ≤ m'.2.2.2.1)) && decide (k = 1 ∨ (1 ≠ 0 ∧ k = 1 + 1))) = true := by
    rw [hS, t1, List.reverse_reverse, List.length_append, hlen]
    simp only [Bool.and_eq_true, decide_eq_true_eq]
    exact ⟨⟨⟨by omega, by omega⟩, hlx⟩, by omega⟩
  rw [hn, hS, t1, t2, List.reverse_reverse]
  rfl
theorem zr_sw {dd lo hi a : Int} {offs : Array Int} {len t : Nat} (hd : decode q.2.2.1 pc = .ok (.tableswitch dd lo hi offs, len)) (hb : (decide (0 ≤ (pc : Int) + dd) && offs.toList.all (fun q => decide (0 ≤ (pc : Int) + q))) = true) (ht : ztab pc dd lo hi offs a = some t) : zRunD o d q pc L (vi a :: S) G H Q ↔ zRunD o d q t L S G H Q := by
  refine zR_go ?_
  rw [zst_of hd rfl]
  simp only [zstp]
  rw [hb, ht]
  rfl
theorem zr_swo {dd lo hi a : Int} {offs : Array Int} {len t : Nat} (hd : decode q.2.2.1 pc = .ok (.tableswitch dd lo hi offs, len)) (hb : (decide (0 ≤ (pc : Int) + dd) && offs.toList.all (fun q => decide (0 ≤ (pc : Int) + q))) = true) (ht : zjmp pc dd = t) (h : a < lo ∨ hi < a) : zRunD o d q pc L (vi a :: S) G H Q ↔ zRunD o d q t L S G H Q := zr_sw hd hb (by unfold ztab; rw [if_pos h, ht])
theorem zr_swl {dd a off : Int} {ps : Array (Int × Int)} {len t : Nat} (hd : decode q.2.2.1 pc = .ok (.lookupswitch dd ps, len)) (ho : Op.lookupswitch.offset ps.toList dd a = off) (hb : ((ps.toList.zip (ps.toList.drop 1)).all (fun (a, next) => a.1 < next.1) && decide (0 ≤ (pc : Int) + off)) = true) (ht : zjmp pc off = t) : zRunD o d q pc L (vi a :: S) G H Q ↔ zRunD o d q t L S G H Q := by
  refine zR_go ?_
  rw [zst_of hd rfl]
  simp only [zstp]
  rw [ho, hb, ht]
  rfl
theorem zr_sald {n : Nat} {f : Int → Int} {i : Int} (hd : decode q.2.2.1 pc = .ok (.iaload, 1)) (ho : o = some (n, f)) : zRunD o d q pc L (vi i :: vx :: S) G H Q ↔ (0 ≤ i ∧ i < (n : Int)) ∧ zRunD o d q (pc + 1) L (vi (f i) :: S) G H Q := by
  subst ho
  refine zR_if (c := decide (100 = 100) && (decide (0 ≤ i) && decide (i < (n : Int)))) ?_ (by simp)
  rw [zst_of hd rfl]
  rfl
theorem zr_slen {n : Nat} {f : Int → Int} (hd : decode q.2.2.1 pc = .ok (.arraylength, 1)) (ho : o = some (n, f)) : zRunD o d q pc L (vx :: S) G H Q ↔ zRunD o d q (pc + 1) L (vi (n : Int) :: S) G H Q := by
  subst ho
  refine zR_go ?_
  rw [zst_of hd rfl]
  rfl
theorem zr_reti {z : Int} (hd : decode q.2.2.1 pc = .ok (.ireturn, 1)) (hr : q.2.2.2.2.1 = some .int) (hS : S = [vi z]) : zRunD o d q pc L S G H Q ↔ Q (some (vi z)) G H := by
  subst hS
  refine zR_ret ?_
  rw [zst_of hd rfl]
  show zret q [vi z] = _
  unfold zret
  dsimp only
  rw [hr]
theorem zr_retz {z : Int} (hd : decode q.2.2.1 pc = .ok (.ireturn, 1)) (hr : q.2.2.2.2.1 = some .boolean) (hS : S = [vi z]) : zRunD o d q pc L S G H Q ↔ (z = 0 ∨ z = 1) ∧ Q (some (vi z)) G H := by
  subst hS
  have e : zst o d q pc L [vi z] G H = zif (decide (z = 0) || decide (z = 1)) (some (.inr (.inl (some (vi z))))) := by
    rw [zst_of hd rfl]
    show zret q [vi z] = _
    unfold zret
    dsimp only
    rw [hr]
  by_cases h : z = 0 ∨ z = 1
  · have hb : (decide (z = 0) || decide (z = 1)) = true := by simpa using h
    rw [hb] at e
    exact (zR_ret e).trans ⟨fun x => ⟨h, x⟩, fun x => x.2⟩
  · have hb : (decide (z = 0) || decide (z = 1)) = false := by simpa using h
    rw [hb] at e
    exact ⟨fun x => absurd x (zR_none e), fun x => absurd x.1 h⟩
theorem zr_retv (hd : decode q.2.2.1 pc = .ok (.return_, 1)) (hr : q.2.2.2.2.1 = none) (hS : S = []) : zRunD o d q pc L S G H Q ↔ Q none G H := by
  subst hS
  refine zR_ret ?_
  rw [zst_of hd rfl]
  simp only [zstp]
  rw [hr]
/-- one end is the only one -/
theorem zR_det {r0 : Option zV} {G0 : zG} {H0 : zH} (h : zRunD o d q pc L S G H (fun r g h => r = r0 ∧ g = G0 ∧ h = H0)) : zRunD o d q pc L S G H Q ↔ Q r0 G0 H0 := by
  obtain ⟨n, r, G1, H1, h1, rfl, rfl, rfl⟩ := h
  constructor
  · rintro ⟨k, r', G2, H2, h2, h3⟩
    have e1 := zexec_le (Nat.le_max_left n k) h1
    have e2 := zexec_le (Nat.le_max_right n k) h2
    rw [e1] at e2
    cases e2
    exact h3
  · intro h3
    exact ⟨n, r, G1, H1, h1, h3⟩
theorem zR_mono {Q' : Option zV → zG → zH → Prop} (hQ : ∀ r g h, Q r g h → Q' r g h) (h : zRunD o d q pc L S G H Q) : zRunD o d q pc L S G H Q' := by
  obtain ⟨n, r, G1, H1, h1, h2⟩ := h
  exact ⟨n, r, G1, H1, h1, hQ _ _ _ h2⟩
end ZRL
theorem zCall_det {q : zM} {as : List zV} {G : zG} {H : zH} {Q : Option zV → zG → zH → Prop} {r0 : Option zV} {G0 : zG} {H0 : zH} (h : ∀ Q' : Option zV → zG → zH → Prop, Q' r0 G0 H0 → zCall q as G H Q') : zCall q as G H Q ↔ Q r0 G0 H0 := zR_det (h _ ⟨rfl, rfl, rfl⟩)
