/-! what a run of the small machine comes to; a rule an instruction -/
theorem zexec_more : ∀ (n : Nat) {o : Option (Nat × (Int → Int))} {d : Nat} {q : zM} {pc : Nat} {L S : List zV} {G : zG} {H : zH} {x : Option zV × zG × zH}, zexec n o d q pc L S G H = some x → zexec (n + 1) o d q pc L S G H = some x
  | 0, o, d, q, pc, L, S, G, H, x, h => by simp [zexec] at h
  | n + 1, o, d, q, pc, L, S, G, H, x, h => by
    rw [zexec] at h ⊢
    split at h
    · cases h
    · exact zexec_more n h
    · exact h
    · split at h
      · cases h
      · rename_i r1 G1 H1 e2
        rw [zexec_more n e2]
        exact zexec_more n h
theorem zexec_le {n k : Nat} (hk : n ≤ k) {o : Option (Nat × (Int → Int))} {d : Nat} {q : zM} {pc : Nat} {L S : List zV} {G : zG} {H : zH} {x : Option zV × zG × zH} (h : zexec n o d q pc L S G H = some x) : zexec k o d q pc L S G H = some x := by
  induction hk with
  | refl => exact h
  | step _ ih => exact zexec_more _ ih
def zRunD (o : Option (Nat × (Int → Int))) (d : Nat) (q : zM) (pc : Nat) (L S : List zV) (G : zG) (H : zH) (Q : Option zV → zG → zH → Prop) : Prop := ∃ (n : Nat) (r : Option zV) (G' : zG) (H' : zH), zexec n o d q pc L S G H = some (r, G', H') ∧ Q r G' H'
def zRun (q : zM) (pc : Nat) (L S : List zV) (G : zG) (H : zH) (Q : Option zV → zG → zH → Prop) : Prop := zRunD none (zlev q) q pc L S G H Q
def zCallD (d : Nat) (q : zM) (as : List zV) (G : zG) (H : zH) (Q : Option zV → zG → zH → Prop) : Prop := zRunD none d q 0 (zloc q as) [] G H Q
def zCall (q : zM) (as : List zV) (G : zG) (H : zH) (Q : Option zV → zG → zH → Prop) : Prop := zCallD (zlev q) q as G H Q
section ZRL
variable {o : Option (Nat × (Int → Int))} {d : Nat} {q : zM} {pc : Nat} {L S : List zV} {G : zG} {H : zH} {Q : Option zV → zG → zH → Prop}
theorem zR_next {pc' : Nat} {L' S' : List zV} {G' : zG} {H' : zH} (h : zst o d q pc L S G H = some (.inl (pc', L', S', G', H'))) : zRunD o d q pc L S G H Q ↔ zRunD o d q pc' L' S' G' H' Q := by
  constructor
  · rintro ⟨n, r, G1, H1, h1, h2⟩
    cases n with
    | zero => simp [zexec] at h1
    | succ n =>
      rw [zexec, h] at h1
      exact ⟨n, r, G1, H1, h1, h2⟩
  · rintro ⟨n, r, G1, H1, h1, h2⟩
    refine ⟨n + 1, r, G1, H1, ?_, h2⟩
    rw [zexec, h]
    exact h1
theorem zR_ret {r : Option zV} (h : zst o d q pc L S G H = some (.inr (.inl r))) : zRunD o d q pc L S G H Q ↔ Q r G H := by
  constructor
  · rintro ⟨n, r1, G1, H1, h1, h2⟩
    cases n with
    | zero => simp [zexec] at h1
    | succ n =>
      rw [zexec, h] at h1
      cases h1
      exact h2
  · intro h1
    refine ⟨1, r, G, H, ?_, h1⟩
    rw [zexec, h]
theorem zR_none (h : zst o d q pc L S G H = none) : ¬ zRunD o d q pc L S G H Q := by
  rintro ⟨n, r1, G1, H1, h1, h2⟩
  cases n with
  | zero => simp [zexec] at h1
  | succ n =>
    rw [zexec, h] at h1
    cases h1
theorem zR_call {m' : zM} {as S' : List zV} (h : zst o d q pc L S G H = some (.inr (.inr (m', as, S')))) : zRunD o d q pc L S G H Q ↔ zCallD (zdn d m') m' as G H (fun r G' H' => zRunD o d q (pc + 3) L (r.toList ++ S') G' H' Q) := by
  constructor
  · rintro ⟨n, r, G1, H1, h1, h2⟩
    cases n with
    | zero => simp [zexec] at h1
    | succ n =>
      rw [zexec, h] at h1
      dsimp only at h1
      split at h1
      · cases h1
      · rename_i r0 G0 H0 e
        exact ⟨n, r0, G0, H0, e, n, r, G1, H1, h1, h2⟩
  · rintro ⟨n, r0, G0, H0, e, k, r, G1, H1, h1, h2⟩
    refine ⟨n + k + 1, r, G1, H1, ?_, h2⟩
    rw [zexec, h]
    dsimp only
    rw [zexec_le (Nat.le_add_right n k) e]
    exact zexec_le (Nat.le_add_left k n) h1
theorem zst_of {op : Instr} {len : Nat} (hd : decode q.2.2.1 pc = .ok (op, len)) (hl : zlo op len = true) : zst o d q pc L S G H = zstp o d q pc op len L S G H := by
  unfold zst
  rw [hd]
  show zif (zlo op len) _ = _
  rw [hl]
  rfl
/-- a step under a condition -/
theorem zR_if {P : Prop} {c : Bool} {pc' : Nat} {L' S' : List zV} {G' : zG} {H' : zH} (h : zst o d q pc L S G H = zif c (zgo pc' L' S' G' H')) (hc : c = true ↔ P) : zRunD o d q pc L S G H Q ↔ P ∧ zRunD o d q pc' L' S' G' H' Q := by
  cases c with
  | true => exact (zR_next h).trans ⟨fun z => ⟨hc.mp rfl, z⟩, fun z => z.2⟩
  | false => exact ⟨fun z => absurd z (zR_none h), fun z => absurd (hc.mpr z.1) (by simp)⟩
theorem zR_go {pc' : Nat} {L' S' : List zV} {G' : zG} {H' : zH} (h : zst o d q pc L S G H = zgo pc' L' S' G' H') : zRunD o d q pc L S G H Q ↔ zRunD o d q pc' L' S' G' H' Q := zR_next h
theorem zr_const {op : Instr} {len pc' : Nat} {v : zV} (hd : decode q.2.2.1 pc = .ok (op, len)) (h : ∀ (L S : List zV) (G : zG) (H : zH), zif (zlo op len) (zstp o d q pc op len L S G H) = zgo pc' L (v :: S) G H) : zRunD o d q pc L S G H Q ↔ zRunD o d q pc' L (v :: S) G H Q := by
  refine zR_go ?_
  unfold zst
  rw [hd]
  exact h L S G H
theorem zr_ld {op : Instr} {len i pc' : Nat} {z : Int} (hd : decode q.2.2.1 pc = .ok (op, len)) (h : ∀ (L S : List zV) (G : zG) (H : zH), zif (zlo op len) (zstp o d q pc op len L S G H) = zld i pc' L S G H) (hL : L[i]? = some (.inl z)) : zRunD o d q pc L S G H Q ↔ zRunD o d q pc' L (vi z :: S) G H Q := by
  refine zR_go ?_
  unfold zst
  rw [hd]
  refine (h L S G H).trans ?_
  unfold zld
  rw [hL]
theorem zr_lld {op : Instr} {len i pc' : Nat} {z : Int} (hd : decode q.2.2.1 pc = .ok (op, len)) (h : ∀ (L S : List zV) (G : zG) (H : zH), zif (zlo op len) (zstp o d q pc op len L S G H) = zlld i pc' L S G H) (hL : L[i]? = some (.inr (.inl z))) : zRunD o d q pc L S G H Q ↔ zRunD o d q pc' L (vl z :: S) G H Q := by
  refine zR_go ?_
  unfold zst
  rw [hd]
  refine (h L S G H).trans ?_
  unfold zlld
  rw [hL]
theorem zr_ald {op : Instr} {len i pc' : Nat} {z : Nat} (hd : decode q.2.2.1 pc = .ok (op, len)) (h : ∀ (L S : List zV) (G : zG) (H : zH), zif (zlo op len) (zstp o d q pc op len L S G H) = zald i pc' L S G H) (hL : L[i]? = some (.inr (.inr (.inl z)))) : zRunD o d q pc L S G H Q ↔ zRunD o d q pc' L (vr z :: S) G H Q := by
  refine zR_go ?_
  unfold zst
  rw [hd]
  refine (h L S G H).trans ?_
  unfold zald
  rw [hL]
theorem zr_xld {op : Instr} {len i pc' : Nat} (hd : decode q.2.2.1 pc = .ok (op, len)) (h : ∀ (L S : List zV) (G : zG) (H : zH), zif (zlo op len) (zstp o d q pc op len L S G H) = zald i pc' L S G H) (hL : L[i]? = some (.inr (.inr (.inr 1)))) : zRunD o d q pc L S G H Q ↔ zRunD o d q pc' L (vx :: S) G H Q := by
  refine zR_go ?_
  unfold zst
  rw [hd]
  refine (h L S G H).trans ?_
  unfold zald
  rw [hL]
  rfl
/-- stores, and all that is a function of locals and stack alone: the new ones are computed -/
theorem zr_go {op : Instr} {len pc' : Nat} {L' S' : List zV} {H' : zH} (hd : decode q.2.2.1 pc = .ok (op, len)) (h : zif (zlo op len) (zstp o d q pc op len L S G H) = zgo pc' L' S' G H') : zRunD o d q pc L S G H Q ↔ zRunD o d q pc' L' S' G H' Q := by
  refine zR_go ?_
  unfold zst
  rw [hd]
  exact h
theorem zr_div {op : Instr} {len pc' : Nat} {b : Int} {S' : List zV} (hd : decode q.2.2.1 pc = .ok (op, len)) (h : zif (zlo op len) (zstp o d q pc op len L S G H) = zif (decide (b ≠ 0)) (zgo pc' L S' G H)) : zRunD o d q pc L S G H Q ↔ b ≠ 0 ∧ zRunD o d q pc' L S' G H Q := by
  refine zR_if (c := decide (b ≠ 0)) ?_ (by simp)
  unfold zst
  rw [hd]
  exact h
theorem zr_br {op : Instr} {len t f : Nat} {S' : List zV} {c : ClassFile.Cond} {a b : Int} {P : Prop} (dP : Decidable P) (hd : decode q.2.2.1 pc = .ok (op, len)) (h : zif (zlo op len) (zstp o d q pc op len L S G H) = zgo (if zcm c a b = true then t else f) L S' G H) (hP : zcm c a b = true ↔ P) : zRunD o d q pc L S G H Q ↔ if P then zRunD o d q t L S' G H Q else zRunD o d q f L S' G H Q := by
  have e : zst o d q pc L S G H = zgo (if zcm c a b = true then t else f) L S' G H := by
    unfold zst
    rw [hd]
    exact h
  by_cases z : P
  · rw [if_pos z]
    rw [if_pos (hP.mpr z)] at e
    exact zR_go e
  · rw [if_neg z]
    rw [if_neg (fun w => z (hP.mp w))] at e
    exact zR_go e
theorem zr_geti {i a t k : Nat} {S' : List zV} (hd : decode q.2.2.1 pc = .ok (.getfield i, 3)) (hf : zfd q.1 i = some (t, k)) (hr : zrf t k = false) (hS : S = vr a :: S') : zRunD o d q pc L S G H Q ↔ zC G a t ∧ zRunD o d q (pc + 3) L (vi (H a k) :: S') G H Q := by
  subst hS
  refine zR_if (c := zCb G a t) ?_ zCb_iff
  rw [zst_of hd rfl]
  show zgetf q i (pc + 3) L (vr a :: S') G H = _
  unfold zgetf
  dsimp only
  rw [hf]
  dsimp only
  rw [hr]
theorem zr_getr {i a t k : Nat} {S' : List zV} (hd : decode q.2.2.1 pc = .ok (.getfield i, 3)) (hf : zfd q.1 i = some (t, k)) (hr : zrf t k = true) (hS : S = vr a :: S') : zRunD o d q pc L S G H Q ↔ zC G a t ∧ zlt G (zR G a k) ∧ zRunD o d q (pc + 3) L (vr (zR G a k) :: S') G H Q := by
  subst hS
  rw [← and_assoc]
  refine zR_if (c := zCb G a t && decide (G.2.2.2 a k < G.1)) ?_ (by rw [Bool.and_eq_true, zCb_iff, decide_eq_true_eq]; exact Iff.rfl)
  rw [zst_of hd rfl]
  show zgetf q i (pc + 3) L (vr a :: S') G H = _
  unfold zgetf
  dsimp only
  rw [hf]
  dsimp only
  rw [hr]
  cases zCb G a t <;> rfl
theorem zr_puti {i a t k : Nat} {z : Int} {S' : List zV} (hd : decode q.2.2.1 pc = .ok (.putfield i, 3)) (hf : zfd q.1 i = some (t, k)) (hr : zrf t k = false) (hS : S = vi z :: vr a :: S') : zRunD o d q pc L S G H Q ↔ zC G a t ∧ zRunD o d q (pc + 3) L S' G (zup H a k z) Q := by
  subst hS
  refine zR_if (c := zCb G a t) ?_ zCb_iff
  rw [zst_of hd rfl]
  show zputf q i (pc + 3) L (vi z :: vr a :: S') G H = _
  unfold zputf
  rw [hf]
  dsimp only
  rw [hr]
theorem zr_iald {a : Nat} {i : Int} {S' : List zV} (hd : decode q.2.2.1 pc = .ok (.iaload, 1)) (hS : S = vi i :: vr a :: S') : zRunD o d q pc L S G H Q ↔ (zC G a 100 ∧ 0 ≤ i ∧ i < zlen G a) ∧ zRunD o d q (pc + 1) L (vi (H a i) :: S') G H Q := by
  subst hS
  refine zR_if (c := zCb G a 100 && zInb G a i) ?_ (by rw [Bool.and_eq_true, zCb_iff, zInb_iff]; exact Iff.rfl)
  rw [zst_of hd rfl]
  rfl
theorem zr_bald {a : Nat} {i : Int} {S' : List zV} (hd : decode q.2.2.1 pc = .ok (.baload, 1)) (hS : S = vi i :: vr a :: S') : zRunD o d q pc L S G H Q ↔ (zC G a 101 ∧ 0 ≤ i ∧ i < zlen G a) ∧ zRunD o d q (pc + 1) L (vi (H a i) :: S') G H Q := by
  subst hS
  refine zR_if (c := zCb G a 101 && zInb G a i) ?_ (by rw [Bool.and_eq_true, zCb_iff, zInb_iff]; exact Iff.rfl)
  rw [zst_of hd rfl]
  rfl
theorem zr_iast {a : Nat} {i v : Int} {S' : List zV} (hd : decode q.2.2.1 pc = .ok (.iastore, 1)) (hS : S = vi v :: vi i :: vr a :: S') : zRunD o d q pc L S G H Q ↔ (zC G a 100 ∧ 0 ≤ i ∧ i < zlen G a) ∧ zRunD o d q (pc + 1) L S' G (zup H a i v) Q := by
  subst hS
  refine zR_if (c := (zCb G a 100 && zInb G a i) && (decide (100 = 100) || (decide (v = 0) || decide (v = 1)))) ?_ (by rw [Bool.and_eq_true, Bool.and_eq_true, zCb_iff, zInb_iff]; simp; exact Iff.rfl)
  rw [zst_of hd rfl]
  rfl
theorem zr_bast {a : Nat} {i v : Int} {S' : List zV} (hd : decode q.2.2.1 pc = .ok (.bastore, 1)) (hS : S = vi v :: vi i :: vr a :: S') : zRunD o d q pc L S G H Q ↔ ((zC G a 101 ∧ 0 ≤ i ∧ i < zlen G a) ∧ (v = 0 ∨ v = 1)) ∧ zRunD o d q (pc + 1) L S' G (zup H a i v) Q := by
  subst hS
  refine zR_if (c := (zCb G a 101 && zInb G a i) && (decide (101 = 100) || (decide (v = 0) || decide (v = 1)))) ?_ (by rw [Bool.and_eq_true, Bool.and_eq_true, zCb_iff, zInb_iff]; simp; exact fun _ => Iff.rfl)
  rw [zst_of hd rfl]
  rfl
theorem zr_aald {a : Nat} {i : Int} {S' : List zV} (hd : decode q.2.2.1 pc = .ok (.aaload, 1)) (hS : S = vi i :: vr a :: S') : zRunD o d q pc L S G H Q ↔ (((zC G a 102 ∨ zC G a 103) ∧ 0 ≤ i ∧ i < zlen G a) ∧ zlt G (zR G a i)) ∧ zRunD o d q (pc + 1) L (vr (zR G a i) :: S') G H Q := by
  subst hS
  refine zR_if (c := ((zCb G a 102 || zCb G a 103) && zInb G a i) && decide (G.2.2.2 a i < G.1)) ?_ (by rw [Bool.and_eq_true, Bool.and_eq_true, Bool.or_eq_true, zCb_iff, zCb_iff, zInb_iff, decide_eq_true_eq]; exact Iff.rfl)
  rw [zst_of hd rfl]
  rfl
theorem zr_aast {a x : Nat} {i : Int} {S' : List zV} (hd : decode q.2.2.1 pc = .ok (.aastore, 1)) (hS : S = vr x :: vi i :: vr a :: S') : zRunD o d q pc L S G H Q ↔ ((zC G a 102 ∧ 0 ≤ i ∧ i < zlen G a) ∧ zC G x 0) ∧ zRunD o d q (pc + 1) L S' (G.1, G.2.1, G.2.2.1, zrset G.2.2.2 a (zru (G.2.2.2 a) i x)) H Q := by
  subst hS
  refine zR_if (c := (zCb G a 102 && zInb G a i) && zCb G x 0) ?_ (by rw [Bool.and_eq_true, Bool.and_eq_true, zCb_iff, zCb_iff, zInb_iff]; exact Iff.rfl)
  rw [zst_of hd rfl]
  rfl
theorem zr_alen {a : Nat} {S' : List zV} (hd : decode q.2.2.1 pc = .ok (.arraylength, 1)) (hS : S = vr a :: S') : zRunD o d q pc L S G H Q ↔ (a < G.1 ∧ (100 ≤ (G.2.2.1 a).1 ∧ (G.2.2.1 a).1 ≤ 103) ∧ (G.2.2.1 a).2 < 2147483648) ∧ zRunD o d q (pc + 1) L (vi (zlen G a) :: S') G H Q := by
  subst hS
  refine zR_if (c := decide (a < G.1) && ((decide (100 ≤ (G.2.2.1 a).1) && decide ((G.2.2.1 a).1 ≤ 103)) && decide ((G.2.2.1 a).2 < 2147483648))) ?_ (by simp)
  rw [zst_of hd rfl]
  rfl
theorem zr_max {i : Nat} {x y : Int} {S' : List zV} (hd : decode q.2.2.1 pc = .ok (.invokestatic i, 3)) (hb : zbt q.1 i = some 0) (h1 : 1 ≤ d) (hl : S'.length ≤ 4) (hS : S = vi y :: vi x :: S') : zRunD o d q pc L S G H Q ↔ zRunD o d q (pc + 3) L (vi (max x y) :: S') G H Q := by
  subst hS
  refine zR_go ?_
  rw [zst_of hd rfl]
  show zif (decide (1 ≤ d)) (zinv q 1 i (pc + 3) L _ G H) = _
  rw [decide_eq_true h1]
  show zinv q 1 i (pc + 3) L _ G H = _
  unfold zinv
  rw [hb]
  show zif (decide (S'.length ≤ 4)) _ = _
  rw [decide_eq_true hl]
  have e : (if x < y then y else x) = max x y := by
    split <;> omega
  rw [e]
  rfl
theorem zr_min {i : Nat} {x y : Int} {S' : List zV} (hd : decode q.2.2.1 pc = .ok (.invokestatic i, 3)) (hb : zbt q.1 i = some 1) (h1 : 1 ≤ d) (hl : S'.length ≤ 4) (hS : S = vi y :: vi x :: S') : zRunD o d q pc L S G H Q ↔ zRunD o d q (pc + 3) L (vi (min x y) :: S') G H Q := by
  subst hS
  refine zR_go ?_
  rw [zst_of hd rfl]
  show zif (decide (1 ≤ d)) (zinv q 1 i (pc + 3) L _ G H) = _
  rw [decide_eq_true h1]
  show zinv q 1 i (pc + 3) L _ G H = _
  unfold zinv
  rw [hb]
  show zif (decide (S'.length ≤ 4)) _ = _
  rw [decide_eq_true hl]
  have e : (if y < x then y else x) = min x y := by
    split <;> omega
  rw [e]
  rfl
theorem zr_copy {i a b : Nat} {sp dp n : Int} {S' : List zV} (hd : decode q.2.2.1 pc = .ok (.invokestatic i, 3)) (hb : zbt q.1 i = some 2) (h1 : 1 ≤ d) (hl : S'.length ≤ 4) (hS : S = vi n :: vi dp :: vr b :: vi sp :: vr a :: S') : zRunD o d q pc L S G H Q ↔ (zC G a 100 ∧ zC G b 100 ∧ 0 ≤ sp ∧ 0 ≤ dp ∧ 0 ≤ n ∧ sp + n ≤ zlen G a ∧ dp + n ≤ zlen G b) ∧ zRunD o d q (pc + 3) L S' G (zset H b (zcpy H a b sp dp n)) Q := by
  subst hS
  refine zR_if (c := decide (S'.length ≤ 4) && ((zCb G a 100 && zCb G b 100) && ((decide (0 ≤ sp) && decide (0 ≤ dp)) && (decide (0 ≤ n) && (decide (sp + n ≤ ((G.2.2.1 a).2 : Int)) && decide (dp + n ≤ ((G.2.2.1 b).2 : Int))))))) ?_ ?_
  · rw [zst_of hd rfl]
    show zif (decide (1 ≤ d)) (zinv q 1 i (pc + 3) L _ G H) = _
    rw [decide_eq_true h1]
    show zinv q 1 i (pc + 3) L _ G H = _
    unfold zinv
    rw [hb]
    rfl
  · simp only [Bool.and_eq_true, decide_eq_true_eq, zCb_iff]
    unfold zC zlen
    constructor
    · rintro ⟨-, ⟨h2, h3⟩, ⟨h4, h5⟩, h6, h7, h8⟩
      exact ⟨h2, h3, h4, h5, h6, h7, h8⟩
    · rintro ⟨h2, h3, h4, h5, h6, h7, h8⟩
      exact ⟨hl, ⟨h2, h3⟩, ⟨h4, h5⟩, h6, h7, h8⟩
/-- calls: of an object, static, a beginning -/
theorem zr_callv {i k na : Nat} {m' : zM} {as : List zV} {a : Nat} {S' : List zV} (hd : decode q.2.2.1 pc = .ok (.invokevirtual i, 3)) (hb : zbt q.1 i = none) (hm : zmt q.1 i = some (0, m', na)) (h1 : 1 ≤ d) (hn : ((decide (na ≤ S.length) && decide (S.length ≤ na + 4)) && decide ((zlx (S.take na).reverse).length ≤ m'.2.2.2.1)) = true) (hS : (S.take na).reverse = vr a :: as) (hS2 : S.drop na = S') : zRunD o d q pc L S G H Q ↔ zC G a m'.1 ∧ zCallD (zdn d m') m' (vr a :: as) G H (fun r G' H' => zRunD o d q (pc + 3) L (r.toList ++ S') G' H' Q) := by
  have e : zst o d q pc L S G H = zif (zCb G a m'.1) (some (.inr (.inr (m', vr a :: as, S')))) := by
    rw [zst_of hd rfl]
    show zif (decide (1 ≤ d)) (zinv q 0 i (pc + 3) L S G H) = _
    rw [decide_eq_true h1]
    show zinv q 0 i (pc + 3) L S G H = _
    unfold zinv
    rw [hb]
    dsimp only
    rw [hm]
    dsimp only
    rw [hn, hS, hS2]
    rfl
  cases hc : zCb G a m'.1 with
  | true =>
    rw [hc] at e
    exact (zR_call e).trans ⟨fun z => ⟨zCb_iff.mp hc, z⟩, fun z => z.2⟩
  | false =>
    rw [hc] at e
    exact ⟨fun z => absurd z (zR_none e), fun z => absurd (zCb_iff.mpr z.1) (by rw [hc]; simp)⟩
theorem zr_calls {i k na : Nat} {m' : zM} {as S' : List zV} (hd : decode q.2.2.1 pc = .ok (.invokestatic i, 3)) (hb : zbt q.1 i = none) (hm : zmt q.1 i = some (k, m', na)) (hk : k = 1 ∨ k = 2) (h1 : 1 ≤ d) (hn : ((decide (na ≤ S.length) && decide (S.length ≤ na + 4)) && decide ((zlx (S.take na).reverse).length ≤ m'.2.2.2.1)) = true) (hS : (S.take na).reverse = as) (hS2 : S.drop na = S') : zRunD o d q pc L S G H Q ↔ zCallD (zdn d m') m' as G H (fun r G' H' => zRunD o d q (pc + 3) L (r.toList ++ S') G' H' Q) := by
  refine zR_call ?_
  rw [zst_of hd rfl]
  show zif (decide (1 ≤ d)) (zinv q 1 i (pc + 3) L S G H) = _
  rw [decide_eq_true h1]
  show zinv q 1 i (pc + 3) L S G H = _
  unfold zinv
  rw [hb]
  dsimp only
  rw [hm]
  dsimp only
  rw [hn, hS, hS2]
  rcases hk with rfl | rfl <;> rfl
theorem zr_reti {z : Int} (hd : decode q.2.2.1 pc = .ok (.ireturn, 1)) (hr : q.2.2.2.2.1 = some .int) (hS : S = [vi z]) : zRunD o d q pc L S G H Q ↔ Q (some (vi z)) G H := by
  subst hS
  refine zR_ret ?_
  rw [zst_of hd rfl]
  show zret q [vi z] = _
  unfold zret
  dsimp only
  rw [hr]
theorem zr_retz {z : Int} (hd : decode q.2.2.1 pc = .ok (.ireturn, 1)) (hr : q.2.2.2.2.1 = some .boolean) (hS : S = [vi z]) : zRunD o d q pc L S G H Q ↔ (z = 0 ∨ z = 1) ∧ Q (some (vi z)) G H := by
  subst hS
  have e : zst o d q pc L [vi z] G H = zif (decide (z = 0) || decide (z = 1)) (some (.inr (.inl (some (vi z))))) := by
    rw [zst_of hd rfl]
    show zret q [vi z] = _
    unfold zret
    dsimp only
    rw [hr]
  by_cases h : z = 0 ∨ z = 1
  · have hb : (decide (z = 0) || decide (z = 1)) = true := by simpa using h
    rw [hb] at e
    exact (zR_ret e).trans ⟨fun x => ⟨h, x⟩, fun x => x.2⟩
  · have hb : (decide (z = 0) || decide (z = 1)) = false := by simpa using h
    rw [hb] at e
    exact ⟨fun x => absurd x (zR_none e), fun x => absurd x.1 h⟩
theorem zr_retv (hd : decode q.2.2.1 pc = .ok (.return_, 1)) (hr : q.2.2.2.2.1 = none) (hS : S = []) : zRunD o d q pc L S G H Q ↔ Q none G H := by
  subst hS
  refine zR_ret ?_
  rw [zst_of hd rfl]
  simp only [zstp]
  rw [hr]
/-- a switch: where it goes -/
theorem zr_sw {op : Instr} {len t : Nat} {S' : List zV} (hd : decode q.2.2.1 pc = .ok (op, len)) (h : zif (zlo op len) (zstp o d q pc op len L S G H) = zgo t L S' G H) : zRunD o d q pc L S G H Q ↔ zRunD o d q t L S' G H Q := zr_go hd h
/-- one end is the only one -/
theorem zR_det {r0 : Option zV} {G0 : zG} {H0 : zH} (h : zRunD o d q pc L S G H (fun r g h => r = r0 ∧ g = G0 ∧ h = H0)) : zRunD o d q pc L S G H Q ↔ Q r0 G0 H0 := by
  obtain ⟨n, r, G1, H1, h1, rfl, rfl, rfl⟩ := h
  constructor
  · rintro ⟨k, r', G2, H2, h2, h3⟩
    have e1 := zexec_le (Nat.le_max_left n k) h1
    have e2 := zexec_le (Nat.le_max_right n k) h2
    rw [e1] at e2
    cases e2
    exact h3
  · intro h3
    exact ⟨n, r, G1, H1, h1, h3⟩
theorem zR_mono {Q' : Option zV → zG → zH → Prop} (hQ : ∀ r g h, Q r g h → Q' r g h) (h : zRunD o d q pc L S G H Q) : zRunD o d q pc L S G H Q' := by
  obtain ⟨n, r, G1, H1, h1, h2⟩ := h
  exact ⟨n, r, G1, H1, h1, hQ _ _ _ h2⟩
end ZRL
theorem zCall_det {q : zM} {as : List zV} {G : zG} {H : zH} {Q : Option zV → zG → zH → Prop} {r0 : Option zV} {G0 : zG} {H0 : zH} (h : ∀ Q' : Option zV → zG → zH → Prop, Q' r0 G0 H0 → zCall q as G H Q') : zCall q as G H Q ↔ Q r0 G0 H0 := zR_det (h _ ⟨rfl, rfl, rfl⟩)
