/-! one step of the small machine that is no call and no end -/
theorem zld_some {i pc : Nat} {L S : List zV} {G : zG} {H : zH} {x : zN} (h : zld i pc L S G H = some (.inl x)) : ∃ z, L[i]? = some (.inl z) ∧ x = (pc, L, vi z :: S, G, H) := by
  unfold zld zgo at h
  split at h
  · rename_i z e
    exact ⟨z, e, (Sum.inl.inj (Option.some.inj h)).symm⟩
  · cases h
theorem zlld_some {i pc : Nat} {L S : List zV} {G : zG} {H : zH} {x : zN} (h : zlld i pc L S G H = some (.inl x)) : ∃ z, L[i]? = some (.inr (.inl z)) ∧ x = (pc, L, vl z :: S, G, H) := by
  unfold zlld zgo at h
  split at h
  · rename_i z e
    exact ⟨z, e, (Sum.inl.inj (Option.some.inj h)).symm⟩
  · cases h
theorem zald_some {i pc : Nat} {L S : List zV} {G : zG} {H : zH} {x : zN} (h : zald i pc L S G H = some (.inl x)) : (∃ z, L[i]? = some (.inr (.inr (.inl z))) ∧ x = (pc, L, vr z :: S, G, H)) ∨ (L[i]? = some (.inr (.inr (.inr 1))) ∧ x = (pc, L, vx :: S, G, H)) := by
  unfold zald zgo at h
  split at h
  · rename_i z e
    exact Or.inl ⟨z, e, (Sum.inl.inj (Option.some.inj h)).symm⟩
  · rename_i e
    exact Or.inr ⟨e, (Sum.inl.inj (Option.some.inj h)).symm⟩
  · cases h
theorem zgo_eq {pc : Nat} {L S : List zV} {G : zG} {H : zH} {x : zN} (h : zgo pc L S G H = some (.inl x)) : x = (pc, L, S, G, H) := (Sum.inl.inj (Option.some.inj h)).symm
theorem zif_go {b : Bool} {pc : Nat} {L S : List zV} {G : zG} {H : zH} {x : zN} (h : zif b (zgo pc L S G H) = some (.inl x)) : b = true ∧ x = (pc, L, S, G, H) := ⟨(zif_some h).1, zgo_eq (zif_some h).2⟩
theorem zist_some {i pc : Nat} {L S : List zV} {G : zG} {H : zH} {x : zN} (h : zist i pc L S G H = some (.inl x)) : ∃ z S', S = .inl z :: S' ∧ i < L.length ∧ znl L i = true ∧ x = (pc, L.set i (vi z), S', G, H) := by
  unfold zist at h
  split at h
  · rename_i z S'
    obtain ⟨h1, h2⟩ := zif_go h
    simp only [Bool.and_eq_true, decide_eq_true_eq] at h1
    exact ⟨z, S', rfl, h1.1, h1.2, h2⟩
  · cases h
theorem zlst_some {i pc : Nat} {L S : List zV} {G : zG} {H : zH} {x : zN} (h : zlst i pc L S G H = some (.inl x)) : ∃ z S', S = .inr (.inl z) :: S' ∧ i + 1 < L.length ∧ znl L i = true ∧ x = (pc, (L.set i (vl z)).set (i + 1) vu, S', G, H) := by
  unfold zlst at h
  split at h
  · rename_i z S'
    obtain ⟨h1, h2⟩ := zif_go h
    simp only [Bool.and_eq_true, decide_eq_true_eq] at h1
    exact ⟨z, S', rfl, h1.1, h1.2, h2⟩
  · cases h
theorem zast_some {i pc : Nat} {L S : List zV} {G : zG} {H : zH} {x : zN} (h : zast i pc L S G H = some (.inl x)) : ∃ z S', S = .inr (.inr (.inl z)) :: S' ∧ i < L.length ∧ znl L i = true ∧ x = (pc, L.set i (vr z), S', G, H) := by
  unfold zast at h
  split at h
  · rename_i z S'
    obtain ⟨h1, h2⟩ := zif_go h
    simp only [Bool.and_eq_true, decide_eq_true_eq] at h1
    exact ⟨z, S', rfl, h1.1, h1.2, h2⟩
  · cases h
theorem zint2_some {f : Int → Int → Int} {pc : Nat} {L S : List zV} {G : zG} {H : zH} {x : zN} (h : zint2 f pc L S G H = some (.inl x)) : ∃ a b S', S = .inl b :: .inl a :: S' ∧ x = (pc, L, vi (f a b) :: S', G, H) := by
  unfold zint2 at h
  split at h
  · rename_i b a S'
    exact ⟨a, b, S', rfl, zgo_eq h⟩
  · cases h
theorem zlong2_some {f : Int → Int → Int} {pc : Nat} {L S : List zV} {G : zG} {H : zH} {x : zN} (h : zlong2 f pc L S G H = some (.inl x)) : ∃ a b S', S = .inr (.inl b) :: .inr (.inl a) :: S' ∧ x = (pc, L, vl (f a b) :: S', G, H) := by
  unfold zlong2 at h
  split at h
  · rename_i b a S'
    exact ⟨a, b, S', rfl, zgo_eq h⟩
  · cases h
theorem zlongi_some {f : Int → Int → Int} {pc : Nat} {L S : List zV} {G : zG} {H : zH} {x : zN} (h : zlongi f pc L S G H = some (.inl x)) : ∃ a b S', S = .inl b :: .inr (.inl a) :: S' ∧ x = (pc, L, vl (f a b) :: S', G, H) := by
  unfold zlongi at h
  split at h
  · rename_i b a S'
    exact ⟨a, b, S', rfl, zgo_eq h⟩
  · cases h
theorem zdivs_some {f : Int → Int → Int} {pc : Nat} {L S : List zV} {G : zG} {H : zH} {x : zN} (h : zdivs f pc L S G H = some (.inl x)) : ∃ a b S', S = .inl b :: .inl a :: S' ∧ b ≠ 0 ∧ x = (pc, L, vi (f a b) :: S', G, H) := by
  unfold zdivs at h
  split at h
  · rename_i b a S'
    obtain ⟨h1, h2⟩ := zif_go h
    exact ⟨a, b, S', rfl, by simpa using h1, h2⟩
  · cases h
section ZST
variable {p : Program} {l : Launch} {e : Env} {R : Room} {s : State} {m : MethodId} {args : Array Value} {below : List Frame} {meth : Method} {c : Code} {Q : State → Prop} {D : va_G} {cs : zCs} {A : Nat → Prop} {b n0 s0 : Nat} {ad0 : Nat → Nat} {q : zM} {pc : Nat} {L S : List zV} {G : zG} {H : zH}
theorem zs_bui (C : zCx p s m args meth c D cs A q) {i : Nat} {d : Nat} (h1d : 1 ≤ d) (hR : d ≤ R.frames ∧ 60 * d ≤ R.locals) {bb : Nat} (hi : zbt q.1 i = some bb) (hd : (bb = 3 → decode q.2.2.1 pc = .ok (.invokespecial i, 3)) ∧ (bb ≠ 3 → decode q.2.2.1 pc = .ok (.invokestatic i, 3))) {pc' : Nat} {L' S' : List zV} {G' : zG} {H' : zH} (h : zbui bb (pc + 3) L S G H = some (.inl (pc', L', S', G', H'))) (r1 : G'.1 - n0 ≤ R.cells) (r2 : G'.2.1 - s0 ≤ R.slots) (K : zGo p l e R s m args below meth c Q D cs A b n0 s0 ad0 q pc' L' S' G' H') : zGo p l e R s m args below meth c Q D cs A b n0 s0 ad0 q pc L S G H := by
  unfold zbui at h
  split at h
  · obtain ⟨h1, h2⟩ := zif_go h
    injection h2 with e1 h2; injection h2 with e2 h2; injection h2 with e3 h2; injection h2 with e4 e5
    subst e1; subst e2; subst e3; subst e4; subst e5
    exact zs_max C h1d hR r1 r2 (hd.2 (by omega)) hi (by simpa using h1) K
  · obtain ⟨h1, h2⟩ := zif_go h
    injection h2 with e1 h2; injection h2 with e2 h2; injection h2 with e3 h2; injection h2 with e4 e5
    subst e1; subst e2; subst e3; subst e4; subst e5
    exact zs_min C h1d hR r1 r2 (hd.2 (by omega)) hi (by simpa using h1) K
  · obtain ⟨h1, h2⟩ := zif_go h
    injection h2 with e1 h2; injection h2 with e2 h2; injection h2 with e3 h2; injection h2 with e4 e5
    subst e1; subst e2; subst e3; subst e4; subst e5
    simp only [Bool.and_eq_true, decide_eq_true_eq, zCb_iff] at h1
    obtain ⟨c1, ⟨⟨c2, c3⟩, ⟨c4, c5⟩⟩, ⟨c6, c7⟩, c8, c9, c10⟩ := h1
    exact zs_copy C h1d hR (hd.2 (by omega)) hi c1 c2 c3 c4 c5 c6 c7 c8 c9 c10 K
  · obtain ⟨h1, h2⟩ := zif_go h
    injection h2 with e1 h2; injection h2 with e2 h2; injection h2 with e3 h2; injection h2 with e4 e5
    subst e1; subst e2; subst e3; subst e4; subst e5
    exact zs_objinit C h1d hR (hd.1 rfl) hi (by simpa using h1) K
  · cases h
end ZST
