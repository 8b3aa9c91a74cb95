/-! what the tables say of the classes and of the links -/
def zTB : List Cond := lw_tbl.filter goodWord
theorem zTB_of {w : Cond} (h : w ∈ lw_tbl) (g : goodWord w = true) : w ∈ zTB := List.mem_filter.mpr ⟨h, g⟩
def zcn (c : Nat) : String := [RX0, RX1, RX2, RX3, RX4, RX5, RX6, RX7, RX8, RX9, RL].getD c ""
def zT (c : Nat) : u_T := [TX0, TX1, TX2, TX3, TX4, TX5, TX6, TX7, TX8, TX9].getD c TX0
def zty (c : Nat) : Nat → FieldType := [tyX0, tyX1, tyX2, tyX3, tyX4, tyX5, tyX6, tyX7, tyX8, tyX9].getD c tyX0
def zc10 (P : Nat → Prop) : Prop := P 0 ∧ P 1 ∧ P 2 ∧ P 3 ∧ P 4 ∧ P 5 ∧ P 6 ∧ P 7 ∧ P 8 ∧ P 9
theorem zc10_of {P : Nat → Prop} (h : zc10 P) {c : Nat} (hc : c < 10) : P c := by
  obtain ⟨h0, h1, h2, h3, h4, h5, h6, h7, h8, h9⟩ := h
  rcases (show c = 0 ∨ c = 1 ∨ c = 2 ∨ c = 3 ∨ c = 4 ∨ c = 5 ∨ c = 6 ∨ c = 7 ∨ c = 8 ∨ c = 9 by omega) with rfl | rfl | rfl | rfl | rfl | rfl | rfl | rfl | rfl | rfl <;> assumption
theorem zk_cl {c : Nat} (hc : c < 10) : vwCl[c]? = some (zcn c, zT c, zNN c) := zc10_of (P := fun c => vwCl[c]? = some (zcn c, zT c, zNN c)) ⟨rfl, rfl, rfl, rfl, rfl, rfl, rfl, rfl, rfl, rfl⟩ hc
theorem zk_pd {c : Nat} (hc : c < 10) : ∀ k, k < zNN c → parseFieldDescriptor (zT c k).2.2.1 = some (zty c k) := zc10_of (P := fun c => ∀ k, k < zNN c → parseFieldDescriptor (zT c k).2.2.1 = some (zty c k)) ⟨tyX0_ok, tyX1_ok, tyX2_ok, tyX3_ok, tyX4_ok, tyX5_ok, tyX6_ok, tyX7_ok, tyX8_ok, tyX9_ok⟩ hc
theorem zk_nm {c : Nat} (hc : c < 10) : ∀ a, a < zNN c → ∀ b, b < zNN c → a ≠ b → (zT c a).2.1 ≠ (zT c b).2.1 := zc10_of (P := fun c => ∀ a, a < zNN c → ∀ b, b < zNN c → a ≠ b → (zT c a).2.1 ≠ (zT c b).2.1) ⟨nmX0, nmX1, nmX2, nmX3, nmX4, nmX5, nmX6, nmX7, nmX8, nmX9⟩ hc
theorem zk_ow {c : Nat} (hc : c < 10) : ∀ k, k < zNN c → (zT c k).1 = zcn c ∧ (zT c k).2.2.2 = zrf c k := zc10_of (P := fun c => ∀ k, k < zNN c → (zT c k).1 = zcn c ∧ (zT c k).2.2.2 = zrf c k) ⟨by decide +kernel, by decide +kernel, by decide +kernel, by decide +kernel, by decide +kernel, by decide +kernel, by decide +kernel, by decide +kernel, by decide +kernel, by decide +kernel⟩ hc
/-- a reference, or an int -/
def zisr : FieldType → Bool
  | .object _ => true
  | .array _ => true
  | _ => false
theorem zk_ty {c : Nat} (hc : c < 10) : ∀ k, k < zNN c → (zrf c k = true → zisr (zty c k) = true) ∧ (zrf c k = false → zty c k = .int) := zc10_of (P := fun c => ∀ k, k < zNN c → (zrf c k = true → zisr (zty c k) = true) ∧ (zrf c k = false → zty c k = .int)) ⟨by decide +kernel, by decide +kernel, by decide +kernel, by decide +kernel, by decide +kernel, by decide +kernel, by decide +kernel, by decide +kernel, by decide +kernel, by decide +kernel⟩ hc
theorem zk_in1 : zc10 (fun c => ∀ w ∈ u_ws (zcn c) (zT c) (zNN c), w ∈ lw_tbl) := by
  refine ⟨?_, ?_, ?_, ?_, ?_, ?_, ?_, ?_, ?_, ?_⟩ <;> decide +kernel
theorem zk_in2 {c : Nat} (hc : c < 10) : ∀ w ∈ u_ws (zcn c) (zT c) (zNN c), w ∈ zTB := by
  intro w hw
  refine zTB_of (zc10_of zk_in1 hc w hw) ?_
  obtain ⟨k, -, rfl⟩ := List.mem_map.mp hw
  unfold u_lay
  split <;> rfl
theorem zk_mk1 : zc10 (fun c => Cond.instantiable (zcn c) (zNN c) ∈ lw_tbl ∧ Cond.initialized (zcn c) ∈ lw_tbl) := by
  refine ⟨?_, ?_, ?_, ?_, ?_, ?_, ?_, ?_, ?_, ?_⟩ <;> decide +kernel
theorem zk_mk {c : Nat} (hc : c < 10) : Cond.instantiable (zcn c) (zNN c) ∈ zTB ∧ Cond.initialized (zcn c) ∈ zTB := ⟨zTB_of (zc10_of zk_mk1 hc).1 rfl, zTB_of (zc10_of zk_mk1 hc).2 rfl⟩
theorem zlk_mem {α : Type} {l : List (Nat × α)} {i : Nat} {v : α} (h : l.lookup i = some v) : (i, v) ∈ l := by
  induction l with
  | nil => simp at h
  | cons a l ih =>
    rw [List.lookup_cons] at h
    by_cases e : i = a.1
    · subst e
      simp at h
      subst h
      exact List.mem_cons_self
    · have e2 : (i == a.1) = false := by simpa using e
      rw [e2] at h
      exact List.mem_cons_of_mem _ (ih h)
theorem zgd_mem {α : Type} (ls : List (List (Nat × α))) {c i : Nat} {v : α} (h : (ls.getD c []).lookup i = some v) : c < ls.length ∧ (i, v) ∈ ls.getD c [] := by
  refine ⟨?_, zlk_mem h⟩
  rcases Nat.lt_or_ge c ls.length with q | q
  · exact q
  · rw [List.getD_eq_getElem?_getD, List.getElem?_eq_none q] at h
    simp at h
def zfok (c : Nat) (e : Nat × Nat × Nat) : Prop := (e.2.1 < 10 ∧ e.2.2 < zNN e.2.1) ∧ Cond.fieldLink (zcn c) e.1 (zT e.2.1 e.2.2).1 (zT e.2.1 e.2.2).2.1 (zT e.2.1 e.2.2).2.2.1 ∈ lw_tbl
theorem zf_ok0 : ∀ e ∈ zfd0, (e.2.1 < 10 ∧ e.2.2 < zNN e.2.1) ∧ Cond.fieldLink (zcn 0) e.1 (zT e.2.1 e.2.2).1 (zT e.2.1 e.2.2).2.1 (zT e.2.1 e.2.2).2.2.1 ∈ lw_tbl := by decide +kernel
theorem zf_ok1 : ∀ e ∈ zfd1, (e.2.1 < 10 ∧ e.2.2 < zNN e.2.1) ∧ Cond.fieldLink (zcn 1) e.1 (zT e.2.1 e.2.2).1 (zT e.2.1 e.2.2).2.1 (zT e.2.1 e.2.2).2.2.1 ∈ lw_tbl := by decide +kernel
theorem zf_ok2 : ∀ e ∈ zfd2, (e.2.1 < 10 ∧ e.2.2 < zNN e.2.1) ∧ Cond.fieldLink (zcn 2) e.1 (zT e.2.1 e.2.2).1 (zT e.2.1 e.2.2).2.1 (zT e.2.1 e.2.2).2.2.1 ∈ lw_tbl := by decide +kernel
theorem zf_ok3 : ∀ e ∈ zfd3, (e.2.1 < 10 ∧ e.2.2 < zNN e.2.1) ∧ Cond.fieldLink (zcn 3) e.1 (zT e.2.1 e.2.2).1 (zT e.2.1 e.2.2).2.1 (zT e.2.1 e.2.2).2.2.1 ∈ lw_tbl := by decide +kernel
theorem zf_ok4 : ∀ e ∈ zfd4, (e.2.1 < 10 ∧ e.2.2 < zNN e.2.1) ∧ Cond.fieldLink (zcn 4) e.1 (zT e.2.1 e.2.2).1 (zT e.2.1 e.2.2).2.1 (zT e.2.1 e.2.2).2.2.1 ∈ lw_tbl := by decide +kernel
theorem zf_ok5 : ∀ e ∈ zfd5, (e.2.1 < 10 ∧ e.2.2 < zNN e.2.1) ∧ Cond.fieldLink (zcn 5) e.1 (zT e.2.1 e.2.2).1 (zT e.2.1 e.2.2).2.1 (zT e.2.1 e.2.2).2.2.1 ∈ lw_tbl := by decide +kernel
theorem zf_ok6 : ∀ e ∈ zfd6, (e.2.1 < 10 ∧ e.2.2 < zNN e.2.1) ∧ Cond.fieldLink (zcn 6) e.1 (zT e.2.1 e.2.2).1 (zT e.2.1 e.2.2).2.1 (zT e.2.1 e.2.2).2.2.1 ∈ lw_tbl := by decide +kernel
theorem zf_ok7 : ∀ e ∈ zfd7, (e.2.1 < 10 ∧ e.2.2 < zNN e.2.1) ∧ Cond.fieldLink (zcn 7) e.1 (zT e.2.1 e.2.2).1 (zT e.2.1 e.2.2).2.1 (zT e.2.1 e.2.2).2.2.1 ∈ lw_tbl := by decide +kernel
theorem zf_ok8 : ∀ e ∈ zfd8, (e.2.1 < 10 ∧ e.2.2 < zNN e.2.1) ∧ Cond.fieldLink (zcn 8) e.1 (zT e.2.1 e.2.2).1 (zT e.2.1 e.2.2).2.1 (zT e.2.1 e.2.2).2.2.1 ∈ lw_tbl := by decide +kernel
theorem zf_ok9 : ∀ e ∈ zfd9, (e.2.1 < 10 ∧ e.2.2 < zNN e.2.1) ∧ Cond.fieldLink (zcn 9) e.1 (zT e.2.1 e.2.2).1 (zT e.2.1 e.2.2).2.1 (zT e.2.1 e.2.2).2.2.1 ∈ lw_tbl := by decide +kernel
theorem zf_okA : ∀ e ∈ zfd10, (e.2.1 < 10 ∧ e.2.2 < zNN e.2.1) ∧ Cond.fieldLink (zcn 10) e.1 (zT e.2.1 e.2.2).1 (zT e.2.1 e.2.2).2.1 (zT e.2.1 e.2.2).2.2.1 ∈ lw_tbl := by decide +kernel
theorem zc11 {P : Nat → Prop} {c : Nat} (h : c < 11) (h0 : P 0) (h1 : P 1) (h2 : P 2) (h3 : P 3) (h4 : P 4) (h5 : P 5) (h6 : P 6) (h7 : P 7) (h8 : P 8) (h9 : P 9) (h10 : P 10) : P c := by
  rcases (show c = 0 ∨ c = 1 ∨ c = 2 ∨ c = 3 ∨ c = 4 ∨ c = 5 ∨ c = 6 ∨ c = 7 ∨ c = 8 ∨ c = 9 ∨ c = 10 by omega) with rfl | rfl | rfl | rfl | rfl | rfl | rfl | rfl | rfl | rfl | rfl <;> assumption
theorem zf_ok {c i ci k : Nat} (h : zfd c i = some (ci, k)) : (ci < 10 ∧ k < zNN ci) ∧ Cond.fieldLink (zcn c) i (zT ci k).1 (zT ci k).2.1 (zT ci k).2.2.1 ∈ zTB := by
  obtain ⟨hc, hm⟩ := zgd_mem _ h
  have := zc11 (P := fun c => ∀ e ∈ [zfd0, zfd1, zfd2, zfd3, zfd4, zfd5, zfd6, zfd7, zfd8, zfd9, zfd10].getD c [], zfok c e) (c := c) hc zf_ok0 zf_ok1 zf_ok2 zf_ok3 zf_ok4 zf_ok5 zf_ok6 zf_ok7 zf_ok8 zf_ok9 zf_okA (i, ci, k) hm
  exact ⟨this.1, zTB_of this.2 rfl⟩
