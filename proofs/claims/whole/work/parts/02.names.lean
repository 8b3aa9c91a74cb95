/-! ===== BEGIN words of one list among another's, by their places ===== -/
theorem goodIn_r {big : List Cond} (ws : List Cond) (ps : List Nat) (hp : ws = ps.filterMap (fun i => big[i]?)) (h : ws.all goodWord = true) : GoodIn big ws := by
  intro w hw
  have h1 := List.all_eq_true.mp h w hw
  rw [hp] at hw
  obtain ⟨i, -, hi⟩ := List.mem_filterMap.mp hw
  have hm : w ∈ big := by first | exact List.mem_of_getElem? hi | exact List.getElem?_mem hi
  exact ⟨hm, good_of_word h1⟩
theorem goodIn_app {big a b : List Cond} (ha : GoodIn big a) (hb : GoodIn big b) : GoodIn big (a ++ b) := fun w h => (List.mem_append.mp h).elim (ha w) (hb w)
theorem goodIn_ca {big a b : List Cond} {c : Cond} (ha : GoodIn big (c :: a)) (hb : GoodIn big b) : GoodIn big (c :: (a ++ b)) := fun w h => (List.mem_cons.mp h).elim (fun e => ha w (List.mem_cons.mpr (Or.inl e))) (fun h => (List.mem_append.mp h).elim (fun h => ha w (List.mem_cons.mpr (Or.inr h))) (hb w))
theorem goodIn_sub {big ws : List Cond} (hm : ∀ w ∈ ws, w ∈ big) (h : ws.all goodWord = true) : GoodIn big ws := fun w hw => ⟨hm w hw, good_of_word (List.all_eq_true.mp h w hw)⟩
/-! ===== END ===== -/

/-! ===== BEGIN new T[n][m]: the outer array a place, the inner ones among the pooled ===== -/
/-- f, but v at every address of l -/
def vr_up {α : Type} (f : Nat → α) (l : List Nat) (v : α) : Nat → α := fun a => if a ∈ l then v else f a
theorem vr_up_in {α : Type} {f : Nat → α} {l : List Nat} {v : α} {a : Nat} (h : a ∈ l) : vr_up f l v a = v := if_pos h
theorem vr_up_ne {α : Type} {f : Nat → α} {l : List Nat} {v : α} {a : Nat} (h : a ∉ l) : vr_up f l v a = f a := if_neg h
theorem vr_rows {L l : List Nat} {f : Nat → va_E} {e : va_E} (h : ∀ a, a ∈ l → a ∉ L) : va_pl L f ++ l.map (fun a => (a, e)) = va_pl (L ++ l) (vr_up f l e) := by
  unfold va_pl
  rw [List.map_append]
  congr 1
  · apply List.map_congr_left
    intro a ha
    rw [vr_up_ne (fun q => h a q ha)]
  · apply List.map_congr_left
    intro a ha
    rw [vr_up_in ha]
theorem vr_lay {X rows : va_W} {x : Nat × va_E} {pl : va_W} {D : va_G} {cl : List vw_C} {H : Heap} (hP : va_P D cl (((X ++ pl) ++ [x]) ++ rows) H) : va_P D cl ((X ++ [x]) ++ (pl ++ rows)) H := by
  rw [List.append_assoc (X ++ pl)] at hP
  have h := va_P.swap hP
  rw [← List.append_assoc X] at h
  have h2 := va_P.swap h
  rw [List.append_assoc (X ++ [x])] at h2
  exact h2
theorem vr_layD {X rows : va_W} {x : Nat × va_E} {pl : va_W} {A : Nat → Prop} (hD : va_D A (((X ++ pl) ++ [x]) ++ rows)) : va_D A ((X ++ [x]) ++ (pl ++ rows)) := by
  rw [List.append_assoc (X ++ pl)] at hD
  have h := va_D.swap hD
  rw [← List.append_assoc X] at h
  have h2 := va_D.swap h
  rw [List.append_assoc (X ++ [x])] at h2
  exact h2
theorem vr_outer (c : ClassId) (N h0 : Nat) : ∀ i : Nat, Jvm.Free.Multi.outerC c N h0 i = arrV c N (fun j => va_rf (if j < i then some (h0 + 1 + j) else none))
  | 0 => by
    show ({ cls := c, slots := Array.replicate N .null, vm := .none } : Cell) = _
    rw [arrV_new]
    refine congrArg (arrV c N) (funext fun j => ?_)
    simp [va_rf]
  | i + 1 => by
    show (Jvm.Free.Multi.outerC c N h0 i).setSlot i (.ref (h0 + 1 + i)) = _
    rw [vr_outer c N h0 i, arrV_store]
    refine congrArg (arrV c N) (funext fun j => ?_)
    by_cases e : j = i
    · subst e
      simp [updV, va_rf]
    · by_cases h : j < i
      · simp [updV, e, h, Nat.lt_succ_of_lt h]
      · simp [updV, e, h, show ¬ j < i + 1 by omega]
section VGM
variable {p : Program} {l : Launch} {e : Env} {R : Room} {s : State} {m : MethodId} {args : Array Value} {below : List Frame} {meth : Method} {c : Code} {H : Heap} {locs : List Loc} {cells slots : Nat} {Q : State → Prop}
variable {cc : ByteArray} {pc : Nat} {ls : Array Slot} {rest : List Value} {D : va_G} {cl : List vw_C} {A : Nat → Prop} {a : Nat} {tys : List (ClassId × FieldType)} {ws : va_W} {H0 : Heap}
theorem va_mna {X : va_W} {L : List Nat} {f : Nat → va_E} {cc : ByteArray} (hexec : p.tables.exec = Jvm.exec) (hb : c.code = cc) {own : String} {index : Nat} {ty : FieldType} {cy : ClassId} (hown : s.vm.findClass own = some m.cls) (hclink : (Cond.classLink own index ("[" ++ (FieldType.array ty).toString)).before args s = true) (hover : (Cond.arrayOver (.array ty)).before args s = true) (harr : (Cond.arrayClass ty).before args s = true) (hcy : s.vm.findClass (FieldType.array ty).toString = some cy)
    (hK : va_K D cl tys s) (hP : va_P D cl (X ++ va_pl L f) H) (hD : va_D A (X ++ va_pl L f)) (hS : va_S A H0 H locs) (hA : ∀ q, H0.size ≤ q → A q) {n k : Int32} {N' K' : Nat} {z : vp_A} (hn : ¬ n < 0) (hk : ¬ k < 0) (hN : n.toNatClampNeg = N') (hM : k.toNatClampNeg = K')
    (hb1 : N' * 4 ≤ 536870912) (hb2 : K' * componentBytes ty ≤ 536870912) (hb3 : K' ≤ 536870912) (hdf : fits ty (defaultValue ty) = true) (hdd : (defaultValue ty).isDefault = true) (hcells : cells + (1 + N') ≤ R.cells) (hslots : slots + (N' + N' * K') ≤ R.slots) (hz : ∀ c : ClassId, Jvm.Free.Multi.innerC c K' (defaultValue ty) = vp_cell c z) (hdg : decode cc pc = .ok (.multianewarray index 2, 4))
    (kk : ∀ (q : Nat) (r : Nat → Nat) (cA : ClassId) (H1 : Heap), (∀ i j : Nat, i < N' → j < N' → r i = r j → i = j) → (∀ i : Nat, i < N' → r i ∉ L) → va_K D cl (tys ++ [(cA, .array ty)]) s →
      va_P D cl ((X ++ [(q, .inl (cA, N', .inr (.inr (.inr (.inr (fun i => if i < N' then some (r i) else none))))))]) ++ va_pl (L ++ (List.range N').map r) (vr_up f ((List.range N').map r) (.inl (cy, z)))) H1 → va_D A ((X ++ [(q, .inl (cA, N', .inr (.inr (.inr (.inr (fun i => if i < N' then some (r i) else none))))))]) ++ va_pl (L ++ (List.range N').map r) (vr_up f ((List.range N').map r) (.inl (cy, z)))) → va_S A H0 H1 locs →
      W p l e R s m args below meth c H1 locs (cells + 1 + N') (slots + N' + N' * K') Q (F0 m (pc + 4) ls (.ref q :: rest))) : W p l e R s m args below meth c H locs cells slots Q (F0 m pc ls (.int k :: .int n :: rest)) := by
  subst hN
  subst hM
  intro T hT Xs
  obtain ⟨vm₁, cA, comp, -, fA, fC, hO, -, X', step⟩ := Xs.multianewarray2F hexec hown hclink hover harr (g := F0 m pc ls (.int k :: .int n :: rest)) rfl (by rw [hb]; exact hdg) rfl hn hk hb1 hb2 hb3 hdf hdd hcells hslots
  have ec : some cy = some comp := hcy.symm.trans fC
  cases ec
  generalize hF : Jvm.Free.Multi.fill (T.setVm vm₁) cA cy n.toNatClampNeg k.toNatClampNeg (defaultValue ty) n.toNatClampNeg = F at X' step
  have hTh : (T.setVm vm₁).heap = H := hT
  obtain ⟨f1, f2, -, -⟩ := Jvm.Free.Multi.fill_facts (T.setVm vm₁) cA cy n.toNatClampNeg k.toNatClampNeg (defaultValue ty) n.toNatClampNeg
  rw [hF, hTh] at f1 f2
  have hold : ∀ x : Nat, x < H.size → F.heap[x]? = H[x]? := fun x hx => by
    have := Jvm.Free.Multi.fill_old (T.setVm vm₁) cA cy n.toNatClampNeg k.toNatClampNeg (defaultValue ty) (a := x) (by rw [hTh]; exact hx) n.toNatClampNeg
    rw [hF, hTh] at this
    exact this
  have hrow : ∀ j : Nat, j < n.toNatClampNeg → F.heap[H.size + 1 + j]? = some (vp_cell cy z) := fun j hj => by
    have := Jvm.Free.Multi.fill_inner (T.setVm vm₁) cA cy n.toNatClampNeg k.toNatClampNeg (defaultValue ty) n.toNatClampNeg j hj
    rw [hF, hTh, hz] at this
    exact this
  have hout : Jvm.Free.Multi.outerC cA n.toNatClampNeg H.size n.toNatClampNeg = vp_cell cA (n.toNatClampNeg, .inr (.inr (.inr (.inr (fun i => if i < n.toNatClampNeg then some (H.size + 1 + i) else none))))) := by
    rw [vp_cell_q]
    exact vr_outer cA n.toNatClampNeg H.size n.toNatClampNeg
  rw [hout] at f2
  have hlt : ∀ a, a ∈ L → a < H.size := fun a ha => by
    obtain ⟨k9, hk9⟩ := va_pl_get (X := X) (f := f) ha
    exact (hP k9 _ hk9).lt
  have hnl : ∀ i : Nat, i < n.toNatClampNeg → H.size + 1 + i ∉ L := fun i _ h => by
    have := hlt _ h
    omega
  have hnm : ∀ a, a ∈ (List.range n.toNatClampNeg).map (fun i => H.size + 1 + i) → a ∉ L := fun a ha h => by
    obtain ⟨i, -, rfl⟩ := List.mem_map.mp ha
    have := hlt _ h
    omega
  have hP0 : va_P D cl (X ++ va_pl L f) F.heap := hP.kept (fun k9 x hx => hold x.1 ((hP k9 x hx).lt))
  have hP1 : va_P D cl ((X ++ va_pl L f) ++ [(H.size, .inl (cA, n.toNatClampNeg, .inr (.inr (.inr (.inr (fun i => if i < n.toNatClampNeg then some (H.size + 1 + i) else none))))))]) F.heap := hP0.app (fun k9 x hx => by
    have h0 : k9 < 1 := (List.getElem?_eq_some_iff.mp hx).1
    rw [show k9 = 0 by omega] at hx
    cases hx
    exact f2)
  have hP2 : va_P D cl (((X ++ va_pl L f) ++ [(H.size, .inl (cA, n.toNatClampNeg, .inr (.inr (.inr (.inr (fun i => if i < n.toNatClampNeg then some (H.size + 1 + i) else none))))))]) ++ ((List.range n.toNatClampNeg).map (fun i => H.size + 1 + i)).map (fun a => (a, .inl (cy, z)))) F.heap := hP1.app (fun k9 x hx => by
    obtain ⟨a, ha, rfl⟩ := List.mem_map.mp (List.mem_of_getElem? hx)
    obtain ⟨i, hi, rfl⟩ := List.mem_map.mp ha
    exact hrow i (List.mem_range.mp hi))
  have hD2 : va_D A (((X ++ va_pl L f) ++ [(H.size, .inl (cA, n.toNatClampNeg, .inr (.inr (.inr (.inr (fun i => if i < n.toNatClampNeg then some (H.size + 1 + i) else none))))))]) ++ ((List.range n.toNatClampNeg).map (fun i => H.size + 1 + i)).map (fun a => (a, .inl (cy, z)))) := by
    have hD1 := hD.push (e := .inl (cA, n.toNatClampNeg, .inr (.inr (.inr (.inr (fun i => if i < n.toNatClampNeg then some (H.size + 1 + i) else none)))))) hP rfl (hA _ hS.1)
    generalize hW1 : (X ++ va_pl L f) ++ [(H.size, .inl (cA, n.toNatClampNeg, .inr (.inr (.inr (.inr (fun i => if i < n.toNatClampNeg then some (H.size + 1 + i) else none))))))] = W1 at hD1 hP1 ⊢
    have hle : ∀ (k9 : Nat) (x : Nat × va_E), W1[k9]? = some x → x.1 ≤ H.size := fun k9 x hx => by
      rw [← hW1] at hx
      by_cases hl : k9 < (X ++ va_pl L f).length
      · rw [List.getElem?_append_left hl] at hx
        exact Nat.le_of_lt ((hP k9 x hx).lt)
      · rw [List.getElem?_append_right (by omega)] at hx
        have h0 : k9 - (X ++ va_pl L f).length < 1 := (List.getElem?_eq_some_iff.mp hx).1
        rw [show k9 - (X ++ va_pl L f).length = 0 by omega] at hx
        cases hx
        exact Nat.le_refl _
    have hr : ∀ (k9 : Nat) (x : Nat × va_E), (((List.range n.toNatClampNeg).map (fun i => H.size + 1 + i)).map (fun a => ((a, .inl (cy, z)) : Nat × va_E)))[k9]? = some x → x.1 = H.size + 1 + k9 := fun k9 x hx => by
      rw [List.getElem?_map, List.getElem?_map] at hx
      by_cases h9 : k9 < n.toNatClampNeg
      · rw [List.getElem?_range h9] at hx
        cases hx
        rfl
      · have hn0 : (List.range n.toNatClampNeg)[k9]? = none := List.getElem?_eq_none (by rw [List.length_range]; omega)
        rw [hn0] at hx
        cases hx
    refine ⟨fun i j x y hi hj hxy => ?_, fun k9 x hx => ?_⟩
    · by_cases h1 : i < W1.length <;> by_cases h2 : j < W1.length
      · rw [List.getElem?_append_left h1] at hi
        rw [List.getElem?_append_left h2] at hj
        exact hD1.1 i j x y hi hj hxy
      · rw [List.getElem?_append_left h1] at hi
        rw [List.getElem?_append_right (by omega)] at hj
        have := hle _ _ hi
        have := hr _ _ hj
        omega
      · rw [List.getElem?_append_right (by omega)] at hi
        rw [List.getElem?_append_left h2] at hj
        have := hle _ _ hj
        have := hr _ _ hi
        omega
      · rw [List.getElem?_append_right (by omega)] at hi hj
        have := hr _ _ hi
        have := hr _ _ hj
        omega
    · by_cases h1 : k9 < W1.length
      · rw [List.getElem?_append_left h1] at hx
        exact hD1.2 k9 x hx
      · rw [List.getElem?_append_right (by omega)] at hx
        have := hr _ _ hx
        exact hA _ (by have := hS.1; omega)
  have hAr : ArrOfT s cA (.array ty) := fun N9 z9 => by
    obtain ⟨-, k9, hk9, cm9, hkk9⟩ := (hO 0 0 0).1
    exact ⟨(fun q hq => by cases hq), k9, hk9, cm9, hkk9⟩
  have hK2 : va_K D cl (tys ++ [(cA, .array ty)]) s := ⟨hK.1, fun k9 x hx => by
    by_cases hl : k9 < tys.length
    · rw [List.getElem?_append_left hl] at hx
      exact hK.2 k9 x hx
    · rw [List.getElem?_append_right (by omega)] at hx
      have h0 : k9 - tys.length < 1 := (List.getElem?_eq_some_iff.mp hx).1
      rw [show k9 - tys.length = 0 by omega] at hx
      cases hx
      exact ⟨hAr, fA⟩⟩
  obtain ⟨t, a1, b1⟩ := kk H.size (fun i => H.size + 1 + i) cA F.heap (fun i j _ _ h => by have h9 : H.size + 1 + i = H.size + 1 + j := h; omega) hnl hK2 (by rw [← vr_rows hnm]; exact vr_lay hP2) (by rw [← vr_rows hnm]; exact vr_layD hD2) ⟨by rw [f1]; have := hS.1; omega, fun x h1 h2 => (hold x (Nat.lt_of_lt_of_le h1 hS.1)).trans (hS.2.1 x h1 h2), hS.2.2⟩ F rfl X'
  refine ⟨t, step t ?_, b1⟩
  have e : T.heap.size = H.size := by rw [hT]
  rw [e]
  exact a1
end VGM
/-! ===== END ===== -/

/-! ===== BEGIN printed: names, fields, word lists, decode rows ===== -/
def RX0 : String := "YearsLent$Books"
def TX0 : u_T := fun k => match k with
  | 0 => ("YearsLent$Books", "terms", "LYearsLent$Terms;", true)
  | 1 => ("YearsLent$Books", "weeks", "[I", true)
  | 2 => ("YearsLent$Books", "lost", "[I", true)
  | 3 => ("YearsLent$Books", "lender", "[I", true)
  | 4 => ("YearsLent$Books", "borrower", "[I", true)
  | 5 => ("YearsLent$Books", "amount", "[I", true)
  | 6 => ("YearsLent$Books", "dueIn", "[I", true)
  | 7 => ("YearsLent$Books", "mark", "[I", true)
  | 8 => ("YearsLent$Books", "paidByMark", "[I", true)
  | 9 => ("YearsLent$Books", "loans", "I", false)
  | _ => ("YearsLent$Books", "gone", "I", false)
def tyX0 : Nat → FieldType := fun k => match k with
  | 0 => .object "YearsLent$Terms"
  | 1 => .array .int
  | 2 => .array .int
  | 3 => .array .int
  | 4 => .array .int
  | 5 => .array .int
  | 6 => .array .int
  | 7 => .array .int
  | 8 => .array .int
  | 9 => .int
  | _ => .int
abbrev wsX00 : List Cond := u_ws RX0 TX0 11
theorem nmX0 : ∀ a, a < 11 → ∀ b, b < 11 → a ≠ b → (TX0 a).2.1 ≠ (TX0 b).2.1 := by decide +kernel
theorem tyX0_ok : ∀ k, k < 11 → parseFieldDescriptor (TX0 k).2.2.1 = some (tyX0 k) := by decide +kernel
abbrev cX0_init : ByteArray := prog_2_method_1_code
def yX0_init : MethodName := ⟨RX0, "<init>", "(LYearsLent$Terms;)V"⟩
abbrev cX0_open : ByteArray := prog_2_method_2_code
def yX0_open : MethodName := ⟨RX0, "open", "()V"⟩
abbrev cX0_copyFrom : ByteArray := prog_2_method_3_code
def yX0_copyFrom : MethodName := ⟨RX0, "copyFrom", "(LYearsLent$Books;)V"⟩
abbrev cX0_markLoans : ByteArray := prog_2_method_4_code
def yX0_markLoans : MethodName := ⟨RX0, "markLoans", "()V"⟩
abbrev cX0_isAlive : ByteArray := prog_2_method_5_code
def yX0_isAlive : MethodName := ⟨RX0, "isAlive", "(I)Z"⟩
abbrev cX0_living : ByteArray := prog_2_method_6_code
def yX0_living : MethodName := ⟨RX0, "living", "()I"⟩
abbrev cX0_lostByAll : ByteArray := prog_2_method_7_code
def yX0_lostByAll : MethodName := ⟨RX0, "lostByAll", "()I"⟩
abbrev cX0_owedToAll : ByteArray := prog_2_method_8_code
def yX0_owedToAll : MethodName := ⟨RX0, "owedToAll", "(I)I"⟩
abbrev cX0_isFit : ByteArray := prog_2_method_9_code
def yX0_isFit : MethodName := ⟨RX0, "isFit", "(IIII)Z"⟩
abbrev cX0_isGranted : ByteArray := prog_2_method_10_code
def yX0_isGranted : MethodName := ⟨RX0, "isGranted", "(IIII)Z"⟩
abbrev cX0_hindrance : ByteArray := prog_2_method_11_code
def yX0_hindrance : MethodName := ⟨RX0, "hindrance", "(IIII)I"⟩
abbrev cX0_addLoan : ByteArray := prog_2_method_12_code
def yX0_addLoan : MethodName := ⟨RX0, "addLoan", "(IIII)V"⟩
abbrev cX0_dueOn : ByteArray := prog_2_method_13_code
def yX0_dueOn : MethodName := ⟨RX0, "dueOn", "(I)I"⟩
abbrev cX0_dueFrom : ByteArray := prog_2_method_14_code
def yX0_dueFrom : MethodName := ⟨RX0, "dueFrom", "(II)I"⟩
abbrev cX0_weeksToNextDue : ByteArray := prog_2_method_15_code
def yX0_weeksToNextDue : MethodName := ⟨RX0, "weeksToNextDue", "(I)I"⟩
abbrev cX0_pass : ByteArray := prog_2_method_16_code
def yX0_pass : MethodName := ⟨RX0, "pass", "(I)V"⟩
abbrev cX0_payThoseDue : ByteArray := prog_2_method_17_code
def yX0_payThoseDue : MethodName := ⟨RX0, "payThoseDue", "()V"⟩
abbrev cX0_isDue : ByteArray := prog_2_method_18_code
def yX0_isDue : MethodName := ⟨RX0, "isDue", "(I)Z"⟩
abbrev cX0_greatestDue : ByteArray := prog_2_method_19_code
def yX0_greatestDue : MethodName := ⟨RX0, "greatestDue", "()I"⟩
abbrev cX0_pay : ByteArray := prog_2_method_20_code
def yX0_pay : MethodName := ⟨RX0, "pay", "(I)V"⟩
abbrev cX0_give : ByteArray := prog_2_method_21_code
def yX0_give : MethodName := ⟨RX0, "give", "(III)I"⟩
abbrev cX0_lowestOther : ByteArray := prog_2_method_22_code
def yX0_lowestOther : MethodName := ⟨RX0, "lowestOther", "(II)I"⟩
abbrev cX0_dropThoseDue : ByteArray := prog_2_method_23_code
def yX0_dropThoseDue : MethodName := ⟨RX0, "dropThoseDue", "()V"⟩
def RX1 : String := "YearsLent$Gifts"
def TX1 : u_T := fun k => match k with
  | 0 => ("YearsLent$Gifts", "gift", "[I", true)
  | _ => ("YearsLent$Gifts", "rest", "[I", true)
def tyX1 : Nat → FieldType := fun k => match k with
  | 0 => .array .int
  | _ => .array .int
abbrev wsX10 : List Cond := u_ws RX1 TX1 2
theorem nmX1 : ∀ a, a < 2 → ∀ b, b < 2 → a ≠ b → (TX1 a).2.1 ≠ (TX1 b).2.1 := by decide +kernel
theorem tyX1_ok : ∀ k, k < 2 → parseFieldDescriptor (TX1 k).2.2.1 = some (tyX1 k) := by decide +kernel
abbrev cX1_init : ByteArray := prog_3_method_1_code
def yX1_init : MethodName := ⟨RX1, "<init>", "()V"⟩
abbrev cX1_share : ByteArray := prog_3_method_2_code
def yX1_share : MethodName := ⟨RX1, "share", "(ILYearsLent$Books;)V"⟩
abbrev cX1_addToGreatestRest : ByteArray := prog_3_method_3_code
def yX1_addToGreatestRest : MethodName := ⟨RX1, "addToGreatestRest", "()V"⟩
abbrev cX1_takeAllOfOne : ByteArray := prog_3_method_4_code
def yX1_takeAllOfOne : MethodName := ⟨RX1, "takeAllOfOne", "(LYearsLent$Books;)Z"⟩
def RX2 : String := "YearsLent$Rings"
def TX2 : u_T := fun k => match k with
  | 0 => ("YearsLent$Rings", "owed", "[[I", true)
  | 1 => ("YearsLent$Rings", "ring", "[I", true)
  | _ => ("YearsLent$Rings", "persons", "I", false)
def tyX2 : Nat → FieldType := fun k => match k with
  | 0 => .array (.array .int)
  | 1 => .array .int
  | _ => .int
abbrev wsX20 : List Cond := u_ws RX2 TX2 3
theorem nmX2 : ∀ a, a < 3 → ∀ b, b < 3 → a ≠ b → (TX2 a).2.1 ≠ (TX2 b).2.1 := by decide +kernel
theorem tyX2_ok : ∀ k, k < 3 → parseFieldDescriptor (TX2 k).2.2.1 = some (tyX2 k) := by decide +kernel
abbrev cX2_init : ByteArray := prog_4_method_1_code
def yX2_init : MethodName := ⟨RX2, "<init>", "()V"⟩
abbrev cX2_readFrom : ByteArray := prog_4_method_2_code
def yX2_readFrom : MethodName := ⟨RX2, "readFrom", "(LYearsLent$Books;)V"⟩
abbrev cX2_clearAll : ByteArray := prog_4_method_3_code
def yX2_clearAll : MethodName := ⟨RX2, "clearAll", "()I"⟩
abbrev cX2_findShortest : ByteArray := prog_4_method_4_code
def yX2_findShortest : MethodName := ⟨RX2, "findShortest", "()I"⟩
abbrev cX2_closes : ByteArray := prog_4_method_5_code
def yX2_closes : MethodName := ⟨RX2, "closes", "(II)Z"⟩
abbrev cX2_isPlaced : ByteArray := prog_4_method_6_code
def yX2_isPlaced : MethodName := ⟨RX2, "isPlaced", "(II)Z"⟩
abbrev cX2_clear : ByteArray := prog_4_method_7_code
def yX2_clear : MethodName := ⟨RX2, "clear", "(I)I"⟩
def RX3 : String := "YearsLent$Shelf"
def TX3 : u_T := fun k => match k with
  | 0 => ("YearsLent$Shelf", "copies", "[LYearsLent$Books;", true)
  | _ => ("YearsLent$Shelf", "size", "I", false)
def tyX3 : Nat → FieldType := fun k => match k with
  | 0 => .array (.object "YearsLent$Books")
  | _ => .int
abbrev wsX30 : List Cond := u_ws RX3 TX3 2
theorem nmX3 : ∀ a, a < 2 → ∀ b, b < 2 → a ≠ b → (TX3 a).2.1 ≠ (TX3 b).2.1 := by decide +kernel
theorem tyX3_ok : ∀ k, k < 2 → parseFieldDescriptor (TX3 k).2.2.1 = some (tyX3 k) := by decide +kernel
abbrev cX3_init : ByteArray := prog_5_method_1_code
def yX3_init : MethodName := ⟨RX3, "<init>", "(ILYearsLent$Terms;)V"⟩
abbrev cX3_put : ByteArray := prog_5_method_2_code
def yX3_put : MethodName := ⟨RX3, "put", "(LYearsLent$Books;)V"⟩
abbrev cX3_moveLowestUp : ByteArray := prog_5_method_3_code
def yX3_moveLowestUp : MethodName := ⟨RX3, "moveLowestUp", "()V"⟩
abbrev cX3_takeInto : ByteArray := prog_5_method_4_code
def yX3_takeInto : MethodName := ⟨RX3, "takeInto", "(LYearsLent$Books;)I"⟩
def RX4 : String := "YearsLent$Terms"
def TX4 : u_T := fun k => match k with
  | 0 => ("YearsLent$Terms", "laid", "[I", true)
  | 1 => ("YearsLent$Terms", "persons", "I", false)
  | 2 => ("YearsLent$Terms", "rate", "I", false)
  | 3 => ("YearsLent$Terms", "kind", "I", false)
  | _ => ("YearsLent$Terms", "law", "I", false)
def tyX4 : Nat → FieldType := fun k => match k with
  | 0 => .array .int
  | 1 => .int
  | 2 => .int
  | 3 => .int
  | _ => .int
abbrev wsX40 : List Cond := u_ws RX4 TX4 5
theorem nmX4 : ∀ a, a < 5 → ∀ b, b < 5 → a ≠ b → (TX4 a).2.1 ≠ (TX4 b).2.1 := by decide +kernel
theorem tyX4_ok : ∀ k, k < 5 → parseFieldDescriptor (TX4 k).2.2.1 = some (tyX4 k) := by decide +kernel
abbrev cX4_init : ByteArray := prog_6_method_1_code
def yX4_init : MethodName := ⟨RX4, "<init>", "()V"⟩
abbrev cX4_clear : ByteArray := prog_6_method_2_code
def yX4_clear : MethodName := ⟨RX4, "clear", "()V"⟩
abbrev cX4_copyFrom : ByteArray := prog_6_method_3_code
def yX4_copyFrom : MethodName := ⟨RX4, "copyFrom", "(LYearsLent$Terms;)V"⟩
abbrev cX4_readFrom : ByteArray := prog_6_method_4_code
def yX4_readFrom : MethodName := ⟨RX4, "readFrom", "(LYearsLent$Text;)I"⟩
abbrev cX4_accept : ByteArray := prog_6_method_5_code
def yX4_accept : MethodName := ⟨RX4, "accept", "(II)Z"⟩
abbrev cX4_addPerson : ByteArray := prog_6_method_6_code
def yX4_addPerson : MethodName := ⟨RX4, "addPerson", "(I)Z"⟩
abbrev cX4_interestOn : ByteArray := prog_6_method_7_code
def yX4_interestOn : MethodName := ⟨RX4, "interestOn", "(I)I"⟩
def RX5 : String := "YearsLent$Text"
def TX5 : u_T := fun k => match k with
  | 0 => ("YearsLent$Text", "bytes", "[I", true)
  | 1 => ("YearsLent$Text", "length", "I", false)
  | 2 => ("YearsLent$Text", "letter", "I", false)
  | 3 => ("YearsLent$Text", "number", "I", false)
  | _ => ("YearsLent$Text", "end", "I", false)
def tyX5 : Nat → FieldType := fun k => match k with
  | 0 => .array .int
  | 1 => .int
  | 2 => .int
  | 3 => .int
  | _ => .int
abbrev wsX50 : List Cond := u_ws RX5 TX5 5
theorem nmX5 : ∀ a, a < 5 → ∀ b, b < 5 → a ≠ b → (TX5 a).2.1 ≠ (TX5 b).2.1 := by decide +kernel
theorem tyX5_ok : ∀ k, k < 5 → parseFieldDescriptor (TX5 k).2.2.1 = some (tyX5 k) := by decide +kernel
abbrev cX5_init : ByteArray := prog_7_method_1_code
def yX5_init : MethodName := ⟨RX5, "<init>", "()V"⟩
abbrev cX5_append : ByteArray := prog_7_method_2_code
def yX5_append : MethodName := ⟨RX5, "append", "(IJ)V"⟩
abbrev cX5_readItem : ByteArray := prog_7_method_3_code
def yX5_readItem : MethodName := ⟨RX5, "readItem", "(I)Z"⟩
def RX6 : String := "YearsLent$Told"
def TX6 : u_T := fun k => match k with
  | 0 => ("YearsLent$Told", "person", "[I", true)
  | 1 => ("YearsLent$Told", "limit", "[I", true)
  | 2 => ("YearsLent$Told", "isMore", "[Z", true)
  | _ => ("YearsLent$Told", "size", "I", false)
def tyX6 : Nat → FieldType := fun k => match k with
  | 0 => .array .int
  | 1 => .array .int
  | 2 => .array .boolean
  | _ => .int
abbrev wsX60 : List Cond := u_ws RX6 TX6 4
theorem nmX6 : ∀ a, a < 4 → ∀ b, b < 4 → a ≠ b → (TX6 a).2.1 ≠ (TX6 b).2.1 := by decide +kernel
theorem tyX6_ok : ∀ k, k < 4 → parseFieldDescriptor (TX6 k).2.2.1 = some (tyX6 k) := by decide +kernel
abbrev cX6_init : ByteArray := prog_8_method_1_code
def yX6_init : MethodName := ⟨RX6, "<init>", "()V"⟩
abbrev cX6_add : ByteArray := prog_8_method_2_code
def yX6_add : MethodName := ⟨RX6, "add", "(IIZ)V"⟩
abbrev cX6_least : ByteArray := prog_8_method_3_code
def yX6_least : MethodName := ⟨RX6, "least", "(I)I"⟩
abbrev cX6_greatest : ByteArray := prog_8_method_4_code
def yX6_greatest : MethodName := ⟨RX6, "greatest", "(I)I"⟩
abbrev cX6_bestDue : ByteArray := prog_8_method_5_code
def yX6_bestDue : MethodName := ⟨RX6, "bestDue", "(II)I"⟩
abbrev cX6_untrueOf : ByteArray := prog_8_method_6_code
def yX6_untrueOf : MethodName := ⟨RX6, "untrueOf", "(LYearsLent$Terms;)I"⟩
def RX7 : String := "YearsLent$Trial"
def TX7 : u_T := fun k => match k with
  | 0 => ("YearsLent$Trial", "books", "LYearsLent$Books;", true)
  | 1 => ("YearsLent$Trial", "deadIn", "[I", true)
  | _ => ("YearsLent$Trial", "passed", "I", false)
def tyX7 : Nat → FieldType := fun k => match k with
  | 0 => .object "YearsLent$Books"
  | 1 => .array .int
  | _ => .int
abbrev wsX70 : List Cond := u_ws RX7 TX7 3
theorem nmX7 : ∀ a, a < 3 → ∀ b, b < 3 → a ≠ b → (TX7 a).2.1 ≠ (TX7 b).2.1 := by decide +kernel
theorem tyX7_ok : ∀ k, k < 3 → parseFieldDescriptor (TX7 k).2.2.1 = some (tyX7 k) := by decide +kernel
abbrev cX7_init : ByteArray := prog_9_method_1_code
def yX7_init : MethodName := ⟨RX7, "<init>", "(LYearsLent$Terms;)V"⟩
abbrev cX7_start : ByteArray := prog_9_method_2_code
def yX7_start : MethodName := ⟨RX7, "start", "(LYearsLent$Books;)V"⟩
abbrev cX7_startWithout : ByteArray := prog_9_method_3_code
def yX7_startWithout : MethodName := ⟨RX7, "startWithout", "(ILYearsLent$Books;)V"⟩
abbrev cX7_advance : ByteArray := prog_9_method_4_code
def yX7_advance : MethodName := ⟨RX7, "advance", "(I)V"⟩
abbrev cX7_noteDeaths : ByteArray := prog_9_method_5_code
def yX7_noteDeaths : MethodName := ⟨RX7, "noteDeaths", "(I)V"⟩
abbrev cX7_loansPaidLessThan : ByteArray := prog_9_method_6_code
def yX7_loansPaidLessThan : MethodName := ⟨RX7, "loansPaidLessThan", "(LYearsLent$Trial;)I"⟩
abbrev cX7_firstDeadEarlierThan : ByteArray := prog_9_method_7_code
def yX7_firstDeadEarlierThan : MethodName := ⟨RX7, "firstDeadEarlierThan", "(LYearsLent$Trial;I)I"⟩
def RX8 : String := "YearsLent"
def TX8 : u_T := fun k => match k with
  | 0 => ("YearsLent", "text", "LYearsLent$Text;", true)
  | 1 => ("YearsLent", "terms", "LYearsLent$Terms;", true)
  | 2 => ("YearsLent", "draft", "LYearsLent$Terms;", true)
  | 3 => ("YearsLent", "books", "LYearsLent$Books;", true)
  | 4 => ("YearsLent", "trial", "LYearsLent$Trial;", true)
  | 5 => ("YearsLent", "fallen", "LYearsLent$Trial;", true)
  | 6 => ("YearsLent", "deeds", "LYearsLent$Shelf;", true)
  | 7 => ("YearsLent", "kept", "LYearsLent$Shelf;", true)
  | 8 => ("YearsLent", "told", "LYearsLent$Told;", true)
  | 9 => ("YearsLent", "rings", "LYearsLent$Rings;", true)
  | _ => ("YearsLent", "gifts", "LYearsLent$Gifts;", true)
def tyX8 : Nat → FieldType := fun k => match k with
  | 0 => .object "YearsLent$Text"
  | 1 => .object "YearsLent$Terms"
  | 2 => .object "YearsLent$Terms"
  | 3 => .object "YearsLent$Books"
  | 4 => .object "YearsLent$Trial"
  | 5 => .object "YearsLent$Trial"
  | 6 => .object "YearsLent$Shelf"
  | 7 => .object "YearsLent$Shelf"
  | 8 => .object "YearsLent$Told"
  | 9 => .object "YearsLent$Rings"
  | _ => .object "YearsLent$Gifts"
abbrev wsX80 : List Cond := u_ws RX8 TX8 11
theorem nmX8 : ∀ a, a < 11 → ∀ b, b < 11 → a ≠ b → (TX8 a).2.1 ≠ (TX8 b).2.1 := by decide +kernel
theorem tyX8_ok : ∀ k, k < 11 → parseFieldDescriptor (TX8 k).2.2.1 = some (tyX8 k) := by decide +kernel
abbrev cX8_init : ByteArray := prog_1_method_1_code
def yX8_init : MethodName := ⟨RX8, "<init>", "()V"⟩
abbrev cX8_write : ByteArray := prog_1_method_2_code
def yX8_write : MethodName := ⟨RX8, "write", "(IJ)I"⟩
abbrev cX8_wipe : ByteArray := prog_1_method_3_code
def yX8_wipe : MethodName := ⟨RX8, "wipe", "()I"⟩
abbrev cX8_fault : ByteArray := prog_1_method_4_code
def yX8_fault : MethodName := ⟨RX8, "fault", "()I"⟩
abbrev cX8_lay : ByteArray := prog_1_method_5_code
def yX8_lay : MethodName := ⟨RX8, "lay", "()I"⟩
abbrev cX8_person : ByteArray := prog_1_method_6_code
def yX8_person : MethodName := ⟨RX8, "person", "(II)I"⟩
abbrev cX8_loan : ByteArray := prog_1_method_7_code
def yX8_loan : MethodName := ⟨RX8, "loan", "(II)I"⟩
abbrev cX8_notary : ByteArray := prog_1_method_8_code
def yX8_notary : MethodName := ⟨RX8, "notary", "(IIII)I"⟩
abbrev cX8_lend : ByteArray := prog_1_method_9_code
def yX8_lend : MethodName := ⟨RX8, "lend", "(IIII)I"⟩
abbrev cX8_week : ByteArray := prog_1_method_10_code
def yX8_week : MethodName := ⟨RX8, "week", "()I"⟩
abbrev cX8_undo : ByteArray := prog_1_method_11_code
def yX8_undo : MethodName := ⟨RX8, "undo", "()I"⟩
abbrev cX8_dies : ByteArray := prog_1_method_12_code
def yX8_dies : MethodName := ⟨RX8, "dies", "(I)I"⟩
abbrev cX8_run : ByteArray := prog_1_method_13_code
def yX8_run : MethodName := ⟨RX8, "run", "(III)I"⟩
abbrev cX8_tell : ByteArray := prog_1_method_14_code
def yX8_tell : MethodName := ⟨RX8, "tell", "(IIIZ)I"⟩
abbrev cX8_forget : ByteArray := prog_1_method_15_code
def yX8_forget : MethodName := ⟨RX8, "forget", "()I"⟩
abbrev cX8_span : ByteArray := prog_1_method_16_code
def yX8_span : MethodName := ⟨RX8, "span", "(II)I"⟩
abbrev cX8_ask : ByteArray := prog_1_method_17_code
def yX8_ask : MethodName := ⟨RX8, "ask", "(II)I"⟩
abbrev cX8_bribed : ByteArray := prog_1_method_18_code
def yX8_bribed : MethodName := ⟨RX8, "bribed", "()I"⟩
abbrev cX8_cleared : ByteArray := prog_1_method_19_code
def yX8_cleared : MethodName := ⟨RX8, "cleared", "(II)I"⟩
abbrev cX8_child : ByteArray := prog_1_method_20_code
def yX8_child : MethodName := ⟨RX8, "child", "(II)I"⟩
abbrev cX8_falls : ByteArray := prog_1_method_21_code
def yX8_falls : MethodName := ⟨RX8, "falls", "(II)I"⟩
abbrev cX8_burned : ByteArray := prog_1_method_22_code
def yX8_burned : MethodName := ⟨RX8, "burned", "(IIII)I"⟩
abbrev cX8_drawn : ByteArray := prog_1_method_23_code
def yX8_drawn : MethodName := ⟨RX8, "drawn", "(III)I"⟩
abbrev cX8_keep : ByteArray := prog_1_method_24_code
def yX8_keep : MethodName := ⟨RX8, "keep", "()I"⟩
abbrev cX8_back : ByteArray := prog_1_method_25_code
def yX8_back : MethodName := ⟨RX8, "back", "()I"⟩
abbrev cX8_count : ByteArray := prog_1_method_26_code
def yX8_count : MethodName := ⟨RX8, "count", "(I)I"⟩
abbrev cX8_isPerson : ByteArray := prog_1_method_27_code
def yX8_isPerson : MethodName := ⟨RX8, "isPerson", "(I)Z"⟩
abbrev cX8_within : ByteArray := prog_1_method_28_code
def yX8_within : MethodName := ⟨RX8, "within", "(III)Z"⟩
abbrev cX8_isLoanOf : ByteArray := prog_1_method_29_code
def yX8_isLoanOf : MethodName := ⟨RX8, "isLoanOf", "(II)Z"⟩
abbrev cX8_rowsOf : ByteArray := prog_1_method_30_code
def yX8_rowsOf : MethodName := ⟨RX8, "rowsOf", "(IIII)I"⟩
abbrev cX8_numberOfFirstRow : ByteArray := prog_1_method_31_code
def yX8_numberOfFirstRow : MethodName := ⟨RX8, "numberOfFirstRow", "(IIII)I"⟩
abbrev cX8_lendByDraw : ByteArray := prog_1_method_32_code
def yX8_lendByDraw : MethodName := ⟨RX8, "lendByDraw", "(LYearsLent$Books;II)V"⟩
abbrev cX8_draw : ByteArray := prog_1_method_33_code
def yX8_draw : MethodName := ⟨RX8, "draw", "(III)I"⟩
def RX9 : String := "YearsLentModel"
def TX9 : u_T := fun k => match k with
  | 0 => ("YearsLentModel", "thrown", "I", false)
  | 1 => ("YearsLentModel", "text", "[I", true)
  | 2 => ("YearsLentModel", "typed", "I", false)
  | 3 => ("YearsLentModel", "draft", "[I", true)
  | 4 => ("YearsLentModel", "people", "I", false)
  | 5 => ("YearsLentModel", "laid", "[I", true)
  | 6 => ("YearsLentModel", "rate", "I", false)
  | 7 => ("YearsLentModel", "kind", "I", false)
  | 8 => ("YearsLentModel", "law", "I", false)
  | 9 => ("YearsLentModel", "b", "[I", true)
  | 10 => ("YearsLentModel", "spare", "[I", true)
  | 11 => ("YearsLentModel", "undone", "[I", true)
  | 12 => ("YearsLentModel", "undos", "I", false)
  | 13 => ("YearsLentModel", "kept", "[I", true)
  | 14 => ("YearsLentModel", "keeps", "I", false)
  | 15 => ("YearsLentModel", "told", "[I", true)
  | 16 => ("YearsLentModel", "tolds", "I", false)
  | 17 => ("YearsLentModel", "name", "[I", true)
  | 18 => ("YearsLentModel", "paid", "[I", true)
  | 19 => ("YearsLentModel", "else_", "[I", true)
  | 20 => ("YearsLentModel", "died", "[I", true)
  | 21 => ("YearsLentModel", "diedElse", "[I", true)
  | 22 => ("YearsLentModel", "owes", "[I", true)
  | 23 => ("YearsLentModel", "ring", "[I", true)
  | 24 => ("YearsLentModel", "least", "I", false)
  | 25 => ("YearsLentModel", "greatest", "I", false)
  | _ => ("YearsLentModel", "row", "[I", true)
def tyX9 : Nat → FieldType := fun k => match k with
  | 0 => .int
  | 1 => .array .int
  | 2 => .int
  | 3 => .array .int
  | 4 => .int
  | 5 => .array .int
  | 6 => .int
  | 7 => .int
  | 8 => .int
  | 9 => .array .int
  | 10 => .array .int
  | 11 => .array .int
  | 12 => .int
  | 13 => .array .int
  | 14 => .int
  | 15 => .array .int
  | 16 => .int
  | 17 => .array .int
  | 18 => .array .int
  | 19 => .array .int
  | 20 => .array .int
  | 21 => .array .int
  | 22 => .array .int
  | 23 => .array .int
  | 24 => .int
  | 25 => .int
  | _ => .array .int
abbrev wsX90 : List Cond := u_ws RX9 TX9 27
theorem nmX9 : ∀ a, a < 27 → ∀ b, b < 27 → a ≠ b → (TX9 a).2.1 ≠ (TX9 b).2.1 := by decide +kernel
theorem tyX9_ok : ∀ k, k < 27 → parseFieldDescriptor (TX9 k).2.2.1 = some (tyX9 k) := by decide +kernel
abbrev cX9_init : ByteArray := prog_11_method_1_code
def yX9_init : MethodName := ⟨RX9, "<init>", "()V"⟩
abbrev cX9_in : ByteArray := prog_11_method_3_code
def yX9_in : MethodName := ⟨RX9, "in", "(III)Z"⟩
abbrev cX9_lesser : ByteArray := prog_11_method_4_code
def yX9_lesser : MethodName := ⟨RX9, "lesser", "(II)I"⟩
abbrev cX9_write : ByteArray := prog_11_method_5_code
def yX9_write : MethodName := ⟨RX9, "write", "(IJ)I"⟩
abbrev cX9_wipe : ByteArray := prog_11_method_6_code
def yX9_wipe : MethodName := ⟨RX9, "wipe", "()I"⟩
abbrev cX9_byteAt : ByteArray := prog_11_method_7_code
def yX9_byteAt : MethodName := ⟨RX9, "byteAt", "(I)I"⟩
abbrev cX9_isWell : ByteArray := prog_11_method_8_code
def yX9_isWell : MethodName := ⟨RX9, "isWell", "(II)Z"⟩
abbrev cX9_faultOf : ByteArray := prog_11_method_9_code
def yX9_faultOf : MethodName := ⟨RX9, "faultOf", "()I"⟩
abbrev cX9_fault : ByteArray := prog_11_method_10_code
def yX9_fault : MethodName := ⟨RX9, "fault", "()I"⟩
abbrev cX9_begins : ByteArray := prog_11_method_11_code
def yX9_begins : MethodName := ⟨RX9, "begins", "()V"⟩
abbrev cX9_lay : ByteArray := prog_11_method_12_code
def yX9_lay : MethodName := ⟨RX9, "lay", "()I"⟩
abbrev cX9_isPerson : ByteArray := prog_11_method_13_code
def yX9_isPerson : MethodName := ⟨RX9, "isPerson", "(I)Z"⟩
abbrev cX9_owesAll : ByteArray := prog_11_method_14_code
def yX9_owesAll : MethodName := ⟨RX9, "owesAll", "(I)I"⟩
abbrev cX9_person : ByteArray := prog_11_method_15_code
def yX9_person : MethodName := ⟨RX9, "person", "(II)I"⟩
abbrev cX9_loan : ByteArray := prog_11_method_16_code
def yX9_loan : MethodName := ⟨RX9, "loan", "(II)I"⟩
abbrev cX9_dueOf : ByteArray := prog_11_method_17_code
def yX9_dueOf : MethodName := ⟨RX9, "dueOf", "(I)I"⟩
abbrev cX9_isSpan : ByteArray := prog_11_method_18_code
def yX9_isSpan : MethodName := ⟨RX9, "isSpan", "(I)Z"⟩
abbrev cX9_mayAsk : ByteArray := prog_11_method_19_code
def yX9_mayAsk : MethodName := ⟨RX9, "mayAsk", "(IIII)Z"⟩
abbrev cX9_says : ByteArray := prog_11_method_20_code
def yX9_says : MethodName := ⟨RX9, "says", "(IIII)Z"⟩
abbrev cX9_notary : ByteArray := prog_11_method_21_code
def yX9_notary : MethodName := ⟨RX9, "notary", "(IIII)I"⟩
abbrev cX9_notes : ByteArray := prog_11_method_22_code
def yX9_notes : MethodName := ⟨RX9, "notes", "()V"⟩
abbrev cX9_lends : ByteArray := prog_11_method_23_code
def yX9_lends : MethodName := ⟨RX9, "lends", "(IIII)V"⟩
abbrev cX9_lend : ByteArray := prog_11_method_24_code
def yX9_lend : MethodName := ⟨RX9, "lend", "(IIII)I"⟩
abbrev cX9_gives : ByteArray := prog_11_method_25_code
def yX9_gives : MethodName := ⟨RX9, "gives", "(III)I"⟩
abbrev cX9_pays : ByteArray := prog_11_method_26_code
def yX9_pays : MethodName := ⟨RX9, "pays", "(I)V"⟩
abbrev cX9_drops : ByteArray := prog_11_method_27_code
def yX9_drops : MethodName := ⟨RX9, "drops", "(I)V"⟩
abbrev cX9_dueNow : ByteArray := prog_11_method_28_code
def yX9_dueNow : MethodName := ⟨RX9, "dueNow", "(Z)I"⟩
abbrev cX9_goes : ByteArray := prog_11_method_29_code
def yX9_goes : MethodName := ⟨RX9, "goes", "()V"⟩
abbrev cX9_living : ByteArray := prog_11_method_30_code
def yX9_living : MethodName := ⟨RX9, "living", "()I"⟩
abbrev cX9_week : ByteArray := prog_11_method_31_code
def yX9_week : MethodName := ⟨RX9, "week", "()I"⟩
abbrev cX9_undo : ByteArray := prog_11_method_32_code
def yX9_undo : MethodName := ⟨RX9, "undo", "()I"⟩
abbrev cX9_aside : ByteArray := prog_11_method_33_code
def yX9_aside : MethodName := ⟨RX9, "aside", "(Z)V"⟩
abbrev cX9_dies : ByteArray := prog_11_method_34_code
def yX9_dies : MethodName := ⟨RX9, "dies", "(I)I"⟩
abbrev cX9_run : ByteArray := prog_11_method_35_code
def yX9_run : MethodName := ⟨RX9, "run", "(III)I"⟩
abbrev cX9_tell : ByteArray := prog_11_method_36_code
def yX9_tell : MethodName := ⟨RX9, "tell", "(IIIZ)I"⟩
abbrev cX9_forget : ByteArray := prog_11_method_37_code
def yX9_forget : MethodName := ⟨RX9, "forget", "()I"⟩
abbrev cX9_isSo : ByteArray := prog_11_method_38_code
def yX9_isSo : MethodName := ⟨RX9, "isSo", "(II)Z"⟩
abbrev cX9_spans : ByteArray := prog_11_method_39_code
def yX9_spans : MethodName := ⟨RX9, "spans", "(I)V"⟩
abbrev cX9_span : ByteArray := prog_11_method_40_code
def yX9_span : MethodName := ⟨RX9, "span", "(II)I"⟩
abbrev cX9_ask : ByteArray := prog_11_method_41_code
def yX9_ask : MethodName := ⟨RX9, "ask", "(II)I"⟩
abbrev cX9_bribed : ByteArray := prog_11_method_42_code
def yX9_bribed : MethodName := ⟨RX9, "bribed", "()I"⟩
abbrev cX9_findsRing : ByteArray := prog_11_method_43_code
def yX9_findsRing : MethodName := ⟨RX9, "findsRing", "(I)Z"⟩
abbrev cX9_clears : ByteArray := prog_11_method_44_code
def yX9_clears : MethodName := ⟨RX9, "clears", "()I"⟩
abbrev cX9_cleared : ByteArray := prog_11_method_45_code
def yX9_cleared : MethodName := ⟨RX9, "cleared", "(II)I"⟩
abbrev cX9_shares : ByteArray := prog_11_method_46_code
def yX9_shares : MethodName := ⟨RX9, "shares", "(I)Z"⟩
abbrev cX9_child : ByteArray := prog_11_method_47_code
def yX9_child : MethodName := ⟨RX9, "child", "(II)I"⟩
abbrev cX9_runs : ByteArray := prog_11_method_48_code
def yX9_runs : MethodName := ⟨RX9, "runs", "()V"⟩
abbrev cX9_falls : ByteArray := prog_11_method_49_code
def yX9_falls : MethodName := ⟨RX9, "falls", "(II)I"⟩
abbrev cX9_burned : ByteArray := prog_11_method_50_code
def yX9_burned : MethodName := ⟨RX9, "burned", "(IIII)I"⟩
abbrev cX9_draw : ByteArray := prog_11_method_51_code
def yX9_draw : MethodName := ⟨RX9, "draw", "(III)I"⟩
abbrev cX9_drawn : ByteArray := prog_11_method_52_code
def yX9_drawn : MethodName := ⟨RX9, "drawn", "(III)I"⟩
abbrev cX9_keep : ByteArray := prog_11_method_53_code
def yX9_keep : MethodName := ⟨RX9, "keep", "()I"⟩
abbrev cX9_back : ByteArray := prog_11_method_54_code
def yX9_back : MethodName := ⟨RX9, "back", "()I"⟩
abbrev cX9_count : ByteArray := prog_11_method_55_code
def yX9_count : MethodName := ⟨RX9, "count", "(I)I"⟩
def RJ9 : String := "java/lang/Math"
def TJ9 : u_T := fun k => match k with
  | _ => ("", "", "", false)
def tyJ9 : Nat → FieldType := fun k => match k with
  | _ => .int
abbrev wsJ90 : List Cond := u_ws RJ9 TJ9 0
theorem nmJ9 : ∀ a, a < 0 → ∀ b, b < 0 → a ≠ b → (TJ9 a).2.1 ≠ (TJ9 b).2.1 := by decide +kernel
theorem tyJ9_ok : ∀ k, k < 0 → parseFieldDescriptor (TJ9 k).2.2.1 = some (tyJ9 k) := by decide +kernel
abbrev cJ9_max_7cf53 : ByteArray := prog_12_method_65_code
def yJ9_max_7cf53 : MethodName := ⟨RJ9, "max", "(II)I"⟩
abbrev cJ9_min_7cf53 : ByteArray := prog_12_method_69_code
def yJ9_min_7cf53 : MethodName := ⟨RJ9, "min", "(II)I"⟩
def RJ10 : String := "java/lang/System"
def TJ10 : u_T := fun k => match k with
  | _ => ("", "", "", false)
def tyJ10 : Nat → FieldType := fun k => match k with
  | _ => .int
abbrev wsJ100 : List Cond := u_ws RJ10 TJ10 0
theorem nmJ10 : ∀ a, a < 0 → ∀ b, b < 0 → a ≠ b → (TJ10 a).2.1 ≠ (TJ10 b).2.1 := by decide +kernel
theorem tyJ10_ok : ∀ k, k < 0 → parseFieldDescriptor (TJ10 k).2.2.1 = some (tyJ10 k) := by decide +kernel
def RL : String := "YearsLentLaw"
abbrev cL_law : ByteArray := code
def yL_law : MethodName := ⟨RL, "law", "([I)Z"⟩
abbrev vwCl : List vw_C := [(RX0, TX0, 11), (RX1, TX1, 2), (RX2, TX2, 3), (RX3, TX3, 2), (RX4, TX4, 5), (RX5, TX5, 5), (RX6, TX6, 4), (RX7, TX7, 3), (RX8, TX8, 11), (RX9, TX9, 27)]
