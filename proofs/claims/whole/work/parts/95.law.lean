/-! the law, call by call -/
theorem lw_cond {n : Nat} {i : Int} (i0 : 0 ≤ i) (i1 : i ≤ (n : Int) - 5) (n1 : n ≤ 2560) : (zw (i + 1) = i + 1 ∧ zw (i + 2) = i + 2 ∧ zw (i + 3) = i + 3 ∧ zw (i + 4) = i + 4) ∧ (0 ≤ i + 1 ∧ i + 1 < (n : Int)) ∧ (0 ≤ i + 2 ∧ i + 2 < (n : Int)) ∧ (0 ≤ i + 3 ∧ i + 3 < (n : Int)) ∧ (0 ≤ i + 4 ∧ i + 4 < (n : Int)) := ⟨⟨zw_id (by omega) (by omega), zw_id (by omega) (by omega), zw_id (by omega) (by omega), zw_id (by omega) (by omega)⟩, by omega, by omega, by omega, by omega⟩
theorem lw_write {n : Nat} {f : Int → Int} {i : Int} {G : zG} {H : zH} {Q : Option zV → zG → zH → Prop} (i0 : 0 ≤ i) (i1 : i ≤ (n : Int) - 5) (n1 : n ≤ 2560) (hS : SR G H) (hq : ∀ (G : zG) (H : zH), SR G H → zRunD (some (n, f)) 14 qL_law 18 [vx, vr 0, vr 130, vi (i + 5)] [] G H Q) : zRunD (some (n, f)) 14 qL_law 148 [vx, vr 0, vr 130, vi i] [] G H Q := by
  have hG := hS.1
  simp only [rL_law_148, rL_law_149, rL_law_150, rL_law_151, rL_law_152, rL_law_153, rL_law_154, rL_law_155, rL_law_156, rL_law_157, rL_law_158, rL_law_159, rL_law_160, rL_law_162, rL_law_163, rL_law_164, rL_law_165, rL_law_166, rL_law_167, rL_law_168, rL_law_169, rL_law_172, rL_law_173, rL_law_174, true_and, and_true, true_or, or_true, false_or, or_false, Option.toList_some, Option.toList_none, List.nil_append, List.cons_append, zn1, lw_cond i0 i1 n1, sO_0 hG]
  refine zR_mono (fun r G1 H1 h => ?_) (sim_write G H hS)
  obtain ⟨w, rfl, h⟩ := h
  have hc : zC G1 130 9 := by
    have h' := h
    rw [rX9_write_in] at h'
    simp only [rX9_write_0, rX9_write_1, rX9_write_2] at h'
    exact h'.1
  simp only [rL_law_177, rL_law_178, rL_law_179, rL_law_180, rL_law_181, rL_law_182, rL_law_183, rL_law_184, rL_law_185, rL_law_186, rL_law_187, rL_law_188, rL_law_189, rL_law_191, rL_law_192, rL_law_193, rL_law_194, rL_law_195, rL_law_196, rL_law_197, rL_law_198, rL_law_201, rL_law_202, rL_law_203, true_and, and_true, true_or, or_true, false_or, or_false, Option.toList_some, Option.toList_none, List.nil_append, List.cons_append, zn1, lw_cond i0 i1 n1]
  refine ⟨hc, zR_mono (fun r G2 H2 h => ?_) h⟩
  obtain ⟨rfl, h⟩ := h
  simp only [rL_law_206, rL_law_919, rL_law_922, true_and, and_true, true_or, or_true, false_or, or_false, Option.toList_some, Option.toList_none, List.nil_append, List.cons_append, zn1, if_true, zw_id (z := i + 5) (by omega) (by omega)]
  exact hq G2 H2 h
theorem lw_wipe {n : Nat} {f : Int → Int} {i : Int} {G : zG} {H : zH} {Q : Option zV → zG → zH → Prop} (i0 : 0 ≤ i) (i1 : i ≤ (n : Int) - 5) (n1 : n ≤ 2560) (hS : SR G H) (hq : ∀ (G : zG) (H : zH), SR G H → zRunD (some (n, f)) 14 qL_law 18 [vx, vr 0, vr 130, vi (i + 5)] [] G H Q) : zRunD (some (n, f)) 14 qL_law 211 [vx, vr 0, vr 130, vi i] [] G H Q := by
  have hG := hS.1
  simp only [rL_law_211, rL_law_212, true_and, and_true, true_or, or_true, false_or, or_false, Option.toList_some, Option.toList_none, List.nil_append, List.cons_append, zn1, lw_cond i0 i1 n1, sO_0 hG]
  refine zR_mono (fun r G1 H1 h => ?_) (sim_wipe G H hS)
  obtain ⟨w, rfl, h⟩ := h
  have hc : zC G1 130 9 := by
    have h' := h
    rw [rX9_wipe_in] at h'
    simp only [rX9_wipe_0, rX9_wipe_1, rX9_wipe_2] at h'
    exact h'.1
  simp only [rL_law_215, rL_law_216, true_and, and_true, true_or, or_true, false_or, or_false, Option.toList_some, Option.toList_none, List.nil_append, List.cons_append, zn1, lw_cond i0 i1 n1]
  refine ⟨hc, zR_mono (fun r G2 H2 h => ?_) h⟩
  obtain ⟨rfl, h⟩ := h
  simp only [rL_law_219, rL_law_919, rL_law_922, true_and, and_true, true_or, or_true, false_or, or_false, Option.toList_some, Option.toList_none, List.nil_append, List.cons_append, zn1, if_true, zw_id (z := i + 5) (by omega) (by omega)]
  exact hq G2 H2 h
theorem lw_fault {n : Nat} {f : Int → Int} {i : Int} {G : zG} {H : zH} {Q : Option zV → zG → zH → Prop} (i0 : 0 ≤ i) (i1 : i ≤ (n : Int) - 5) (n1 : n ≤ 2560) (hS : SR G H) (hq : ∀ (G : zG) (H : zH), SR G H → zRunD (some (n, f)) 14 qL_law 18 [vx, vr 0, vr 130, vi (i + 5)] [] G H Q) : zRunD (some (n, f)) 14 qL_law 224 [vx, vr 0, vr 130, vi i] [] G H Q := by
  have hG := hS.1
  simp only [rL_law_224, rL_law_225, true_and, and_true, true_or, or_true, false_or, or_false, Option.toList_some, Option.toList_none, List.nil_append, List.cons_append, zn1, lw_cond i0 i1 n1, sO_0 hG]
  refine zR_mono (fun r G1 H1 h => ?_) (sim_fault G H hS)
  obtain ⟨w, rfl, h⟩ := h
  have hc : zC G1 130 9 := by
    have h' := h
    rw [rX9_fault_in] at h'
    simp only [rX9_fault_0, rX9_fault_1, rX9_fault_2] at h'
    exact h'.1
  simp only [rL_law_228, rL_law_229, true_and, and_true, true_or, or_true, false_or, or_false, Option.toList_some, Option.toList_none, List.nil_append, List.cons_append, zn1, lw_cond i0 i1 n1]
  refine ⟨hc, zR_mono (fun r G2 H2 h => ?_) h⟩
  obtain ⟨rfl, h⟩ := h
  simp only [rL_law_232, rL_law_919, rL_law_922, true_and, and_true, true_or, or_true, false_or, or_false, Option.toList_some, Option.toList_none, List.nil_append, List.cons_append, zn1, if_true, zw_id (z := i + 5) (by omega) (by omega)]
  exact hq G2 H2 h
theorem lw_lay {n : Nat} {f : Int → Int} {i : Int} {G : zG} {H : zH} {Q : Option zV → zG → zH → Prop} (i0 : 0 ≤ i) (i1 : i ≤ (n : Int) - 5) (n1 : n ≤ 2560) (hS : SR G H) (hq : ∀ (G : zG) (H : zH), SR G H → zRunD (some (n, f)) 14 qL_law 18 [vx, vr 0, vr 130, vi (i + 5)] [] G H Q) : zRunD (some (n, f)) 14 qL_law 237 [vx, vr 0, vr 130, vi i] [] G H Q := by
  have hG := hS.1
  simp only [rL_law_237, rL_law_238, true_and, and_true, true_or, or_true, false_or, or_false, Option.toList_some, Option.toList_none, List.nil_append, List.cons_append, zn1, lw_cond i0 i1 n1, sO_0 hG]
  refine zR_mono (fun r G1 H1 h => ?_) (sim_lay G H hS)
  obtain ⟨w, rfl, h⟩ := h
  have hc : zC G1 130 9 := by
    have h' := h
    rw [rX9_lay_in] at h'
    simp only [rX9_lay_0, rX9_lay_1, rX9_lay_2] at h'
    exact h'.1
  simp only [rL_law_241, rL_law_242, true_and, and_true, true_or, or_true, false_or, or_false, Option.toList_some, Option.toList_none, List.nil_append, List.cons_append, zn1, lw_cond i0 i1 n1]
  refine ⟨hc, zR_mono (fun r G2 H2 h => ?_) h⟩
  obtain ⟨rfl, h⟩ := h
  simp only [rL_law_245, rL_law_919, rL_law_922, true_and, and_true, true_or, or_true, false_or, or_false, Option.toList_some, Option.toList_none, List.nil_append, List.cons_append, zn1, if_true, zw_id (z := i + 5) (by omega) (by omega)]
  exact hq G2 H2 h
theorem lw_person {n : Nat} {f : Int → Int} {i : Int} {G : zG} {H : zH} {Q : Option zV → zG → zH → Prop} (i0 : 0 ≤ i) (i1 : i ≤ (n : Int) - 5) (n1 : n ≤ 2560) (hS : SR G H) (hq : ∀ (G : zG) (H : zH), SR G H → zRunD (some (n, f)) 14 qL_law 18 [vx, vr 0, vr 130, vi (i + 5)] [] G H Q) : zRunD (some (n, f)) 14 qL_law 250 [vx, vr 0, vr 130, vi i] [] G H Q := by
  have hG := hS.1
  simp only [rL_law_250, rL_law_251, rL_law_252, rL_law_253, rL_law_254, rL_law_255, rL_law_256, rL_law_257, rL_law_258, rL_law_259, rL_law_260, rL_law_261, true_and, and_true, true_or, or_true, false_or, or_false, Option.toList_some, Option.toList_none, List.nil_append, List.cons_append, zn1, lw_cond i0 i1 n1, sO_0 hG]
  refine zR_mono (fun r G1 H1 h => ?_) (sim_person G H hS)
  obtain ⟨w, rfl, h⟩ := h
  have hc : zC G1 130 9 := by
    have h' := h
    rw [rX9_person_in] at h'
    simp only [rX9_person_0, rX9_person_1, rX9_person_2] at h'
    exact h'.1
  simp only [rL_law_264, rL_law_265, rL_law_266, rL_law_267, rL_law_268, rL_law_269, rL_law_270, rL_law_271, rL_law_272, rL_law_273, rL_law_274, rL_law_275, true_and, and_true, true_or, or_true, false_or, or_false, Option.toList_some, Option.toList_none, List.nil_append, List.cons_append, zn1, lw_cond i0 i1 n1]
  refine ⟨hc, zR_mono (fun r G2 H2 h => ?_) h⟩
  obtain ⟨rfl, h⟩ := h
  simp only [rL_law_278, rL_law_919, rL_law_922, true_and, and_true, true_or, or_true, false_or, or_false, Option.toList_some, Option.toList_none, List.nil_append, List.cons_append, zn1, if_true, zw_id (z := i + 5) (by omega) (by omega)]
  exact hq G2 H2 h
theorem lw_loan {n : Nat} {f : Int → Int} {i : Int} {G : zG} {H : zH} {Q : Option zV → zG → zH → Prop} (i0 : 0 ≤ i) (i1 : i ≤ (n : Int) - 5) (n1 : n ≤ 2560) (hS : SR G H) (hq : ∀ (G : zG) (H : zH), SR G H → zRunD (some (n, f)) 14 qL_law 18 [vx, vr 0, vr 130, vi (i + 5)] [] G H Q) : zRunD (some (n, f)) 14 qL_law 283 [vx, vr 0, vr 130, vi i] [] G H Q := by
  have hG := hS.1
  simp only [rL_law_283, rL_law_284, rL_law_285, rL_law_286, rL_law_287, rL_law_288, rL_law_289, rL_law_290, rL_law_291, rL_law_292, rL_law_293, rL_law_294, true_and, and_true, true_or, or_true, false_or, or_false, Option.toList_some, Option.toList_none, List.nil_append, List.cons_append, zn1, lw_cond i0 i1 n1, sO_0 hG]
  refine zR_mono (fun r G1 H1 h => ?_) (sim_loan G H hS)
  obtain ⟨w, rfl, h⟩ := h
  have hc : zC G1 130 9 := by
    have h' := h
    rw [rX9_loan_in] at h'
    simp only [rX9_loan_0, rX9_loan_1, rX9_loan_2] at h'
    exact h'.1
  simp only [rL_law_297, rL_law_298, rL_law_299, rL_law_300, rL_law_301, rL_law_302, rL_law_303, rL_law_304, rL_law_305, rL_law_306, rL_law_307, rL_law_308, true_and, and_true, true_or, or_true, false_or, or_false, Option.toList_some, Option.toList_none, List.nil_append, List.cons_append, zn1, lw_cond i0 i1 n1]
  refine ⟨hc, zR_mono (fun r G2 H2 h => ?_) h⟩
  obtain ⟨rfl, h⟩ := h
  simp only [rL_law_311, rL_law_919, rL_law_922, true_and, and_true, true_or, or_true, false_or, or_false, Option.toList_some, Option.toList_none, List.nil_append, List.cons_append, zn1, if_true, zw_id (z := i + 5) (by omega) (by omega)]
  exact hq G2 H2 h
theorem lw_notary {n : Nat} {f : Int → Int} {i : Int} {G : zG} {H : zH} {Q : Option zV → zG → zH → Prop} (i0 : 0 ≤ i) (i1 : i ≤ (n : Int) - 5) (n1 : n ≤ 2560) (hS : SR G H) (hq : ∀ (G : zG) (H : zH), SR G H → zRunD (some (n, f)) 14 qL_law 18 [vx, vr 0, vr 130, vi (i + 5)] [] G H Q) : zRunD (some (n, f)) 14 qL_law 316 [vx, vr 0, vr 130, vi i] [] G H Q := by
  have hG := hS.1
  simp only [rL_law_316, rL_law_317, rL_law_318, rL_law_319, rL_law_320, rL_law_321, rL_law_322, rL_law_323, rL_law_324, rL_law_325, rL_law_326, rL_law_327, rL_law_328, rL_law_329, rL_law_330, rL_law_331, rL_law_332, rL_law_333, rL_law_334, rL_law_335, rL_law_336, rL_law_337, true_and, and_true, true_or, or_true, false_or, or_false, Option.toList_some, Option.toList_none, List.nil_append, List.cons_append, zn1, lw_cond i0 i1 n1, sO_0 hG]
  refine zR_mono (fun r G1 H1 h => ?_) (sim_notary G H hS)
  obtain ⟨w, rfl, h⟩ := h
  have hc : zC G1 130 9 := by
    have h' := h
    rw [rX9_notary_in] at h'
    simp only [rX9_notary_0, rX9_notary_1, rX9_notary_2] at h'
    exact h'.1
  simp only [rL_law_340, rL_law_341, rL_law_342, rL_law_343, rL_law_344, rL_law_345, rL_law_346, rL_law_347, rL_law_348, rL_law_349, rL_law_350, rL_law_351, rL_law_352, rL_law_353, rL_law_354, rL_law_355, rL_law_356, rL_law_357, rL_law_358, rL_law_359, rL_law_360, rL_law_361, true_and, and_true, true_or, or_true, false_or, or_false, Option.toList_some, Option.toList_none, List.nil_append, List.cons_append, zn1, lw_cond i0 i1 n1]
  refine ⟨hc, zR_mono (fun r G2 H2 h => ?_) h⟩
  obtain ⟨rfl, h⟩ := h
  simp only [rL_law_364, rL_law_919, rL_law_922, true_and, and_true, true_or, or_true, false_or, or_false, Option.toList_some, Option.toList_none, List.nil_append, List.cons_append, zn1, if_true, zw_id (z := i + 5) (by omega) (by omega)]
  exact hq G2 H2 h
theorem lw_lend {n : Nat} {f : Int → Int} {i : Int} {G : zG} {H : zH} {Q : Option zV → zG → zH → Prop} (i0 : 0 ≤ i) (i1 : i ≤ (n : Int) - 5) (n1 : n ≤ 2560) (hS : SR G H) (hq : ∀ (G : zG) (H : zH), SR G H → zRunD (some (n, f)) 14 qL_law 18 [vx, vr 0, vr 130, vi (i + 5)] [] G H Q) : zRunD (some (n, f)) 14 qL_law 369 [vx, vr 0, vr 130, vi i] [] G H Q := by
  have hG := hS.1
  simp only [rL_law_369, rL_law_370, rL_law_371, rL_law_372, rL_law_373, rL_law_374, rL_law_375, rL_law_376, rL_law_377, rL_law_378, rL_law_379, rL_law_380, rL_law_381, rL_law_382, rL_law_383, rL_law_384, rL_law_385, rL_law_386, rL_law_387, rL_law_388, rL_law_389, rL_law_390, true_and, and_true, true_or, or_true, false_or, or_false, Option.toList_some, Option.toList_none, List.nil_append, List.cons_append, zn1, lw_cond i0 i1 n1, sO_0 hG]
  refine zR_mono (fun r G1 H1 h => ?_) (sim_lend G H hS)
  obtain ⟨w, rfl, h⟩ := h
  have hc : zC G1 130 9 := by
    have h' := h
    rw [rX9_lend_in] at h'
    simp only [rX9_lend_0, rX9_lend_1, rX9_lend_2] at h'
    exact h'.1
  simp only [rL_law_393, rL_law_394, rL_law_395, rL_law_396, rL_law_397, rL_law_398, rL_law_399, rL_law_400, rL_law_401, rL_law_402, rL_law_403, rL_law_404, rL_law_405, rL_law_406, rL_law_407, rL_law_408, rL_law_409, rL_law_410, rL_law_411, rL_law_412, rL_law_413, rL_law_414, true_and, and_true, true_or, or_true, false_or, or_false, Option.toList_some, Option.toList_none, List.nil_append, List.cons_append, zn1, lw_cond i0 i1 n1]
  refine ⟨hc, zR_mono (fun r G2 H2 h => ?_) h⟩
  obtain ⟨rfl, h⟩ := h
  simp only [rL_law_417, rL_law_919, rL_law_922, true_and, and_true, true_or, or_true, false_or, or_false, Option.toList_some, Option.toList_none, List.nil_append, List.cons_append, zn1, if_true, zw_id (z := i + 5) (by omega) (by omega)]
  exact hq G2 H2 h
theorem lw_week {n : Nat} {f : Int → Int} {i : Int} {G : zG} {H : zH} {Q : Option zV → zG → zH → Prop} (i0 : 0 ≤ i) (i1 : i ≤ (n : Int) - 5) (n1 : n ≤ 2560) (hS : SR G H) (hq : ∀ (G : zG) (H : zH), SR G H → zRunD (some (n, f)) 14 qL_law 18 [vx, vr 0, vr 130, vi (i + 5)] [] G H Q) : zRunD (some (n, f)) 14 qL_law 422 [vx, vr 0, vr 130, vi i] [] G H Q := by
  have hG := hS.1
  simp only [rL_law_422, rL_law_423, true_and, and_true, true_or, or_true, false_or, or_false, Option.toList_some, Option.toList_none, List.nil_append, List.cons_append, zn1, lw_cond i0 i1 n1, sO_0 hG]
  refine zR_mono (fun r G1 H1 h => ?_) (sim_week G H hS)
  obtain ⟨w, rfl, h⟩ := h
  have hc : zC G1 130 9 := by
    have h' := h
    rw [rX9_week_in] at h'
    simp only [rX9_week_0, rX9_week_1, rX9_week_2] at h'
    exact h'.1
  simp only [rL_law_426, rL_law_427, true_and, and_true, true_or, or_true, false_or, or_false, Option.toList_some, Option.toList_none, List.nil_append, List.cons_append, zn1, lw_cond i0 i1 n1]
  refine ⟨hc, zR_mono (fun r G2 H2 h => ?_) h⟩
  obtain ⟨rfl, h⟩ := h
  simp only [rL_law_430, rL_law_919, rL_law_922, true_and, and_true, true_or, or_true, false_or, or_false, Option.toList_some, Option.toList_none, List.nil_append, List.cons_append, zn1, if_true, zw_id (z := i + 5) (by omega) (by omega)]
  exact hq G2 H2 h
theorem lw_undo {n : Nat} {f : Int → Int} {i : Int} {G : zG} {H : zH} {Q : Option zV → zG → zH → Prop} (i0 : 0 ≤ i) (i1 : i ≤ (n : Int) - 5) (n1 : n ≤ 2560) (hS : SR G H) (hq : ∀ (G : zG) (H : zH), SR G H → zRunD (some (n, f)) 14 qL_law 18 [vx, vr 0, vr 130, vi (i + 5)] [] G H Q) : zRunD (some (n, f)) 14 qL_law 435 [vx, vr 0, vr 130, vi i] [] G H Q := by
  have hG := hS.1
  simp only [rL_law_435, rL_law_436, true_and, and_true, true_or, or_true, false_or, or_false, Option.toList_some, Option.toList_none, List.nil_append, List.cons_append, zn1, lw_cond i0 i1 n1, sO_0 hG]
  refine zR_mono (fun r G1 H1 h => ?_) (sim_undo G H hS)
  obtain ⟨w, rfl, h⟩ := h
  have hc : zC G1 130 9 := by
    have h' := h
    rw [rX9_undo_in] at h'
    simp only [rX9_undo_0, rX9_undo_1, rX9_undo_2] at h'
    exact h'.1
  simp only [rL_law_439, rL_law_440, true_and, and_true, true_or, or_true, false_or, or_false, Option.toList_some, Option.toList_none, List.nil_append, List.cons_append, zn1, lw_cond i0 i1 n1]
  refine ⟨hc, zR_mono (fun r G2 H2 h => ?_) h⟩
  obtain ⟨rfl, h⟩ := h
  simp only [rL_law_443, rL_law_919, rL_law_922, true_and, and_true, true_or, or_true, false_or, or_false, Option.toList_some, Option.toList_none, List.nil_append, List.cons_append, zn1, if_true, zw_id (z := i + 5) (by omega) (by omega)]
  exact hq G2 H2 h
theorem lw_dies {n : Nat} {f : Int → Int} {i : Int} {G : zG} {H : zH} {Q : Option zV → zG → zH → Prop} (i0 : 0 ≤ i) (i1 : i ≤ (n : Int) - 5) (n1 : n ≤ 2560) (hS : SR G H) (hq : ∀ (G : zG) (H : zH), SR G H → zRunD (some (n, f)) 14 qL_law 18 [vx, vr 0, vr 130, vi (i + 5)] [] G H Q) : zRunD (some (n, f)) 14 qL_law 448 [vx, vr 0, vr 130, vi i] [] G H Q := by
  have hG := hS.1
  simp only [rL_law_448, rL_law_449, rL_law_450, rL_law_451, rL_law_452, rL_law_453, rL_law_454, true_and, and_true, true_or, or_true, false_or, or_false, Option.toList_some, Option.toList_none, List.nil_append, List.cons_append, zn1, lw_cond i0 i1 n1, sO_0 hG]
  refine zR_mono (fun r G1 H1 h => ?_) (sim_dies G H hS)
  obtain ⟨w, rfl, h⟩ := h
  have hc : zC G1 130 9 := by
    have h' := h
    rw [rX9_dies_in] at h'
    simp only [rX9_dies_0, rX9_dies_1, rX9_dies_2] at h'
    exact h'.1
  simp only [rL_law_457, rL_law_458, rL_law_459, rL_law_460, rL_law_461, rL_law_462, rL_law_463, true_and, and_true, true_or, or_true, false_or, or_false, Option.toList_some, Option.toList_none, List.nil_append, List.cons_append, zn1, lw_cond i0 i1 n1]
  refine ⟨hc, zR_mono (fun r G2 H2 h => ?_) h⟩
  obtain ⟨rfl, h⟩ := h
  simp only [rL_law_466, rL_law_919, rL_law_922, true_and, and_true, true_or, or_true, false_or, or_false, Option.toList_some, Option.toList_none, List.nil_append, List.cons_append, zn1, if_true, zw_id (z := i + 5) (by omega) (by omega)]
  exact hq G2 H2 h
theorem lw_run {n : Nat} {f : Int → Int} {i : Int} {G : zG} {H : zH} {Q : Option zV → zG → zH → Prop} (i0 : 0 ≤ i) (i1 : i ≤ (n : Int) - 5) (n1 : n ≤ 2560) (hS : SR G H) (hq : ∀ (G : zG) (H : zH), SR G H → zRunD (some (n, f)) 14 qL_law 18 [vx, vr 0, vr 130, vi (i + 5)] [] G H Q) : zRunD (some (n, f)) 14 qL_law 471 [vx, vr 0, vr 130, vi i] [] G H Q := by
  have hG := hS.1
  simp only [rL_law_471, rL_law_472, rL_law_473, rL_law_474, rL_law_475, rL_law_476, rL_law_477, rL_law_478, rL_law_479, rL_law_480, rL_law_481, rL_law_482, rL_law_483, rL_law_484, rL_law_485, rL_law_486, rL_law_487, true_and, and_true, true_or, or_true, false_or, or_false, Option.toList_some, Option.toList_none, List.nil_append, List.cons_append, zn1, lw_cond i0 i1 n1, sO_0 hG]
  refine zR_mono (fun r G1 H1 h => ?_) (sim_run G H hS)
  obtain ⟨w, rfl, h⟩ := h
  have hc : zC G1 130 9 := by
    have h' := h
    rw [rX9_run_in] at h'
    simp only [rX9_run_0, rX9_run_1, rX9_run_2] at h'
    exact h'.1
  simp only [rL_law_490, rL_law_491, rL_law_492, rL_law_493, rL_law_494, rL_law_495, rL_law_496, rL_law_497, rL_law_498, rL_law_499, rL_law_500, rL_law_501, rL_law_502, rL_law_503, rL_law_504, rL_law_505, rL_law_506, true_and, and_true, true_or, or_true, false_or, or_false, Option.toList_some, Option.toList_none, List.nil_append, List.cons_append, zn1, lw_cond i0 i1 n1]
  refine ⟨hc, zR_mono (fun r G2 H2 h => ?_) h⟩
  obtain ⟨rfl, h⟩ := h
  simp only [rL_law_509, rL_law_919, rL_law_922, true_and, and_true, true_or, or_true, false_or, or_false, Option.toList_some, Option.toList_none, List.nil_append, List.cons_append, zn1, if_true, zw_id (z := i + 5) (by omega) (by omega)]
  exact hq G2 H2 h
theorem lw_tell {n : Nat} {f : Int → Int} {i : Int} {G : zG} {H : zH} {Q : Option zV → zG → zH → Prop} (i0 : 0 ≤ i) (i1 : i ≤ (n : Int) - 5) (n1 : n ≤ 2560) (hS : SR G H) (hq : ∀ (G : zG) (H : zH), SR G H → zRunD (some (n, f)) 14 qL_law 18 [vx, vr 0, vr 130, vi (i + 5)] [] G H Q) : zRunD (some (n, f)) 14 qL_law 514 [vx, vr 0, vr 130, vi i] [] G H Q := by
  have hG := hS.1
  have go : ∀ b : Int, (b = 0 ∨ b = 1) → b = (if f (i + 4) = 0 then 0 else 1) → zCall qX8_tell [vr 0, vi (f (i + 1)), vi (f (i + 2)), vi (f (i + 3)), vi b] G H (fun r G H => zRunD (some (n, f)) 14 qL_law 546 [vx, vr 0, vr 130, vi i] (r.toList ++ []) G H Q) := by
    intro b hb he
    refine zR_mono (fun r G1 H1 h => ?_) (sim_tell hb G H hS)
    obtain ⟨w, rfl, h⟩ := h
    have hc : zC G1 130 9 := by
      have h' := h
      rw [rX9_tell_in] at h'
      simp only [rX9_tell_0, rX9_tell_1, rX9_tell_2] at h'
      exact h'.1
    simp only [rL_law_546, rL_law_547, rL_law_548, rL_law_549, rL_law_550, rL_law_551, rL_law_552, rL_law_553, rL_law_554, rL_law_555, rL_law_556, rL_law_557, rL_law_558, rL_law_559, rL_law_560, rL_law_561, rL_law_562, rL_law_563, rL_law_564, rL_law_565, rL_law_566, rL_law_567, rL_law_570, rL_law_571, rL_law_574, rL_law_575, true_and, and_true, true_or, or_true, false_or, or_false, Option.toList_some, Option.toList_none, List.nil_append, List.cons_append, zn1, lw_cond i0 i1 n1]
    have fin : zC G1 130 9 ∧ zCall qX9_tell [vr 130, vi (f (i + 1)), vi (f (i + 2)), vi (f (i + 3)), vi b] G1 H1 (fun r G H => zRunD (some (n, f)) 14 qL_law 578 [vx, vr 0, vr 130, vi i] (r.toList ++ [vi w]) G H Q) := by
      refine ⟨hc, zR_mono (fun r G2 H2 h => ?_) h⟩
      obtain ⟨rfl, h⟩ := h
      simp only [rL_law_578, rL_law_919, rL_law_922, true_and, and_true, true_or, or_true, false_or, or_false, Option.toList_some, Option.toList_none, List.nil_append, List.cons_append, zn1, if_true, zw_id (z := i + 5) (by omega) (by omega)]
      exact hq G2 H2 h
    by_cases c : f (i + 4) = 0
    · rw [if_pos c] at he ⊢
      rw [he] at fin
      exact fin
    · rw [if_neg c] at he ⊢
      rw [he] at fin
      exact fin
  simp only [rL_law_514, rL_law_515, rL_law_516, rL_law_517, rL_law_518, rL_law_519, rL_law_520, rL_law_521, rL_law_522, rL_law_523, rL_law_524, rL_law_525, rL_law_526, rL_law_527, rL_law_528, rL_law_529, rL_law_530, rL_law_531, rL_law_532, rL_law_533, rL_law_534, rL_law_535, rL_law_538, rL_law_539, rL_law_542, rL_law_543, true_and, and_true, true_or, or_true, false_or, or_false, Option.toList_some, Option.toList_none, List.nil_append, List.cons_append, zn1, lw_cond i0 i1 n1]
  by_cases c : f (i + 4) = 0
  · rw [if_pos c]
    exact ⟨(sO_0 hG).1, go 0 (Or.inl rfl) (by rw [if_pos c])⟩
  · rw [if_neg c]
    exact ⟨(sO_0 hG).1, go 1 (Or.inr rfl) (by rw [if_neg c])⟩
theorem lw_forget {n : Nat} {f : Int → Int} {i : Int} {G : zG} {H : zH} {Q : Option zV → zG → zH → Prop} (i0 : 0 ≤ i) (i1 : i ≤ (n : Int) - 5) (n1 : n ≤ 2560) (hS : SR G H) (hq : ∀ (G : zG) (H : zH), SR G H → zRunD (some (n, f)) 14 qL_law 18 [vx, vr 0, vr 130, vi (i + 5)] [] G H Q) : zRunD (some (n, f)) 14 qL_law 583 [vx, vr 0, vr 130, vi i] [] G H Q := by
  have hG := hS.1
  simp only [rL_law_583, rL_law_584, true_and, and_true, true_or, or_true, false_or, or_false, Option.toList_some, Option.toList_none, List.nil_append, List.cons_append, zn1, lw_cond i0 i1 n1, sO_0 hG]
  refine zR_mono (fun r G1 H1 h => ?_) (sim_forget G H hS)
  obtain ⟨w, rfl, h⟩ := h
  have hc : zC G1 130 9 := by
    have h' := h
    rw [rX9_forget_in] at h'
    simp only [rX9_forget_0, rX9_forget_1, rX9_forget_2] at h'
    exact h'.1
  simp only [rL_law_587, rL_law_588, true_and, and_true, true_or, or_true, false_or, or_false, Option.toList_some, Option.toList_none, List.nil_append, List.cons_append, zn1, lw_cond i0 i1 n1]
  refine ⟨hc, zR_mono (fun r G2 H2 h => ?_) h⟩
  obtain ⟨rfl, h⟩ := h
  simp only [rL_law_591, rL_law_919, rL_law_922, true_and, and_true, true_or, or_true, false_or, or_false, Option.toList_some, Option.toList_none, List.nil_append, List.cons_append, zn1, if_true, zw_id (z := i + 5) (by omega) (by omega)]
  exact hq G2 H2 h
theorem lw_span {n : Nat} {f : Int → Int} {i : Int} {G : zG} {H : zH} {Q : Option zV → zG → zH → Prop} (i0 : 0 ≤ i) (i1 : i ≤ (n : Int) - 5) (n1 : n ≤ 2560) (hS : SR G H) (hq : ∀ (G : zG) (H : zH), SR G H → zRunD (some (n, f)) 14 qL_law 18 [vx, vr 0, vr 130, vi (i + 5)] [] G H Q) : zRunD (some (n, f)) 14 qL_law 596 [vx, vr 0, vr 130, vi i] [] G H Q := by
  have hG := hS.1
  simp only [rL_law_596, rL_law_597, rL_law_598, rL_law_599, rL_law_600, rL_law_601, rL_law_602, rL_law_603, rL_law_604, rL_law_605, rL_law_606, rL_law_607, true_and, and_true, true_or, or_true, false_or, or_false, Option.toList_some, Option.toList_none, List.nil_append, List.cons_append, zn1, lw_cond i0 i1 n1, sO_0 hG]
  refine zR_mono (fun r G1 H1 h => ?_) (sim_span G H hS)
  obtain ⟨w, rfl, h⟩ := h
  have hc : zC G1 130 9 := by
    have h' := h
    rw [rX9_span_in] at h'
    simp only [rX9_span_0, rX9_span_1, rX9_span_2] at h'
    exact h'.1
  simp only [rL_law_610, rL_law_611, rL_law_612, rL_law_613, rL_law_614, rL_law_615, rL_law_616, rL_law_617, rL_law_618, rL_law_619, rL_law_620, rL_law_621, true_and, and_true, true_or, or_true, false_or, or_false, Option.toList_some, Option.toList_none, List.nil_append, List.cons_append, zn1, lw_cond i0 i1 n1]
  refine ⟨hc, zR_mono (fun r G2 H2 h => ?_) h⟩
  obtain ⟨rfl, h⟩ := h
  simp only [rL_law_624, rL_law_919, rL_law_922, true_and, and_true, true_or, or_true, false_or, or_false, Option.toList_some, Option.toList_none, List.nil_append, List.cons_append, zn1, if_true, zw_id (z := i + 5) (by omega) (by omega)]
  exact hq G2 H2 h
theorem lw_ask {n : Nat} {f : Int → Int} {i : Int} {G : zG} {H : zH} {Q : Option zV → zG → zH → Prop} (i0 : 0 ≤ i) (i1 : i ≤ (n : Int) - 5) (n1 : n ≤ 2560) (hS : SR G H) (hq : ∀ (G : zG) (H : zH), SR G H → zRunD (some (n, f)) 14 qL_law 18 [vx, vr 0, vr 130, vi (i + 5)] [] G H Q) : zRunD (some (n, f)) 14 qL_law 629 [vx, vr 0, vr 130, vi i] [] G H Q := by
  have hG := hS.1
  simp only [rL_law_629, rL_law_630, rL_law_631, rL_law_632, rL_law_633, rL_law_634, rL_law_635, rL_law_636, rL_law_637, rL_law_638, rL_law_639, rL_law_640, true_and, and_true, true_or, or_true, false_or, or_false, Option.toList_some, Option.toList_none, List.nil_append, List.cons_append, zn1, lw_cond i0 i1 n1, sO_0 hG]
  refine zR_mono (fun r G1 H1 h => ?_) (sim_ask G H hS)
  obtain ⟨w, rfl, h⟩ := h
  have hc : zC G1 130 9 := by
    have h' := h
    rw [rX9_ask_in] at h'
    simp only [rX9_ask_0, rX9_ask_1, rX9_ask_2] at h'
    exact h'.1
  simp only [rL_law_643, rL_law_644, rL_law_645, rL_law_646, rL_law_647, rL_law_648, rL_law_649, rL_law_650, rL_law_651, rL_law_652, rL_law_653, rL_law_654, true_and, and_true, true_or, or_true, false_or, or_false, Option.toList_some, Option.toList_none, List.nil_append, List.cons_append, zn1, lw_cond i0 i1 n1]
  refine ⟨hc, zR_mono (fun r G2 H2 h => ?_) h⟩
  obtain ⟨rfl, h⟩ := h
  simp only [rL_law_657, rL_law_919, rL_law_922, true_and, and_true, true_or, or_true, false_or, or_false, Option.toList_some, Option.toList_none, List.nil_append, List.cons_append, zn1, if_true, zw_id (z := i + 5) (by omega) (by omega)]
  exact hq G2 H2 h
theorem lw_bribed {n : Nat} {f : Int → Int} {i : Int} {G : zG} {H : zH} {Q : Option zV → zG → zH → Prop} (i0 : 0 ≤ i) (i1 : i ≤ (n : Int) - 5) (n1 : n ≤ 2560) (hS : SR G H) (hq : ∀ (G : zG) (H : zH), SR G H → zRunD (some (n, f)) 14 qL_law 18 [vx, vr 0, vr 130, vi (i + 5)] [] G H Q) : zRunD (some (n, f)) 14 qL_law 662 [vx, vr 0, vr 130, vi i] [] G H Q := by
  have hG := hS.1
  simp only [rL_law_662, rL_law_663, true_and, and_true, true_or, or_true, false_or, or_false, Option.toList_some, Option.toList_none, List.nil_append, List.cons_append, zn1, lw_cond i0 i1 n1, sO_0 hG]
  refine zR_mono (fun r G1 H1 h => ?_) (sim_bribed G H hS)
  obtain ⟨w, rfl, h⟩ := h
  have hc : zC G1 130 9 := by
    have h' := h
    rw [rX9_bribed_in] at h'
    simp only [rX9_bribed_0, rX9_bribed_1, rX9_bribed_2] at h'
    exact h'.1
  simp only [rL_law_666, rL_law_667, true_and, and_true, true_or, or_true, false_or, or_false, Option.toList_some, Option.toList_none, List.nil_append, List.cons_append, zn1, lw_cond i0 i1 n1]
  refine ⟨hc, zR_mono (fun r G2 H2 h => ?_) h⟩
  obtain ⟨rfl, h⟩ := h
  simp only [rL_law_670, rL_law_919, rL_law_922, true_and, and_true, true_or, or_true, false_or, or_false, Option.toList_some, Option.toList_none, List.nil_append, List.cons_append, zn1, if_true, zw_id (z := i + 5) (by omega) (by omega)]
  exact hq G2 H2 h
theorem lw_cleared {n : Nat} {f : Int → Int} {i : Int} {G : zG} {H : zH} {Q : Option zV → zG → zH → Prop} (i0 : 0 ≤ i) (i1 : i ≤ (n : Int) - 5) (n1 : n ≤ 2560) (hS : SR G H) (hq : ∀ (G : zG) (H : zH), SR G H → zRunD (some (n, f)) 14 qL_law 18 [vx, vr 0, vr 130, vi (i + 5)] [] G H Q) : zRunD (some (n, f)) 14 qL_law 675 [vx, vr 0, vr 130, vi i] [] G H Q := by
  have hG := hS.1
  simp only [rL_law_675, rL_law_676, rL_law_677, rL_law_678, rL_law_679, rL_law_680, rL_law_681, rL_law_682, rL_law_683, rL_law_684, rL_law_685, rL_law_686, true_and, and_true, true_or, or_true, false_or, or_false, Option.toList_some, Option.toList_none, List.nil_append, List.cons_append, zn1, lw_cond i0 i1 n1, sO_0 hG]
  refine zR_mono (fun r G1 H1 h => ?_) (sim_cleared G H hS)
  obtain ⟨w, rfl, h⟩ := h
  have hc : zC G1 130 9 := by
    have h' := h
    rw [rX9_cleared_in] at h'
    simp only [rX9_cleared_0, rX9_cleared_1, rX9_cleared_2] at h'
    exact h'.1
  simp only [rL_law_689, rL_law_690, rL_law_691, rL_law_692, rL_law_693, rL_law_694, rL_law_695, rL_law_696, rL_law_697, rL_law_698, rL_law_699, rL_law_700, true_and, and_true, true_or, or_true, false_or, or_false, Option.toList_some, Option.toList_none, List.nil_append, List.cons_append, zn1, lw_cond i0 i1 n1]
  refine ⟨hc, zR_mono (fun r G2 H2 h => ?_) h⟩
  obtain ⟨rfl, h⟩ := h
  simp only [rL_law_703, rL_law_919, rL_law_922, true_and, and_true, true_or, or_true, false_or, or_false, Option.toList_some, Option.toList_none, List.nil_append, List.cons_append, zn1, if_true, zw_id (z := i + 5) (by omega) (by omega)]
  exact hq G2 H2 h
theorem lw_child {n : Nat} {f : Int → Int} {i : Int} {G : zG} {H : zH} {Q : Option zV → zG → zH → Prop} (i0 : 0 ≤ i) (i1 : i ≤ (n : Int) - 5) (n1 : n ≤ 2560) (hS : SR G H) (hq : ∀ (G : zG) (H : zH), SR G H → zRunD (some (n, f)) 14 qL_law 18 [vx, vr 0, vr 130, vi (i + 5)] [] G H Q) : zRunD (some (n, f)) 14 qL_law 708 [vx, vr 0, vr 130, vi i] [] G H Q := by
  have hG := hS.1
  simp only [rL_law_708, rL_law_709, rL_law_710, rL_law_711, rL_law_712, rL_law_713, rL_law_714, rL_law_715, rL_law_716, rL_law_717, rL_law_718, rL_law_719, true_and, and_true, true_or, or_true, false_or, or_false, Option.toList_some, Option.toList_none, List.nil_append, List.cons_append, zn1, lw_cond i0 i1 n1, sO_0 hG]
  refine zR_mono (fun r G1 H1 h => ?_) (sim_child G H hS)
  obtain ⟨w, rfl, h⟩ := h
  have hc : zC G1 130 9 := by
    have h' := h
    rw [rX9_child_in] at h'
    simp only [rX9_child_0, rX9_child_1, rX9_child_2] at h'
    exact h'.1
  simp only [rL_law_722, rL_law_723, rL_law_724, rL_law_725, rL_law_726, rL_law_727, rL_law_728, rL_law_729, rL_law_730, rL_law_731, rL_law_732, rL_law_733, true_and, and_true, true_or, or_true, false_or, or_false, Option.toList_some, Option.toList_none, List.nil_append, List.cons_append, zn1, lw_cond i0 i1 n1]
  refine ⟨hc, zR_mono (fun r G2 H2 h => ?_) h⟩
  obtain ⟨rfl, h⟩ := h
  simp only [rL_law_736, rL_law_919, rL_law_922, true_and, and_true, true_or, or_true, false_or, or_false, Option.toList_some, Option.toList_none, List.nil_append, List.cons_append, zn1, if_true, zw_id (z := i + 5) (by omega) (by omega)]
  exact hq G2 H2 h
theorem lw_falls {n : Nat} {f : Int → Int} {i : Int} {G : zG} {H : zH} {Q : Option zV → zG → zH → Prop} (i0 : 0 ≤ i) (i1 : i ≤ (n : Int) - 5) (n1 : n ≤ 2560) (hS : SR G H) (hq : ∀ (G : zG) (H : zH), SR G H → zRunD (some (n, f)) 14 qL_law 18 [vx, vr 0, vr 130, vi (i + 5)] [] G H Q) : zRunD (some (n, f)) 14 qL_law 741 [vx, vr 0, vr 130, vi i] [] G H Q := by
  have hG := hS.1
  simp only [rL_law_741, rL_law_742, rL_law_743, rL_law_744, rL_law_745, rL_law_746, rL_law_747, rL_law_748, rL_law_749, rL_law_750, rL_law_751, rL_law_752, true_and, and_true, true_or, or_true, false_or, or_false, Option.toList_some, Option.toList_none, List.nil_append, List.cons_append, zn1, lw_cond i0 i1 n1, sO_0 hG]
  refine zR_mono (fun r G1 H1 h => ?_) (sim_falls G H hS)
  obtain ⟨w, rfl, h⟩ := h
  have hc : zC G1 130 9 := by
    have h' := h
    rw [rX9_falls_in] at h'
    simp only [rX9_falls_0, rX9_falls_1, rX9_falls_2] at h'
    exact h'.1
  simp only [rL_law_755, rL_law_756, rL_law_757, rL_law_758, rL_law_759, rL_law_760, rL_law_761, rL_law_762, rL_law_763, rL_law_764, rL_law_765, rL_law_766, true_and, and_true, true_or, or_true, false_or, or_false, Option.toList_some, Option.toList_none, List.nil_append, List.cons_append, zn1, lw_cond i0 i1 n1]
  refine ⟨hc, zR_mono (fun r G2 H2 h => ?_) h⟩
  obtain ⟨rfl, h⟩ := h
  simp only [rL_law_769, rL_law_919, rL_law_922, true_and, and_true, true_or, or_true, false_or, or_false, Option.toList_some, Option.toList_none, List.nil_append, List.cons_append, zn1, if_true, zw_id (z := i + 5) (by omega) (by omega)]
  exact hq G2 H2 h
theorem lw_burned {n : Nat} {f : Int → Int} {i : Int} {G : zG} {H : zH} {Q : Option zV → zG → zH → Prop} (i0 : 0 ≤ i) (i1 : i ≤ (n : Int) - 5) (n1 : n ≤ 2560) (hS : SR G H) (hq : ∀ (G : zG) (H : zH), SR G H → zRunD (some (n, f)) 14 qL_law 18 [vx, vr 0, vr 130, vi (i + 5)] [] G H Q) : zRunD (some (n, f)) 14 qL_law 774 [vx, vr 0, vr 130, vi i] [] G H Q := by
  have hG := hS.1
  simp only [rL_law_774, rL_law_775, rL_law_776, rL_law_777, rL_law_778, rL_law_779, rL_law_780, rL_law_781, rL_law_782, rL_law_783, rL_law_784, rL_law_785, rL_law_786, rL_law_787, rL_law_788, rL_law_789, rL_law_790, rL_law_791, rL_law_792, rL_law_793, rL_law_794, rL_law_795, true_and, and_true, true_or, or_true, false_or, or_false, Option.toList_some, Option.toList_none, List.nil_append, List.cons_append, zn1, lw_cond i0 i1 n1, sO_0 hG]
  refine zR_mono (fun r G1 H1 h => ?_) (sim_burned G H hS)
  obtain ⟨w, rfl, h⟩ := h
  have hc : zC G1 130 9 := by
    have h' := h
    rw [rX9_burned_in] at h'
    simp only [rX9_burned_0, rX9_burned_1, rX9_burned_2] at h'
    exact h'.1
  simp only [rL_law_798, rL_law_799, rL_law_800, rL_law_801, rL_law_802, rL_law_803, rL_law_804, rL_law_805, rL_law_806, rL_law_807, rL_law_808, rL_law_809, rL_law_810, rL_law_811, rL_law_812, rL_law_813, rL_law_814, rL_law_815, rL_law_816, rL_law_817, rL_law_818, rL_law_819, true_and, and_true, true_or, or_true, false_or, or_false, Option.toList_some, Option.toList_none, List.nil_append, List.cons_append, zn1, lw_cond i0 i1 n1]
  refine ⟨hc, zR_mono (fun r G2 H2 h => ?_) h⟩
  obtain ⟨rfl, h⟩ := h
  simp only [rL_law_822, rL_law_919, rL_law_922, true_and, and_true, true_or, or_true, false_or, or_false, Option.toList_some, Option.toList_none, List.nil_append, List.cons_append, zn1, if_true, zw_id (z := i + 5) (by omega) (by omega)]
  exact hq G2 H2 h
theorem lw_drawn {n : Nat} {f : Int → Int} {i : Int} {G : zG} {H : zH} {Q : Option zV → zG → zH → Prop} (i0 : 0 ≤ i) (i1 : i ≤ (n : Int) - 5) (n1 : n ≤ 2560) (hS : SR G H) (hq : ∀ (G : zG) (H : zH), SR G H → zRunD (some (n, f)) 14 qL_law 18 [vx, vr 0, vr 130, vi (i + 5)] [] G H Q) : zRunD (some (n, f)) 14 qL_law 827 [vx, vr 0, vr 130, vi i] [] G H Q := by
  have hG := hS.1
  simp only [rL_law_827, rL_law_828, rL_law_829, rL_law_830, rL_law_831, rL_law_832, rL_law_833, rL_law_834, rL_law_835, rL_law_836, rL_law_837, rL_law_838, rL_law_839, rL_law_840, rL_law_841, rL_law_842, rL_law_843, true_and, and_true, true_or, or_true, false_or, or_false, Option.toList_some, Option.toList_none, List.nil_append, List.cons_append, zn1, lw_cond i0 i1 n1, sO_0 hG]
  refine zR_mono (fun r G1 H1 h => ?_) (sim_drawn G H hS)
  obtain ⟨w, rfl, h⟩ := h
  have hc : zC G1 130 9 := by
    have h' := h
    rw [rX9_drawn_in] at h'
    simp only [rX9_drawn_0, rX9_drawn_1, rX9_drawn_2] at h'
    exact h'.1
  simp only [rL_law_846, rL_law_847, rL_law_848, rL_law_849, rL_law_850, rL_law_851, rL_law_852, rL_law_853, rL_law_854, rL_law_855, rL_law_856, rL_law_857, rL_law_858, rL_law_859, rL_law_860, rL_law_861, rL_law_862, true_and, and_true, true_or, or_true, false_or, or_false, Option.toList_some, Option.toList_none, List.nil_append, List.cons_append, zn1, lw_cond i0 i1 n1]
  refine ⟨hc, zR_mono (fun r G2 H2 h => ?_) h⟩
  obtain ⟨rfl, h⟩ := h
  simp only [rL_law_865, rL_law_919, rL_law_922, true_and, and_true, true_or, or_true, false_or, or_false, Option.toList_some, Option.toList_none, List.nil_append, List.cons_append, zn1, if_true, zw_id (z := i + 5) (by omega) (by omega)]
  exact hq G2 H2 h
theorem lw_keep {n : Nat} {f : Int → Int} {i : Int} {G : zG} {H : zH} {Q : Option zV → zG → zH → Prop} (i0 : 0 ≤ i) (i1 : i ≤ (n : Int) - 5) (n1 : n ≤ 2560) (hS : SR G H) (hq : ∀ (G : zG) (H : zH), SR G H → zRunD (some (n, f)) 14 qL_law 18 [vx, vr 0, vr 130, vi (i + 5)] [] G H Q) : zRunD (some (n, f)) 14 qL_law 870 [vx, vr 0, vr 130, vi i] [] G H Q := by
  have hG := hS.1
  simp only [rL_law_870, rL_law_871, true_and, and_true, true_or, or_true, false_or, or_false, Option.toList_some, Option.toList_none, List.nil_append, List.cons_append, zn1, lw_cond i0 i1 n1, sO_0 hG]
  refine zR_mono (fun r G1 H1 h => ?_) (sim_keep G H hS)
  obtain ⟨w, rfl, h⟩ := h
  have hc : zC G1 130 9 := by
    have h' := h
    rw [rX9_keep_in] at h'
    simp only [rX9_keep_0, rX9_keep_1, rX9_keep_2] at h'
    exact h'.1
  simp only [rL_law_874, rL_law_875, true_and, and_true, true_or, or_true, false_or, or_false, Option.toList_some, Option.toList_none, List.nil_append, List.cons_append, zn1, lw_cond i0 i1 n1]
  refine ⟨hc, zR_mono (fun r G2 H2 h => ?_) h⟩
  obtain ⟨rfl, h⟩ := h
  simp only [rL_law_878, rL_law_919, rL_law_922, true_and, and_true, true_or, or_true, false_or, or_false, Option.toList_some, Option.toList_none, List.nil_append, List.cons_append, zn1, if_true, zw_id (z := i + 5) (by omega) (by omega)]
  exact hq G2 H2 h
theorem lw_back {n : Nat} {f : Int → Int} {i : Int} {G : zG} {H : zH} {Q : Option zV → zG → zH → Prop} (i0 : 0 ≤ i) (i1 : i ≤ (n : Int) - 5) (n1 : n ≤ 2560) (hS : SR G H) (hq : ∀ (G : zG) (H : zH), SR G H → zRunD (some (n, f)) 14 qL_law 18 [vx, vr 0, vr 130, vi (i + 5)] [] G H Q) : zRunD (some (n, f)) 14 qL_law 883 [vx, vr 0, vr 130, vi i] [] G H Q := by
  have hG := hS.1
  simp only [rL_law_883, rL_law_884, true_and, and_true, true_or, or_true, false_or, or_false, Option.toList_some, Option.toList_none, List.nil_append, List.cons_append, zn1, lw_cond i0 i1 n1, sO_0 hG]
  refine zR_mono (fun r G1 H1 h => ?_) (sim_back G H hS)
  obtain ⟨w, rfl, h⟩ := h
  have hc : zC G1 130 9 := by
    have h' := h
    rw [rX9_back_in] at h'
    simp only [rX9_back_0, rX9_back_1, rX9_back_2] at h'
    exact h'.1
  simp only [rL_law_887, rL_law_888, true_and, and_true, true_or, or_true, false_or, or_false, Option.toList_some, Option.toList_none, List.nil_append, List.cons_append, zn1, lw_cond i0 i1 n1]
  refine ⟨hc, zR_mono (fun r G2 H2 h => ?_) h⟩
  obtain ⟨rfl, h⟩ := h
  simp only [rL_law_891, rL_law_919, rL_law_922, true_and, and_true, true_or, or_true, false_or, or_false, Option.toList_some, Option.toList_none, List.nil_append, List.cons_append, zn1, if_true, zw_id (z := i + 5) (by omega) (by omega)]
  exact hq G2 H2 h
theorem lw_count {n : Nat} {f : Int → Int} {i : Int} {G : zG} {H : zH} {Q : Option zV → zG → zH → Prop} (i0 : 0 ≤ i) (i1 : i ≤ (n : Int) - 5) (n1 : n ≤ 2560) (hS : SR G H) (hq : ∀ (G : zG) (H : zH), SR G H → zRunD (some (n, f)) 14 qL_law 18 [vx, vr 0, vr 130, vi (i + 5)] [] G H Q) : zRunD (some (n, f)) 14 qL_law 896 [vx, vr 0, vr 130, vi i] [] G H Q := by
  have hG := hS.1
  simp only [rL_law_896, rL_law_897, rL_law_898, rL_law_899, rL_law_900, rL_law_901, rL_law_902, true_and, and_true, true_or, or_true, false_or, or_false, Option.toList_some, Option.toList_none, List.nil_append, List.cons_append, zn1, lw_cond i0 i1 n1, sO_0 hG]
  refine zR_mono (fun r G1 H1 h => ?_) (sim_count G H hS)
  obtain ⟨w, rfl, h⟩ := h
  have hc : zC G1 130 9 := by
    have h' := h
    rw [rX9_count_in] at h'
    simp only [rX9_count_0, rX9_count_1, rX9_count_2] at h'
    exact h'.1
  simp only [rL_law_905, rL_law_906, rL_law_907, rL_law_908, rL_law_909, rL_law_910, rL_law_911, true_and, and_true, true_or, or_true, false_or, or_false, Option.toList_some, Option.toList_none, List.nil_append, List.cons_append, zn1, lw_cond i0 i1 n1]
  refine ⟨hc, zR_mono (fun r G2 H2 h => ?_) h⟩
  obtain ⟨rfl, h⟩ := h
  simp only [rL_law_914, rL_law_919, rL_law_922, true_and, and_true, true_or, or_true, false_or, or_false, Option.toList_some, Option.toList_none, List.nil_append, List.cons_append, zn1, if_true, zw_id (z := i + 5) (by omega) (by omega)]
  exact hq G2 H2 h
theorem law_loop {n : Nat} {f : Int → Int} (n1 : n ≤ 2560) {Q : Option zV → zG → zH → Prop} (hq : ∀ (G : zG) (H : zH), SR G H → Q (some (vi 1)) G H) : ∀ (c : Nat) (i : Int) (G : zG) (H : zH), 0 ≤ i → i ≤ 3000 → (n : Int) ≤ i + 5 * (c : Int) → SR G H → zRunD (some (n, f)) 14 qL_law 18 [vx, vr 0, vr 130, vi i] [] G H Q := by
  intro c
  induction c with
  | zero =>
    intro i G H i0 i3 hc hS
    rw [rL_law_18]
    simp only [rL_law_19, rL_law_20, rL_law_21, rL_law_22, rL_law_23, rL_law_925, rL_law_926, true_and, and_true, true_or, or_true, false_or, or_false, Option.toList_some, Option.toList_none, List.nil_append, List.cons_append, zn1, zw_id (z := (n : Int) - 5) (by omega) (by omega)]
    rw [if_pos (by omega)]
    exact hq G H hS
  | succ c ih =>
    intro i G H i0 i3 hc hS
    rw [rL_law_18]
    simp only [rL_law_19, rL_law_20, rL_law_21, rL_law_22, rL_law_23, rL_law_26, rL_law_27, rL_law_28, rL_law_29, rL_law_31, rL_law_32, rL_law_925, rL_law_926, true_and, and_true, true_or, or_true, false_or, or_false, Option.toList_some, Option.toList_none, List.nil_append, List.cons_append, zn1, zw_id (z := (n : Int) - 5) (by omega) (by omega)]
    by_cases ce : (n : Int) - 5 < i
    · rw [if_pos ce]
      exact hq G H hS
    · rw [if_neg ce]
      have i1 : i ≤ (n : Int) - 5 := by omega
      have next : ∀ (G : zG) (H : zH), SR G H → zRunD (some (n, f)) 14 qL_law 18 [vx, vr 0, vr 130, vi (i + 5)] [] G H Q := fun G H h => ih (i + 5) G H (by omega) (by omega) (by omega) h
      refine ⟨by omega, ?_⟩
      generalize zand (f i) 31 = x
      by_cases c0 : x = 0
      · rw [if_pos c0]
        exact lw_write i0 i1 n1 hS next
      rw [if_neg c0]
      by_cases c1 : x = 1
      · rw [if_pos c1]
        exact lw_wipe i0 i1 n1 hS next
      rw [if_neg c1]
      by_cases c2 : x = 2
      · rw [if_pos c2]
        exact lw_fault i0 i1 n1 hS next
      rw [if_neg c2]
      by_cases c3 : x = 3
      · rw [if_pos c3]
        exact lw_lay i0 i1 n1 hS next
      rw [if_neg c3]
      by_cases c4 : x = 4
      · rw [if_pos c4]
        exact lw_person i0 i1 n1 hS next
      rw [if_neg c4]
      by_cases c5 : x = 5
      · rw [if_pos c5]
        exact lw_loan i0 i1 n1 hS next
      rw [if_neg c5]
      by_cases c6 : x = 6
      · rw [if_pos c6]
        exact lw_notary i0 i1 n1 hS next
      rw [if_neg c6]
      by_cases c7 : x = 7
      · rw [if_pos c7]
        exact lw_lend i0 i1 n1 hS next
      rw [if_neg c7]
      by_cases c8 : x = 8
      · rw [if_pos c8]
        exact lw_week i0 i1 n1 hS next
      rw [if_neg c8]
      by_cases c9 : x = 9
      · rw [if_pos c9]
        exact lw_undo i0 i1 n1 hS next
      rw [if_neg c9]
      by_cases c10 : x = 10
      · rw [if_pos c10]
        exact lw_dies i0 i1 n1 hS next
      rw [if_neg c10]
      by_cases c11 : x = 11
      · rw [if_pos c11]
        exact lw_run i0 i1 n1 hS next
      rw [if_neg c11]
      by_cases c12 : x = 12
      · rw [if_pos c12]
        exact lw_tell i0 i1 n1 hS next
      rw [if_neg c12]
      by_cases c13 : x = 13
      · rw [if_pos c13]
        exact lw_forget i0 i1 n1 hS next
      rw [if_neg c13]
      by_cases c14 : x = 14
      · rw [if_pos c14]
        exact lw_span i0 i1 n1 hS next
      rw [if_neg c14]
      by_cases c15 : x = 15
      · rw [if_pos c15]
        exact lw_ask i0 i1 n1 hS next
      rw [if_neg c15]
      by_cases c16 : x = 16
      · rw [if_pos c16]
        exact lw_bribed i0 i1 n1 hS next
      rw [if_neg c16]
      by_cases c17 : x = 17
      · rw [if_pos c17]
        exact lw_cleared i0 i1 n1 hS next
      rw [if_neg c17]
      by_cases c18 : x = 18
      · rw [if_pos c18]
        exact lw_child i0 i1 n1 hS next
      rw [if_neg c18]
      by_cases c19 : x = 19
      · rw [if_pos c19]
        exact lw_falls i0 i1 n1 hS next
      rw [if_neg c19]
      by_cases c20 : x = 20
      · rw [if_pos c20]
        exact lw_burned i0 i1 n1 hS next
      rw [if_neg c20]
      by_cases c21 : x = 21
      · rw [if_pos c21]
        exact lw_drawn i0 i1 n1 hS next
      rw [if_neg c21]
      by_cases c22 : x = 22
      · rw [if_pos c22]
        exact lw_keep i0 i1 n1 hS next
      rw [if_neg c22]
      by_cases c23 : x = 23
      · rw [if_pos c23]
        exact lw_back i0 i1 n1 hS next
      rw [if_neg c23]
      by_cases c24 : x = 24
      · rw [if_pos c24]
        exact lw_count i0 i1 n1 hS next
      rw [if_neg c24]
      simp only [rL_law_919, rL_law_922, true_and, and_true, true_or, or_true, false_or, or_false, Option.toList_some, Option.toList_none, List.nil_append, List.cons_append, zn1, zw_id (z := i + 5) (by omega) (by omega)]
      exact next G H hS
theorem law_ok : zLawOK := by
  intro n f n1 hf
  have h : zRunD (some (n, f)) 14 qL_law 0 [vx, vu, vu, vu] [] zG0 zH0 (fun r G H => r = some (vi 1) ∧ G.1 ≤ 600000 ∧ G.2.1 ≤ 7302249) := law_begin (fun G H hS => law_loop n1 (fun G H hS => ⟨rfl, by rw [hS.1.1]; omega, by have := hS.1.2.2.2.2.2; omega⟩) (n / 5 + 1) 0 G H (by omega) (by omega) (by omega) hS)
  obtain ⟨k, r, G', H', h1, h2, h3, h4⟩ := h
  subst h2
  exact ⟨k, G', H', h1, h3, h4⟩
