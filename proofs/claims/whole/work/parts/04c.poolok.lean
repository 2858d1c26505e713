def lm_okY (j : Nat) (e : Nat × Nat × Nat × Nat × Nat × Nat) : Bool :=
  decide (lm_wd e.2.2.1 = some (.code (lm_ys.getD j ⟨"", "", ""⟩) (lm_cs.getD j ⟨#[]⟩) (lm_ml.getD j 0) (lm_rs.getD j none))) &&
  (decide (lm_wd e.2.2.2.1 = some (if e.2.1 = 1 then .static (lm_ys.getD j ⟨"", "", ""⟩) else .instanceMethod (lm_ys.getD j ⟨"", "", ""⟩))) &&
  (decide (e.2.1 = 0 → lm_wd e.2.2.2.2.1 = some (.selects (lm_ys.getD j ⟨"", "", ""⟩).cls (lm_ys.getD j ⟨"", "", ""⟩) (lm_ys.getD j ⟨"", "", ""⟩))) &&
  (decide (lm_wd e.2.2.2.2.2 = some (.initialized (lm_ys.getD j ⟨"", "", ""⟩).cls)) &&
  (decide ((parseMethodDescriptor (lm_ys.getD j ⟨"", "", ""⟩).desc).map (fun d => d.parameters.length) = some e.1) &&
  (decide ((lm_ys.getD j ⟨"", "", ""⟩).cls ≠ "java/lang/invoke/MethodHandle" ∧ (lm_ys.getD j ⟨"", "", ""⟩).cls ≠ "java/lang/invoke/VarHandle") &&
  (decide ((lm_ys.getD j ⟨"", "", ""⟩).cls = lm_Rs.getD (lm_own.getD j 0) "") && (decide (plainName (lm_ys.getD j ⟨"", "", ""⟩).cls = true) && (decide (e.2.1 = 2 ↔ (lm_ys.getD j ⟨"", "", ""⟩).name = "<init>") && (decide (e.2.1 = 2 → lm_rs.getD j none = none) && decide (lm_ml.getD j 0 ≤ 41))))))))))
def lm_okY2 (j : Nat) : Bool := match lm_as[j]? with | none => false | some e => lm_okY j e
theorem lm_asc_0 : (List.range 24).all (fun j => decide (0 + j = 277) || lm_okY2 (0 + j)) = true := by decide +kernel
theorem lm_asc_1 : (List.range 24).all (fun j => decide (24 + j = 277) || lm_okY2 (24 + j)) = true := by decide +kernel
theorem lm_asc_2 : (List.range 24).all (fun j => decide (48 + j = 277) || lm_okY2 (48 + j)) = true := by decide +kernel
theorem lm_asc_3 : (List.range 24).all (fun j => decide (72 + j = 277) || lm_okY2 (72 + j)) = true := by decide +kernel
theorem lm_asc_4 : (List.range 24).all (fun j => decide (96 + j = 277) || lm_okY2 (96 + j)) = true := by decide +kernel
theorem lm_asc_5 : (List.range 24).all (fun j => decide (120 + j = 277) || lm_okY2 (120 + j)) = true := by decide +kernel
theorem lm_asc_6 : (List.range 24).all (fun j => decide (144 + j = 277) || lm_okY2 (144 + j)) = true := by decide +kernel
theorem lm_asc_7 : (List.range 24).all (fun j => decide (168 + j = 277) || lm_okY2 (168 + j)) = true := by decide +kernel
theorem lm_asc_8 : (List.range 24).all (fun j => decide (192 + j = 277) || lm_okY2 (192 + j)) = true := by decide +kernel
theorem lm_asc_9 : (List.range 24).all (fun j => decide (216 + j = 277) || lm_okY2 (216 + j)) = true := by decide +kernel
theorem lm_asc_10 : (List.range 24).all (fun j => decide (240 + j = 277) || lm_okY2 (240 + j)) = true := by decide +kernel
theorem lm_asc_11 : (List.range 14).all (fun j => decide (264 + j = 277) || lm_okY2 (264 + j)) = true := by decide +kernel
theorem lm_as_ok {j : Nat} {e} (he : lm_as[j]? = some e) (hj : j ≠ 277) : lm_okY j e = true := by
  have hl : j < lm_as.length := (List.getElem?_eq_some_iff.mp he).1
  have hl : j < 278 := hl
  have h2 : lm_okY2 j = true := by
    by_cases h0 : j < 24
    · have h := List.all_eq_true.mp lm_asc_0 (j - 0) (List.mem_range.mpr (by omega))
      rw [show 0 + (j - 0) = j by omega] at h
      simpa [hj] using h
    by_cases h1 : j < 48
    · have h := List.all_eq_true.mp lm_asc_1 (j - 24) (List.mem_range.mpr (by omega))
      rw [show 24 + (j - 24) = j by omega] at h
      simpa [hj] using h
    by_cases h2 : j < 72
    · have h := List.all_eq_true.mp lm_asc_2 (j - 48) (List.mem_range.mpr (by omega))
      rw [show 48 + (j - 48) = j by omega] at h
      simpa [hj] using h
    by_cases h3 : j < 96
    · have h := List.all_eq_true.mp lm_asc_3 (j - 72) (List.mem_range.mpr (by omega))
      rw [show 72 + (j - 72) = j by omega] at h
      simpa [hj] using h
    by_cases h4 : j < 120
    · have h := List.all_eq_true.mp lm_asc_4 (j - 96) (List.mem_range.mpr (by omega))
      rw [show 96 + (j - 96) = j by omega] at h
      simpa [hj] using h
    by_cases h5 : j < 144
    · have h := List.all_eq_true.mp lm_asc_5 (j - 120) (List.mem_range.mpr (by omega))
      rw [show 120 + (j - 120) = j by omega] at h
      simpa [hj] using h
    by_cases h6 : j < 168
    · have h := List.all_eq_true.mp lm_asc_6 (j - 144) (List.mem_range.mpr (by omega))
      rw [show 144 + (j - 144) = j by omega] at h
      simpa [hj] using h
    by_cases h7 : j < 192
    · have h := List.all_eq_true.mp lm_asc_7 (j - 168) (List.mem_range.mpr (by omega))
      rw [show 168 + (j - 168) = j by omega] at h
      simpa [hj] using h
    by_cases h8 : j < 216
    · have h := List.all_eq_true.mp lm_asc_8 (j - 192) (List.mem_range.mpr (by omega))
      rw [show 192 + (j - 192) = j by omega] at h
      simpa [hj] using h
    by_cases h9 : j < 240
    · have h := List.all_eq_true.mp lm_asc_9 (j - 216) (List.mem_range.mpr (by omega))
      rw [show 216 + (j - 216) = j by omega] at h
      simpa [hj] using h
    by_cases h10 : j < 264
    · have h := List.all_eq_true.mp lm_asc_10 (j - 240) (List.mem_range.mpr (by omega))
      rw [show 240 + (j - 240) = j by omega] at h
      simpa [hj] using h
    by_cases h11 : j < 278
    · have h := List.all_eq_true.mp lm_asc_11 (j - 264) (List.mem_range.mpr (by omega))
      rw [show 264 + (j - 264) = j by omega] at h
      simpa [hj] using h
    omega
  unfold lm_okY2 at h2
  rw [he] at h2
  exact h2
def lm_gw : List Cond := lw_tbl.filter goodWord
