-- printed by wip/gen/lnk.py
abbrev am_LAW : Nat := 155
abbrev am_OBJ : Nat := 9999
abbrev am_NM : Nat := 159
theorem am_codeIn (md : Nat) (h : md < 159) (h2 : md ≠ 155) : Cond.code (am_my md) (am_mb md) (am_ml md) (am_mr md) ∈ am_tb := by
  refine am_tb_in ?_ rfl
  by_cases h0 : md < 20
  · exact am_iC_0 _ (List.mem_map.mpr ⟨md, List.mem_range'_1.mpr ⟨by omega, by omega⟩, rfl⟩)
  by_cases h20 : md < 40
  · exact am_iC_1 _ (List.mem_map.mpr ⟨md, List.mem_range'_1.mpr ⟨by omega, by omega⟩, rfl⟩)
  by_cases h40 : md < 60
  · exact am_iC_2 _ (List.mem_map.mpr ⟨md, List.mem_range'_1.mpr ⟨by omega, by omega⟩, rfl⟩)
  by_cases h60 : md < 80
  · exact am_iC_3 _ (List.mem_map.mpr ⟨md, List.mem_range'_1.mpr ⟨by omega, by omega⟩, rfl⟩)
  by_cases h80 : md < 100
  · exact am_iC_4 _ (List.mem_map.mpr ⟨md, List.mem_range'_1.mpr ⟨by omega, by omega⟩, rfl⟩)
  by_cases h100 : md < 120
  · exact am_iC_5 _ (List.mem_map.mpr ⟨md, List.mem_range'_1.mpr ⟨by omega, by omega⟩, rfl⟩)
  by_cases h120 : md < 140
  · exact am_iC_6 _ (List.mem_map.mpr ⟨md, List.mem_range'_1.mpr ⟨by omega, by omega⟩, rfl⟩)
  by_cases h140 : md < 159
  · exact am_iC_7 _ (List.mem_map.mpr ⟨md, by simp only [List.mem_cons, List.not_mem_nil, or_false]; omega, rfl⟩)
  omega
theorem am_prog_none (md : Nat) (h : 159 ≤ md) : am_prog md = none := by
  have hb : ∀ k, k ≤ 159 → Nat.blt md k = false := fun k hk => by rw [Bool.eq_false_iff]; intro q; have := Nat.le_of_ble_eq_true q; omega
  have he : Nat.beq md 158 = false := by rw [Bool.eq_false_iff]; intro q; have := Nat.eq_of_beq_eq_true q; omega
  unfold am_prog
  rw [hb 79 (by omega), Bool.cond_false, hb 119 (by omega), Bool.cond_false, hb 139 (by omega), Bool.cond_false, hb 149 (by omega), Bool.cond_false, hb 154 (by omega), Bool.cond_false, hb 156 (by omega), Bool.cond_false, hb 157 (by omega), Bool.cond_false, hb 158 (by omega), Bool.cond_false, he]
  rfl
theorem am_mf0 : ((List.range 159).all (fun md => md == 155 || md == 9999 || (decide ((am_my md).cls = am_onm (am_mo md)) && decide (am_mo md ∈ [0, 1, 2, 3, 4, 5, 6, 7, 8, 9, 10, 11, 12, 13, 14, 15, 16]) && decide ((am_my md).cls ≠ "java/lang/invoke/MethodHandle") && decide ((am_my md).cls ≠ "java/lang/invoke/VarHandle") && plainName (am_my md).cls))) = true := by decide +kernel
theorem am_mf (md : Nat) (h : md < 159) (h1 : md ≠ 155) (h2 : md ≠ 9999) : (am_my md).cls = am_onm (am_mo md) ∧ am_mo md ∈ [0, 1, 2, 3, 4, 5, 6, 7, 8, 9, 10, 11, 12, 13, 14, 15, 16] ∧ (am_my md).cls ≠ "java/lang/invoke/MethodHandle" ∧ (am_my md).cls ≠ "java/lang/invoke/VarHandle" ∧ plainName (am_my md).cls = true := by
  have h3 := List.all_eq_true.mp am_mf0 md (List.mem_range.mpr h)
  simp only [Bool.or_eq_true, Bool.and_eq_true, beq_iff_eq, decide_eq_true_eq] at h3
  rcases h3 with (h3 | h3) | h3
  · exact absurd h3 h1
  · exact absurd h3 h2
  · exact ⟨h3.1.1.1.1, h3.1.1.1.2, h3.1.1.2, h3.1.2, h3.2⟩
theorem am_k0_f : ∀ q ∈ am_k0, q.2.2 < 159 ∧ q.2.2 ≠ 155 ∧ q.2.2 ≠ 9999 := by decide +kernel
theorem am_k0n_f : ∀ q ∈ am_k0n, q.2.2 < 159 ∧ q.2.2 ≠ 155 ∧ q.2.2 ≠ 9999 := by decide +kernel
theorem am_k1_f : ∀ q ∈ am_k1, q.2.2 < 159 ∧ q.2.2 ≠ 155 ∧ q.2.2 ≠ 9999 ∧ am_mr q.2.2 = none ∧ (am_my q.2.2).name = "<init>" := by decide +kernel
theorem am_k1n_f : ∀ q ∈ am_k1n, q.2.2 < 159 ∧ q.2.2 ≠ 155 ∧ q.2.2 ≠ 9999 ∧ am_mr q.2.2 = none ∧ (am_my q.2.2).name = "<init>" := by decide +kernel
theorem am_kM_f : ∀ q ∈ am_kM, q.2.2 = 1003 ∨ q.2.2 = 1004 := by decide +kernel
theorem am_k2_f : ∀ q ∈ am_k2, q.2.2.2 < 159 ∧ q.2.2.2 ≠ 155 ∧ q.2.2.2 ≠ 9999 ∧ q.2.2.1 < 11 ∧ (am_my q.2.2.2).cls = am_onm q.2.2.1 := by decide +kernel
theorem am_kU_f : ∀ q ∈ am_kU, q.2.2.2 < 159 ∧ q.2.2.2 ≠ 155 ∧ q.2.2.2 ≠ 9999 ∧ q.2.2.1 < 11 ∧ am_my q.2.2.2 = ⟨"MappingText$Sink", "putNumber", "(I)V"⟩ := by decide +kernel
theorem am_kV_f : ∀ q ∈ am_kV, q.2.2.2 < 159 ∧ q.2.2.2 ≠ 155 ∧ q.2.2.2 ≠ 9999 ∧ q.2.2.1 < 11 ∧ (am_my q.2.2.2).desc = "(I)V" := by decide +kernel
theorem am_prog_lt {md : Nat} {x : Nat × am_T} (h : am_prog md = some x) : md < 159 := by
  by_cases hm : md < 159
  · exact hm
  · exfalso
    have : am_prog md = none := am_prog_none md (by omega)
    rw [this] at h
    cases h

