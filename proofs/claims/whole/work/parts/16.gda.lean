theorem am_gd_all (md : Nat) (h : md < 159) : am_gd md = true := by
  by_cases h0 : md < 6
  · exact List.all_eq_true.mp am_gd_0 md (List.mem_range'_1.mpr ⟨by omega, by omega⟩)
  by_cases h6 : md < 12
  · exact List.all_eq_true.mp am_gd_6 md (List.mem_range'_1.mpr ⟨by omega, by omega⟩)
  by_cases h12 : md < 18
  · exact List.all_eq_true.mp am_gd_12 md (List.mem_range'_1.mpr ⟨by omega, by omega⟩)
  by_cases h18 : md < 24
  · exact List.all_eq_true.mp am_gd_18 md (List.mem_range'_1.mpr ⟨by omega, by omega⟩)
  by_cases h24 : md < 30
  · exact List.all_eq_true.mp am_gd_24 md (List.mem_range'_1.mpr ⟨by omega, by omega⟩)
  by_cases h30 : md < 36
  · exact List.all_eq_true.mp am_gd_30 md (List.mem_range'_1.mpr ⟨by omega, by omega⟩)
  by_cases h36 : md < 42
  · exact List.all_eq_true.mp am_gd_36 md (List.mem_range'_1.mpr ⟨by omega, by omega⟩)
  by_cases h42 : md < 48
  · exact List.all_eq_true.mp am_gd_42 md (List.mem_range'_1.mpr ⟨by omega, by omega⟩)
  by_cases h48 : md < 54
  · exact List.all_eq_true.mp am_gd_48 md (List.mem_range'_1.mpr ⟨by omega, by omega⟩)
  by_cases h54 : md < 60
  · exact List.all_eq_true.mp am_gd_54 md (List.mem_range'_1.mpr ⟨by omega, by omega⟩)
  by_cases h60 : md < 66
  · exact List.all_eq_true.mp am_gd_60 md (List.mem_range'_1.mpr ⟨by omega, by omega⟩)
  by_cases h66 : md < 72
  · exact List.all_eq_true.mp am_gd_66 md (List.mem_range'_1.mpr ⟨by omega, by omega⟩)
  by_cases h72 : md < 78
  · exact List.all_eq_true.mp am_gd_72 md (List.mem_range'_1.mpr ⟨by omega, by omega⟩)
  by_cases h78 : md < 84
  · exact List.all_eq_true.mp am_gd_78 md (List.mem_range'_1.mpr ⟨by omega, by omega⟩)
  by_cases h84 : md < 90
  · exact List.all_eq_true.mp am_gd_84 md (List.mem_range'_1.mpr ⟨by omega, by omega⟩)
  by_cases h90 : md < 96
  · exact List.all_eq_true.mp am_gd_90 md (List.mem_range'_1.mpr ⟨by omega, by omega⟩)
  by_cases h96 : md < 102
  · exact List.all_eq_true.mp am_gd_96 md (List.mem_range'_1.mpr ⟨by omega, by omega⟩)
  by_cases h102 : md < 108
  · exact List.all_eq_true.mp am_gd_102 md (List.mem_range'_1.mpr ⟨by omega, by omega⟩)
  by_cases h108 : md < 114
  · exact List.all_eq_true.mp am_gd_108 md (List.mem_range'_1.mpr ⟨by omega, by omega⟩)
  by_cases h114 : md < 120
  · exact List.all_eq_true.mp am_gd_114 md (List.mem_range'_1.mpr ⟨by omega, by omega⟩)
  by_cases h120 : md < 126
  · exact List.all_eq_true.mp am_gd_120 md (List.mem_range'_1.mpr ⟨by omega, by omega⟩)
  by_cases h126 : md < 132
  · exact List.all_eq_true.mp am_gd_126 md (List.mem_range'_1.mpr ⟨by omega, by omega⟩)
  by_cases h132 : md < 138
  · exact List.all_eq_true.mp am_gd_132 md (List.mem_range'_1.mpr ⟨by omega, by omega⟩)
  by_cases h138 : md < 144
  · exact List.all_eq_true.mp am_gd_138 md (List.mem_range'_1.mpr ⟨by omega, by omega⟩)
  by_cases h144 : md < 150
  · exact List.all_eq_true.mp am_gd_144 md (List.mem_range'_1.mpr ⟨by omega, by omega⟩)
  by_cases h150 : md < 156
  · exact List.all_eq_true.mp am_gd_150 md (List.mem_range'_1.mpr ⟨by omega, by omega⟩)
  by_cases h156 : md < 159
  · exact List.all_eq_true.mp am_gd_156 md (List.mem_range'_1.mpr ⟨by omega, by omega⟩)
  omega
