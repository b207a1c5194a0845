set_option maxRecDepth 100000 in
theorem am_gd_60 : (List.range' 60 6).all am_gd = true := by decide +kernel
set_option maxRecDepth 100000 in
theorem am_gd_66 : (List.range' 66 6).all am_gd = true := by decide +kernel
set_option maxRecDepth 100000 in
theorem am_gd_72 : (List.range' 72 6).all am_gd = true := by decide +kernel
set_option maxRecDepth 100000 in
theorem am_gd_78 : (List.range' 78 6).all am_gd = true := by decide +kernel
set_option maxRecDepth 100000 in
theorem am_gd_84 : (List.range' 84 6).all am_gd = true := by decide +kernel
set_option maxRecDepth 100000 in
theorem am_gd_90 : (List.range' 90 6).all am_gd = true := by decide +kernel
set_option maxRecDepth 100000 in
theorem am_gd_96 : (List.range' 96 6).all am_gd = true := by decide +kernel
set_option maxRecDepth 100000 in
theorem am_gd_102 : (List.range' 102 6).all am_gd = true := by decide +kernel
set_option maxRecDepth 100000 in
theorem am_gd_108 : (List.range' 108 6).all am_gd = true := by decide +kernel
set_option maxRecDepth 100000 in
theorem am_gd_114 : (List.range' 114 6).all am_gd = true := by decide +kernel
