set_option maxRecDepth 100000 in
theorem am_gd_120 : (List.range' 120 6).all am_gd = true := by decide +kernel
set_option maxRecDepth 100000 in
theorem am_gd_126 : (List.range' 126 6).all am_gd = true := by decide +kernel
set_option maxRecDepth 100000 in
theorem am_gd_132 : (List.range' 132 6).all am_gd = true := by decide +kernel
set_option maxRecDepth 100000 in
theorem am_gd_138 : (List.range' 138 6).all am_gd = true := by decide +kernel
set_option maxRecDepth 100000 in
theorem am_gd_144 : (List.range' 144 6).all am_gd = true := by decide +kernel
set_option maxRecDepth 100000 in
theorem am_gd_150 : (List.range' 150 6).all am_gd = true := by decide +kernel
set_option maxRecDepth 100000 in
theorem am_gd_156 : (List.range' 156 3).all am_gd = true := by decide +kernel
