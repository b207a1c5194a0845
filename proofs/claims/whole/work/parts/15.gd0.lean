set_option maxRecDepth 100000 in
theorem am_gd_0 : (List.range' 0 6).all am_gd = true := by decide +kernel
set_option maxRecDepth 100000 in
theorem am_gd_6 : (List.range' 6 6).all am_gd = true := by decide +kernel
set_option maxRecDepth 100000 in
theorem am_gd_12 : (List.range' 12 6).all am_gd = true := by decide +kernel
set_option maxRecDepth 100000 in
theorem am_gd_18 : (List.range' 18 6).all am_gd = true := by decide +kernel
set_option maxRecDepth 100000 in
theorem am_gd_24 : (List.range' 24 6).all am_gd = true := by decide +kernel
set_option maxRecDepth 100000 in
theorem am_gd_30 : (List.range' 30 6).all am_gd = true := by decide +kernel
set_option maxRecDepth 100000 in
theorem am_gd_36 : (List.range' 36 6).all am_gd = true := by decide +kernel
set_option maxRecDepth 100000 in
theorem am_gd_42 : (List.range' 42 6).all am_gd = true := by decide +kernel
set_option maxRecDepth 100000 in
theorem am_gd_48 : (List.range' 48 6).all am_gd = true := by decide +kernel
set_option maxRecDepth 100000 in
theorem am_gd_54 : (List.range' 54 6).all am_gd = true := by decide +kernel
