-- printed by wip/gen/hh.py: the fixed layout of the heap behind both constructors
set_option maxRecDepth 100000 in
theorem St_it {L : Nat} {xs : Nat → Int32} {h : am_H} {k sl : Nat} {lc : List (Nat × Nat)} {lf : List (Nat × Nat × Nat)} {lr : List (Nat × Int × Nat)} {r n : Nat} {i : Int} (hn : n = k) (hr : r < k) (s : St L xs h k sl lc lf lr) : St L xs (Ms_it h r i n) (k + 7) (sl + 11 + 4 + 30 + 4 + 30 + 4 + 30) ((1000, 30) :: (9, 0) :: (1000, 30) :: (9, 0) :: (1000, 30) :: (9, 0) :: (8, 0) :: lc) ((42, k, k + 5) :: (52, k + 5, k + 6) :: (41, k, k + 3) :: (52, k + 3, k + 4) :: (40, k, k + 1) :: (52, k + 1, k + 2) :: lf) ((r, i, k) :: lr) := by
  subst hn
  have q := St_Ma (a := n) (a' := n) rfl (Nat.lt_succ_self n) (St_o (c := 8) (N := 11) s)
  exact St_q (by omega) q
def lc_C0 : List (Nat × Nat) := (0, 0) :: []
def lf_C0 : List (Nat × Nat × Nat) := []
def lr_C0 : List (Nat × Int × Nat) := []
def sl_C0 : Nat := 0 + 6
set_option maxRecDepth 100000 in
theorem St_C0 (L : Nat) (xs : Nat → Int32) : St L xs (HC0 L xs) 17 sl_C0 lc_C0 lf_C0 lr_C0 := St_o (c := 0) (N := 6) (St_0 L xs)
def lc_C1 : List (Nat × Nat) := (1000, 256) :: (1002, 64) :: (1000, 4) :: (1000, 4) :: (1, 0) :: lc_C0
def lf_C1 : List (Nat × Nat × Nat) := (0, 16, 17) :: (9, 17, 21) :: (8, 17, 20) :: (7, 17, 19) :: (6, 17, 18) :: lf_C0
def lr_C1 : List (Nat × Int × Nat) := lr_C0
def sl_C1 : Nat := sl_C0 + 5 + 4 + 4 + 64 + 256
set_option maxRecDepth 100000 in
theorem St_C1 (L : Nat) (xs : Nat → Int32) : St L xs (HC1 L xs) 22 sl_C1 lc_C1 lf_C1 lr_C1 := St_r (f := 0) (a := 16) (by decide) rfl (St_So rfl (by decide) (St_o (c := 1) (N := 5) (St_C0 L xs)))
def lc_C2 : List (Nat × Nat) := (1000, 500) :: (3, 0) :: (2, 0) :: lc_C1
def lf_C2 : List (Nat × Nat × Nat) := (1, 16, 22) :: (11, 22, 23) :: (13, 23, 24) :: lf_C1
def lr_C2 : List (Nat × Int × Nat) := lr_C1
def sl_C2 : Nat := sl_C1 + 2 + 6 + 500
set_option maxRecDepth 100000 in
theorem St_C2 (L : Nat) (xs : Nat → Int32) : St L xs (HC2 L xs) 25 sl_C2 lc_C2 lf_C2 lr_C2 := St_r (f := 1) (a := 16) (by decide) rfl (St_Re rfl (by decide) (St_o (c := 2) (N := 2) (St_C1 L xs)))
def lc_C3 : List (Nat × Nat) := (1000, 96) :: (1000, 96) :: (1000, 1536) :: (1000, 1537) :: (1000, 1536) :: (1000, 1536) :: (1000, 6) :: (1001, 1536) :: (1001, 867) :: (5, 0) :: (4, 0) :: lc_C2
def lf_C3 : List (Nat × Nat × Nat) := (2, 16, 25) :: (29, 25, 35) :: (28, 25, 34) :: (26, 25, 33) :: (25, 25, 32) :: (23, 25, 31) :: (22, 25, 30) :: (21, 25, 29) :: (20, 25, 28) :: (19, 25, 26) :: (32, 26, 27) :: lf_C2
def lr_C3 : List (Nat × Int × Nat) := lr_C2
def sl_C3 : Nat := sl_C2 + 13 + 3 + 867 + 1536 + 6 + 1536 + 1536 + 1537 + 1536 + 96 + 96
set_option maxRecDepth 100000 in
theorem St_C3 (L : Nat) (xs : Nat → Int32) : St L xs (HC3 L xs) 36 sl_C3 lc_C3 lf_C3 lr_C3 := St_r (f := 2) (a := 16) (by decide) rfl (St_Gi rfl (by decide) (St_o (c := 4) (N := 13) (St_C2 L xs)))
def lc_C4 : List (Nat × Nat) := (1000, 626) :: (6, 0) :: lc_C3
def lf_C4 : List (Nat × Nat × Nat) := (3, 16, 36) :: (35, 36, 37) :: lf_C3
def lr_C4 : List (Nat × Int × Nat) := lr_C3
def sl_C4 : Nat := sl_C3 + 2 + 626
set_option maxRecDepth 100000 in
theorem St_C4 (L : Nat) (xs : Nat → Int32) : St L xs (HC4 L xs) 38 sl_C4 lc_C4 lf_C4 lr_C4 := St_r (f := 3) (a := 16) (by decide) rfl (St_Pr rfl (by decide) (St_o (c := 6) (N := 2) (St_C3 L xs)))
def lc_C5 : List (Nat × Nat) := (7, 0) :: lc_C4
def lf_C5 : List (Nat × Nat × Nat) := lf_C4
def lr_C5 : List (Nat × Int × Nat) := lr_C4
def sl_C5 : Nat := sl_C4 + 2
set_option maxRecDepth 100000 in
theorem St_C5 (L : Nat) (xs : Nat → Int32) : St L xs (HC5 L xs) 39 sl_C5 lc_C5 lf_C5 lr_C5 := St_o (c := 7) (N := 2) (St_C4 L xs)
def lc_C6 : List (Nat × Nat) := (1000, 30) :: (9, 0) :: (1000, 30) :: (9, 0) :: (1000, 30) :: (9, 0) :: (8, 0) :: (1000, 30) :: (9, 0) :: (1000, 30) :: (9, 0) :: (1000, 30) :: (9, 0) :: (8, 0) :: (1000, 30) :: (9, 0) :: (1000, 30) :: (9, 0) :: (1000, 30) :: (9, 0) :: (8, 0) :: (1000, 30) :: (9, 0) :: (1000, 30) :: (9, 0) :: (1000, 30) :: (9, 0) :: (8, 0) :: (1000, 30) :: (9, 0) :: (1000, 30) :: (9, 0) :: (1000, 30) :: (9, 0) :: (8, 0) :: (1000, 30) :: (9, 0) :: (1000, 30) :: (9, 0) :: (1000, 30) :: (9, 0) :: (8, 0) :: (1004, 6) :: lc_C5
def lf_C6 : List (Nat × Nat × Nat) := (4, 16, 38) :: (42, 75, 80) :: (52, 80, 81) :: (41, 75, 78) :: (52, 78, 79) :: (40, 75, 76) :: (52, 76, 77) :: (42, 68, 73) :: (52, 73, 74) :: (41, 68, 71) :: (52, 71, 72) :: (40, 68, 69) :: (52, 69, 70) :: (42, 61, 66) :: (52, 66, 67) :: (41, 61, 64) :: (52, 64, 65) :: (40, 61, 62) :: (52, 62, 63) :: (42, 54, 59) :: (52, 59, 60) :: (41, 54, 57) :: (52, 57, 58) :: (40, 54, 55) :: (52, 55, 56) :: (42, 47, 52) :: (52, 52, 53) :: (41, 47, 50) :: (52, 50, 51) :: (40, 47, 48) :: (52, 48, 49) :: (42, 40, 45) :: (52, 45, 46) :: (41, 40, 43) :: (52, 43, 44) :: (40, 40, 41) :: (52, 41, 42) :: (37, 38, 39) :: lf_C5
def lr_C6 : List (Nat × Int × Nat) := (39, 5, 75) :: (39, 4, 68) :: (39, 3, 61) :: (39, 2, 54) :: (39, 1, 47) :: (39, 0, 40) :: lr_C5
def sl_C6 : Nat := sl_C5 + 6 + 11 + 4 + 30 + 4 + 30 + 4 + 30 + 11 + 4 + 30 + 4 + 30 + 4 + 30 + 11 + 4 + 30 + 4 + 30 + 4 + 30 + 11 + 4 + 30 + 4 + 30 + 4 + 30 + 11 + 4 + 30 + 4 + 30 + 4 + 30 + 11 + 4 + 30 + 4 + 30 + 4 + 30
set_option maxRecDepth 100000 in
theorem St_C6 (L : Nat) (xs : Nat → Int32) : St L xs (HC6 L xs) 82 sl_C6 lc_C6 lf_C6 lr_C6 := St_r (f := 4) (a := 16) (by decide) rfl (St_it (i := 5) (n := 75) (r := 39) rfl (by decide) (St_it (i := 4) (n := 68) (r := 39) rfl (by decide) (St_it (i := 3) (n := 61) (r := 39) rfl (by decide) (St_it (i := 2) (n := 54) (r := 39) rfl (by decide) (St_it (i := 1) (n := 47) (r := 39) rfl (by decide) (St_it (i := 0) (n := 40) (r := 39) rfl (by decide) (St_i (f := 38) (a := 38) (v := 0) (by decide) (St_r (f := 37) (a := 38) (by decide) rfl (St_a (c := 1004) (N := 6) (St_C5 L xs))))))))))
def lc_C7 : List (Nat × Nat) := (7, 0) :: lc_C6
def lf_C7 : List (Nat × Nat × Nat) := lf_C6
def lr_C7 : List (Nat × Int × Nat) := lr_C6
def sl_C7 : Nat := sl_C6 + 2
set_option maxRecDepth 100000 in
theorem St_C7 (L : Nat) (xs : Nat → Int32) : St L xs (HC7 L xs) 83 sl_C7 lc_C7 lf_C7 lr_C7 := St_o (c := 7) (N := 2) (St_C6 L xs)
def lc_C8 : List (Nat × Nat) := (1000, 30) :: (9, 0) :: (1000, 30) :: (9, 0) :: (1000, 30) :: (9, 0) :: (8, 0) :: (1000, 30) :: (9, 0) :: (1000, 30) :: (9, 0) :: (1000, 30) :: (9, 0) :: (8, 0) :: (1000, 30) :: (9, 0) :: (1000, 30) :: (9, 0) :: (1000, 30) :: (9, 0) :: (8, 0) :: (1000, 30) :: (9, 0) :: (1000, 30) :: (9, 0) :: (1000, 30) :: (9, 0) :: (8, 0) :: (1000, 30) :: (9, 0) :: (1000, 30) :: (9, 0) :: (1000, 30) :: (9, 0) :: (8, 0) :: (1000, 30) :: (9, 0) :: (1000, 30) :: (9, 0) :: (1000, 30) :: (9, 0) :: (8, 0) :: (1004, 6) :: lc_C7
def lf_C8 : List (Nat × Nat × Nat) := (5, 16, 82) :: (42, 119, 124) :: (52, 124, 125) :: (41, 119, 122) :: (52, 122, 123) :: (40, 119, 120) :: (52, 120, 121) :: (42, 112, 117) :: (52, 117, 118) :: (41, 112, 115) :: (52, 115, 116) :: (40, 112, 113) :: (52, 113, 114) :: (42, 105, 110) :: (52, 110, 111) :: (41, 105, 108) :: (52, 108, 109) :: (40, 105, 106) :: (52, 106, 107) :: (42, 98, 103) :: (52, 103, 104) :: (41, 98, 101) :: (52, 101, 102) :: (40, 98, 99) :: (52, 99, 100) :: (42, 91, 96) :: (52, 96, 97) :: (41, 91, 94) :: (52, 94, 95) :: (40, 91, 92) :: (52, 92, 93) :: (42, 84, 89) :: (52, 89, 90) :: (41, 84, 87) :: (52, 87, 88) :: (40, 84, 85) :: (52, 85, 86) :: (37, 82, 83) :: lf_C7
def lr_C8 : List (Nat × Int × Nat) := (83, 5, 119) :: (83, 4, 112) :: (83, 3, 105) :: (83, 2, 98) :: (83, 1, 91) :: (83, 0, 84) :: lr_C7
def sl_C8 : Nat := sl_C7 + 6 + 11 + 4 + 30 + 4 + 30 + 4 + 30 + 11 + 4 + 30 + 4 + 30 + 4 + 30 + 11 + 4 + 30 + 4 + 30 + 4 + 30 + 11 + 4 + 30 + 4 + 30 + 4 + 30 + 11 + 4 + 30 + 4 + 30 + 4 + 30 + 11 + 4 + 30 + 4 + 30 + 4 + 30
set_option maxRecDepth 100000 in
theorem St_C8 (L : Nat) (xs : Nat → Int32) : St L xs (HC8 L xs) 126 sl_C8 lc_C8 lf_C8 lr_C8 := St_r (f := 5) (a := 16) (by decide) rfl (St_it (i := 5) (n := 119) (r := 83) rfl (by decide) (St_it (i := 4) (n := 112) (r := 83) rfl (by decide) (St_it (i := 3) (n := 105) (r := 83) rfl (by decide) (St_it (i := 2) (n := 98) (r := 83) rfl (by decide) (St_it (i := 1) (n := 91) (r := 83) rfl (by decide) (St_it (i := 0) (n := 84) (r := 83) rfl (by decide) (St_i (f := 38) (a := 82) (v := 0) (by decide) (St_r (f := 37) (a := 82) (by decide) rfl (St_a (c := 1004) (N := 6) (St_C7 L xs))))))))))
def lc_M0 : List (Nat × Nat) := (10, 0) :: lc_C8
def lf_M0 : List (Nat × Nat × Nat) := lf_C8
def lr_M0 : List (Nat × Int × Nat) := lr_C8
def sl_M0 : Nat := sl_C8 + 57
set_option maxRecDepth 100000 in
theorem St_M0 (L : Nat) (xs : Nat → Int32) : St L xs (HM0 L xs) 127 sl_M0 lc_M0 lf_M0 lr_M0 := St_o (c := 10) (N := 57) (St_C8 L xs)
def HM1 (L : Nat) (xs : Nat → Int32) : am_H := Mo_mk (HM0 L xs) 126
def lc_M1 : List (Nat × Nat) := (1003, 6000) :: (1000, 1600) :: (1000, 1600) :: (1000, 4800) :: (1000, 4800) :: (1003, 96000) :: (1000, 1600) :: (1000, 1600) :: (1000, 1600) :: (1000, 1600) :: (1000, 1600) :: (1000, 4800) :: (1000, 4800) :: (1003, 96000) :: (1000, 6) :: (1000, 6) :: (1000, 6) :: (1000, 6) :: (1000, 6) :: (1000, 6) :: (1000, 6) :: (1000, 540) :: (1000, 18) :: (1000, 18) :: (1000, 18) :: (1000, 6) :: (1000, 6) :: (1000, 6) :: (1000, 6) :: (1000, 6) :: (1000, 6) :: (1000, 6) :: (1000, 6) :: (1000, 540) :: (1000, 18) :: (1000, 18) :: (1000, 18) :: (1000, 6) :: (1000, 500) :: (1002, 64) :: (1000, 256) :: (1000, 4) :: (1000, 4) :: lc_M0
def lf_M1 : List (Nat × Nat × Nat) := (110, 126, 169) :: (108, 126, 168) :: (107, 126, 167) :: (106, 126, 166) :: (105, 126, 165) :: (104, 126, 164) :: (102, 126, 163) :: (101, 126, 162) :: (100, 126, 161) :: (99, 126, 160) :: (98, 126, 159) :: (97, 126, 158) :: (96, 126, 157) :: (95, 126, 156) :: (86, 126, 155) :: (85, 126, 154) :: (84, 126, 153) :: (83, 126, 152) :: (82, 126, 151) :: (81, 126, 150) :: (80, 126, 149) :: (79, 126, 148) :: (78, 126, 147) :: (77, 126, 146) :: (76, 126, 145) :: (75, 126, 144) :: (73, 126, 143) :: (72, 126, 142) :: (71, 126, 141) :: (70, 126, 140) :: (69, 126, 139) :: (68, 126, 138) :: (67, 126, 137) :: (66, 126, 136) :: (65, 126, 135) :: (64, 126, 134) :: (63, 126, 133) :: (62, 126, 132) :: (59, 126, 131) :: (58, 126, 130) :: (57, 126, 129) :: (56, 126, 128) :: (55, 126, 127) :: lf_M0
def lr_M1 : List (Nat × Int × Nat) := lr_M0
def sl_M1 : Nat := sl_M0 + 4 + 4 + 256 + 64 + 500 + 6 + 18 + 18 + 18 + 540 + 6 + 6 + 6 + 6 + 6 + 6 + 6 + 6 + 18 + 18 + 18 + 540 + 6 + 6 + 6 + 6 + 6 + 6 + 6 + 96000 + 4800 + 4800 + 1600 + 1600 + 1600 + 1600 + 1600 + 96000 + 4800 + 4800 + 1600 + 1600 + 6000
set_option maxRecDepth 100000 in
theorem St_M1 (L : Nat) (xs : Nat → Int32) : St L xs (HM1 L xs) 170 sl_M1 lc_M1 lf_M1 lr_M1 := St_Mo (a := 126) rfl (by decide) (St_M0 L xs)
/-- kinds and lengths of the cells from 16 on -/
def CT (b : Nat) : Nat × Nat := cond (Nat.blt b 170) (cond (Nat.blt b 16) (0, 0) (cond (Nat.blt b 93) (cond (Nat.blt b 54) (cond (Nat.blt b 35) (cond (Nat.blt b 25) (cond (Nat.blt b 20) (cond (Nat.blt b 18) (cond (Nat.blt b 17) ((0, 0)) ((1, 0))) (cond (Nat.blt b 19) ((1000, 4)) ((1000, 4)))) (cond (Nat.blt b 22) (cond (Nat.blt b 21) ((1002, 64)) ((1000, 256))) (cond (Nat.blt b 23) ((2, 0)) (cond (Nat.blt b 24) ((3, 0)) ((1000, 500)))))) (cond (Nat.blt b 30) (cond (Nat.blt b 27) (cond (Nat.blt b 26) ((4, 0)) ((5, 0))) (cond (Nat.blt b 28) ((1001, 867)) (cond (Nat.blt b 29) ((1001, 1536)) ((1000, 6))))) (cond (Nat.blt b 32) (cond (Nat.blt b 31) ((1000, 1536)) ((1000, 1536))) (cond (Nat.blt b 33) ((1000, 1537)) (cond (Nat.blt b 34) ((1000, 1536)) ((1000, 96))))))) (cond (Nat.blt b 44) (cond (Nat.blt b 39) (cond (Nat.blt b 37) (cond (Nat.blt b 36) ((1000, 96)) ((6, 0))) (cond (Nat.blt b 38) ((1000, 626)) ((7, 0)))) (cond (Nat.blt b 41) (cond (Nat.blt b 40) ((1004, 6)) ((8, 0))) (cond (Nat.blt b 42) ((9, 0)) (cond (Nat.blt b 43) ((1000, 30)) ((9, 0)))))) (cond (Nat.blt b 49) (cond (Nat.blt b 46) (cond (Nat.blt b 45) ((1000, 30)) ((9, 0))) (cond (Nat.blt b 47) ((1000, 30)) (cond (Nat.blt b 48) ((8, 0)) ((9, 0))))) (cond (Nat.blt b 51) (cond (Nat.blt b 50) ((1000, 30)) ((9, 0))) (cond (Nat.blt b 52) ((1000, 30)) (cond (Nat.blt b 53) ((9, 0)) ((1000, 30)))))))) (cond (Nat.blt b 73) (cond (Nat.blt b 63) (cond (Nat.blt b 58) (cond (Nat.blt b 56) (cond (Nat.blt b 55) ((8, 0)) ((9, 0))) (cond (Nat.blt b 57) ((1000, 30)) ((9, 0)))) (cond (Nat.blt b 60) (cond (Nat.blt b 59) ((1000, 30)) ((9, 0))) (cond (Nat.blt b 61) ((1000, 30)) (cond (Nat.blt b 62) ((8, 0)) ((9, 0)))))) (cond (Nat.blt b 68) (cond (Nat.blt b 65) (cond (Nat.blt b 64) ((1000, 30)) ((9, 0))) (cond (Nat.blt b 66) ((1000, 30)) (cond (Nat.blt b 67) ((9, 0)) ((1000, 30))))) (cond (Nat.blt b 70) (cond (Nat.blt b 69) ((8, 0)) ((9, 0))) (cond (Nat.blt b 71) ((1000, 30)) (cond (Nat.blt b 72) ((9, 0)) ((1000, 30))))))) (cond (Nat.blt b 83) (cond (Nat.blt b 78) (cond (Nat.blt b 75) (cond (Nat.blt b 74) ((9, 0)) ((1000, 30))) (cond (Nat.blt b 76) ((8, 0)) (cond (Nat.blt b 77) ((9, 0)) ((1000, 30))))) (cond (Nat.blt b 80) (cond (Nat.blt b 79) ((9, 0)) ((1000, 30))) (cond (Nat.blt b 81) ((9, 0)) (cond (Nat.blt b 82) ((1000, 30)) ((7, 0)))))) (cond (Nat.blt b 88) (cond (Nat.blt b 85) (cond (Nat.blt b 84) ((1004, 6)) ((8, 0))) (cond (Nat.blt b 86) ((9, 0)) (cond (Nat.blt b 87) ((1000, 30)) ((9, 0))))) (cond (Nat.blt b 90) (cond (Nat.blt b 89) ((1000, 30)) ((9, 0))) (cond (Nat.blt b 91) ((1000, 30)) (cond (Nat.blt b 92) ((8, 0)) ((9, 0))))))))) (cond (Nat.blt b 131) (cond (Nat.blt b 112) (cond (Nat.blt b 102) (cond (Nat.blt b 97) (cond (Nat.blt b 95) (cond (Nat.blt b 94) ((1000, 30)) ((9, 0))) (cond (Nat.blt b 96) ((1000, 30)) ((9, 0)))) (cond (Nat.blt b 99) (cond (Nat.blt b 98) ((1000, 30)) ((8, 0))) (cond (Nat.blt b 100) ((9, 0)) (cond (Nat.blt b 101) ((1000, 30)) ((9, 0)))))) (cond (Nat.blt b 107) (cond (Nat.blt b 104) (cond (Nat.blt b 103) ((1000, 30)) ((9, 0))) (cond (Nat.blt b 105) ((1000, 30)) (cond (Nat.blt b 106) ((8, 0)) ((9, 0))))) (cond (Nat.blt b 109) (cond (Nat.blt b 108) ((1000, 30)) ((9, 0))) (cond (Nat.blt b 110) ((1000, 30)) (cond (Nat.blt b 111) ((9, 0)) ((1000, 30))))))) (cond (Nat.blt b 121) (cond (Nat.blt b 116) (cond (Nat.blt b 114) (cond (Nat.blt b 113) ((8, 0)) ((9, 0))) (cond (Nat.blt b 115) ((1000, 30)) ((9, 0)))) (cond (Nat.blt b 118) (cond (Nat.blt b 117) ((1000, 30)) ((9, 0))) (cond (Nat.blt b 119) ((1000, 30)) (cond (Nat.blt b 120) ((8, 0)) ((9, 0)))))) (cond (Nat.blt b 126) (cond (Nat.blt b 123) (cond (Nat.blt b 122) ((1000, 30)) ((9, 0))) (cond (Nat.blt b 124) ((1000, 30)) (cond (Nat.blt b 125) ((9, 0)) ((1000, 30))))) (cond (Nat.blt b 128) (cond (Nat.blt b 127) ((10, 0)) ((1000, 4))) (cond (Nat.blt b 129) ((1000, 4)) (cond (Nat.blt b 130) ((1000, 256)) ((1002, 64)))))))) (cond (Nat.blt b 150) (cond (Nat.blt b 140) (cond (Nat.blt b 135) (cond (Nat.blt b 133) (cond (Nat.blt b 132) ((1000, 500)) ((1000, 6))) (cond (Nat.blt b 134) ((1000, 18)) ((1000, 18)))) (cond (Nat.blt b 137) (cond (Nat.blt b 136) ((1000, 18)) ((1000, 540))) (cond (Nat.blt b 138) ((1000, 6)) (cond (Nat.blt b 139) ((1000, 6)) ((1000, 6)))))) (cond (Nat.blt b 145) (cond (Nat.blt b 142) (cond (Nat.blt b 141) ((1000, 6)) ((1000, 6))) (cond (Nat.blt b 143) ((1000, 6)) (cond (Nat.blt b 144) ((1000, 6)) ((1000, 6))))) (cond (Nat.blt b 147) (cond (Nat.blt b 146) ((1000, 18)) ((1000, 18))) (cond (Nat.blt b 148) ((1000, 18)) (cond (Nat.blt b 149) ((1000, 540)) ((1000, 6))))))) (cond (Nat.blt b 160) (cond (Nat.blt b 155) (cond (Nat.blt b 152) (cond (Nat.blt b 151) ((1000, 6)) ((1000, 6))) (cond (Nat.blt b 153) ((1000, 6)) (cond (Nat.blt b 154) ((1000, 6)) ((1000, 6))))) (cond (Nat.blt b 157) (cond (Nat.blt b 156) ((1000, 6)) ((1003, 96000))) (cond (Nat.blt b 158) ((1000, 4800)) (cond (Nat.blt b 159) ((1000, 4800)) ((1000, 1600)))))) (cond (Nat.blt b 165) (cond (Nat.blt b 162) (cond (Nat.blt b 161) ((1000, 1600)) ((1000, 1600))) (cond (Nat.blt b 163) ((1000, 1600)) (cond (Nat.blt b 164) ((1000, 1600)) ((1003, 96000))))) (cond (Nat.blt b 167) (cond (Nat.blt b 166) ((1000, 4800)) ((1000, 4800))) (cond (Nat.blt b 168) ((1000, 1600)) (cond (Nat.blt b 169) ((1000, 1600)) ((1003, 6000))))))))))) (0, 0)
def CC (L : Nat) (b : Nat) : Nat × Nat := cond (Nat.beq b 1) (1000, L) (CT b)
/-- the reference fields; those of the mappings and of the spare ones are B1 and B2 -/
def FRR (B1 B2 : Nat) (j b : Nat) : Nat := cond (Nat.blt j 111) (cond (Nat.blt b 170) (cond (Nat.blt j 64) (cond (Nat.blt j 25) (cond (Nat.blt j 8) (cond (Nat.blt j 4) (cond (Nat.blt j 2) (cond (Nat.blt j 1) (cond (Nat.beq j 0) (cond (Nat.beq b 16) 17 0) 0) (cond (Nat.beq j 1) (cond (Nat.beq b 16) 22 0) 0)) (cond (Nat.blt j 3) (cond (Nat.beq j 2) (cond (Nat.beq b 16) 25 0) 0) (cond (Nat.beq j 3) (cond (Nat.beq b 16) 36 0) 0))) (cond (Nat.blt j 6) (cond (Nat.blt j 5) (cond (Nat.beq j 4) (cond (Nat.beq b 16) B1 0) 0) (cond (Nat.beq j 5) (cond (Nat.beq b 16) B2 0) 0)) (cond (Nat.blt j 7) (cond (Nat.beq j 6) (cond (Nat.beq b 17) 18 0) 0) (cond (Nat.beq j 7) (cond (Nat.beq b 17) 19 0) 0)))) (cond (Nat.blt j 19) (cond (Nat.blt j 11) (cond (Nat.blt j 9) (cond (Nat.beq j 8) (cond (Nat.beq b 17) 20 0) 0) (cond (Nat.beq j 9) (cond (Nat.beq b 17) 21 0) 0)) (cond (Nat.blt j 13) (cond (Nat.beq j 11) (cond (Nat.beq b 22) 23 0) 0) (cond (Nat.beq j 13) (cond (Nat.beq b 23) 24 0) 0))) (cond (Nat.blt j 21) (cond (Nat.blt j 20) (cond (Nat.beq j 19) (cond (Nat.beq b 25) 26 0) 0) (cond (Nat.beq j 20) (cond (Nat.beq b 25) 28 0) 0)) (cond (Nat.blt j 22) (cond (Nat.beq j 21) (cond (Nat.beq b 25) 29 0) 0) (cond (Nat.blt j 23) (cond (Nat.beq j 22) (cond (Nat.beq b 25) 30 0) 0) (cond (Nat.beq j 23) (cond (Nat.beq b 25) 31 0) 0)))))) (cond (Nat.blt j 42) (cond (Nat.blt j 32) (cond (Nat.blt j 28) (cond (Nat.blt j 26) (cond (Nat.beq j 25) (cond (Nat.beq b 25) 32 0) 0) (cond (Nat.beq j 26) (cond (Nat.beq b 25) 33 0) 0)) (cond (Nat.blt j 29) (cond (Nat.beq j 28) (cond (Nat.beq b 25) 34 0) 0) (cond (Nat.beq j 29) (cond (Nat.beq b 25) 35 0) 0))) (cond (Nat.blt j 37) (cond (Nat.blt j 35) (cond (Nat.beq j 32) (cond (Nat.beq b 26) 27 0) 0) (cond (Nat.beq j 35) (cond (Nat.beq b 36) 37 0) 0)) (cond (Nat.blt j 40) (cond (Nat.beq j 37) (cond (Nat.blt b 82) (cond (Nat.beq b 38) 39 0) (cond (Nat.beq b 82) 83 0)) 0) (cond (Nat.blt j 41) (cond (Nat.beq j 40) (cond (Nat.blt b 84) (cond (Nat.blt b 61) (cond (Nat.blt b 47) (cond (Nat.beq b 40) 41 0) (cond (Nat.blt b 54) (cond (Nat.beq b 47) 48 0) (cond (Nat.beq b 54) 55 0))) (cond (Nat.blt b 68) (cond (Nat.beq b 61) 62 0) (cond (Nat.blt b 75) (cond (Nat.beq b 68) 69 0) (cond (Nat.beq b 75) 76 0)))) (cond (Nat.blt b 105) (cond (Nat.blt b 91) (cond (Nat.beq b 84) 85 0) (cond (Nat.blt b 98) (cond (Nat.beq b 91) 92 0) (cond (Nat.beq b 98) 99 0))) (cond (Nat.blt b 112) (cond (Nat.beq b 105) 106 0) (cond (Nat.blt b 119) (cond (Nat.beq b 112) 113 0) (cond (Nat.beq b 119) 120 0))))) 0) (cond (Nat.beq j 41) (cond (Nat.blt b 84) (cond (Nat.blt b 61) (cond (Nat.blt b 47) (cond (Nat.beq b 40) 43 0) (cond (Nat.blt b 54) (cond (Nat.beq b 47) 50 0) (cond (Nat.beq b 54) 57 0))) (cond (Nat.blt b 68) (cond (Nat.beq b 61) 64 0) (cond (Nat.blt b 75) (cond (Nat.beq b 68) 71 0) (cond (Nat.beq b 75) 78 0)))) (cond (Nat.blt b 105) (cond (Nat.blt b 91) (cond (Nat.beq b 84) 87 0) (cond (Nat.blt b 98) (cond (Nat.beq b 91) 94 0) (cond (Nat.beq b 98) 101 0))) (cond (Nat.blt b 112) (cond (Nat.beq b 105) 108 0) (cond (Nat.blt b 119) (cond (Nat.beq b 112) 115 0) (cond (Nat.beq b 119) 122 0))))) 0))))) (cond (Nat.blt j 57) (cond (Nat.blt j 55) (cond (Nat.blt j 52) (cond (Nat.beq j 42) (cond (Nat.blt b 84) (cond (Nat.blt b 61) (cond (Nat.blt b 47) (cond (Nat.beq b 40) 45 0) (cond (Nat.blt b 54) (cond (Nat.beq b 47) 52 0) (cond (Nat.beq b 54) 59 0))) (cond (Nat.blt b 68) (cond (Nat.beq b 61) 66 0) (cond (Nat.blt b 75) (cond (Nat.beq b 68) 73 0) (cond (Nat.beq b 75) 80 0)))) (cond (Nat.blt b 105) (cond (Nat.blt b 91) (cond (Nat.beq b 84) 89 0) (cond (Nat.blt b 98) (cond (Nat.beq b 91) 96 0) (cond (Nat.beq b 98) 103 0))) (cond (Nat.blt b 112) (cond (Nat.beq b 105) 110 0) (cond (Nat.blt b 119) (cond (Nat.beq b 112) 117 0) (cond (Nat.beq b 119) 124 0))))) 0) (cond (Nat.beq j 52) (cond (Nat.blt b 85) (cond (Nat.blt b 62) (cond (Nat.blt b 50) (cond (Nat.blt b 45) (cond (Nat.blt b 43) (cond (Nat.beq b 41) 42 0) (cond (Nat.beq b 43) 44 0)) (cond (Nat.blt b 48) (cond (Nat.beq b 45) 46 0) (cond (Nat.beq b 48) 49 0))) (cond (Nat.blt b 55) (cond (Nat.blt b 52) (cond (Nat.beq b 50) 51 0) (cond (Nat.beq b 52) 53 0)) (cond (Nat.blt b 57) (cond (Nat.beq b 55) 56 0) (cond (Nat.blt b 59) (cond (Nat.beq b 57) 58 0) (cond (Nat.beq b 59) 60 0))))) (cond (Nat.blt b 71) (cond (Nat.blt b 66) (cond (Nat.blt b 64) (cond (Nat.beq b 62) 63 0) (cond (Nat.beq b 64) 65 0)) (cond (Nat.blt b 69) (cond (Nat.beq b 66) 67 0) (cond (Nat.beq b 69) 70 0))) (cond (Nat.blt b 76) (cond (Nat.blt b 73) (cond (Nat.beq b 71) 72 0) (cond (Nat.beq b 73) 74 0)) (cond (Nat.blt b 78) (cond (Nat.beq b 76) 77 0) (cond (Nat.blt b 80) (cond (Nat.beq b 78) 79 0) (cond (Nat.beq b 80) 81 0)))))) (cond (Nat.blt b 106) (cond (Nat.blt b 94) (cond (Nat.blt b 89) (cond (Nat.blt b 87) (cond (Nat.beq b 85) 86 0) (cond (Nat.beq b 87) 88 0)) (cond (Nat.blt b 92) (cond (Nat.beq b 89) 90 0) (cond (Nat.beq b 92) 93 0))) (cond (Nat.blt b 99) (cond (Nat.blt b 96) (cond (Nat.beq b 94) 95 0) (cond (Nat.beq b 96) 97 0)) (cond (Nat.blt b 101) (cond (Nat.beq b 99) 100 0) (cond (Nat.blt b 103) (cond (Nat.beq b 101) 102 0) (cond (Nat.beq b 103) 104 0))))) (cond (Nat.blt b 115) (cond (Nat.blt b 110) (cond (Nat.blt b 108) (cond (Nat.beq b 106) 107 0) (cond (Nat.beq b 108) 109 0)) (cond (Nat.blt b 113) (cond (Nat.beq b 110) 111 0) (cond (Nat.beq b 113) 114 0))) (cond (Nat.blt b 120) (cond (Nat.blt b 117) (cond (Nat.beq b 115) 116 0) (cond (Nat.beq b 117) 118 0)) (cond (Nat.blt b 122) (cond (Nat.beq b 120) 121 0) (cond (Nat.blt b 124) (cond (Nat.beq b 122) 123 0) (cond (Nat.beq b 124) 125 0))))))) 0)) (cond (Nat.blt j 56) (cond (Nat.beq j 55) (cond (Nat.beq b 126) 127 0) 0) (cond (Nat.beq j 56) (cond (Nat.beq b 126) 128 0) 0))) (cond (Nat.blt j 59) (cond (Nat.blt j 58) (cond (Nat.beq j 57) (cond (Nat.beq b 126) 129 0) 0) (cond (Nat.beq j 58) (cond (Nat.beq b 126) 130 0) 0)) (cond (Nat.blt j 62) (cond (Nat.beq j 59) (cond (Nat.beq b 126) 131 0) 0) (cond (Nat.blt j 63) (cond (Nat.beq j 62) (cond (Nat.beq b 126) 132 0) 0) (cond (Nat.beq j 63) (cond (Nat.beq b 126) 133 0) 0))))))) (cond (Nat.blt j 83) (cond (Nat.blt j 73) (cond (Nat.blt j 68) (cond (Nat.blt j 66) (cond (Nat.blt j 65) (cond (Nat.beq j 64) (cond (Nat.beq b 126) 134 0) 0) (cond (Nat.beq j 65) (cond (Nat.beq b 126) 135 0) 0)) (cond (Nat.blt j 67) (cond (Nat.beq j 66) (cond (Nat.beq b 126) 136 0) 0) (cond (Nat.beq j 67) (cond (Nat.beq b 126) 137 0) 0))) (cond (Nat.blt j 70) (cond (Nat.blt j 69) (cond (Nat.beq j 68) (cond (Nat.beq b 126) 138 0) 0) (cond (Nat.beq j 69) (cond (Nat.beq b 126) 139 0) 0)) (cond (Nat.blt j 71) (cond (Nat.beq j 70) (cond (Nat.beq b 126) 140 0) 0) (cond (Nat.blt j 72) (cond (Nat.beq j 71) (cond (Nat.beq b 126) 141 0) 0) (cond (Nat.beq j 72) (cond (Nat.beq b 126) 142 0) 0))))) (cond (Nat.blt j 78) (cond (Nat.blt j 76) (cond (Nat.blt j 75) (cond (Nat.beq j 73) (cond (Nat.beq b 126) 143 0) 0) (cond (Nat.beq j 75) (cond (Nat.beq b 126) 144 0) 0)) (cond (Nat.blt j 77) (cond (Nat.beq j 76) (cond (Nat.beq b 126) 145 0) 0) (cond (Nat.beq j 77) (cond (Nat.beq b 126) 146 0) 0))) (cond (Nat.blt j 80) (cond (Nat.blt j 79) (cond (Nat.beq j 78) (cond (Nat.beq b 126) 147 0) 0) (cond (Nat.beq j 79) (cond (Nat.beq b 126) 148 0) 0)) (cond (Nat.blt j 81) (cond (Nat.beq j 80) (cond (Nat.beq b 126) 149 0) 0) (cond (Nat.blt j 82) (cond (Nat.beq j 81) (cond (Nat.beq b 126) 150 0) 0) (cond (Nat.beq j 82) (cond (Nat.beq b 126) 151 0) 0)))))) (cond (Nat.blt j 100) (cond (Nat.blt j 95) (cond (Nat.blt j 85) (cond (Nat.blt j 84) (cond (Nat.beq j 83) (cond (Nat.beq b 126) 152 0) 0) (cond (Nat.beq j 84) (cond (Nat.beq b 126) 153 0) 0)) (cond (Nat.blt j 86) (cond (Nat.beq j 85) (cond (Nat.beq b 126) 154 0) 0) (cond (Nat.beq j 86) (cond (Nat.beq b 126) 155 0) 0))) (cond (Nat.blt j 97) (cond (Nat.blt j 96) (cond (Nat.beq j 95) (cond (Nat.beq b 126) 156 0) 0) (cond (Nat.beq j 96) (cond (Nat.beq b 126) 157 0) 0)) (cond (Nat.blt j 98) (cond (Nat.beq j 97) (cond (Nat.beq b 126) 158 0) 0) (cond (Nat.blt j 99) (cond (Nat.beq j 98) (cond (Nat.beq b 126) 159 0) 0) (cond (Nat.beq j 99) (cond (Nat.beq b 126) 160 0) 0))))) (cond (Nat.blt j 105) (cond (Nat.blt j 102) (cond (Nat.blt j 101) (cond (Nat.beq j 100) (cond (Nat.beq b 126) 161 0) 0) (cond (Nat.beq j 101) (cond (Nat.beq b 126) 162 0) 0)) (cond (Nat.blt j 104) (cond (Nat.beq j 102) (cond (Nat.beq b 126) 163 0) 0) (cond (Nat.beq j 104) (cond (Nat.beq b 126) 164 0) 0))) (cond (Nat.blt j 107) (cond (Nat.blt j 106) (cond (Nat.beq j 105) (cond (Nat.beq b 126) 165 0) 0) (cond (Nat.beq j 106) (cond (Nat.beq b 126) 166 0) 0)) (cond (Nat.blt j 108) (cond (Nat.beq j 107) (cond (Nat.beq b 126) 167 0) 0) (cond (Nat.blt j 110) (cond (Nat.beq j 108) (cond (Nat.beq b 126) 168 0) 0) (cond (Nat.beq j 110) (cond (Nat.beq b 126) 169 0) 0)))))))) 0) 0
def ARR : Nat → Int → Nat := st_lr [(83, 5, 119), (83, 4, 112), (83, 3, 105), (83, 2, 98), (83, 1, 91), (83, 0, 84), (39, 5, 75), (39, 4, 68), (39, 3, 61), (39, 2, 54), (39, 1, 47), (39, 0, 40)]
def SLN : Nat := 242178
/-- the heap from there on: only the int fields, the int arrays and the long arrays change, and which mappings are the spare ones -/
def HH (L B1 B2 : Nat) (fi : Nat → Nat → Int) (ai aj : Nat → Int → Int) : am_H := (170, SLN, CC L, fi, (fun _ _ => 0), FRR B1 B2, ai, aj, ARR)
def st_c' : List (Nat × Nat) → Nat → Nat × Nat
  | [], _ => (0, 0)
  | p :: r, b => cond (Nat.beq b (16 + r.length)) p (st_c' r b)
theorem st_beq (x y : Nat) : Nat.beq x y = decide (x = y) := by
  by_cases q : x = y
  · rw [q, Nat.beq_refl, decide_eq_true rfl]
  · rw [decide_eq_false q]
    cases hb : Nat.beq x y
    · rfl
    · exact absurd (Nat.eq_of_beq_eq_true hb) q
theorem st_blt (x y : Nat) : Nat.blt x y = decide (x < y) := by
  by_cases q : x < y
  · rw [decide_eq_true q]
    exact Nat.ble_eq_true_of_le q
  · rw [decide_eq_false q]
    cases hb : Nat.blt x y
    · rfl
    · exact absurd (Nat.le_of_ble_eq_true hb) q
theorem st_c_e (L : Nat) : ∀ (l : List (Nat × Nat)) (b : Nat), st_c L l b = if b = 1 then (1000, L) else st_c' l b
  | [], b => rfl
  | p :: r, b => by
    show (if b = 16 + r.length then p else st_c L r b) = if b = 1 then (1000, L) else cond (Nat.beq b (16 + r.length)) p (st_c' r b)
    rw [st_c_e L r b, st_beq]
    by_cases h1 : b = 1
    · rw [if_neg (by omega), if_pos h1, if_pos h1]
    · rw [if_neg h1, if_neg h1]
      by_cases h2 : b = 16 + r.length
      · rw [if_pos h2, decide_eq_true h2]
        rfl
      · rw [if_neg h2, decide_eq_false h2]
        rfl
theorem st_c'_n : ∀ (l : List (Nat × Nat)) (b : Nat), 16 + l.length ≤ b → st_c' l b = (0, 0)
  | [], _, _ => rfl
  | p :: r, b, h => by
    have h' : 16 + (r.length + 1) ≤ b := h
    show cond (Nat.beq b (16 + r.length)) p (st_c' r b) = (0, 0)
    rw [st_beq, decide_eq_false (by omega)]
    exact st_c'_n r b (by omega)
theorem st_lk_f {k : Nat} : ∀ (l : List (Nat × Nat × Nat)) (j b : Nat), (l.all (fun q => Nat.blt q.1 k) = true) → k ≤ j → st_lk l j b = 0
  | [], _, _, _, _ => rfl
  | (f, x, v) :: r, j, b, h, hj => by
    rw [List.all_cons, Bool.and_eq_true] at h
    have h1 : f < k := Nat.le_of_ble_eq_true h.1
    show cond (Nat.beq j f) (cond (Nat.beq b x) v (st_lk r j b)) (st_lk r j b) = 0
    rw [st_beq, decide_eq_false (by omega)]
    exact st_lk_f r j b h.2 hj
set_option maxRecDepth 100000 in
theorem CC_ck : (List.range 170).all (fun b => decide (st_c' lc_M1 b = CT b)) = true := by decide +kernel
set_option maxRecDepth 100000 in
theorem FRR_ck : (List.range 111).all (fun j => (List.range 170).all (fun b => Nat.beq (FRR 38 82 j b) 0 || lf_M1.any (fun q => Nat.beq q.1 j && Nat.beq q.2.1 b))) = true := by decide +kernel
set_option maxRecDepth 100000 in
theorem FRR_ck2 : lf_M1.all (fun q => Nat.beq (st_lk lf_M1 q.1 q.2.1) (FRR 38 82 q.1 q.2.1)) = true := by decide +kernel
theorem st_lk_0 : ∀ (l : List (Nat × Nat × Nat)) (j b : Nat), l.any (fun q => Nat.beq q.1 j && Nat.beq q.2.1 b) = false → st_lk l j b = 0
  | [], _, _, _ => rfl
  | (f, x, v) :: r, j, b, h => by
    rw [List.any_cons, Bool.or_eq_false_iff] at h
    have h1 : (Nat.beq f j && Nat.beq x b) = false := h.1
    show cond (Nat.beq j f) (cond (Nat.beq b x) v (st_lk r j b)) (st_lk r j b) = 0
    rw [st_lk_0 r j b h.2]
    rw [st_beq, st_beq] at h1 ⊢
    by_cases q1 : j = f
    · by_cases q2 : b = x
      · rw [decide_eq_true q1.symm, decide_eq_true q2.symm] at h1
        cases h1
      · rw [decide_eq_false q2]
        cases decide (j = f) <;> rfl
    · rw [decide_eq_false q1]
      rfl
set_option maxRecDepth 100000 in
theorem lf_ck : lf_M1.all (fun q => Nat.blt q.1 111) = true := by decide +kernel
set_option maxRecDepth 100000 in
theorem CC_e (L : Nat) : st_c L lc_M1 = CC L := by
  funext b
  rw [st_c_e]
  show _ = cond (Nat.beq b 1) (1000, L) (CT b)
  rw [st_beq]
  by_cases h1 : b = 1
  · rw [if_pos h1, decide_eq_true h1]
    rfl
  · rw [if_neg h1, decide_eq_false h1]
    show st_c' lc_M1 b = CT b
    by_cases h2 : b < 170
    · exact of_decide_eq_true (List.all_eq_true.mp CC_ck b (List.mem_range.mpr h2))
    · rw [st_c'_n lc_M1 b (by show 170 ≤ b; omega)]
      unfold CT
      rw [st_blt, decide_eq_false h2]
      rfl
set_option maxRecDepth 100000 in
theorem FRR_e (L : Nat) (xs : Nat → Int32) : st_lk lf_M1 = FRR 38 82 := by
  funext j b
  by_cases h1 : j < 111
  · by_cases h2 : b < 170
    · cases hq : lf_M1.any (fun q => Nat.beq q.1 j && Nat.beq q.2.1 b)
      · have h3 := List.all_eq_true.mp (List.all_eq_true.mp FRR_ck j (List.mem_range.mpr h1)) b (List.mem_range.mpr h2)
        rw [hq, Bool.or_false] at h3
        rw [st_lk_0 _ _ _ hq, Nat.eq_of_beq_eq_true h3]
      · obtain ⟨⟨f, x, v⟩, m1, m2⟩ := List.any_eq_true.mp hq
        rw [Bool.and_eq_true] at m2
        have e1 : f = j := Nat.eq_of_beq_eq_true m2.1
        have e2 : x = b := Nat.eq_of_beq_eq_true m2.2
        subst e1
        subst e2
        exact Nat.eq_of_beq_eq_true (List.all_eq_true.mp FRR_ck2 _ m1)
    · rw [st_lk_n lf_M1 j (fun q hq => Nat.lt_of_lt_of_le ((St_M1 L xs).2.2.2.2.2.2.2.2.2.2.1 q hq) (by omega))]
      unfold FRR
      rw [st_blt, st_blt, decide_eq_true h1, decide_eq_false h2]
      rfl
  · rw [st_lk_f lf_M1 j b lf_ck (by omega)]
    unfold FRR
    rw [st_blt, decide_eq_false h1]
    rfl
theorem am_H_eta (h : am_H) : h = (am_n h, am_sl h, am_c h, am_fi h, am_fj h, am_fr h, am_ai h, am_aj h, am_ar h) := rfl
theorem SLN_e : sl_M1 = SLN := by decide +kernel
theorem ARR_e : st_lr lr_M1 = ARR := rfl
set_option maxRecDepth 100000 in
theorem HM1_e (L : Nat) (xs : Nat → Int32) : HM1 L xs = HH L 38 82 (am_fi (HM1 L xs)) (st_ai xs) (fun _ _ => 0) := by
  obtain ⟨s1, s2, s3, s4, s5, s6, s7, s8, s9, s10, s11, s12⟩ := St_M1 L xs
  refine (am_H_eta _).trans ?_
  rw [s1, s2, s3, s4, s5, s6, s7, s8, CC_e, FRR_e L xs, SLN_e, ARR_e]
  unfold HH
  exact rfl
theorem HM1_z (L : Nat) (xs : Nat → Int32) (j b : Nat) (hz : st_z j = false) : am_fi (HM1 L xs) j b = 0 := (St_M1 L xs).2.2.2.2.2.2.2.2.1 j b hz
