theorem am_bz {n pc : Nat} {A : Option am_N} (h : n ≤ pc) : cond (Nat.blt pc n) A none = none := by
  rw [show Nat.blt pc n = false from by rw [Bool.eq_false_iff]; intro q; have := Nat.le_of_ble_eq_true q; omega]
  rfl
set_option maxRecDepth 100000 in
set_option maxHeartbeats 4000000 in
theorem am_tz {md nL pc : Nat} {T : am_T} (h : md < 159) (hP : am_prog md = some (nL, T)) (hpc : (am_mb md).size ≤ pc) : T pc = none := by
  rcases Nat.lt_or_ge md 79 with q79 | q79
  · rcases Nat.lt_or_ge md 39 with q39 | q39
    · rcases Nat.lt_or_ge md 19 with q19 | q19
      · rcases Nat.lt_or_ge md 9 with q9 | q9
        · rcases Nat.lt_or_ge md 4 with q4 | q4
          · rcases Nat.lt_or_ge md 2 with q2 | q2
            · rcases Nat.lt_or_ge md 1 with q1 | q1
              · have e : md = 0 := by omega
                subst e
                have e2 : am_prog 0 = some (1, T_MT_init) := rfl
                rw [e2] at hP
                cases hP
                exact am_bz (n := 71) hpc
              · have e : md = 1 := by omega
                subst e
                have e2 : am_prog 1 = some (2, T_MT_source) := rfl
                rw [e2] at hP
                cases hP
                exact am_bz (n := 21) hpc
            · rcases Nat.lt_or_ge md 3 with q3 | q3
              · have e : md = 2 := by omega
                subst e
                have e2 : am_prog 2 = some (8, T_MT_row) := rfl
                rw [e2] at hP
                cases hP
                exact am_bz (n := 144) hpc
              · have e : md = 3 := by omega
                subst e
                have e2 : am_prog 3 = some (5, T_MT_change) := rfl
                rw [e2] at hP
                cases hP
                exact am_bz (n := 100) hpc
          · rcases Nat.lt_or_ge md 6 with q6 | q6
            · rcases Nat.lt_or_ge md 5 with q5 | q5
              · have e : md = 4 := by omega
                subst e
                have e2 : am_prog 4 = some (4, T_MT_type) := rfl
                rw [e2] at hP
                cases hP
                exact am_bz (n := 26) hpc
              · have e : md = 5 := by omega
                subst e
                have e2 : am_prog 5 = some (3, T_MT_read) := rfl
                rw [e2] at hP
                cases hP
                exact am_bz (n := 58) hpc
            · rcases Nat.lt_or_ge md 7 with q7 | q7
              · have e : md = 6 := by omega
                subst e
                have e2 : am_prog 6 = some (1, T_MT_needsEscape) := rfl
                rw [e2] at hP
                cases hP
                exact am_bz (n := 30) hpc
              · rcases Nat.lt_or_ge md 8 with q8 | q8
                · have e : md = 7 := by omega
                  subst e
                  have e2 : am_prog 7 = some (1, T_MT_triples) := rfl
                  rw [e2] at hP
                  cases hP
                  exact am_bz (n := 23) hpc
                · have e : md = 8 := by omega
                  subst e
                  have e2 : am_prog 8 = some (3, T_MT_triple) := rfl
                  rw [e2] at hP
                  cases hP
                  exact am_bz (n := 136) hpc
        · rcases Nat.lt_or_ge md 14 with q14 | q14
          · rcases Nat.lt_or_ge md 11 with q11 | q11
            · rcases Nat.lt_or_ge md 10 with q10 | q10
              · have e : md = 9 := by omega
                subst e
                have e2 : am_prog 9 = some (4, T_MT_byteOf) := rfl
                rw [e2] at hP
                cases hP
                exact am_bz (n := 65) hpc
              · have e : md = 10 := by omega
                subst e
                have e2 : am_prog 10 = some (6, T_MT_which) := rfl
                rw [e2] at hP
                cases hP
                exact am_bz (n := 125) hpc
            · rcases Nat.lt_or_ge md 12 with q12 | q12
              · have e : md = 11 := by omega
                subst e
                have e2 : am_prog 11 = some (1, T_MT_bads) := rfl
                rw [e2] at hP
                cases hP
                exact am_bz (n := 23) hpc
              · rcases Nat.lt_or_ge md 13 with q13 | q13
                · have e : md = 12 := by omega
                  subst e
                  have e2 : am_prog 12 = some (3, T_MT_bad) := rfl
                  rw [e2] at hP
                  cases hP
                  exact am_bz (n := 91) hpc
                · have e : md = 13 := by omega
                  subst e
                  have e2 : am_prog 13 = some (2, T_MT_print) := rfl
                  rw [e2] at hP
                  cases hP
                  exact am_bz (n := 50) hpc
          · rcases Nat.lt_or_ge md 16 with q16 | q16
            · rcases Nat.lt_or_ge md 15 with q15 | q15
              · have e : md = 14 := by omega
                subst e
                have e2 : am_prog 14 = some (2, T_MT_at) := rfl
                rw [e2] at hP
                cases hP
                exact am_bz (n := 27) hpc
              · have e : md = 15 := by omega
                subst e
                have e2 : am_prog 15 = some (1, T_So_init) := rfl
                rw [e2] at hP
                cases hP
                exact am_bz (n := 41) hpc
            · rcases Nat.lt_or_ge md 17 with q17 | q17
              · have e : md = 16 := by omega
                subst e
                have e2 : am_prog 16 = some (2, T_So_addSource) := rfl
                rw [e2] at hP
                cases hP
                exact am_bz (n := 38) hpc
              · rcases Nat.lt_or_ge md 18 with q18 | q18
                · have e : md = 17 := by omega
                  subst e
                  have e2 : am_prog 17 = some (2, T_So_columnsOf) := rfl
                  rw [e2] at hP
                  cases hP
                  exact am_bz (n := 23) hpc
                · have e : md = 18 := by omega
                  subst e
                  have e2 : am_prog 18 = some (3, T_So_addRow) := rfl
                  rw [e2] at hP
                  cases hP
                  exact am_bz (n := 55) hpc
      · rcases Nat.lt_or_ge md 29 with q29 | q29
        · rcases Nat.lt_or_ge md 24 with q24 | q24
          · rcases Nat.lt_or_ge md 21 with q21 | q21
            · rcases Nat.lt_or_ge md 20 with q20 | q20
              · have e : md = 19 := by omega
                subst e
                have e2 : am_prog 19 = some (6, T_So_setCell) := rfl
                rw [e2] at hP
                cases hP
                exact am_bz (n := 34) hpc
              · have e : md = 20 := by omega
                subst e
                have e2 : am_prog 20 = some (4, T_So_cellIndex) := rfl
                rw [e2] at hP
                cases hP
                exact am_bz (n := 53) hpc
            · rcases Nat.lt_or_ge md 22 with q22 | q22
              · have e : md = 21 := by omega
                subst e
                have e2 : am_prog 21 = some (3, T_So_hasRow) := rfl
                rw [e2] at hP
                cases hP
                exact am_bz (n := 19) hpc
              · rcases Nat.lt_or_ge md 23 with q23 | q23
                · have e : md = 22 := by omega
                  subst e
                  have e2 : am_prog 22 = some (2, T_So_rowsOf) := rfl
                  rw [e2] at hP
                  cases hP
                  exact am_bz (n := 23) hpc
                · have e : md = 23 := by omega
                  subst e
                  have e2 : am_prog 23 = some (3, T_So_isThere) := rfl
                  rw [e2] at hP
                  cases hP
                  exact am_bz (n := 29) hpc
          · rcases Nat.lt_or_ge md 26 with q26 | q26
            · rcases Nat.lt_or_ge md 25 with q25 | q25
              · have e : md = 24 := by omega
                subst e
                have e2 : am_prog 24 = some (5, T_So_cell) := rfl
                rw [e2] at hP
                cases hP
                exact am_bz (n := 27) hpc
              · have e : md = 25 := by omega
                subst e
                have e2 : am_prog 25 = some (4, T_So_setThere) := rfl
                rw [e2] at hP
                cases hP
                exact am_bz (n := 22) hpc
            · rcases Nat.lt_or_ge md 27 with q27 | q27
              · have e : md = 26 := by omega
                subst e
                have e2 : am_prog 26 = some (1, T_Re_init) := rfl
                rw [e2] at hP
                cases hP
                exact am_bz (n := 21) hpc
              · rcases Nat.lt_or_ge md 28 with q28 | q28
                · have e : md = 27 := by omega
                  subst e
                  have e2 : am_prog 27 = some (4, T_Re_readAll) := rfl
                  rw [e2] at hP
                  cases hP
                  exact am_bz (n := 109) hpc
                · have e : md = 28 := by omega
                  subst e
                  have e2 : am_prog 28 = some (4, T_Re_takeMapping) := rfl
                  rw [e2] at hP
                  cases hP
                  exact am_bz (n := 189) hpc
        · rcases Nat.lt_or_ge md 34 with q34 | q34
          · rcases Nat.lt_or_ge md 31 with q31 | q31
            · rcases Nat.lt_or_ge md 30 with q30 | q30
              · have e : md = 29 := by omega
                subst e
                have e2 : am_prog 29 = some (2, T_Re_nextIsNumberBelow) := rfl
                rw [e2] at hP
                cases hP
                exact am_bz (n := 61) hpc
              · have e : md = 30 := by omega
                subst e
                have e2 : am_prog 30 = some (2, T_Re_wrong) := rfl
                rw [e2] at hP
                cases hP
                exact am_bz (n := 10) hpc
            · rcases Nat.lt_or_ge md 32 with q32 | q32
              · have e : md = 31 := by omega
                subst e
                have e2 : am_prog 31 = some (2, T_Re_mayNot) := rfl
                rw [e2] at hP
                cases hP
                exact am_bz (n := 11) hpc
              · rcases Nat.lt_or_ge md 33 with q33 | q33
                · have e : md = 32 := by omega
                  subst e
                  have e2 : am_prog 32 = some (2, T_Re_nextIs) := rfl
                  rw [e2] at hP
                  cases hP
                  exact am_bz (n := 38) hpc
                · have e : md = 33 := by omega
                  subst e
                  have e2 : am_prog 33 = some (3, T_Re_takeName) := rfl
                  rw [e2] at hP
                  cases hP
                  exact am_bz (n := 71) hpc
          · rcases Nat.lt_or_ge md 36 with q36 | q36
            · rcases Nat.lt_or_ge md 35 with q35 | q35
              · have e : md = 34 := by omega
                subst e
                have e2 : am_prog 34 = some (5, T_Re_takeTemplate) := rfl
                rw [e2] at hP
                cases hP
                exact am_bz (n := 120) hpc
              · have e : md = 35 := by omega
                subst e
                have e2 : am_prog 35 = some (5, T_Re_takePiece) := rfl
                rw [e2] at hP
                cases hP
                exact am_bz (n := 172) hpc
            · rcases Nat.lt_or_ge md 37 with q37 | q37
              · have e : md = 36 := by omega
                subst e
                have e2 : am_prog 36 = some (5, T_Re_takeObject) := rfl
                rw [e2] at hP
                cases hP
                exact am_bz (n := 132) hpc
              · rcases Nat.lt_or_ge md 38 with q38 | q38
                · have e : md = 37 := by omega
                  subst e
                  have e2 : am_prog 37 = some (6, T_Re_takeJoin) := rfl
                  rw [e2] at hP
                  cases hP
                  exact am_bz (n := 141) hpc
                · have e : md = 38 := by omega
                  subst e
                  have e2 : am_prog 38 = some (4, T_Re_takeCondition) := rfl
                  rw [e2] at hP
                  cases hP
                  exact am_bz (n := 187) hpc
    · rcases Nat.lt_or_ge md 59 with q59 | q59
      · rcases Nat.lt_or_ge md 49 with q49 | q49
        · rcases Nat.lt_or_ge md 44 with q44 | q44
          · rcases Nat.lt_or_ge md 41 with q41 | q41
            · rcases Nat.lt_or_ge md 40 with q40 | q40
              · have e : md = 39 := by omega
                subst e
                have e2 : am_prog 39 = some (2, T_Re_takeGraph) := rfl
                rw [e2] at hP
                cases hP
                exact am_bz (n := 31) hpc
              · have e : md = 40 := by omega
                subst e
                have e2 : am_prog 40 = some (1, T_To_init) := rfl
                rw [e2] at hP
                cases hP
                exact am_bz (n := 39) hpc
            · rcases Nat.lt_or_ge md 42 with q42 | q42
              · have e : md = 41 := by omega
                subst e
                have e2 : am_prog 41 = some (5, T_To_append) := rfl
                rw [e2] at hP
                cases hP
                exact am_bz (n := 67) hpc
              · rcases Nat.lt_or_ge md 43 with q43 | q43
                · have e : md = 42 := by omega
                  subst e
                  have e2 : am_prog 42 = some (2, T_To_next) := rfl
                  rw [e2] at hP
                  cases hP
                  exact am_bz (n := 101) hpc
                · have e : md = 43 := by omega
                  subst e
                  have e2 : am_prog 43 = some (1, T_To_skipBlanks) := rfl
                  rw [e2] at hP
                  cases hP
                  exact am_bz (n := 53) hpc
          · rcases Nat.lt_or_ge md 46 with q46 | q46
            · rcases Nat.lt_or_ge md 45 with q45 | q45
              · have e : md = 44 := by omega
                subst e
                have e2 : am_prog 44 = some (1, T_To_byteHere) := rfl
                rw [e2] at hP
                cases hP
                exact am_bz (n := 32) hpc
              · have e : md = 45 := by omega
                subst e
                have e2 : am_prog 45 = some (1, T_To_takeWord) := rfl
                rw [e2] at hP
                cases hP
                exact am_bz (n := 97) hpc
            · rcases Nat.lt_or_ge md 47 with q47 | q47
              · have e : md = 46 := by omega
                subst e
                have e2 : am_prog 46 = some (2, T_To_takeDigits) := rfl
                rw [e2] at hP
                cases hP
                exact am_bz (n := 93) hpc
              · rcases Nat.lt_or_ge md 48 with q48 | q48
                · have e : md = 47 := by omega
                  subst e
                  have e2 : am_prog 47 = some (1, T_To_isSign) := rfl
                  rw [e2] at hP
                  cases hP
                  exact am_bz (n := 54) hpc
                · have e : md = 48 := by omega
                  subst e
                  have e2 : am_prog 48 = some (1, T_To_clear) := rfl
                  rw [e2] at hP
                  cases hP
                  exact am_bz (n := 11) hpc
        · rcases Nat.lt_or_ge md 54 with q54 | q54
          · rcases Nat.lt_or_ge md 51 with q51 | q51
            · rcases Nat.lt_or_ge md 50 with q50 | q50
              · have e : md = 49 := by omega
                subst e
                have e2 : am_prog 49 = some (1, T_Gi_init) := rfl
                rw [e2] at hP
                cases hP
                exact am_bz (n := 105) hpc
              · have e : md = 50 := by omega
                subst e
                have e2 : am_prog 50 = some (6, T_Gi_make) := rfl
                rw [e2] at hP
                cases hP
                exact am_bz (n := 163) hpc
            · rcases Nat.lt_or_ge md 52 with q52 | q52
              · have e : md = 51 := by omega
                subst e
                have e2 : am_prog 51 = some (6, T_Gi_giveRow) := rfl
                rw [e2] at hP
                cases hP
                exact am_bz (n := 129) hpc
              · rcases Nat.lt_or_ge md 53 with q53 | q53
                · have e : md = 52 := by omega
                  subst e
                  have e2 : am_prog 52 = some (7, T_Gi_putNames) := rfl
                  rw [e2] at hP
                  cases hP
                  exact am_bz (n := 114) hpc
                · have e : md = 53 := by omega
                  subst e
                  have e2 : am_prog 53 = some (3, T_Gi_addBad) := rfl
                  rw [e2] at hP
                  cases hP
                  exact am_bz (n := 40) hpc
          · rcases Nat.lt_or_ge md 56 with q56 | q56
            · rcases Nat.lt_or_ge md 55 with q55 | q55
              · have e : md = 54 := by omega
                subst e
                have e2 : am_prog 54 = some (7, T_Gi_joinRow) := rfl
                rw [e2] at hP
                cases hP
                exact am_bz (n := 80) hpc
              · have e : md = 55 := by omega
                subst e
                have e2 : am_prog 55 = some (4, T_Gi_addWay) := rfl
                rw [e2] at hP
                cases hP
                exact am_bz (n := 49) hpc
            · rcases Nat.lt_or_ge md 57 with q57 | q57
              · have e : md = 56 := by omega
                subst e
                have e2 : am_prog 56 = some (3, T_Gi_sortWays) := rfl
                rw [e2] at hP
                cases hP
                exact am_bz (n := 81) hpc
              · rcases Nat.lt_or_ge md 58 with q58 | q58
                · have e : md = 57 := by omega
                  subst e
                  have e2 : am_prog 57 = some (7, T_Gi_mergeRuns) := rfl
                  rw [e2] at hP
                  cases hP
                  exact am_bz (n := 92) hpc
                · have e : md = 58 := by omega
                  subst e
                  have e2 : am_prog 58 = some (6, T_Gi_compareWays) := rfl
                  rw [e2] at hP
                  cases hP
                  exact am_bz (n := 71) hpc
      · rcases Nat.lt_or_ge md 69 with q69 | q69
        · rcases Nat.lt_or_ge md 64 with q64 | q64
          · rcases Nat.lt_or_ge md 61 with q61 | q61
            · rcases Nat.lt_or_ge md 60 with q60 | q60
              · have e : md = 59 := by omega
                subst e
                have e2 : am_prog 59 = some (4, T_Gi_wordOf) := rfl
                rw [e2] at hP
                cases hP
                exact am_bz (n := 83) hpc
              · have e : md = 60 := by omega
                subst e
                have e2 : am_prog 60 = some (2, T_Gi_graphOfWay) := rfl
                rw [e2] at hP
                cases hP
                exact am_bz (n := 28) hpc
            · rcases Nat.lt_or_ge md 62 with q62 | q62
              · have e : md = 61 := by omega
                subst e
                have e2 : am_prog 61 = some (2, T_Gi_numberTriples) := rfl
                rw [e2] at hP
                cases hP
                exact am_bz (n := 97) hpc
              · rcases Nat.lt_or_ge md 63 with q63 | q63
                · have e : md = 62 := by omega
                  subst e
                  have e2 : am_prog 62 = some (2, T_Gi_hasTriple) := rfl
                  rw [e2] at hP
                  cases hP
                  exact am_bz (n := 18) hpc
                · have e : md = 63 := by omega
                  subst e
                  have e2 : am_prog 63 = some (3, T_Gi_kindOf) := rfl
                  rw [e2] at hP
                  cases hP
                  exact am_bz (n := 16) hpc
          · rcases Nat.lt_or_ge md 66 with q66 | q66
            · rcases Nat.lt_or_ge md 65 with q65 | q65
              · have e : md = 64 := by omega
                subst e
                have e2 : am_prog 64 = some (2, T_Gi_leastWay) := rfl
                rw [e2] at hP
                cases hP
                exact am_bz (n := 24) hpc
              · have e : md = 65 := by omega
                subst e
                have e2 : am_prog 65 = some (4, T_Gi_lengthOf) := rfl
                rw [e2] at hP
                cases hP
                exact am_bz (n := 26) hpc
            · rcases Nat.lt_or_ge md 67 with q67 | q67
              · have e : md = 66 := by omega
                subst e
                have e2 : am_prog 66 = some (6, T_Gi_termByte) := rfl
                rw [e2] at hP
                cases hP
                exact am_bz (n := 35) hpc
              · rcases Nat.lt_or_ge md 68 with q68 | q68
                · have e : md = 67 := by omega
                  subst e
                  have e2 : am_prog 67 = some (2, T_Gi_graphOf) := rfl
                  rw [e2] at hP
                  cases hP
                  exact am_bz (n := 10) hpc
                · have e : md = 68 := by omega
                  subst e
                  have e2 : am_prog 68 = some (2, T_Gi_waysOf) := rfl
                  rw [e2] at hP
                  cases hP
                  exact am_bz (n := 28) hpc
        · rcases Nat.lt_or_ge md 74 with q74 | q74
          · rcases Nat.lt_or_ge md 71 with q71 | q71
            · rcases Nat.lt_or_ge md 70 with q70 | q70
              · have e : md = 69 := by omega
                subst e
                have e2 : am_prog 69 = some (2, T_Gi_leastMapping) := rfl
                rw [e2] at hP
                cases hP
                exact am_bz (n := 12) hpc
              · have e : md = 70 := by omega
                subst e
                have e2 : am_prog 70 = some (2, T_Gi_leastRow) := rfl
                rw [e2] at hP
                cases hP
                exact am_bz (n := 12) hpc
            · rcases Nat.lt_or_ge md 72 with q72 | q72
              · have e : md = 71 := by omega
                subst e
                have e2 : am_prog 71 = some (3, T_Gi_wayOf) := rfl
                rw [e2] at hP
                cases hP
                exact am_bz (n := 12) hpc
              · rcases Nat.lt_or_ge md 73 with q73 | q73
                · have e : md = 72 := by omega
                  subst e
                  have e2 : am_prog 72 = some (2, T_Gi_tripleBy) := rfl
                  rw [e2] at hP
                  cases hP
                  exact am_bz (n := 22) hpc
                · have e : md = 73 := by omega
                  subst e
                  have e2 : am_prog 73 = some (1, T_Te_init) := rfl
                  rw [e2] at hP
                  cases hP
                  exact am_bz (n := 24) hpc
          · rcases Nat.lt_or_ge md 76 with q76 | q76
            · rcases Nat.lt_or_ge md 75 with q75 | q75
              · have e : md = 74 := by omega
                subst e
                have e2 : am_prog 74 = some (3, T_Te_begin) := rfl
                rw [e2] at hP
                cases hP
                exact am_bz (n := 68) hpc
              · have e : md = 75 := by omega
                subst e
                have e2 : am_prog 75 = some (7, T_Te_putPart) := rfl
                rw [e2] at hP
                cases hP
                exact am_bz (n := 100) hpc
            · rcases Nat.lt_or_ge md 77 with q77 | q77
              · have e : md = 76 := by omega
                subst e
                have e2 : am_prog 76 = some (2, T_Te_put) := rfl
                rw [e2] at hP
                cases hP
                exact am_bz (n := 56) hpc
              · rcases Nat.lt_or_ge md 78 with q78 | q78
                · have e : md = 77 := by omega
                  subst e
                  have e2 : am_prog 77 = some (2, T_Te_valueWord) := rfl
                  rw [e2] at hP
                  cases hP
                  exact am_bz (n := 23) hpc
                · have e : md = 78 := by omega
                  subst e
                  have e2 : am_prog 78 = some (1, T_Pr_init) := rfl
                  rw [e2] at hP
                  cases hP
                  exact am_bz (n := 19) hpc
  · rcases Nat.lt_or_ge md 119 with q119 | q119
    · rcases Nat.lt_or_ge md 99 with q99 | q99
      · rcases Nat.lt_or_ge md 89 with q89 | q89
        · rcases Nat.lt_or_ge md 84 with q84 | q84
          · rcases Nat.lt_or_ge md 81 with q81 | q81
            · rcases Nat.lt_or_ge md 80 with q80 | q80
              · have e : md = 79 := by omega
                subst e
                have e2 : am_prog 79 = some (2, T_Pr_put) := rfl
                rw [e2] at hP
                cases hP
                exact am_bz (n := 31) hpc
              · have e : md = 80 := by omega
                subst e
                have e2 : am_prog 80 = some (1, T_Pr_clear) := rfl
                rw [e2] at hP
                cases hP
                exact am_bz (n := 6) hpc
            · rcases Nat.lt_or_ge md 82 with q82 | q82
              · have e : md = 81 := by omega
                subst e
                have e2 : am_prog 81 = some (2, T_Pr_putMapping) := rfl
                rw [e2] at hP
                cases hP
                exact am_bz (n := 135) hpc
              · rcases Nat.lt_or_ge md 83 with q83 | q83
                · have e : md = 82 := by omega
                  subst e
                  have e2 : am_prog 82 = some (3, T_Pr_putToken) := rfl
                  rw [e2] at hP
                  cases hP
                  exact am_bz (n := 32) hpc
                · have e : md = 83 := by omega
                  subst e
                  have e2 : am_prog 83 = some (2, T_Pr_putNumberToken) := rfl
                  rw [e2] at hP
                  cases hP
                  exact am_bz (n := 12) hpc
          · rcases Nat.lt_or_ge md 86 with q86 | q86
            · rcases Nat.lt_or_ge md 85 with q85 | q85
              · have e : md = 84 := by omega
                subst e
                have e2 : am_prog 84 = some (2, T_Pr_putPart) := rfl
                rw [e2] at hP
                cases hP
                exact am_bz (n := 43) hpc
              · have e : md = 85 := by omega
                subst e
                have e2 : am_prog 85 = some (4, T_Pr_putTemplate) := rfl
                rw [e2] at hP
                cases hP
                exact am_bz (n := 87) hpc
            · rcases Nat.lt_or_ge md 87 with q87 | q87
              · have e : md = 86 := by omega
                subst e
                have e2 : am_prog 86 = some (2, T_Pr_putCondition) := rfl
                rw [e2] at hP
                cases hP
                exact am_bz (n := 67) hpc
              · rcases Nat.lt_or_ge md 88 with q88 | q88
                · have e : md = 87 := by omega
                  subst e
                  have e2 : am_prog 87 = some (2, T_Ms_init) := rfl
                  rw [e2] at hP
                  cases hP
                  exact am_bz (n := 46) hpc
                · have e : md = 88 := by omega
                  subst e
                  have e2 : am_prog 88 = some (1, T_Ma_init) := rfl
                  rw [e2] at hP
                  cases hP
                  exact am_bz (n := 78) hpc
        · rcases Nat.lt_or_ge md 94 with q94 | q94
          · rcases Nat.lt_or_ge md 91 with q91 | q91
            · rcases Nat.lt_or_ge md 90 with q90 | q90
              · have e : md = 89 := by omega
                subst e
                have e2 : am_prog 89 = some (4, T_Ma_holds) := rfl
                rw [e2] at hP
                cases hP
                exact am_bz (n := 122) hpc
              · have e : md = 90 := by omega
                subst e
                have e2 : am_prog 90 = some (3, T_Ma_namesWantNull) := rfl
                rw [e2] at hP
                cases hP
                exact am_bz (n := 65) hpc
            · rcases Nat.lt_or_ge md 92 with q92 | q92
              · have e : md = 91 := by omega
                subst e
                have e2 : am_prog 91 = some (1, T_Ma_isJoin) := rfl
                rw [e2] at hP
                cases hP
                exact am_bz (n := 14) hpc
              · rcases Nat.lt_or_ge md 93 with q93 | q93
                · have e : md = 92 := by omega
                  subst e
                  have e2 : am_prog 92 = some (5, T_Ma_joins) := rfl
                  rw [e2] at hP
                  cases hP
                  exact am_bz (n := 57) hpc
                · have e : md = 93 := by omega
                  subst e
                  have e2 : am_prog 93 = some (1, T_Ma_clear) := rfl
                  rw [e2] at hP
                  cases hP
                  exact am_bz (n := 16) hpc
          · rcases Nat.lt_or_ge md 96 with q96 | q96
            · rcases Nat.lt_or_ge md 95 with q95 | q95
              · have e : md = 94 := by omega
                subst e
                have e2 : am_prog 94 = some (1, T_Pa_init) := rfl
                rw [e2] at hP
                cases hP
                exact am_bz (n := 28) hpc
              · have e : md = 95 := by omega
                subst e
                have e2 : am_prog 95 = some (5, T_Pa_wantsNull) := rfl
                rw [e2] at hP
                cases hP
                exact am_bz (n := 79) hpc
            · rcases Nat.lt_or_ge md 97 with q97 | q97
              · have e : md = 96 := by omega
                subst e
                have e2 : am_prog 96 = some (1, T_Pa_isColumn) := rfl
                rw [e2] at hP
                cases hP
                exact am_bz (n := 11) hpc
              · rcases Nat.lt_or_ge md 98 with q98 | q98
                · have e : md = 97 := by omega
                  subst e
                  have e2 : am_prog 97 = some (2, T_Pa_addPiece) := rfl
                  rw [e2] at hP
                  cases hP
                  exact am_bz (n := 30) hpc
                · have e : md = 98 := by omega
                  subst e
                  have e2 : am_prog 98 = some (1, T_Mo_init) := rfl
                  rw [e2] at hP
                  cases hP
                  exact am_bz (n := 363) hpc
      · rcases Nat.lt_or_ge md 109 with q109 | q109
        · rcases Nat.lt_or_ge md 104 with q104 | q104
          · rcases Nat.lt_or_ge md 101 with q101 | q101
            · rcases Nat.lt_or_ge md 100 with q100 | q100
              · have e : md = 99 := by omega
                subst e
                have e2 : am_prog 99 = some (2, T_Mo_source) := rfl
                rw [e2] at hP
                cases hP
                exact am_bz (n := 49) hpc
              · have e : md = 100 := by omega
                subst e
                have e2 : am_prog 100 = some (3, T_Mo_in) := rfl
                rw [e2] at hP
                cases hP
                exact am_bz (n := 16) hpc
            · rcases Nat.lt_or_ge md 102 with q102 | q102
              · have e : md = 101 := by omega
                subst e
                have e2 : am_prog 101 = some (10, T_Mo_row) := rfl
                rw [e2] at hP
                cases hP
                exact am_bz (n := 237) hpc
              · rcases Nat.lt_or_ge md 103 with q103 | q103
                · have e : md = 102 := by omega
                  subst e
                  have e2 : am_prog 102 = some (5, T_Mo_give) := rfl
                  rw [e2] at hP
                  cases hP
                  exact am_bz (n := 117) hpc
                · have e : md = 103 := by omega
                  subst e
                  have e2 : am_prog 103 = some (7, T_Mo_makes) := rfl
                  rw [e2] at hP
                  cases hP
                  exact am_bz (n := 262) hpc
          · rcases Nat.lt_or_ge md 106 with q106 | q106
            · rcases Nat.lt_or_ge md 105 with q105 | q105
              · have e : md = 104 := by omega
                subst e
                have e2 : am_prog 104 = some (4, T_Mo_holds) := rfl
                rw [e2] at hP
                cases hP
                exact am_bz (n := 119) hpc
              · have e : md = 105 := by omega
                subst e
                have e2 : am_prog 105 = some (4, T_Mo_cell) := rfl
                rw [e2] at hP
                cases hP
                exact am_bz (n := 16) hpc
            · rcases Nat.lt_or_ge md 107 with q107 | q107
              · have e : md = 106 := by omega
                subst e
                have e2 : am_prog 106 = some (7, T_Mo_badName) := rfl
                rw [e2] at hP
                cases hP
                exact am_bz (n := 135) hpc
              · rcases Nat.lt_or_ge md 108 with q108 | q108
                · have e : md = 107 := by omega
                  subst e
                  have e2 : am_prog 107 = some (10, T_Mo_sizeOf) := rfl
                  rw [e2] at hP
                  cases hP
                  exact am_bz (n := 181) hpc
                · have e : md = 108 := by omega
                  subst e
                  have e2 : am_prog 108 = some (1, T_Mo_digits) := rfl
                  rw [e2] at hP
                  cases hP
                  exact am_bz (n := 33) hpc
        · rcases Nat.lt_or_ge md 114 with q114 | q114
          · rcases Nat.lt_or_ge md 111 with q111 | q111
            · rcases Nat.lt_or_ge md 110 with q110 | q110
              · have e : md = 109 := by omega
                subst e
                have e2 : am_prog 109 = some (11, T_Mo_putTerm) := rfl
                rw [e2] at hP
                cases hP
                exact am_bz (n := 278) hpc
              · have e : md = 110 := by omega
                subst e
                have e2 : am_prog 110 = some (6, T_Mo_putNumber) := rfl
                rw [e2] at hP
                cases hP
                exact am_bz (n := 53) hpc
            · rcases Nat.lt_or_ge md 112 with q112 | q112
              · have e : md = 111 := by omega
                subst e
                have e2 : am_prog 111 = some (5, T_Mo_note) := rfl
                rw [e2] at hP
                cases hP
                exact am_bz (n := 114) hpc
              · rcases Nat.lt_or_ge md 113 with q113 | q113
                · have e : md = 112 := by omega
                  subst e
                  have e2 : am_prog 112 = some (5, T_Mo_find) := rfl
                  rw [e2] at hP
                  cases hP
                  exact am_bz (n := 62) hpc
                · have e : md = 113 := by omega
                  subst e
                  have e2 : am_prog 113 = some (8, T_Mo_compare) := rfl
                  rw [e2] at hP
                  cases hP
                  exact am_bz (n := 172) hpc
          · rcases Nat.lt_or_ge md 116 with q116 | q116
            · rcases Nat.lt_or_ge md 115 with q115 | q115
              · have e : md = 114 := by omega
                subst e
                have e2 : am_prog 114 = some (4, T_Mo_change) := rfl
                rw [e2] at hP
                cases hP
                exact am_bz (n := 53) hpc
              · have e : md = 115 := by omega
                subst e
                have e2 : am_prog 115 = some (3, T_Mo_isRow) := rfl
                rw [e2] at hP
                cases hP
                exact am_bz (n := 36) hpc
            · rcases Nat.lt_or_ge md 117 with q117 | q117
              · have e : md = 116 := by omega
                subst e
                have e2 : am_prog 116 = some (2, T_Mo_keepOld) := rfl
                rw [e2] at hP
                cases hP
                exact am_bz (n := 122) hpc
              · rcases Nat.lt_or_ge md 118 with q118 | q118
                · have e : md = 117 := by omega
                  subst e
                  have e2 : am_prog 117 = some (5, T_Mo_differences) := rfl
                  rw [e2] at hP
                  cases hP
                  exact am_bz (n := 108) hpc
                · have e : md = 118 := by omega
                  subst e
                  have e2 : am_prog 118 = some (8, T_Mo_compareOld) := rfl
                  rw [e2] at hP
                  cases hP
                  exact am_bz (n := 172) hpc
    · rcases Nat.lt_or_ge md 139 with q139 | q139
      · rcases Nat.lt_or_ge md 129 with q129 | q129
        · rcases Nat.lt_or_ge md 124 with q124 | q124
          · rcases Nat.lt_or_ge md 121 with q121 | q121
            · rcases Nat.lt_or_ge md 120 with q120 | q120
              · have e : md = 119 := by omega
                subst e
                have e2 : am_prog 119 = some (5, T_Mo_type) := rfl
                rw [e2] at hP
                cases hP
                exact am_bz (n := 79) hpc
              · have e : md = 120 := by omega
                subst e
                have e2 : am_prog 120 = some (2, T_Mo_read) := rfl
                rw [e2] at hP
                cases hP
                exact am_bz (n := 277) hpc
            · rcases Nat.lt_or_ge md 122 with q122 | q122
              · have e : md = 121 := by omega
                subst e
                have e2 : am_prog 121 = some (3, T_Mo_next) := rfl
                rw [e2] at hP
                cases hP
                exact am_bz (n := 469) hpc
              · rcases Nat.lt_or_ge md 123 with q123 | q123
                · have e : md = 122 := by omega
                  subst e
                  have e2 : am_prog 122 = some (1, T_Mo_isSmall) := rfl
                  rw [e2] at hP
                  cases hP
                  exact am_bz (n := 18) hpc
                · have e : md = 123 := by omega
                  subst e
                  have e2 : am_prog 123 = some (2, T_Mo_charAt) := rfl
                  rw [e2] at hP
                  cases hP
                  exact am_bz (n := 19) hpc
          · rcases Nat.lt_or_ge md 126 with q126 | q126
            · rcases Nat.lt_or_ge md 125 with q125 | q125
              · have e : md = 124 := by omega
                subst e
                have e2 : am_prog 124 = some (8, T_Mo_isAt) := rfl
                rw [e2] at hP
                cases hP
                exact am_bz (n := 96) hpc
              · have e : md = 125 := by omega
                subst e
                have e2 : am_prog 125 = some (1, T_Mo_isDigit) := rfl
                rw [e2] at hP
                cases hP
                exact am_bz (n := 18) hpc
            · rcases Nat.lt_or_ge md 127 with q127 | q127
              · have e : md = 126 := by omega
                subst e
                have e2 : am_prog 126 = some (3, T_Mo_mapping) := rfl
                rw [e2] at hP
                cases hP
                exact am_bz (n := 173) hpc
              · rcases Nat.lt_or_ge md 128 with q128 | q128
                · have e : md = 127 := by omega
                  subst e
                  have e2 : am_prog 127 = some (2, T_Mo_isWord) := rfl
                  rw [e2] at hP
                  cases hP
                  exact am_bz (n := 29) hpc
                · have e : md = 128 := by omega
                  subst e
                  have e2 : am_prog 128 = some (3, T_Mo_fail) := rfl
                  rw [e2] at hP
                  cases hP
                  exact am_bz (n := 31) hpc
        · rcases Nat.lt_or_ge md 134 with q134 | q134
          · rcases Nat.lt_or_ge md 131 with q131 | q131
            · rcases Nat.lt_or_ge md 130 with q130 | q130
              · have e : md = 129 := by omega
                subst e
                have e2 : am_prog 129 = some (3, T_Mo_wantNumber) := rfl
                rw [e2] at hP
                cases hP
                exact am_bz (n := 68) hpc
              · have e : md = 130 := by omega
                subst e
                have e2 : am_prog 130 = some (2, T_Mo_wantSign) := rfl
                rw [e2] at hP
                cases hP
                exact am_bz (n := 36) hpc
            · rcases Nat.lt_or_ge md 132 with q132 | q132
              · have e : md = 131 := by omega
                subst e
                have e2 : am_prog 131 = some (2, T_Mo_isSign) := rfl
                rw [e2] at hP
                cases hP
                exact am_bz (n := 29) hpc
              · rcases Nat.lt_or_ge md 133 with q133 | q133
                · have e : md = 132 := by omega
                  subst e
                  have e2 : am_prog 132 = some (4, T_Mo_readName) := rfl
                  rw [e2] at hP
                  cases hP
                  exact am_bz (n := 80) hpc
                · have e : md = 133 := by omega
                  subst e
                  have e2 : am_prog 133 = some (8, T_Mo_template) := rfl
                  rw [e2] at hP
                  cases hP
                  exact am_bz (n := 238) hpc
          · rcases Nat.lt_or_ge md 136 with q136 | q136
            · rcases Nat.lt_or_ge md 135 with q135 | q135
              · have e : md = 134 := by omega
                subst e
                have e2 : am_prog 134 = some (2, T_Mo_escaped) := rfl
                rw [e2] at hP
                cases hP
                exact am_bz (n := 65) hpc
              · have e : md = 135 := by omega
                subst e
                have e2 : am_prog 135 = some (4, T_Mo_column) := rfl
                rw [e2] at hP
                cases hP
                exact am_bz (n := 134) hpc
            · rcases Nat.lt_or_ge md 137 with q137 | q137
              · have e : md = 136 := by omega
                subst e
                have e2 : am_prog 136 = some (8, T_Mo_object) := rfl
                rw [e2] at hP
                cases hP
                exact am_bz (n := 206) hpc
              · rcases Nat.lt_or_ge md 138 with q138 | q138
                · have e : md = 137 := by omega
                  subst e
                  have e2 : am_prog 137 = some (2, T_Mo_wantWord) := rfl
                  rw [e2] at hP
                  cases hP
                  exact am_bz (n := 36) hpc
                · have e : md = 138 := by omega
                  subst e
                  have e2 : am_prog 138 = some (3, T_Mo_condition) := rfl
                  rw [e2] at hP
                  cases hP
                  exact am_bz (n := 146) hpc
      · rcases Nat.lt_or_ge md 149 with q149 | q149
        · rcases Nat.lt_or_ge md 144 with q144 | q144
          · rcases Nat.lt_or_ge md 141 with q141 | q141
            · rcases Nat.lt_or_ge md 140 with q140 | q140
              · have e : md = 139 := by omega
                subst e
                have e2 : am_prog 139 = some (1, T_Mo_triples) := rfl
                rw [e2] at hP
                cases hP
                exact am_bz (n := 5) hpc
              · have e : md = 140 := by omega
                subst e
                have e2 : am_prog 140 = some (4, T_Mo_triple) := rfl
                rw [e2] at hP
                cases hP
                exact am_bz (n := 125) hpc
            · rcases Nat.lt_or_ge md 142 with q142 | q142
              · have e : md = 141 := by omega
                subst e
                have e2 : am_prog 141 = some (4, T_Mo_byteOf) := rfl
                rw [e2] at hP
                cases hP
                exact am_bz (n := 72) hpc
              · rcases Nat.lt_or_ge md 143 with q143 | q143
                · have e : md = 142 := by omega
                  subst e
                  have e2 : am_prog 142 = some (4, T_Mo_which) := rfl
                  rw [e2] at hP
                  cases hP
                  exact am_bz (n := 88) hpc
                · have e : md = 143 := by omega
                  subst e
                  have e2 : am_prog 143 = some (4, T_Mo_bads) := rfl
                  rw [e2] at hP
                  cases hP
                  exact am_bz (n := 61) hpc
          · rcases Nat.lt_or_ge md 146 with q146 | q146
            · rcases Nat.lt_or_ge md 145 with q145 | q145
              · have e : md = 144 := by omega
                subst e
                have e2 : am_prog 144 = some (7, T_Mo_bad) := rfl
                rw [e2] at hP
                cases hP
                exact am_bz (n := 116) hpc
              · have e : md = 145 := by omega
                subst e
                have e2 : am_prog 145 = some (3, T_Mo_print) := rfl
                rw [e2] at hP
                cases hP
                exact am_bz (n := 188) hpc
            · rcases Nat.lt_or_ge md 147 with q147 | q147
              · have e : md = 146 := by omega
                subst e
                have e2 : am_prog 146 = some (5, T_Mo_sayWord) := rfl
                rw [e2] at hP
                cases hP
                exact am_bz (n := 37) hpc
              · rcases Nat.lt_or_ge md 148 with q148 | q148
                · have e : md = 147 := by omega
                  subst e
                  have e2 : am_prog 147 = some (2, T_Mo_say) := rfl
                  rw [e2] at hP
                  cases hP
                  exact am_bz (n := 22) hpc
                · have e : md = 148 := by omega
                  subst e
                  have e2 : am_prog 148 = some (2, T_Mo_sayNumber) := rfl
                  rw [e2] at hP
                  cases hP
                  exact am_bz (n := 12) hpc
        · rcases Nat.lt_or_ge md 154 with q154 | q154
          · rcases Nat.lt_or_ge md 151 with q151 | q151
            · rcases Nat.lt_or_ge md 150 with q150 | q150
              · have e : md = 149 := by omega
                subst e
                have e2 : am_prog 149 = some (3, T_Mo_sayDigits) := rfl
                rw [e2] at hP
                cases hP
                exact am_bz (n := 63) hpc
              · have e : md = 150 := by omega
                subst e
                have e2 : am_prog 150 = some (4, T_Mo_sayName) := rfl
                rw [e2] at hP
                cases hP
                exact am_bz (n := 156) hpc
            · rcases Nat.lt_or_ge md 152 with q152 | q152
              · have e : md = 151 := by omega
                subst e
                have e2 : am_prog 151 = some (2, T_Mo_sayCondition) := rfl
                rw [e2] at hP
                cases hP
                exact am_bz (n := 95) hpc
              · rcases Nat.lt_or_ge md 153 with q153 | q153
                · have e : md = 152 := by omega
                  subst e
                  have e2 : am_prog 152 = some (2, T_Mo_at) := rfl
                  rw [e2] at hP
                  cases hP
                  exact am_bz (n := 25) hpc
                · have e : md = 153 := by omega
                  subst e
                  have e2 : am_prog 153 = some (1, T_Si_init) := rfl
                  rw [e2] at hP
                  cases hP
                  exact am_bz (n := 5) hpc
          · rcases Nat.lt_or_ge md 156 with q156 | q156
            · rcases Nat.lt_or_ge md 155 with q155 | q155
              · have e : md = 154 := by omega
                subst e
                have e2 : am_prog 154 = some (2, T_Si_putNumber) := rfl
                rw [e2] at hP
                cases hP
                exact am_bz (n := 74) hpc
              · have e : md = 155 := by omega
                subst e
                have e2 : am_prog 155 = some (4, T_Law_law) := rfl
                rw [e2] at hP
                cases hP
                exact am_bz (n := 543) hpc
            · rcases Nat.lt_or_ge md 157 with q157 | q157
              · have e : md = 156 := by omega
                subst e
                have e2 : am_prog 156 = some (4, T_Arr_fill) := rfl
                rw [e2] at hP
                cases hP
                exact am_bz (n := 21) hpc
              · rcases Nat.lt_or_ge md 158 with q158 | q158
                · have e : md = 157 := by omega
                  subst e
                  have e2 : am_prog 157 = some (4, T_Lng_compare) := rfl
                  rw [e2] at hP
                  cases hP
                  exact am_bz (n := 22) hpc
                · have e : md = 158 := by omega
                  subst e
                  have e2 : am_prog 158 = some (2, T_Itg_compare) := rfl
                  rw [e2] at hP
                  cases hP
                  exact am_bz (n := 20) hpc
