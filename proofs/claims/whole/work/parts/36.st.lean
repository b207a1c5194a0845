-- printed by wip/gen/st.py: the heap behind both constructors as a fixed layout
def st_lk : List (Nat × Nat × Nat) → Nat → Nat → Nat
  | [], _, _ => 0
  | (f, x, v) :: r, j, b => cond (Nat.beq j f) (cond (Nat.beq b x) v (st_lk r j b)) (st_lk r j b)
def st_lr : List (Nat × Int × Nat) → Nat → Int → Nat
  | [] => fun _ _ => 0
  | (x, i, v) :: r => am_u2 (st_lr r) x i v
def st_c (L : Nat) : List (Nat × Nat) → Nat → Nat × Nat
  | [], b => if b = 1 then (1000, L) else (0, 0)
  | p :: r, b => if b = 16 + r.length then p else st_c L r b
def st_ai (xs : Nat → Int32) : Nat → Int → Int := fun r j => if r = 1 then (xs j.toNat).toInt else 0
/-- the int fields that begin with -1 -/
def st_z (j : Nat) : Bool := Nat.beq j 17 || Nat.beq j 43 || Nat.beq j 46 || Nat.beq j 49
def St (L : Nat) (xs : Nat → Int32) (h : am_H) (k sl : Nat) (lc : List (Nat × Nat)) (lf : List (Nat × Nat × Nat)) (lr : List (Nat × Int × Nat)) : Prop := am_n h = k ∧ am_sl h = sl ∧ am_c h = st_c L lc ∧ am_fj h = (fun _ _ => 0) ∧ am_fr h = st_lk lf ∧ am_ai h = st_ai xs ∧ am_aj h = (fun _ _ => 0) ∧ am_ar h = st_lr lr ∧ (∀ j b, st_z j = false → am_fi h j b = 0) ∧ 16 + lc.length = k ∧ (∀ q ∈ lf, q.2.1 < k) ∧ (∀ q ∈ lr, q.1 < k)
theorem st_lk_n {k : Nat} : ∀ (l : List (Nat × Nat × Nat)) (j : Nat), (∀ q ∈ l, q.2.1 < k) → st_lk l j k = 0
  | [], _, _ => rfl
  | (f, x, v) :: r, j, h => by
    have h1 : x < k := h (f, x, v) List.mem_cons_self
    have h2 : st_lk r j k = 0 := st_lk_n r j (fun q hq => h q (List.mem_cons_of_mem _ hq))
    have h3 : Nat.beq k x = false := by
      cases hb : Nat.beq k x
      · rfl
      · have := Nat.eq_of_beq_eq_true hb
        omega
    show cond (Nat.beq j f) (cond (Nat.beq k x) v (st_lk r j k)) (st_lk r j k) = 0
    rw [h3, h2]
    cases Nat.beq j f <;> rfl
theorem st_lr_n {k : Nat} : ∀ (l : List (Nat × Int × Nat)) (i : Int), (∀ q ∈ l, q.1 < k) → st_lr l k i = 0
  | [], _, _ => rfl
  | (x, i0, v) :: r, i, h => by
    have h1 : x < k := h (x, i0, v) List.mem_cons_self
    have h2 : st_lr r k i = 0 := st_lr_n r i (fun q hq => h q (List.mem_cons_of_mem _ hq))
    show (if k = x then (if i = i0 then v else st_lr r k i) else st_lr r k i) = 0
    rw [if_neg (by omega), h2]
theorem St_0 (L : Nat) (xs : Nat → Int32) : St L xs (am_h0 L xs) 16 0 [] [] [] := ⟨rfl, rfl, rfl, rfl, rfl, rfl, rfl, rfl, fun _ _ _ => rfl, rfl, (fun _ h => by cases h), (fun _ h => by cases h)⟩
theorem St_o {L : Nat} {xs : Nat → Int32} {h : am_H} {k sl c N : Nat} {lc : List (Nat × Nat)} {lf : List (Nat × Nat × Nat)} {lr : List (Nat × Int × Nat)} (s : St L xs h k sl lc lf lr) : St L xs (am_nwo h c N) (k + 1) (sl + N) ((c, 0) :: lc) lf lr := by
  obtain ⟨s1, s2, s3, s4, s5, s6, s7, s8, s9, s10, s11, s12⟩ := s
  refine ⟨by show am_n h + 1 = _; rw [s1], by show am_sl h + N = _; rw [s2], ?_, ?_, ?_, s6, s7, s8, ?_, ?_, ?_, ?_⟩
  · show (fun b => if b = am_n h then (c, 0) else am_c h b) = _
    rw [s1, s3, ← s10]
    rfl
  · show (fun j b => if b = am_n h then 0 else am_fj h j b) = _
    funext j b
    rw [s4]
    split <;> rfl
  · show (fun j b => if b = am_n h then 0 else am_fr h j b) = _
    funext j b
    rw [s1, s5]
    split
    · next hb => rw [hb, st_lk_n lf j s11]
    · rfl
  · intro j b hz
    show (if b = am_n h then 0 else am_fi h j b) = 0
    split
    · rfl
    · exact s9 j b hz
  · show 16 + (lc.length + 1) = k + 1
    omega
  · exact fun q hq => Nat.lt_succ_of_lt (s11 q hq)
  · exact fun q hq => Nat.lt_succ_of_lt (s12 q hq)
theorem St_a {L : Nat} {xs : Nat → Int32} {h : am_H} {k sl c N : Nat} {lc : List (Nat × Nat)} {lf : List (Nat × Nat × Nat)} {lr : List (Nat × Int × Nat)} (s : St L xs h k sl lc lf lr) : St L xs (am_nwa h c N) (k + 1) (sl + N) ((c, N) :: lc) lf lr := by
  obtain ⟨s1, s2, s3, s4, s5, s6, s7, s8, s9, s10, s11, s12⟩ := s
  refine ⟨by show am_n h + 1 = _; rw [s1], by show am_sl h + N = _; rw [s2], ?_, s4, s5, ?_, ?_, ?_, s9, ?_, ?_, ?_⟩
  · show (fun b => if b = am_n h then (c, N) else am_c h b) = _
    rw [s1, s3, ← s10]
    rfl
  · show (fun b j => if b = am_n h then 0 else am_ai h b j) = _
    funext b j
    rw [s6]
    split
    · next hb => rw [hb, s1, st_ai, if_neg (by omega)]
    · rfl
  · show (fun b j => if b = am_n h then 0 else am_aj h b j) = _
    funext b j
    rw [s7]
    split <;> rfl
  · show (fun b j => if b = am_n h then 0 else am_ar h b j) = _
    funext b j
    rw [s1, s8]
    split
    · next hb => rw [hb, st_lr_n lr j s12]
    · rfl
  · show 16 + (lc.length + 1) = k + 1
    omega
  · exact fun q hq => Nat.lt_succ_of_lt (s11 q hq)
  · exact fun q hq => Nat.lt_succ_of_lt (s12 q hq)
theorem St_r {L : Nat} {xs : Nat → Int32} {h : am_H} {k sl f a v v' : Nat} {lc : List (Nat × Nat)} {lf : List (Nat × Nat × Nat)} {lr : List (Nat × Int × Nat)} (ha : a < k) (hv : v = v') (s : St L xs h k sl lc lf lr) : St L xs (am_ufr h f a v) k sl lc ((f, a, v') :: lf) lr := by
  subst hv
  obtain ⟨s1, s2, s3, s4, s5, s6, s7, s8, s9, s10, s11, s12⟩ := s
  refine ⟨s1, s2, s3, s4, ?_, s6, s7, s8, s9, s10, ?_, s12⟩
  · show am_u2 (am_fr h) f a v = _
    funext j b
    rw [s5]
    show (if j = f then (if b = a then v else st_lk lf j b) else st_lk lf j b) = cond (Nat.beq j f) (cond (Nat.beq b a) v (st_lk lf j b)) (st_lk lf j b)
    have e1 : ∀ x y : Nat, Nat.beq x y = decide (x = y) := fun x y => by
      by_cases q : x = y
      · rw [q, Nat.beq_refl, decide_eq_true rfl]
      · rw [decide_eq_false q]
        cases hb : Nat.beq x y
        · rfl
        · exact absurd (Nat.eq_of_beq_eq_true hb) q
    rw [e1, e1]
    by_cases q1 : j = f
    · by_cases q2 : b = a
      · simp [q1, q2]
      · simp [q1, q2]
    · simp [q1]
  · intro q hq
    rcases List.mem_cons.mp hq with rfl | hq
    · exact ha
    · exact s11 q hq
theorem St_i {L : Nat} {xs : Nat → Int32} {h : am_H} {k sl f a : Nat} {v : Int} {lc : List (Nat × Nat)} {lf : List (Nat × Nat × Nat)} {lr : List (Nat × Int × Nat)} (hv : st_z f = false → v = 0) (s : St L xs h k sl lc lf lr) : St L xs (am_ufi h f a v) k sl lc lf lr := by
  obtain ⟨s1, s2, s3, s4, s5, s6, s7, s8, s9, s10, s11, s12⟩ := s
  refine ⟨s1, s2, s3, s4, s5, s6, s7, s8, ?_, s10, s11, s12⟩
  intro j b hz
  show (if j = f then (if b = a then v else am_fi h j b) else am_fi h j b) = 0
  split
  · next q =>
    split
    · exact hv (q ▸ hz)
    · exact s9 j b hz
  · exact s9 j b hz
theorem St_q {L : Nat} {xs : Nat → Int32} {h : am_H} {k sl a v : Nat} {i : Int} {lc : List (Nat × Nat)} {lf : List (Nat × Nat × Nat)} {lr : List (Nat × Int × Nat)} (ha : a < k) (s : St L xs h k sl lc lf lr) : St L xs (am_uar h a i v) k sl lc lf ((a, i, v) :: lr) := by
  obtain ⟨s1, s2, s3, s4, s5, s6, s7, s8, s9, s10, s11, s12⟩ := s
  refine ⟨s1, s2, s3, s4, s5, s6, s7, ?_, s9, s10, s11, ?_⟩
  · show am_u2 (am_ar h) a i v = am_u2 (st_lr lr) a i v
    rw [s8]
  · intro q hq
    rcases List.mem_cons.mp hq with rfl | hq
    · exact ha
    · exact s12 q hq
theorem St_So {L : Nat} {xs : Nat → Int32} {h : am_H} {k sl a a' : Nat} {lc : List (Nat × Nat)} {lf : List (Nat × Nat × Nat)} {lr : List (Nat × Int × Nat)} (ea : a = a') (ha : a' < k) (s : St L xs h k sl lc lf lr) : St L xs (So_mk h a) (k + 4) (sl + 4 + 4 + 64 + 256) ((1000, 256) :: (1002, 64) :: (1000, 4) :: (1000, 4) :: lc) ((9, a', k + 3) :: (8, a', k + 2) :: (7, a', k + 1) :: (6, a', k + 0) :: lf) lr := by
  subst ea
  have q1 := St_a (c := 1000) (N := 4) s
  have q2 := St_r (f := 6) (a := a) (by omega) s.1 q1
  have q3 := St_a (c := 1000) (N := 4) q2
  have q4 := St_r (f := 7) (a := a) (by omega) q2.1 q3
  have q5 := St_a (c := 1002) (N := 64) q4
  have q6 := St_r (f := 8) (a := a) (by omega) q4.1 q5
  have q7 := St_a (c := 1000) (N := 256) q6
  have q8 := St_r (f := 9) (a := a) (by omega) q6.1 q7
  have q9 := St_i (f := 10) (a := a) (v := 0) (by decide) q8
  exact q9
theorem St_To {L : Nat} {xs : Nat → Int32} {h : am_H} {k sl a a' : Nat} {lc : List (Nat × Nat)} {lf : List (Nat × Nat × Nat)} {lr : List (Nat × Int × Nat)} (ea : a = a') (ha : a' < k) (s : St L xs h k sl lc lf lr) : St L xs (To_mk h a) (k + 1) (sl + 500) ((1000, 500) :: lc) ((13, a', k + 0) :: lf) lr := by
  subst ea
  have q1 := St_a (c := 1000) (N := 500) s
  have q2 := St_r (f := 13) (a := a) (by omega) s.1 q1
  have q3 := St_i (f := 14) (a := a) (v := 0) (by decide) q2
  have q4 := St_i (f := 15) (a := a) (v := 0) (by decide) q3
  have q5 := St_i (f := 16) (a := a) (v := 0) (by decide) q4
  have q6 := St_i (f := 17) (a := a) (v := (-1)) (by decide) q5
  have q7 := St_i (f := 18) (a := a) (v := 0) (by decide) q6
  exact q7
theorem St_Re {L : Nat} {xs : Nat → Int32} {h : am_H} {k sl a a' : Nat} {lc : List (Nat × Nat)} {lf : List (Nat × Nat × Nat)} {lr : List (Nat × Int × Nat)} (ea : a = a') (ha : a' < k) (s : St L xs h k sl lc lf lr) : St L xs (Re_mk h a) (k + 2) (sl + 6 + 500) ((1000, 500) :: (3, 0) :: lc) ((11, a', k + 0) :: (13, k + 0, k + 1) :: lf) lr := by
  subst ea
  have q1 := St_o (c := 3) (N := 6) s
  have q2 := St_To s.1 (by omega) q1
  have q3 := St_r (f := 11) (a := a) (by omega) s.1 q2
  have q4 := St_i (f := 12) (a := a) (v := 0) (by decide) q3
  exact q4
theorem St_Te {L : Nat} {xs : Nat → Int32} {h : am_H} {k sl a a' : Nat} {lc : List (Nat × Nat)} {lf : List (Nat × Nat × Nat)} {lr : List (Nat × Int × Nat)} (ea : a = a') (ha : a' < k) (s : St L xs h k sl lc lf lr) : St L xs (Te_mk h a) (k + 1) (sl + 867) ((1001, 867) :: lc) ((32, a', k + 0) :: lf) lr := by
  subst ea
  have q1 := St_a (c := 1001) (N := 867) s
  have q2 := St_r (f := 32) (a := a) (by omega) s.1 q1
  have q3 := St_i (f := 33) (a := a) (v := 0) (by decide) q2
  have q4 := St_i (f := 34) (a := a) (v := 0) (by decide) q3
  exact q4
theorem St_Gi {L : Nat} {xs : Nat → Int32} {h : am_H} {k sl a a' : Nat} {lc : List (Nat × Nat)} {lf : List (Nat × Nat × Nat)} {lr : List (Nat × Int × Nat)} (ea : a = a') (ha : a' < k) (s : St L xs h k sl lc lf lr) : St L xs (Gi_mk h a) (k + 10) (sl + 3 + 867 + 1536 + 6 + 1536 + 1536 + 1537 + 1536 + 96 + 96) ((1000, 96) :: (1000, 96) :: (1000, 1536) :: (1000, 1537) :: (1000, 1536) :: (1000, 1536) :: (1000, 6) :: (1001, 1536) :: (1001, 867) :: (5, 0) :: lc) ((29, a', k + 9) :: (28, a', k + 8) :: (26, a', k + 7) :: (25, a', k + 6) :: (23, a', k + 5) :: (22, a', k + 4) :: (21, a', k + 3) :: (20, a', k + 2) :: (19, a', k + 0) :: (32, k + 0, k + 1) :: lf) lr := by
  subst ea
  have q1 := St_o (c := 5) (N := 3) s
  have q2 := St_Te s.1 (by omega) q1
  have q3 := St_r (f := 19) (a := a) (by omega) s.1 q2
  have q4 := St_a (c := 1001) (N := 1536) q3
  have q5 := St_r (f := 20) (a := a) (by omega) q3.1 q4
  have q6 := St_a (c := 1000) (N := 6) q5
  have q7 := St_r (f := 21) (a := a) (by omega) q5.1 q6
  have q8 := St_a (c := 1000) (N := 1536) q7
  have q9 := St_r (f := 22) (a := a) (by omega) q7.1 q8
  have q10 := St_a (c := 1000) (N := 1536) q9
  have q11 := St_r (f := 23) (a := a) (by omega) q9.1 q10
  have q12 := St_i (f := 24) (a := a) (v := 0) (by decide) q11
  have q13 := St_a (c := 1000) (N := 1537) q12
  have q14 := St_r (f := 25) (a := a) (by omega) q12.1 q13
  have q15 := St_a (c := 1000) (N := 1536) q14
  have q16 := St_r (f := 26) (a := a) (by omega) q14.1 q15
  have q17 := St_i (f := 27) (a := a) (v := 0) (by decide) q16
  have q18 := St_a (c := 1000) (N := 96) q17
  have q19 := St_r (f := 28) (a := a) (by omega) q17.1 q18
  have q20 := St_a (c := 1000) (N := 96) q19
  have q21 := St_r (f := 29) (a := a) (by omega) q19.1 q20
  have q22 := St_i (f := 30) (a := a) (v := 0) (by decide) q21
  have q23 := St_i (f := 31) (a := a) (v := 0) (by decide) q22
  exact q23
theorem St_Pr {L : Nat} {xs : Nat → Int32} {h : am_H} {k sl a a' : Nat} {lc : List (Nat × Nat)} {lf : List (Nat × Nat × Nat)} {lr : List (Nat × Int × Nat)} (ea : a = a') (ha : a' < k) (s : St L xs h k sl lc lf lr) : St L xs (Pr_mk h a) (k + 1) (sl + 626) ((1000, 626) :: lc) ((35, a', k + 0) :: lf) lr := by
  subst ea
  have q1 := St_a (c := 1000) (N := 626) s
  have q2 := St_r (f := 35) (a := a) (by omega) s.1 q1
  have q3 := St_i (f := 36) (a := a) (v := 0) (by decide) q2
  exact q3
theorem St_Pa {L : Nat} {xs : Nat → Int32} {h : am_H} {k sl a a' : Nat} {lc : List (Nat × Nat)} {lf : List (Nat × Nat × Nat)} {lr : List (Nat × Int × Nat)} (ea : a = a') (ha : a' < k) (s : St L xs h k sl lc lf lr) : St L xs (Pa_mk h a) (k + 1) (sl + 30) ((1000, 30) :: lc) ((52, a', k + 0) :: lf) lr := by
  subst ea
  have q1 := St_i (f := 50) (a := a) (v := 0) (by decide) s
  have q2 := St_i (f := 51) (a := a) (v := 0) (by decide) q1
  have q3 := St_a (c := 1000) (N := 30) q2
  have q4 := St_r (f := 52) (a := a) (by omega) q2.1 q3
  have q5 := St_i (f := 53) (a := a) (v := 0) (by decide) q4
  exact q5
theorem St_Ma {L : Nat} {xs : Nat → Int32} {h : am_H} {k sl a a' : Nat} {lc : List (Nat × Nat)} {lf : List (Nat × Nat × Nat)} {lr : List (Nat × Int × Nat)} (ea : a = a') (ha : a' < k) (s : St L xs h k sl lc lf lr) : St L xs (Ma_mk h a) (k + 6) (sl + 4 + 30 + 4 + 30 + 4 + 30) ((1000, 30) :: (9, 0) :: (1000, 30) :: (9, 0) :: (1000, 30) :: (9, 0) :: lc) ((42, a', k + 4) :: (52, k + 4, k + 5) :: (41, a', k + 2) :: (52, k + 2, k + 3) :: (40, a', k + 0) :: (52, k + 0, k + 1) :: lf) lr := by
  subst ea
  have q1 := St_i (f := 39) (a := a) (v := 0) (by decide) s
  have q2 := St_o (c := 9) (N := 4) q1
  have q3 := St_Pa q1.1 (by omega) q2
  have q4 := St_r (f := 40) (a := a) (by omega) q1.1 q3
  have q5 := St_o (c := 9) (N := 4) q4
  have q6 := St_Pa q4.1 (by omega) q5
  have q7 := St_r (f := 41) (a := a) (by omega) q4.1 q6
  have q8 := St_o (c := 9) (N := 4) q7
  have q9 := St_Pa q7.1 (by omega) q8
  have q10 := St_r (f := 42) (a := a) (by omega) q7.1 q9
  have q11 := St_i (f := 43) (a := a) (v := (-1)) (by decide) q10
  have q12 := St_i (f := 44) (a := a) (v := 0) (by decide) q11
  have q13 := St_i (f := 45) (a := a) (v := 0) (by decide) q12
  have q14 := St_i (f := 46) (a := a) (v := (-1)) (by decide) q13
  have q15 := St_i (f := 47) (a := a) (v := 0) (by decide) q14
  have q16 := St_i (f := 48) (a := a) (v := 0) (by decide) q15
  have q17 := St_i (f := 49) (a := a) (v := (-1)) (by decide) q16
  exact q17
theorem St_Mo {L : Nat} {xs : Nat → Int32} {h : am_H} {k sl a a' : Nat} {lc : List (Nat × Nat)} {lf : List (Nat × Nat × Nat)} {lr : List (Nat × Int × Nat)} (ea : a = a') (ha : a' < k) (s : St L xs h k sl lc lf lr) : St L xs (Mo_mk h a) (k + 43) (sl + 4 + 4 + 256 + 64 + 500 + 6 + 18 + 18 + 18 + 540 + 6 + 6 + 6 + 6 + 6 + 6 + 6 + 6 + 18 + 18 + 18 + 540 + 6 + 6 + 6 + 6 + 6 + 6 + 6 + 96000 + 4800 + 4800 + 1600 + 1600 + 1600 + 1600 + 1600 + 96000 + 4800 + 4800 + 1600 + 1600 + 6000) ((1003, 6000) :: (1000, 1600) :: (1000, 1600) :: (1000, 4800) :: (1000, 4800) :: (1003, 96000) :: (1000, 1600) :: (1000, 1600) :: (1000, 1600) :: (1000, 1600) :: (1000, 1600) :: (1000, 4800) :: (1000, 4800) :: (1003, 96000) :: (1000, 6) :: (1000, 6) :: (1000, 6) :: (1000, 6) :: (1000, 6) :: (1000, 6) :: (1000, 6) :: (1000, 540) :: (1000, 18) :: (1000, 18) :: (1000, 18) :: (1000, 6) :: (1000, 6) :: (1000, 6) :: (1000, 6) :: (1000, 6) :: (1000, 6) :: (1000, 6) :: (1000, 6) :: (1000, 540) :: (1000, 18) :: (1000, 18) :: (1000, 18) :: (1000, 6) :: (1000, 500) :: (1002, 64) :: (1000, 256) :: (1000, 4) :: (1000, 4) :: lc) ((110, a', k + 42) :: (108, a', k + 41) :: (107, a', k + 40) :: (106, a', k + 39) :: (105, a', k + 38) :: (104, a', k + 37) :: (102, a', k + 36) :: (101, a', k + 35) :: (100, a', k + 34) :: (99, a', k + 33) :: (98, a', k + 32) :: (97, a', k + 31) :: (96, a', k + 30) :: (95, a', k + 29) :: (86, a', k + 28) :: (85, a', k + 27) :: (84, a', k + 26) :: (83, a', k + 25) :: (82, a', k + 24) :: (81, a', k + 23) :: (80, a', k + 22) :: (79, a', k + 21) :: (78, a', k + 20) :: (77, a', k + 19) :: (76, a', k + 18) :: (75, a', k + 17) :: (73, a', k + 16) :: (72, a', k + 15) :: (71, a', k + 14) :: (70, a', k + 13) :: (69, a', k + 12) :: (68, a', k + 11) :: (67, a', k + 10) :: (66, a', k + 9) :: (65, a', k + 8) :: (64, a', k + 7) :: (63, a', k + 6) :: (62, a', k + 5) :: (59, a', k + 4) :: (58, a', k + 3) :: (57, a', k + 2) :: (56, a', k + 1) :: (55, a', k + 0) :: lf) lr := by
  subst ea
  have q1 := St_a (c := 1000) (N := 4) s
  have q2 := St_r (f := 55) (a := a) (by omega) s.1 q1
  have q3 := St_a (c := 1000) (N := 4) q2
  have q4 := St_r (f := 56) (a := a) (by omega) q2.1 q3
  have q5 := St_a (c := 1000) (N := 256) q4
  have q6 := St_r (f := 57) (a := a) (by omega) q4.1 q5
  have q7 := St_a (c := 1002) (N := 64) q6
  have q8 := St_r (f := 58) (a := a) (by omega) q6.1 q7
  have q9 := St_a (c := 1000) (N := 500) q8
  have q10 := St_r (f := 59) (a := a) (by omega) q8.1 q9
  have q11 := St_a (c := 1000) (N := 6) q10
  have q12 := St_r (f := 62) (a := a) (by omega) q10.1 q11
  have q13 := St_a (c := 1000) (N := 18) q12
  have q14 := St_r (f := 63) (a := a) (by omega) q12.1 q13
  have q15 := St_a (c := 1000) (N := 18) q14
  have q16 := St_r (f := 64) (a := a) (by omega) q14.1 q15
  have q17 := St_a (c := 1000) (N := 18) q16
  have q18 := St_r (f := 65) (a := a) (by omega) q16.1 q17
  have q19 := St_a (c := 1000) (N := 540) q18
  have q20 := St_r (f := 66) (a := a) (by omega) q18.1 q19
  have q21 := St_a (c := 1000) (N := 6) q20
  have q22 := St_r (f := 67) (a := a) (by omega) q20.1 q21
  have q23 := St_a (c := 1000) (N := 6) q22
  have q24 := St_r (f := 68) (a := a) (by omega) q22.1 q23
  have q25 := St_a (c := 1000) (N := 6) q24
  have q26 := St_r (f := 69) (a := a) (by omega) q24.1 q25
  have q27 := St_a (c := 1000) (N := 6) q26
  have q28 := St_r (f := 70) (a := a) (by omega) q26.1 q27
  have q29 := St_a (c := 1000) (N := 6) q28
  have q30 := St_r (f := 71) (a := a) (by omega) q28.1 q29
  have q31 := St_a (c := 1000) (N := 6) q30
  have q32 := St_r (f := 72) (a := a) (by omega) q30.1 q31
  have q33 := St_a (c := 1000) (N := 6) q32
  have q34 := St_r (f := 73) (a := a) (by omega) q32.1 q33
  have q35 := St_a (c := 1000) (N := 6) q34
  have q36 := St_r (f := 75) (a := a) (by omega) q34.1 q35
  have q37 := St_a (c := 1000) (N := 18) q36
  have q38 := St_r (f := 76) (a := a) (by omega) q36.1 q37
  have q39 := St_a (c := 1000) (N := 18) q38
  have q40 := St_r (f := 77) (a := a) (by omega) q38.1 q39
  have q41 := St_a (c := 1000) (N := 18) q40
  have q42 := St_r (f := 78) (a := a) (by omega) q40.1 q41
  have q43 := St_a (c := 1000) (N := 540) q42
  have q44 := St_r (f := 79) (a := a) (by omega) q42.1 q43
  have q45 := St_a (c := 1000) (N := 6) q44
  have q46 := St_r (f := 80) (a := a) (by omega) q44.1 q45
  have q47 := St_a (c := 1000) (N := 6) q46
  have q48 := St_r (f := 81) (a := a) (by omega) q46.1 q47
  have q49 := St_a (c := 1000) (N := 6) q48
  have q50 := St_r (f := 82) (a := a) (by omega) q48.1 q49
  have q51 := St_a (c := 1000) (N := 6) q50
  have q52 := St_r (f := 83) (a := a) (by omega) q50.1 q51
  have q53 := St_a (c := 1000) (N := 6) q52
  have q54 := St_r (f := 84) (a := a) (by omega) q52.1 q53
  have q55 := St_a (c := 1000) (N := 6) q54
  have q56 := St_r (f := 85) (a := a) (by omega) q54.1 q55
  have q57 := St_a (c := 1000) (N := 6) q56
  have q58 := St_r (f := 86) (a := a) (by omega) q56.1 q57
  have q59 := St_a (c := 1003) (N := 96000) q58
  have q60 := St_r (f := 95) (a := a) (by omega) q58.1 q59
  have q61 := St_a (c := 1000) (N := 4800) q60
  have q62 := St_r (f := 96) (a := a) (by omega) q60.1 q61
  have q63 := St_a (c := 1000) (N := 4800) q62
  have q64 := St_r (f := 97) (a := a) (by omega) q62.1 q63
  have q65 := St_a (c := 1000) (N := 1600) q64
  have q66 := St_r (f := 98) (a := a) (by omega) q64.1 q65
  have q67 := St_a (c := 1000) (N := 1600) q66
  have q68 := St_r (f := 99) (a := a) (by omega) q66.1 q67
  have q69 := St_a (c := 1000) (N := 1600) q68
  have q70 := St_r (f := 100) (a := a) (by omega) q68.1 q69
  have q71 := St_a (c := 1000) (N := 1600) q70
  have q72 := St_r (f := 101) (a := a) (by omega) q70.1 q71
  have q73 := St_a (c := 1000) (N := 1600) q72
  have q74 := St_r (f := 102) (a := a) (by omega) q72.1 q73
  have q75 := St_a (c := 1003) (N := 96000) q74
  have q76 := St_r (f := 104) (a := a) (by omega) q74.1 q75
  have q77 := St_a (c := 1000) (N := 4800) q76
  have q78 := St_r (f := 105) (a := a) (by omega) q76.1 q77
  have q79 := St_a (c := 1000) (N := 4800) q78
  have q80 := St_r (f := 106) (a := a) (by omega) q78.1 q79
  have q81 := St_a (c := 1000) (N := 1600) q80
  have q82 := St_r (f := 107) (a := a) (by omega) q80.1 q81
  have q83 := St_a (c := 1000) (N := 1600) q82
  have q84 := St_r (f := 108) (a := a) (by omega) q82.1 q83
  have q85 := St_a (c := 1003) (N := 6000) q84
  have q86 := St_r (f := 110) (a := a) (by omega) q84.1 q85
  exact q86
