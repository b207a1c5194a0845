-- pairs of calls: print, type, source, row
theorem byt_l {l : List Int} (h : l.all (fun b => decide (0 ≤ b ∧ b < 128)) = true) : byt l := fun b hb => of_decide_eq_true (List.all_eq_true.mp h b hb)
theorem byt_o {b : Int} (h : 0 ≤ b ∧ b < 128) : byt [b] := fun c hc => by
  rw [List.mem_singleton.mp hc]
  exact h
theorem byt_n : byt [] := fun c hc => by cases hc
theorem byt_d (v : Int) : byt (dgs v) := by
  unfold dgs
  refine byt_app ?_ (byt_app ?_ (byt_app ?_ (byt_o (by omega))))
  · split
    · exact byt_o (by omega)
    · exact byt_n
  · split
    · exact byt_o (by omega)
    · exact byt_n
  · split
    · exact byt_o (by omega)
    · exact byt_n
theorem byt_C {p : Int} (h : okC 4 p) : byt (prC p) := by
  unfold prC
  split
  · exact byt_app (byt_l rfl) (byt_app (byt_d p) (byt_l rfl))
  · next q =>
    have hp : 0 ≤ p ∧ p < 128 := by
      rcases h with h | h <;> omega
    split
    · intro c hc
      rcases List.mem_cons.mp hc with e | e
      · rw [e]
        omega
      · rw [List.mem_singleton.mp e]
        exact hp
    · exact byt_o hp
theorem byt_L : ∀ (l : List Int), (∀ p ∈ l, okC 4 p) → byt (prL l)
  | [], _ => byt_n
  | p :: r, h => byt_app (byt_C (h p (List.mem_cons_self ..))) (byt_L r (fun q hq => h q (List.mem_cons_of_mem _ hq)))
theorem byt_P {x : PT} (h : ptP x) : byt (prP x) := by
  unfold prP
  split
  · next q => exact byt_app (byt_l rfl) (byt_app (byt_L _ (h.2.1 q).2) (byt_l rfl))
  · refine byt_app ?_ (byt_app (byt_d _) (byt_l rfl))
    split
    · exact byt_l rfl
    · exact byt_l rfl
theorem byt_M {D : DT} (hI : DI D) {x : MT} (hw : wfM D x) : byt (prM x) := by
  obtain ⟨p1, p2, p3, -⟩ := wfM_p hI hw
  have w5 := hw.2.2.2.2.1
  unfold prM
  refine byt_app (byt_l rfl) (byt_app (byt_d _) (byt_app (byt_l rfl) (byt_app (byt_l rfl) (byt_app (byt_P p1) (byt_app (byt_P p2) (byt_app (byt_P p3) (byt_app ?_ (byt_app ?_ (byt_app ?_ (byt_l rfl))))))))))
  · unfold prJ
    split
    · exact byt_n
    · exact byt_app (byt_l rfl) (byt_app (byt_d _) (byt_app (byt_l rfl) (byt_app (byt_l rfl) (byt_app (byt_d _) (byt_app (byt_l rfl) (byt_app (byt_d _) (byt_l rfl)))))))
  · unfold prT
    split
    · exact byt_n
    · next q =>
      refine byt_app (byt_l rfl) (byt_app ?_ (byt_app (byt_l rfl) (byt_app (byt_d _) (byt_app (byt_l rfl) ?_))))
      · split
        · exact byt_l rfl
        · exact byt_n
      · split
        · exact byt_n
        · next q2 =>
          refine byt_app ?_ (byt_app (byt_d _) (byt_l rfl))
          have : 0 ≤ x.2.2.2.2.2.1.1 ∧ x.2.2.2.2.2.1.1 < 128 := by
            rcases w5 with z | ⟨z | z | z | z, -⟩ <;> omega
          intro c hc
          rcases List.mem_cons.mp hc with e | e
          · rw [e]
            exact this
          · rw [List.mem_singleton.mp e]
            omega
  · unfold prG
    split
    · exact byt_n
    · exact byt_app (byt_l rfl) (byt_app (byt_d _) (byt_l rfl))
theorem byt_A {D : DT} (hI : DI D) : ∀ (ms : List MT), (∀ x ∈ ms, wfM D x) → byt (prA ms)
  | [], _ => byt_n
  | x :: r, h => byt_app (byt_M hI (h x (List.mem_cons_self ..))) (byt_A hI r (fun q hq => h q (List.mem_cons_of_mem _ hq)))
theorem p_print {L B1 B2 : Nat} {fi : Nat → Nat → Int} {ai aj : Nat → Int → Int} {ms : List MT} {P : List Int} {A1 : Int → Int} (h : iA B1 B2 fi ai aj ms P A1) : PR L A1 m_MT_print m_Mo_print [] (HH L B1 B2 fi ai aj) := by
  obtain ⟨hB, h1, h2, h3, h4, h5, h6, h7⟩ := id h
  have hb := byt_A h1.1 ms h3.2.2.2.2.1
  have hl := h3.2.2.2.2.2
  refine (c_MT_print 2 L B1 B2 fi ai aj (by omega) (DD fi ai) h1.1 ms h3.1 h3.2.1 h3.2.2.2.2.1 hl).mono ?_
  rintro v h' ⟨rfl, rfl⟩
  refine ⟨_, B1, B2, _, _, aj, rfl, ⟨by omega, by omega⟩, rfl, h7, ?_⟩
  refine (c_Mo_print 6 L B1 B2 (am_u2 fi 36 36 ((prA ms).length : Int)) (am_sa ai 37 (wr (ai 37) (prA ms))) aj (DD fi ai) h1.1 ms h3.1 h3.2.2.2.1 h3.2.2.1 h3.2.2.2.2.1 hl).mono ?_
  rintro v2 h2' ⟨rfl, rfl⟩
  refine ⟨rfl, B1, B2, _, _, aj, ms, P, rfl, hB, h1, h2, ?_, ⟨rfl, ⟨by show 0 ≤ ((prA ms).length : Int); omega, by show ((prA ms).length : Int) ≤ 626; omega⟩, ?_⟩, h5, ?_, h7⟩
  · refine iM.fr (by omega) h3 (fun j b b0 b1 => ?_) (fun b b0 b1 => ?_) rfl (fun b b0 b1 => ?_) h3.2.2.2.2.1
    · rw [u2x (by omega), u2x (by omega)]
    · unfold am_sa
      rw [if_neg (by omega), if_neg (by omega)]
    · unfold am_sa
      rw [if_neg (by omega), if_neg (by omega)]
  · intro i i0 i1
    have i1' : i < ((prA ms).length : Int) := i1
    show wr (ai 169) (prA ms) i = wr (ai 37) (prA ms) i ∧ am_R (wr (ai 37) (prA ms) i)
    unfold wr
    rw [if_pos ⟨i0, i1'⟩, if_pos ⟨i0, i1'⟩]
    refine ⟨rfl, ?_⟩
    have hm : (prA ms).getD i.toNat 0 ∈ prA ms := by
      rw [List.getD_eq_getElem?_getD, List.getElem?_eq_getElem (by omega)]
      exact List.getElem_mem _
    have := hb _ hm
    exact ⟨by omega, by omega⟩
  · exact cSt_fr EqD.rf h6 rfl rfl rfl (fun b b0 b1 => by
      unfold am_sa
      rw [if_neg (by omega), if_neg (by omega)]) rfl rfl
theorem tyA_R {n l : Int} (hl : 0 ≤ l ∧ l ≤ 500) : am_R (tyA n l) := by
  unfold tyA
  split
  · exact ⟨by omega, by omega⟩
  · split
    · exact ⟨by omega, by omega⟩
    · exact ⟨by omega, by omega⟩
theorem tyT_I {e n l : Int} {t : Int → Int} (h : txI l t) : txI (tyN n l) (tyT e n l t) := by
  unfold tyN tyT
  by_cases q : n < 1 ∨ 8 < n ∨ 500 < l + n
  · rw [if_pos q, if_pos q]
    exact h
  · rw [if_neg q, if_neg q]
    have h0 := h.1
    refine ⟨by omega, by omega, fun i i0 i1 => tyl_in e n.toNat l t h.2.2 i i0 (by omega)⟩
theorem tyN_l {n l : Int} (h : 0 ≤ l) : 0 ≤ tyN n l := by
  unfold tyN
  split <;> omega
theorem p_type {L B1 B2 : Nat} {fi : Nat → Nat → Int} {ai aj : Nat → Int → Int} {ms : List MT} {P : List Int} {A1 : Int → Int} (h : iA B1 B2 fi ai aj ms P A1) (e n : Int) (hn : am_R n) : PR L A1 m_MT_type m_Mo_type [.inr (.inl e), .inl n] (HH L B1 B2 fi ai aj) := by
  obtain ⟨hB, h1, h2, h3, h4, h5, h6, h7⟩ := id h
  obtain ⟨t1, t2, t3, t4⟩ := h2
  have hT := t3.1
  have hl : 0 ≤ fi 14 23 ∧ fi 14 23 ≤ 500 := ⟨hT.1, hT.2.1⟩
  refine (c_MT_type 9 L B1 B2 fi ai aj e n hn hl).mono ?_
  rintro v h' ⟨rfl, rfl⟩
  refine ⟨_, B1, B2, _, _, aj, rfl, tyA_R hl, rfl, h7, ?_⟩
  have e60 : (am_u2 fi 14 23 (tyN n (fi 14 23))) 60 126 = fi 14 23 := t1
  have e131 : (am_sa ai 24 (tyT e n (fi 14 23) (ai 24))) 131 = ai 24 := t2
  have hc := c_Mo_type 9 L B1 B2 (am_u2 fi 14 23 (tyN n (fi 14 23))) (am_sa ai 24 (tyT e n (fi 14 23) (ai 24))) aj e n hn (by rw [e60]; exact hl)
  rw [e60, e131] at hc
  refine hc.mono ?_
  rintro v2 h2' ⟨rfl, rfl⟩
  refine ⟨rfl, B1, B2, _, _, aj, ms, P, rfl, hB, h1, ⟨rfl, rfl, ⟨tyT_I hT, ⟨?_, ?_⟩, t3.2.2.1, t3.2.2.2.1, t3.2.2.2.2⟩, t4⟩, ?_, h4, h5, ?_, h7⟩
  · show 0 ≤ fi 15 23
    omega
  · show fi 15 23 ≤ tyN n (fi 14 23)
    rw [t4]
    exact tyN_l hl.1
  · refine iM.fr (by omega) h3 (fun j b b0 b1 => ?_) (fun b b0 b1 => ?_) rfl (fun b b0 b1 => ?_) h3.2.2.2.2.1
    · rw [u2x (by omega), u2x (by omega)]
    · unfold am_sa
      rw [if_neg (by omega), if_neg (by omega)]
    · unfold am_sa
      rw [if_neg (by omega), if_neg (by omega)]
  · exact cSt_fr EqD.rf h6 rfl rfl rfl (fun b b0 b1 => by
      unfold am_sa
      rw [if_neg (by omega), if_neg (by omega)]) rfl rfl
theorem soA_R {n m : Int} (hn : 0 ≤ n ∧ n ≤ 4) : am_R (soA n m) := by
  unfold soA
  split
  · exact ⟨by omega, by omega⟩
  · split
    · exact ⟨by omega, by omega⟩
    · exact ⟨by omega, by omega⟩
theorem DI_so {n m : Int} {c r t f : Int → Int} (hI : DI (n, c, r, t, f)) : DI (soN n m, soC n m c, r, t, f) := by
  obtain ⟨i0, i1, i2, i3, i4, i5, i6⟩ := id hI
  unfold soN soC
  by_cases q : m < 1 ∨ 4 < m ∨ 4 ≤ n
  · rw [if_pos q, if_pos q]
    exact hI
  · rw [if_neg q, if_neg q]
    have hn : 0 ≤ n ∧ n ≤ 4 := i0
    refine ⟨⟨by show 0 ≤ n + 1; omega, by show n + 1 ≤ 4; omega⟩, ?_, i2, i3, i4, ?_, ?_⟩
    · intro i p0 p1
      show 0 ≤ up c n m i ∧ up c n m i ≤ 4
      unfold up
      split
      · omega
      · exact i1 i p0 p1
    · intro i p0 p1
      have p2 : i < n + 1 := p1
      show 1 ≤ up c n m i
      unfold up
      split
      · omega
      · next z =>
        exact i5 i p0 (by show i < n; omega)
    · intro i p0 p1
      have p2 : n + 1 ≤ i := p0
      exact i6 i (by show n ≤ i; omega) p1
theorem co_so {n m x : Int} {c r t f : Int → Int} (hx : x < n) : co (soN n m, soC n m c, r, t, f) x = co (n, c, r, t, f) x := by
  show (if x < 0 ∨ soN n m ≤ x then 0 else soC n m c x) = (if x < 0 ∨ n ≤ x then 0 else c x)
  unfold soN soC
  by_cases q : m < 1 ∨ 4 < m ∨ 4 ≤ n
  · rw [if_pos q, if_pos q]
  · rw [if_neg q, if_neg q]
    by_cases z : x < 0
    · rw [if_pos (Or.inl z), if_pos (Or.inl z)]
    · rw [if_neg (by omega), if_neg (by omega), up_n _ _ (by omega)]
theorem EqD_so {n m : Int} {c r t f : Int → Int} (hI : DI (n, c, r, t, f)) : EqD (n, c, r, t, f) (soN n m, soC n m c, r, t, f) := by
  have hn : 0 ≤ n ∧ n ≤ 4 := hI.1
  have h6 : ∀ i, n ≤ i → i < 4 → r i = 0 := hI.2.2.2.2.2.2
  have hr : ∀ x, ro (n, c, r, t, f) x = ro (soN n m, soC n m c, r, t, f) x := by
    intro x
    show (if x < 0 ∨ n ≤ x then 0 else r x) = (if x < 0 ∨ soN n m ≤ x then 0 else r x)
    unfold soN
    by_cases q : m < 1 ∨ 4 < m ∨ 4 ≤ n
    · rw [if_pos q]
    · rw [if_neg q]
      by_cases z : x < 0 ∨ n ≤ x
      · rw [if_pos z]
        by_cases z2 : x < 0 ∨ n + 1 ≤ x
        · rw [if_pos z2]
        · rw [if_neg z2]
          exact (h6 x (by omega) (by omega)).symm
      · rw [if_neg z, if_neg (by omega)]
  refine ⟨fun x y z => ?_, hr, fun x y => ?_⟩
  · show (if 0 ≤ y ∧ y < ro (n, c, r, t, f) x ∧ 0 ≤ z ∧ z < co (n, c, r, t, f) x then f ((x * 16 + y) * 4 + z) else -1) = (if 0 ≤ y ∧ y < ro (soN n m, soC n m c, r, t, f) x ∧ 0 ≤ z ∧ z < co (soN n m, soC n m c, r, t, f) x then f ((x * 16 + y) * 4 + z) else -1)
    rw [← hr x]
    by_cases q : 0 ≤ y ∧ y < ro (n, c, r, t, f) x
    · have := (ro_in x hI).2.2 (by omega)
      have hx : x < n := this.2.2.1
      rw [co_so hx]
    · rw [if_neg (by omega), if_neg (by omega)]
  · show (if 0 ≤ y ∧ y < ro (n, c, r, t, f) x then t (x * 16 + y) else 0) = (if 0 ≤ y ∧ y < ro (soN n m, soC n m c, r, t, f) x then t (x * 16 + y) else 0)
    rw [← hr x]
theorem soN_l {n m : Int} : n ≤ soN n m := by
  unfold soN
  split <;> omega
theorem p_source {L B1 B2 : Nat} {fi : Nat → Nat → Int} {ai aj : Nat → Int → Int} {ms : List MT} {P : List Int} {A1 : Int → Int} (h : iA B1 B2 fi ai aj ms P A1) (m : Int) (hm : am_R m) : PR L A1 m_MT_source m_Mo_source [.inl m] (HH L B1 B2 fi ai aj) := by
  obtain ⟨hB, h1, h2, h3, h4, h5, h6, h7⟩ := id h
  obtain ⟨s1, s2, s3, s4, s5, s6, s7⟩ := id h1
  have hn : 0 ≤ fi 10 17 ∧ fi 10 17 ≤ 4 := s1.1
  refine (c_MT_source 9 L B1 B2 fi ai aj m hm s1).mono ?_
  rintro v h' ⟨rfl, rfl⟩
  refine ⟨_, B1, B2, _, _, aj, rfl, soA_R hn, rfl, h7, ?_⟩
  have e54 : (am_u2 fi 10 17 (soN (fi 10 17) m)) 54 126 = fi 10 17 := s3
  have e127 : (am_sa ai 18 (soC (fi 10 17) m (ai 18))) 127 = ai 18 := s4
  have hc := c_Mo_source 9 L B1 B2 (am_u2 fi 10 17 (soN (fi 10 17) m)) (am_sa ai 18 (soC (fi 10 17) m (ai 18))) aj m hm (by rw [e54]; exact hn)
  rw [e54, e127] at hc
  refine hc.mono ?_
  rintro v2 h2' ⟨rfl, rfl⟩
  have q1 := EqD_so (m := m) s1
  have hD2 : DI (fi 10 17, ai 18, ai 128, ai 130, ai 129) := by
    have := s2
    unfold DM at this
    rw [s3, s4] at this
    exact this
  have q2 := EqD_so (m := m) hD2
  have eM : DM fi ai = (fi 10 17, ai 18, ai 128, ai 130, ai 129) := by
    unfold DM
    rw [s3, s4]
  generalize hF : am_u2 (am_u2 fi 10 17 (soN (fi 10 17) m)) 54 126 (soN (fi 10 17) m) = F
  generalize hA : am_sa (am_sa ai 18 (soC (fi 10 17) m (ai 18))) 127 (soC (fi 10 17) m (ai 18)) = A
  have kF : ∀ j b, ¬ (j = 10 ∧ b = 17) → ¬ (j = 54 ∧ b = 126) → F j b = fi j b := by
    intro j b b0 b1
    rw [← hF, u2x b1, u2x b0]
  have kA : ∀ b, b ≠ 18 → b ≠ 127 → A b = ai b := by
    intro b b0 b1
    rw [← hA]
    unfold am_sa
    rw [if_neg b1, if_neg b0]
  have eD' : DD F A = (soN (fi 10 17) m, soC (fi 10 17) m (ai 18), ai 19, ai 20, ai 21) := by
    rw [← hF, ← hA]
    rfl
  have eM' : DM F A = (soN (fi 10 17) m, soC (fi 10 17) m (ai 18), ai 128, ai 130, ai 129) := by
    rw [← hF, ← hA]
    rfl
  have qD : EqD (DD fi ai) (DD F A) := by
    rw [eD']
    exact q1
  have qM : EqD (DM fi ai) (DM F A) := by
    rw [eM', eM]
    exact q2
  refine ⟨rfl, B1, B2, F, A, aj, ms, P, rfl, hB, ⟨?_, ?_, ?_, ?_, ?_, ?_, ?_⟩, h2.fr (fun j _ _ => kF j 23 (by omega) (by omega)) (kF 60 126 (by omega) (by omega)) (kA 24 (by omega) (by omega)) (kA 131 (by omega) (by omega)), ?_, h4.fr (kF 36 36 (by omega) (by omega)) (kF 109 126 (by omega) (by omega)) (kA 37 (by omega) (by omega)) (kA 169 (by omega) (by omega)), h5.fr (kF 94 126 (by omega) (by omega)) (fun b b0 b1 => kA b (by omega) (by omega)) qM, cSt_fr qD h6 (kF 31 25 (by omega) (by omega)) (kF 30 25 (by omega) (by omega)) (kF 27 25 (by omega) (by omega)) (fun b b0 b1 => kA b (by omega) (by omega)) rfl rfl, (kA 1 (by omega) (by omega)).trans h7⟩
  · rw [eD']
    exact DI_so s1
  · rw [eM']
    exact DI_so hD2
  · rw [← hF]
    rfl
  · rw [← hA]
    rfl
  · rw [kA 128 (by omega) (by omega), kA 19 (by omega) (by omega)]
    exact s5
  · rw [kA 130 (by omega) (by omega), kA 20 (by omega) (by omega)]
    exact s6
  · exact fun x y z => ((qD.1 x y z).symm.trans (s7 x y z)).trans (qM.1 x y z)
  · refine iM.fr (by omega) h3 (fun j b b0 b1 => kF j b (by omega) (by omega)) (fun b b0 b1 => kA b (by omega) (by omega)) (kF 61 126 (by omega) (by omega)) (fun b b0 b1 => kA b (by omega) (by omega)) (fun x hx => ?_)
    rw [eD']
    exact wfM_m (D := DD fi ai) soN_l (fun s _ s1 => co_so s1) (h3.2.2.2.2.1 x hx)
