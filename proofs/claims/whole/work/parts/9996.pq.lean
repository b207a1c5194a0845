-- pairs of calls: the questions, at, print, type, source
theorem p_triples {L B1 B2 : Nat} {fi : Nat → Nat → Int} {ai aj : Nat → Int → Int} {ms : List MT} {P : List Int} {A1 : Int → Int} (h : iA B1 B2 fi ai aj ms P A1) : PR L A1 m_MT_triples m_Mo_triples [] (HH L B1 B2 fi ai aj) := by
  obtain ⟨hB, h1, h2, h3, h4, h5, h6, h7⟩ := id h
  have hl := h.l
  refine (c_MT_triples 3 L B1 B2 fi ai aj ms P (by omega) h1.1 h3.1 h3.2.1 h3.2.2.2.2.1 h6 h.P).mono ?_
  rintro v h' ⟨rfl, f', a', j', rfl, g1, g2⟩
  have hN := iA_K h g1 g2
  refine ⟨_, B1, B2, f', a', j', rfl, ⟨by omega, by omega⟩, rfl, hN.2.2.2.2.2.2.2, ?_⟩
  refine (c_Mo_triples 10 L B1 B2 f' a' j').mono ?_
  rintro v2 h2 ⟨rfl, rfl⟩
  exact ⟨by rw [hN.2.2.2.2.2.1.2.1], B1, B2, f', a', j', ms, P, rfl, hN⟩
theorem trS_R {c : Int → Int → Int} {TM : Int → Int → Int × List Int} {gr : Int → Int} {P l : List Int} {i q : Int} (hl : l.length ≤ 1536) (hP : ∀ p ∈ P, KOw c TM gr p ∧ 0 ≤ p ∧ p < 1536) : am_R (trS c TM gr P l i q) := by
  unfold trS
  split
  · exact ⟨by omega, by omega⟩
  · next h1 =>
    split
    · exact ⟨by omega, by omega⟩
    · next h2 =>
      have hp := hP (gD P i.toNat) (gD_m (by omega))
      have hc := cnt_le (c := c) (l := l) (p := gD P i.toNat)
      have h3 : ¬ (¬ (0 ≤ q ∧ q ≤ 9)) := h1
      split
      · have := (hp.1.1 q (by omega) (by omega)).1
        exact ⟨by omega, by omega⟩
      · split
        · have := (hp.1.1 (q - 3) (by omega) (by omega)).2.2.2.2
          exact ⟨by omega, by omega⟩
        · split
          · have := hp.1.2
            exact ⟨by omega, by omega⟩
          · split
            · exact ⟨by omega, by omega⟩
            · split
              · exact ⟨by omega, by omega⟩
              · exact ⟨by omega, by omega⟩
theorem iA.k {B1 B2 : Nat} {f : Nat → Nat → Int} {a j : Nat → Int → Int} {ms : List MT} {P : List Int} {A1 : Int → Int} (h : iA B1 B2 f a j ms P A1) : ∀ p ∈ P, KOw (cD (DM f a) ms) (TMf (DM f a) ms) (gF ms) p ∧ 0 ≤ p ∧ p < 1536 := by
  intro p hp
  have hm := ((h.2.2.2.2.2.1.2.2.1.2.1 p).mp hp).1
  have h3 := (aW_in h.2.1.2.1 ms 0).2.2.2 p hm
  have h4 := h.2.2.2.1.1
  exact ⟨KO_all h.2.1.2.1 h.w hm, by omega, by omega⟩
theorem p_triple {L B1 B2 : Nat} {fi : Nat → Nat → Int} {ai aj : Nat → Int → Int} {ms : List MT} {P : List Int} {A1 : Int → Int} (h : iA B1 B2 fi ai aj ms P A1) (i q : Int) (hi : am_R i) (hq : am_R q) : PR L A1 m_MT_triple m_Mo_triple [.inl i, .inl q] (HH L B1 B2 fi ai aj) := by
  obtain ⟨hB, h1, h2, h3, h4, h5, h6, h7⟩ := id h
  have hl := h.l
  have hE := h1.q
  have hlen := (aW_in h1.2.1 ms 0).1
  have h30 := h3.1
  refine (c_MT_triple 3 L B1 B2 fi ai aj ms P i q hi hq (by omega) h1.1 h3.1 h3.2.1 h3.2.2.2.2.1 h6 h.P).mono ?_
  rintro v h' ⟨rfl, f', a', j', rfl, g1, g2⟩
  have hN := iA_K h g1 g2
  have eM : DM f' a' = DM fi ai := DM_f2 (g1.1 54 126 (by omega) (by omega)) (fun b b0 b1 => g1.2.1 b (by omega))
  rw [cD_q hE.1, TMf_q hE.1, aW_q hE]
  refine ⟨_, B1, B2, f', a', j', rfl, trS_R (by omega) h.k, rfl, hN.2.2.2.2.2.2.2, ?_⟩
  have hG := hN.2.2.2.2.2.1
  refine (c_Mo_triple 9 L B1 B2 f' a' j' (cD (DM f' a') ms) (TMf (DM f' a') ms) (gF ms) P (aW (DM f' a') ms 0) i q hi hq hG.2.1 hl hG.2.2).mono ?_
  rintro v2 h2 ⟨rfl, rfl⟩
  exact ⟨by rw [eM], B1, B2, f', a', j', ms, P, rfl, hN⟩
theorem byS_R {TM : Int → Int → Int × List Int} {P : List Int} {i t k : Int} (hP : ∀ p ∈ P, ∀ t, 0 ≤ t → t < 3 → tOK (TM p t)) : am_R (byS TM P i t k) := by
  unfold byS
  split
  · next h =>
    have hb := (hP (gD P i.toNat) (gD_m (by omega)) t (by omega) (by omega)).2.1
    have hm : (TM (gD P i.toNat) t).2.getD k.toNat 0 ∈ (TM (gD P i.toNat) t).2 := by
      rw [List.getD_eq_getElem?_getD, List.getElem?_eq_getElem (by omega)]
      exact List.getElem_mem _
    have := hb _ hm
    exact ⟨by omega, by omega⟩
  · exact ⟨by omega, by omega⟩
theorem p_byteOf {L B1 B2 : Nat} {fi : Nat → Nat → Int} {ai aj : Nat → Int → Int} {ms : List MT} {P : List Int} {A1 : Int → Int} (h : iA B1 B2 fi ai aj ms P A1) (i t k : Int) (hi : am_R i) (ht : am_R t) (hk : am_R k) : PR L A1 m_MT_byteOf m_Mo_byteOf [.inl i, .inl t, .inl k] (HH L B1 B2 fi ai aj) := by
  obtain ⟨hB, h1, h2, h3, h4, h5, h6, h7⟩ := id h
  have hl := h.l
  have hE := h1.q
  refine (c_MT_byteOf 3 L B1 B2 fi ai aj ms P i t k hi ht hk (by omega) h1.1 h3.1 h3.2.1 h3.2.2.2.2.1 h6 h.P).mono ?_
  rintro v h' ⟨rfl, f', a', j', rfl, g1, g2⟩
  have hN := iA_K h g1 g2
  have eM : DM f' a' = DM fi ai := DM_f2 (g1.1 54 126 (by omega) (by omega)) (fun b b0 b1 => g1.2.1 b (by omega))
  rw [TMf_q hE.1]
  refine ⟨_, B1, B2, f', a', j', rfl, byS_R (fun p hp => (h.k p hp).1.1), rfl, hN.2.2.2.2.2.2.2, ?_⟩
  have hG := hN.2.2.2.2.2.1
  refine (c_Mo_byteOf 9 L B1 B2 f' a' j' (cD (DM f' a') ms) (TMf (DM f' a') ms) (gF ms) P (aW (DM f' a') ms 0) i t k hi ht hk hG.2.1 hl hG.2.2 (fun p hp t t0 t3 => ((hN.k p hp).1.1 t t0 t3).2.2.2.2)).mono ?_
  rintro v2 h2 ⟨rfl, rfl⟩
  exact ⟨by rw [eM], B1, B2, f', a', j', ms, P, rfl, hN⟩
theorem WhQ_q {D E : DT} (hE : EqD D E) {ms : List MT} {P : List Int} {m r o y : Int} (h : WhQ D ms P m r o y) : WhQ E ms P m r o y := by
  have hv : ∀ x, whV D ms m r o x ↔ whV E ms m r o x := by
    intro x
    unfold whV
    rw [hE.2.1 x.1, hE.2.1 x.2.2.2.2.1.1]
  rcases h with ⟨h1, h2⟩ | ⟨x, h1, h2⟩
  · exact Or.inl ⟨fun ⟨x, q⟩ => h1 ⟨x, (hv x).mpr q⟩, h2⟩
  · refine Or.inr ⟨x, (hv x).mp h1, ?_⟩
    rw [← aW_q hE, ← cD_q hE.1]
    exact h2
theorem WhQ_R {D : DT} {ms : List MT} {P : List Int} {m r o y : Int} (hl : P.length ≤ 1536) (h : WhQ D ms P m r o y) : am_R y := by
  rcases h with ⟨h1, h2⟩ | ⟨x, h1, ⟨-, h2⟩ | ⟨-, i, i1, i2, -⟩⟩
  · exact ⟨by omega, by omega⟩
  · exact ⟨by omega, by omega⟩
  · exact ⟨by omega, by omega⟩
theorem p_which {L B1 B2 : Nat} {fi : Nat → Nat → Int} {ai aj : Nat → Int → Int} {ms : List MT} {P : List Int} {A1 : Int → Int} (h : iA B1 B2 fi ai aj ms P A1) (m r o : Int) (hm : am_R m) (hr : am_R r) (ho : am_R o) : PR L A1 m_MT_which m_Mo_which [.inl m, .inl r, .inl o] (HH L B1 B2 fi ai aj) := by
  obtain ⟨hB, h1, h2, h3, h4, h5, h6, h7⟩ := id h
  have hl := h.l
  have hE := h1.q
  refine (c_MT_which 3 L B1 B2 fi ai aj ms P m r o hm hr ho (by omega) h1.1 h3.1 h3.2.1 h3.2.2.2.2.1 h6 h.P).mono ?_
  rintro v h' ⟨y, rfl, hy, f', a', j', rfl, g1, g2⟩
  have hN := iA_K h g1 g2
  have eM : DM f' a' = DM fi ai := DM_f2 (g1.1 54 126 (by omega) (by omega)) (fun b b0 b1 => g1.2.1 b (by omega))
  refine ⟨y, B1, B2, f', a', j', rfl, WhQ_R hl hy, rfl, hN.2.2.2.2.2.2.2, ?_⟩
  obtain ⟨kB, k1, k2, k3, k4, k5, k6, k7⟩ := id hN
  refine (c_Mo_which 6 L B1 B2 f' a' j' (DM f' a') ms P m r o hm hr ho rfl k1.2.1 k3.1 k3.2.2.2.1 k3.2.2.1 hN.w k5.2.1 k5.2.2).mono ?_
  rintro v2 h2 ⟨y', a2, rfl, hy', rfl, q1, q2, q3⟩
  have hy2 : WhQ (DM f' a') ms P m r o y := by
    rw [eM]
    exact WhQ_q hE hy
  have e : y' = y := WhQ_u k5.2.2.1.1 hy' hy2
  refine ⟨by rw [e], B1, B2, f', a2, j', ms, P, rfl, kB, k1.fr rfl rfl (fun b b0 b1 => q1 b (by omega)) (fun b b0 b1 => q1 b (by omega)), k2.fr (fun _ _ _ => rfl) rfl (q1 24 (by omega)) (q1 131 (by omega)), iM.fr (by omega) k3 (fun _ _ _ _ => rfl) (fun b b0 b1 => q1 b (by omega)) rfl (fun b b0 b1 => q1 b (by omega)) ?_, k4.fr rfl rfl (q1 37 (by omega)) (q1 169 (by omega)), ⟨q2 k5.1, k5.2.1, ?_⟩, ?_, (q1 1 (by omega)).trans k7⟩
  · rw [DD_f2 (f := f') (a := a') rfl (fun b b0 b1 => q1 b (by omega))]
    exact k3.2.2.2.2.1
  · rw [DM_f2 (f := f') (a := a') rfl (fun b b0 b1 => q1 b (by omega))]
    exact q3
  · rw [DD_f2 (f := f') (a := a') rfl (fun b b0 b1 => q1 b (by omega))]
    exact cSt_fr EqD.rf k6 rfl rfl rfl (fun b b0 b1 => q1 b (by omega)) rfl rfl
theorem p_bads {L B1 B2 : Nat} {fi : Nat → Nat → Int} {ai aj : Nat → Int → Int} {ms : List MT} {P : List Int} {A1 : Int → Int} (h : iA B1 B2 fi ai aj ms P A1) : PR L A1 m_MT_bads m_Mo_bads [] (HH L B1 B2 fi ai aj) := by
  obtain ⟨hB, h1, h2, h3, h4, h5, h6, h7⟩ := id h
  have hE := h1.q
  have hlen := (aW_in h1.1 ms 0).2.1
  have h30 := h3.1
  refine (c_MT_bads 3 L B1 B2 fi ai aj ms (by omega) h1.1 h3.1 h3.2.1 h3.2.2.2.2.1 h6).mono ?_
  rintro v h' ⟨rfl, f', a', j', rfl, g1, g2⟩
  have hN := iA_K h g1 g2
  have eM : DM f' a' = DM fi ai := DM_f2 (g1.1 54 126 (by omega) (by omega)) (fun b b0 b1 => g1.2.1 b (by omega))
  refine ⟨_, B1, B2, f', a', j', rfl, ⟨by omega, by omega⟩, rfl, hN.2.2.2.2.2.2.2, ?_⟩
  obtain ⟨kB, k1, k2, k3, k4, k5, k6, k7⟩ := id hN
  refine (c_Mo_bads 7 L B1 B2 f' a' j' (DM f' a') ms rfl k1.2.1 k3.1 k3.2.2.2.1 k3.2.2.1 hN.w).mono ?_
  rintro v2 h2 ⟨rfl, rfl⟩
  exact ⟨by rw [eM, aB_q hE], B1, B2, f', a', j', ms, P, rfl, hN⟩
theorem bdS_R {l : List (Int × Int)} {i q : Int} (hl : ∀ p ∈ l, (0 ≤ p.1 ∧ p.1 < 100) ∧ (-1 ≤ p.2 ∧ p.2 ≤ 2)) : am_R (bdS l i q) := by
  unfold bdS
  split
  · exact ⟨by omega, by omega⟩
  · unfold bdL
    split
    · next h =>
      have hm : l.getD i.toNat (0, 0) ∈ l := by
        rw [List.getD_eq_getElem?_getD, List.getElem?_eq_getElem (by omega)]
        exact List.getElem_mem _
      have := hl _ hm
      unfold pkB
      split
      · exact ⟨by omega, by omega⟩
      · split
        · exact ⟨by omega, by omega⟩
        · exact ⟨by omega, by omega⟩
    · exact ⟨by omega, by omega⟩
theorem mB_2 {D : DT} {x : MT} {i : Int} : ∀ (k : Nat) (r : Int) (p : Int × Int), p ∈ mB D x i k r → -1 ≤ p.2 ∧ p.2 ≤ 2
  | 0, _, _, h => by cases h
  | k + 1, r, p, h => by
    rw [mB_c] at h
    rcases List.mem_append.mp h with q | q
    · unfold mB1 at q
      split at q
      · cases q
      · rw [List.mem_singleton.mp q]
        exact bnR_in
    · exact mB_2 k (r + 1) p q
theorem aB_2 {D : DT} : ∀ (ms : List MT) (i : Int) (p : Int × Int), p ∈ aB D ms i → -1 ≤ p.2 ∧ p.2 ≤ 2
  | [], _, _, h => by cases h
  | x :: w, i, p, h => by
    rcases List.mem_append.mp h with q | q
    · exact mB_2 _ _ p q
    · exact aB_2 w (i + 1) p q
theorem p_bad {L B1 B2 : Nat} {fi : Nat → Nat → Int} {ai aj : Nat → Int → Int} {ms : List MT} {P : List Int} {A1 : Int → Int} (h : iA B1 B2 fi ai aj ms P A1) (i q : Int) (hi : am_R i) (hq : am_R q) : PR L A1 m_MT_bad m_Mo_bad [.inl i, .inl q] (HH L B1 B2 fi ai aj) := by
  obtain ⟨hB, h1, h2, h3, h4, h5, h6, h7⟩ := id h
  have hE := h1.q
  have h30 := h3.1
  refine (c_MT_bad 3 L B1 B2 fi ai aj ms i q hi hq (by omega) h1.1 h3.1 h3.2.1 h3.2.2.2.2.1 h6).mono ?_
  rintro v h' ⟨rfl, f', a', j', rfl, g1, g2⟩
  have hN := iA_K h g1 g2
  have eM : DM f' a' = DM fi ai := DM_f2 (g1.1 54 126 (by omega) (by omega)) (fun b b0 b1 => g1.2.1 b (by omega))
  refine ⟨_, B1, B2, f', a', j', rfl, bdS_R (fun p hp => ⟨by have := aB_m h1.1 ms 0 p hp; omega, aB_2 ms 0 p hp⟩), rfl, hN.2.2.2.2.2.2.2, ?_⟩
  obtain ⟨kB, k1, k2, k3, k4, k5, k6, k7⟩ := id hN
  refine (c_Mo_bad 7 L B1 B2 f' a' j' (DM f' a') ms i q hi hq rfl k1.2.1 k3.1 k3.2.2.2.1 k3.2.2.1 hN.w).mono ?_
  rintro v2 h2 ⟨rfl, rfl⟩
  exact ⟨by rw [eM, aB_q hE], B1, B2, f', a', j', ms, P, rfl, hN⟩
theorem p_at {L B1 B2 : Nat} {fi : Nat → Nat → Int} {ai aj : Nat → Int → Int} {ms : List MT} {P : List Int} {A1 : Int → Int} (h : iA B1 B2 fi ai aj ms P A1) (i : Int) (hi : am_R i) : PR L A1 m_MT_at m_Mo_at [.inl i] (HH L B1 B2 fi ai aj) := by
  obtain ⟨hB, h1, h2, h3, h4, h5, h6, h7⟩ := id h
  refine (c_MT_at 10 L B1 B2 fi ai aj i hi h4.2.1).mono ?_
  rintro v h' ⟨rfl, rfl⟩
  refine ⟨_, B1, B2, fi, ai, aj, rfl, ?_, rfl, h7, ?_⟩
  · unfold atA
    split
    · next q => exact (h4.2.2 i q.1 q.2).2
    · exact ⟨by omega, by omega⟩
  · refine (c_Mo_at 9 L B1 B2 fi ai aj i hi (by rw [h4.1]; exact h4.2.1)).mono ?_
    rintro v2 h2 ⟨rfl, rfl⟩
    refine ⟨?_, B1, B2, fi, ai, aj, ms, P, rfl, h⟩
    unfold atA
    rw [h4.1]
    split
    · next q => rw [(h4.2.2 i q.1 q.2).1]
    · rfl
