-- pairs of calls: change, read
theorem dff_0 {c : Int → Int → Int} : ∀ (k : Nat) (P Q : List Int), 0 ≤ dff c k P Q
  | 0, _, _ => Int.le_refl 0
  | _ + 1, [], [] => Int.le_refl 0
  | k + 1, [], q :: Q => by
    have := dff_0 (c := c) k [] Q
    show 0 ≤ 1 + dff c k [] Q
    omega
  | k + 1, p :: P, [] => by
    have := dff_0 (c := c) k P []
    show 0 ≤ 1 + dff c k P []
    omega
  | k + 1, p :: P, q :: Q => by
    show 0 ≤ if c p q = 0 then dff c k P Q else if c p q < 0 then 1 + dff c k P (q :: Q) else 1 + dff c k (p :: P) Q
    split
    · exact dff_0 k P Q
    · split
      · have := dff_0 (c := c) k P (q :: Q)
        omega
      · have := dff_0 (c := c) k (p :: P) Q
        omega
theorem aW_s {D E : DT} (hI : DI D) (hJ : DI E) (hC : EqC D E) (hr : ∀ x, ro D x = ro E x) (ht : ∀ x y, th D x y = 1 → th E x y = 1) {ms : List MT} : ∀ w ∈ aW D ms 0, w ∈ aW E ms 0 := by
  intro w hw
  obtain ⟨m, x, r, o, h1, h2, h3, h4, ⟨g1, g2, g3⟩, h6, h7⟩ := (aW_m hI ms 0 w).mp hw
  refine (aW_m hJ ms 0 w).mpr ⟨m, x, r, o, h1, h2, by rw [← hr]; exact h3, h4, ⟨ht _ _ g1, by rw [← hld_q hC]; exact g2, by rw [← nmN_q hC]; exact g3⟩, by rw [← bdN_q hC]; exact h6, ?_⟩
  by_cases hj : x.2.2.2.2.1.1 = -1
  · rw [rwO_1 hj] at h7 ⊢
    rw [← nnP_q hC]
    exact h7
  · rw [rwO_2 hI hj] at h7
    rw [rwO_2 hJ hj, ← hr, ← hC]
    obtain ⟨a, b, c1, c2, c3⟩ := h7
    refine ⟨a, b, ?_⟩
    unfold jn
    rw [← hC x.1 r x.2.2.2.2.1.2.1, ← hC x.2.2.2.2.1.1 o x.2.2.2.2.1.2.2]
    exact ⟨c1, ht _ _ c2, c3⟩
theorem Lst_in {c : Int → Int → Int} (hc : ordC c) {l l' P Q : List Int} (hP : Lst c l P) (hQ : Lst c l' Q) (hs : ∀ w ∈ l, w ∈ l') : ∀ p ∈ P, ∃ q ∈ Q, c p q = 0 := by
  intro p hp
  obtain ⟨q, q1, q2⟩ := hQ.2.2 p (hs p ((hP.2.1 p).mp hp).1)
  exact ⟨q, q1, ordC_s hc q2⟩
theorem th_ch {D : DT} {s r v x y : Int} (hI : DI D) (hr : 0 ≤ r ∧ r < ro D s) : th (chD D s r v) x y = if x = s ∧ y = r then v else th D x y := by
  have hro := ro_in s hI
  show (if 0 ≤ y ∧ y < ro D x then up D.2.2.2.1 (s * 16 + r) v (x * 16 + y) else 0) = if x = s ∧ y = r then v else (if 0 ≤ y ∧ y < ro D x then D.2.2.2.1 (x * 16 + y) else 0)
  have hrx := ro_in x hI
  by_cases q : x = s ∧ y = r
  · obtain ⟨q1, q2⟩ := q
    subst q1 q2
    rw [if_pos hr, if_pos ⟨rfl, rfl⟩, up_s]
  · rw [if_neg q]
    by_cases q2 : 0 ≤ y ∧ y < ro D x
    · rw [if_pos q2, if_pos q2, up_n _ _ (by omega)]
    · rw [if_neg q2, if_neg q2]
theorem EqD_ch {D E : DT} {s r v : Int} (h : EqD D E) (ht : D.2.2.2.1 = E.2.2.2.1) : EqD (chD D s r v) (chD E s r v) := by
  refine ⟨h.1, h.2.1, fun x y => ?_⟩
  show (if 0 ≤ y ∧ y < ro D x then up D.2.2.2.1 (s * 16 + r) v (x * 16 + y) else 0) = (if 0 ≤ y ∧ y < ro E x then up E.2.2.2.1 (s * 16 + r) v (x * 16 + y) else 0)
  rw [h.2.1, ht]
theorem p_change {L B1 B2 : Nat} {fi : Nat → Nat → Int} {ai aj : Nat → Int → Int} {ms : List MT} {P : List Int} {A1 : Int → Int} (h : iA B1 B2 fi ai aj ms P A1) (s r v : Int) (hs : am_R s) (hr : am_R r) (hv : v = 0 ∨ v = 1) : PR L A1 m_MT_change m_Mo_change [.inl s, .inl r, .inl v] (HH L B1 B2 fi ai aj) := by
  obtain ⟨hB, h1, h2, h3, h4, h5, h6, h7⟩ := id h
  obtain ⟨s1, s2, s3, s4, s5, s6, s7⟩ := id h1
  have hE := h1.q
  have hl := h.l
  refine (c_MT_change 3 L B1 B2 fi ai aj ms P s r v hs hr hv (by omega) s1 h3.1 h3.2.1 h3.2.2.2.2.1 h6 h.P).mono ?_
  rintro w h' (⟨r1, rfl, rfl⟩ | ⟨r1, r2, rfl, rfl⟩ | ⟨r1, r2, P', f', a', j', r3, rfl, rfl, r4, r5⟩)
  · refine ⟨_, B1, B2, fi, ai, aj, rfl, ⟨by omega, by omega⟩, rfl, h7, ?_⟩
    refine (c_Mo_change 5 L B1 B2 fi ai aj (DM fi ai) ms P s r v hs hr hv rfl s2 h3.1 h3.2.2.2.1 h3.2.2.1 h.w h5.1 h5.2.1 h5.2.2).mono ?_
    rintro w2 h2' (⟨q1, rfl, rfl⟩ | ⟨q1, -⟩ | ⟨q1, -⟩)
    · exact ⟨rfl, B1, B2, fi, ai, aj, ms, P, rfl, h⟩
    · rw [← hE.2.1] at q1
      exact absurd q1 r1
    · rw [← hE.2.1] at q1
      exact absurd q1 r1
  · refine ⟨_, B1, B2, fi, ai, aj, rfl, ⟨by omega, by omega⟩, rfl, h7, ?_⟩
    refine (c_Mo_change 5 L B1 B2 fi ai aj (DM fi ai) ms P s r v hs hr hv rfl s2 h3.1 h3.2.2.2.1 h3.2.2.1 h.w h5.1 h5.2.1 h5.2.2).mono ?_
    rintro w2 h2' (⟨q1, -⟩ | ⟨q1, q2, rfl, rfl⟩ | ⟨q1, q2, -⟩)
    · rw [← hE.2.1] at q1
      exact absurd r1 q1
    · exact ⟨rfl, B1, B2, fi, ai, aj, ms, P, rfl, h⟩
    · rw [← hE.2.2] at q2
      exact absurd r2 q2
  · have hDI' : DI (chD (DD fi ai) s r v) := DI_th (n := fi 10 17) (c := ai 18) (r := ai 19) (t := ai 20) (f := ai 21) s1 hv
    have hDJ' : DI (chD (DM fi ai) s r v) := DI_th (n := fi 54 126) (c := ai 127) (r := ai 128) (t := ai 130) (f := ai 129) s2 hv
    have hlen' := (aW_in hDI' ms 0).1
    have hPl' := Lst_len (cD_ord (chD (DD fi ai) s r v) ms) r3
    have h30 := h3.1
    have kf : ∀ j b, b ≠ 25 → b ≠ 26 → f' j b = fi j b := r4.1
    have ka : ∀ b, b < 29 ∨ 35 < b → b ≠ 20 → a' b = ai b := by
      intro b b0 b1
      rw [r4.2.1 b b0]
      exact san _ _ b1
    have e20 : a' 20 = up (ai 20) (s * 16 + r) v := by
      rw [r4.2.1 20 (by omega)]
      rfl
    refine ⟨_, B1, B2, f', a', j', rfl, ?_, rfl, (ka 1 (by omega) (by omega)).trans h7, ?_⟩
    · split
      · exact ⟨by omega, by omega⟩
      · exact ⟨by omega, by omega⟩
    · have eM : DM f' a' = DM fi ai := DM_f2 (kf 54 126 (by omega) (by omega)) (fun b b0 b1 => ka b (by omega) (by omega))
      have hRef : ∀ (i : Nat) (x : MT), ms[i]? = some x → RefB a' (i : Int) x := by
        intro i x hx
        have := h3.2.2.1 i x hx
        unfold RefB
        rw [ka 132 (by omega) (by omega), ka 133 (by omega) (by omega), ka 134 (by omega) (by omega), ka 135 (by omega) (by omega), ka 136 (by omega) (by omega), ka 137 (by omega) (by omega), ka 138 (by omega) (by omega), ka 139 (by omega) (by omega), ka 140 (by omega) (by omega), ka 141 (by omega) (by omega), ka 142 (by omega) (by omega), ka 143 (by omega) (by omega)]
        exact this
      have hby : byR a' := by
        intro k
        rw [ka 156 (by omega) (by omega)]
        exact h5.1 k
      refine (c_Mo_change 5 L B1 B2 f' a' j' (DM fi ai) ms P s r v hs hr hv eM s2 h3.1 ((kf 61 126 (by omega) (by omega)).trans h3.2.2.2.1) hRef h.w hby ((kf 94 126 (by omega) (by omega)).trans h5.2.1) (GS_a h5.2.2 (fun b b0 b1 => ka b (by omega) (by omega)))).mono ?_
      have hth : th (DD fi ai) s r = th (DM fi ai) s r := hE.2.2 s r
      have hrM : 0 ≤ r ∧ r < ro (DM fi ai) s := by
        rw [← hE.2.1]
        exact r1
      rintro w2 h2' (⟨q1, -⟩ | ⟨q1, q2, -⟩ | ⟨q1, q2, f2, a2, P2, rfl, rfl, k1, k2, k3, k4, k5, k6⟩)
      · exact absurd hrM q1
      · rw [← hth] at q2
        exact absurd q2 r2
      · have hEc : EqD (chD (DD fi ai) s r v) (chD (DM fi ai) s r v) := EqD_ch hE s6.symm
        have hLP : Lst (cD (chD (DM fi ai) s r v) ms) (aW (chD (DM fi ai) s r v) ms 0) P' := by
          rw [← cD_q hEc.1, ← aW_q hEc]
          exact r3
        have eP : P2 = P' := Lst_u (cD_ord _ _) k6.1 hLP
        subst eP
        have hEC : EqC (DM fi ai) (chD (DM fi ai) s r v) := fun _ _ _ => rfl
        have hcc : cD (chD (DM fi ai) s r v) ms = cD (DM fi ai) ms := (cD_q hEC ms).symm
        have hL1 : Lst (cD (DM fi ai) ms) (aW (DM fi ai) ms 0) P := h5.2.2.1
        have hL2 : Lst (cD (DM fi ai) ms) (aW (chD (DM fi ai) s r v) ms 0) P2 := by
          rw [← hcc]
          exact hLP
        have hc := cD_ord (DM fi ai) ms
        have h01 := th_01 s2 s r
        have hd0 := dff_0 (c := cD (DM fi ai) ms) (P.length + P2.length) P P2
        have hans : dff (cD (DM fi ai) ms) (P.length + P2.length) P P2 = (if 0 ≤ (P2.length : Int) - (P.length : Int) then (P2.length : Int) - (P.length : Int) else 0 - ((P2.length : Int) - (P.length : Int))) := by
          rcases hv with hv0 | hv1
          · have hsub : ∀ w ∈ aW (chD (DM fi ai) s r v) ms 0, w ∈ aW (DM fi ai) ms 0 := by
              refine aW_s hDJ' s2 (fun _ _ _ => rfl) (fun _ => rfl) (fun x y e => ?_)
              rw [th_ch s2 hrM] at e
              split at e
              · omega
              · exact e
            have hd := dff_out hc (P.length + P2.length) P P2 (Nat.le_refl _) hL1.1 hL2.1 (fun q hq => by
              obtain ⟨p, p1, p2⟩ := Lst_in hc hL2 hL1 hsub q hq
              exact ⟨p, p1, ordC_s hc p2⟩)
            rw [hd] at hd0 ⊢
            split <;> omega
          · have hsub : ∀ w ∈ aW (DM fi ai) ms 0, w ∈ aW (chD (DM fi ai) s r v) ms 0 := by
              refine aW_s s2 hDJ' (fun _ _ _ => rfl) (fun _ => rfl) (fun x y e => ?_)
              rw [th_ch s2 hrM]
              split
              · exact hv1
              · exact e
            have hd := dff_in hc (P.length + P2.length) P P2 (Nat.le_refl _) hL1.1 hL2.1 (Lst_in hc hL1 hL2 hsub)
            rw [hd] at hd0 ⊢
            rw [if_pos hd0]
        have kA : ∀ b, b < 29 → b ≠ 20 → a2 b = ai b := fun b b0 b1 => (k2 b (by omega) (by omega)).trans (ka b (by omega) b1)
        have kB : ∀ b, (35 < b ∧ b < 156) ∨ 168 < b → b ≠ 130 → a2 b = ai b := fun b b0 b1 => (k2 b (by omega) b1).trans (ka b (by omega) (by omega))
        have kF : ∀ j b, b ≠ 25 → b ≠ 26 → ¬ (j = 94 ∧ b = 126) → ¬ (j = 103 ∧ b = 126) → f2 j b = fi j b := fun j b b0 b1 b2 b3 => (k1 j b b2 b3).trans (kf j b b0 b1)
        have eD2 : DD f2 a2 = chD (DD fi ai) s r v := by
          show (f2 10 17, a2 18, a2 19, a2 20, a2 21) = (fi 10 17, ai 18, ai 19, up (ai 20) (s * 16 + r) v, ai 21)
          rw [kF 10 17 (by omega) (by omega) (by omega) (by omega), kA 18 (by omega) (by omega), kA 19 (by omega) (by omega), kA 21 (by omega) (by omega), k2 20 (by omega) (by omega), e20]
        have e130 : a2 130 = up (ai 130) (s * 16 + r) v := by
          rw [k3, ka 130 (by omega) (by omega)]
        have eM2 : DM f2 a2 = chD (DM fi ai) s r v := by
          show (f2 54 126, a2 127, a2 128, a2 130, a2 129) = (fi 54 126, ai 127, ai 128, up (ai 130) (s * 16 + r) v, ai 129)
          rw [kF 54 126 (by omega) (by omega) (by omega) (by omega), kB 127 (by omega) (by omega), kB 128 (by omega) (by omega), kB 129 (by omega) (by omega), e130]
        refine ⟨by rw [hans], B1, B2, f2, a2, j', ms, P2, rfl, hB, ⟨by rw [eD2]; exact hDI', by rw [eM2]; exact hDJ', ?_, ?_, ?_, ?_, ?_⟩, h2.fr (fun j _ _ => kF j 23 (by omega) (by omega) (by omega) (by omega)) (kF 60 126 (by omega) (by omega) (by omega) (by omega)) (kA 24 (by omega) (by omega)) (kB 131 (by omega) (by omega)), iM.fr (by omega) h3 (fun j b b0 b1 => kF j b (by omega) (by omega) (by omega) (by omega)) (fun b b0 b1 => kB b (by omega) (by omega)) (kF 61 126 (by omega) (by omega) (by omega) (by omega)) (fun b b0 b1 => kB b (by omega) (by omega)) (by rw [eD2]; exact h3.2.2.2.2.1), h4.fr (kF 36 36 (by omega) (by omega) (by omega) (by omega)) (kF 109 126 (by omega) (by omega) (by omega) (by omega)) (kB 37 (by omega) (by omega)) (kB 169 (by omega) (by omega)), ⟨k4, k5, by rw [eM2]; exact k6⟩, ?_, (kA 1 (by omega) (by omega)).trans h7⟩
        · rw [kF 54 126 (by omega) (by omega) (by omega) (by omega), kF 10 17 (by omega) (by omega) (by omega) (by omega)]
          exact s3
        · rw [kB 127 (by omega) (by omega), kA 18 (by omega) (by omega)]
          exact s4
        · rw [kB 128 (by omega) (by omega), kA 19 (by omega) (by omega)]
          exact s5
        · rw [e130, k2 20 (by omega) (by omega), e20, s6]
        · rw [eD2, eM2]
          exact s7
        · rw [eD2]
          exact cSt_fr EqD.rf r5 (k1 31 25 (by omega) (by omega)) (k1 30 25 (by omega) (by omega)) (k1 27 25 (by omega) (by omega)) (fun b b0 b1 => k2 b (by omega) (by omega)) rfl rfl
theorem pJoin_q {D E : DT} (h : D.1 = E.1) (hc : ∀ s, co D s = co E s) (t : Int → Int) (s m c a b : Int) : pJoin t D s m c a b = pJoin t E s m c a b := by
  unfold pJoin
  rw [h]
  simp only [hc]
theorem pObj_q {D E : DT} (h : D.1 = E.1) (hc : ∀ s, co D s = co E s) (t : Int → Int) (s m : Int) (σ : Tk) : pObj t D s m σ = pObj t E s m σ := by
  unfold pObj
  simp only [pJoin_q h hc]
theorem pMap_q {D E : DT} (h : D.1 = E.1) (hc : ∀ s, co D s = co E s) (t : Int → Int) (b : Int) : pMap t D b = pMap t E b := by
  unfold pMap
  rw [h]
  simp only [hc, pObj_q h hc]
theorem pAll_q {D E : DT} (h : D.1 = E.1) (hc : ∀ s, co D s = co E s) (t : Int → Int) : ∀ (k : Nat) (σ : Tk) (l : List MT), pAll t D k σ l = pAll t E k σ l
  | 0, _, _ => rfl
  | k + 1, σ, l => by
    show (if σ.2.1 = 7168368 then pb (pMap t D σ.2.2.2) fun x => pAll t D k x.2 (l ++ [x.1]) else if σ.2.1 = -1 then .inr l else .inl (-10 - σ.1)) = (if σ.2.1 = 7168368 then pb (pMap t E σ.2.2.2) fun x => pAll t E k x.2 (l ++ [x.1]) else if σ.2.1 = -1 then .inr l else .inl (-10 - σ.1))
    rw [pMap_q h hc, funext (fun x : MT × Tk => pAll_q h hc t k x.2 (l ++ [x.1]))]
theorem p_read {L B1 B2 : Nat} {fi : Nat → Nat → Int} {ai aj : Nat → Int → Int} {ms : List MT} {P : List Int} {A1 : Int → Int} (h : iA B1 B2 fi ai aj ms P A1) : PR L A1 m_MT_read m_Mo_read [] (HH L B1 B2 fi ai aj) := by
  obtain ⟨hB, h1, h2, h3, h4, h5, h6, h7⟩ := id h
  obtain ⟨s1, s2, s3, s4, s5, s6, s7⟩ := id h1
  obtain ⟨t1, t2, t3, t4⟩ := id h2
  have hTI := t3.1
  generalize ht : tx (fi 14 23) (ai 24) = t
  have htM : tx (fi 60 126) (ai 131) = t := by
    rw [t1, t2]
    exact ht
  have hTM : txI (fi 60 126) (ai 131) := by
    rw [t1, t2]
    exact hTI
  have hq := pAll_q (D := DD fi ai) (E := DM fi ai) (show fi 10 17 = fi 54 126 from s3.symm) h1.co t 6 (lx t 0 0) []
  generalize hR : pAll t (DM fi ai) 6 (lx t 0 0) [] = R
  rw [hR] at hq
  have he : ∀ e, R = .inl e → -1501 ≤ e ∧ e ≤ -10 := by
    intro e e1
    obtain ⟨v0, h0, -, hh⟩ := c_Mo_read 4 L B1 B2 fi ai aj (DM fi ai) t rfl s2 hTM htM
    rw [hR, e1] at hh
    exact hh.2.1
  have hll : ∀ l, R = .inr l → l.length ≤ 6 ∧ ((prA l).length : Int) ≤ 608 ∧ ∀ x ∈ l, wfM (DD fi ai) x := by
    intro l e1
    have hh := hq
    rw [e1, ← ht] at hh
    refine pAll_b hTI s1 6 0 [] l ⟨by omega, hTI.1⟩ hh rfl ?_ (fun x hx => by cases hx)
    have := (lx_in hTI 0 0 (by omega) hTI.1 ⟨by omega, by omega⟩).1
    show ((0 : Nat) : Int) ≤ (lx (tx (fi 14 23) (ai 24)) 0 0).1 + 18 * ((0 : Nat) : Int)
    omega
  refine (c_MT_read 3 L B1 B2 fi ai aj R hB s1 t3 (by rw [ht, t4]; exact hq) he (fun l e => (hll l e).1)).mono ?_
  rintro v h' ⟨f', a', k1, k2, k3, k4, k5, k6⟩
  have e60 : f' 60 126 = fi 60 126 := k1 60 126 (by omega) (by omega) (by omega) (by omega)
  have e131 : a' 131 = ai 131 := k2 131 (by omega)
  have eM : DM f' a' = DM fi ai := DM_f2 (k1 54 126 (by omega) (by omega) (by omega) (by omega)) (fun b b0 b1 => k2 b (by omega))
  have eD : DD f' a' = DD fi ai := DD_f2 (k1 10 17 (by omega) (by omega) (by omega) (by omega)) (fun b b0 b1 => k2 b (by omega))
  cases R with
  | inl e =>
    obtain ⟨rfl, rfl, k7⟩ := k6
    have her := he e rfl
    refine ⟨e, B1, B2, f', a', aj, rfl, ⟨by omega, by omega⟩, rfl, (k2 1 (by omega)).trans h7, ?_⟩
    have hc := c_Mo_read 4 L B1 B2 f' a' aj (DM fi ai) t eM s2 (by rw [e60, e131]; exact hTM) (by rw [e60, e131]; exact htM)
    rw [hR] at hc
    refine hc.mono ?_
    rintro v2 h2' ⟨rfl, -, f2, a2, rfl, m1, m2, m3, m4, m5⟩
    have kF : ∀ j b, b ≠ 22 → b ≠ 23 → (b < B2 ∨ B2 + 44 ≤ b) → ¬ (j = 31 ∧ b = 25) → (b ≠ 126 ∨ (j ≠ 60 ∧ j ≠ 61 ∧ j ≠ 74 ∧ j ≠ 94 ∧ (j < 87 ∨ 93 < j))) → f2 j b = fi j b := fun j b b0 b1 b2 b3 b4 => (m1 j b b4).trans (k1 j b b0 b1 b2 b3)
    have kA : ∀ b, (b < B2 ∨ B2 + 44 ≤ b) → (b < 144 ∨ 155 < b) → a2 b = ai b := fun b b0 b1 => (m5 b b1).trans (k2 b b0)
    have eM2 : DM f2 a2 = DM fi ai := DM_f2 (kF 54 126 (by omega) (by omega) (by omega) (by omega) (by omega)) (fun b b0 b1 => kA b (by omega) (by omega))
    have eD2 : DD f2 a2 = DD fi ai := DD_f2 (kF 10 17 (by omega) (by omega) (by omega) (by omega) (by omega)) (fun b b0 b1 => kA b (by omega) (by omega))
    refine ⟨rfl, B1, B2, f2, a2, aj, ms, P, rfl, hB, h1.fr (kF 10 17 (by omega) (by omega) (by omega) (by omega) (by omega)) (kF 54 126 (by omega) (by omega) (by omega) (by omega) (by omega)) (fun b b0 b1 => kA b (by omega) (by omega)) (fun b b0 b1 => kA b (by omega) (by omega)), ⟨?_, ?_, ?_, ?_⟩, iM.fr (by omega) h3 (fun j b b0 b1 => kF j b (by omega) (by omega) (by omega) (by omega) (by omega)) (fun b b0 b1 => kA b (by omega) (by omega)) (m3.trans (k1 61 126 (by omega) (by omega) (by omega) (by omega))) (fun b b0 b1 => kA b (by omega) (by omega)) (by rw [eD2]; exact h3.2.2.2.2.1), h4.fr (kF 36 36 (by omega) (by omega) (by omega) (by omega) (by omega)) (kF 109 126 (by omega) (by omega) (by omega) (by omega) (by omega)) (kA 37 (by omega) (by omega)) (kA 169 (by omega) (by omega)), h5.fr (m4.trans (k1 94 126 (by omega) (by omega) (by omega) (by omega))) (fun b b0 b1 => kA b (by omega) (by omega)) (by rw [eM2]; exact EqD.rf), ?_, (kA 1 (by omega) (by omega)).trans h7⟩
    · rw [m2, m1 14 23 (by omega), k3]
    · rw [kA 131 (by omega) (by omega), kA 24 (by omega) (by omega)]
      exact t2
    · unfold LI
      rw [m1 14 23 (by omega), m1 15 23 (by omega), m1 16 23 (by omega), m1 17 23 (by omega), m1 18 23 (by omega), m5 24 (by omega)]
      exact k5
    · rw [m1 15 23 (by omega)]
      exact k4
    · rw [eD2]
      refine cSt_fr EqD.rf h6 ?_ (kF 30 25 (by omega) (by omega) (by omega) (by omega) (by omega)) (kF 27 25 (by omega) (by omega) (by omega) (by omega) (by omega)) (fun b b0 b1 => kA b (by omega) (by omega)) rfl rfl
      rw [m1 31 25 (by omega)]
      exact k7
  | inr l =>
    obtain ⟨rfl, rfl, k7, k8⟩ := k6
    obtain ⟨l6, lp, lw⟩ := hll l rfl
    refine ⟨_, B2, B1, f', a', aj, rfl, ⟨by omega, by omega⟩, rfl, (k2 1 (by omega)).trans h7, ?_⟩
    have hc := c_Mo_read 4 L B2 B1 f' a' aj (DM fi ai) t eM s2 (by rw [e60, e131]; exact hTM) (by rw [e60, e131]; exact htM)
    rw [hR] at hc
    refine hc.mono ?_
    rintro v2 h2' ⟨rfl, -, -, f2, a2, P2, rfl, m1, m2, m3, m4, m5, m6, m7, m8⟩
    have kF : ∀ j b, b ≠ 22 → b ≠ 23 → (b < B2 ∨ B2 + 44 ≤ b) → ¬ (j = 31 ∧ b = 25) → (b ≠ 126 ∨ (j ≠ 60 ∧ j ≠ 61 ∧ j ≠ 74 ∧ j ≠ 94 ∧ (j < 87 ∨ 93 < j))) → f2 j b = fi j b := fun j b b0 b1 b2 b3 b4 => (m1 j b b4).trans (k1 j b b0 b1 b2 b3)
    have kA : ∀ b, (b < B2 ∨ B2 + 44 ≤ b) → (b < 132 ∨ 163 < b) → a2 b = ai b := fun b b0 b1 => (m5 b b1).trans (k2 b b0)
    have eM2 : DM f2 a2 = DM fi ai := DM_f2 (kF 54 126 (by omega) (by omega) (by omega) (by omega) (by omega)) (fun b b0 b1 => kA b (by omega) (by omega))
    have eD2 : DD f2 a2 = DD fi ai := DD_f2 (kF 10 17 (by omega) (by omega) (by omega) (by omega) (by omega)) (fun b b0 b1 => kA b (by omega) (by omega))
    refine ⟨rfl, B2, B1, f2, a2, aj, l, P2, rfl, by omega, h1.fr (kF 10 17 (by omega) (by omega) (by omega) (by omega) (by omega)) (kF 54 126 (by omega) (by omega) (by omega) (by omega) (by omega)) (fun b b0 b1 => kA b (by omega) (by omega)) (fun b b0 b1 => kA b (by omega) (by omega)), ⟨?_, ?_, ?_, ?_⟩, ⟨l6, RepL_fr (by omega) l6 k8 (fun j b b0 b1 => m1 j b (by omega)) (fun b b0 b1 => m5 b (by omega)), m4, m3, by rw [eD2]; exact lw, by omega⟩, h4.fr (kF 36 36 (by omega) (by omega) (by omega) (by omega) (by omega)) (kF 109 126 (by omega) (by omega) (by omega) (by omega) (by omega)) (kA 37 (by omega) (by omega)) (kA 169 (by omega) (by omega)), ⟨m6 (fun k => by rw [k2 156 (by omega)]; exact h5.1 k), m7, by rw [eM2]; exact m8⟩, Or.inr ?_, (kA 1 (by omega) (by omega)).trans h7⟩
    · rw [m2, m1 14 23 (by omega), k3]
    · rw [kA 131 (by omega) (by omega), kA 24 (by omega) (by omega)]
      exact t2
    · unfold LI
      rw [m1 14 23 (by omega), m1 15 23 (by omega), m1 16 23 (by omega), m1 17 23 (by omega), m1 18 23 (by omega), m5 24 (by omega)]
      exact k5
    · rw [m1 15 23 (by omega)]
      exact k4
    · rw [m1 31 25 (by omega)]
      exact k7
