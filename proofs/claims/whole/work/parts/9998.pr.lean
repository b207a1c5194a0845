-- pairs of calls: row, change, read
theorem ce_row {n x k a b c e : Int} {C r t f g : Int → Int} (hI : DI (n, C, r, t, f)) (hx : 0 ≤ x ∧ x < n) (hy : r x < 16) (hk : co (n, C, r, t, f) x = k) (hP : rwP f g x (r x) k a b c e) (s y z : Int) : ce (n, C, up r x (r x + 1), up t (x * 16 + r x) 1, g) s y z = if s = x ∧ y = r x then (if 0 ≤ z ∧ z < k then nn (rwV a b c e z) else -1) else ce (n, C, r, t, f) s y z := by
  have hn : 0 ≤ n ∧ n ≤ 4 := hI.1
  have hr0 : 0 ≤ r x ∧ r x ≤ 16 := hI.2.2.1 x (by omega) (by omega)
  have hro : ∀ s, ro (n, C, up r x (r x + 1), up t (x * 16 + r x) 1, g) s = if s = x then r x + 1 else ro (n, C, r, t, f) s := by
    intro s
    show (if s < 0 ∨ n ≤ s then 0 else up r x (r x + 1) s) = if s = x then r x + 1 else (if s < 0 ∨ n ≤ s then 0 else r s)
    by_cases q : s = x
    · subst q
      rw [if_neg (by omega), up_s, if_pos rfl]
    · rw [up_n _ _ q, if_neg q]
  have hrx : ro (n, C, r, t, f) x = r x := if_neg (by show ¬ (x < 0 ∨ n ≤ x); omega)
  show (if 0 ≤ y ∧ y < ro (n, C, up r x (r x + 1), up t (x * 16 + r x) 1, g) s ∧ 0 ≤ z ∧ z < co (n, C, r, t, f) s then g ((s * 16 + y) * 4 + z) else -1) = _
  rw [hro]
  by_cases q : s = x ∧ y = r x
  · obtain ⟨q1, q2⟩ := q
    subst q1
    rw [if_pos (show s = s from rfl), if_pos (show s = s ∧ y = r s from ⟨rfl, q2⟩), hk]
    by_cases q3 : 0 ≤ z ∧ z < k
    · rw [if_pos q3, if_pos (by omega), q2]
      exact hP.1 z q3.1 q3.2
    · rw [if_neg q3, if_neg (by omega)]
  · rw [if_neg q]
    show _ = (if 0 ≤ y ∧ y < ro (n, C, r, t, f) s ∧ 0 ≤ z ∧ z < co (n, C, r, t, f) s then f ((s * 16 + y) * 4 + z) else -1)
    have hro2 := ro_in s hI
    have hco2 := co_in s hI
    by_cases q1 : s = x
    · subst q1
      rw [if_pos rfl, hrx]
      by_cases q2 : 0 ≤ y ∧ y < r s ∧ 0 ≤ z ∧ z < co (n, C, r, t, f) s
      · rw [if_pos q2, if_pos (by omega)]
        exact hP.2.1 _ (by omega)
      · rw [if_neg q2, if_neg (by omega)]
    · rw [if_neg q1]
      by_cases q2 : 0 ≤ y ∧ y < ro (n, C, r, t, f) s ∧ 0 ≤ z ∧ z < co (n, C, r, t, f) s
      · rw [if_pos q2, if_pos q2]
        have := hro2.2.2 (by omega)
        exact hP.2.1 _ (by omega)
      · rw [if_neg q2, if_neg q2]
theorem p_row {L B1 B2 : Nat} {fi : Nat → Nat → Int} {ai aj : Nat → Int → Int} {ms : List MT} {P : List Int} {A1 : Int → Int} (h : iA B1 B2 fi ai aj ms P A1) (x a b c e : Int) (hx : am_R x) (ha : am_R a) (hb : am_R b) (hc : am_R c) (he : am_R e) : PR L A1 m_MT_row m_Mo_row [.inl x, .inl a, .inl b, .inl c, .inl e] (HH L B1 B2 fi ai aj) := by
  obtain ⟨hB, h1, h2, h3, h4, h5, h6, h7⟩ := id h
  obtain ⟨s1, s2, s3, s4, s5, s6, s7⟩ := id h1
  have hco := h1.co x
  have hkr := co_in x s1
  have hn : 0 ≤ fi 10 17 ∧ fi 10 17 ≤ 4 := s1.1
  refine (c_MT_row 8 L B1 B2 fi ai aj x a b c e hx ha hb hc he s1).mono ?_
  generalize hk : co (DD fi ai) x = k at hco hkr
  rintro v h' (⟨r1, rfl, rfl⟩ | ⟨r1, r2, rfl, rfl⟩ | ⟨r1, r2, rfl, g, r3, rfl⟩)
  · refine ⟨_, B1, B2, fi, ai, aj, rfl, ⟨by omega, by omega⟩, rfl, h7, ?_⟩
    have hcc := c_Mo_row 5 L B1 B2 fi ai aj ms x a b c e hx ha hb hc he s2 h3.1 h3.2.2.2.1 h3.2.2.1 h.w
    rw [← hco] at hcc
    refine hcc.mono ?_
    rintro v2 h2' (⟨q1, rfl, rfl⟩ | ⟨q1, -⟩ | ⟨q1, -⟩)
    · exact ⟨rfl, B1, B2, fi, ai, aj, ms, P, rfl, h⟩
    · exact absurd q1 r1
    · exact absurd q1 r1
  · refine ⟨_, B1, B2, fi, ai, aj, rfl, ⟨by omega, by omega⟩, rfl, h7, ?_⟩
    have hcc := c_Mo_row 5 L B1 B2 fi ai aj ms x a b c e hx ha hb hc he s2 h3.1 h3.2.2.2.1 h3.2.2.1 h.w
    rw [← hco] at hcc
    refine hcc.mono ?_
    rintro v2 h2' (⟨q1, -⟩ | ⟨q1, q2, rfl, rfl⟩ | ⟨q1, q2, -⟩)
    · exact absurd r1 q1
    · exact ⟨rfl, B1, B2, fi, ai, aj, ms, P, rfl, h⟩
    · rw [s5] at q2
      omega
  · have hxv := hkr.2.2 (by have := r1.1; omega)
    have hxn : 0 ≤ x ∧ x < fi 10 17 := ⟨hxv.1, hxv.2.2.1⟩
    have hy0 : 0 ≤ ai 19 x ∧ ai 19 x ≤ 16 := s1.2.2.1 x hxv.1 hxv.2.1
    refine ⟨_, B1, B2, _, _, aj, rfl, ⟨by omega, by omega⟩, rfl, h7, ?_⟩
    generalize hF1 : am_u2 fi 31 25 1 = F1
    generalize hA1 : rwH ai 19 20 21 g x (ai 19 x) = a1
    have kF1 : ∀ j b, ¬ (j = 31 ∧ b = 25) → F1 j b = fi j b := by
      intro j b b0
      rw [← hF1, u2x b0]
    have e31 : F1 31 25 = 1 := by rw [← hF1]; exact u2s
    have ka1 : ∀ b, b < 19 ∨ 21 < b → a1 b = ai b := by
      intro b b0
      rw [← hA1]
      unfold rwH am_sa
      rw [if_neg (by omega), if_neg (by omega), if_neg (by omega)]
    have eM1 : DM F1 a1 = DM fi ai := DM_f2 (kF1 54 126 (by omega)) (fun b b0 b1 => ka1 b (by omega))
    have hRef1 : ∀ (i : Nat) (y : MT), ms[i]? = some y → RefB a1 (i : Int) y := by
      intro i y hy
      have := h3.2.2.1 i y hy
      unfold RefB
      rw [ka1 132 (by omega), ka1 133 (by omega), ka1 134 (by omega), ka1 135 (by omega), ka1 136 (by omega), ka1 137 (by omega), ka1 138 (by omega), ka1 139 (by omega), ka1 140 (by omega), ka1 141 (by omega), ka1 142 (by omega), ka1 143 (by omega)]
      exact this
    have hcc := c_Mo_row 5 L B1 B2 F1 a1 aj ms x a b c e hx ha hb hc he (by rw [eM1]; exact s2) h3.1 ((kF1 61 126 (by omega)).trans h3.2.2.2.1) hRef1 (by rw [eM1]; exact h.w)
    rw [eM1, ← hco] at hcc
    have e128 : a1 128 = ai 19 := (ka1 128 (by omega)).trans s5
    have e129 : a1 129 = ai 129 := ka1 129 (by omega)
    have e130 : a1 130 = ai 20 := (ka1 130 (by omega)).trans s6
    have e127 : a1 127 = ai 18 := (ka1 127 (by omega)).trans s4
    have e54 : F1 54 126 = fi 10 17 := (kF1 54 126 (by omega)).trans s3
    refine hcc.mono ?_
    rintro v2 h2' (⟨q1, -⟩ | ⟨q1, q2, -⟩ | ⟨q1, q2, rfl, g', f', a', q3, rfl, q4⟩)
    · exact absurd r1 q1
    · rw [e128] at q2
      omega
    · rw [e128] at q2 q3 q4 ⊢
      rw [e129] at q3
      obtain ⟨hFN, P', p1, p2⟩ := q4
      have hDM : DM F1 (rwH a1 128 130 129 g' x (ai 19 x)) = (fi 10 17, ai 18, up (ai 19) x (ai 19 x + 1), up (ai 20) (x * 16 + ai 19 x) 1, g') := by
        show (F1 54 126, a1 127, up (a1 128) x (ai 19 x + 1), up (a1 130) (x * 16 + ai 19 x) 1, g') = _
        rw [e54, e127, e128, e130]
      rw [hDM] at p2
      have kf : ∀ j b, ¬ (j = 94 ∧ b = 126) → ¬ (j = 31 ∧ b = 25) → f' j b = fi j b := fun j b b0 b1 => (hFN.1 j b b0).trans (kF1 j b b1)
      have ka2 : ∀ b, b < 156 ∨ 163 < b → b ≠ 128 → b ≠ 129 → b ≠ 130 → a' b = a1 b := by
        intro b b0 b1 b2 b3
        rw [hFN.2.1 b b0]
        unfold rwH am_sa
        rw [if_neg b2, if_neg b3, if_neg b1]
      have hDM' : DM f' a' = (fi 10 17, ai 18, up (ai 19) x (ai 19 x + 1), up (ai 20) (x * 16 + ai 19 x) 1, g') := by
        rw [← hDM]
        exact DM_f2 (hFN.1 54 126 (by omega)) (fun b b0 b1 => hFN.2.1 b (by omega))
      have hDD' : DD f' a' = (fi 10 17, ai 18, up (ai 19) x (ai 19 x + 1), up (ai 20) (x * 16 + ai 19 x) 1, g) := by
        show (f' 10 17, a' 18, a' 19, a' 20, a' 21) = _
        rw [kf 10 17 (by omega) (by omega), ka2 18 (by omega) (by omega) (by omega) (by omega), ka2 19 (by omega) (by omega) (by omega) (by omega), ka2 20 (by omega) (by omega) (by omega) (by omega), ka2 21 (by omega) (by omega) (by omega) (by omega), ← hA1]
        rfl
      have sM : DI (fi 10 17, ai 18, ai 19, ai 20, ai 129) := by
        have := s2
        unfold DM at this
        rw [s3, s4, s5, s6] at this
        exact this
      have eMo : DM fi ai = (fi 10 17, ai 18, ai 19, ai 20, ai 129) := by
        unfold DM
        rw [s3, s4, s5, s6]
      have d1 := DI_row s1 hxn r2 r3.2.2
      have d2 := DI_row sM hxn r2 q3.2.2
      have hkM : co (fi 10 17, ai 18, ai 19, ai 20, ai 129) x = k := by
        rw [← eMo]
        exact hco.symm
      have hEq : EqC (DD f' a') (DM f' a') := by
        intro s y z
        rw [hDD', hDM', ce_row s1 hxn r2 hk r3, ce_row sM hxn r2 hkM q3, ← eMo, s7 s y z]
      refine ⟨rfl, B1, B2, f', a', aj, ms, P', rfl, hB, ⟨by rw [hDD']; exact d1, by rw [hDM']; exact d2, ?_, ?_, ?_, ?_, hEq⟩, h2.fr (fun j _ _ => kf j 23 (by omega) (by omega)) (kf 60 126 (by omega) (by omega)) ?_ ?_, ?_, h4.fr (kf 36 36 (by omega) (by omega)) (kf 109 126 (by omega) (by omega)) ?_ ?_, ⟨hFN.2.2 ?_, p1, ?_⟩, Or.inr ?_, ?_⟩
      · rw [kf 54 126 (by omega) (by omega), kf 10 17 (by omega) (by omega)]
        exact s3
      · exact (congrArg (fun D : DT => D.2.1) hDM').trans (congrArg (fun D : DT => D.2.1) hDD').symm
      · exact (congrArg (fun D : DT => D.2.2.1) hDM').trans (congrArg (fun D : DT => D.2.2.1) hDD').symm
      · exact (congrArg (fun D : DT => D.2.2.2.1) hDM').trans (congrArg (fun D : DT => D.2.2.2.1) hDD').symm
      · rw [ka2 24 (by omega) (by omega) (by omega) (by omega)]
        exact ka1 24 (by omega)
      · rw [ka2 131 (by omega) (by omega) (by omega) (by omega)]
        exact ka1 131 (by omega)
      · refine iM.fr (by omega) h3 (fun j b b0 b1 => kf j b (by omega) (by omega)) (fun b b0 b1 => (ka2 b (by omega) (by omega) (by omega) (by omega)).trans (ka1 b (by omega))) (kf 61 126 (by omega) (by omega)) (fun b b0 b1 => (ka2 b (by omega) (by omega) (by omega) (by omega)).trans (ka1 b (by omega))) (fun y hy => ?_)
        rw [hDD']
        exact h3.2.2.2.2.1 y hy
      · rw [ka2 37 (by omega) (by omega) (by omega) (by omega)]
        exact ka1 37 (by omega)
      · rw [ka2 169 (by omega) (by omega) (by omega) (by omega)]
        exact ka1 169 (by omega)
      · intro z
        show -128 ≤ a1 156 z ∧ a1 156 z < 128
        rw [ka1 156 (by omega)]
        exact h5.1 z
      · rw [hDM']
        exact p2
      · rw [hFN.1 31 25 (by omega)]
        exact e31
      · rw [ka2 1 (by omega) (by omega) (by omega) (by omega), ka1 1 (by omega)]
        exact h7
