-- the reference's change and read
theorem DI_th {n : Int} {c r t f : Int → Int} {i v : Int} (hI : DI (n, c, r, t, f)) (hv : v = 0 ∨ v = 1) : DI (n, c, r, up t i v, f) := by
  obtain ⟨i0, i1, i2, i3, i4, i5, i6⟩ := hI
  refine ⟨i0, i1, i2, ?_, i4, i5, i6⟩
  intro j p0 p1
  show up t i v j = 0 ∨ up t i v j = 1
  unfold up
  split
  · exact hv
  · exact i3 j p0 p1
def chD (D : DT) (s r v : Int) : DT := (D.1, D.2.1, D.2.2.1, up D.2.2.2.1 (s * 16 + r) v, D.2.2.2.2)
def chQ (L B1 B2 : Nat) (fi : Nat → Nat → Int) (ai aj : Nat → Int → Int) (D : DT) (ms : List MT) (P : List Int) (s r v : Int) : Option am_V → am_H → Prop := fun w h' => (¬ (0 ≤ r ∧ r < ro D s) ∧ w = some (.inl (-1)) ∧ h' = HH L B1 B2 fi ai aj) ∨ ((0 ≤ r ∧ r < ro D s) ∧ th D s r = v ∧ w = some (.inl 0) ∧ h' = HH L B1 B2 fi ai aj) ∨ ((0 ≤ r ∧ r < ro D s) ∧ ¬ th D s r = v ∧ ∃ f' a' P', w = some (.inl (dff (cD D ms) (P.length + P'.length) P P')) ∧ h' = HH L B1 B2 f' a' aj ∧ (∀ j b, ¬ (j = 94 ∧ b = 126) → ¬ (j = 103 ∧ b = 126) → f' j b = fi j b) ∧ (∀ b, b < 156 ∨ 168 < b → b ≠ 130 → a' b = ai b) ∧ a' 130 = up (ai 130) (s * 16 + r) v ∧ byR a' ∧ f' 94 126 = (P'.length : Int) ∧ GS (cD (chD D s r v) ms) (TMf (chD D s r v) ms) (gF ms) a' P' (aW (chD D s r v) ms 0))
set_option maxHeartbeats 400000 in
set_option maxRecDepth 100000 in
theorem c_Mo_change (d L B1 B2 : Nat) (fi : Nat → Nat → Int) (ai aj : Nat → Int → Int) (D : DT) (ms : List MT) (P : List Int) (s r v : Int) (hs : am_R s) (hr0 : am_R r) (hv : v = 0 ∨ v = 1) (eD : DM fi ai = D) (hI : DI D) (h6 : ms.length ≤ 6) (h61 : fi 61 126 = (ms.length : Int)) (hr : ∀ (i : Nat) (x : MT), ms[i]? = some x → RefB ai (i : Int) x) (hw : ∀ x ∈ ms, wfM D x) (hb : byR ai) (hP : fi 94 126 = (P.length : Int)) (hG : GS (cD D ms) (TMf D ms) (gF ms) ai P (aW D ms 0)) : am_M am_prog (d + 6) m_Mo_change [.inr (.inr 126), .inl s, .inl r, .inl v] (HH L B1 B2 fi ai aj) (chQ L B1 B2 fi ai aj D ms P s r v) := by
  have ok126 : am_ok (HH L B1 B2 fi ai aj) 126 10 := okI rfl rfl rfl
  refine am_W.of rfl rfl ?_
  refine am_W.cv 10 m_Mo_isRow rfl rfl rfl rfl ⟨trivial, ok126⟩ (c_isRow (d + 3) L B1 B2 fi ai aj s r hs hr0 (by rw [eD]; exact hI)) ?_
  rintro r1 h1 ⟨rfl, rfl⟩
  rw [eD]
  by_cases h1 : 0 ≤ r ∧ r < ro D s
  · rw [if_pos h1]
    refine am_W.br rfl rfl ⟨trivial, ⟨by omega, by omega⟩⟩ (fun z => ?_) (fun z => absurd (by decide) z)
    have hro := ro_in s hI
    have hsv := hro.2.2 (by omega)
    have hn4 := hI.1
    have oT : am_okr (HH L B1 B2 fi ai aj) (am_fr (HH L B1 B2 fi ai aj) 58 126) 1002 (16 * s + r) := okrI rfl rfl (t := 1002) (N := 64) rfl rfl (by omega) (by omega)
    have eT : am_ai (HH L B1 B2 fi ai aj) (am_fr (HH L B1 B2 fi ai aj) 58 126) (16 * s + r) = th D s r := by
      unfold th
      rw [if_pos h1, ← eD, show 16 * s + r = s * 16 + r by omega]
      rfl
    have h01 := th_01 hI s r
    by_cases h2 : th D s r = v
    · refine am_W.br rfl rfl ⟨⟨⟨trivial, ok126⟩, oT⟩, by rw [eT]; exact ⟨by omega, by omega⟩, ⟨by omega, by omega⟩⟩ (fun z => absurd (by rw [eT]; exact h2) z) (fun z => ?_)
      exact am_W.rt rfl rfl ⟨trivial, trivial⟩ (Or.inr (Or.inl ⟨h1, h2, rfl, rfl⟩))
    · refine am_W.br rfl rfl ⟨⟨⟨trivial, ok126⟩, oT⟩, by rw [eT]; exact ⟨by omega, by omega⟩, ⟨by omega, by omega⟩⟩ (fun z => ?_) (fun z => absurd (by rw [eT]; exact h2) z)
      have hPl := Lst_len (cD_ord D ms) hG.1
      have hlen := (aW_in hI ms 0).1
      refine am_W.cv 10 m_Mo_keepOld rfl rfl rfl rfl ⟨trivial, ok126⟩ (c_keepOld (d + 4) L B1 B2 fi ai aj (P.length : Int) hP ⟨by omega, by omega⟩ hb) ?_
      rintro w1 h1' ⟨rfl, a1, rfl, hk⟩
      refine am_W.gp 45 rfl ⟨⟨trivial, okI rfl rfl rfl⟩, okaI rfl rfl (t := 1002) (N := 64) rfl rfl (by omega) (by omega), hv⟩ ?_
      simp only [HS, FRS]
      rw [show 16 * s + r = s * 16 + r by omega, u2_sa]
      have e130 : a1 130 = ai 130 := hk.1 130 (by omega)
      have hD' : DI (chD D s r v) := DI_th (n := D.1) (c := D.2.1) (r := D.2.2.1) (t := D.2.2.2.1) (f := D.2.2.2.2) hI hv
      have eD' : DM (am_u2 fi 103 126 (P.length : Int)) (am_sa a1 130 (up (a1 130) (s * 16 + r) v)) = chD D s r v := by
        rw [← eD]
        show (fi 54 126, a1 127, a1 128, up (a1 130) (s * 16 + r) v, a1 129) = (fi 54 126, ai 127, ai 128, up (ai 130) (s * 16 + r) v, ai 129)
        rw [e130, hk.1 127 (by omega), hk.1 128 (by omega), hk.1 129 (by omega)]
      have hRef : ∀ (i : Nat) (x : MT), ms[i]? = some x → RefB (am_sa a1 130 (up (a1 130) (s * 16 + r) v)) (i : Int) x := by
        intro i x hx
        have h0 := hr i x hx
        have e : ∀ b, 132 ≤ b → b < 144 → am_sa a1 130 (up (a1 130) (s * 16 + r) v) b = ai b := by
          intro b b0 b1
          unfold am_sa
          rw [if_neg (by omega)]
          exact hk.1 b (by omega)
        unfold RefB
        rw [e 132 (by omega) (by omega), e 133 (by omega) (by omega), e 134 (by omega) (by omega), e 135 (by omega) (by omega), e 136 (by omega) (by omega), e 137 (by omega) (by omega), e 138 (by omega) (by omega), e 139 (by omega) (by omega), e 140 (by omega) (by omega), e 141 (by omega) (by omega), e 142 (by omega) (by omega), e 143 (by omega) (by omega)]
        exact h0
      have hw' : ∀ x ∈ ms, wfM (chD D s r v) x := hw
      have hE : EqC D (chD D s r v) := fun _ _ _ => rfl
      have hEt := TMf_q hE ms
      have hEc := cD_q hE ms
      refine am_W.cv 10 m_Mo_give rfl rfl rfl rfl ⟨trivial, okI rfl rfl rfl⟩ (c_give d L B1 B2 _ _ aj (chD D s r v) ms eD' hD' h6 h61 hRef hw') ?_
      rintro w2 h2' ⟨rfl, f', a', rfl, hF, P', hP', hG'⟩
      have hPl' := Lst_len (cD_ord (chD D s r v) ms) hG'.1
      have hlen' := (aW_in hD' ms 0).1
      have hpa : ∀ p ∈ P, p ∈ aW D ms 0 := fun p hp => ((hG.1.2.1 p).mp hp).1
      have hpa' : ∀ p ∈ P', p ∈ aW (chD D s r v) ms 0 := fun p hp => ((hG'.1.2.1 p).mp hp).1
      have hK : ∀ p ∈ P, KOw (cD (chD D s r v) ms) (TMf (chD D s r v) ms) (gF ms) p := by
        intro p hp
        have := KO_all hI hw (hpa p hp)
        rw [hEt] at this
        exact this
      have hK' : ∀ p ∈ P', KOw (cD (chD D s r v) ms) (TMf (chD D s r v) ms) (gF ms) p := fun p hp => KO_all hD' hw' (hpa' p hp)
      have ea : ∀ b, 164 ≤ b → b ≤ 168 → a' b = a1 b := by
        intro b b0 b1
        rw [hF.2.1 b (by omega)]
        unfold am_sa
        rw [if_neg (by omega)]
      refine am_W.cv 10 m_Mo_differences rfl rfl rfl rfl ⟨trivial, okI rfl rfl rfl⟩ (c_differences (d + 3) L B1 B2 f' a' aj (cD (chD D s r v) ms) (TMf (chD D s r v) ms) (gF ms) P P' hP' ((hF.1 103 126 (by decide)).trans (by exact u2s)) (by omega) (by omega) ?_ (fun i hi => ⟨(hG'.2.1 i hi).1, (hG'.2.1 i hi).2.1⟩) hK hK' (fun p hp q hq => cmT_k (fun n n0 n3 => ⟨(hK p hp).1 n n0 n3, (hK' q hq).1 n n0 n3⟩))) ?_
      · intro i hi
        obtain ⟨q1, q2, -⟩ := hG.2.1 i hi
        have e8 : a' 168 (i : Int) = ai 163 (i : Int) := by
          rw [ea 168 (by omega) (by omega)]
          exact (hk.2.2.2 (i : Int) (by omega) (by omega)).2
        rw [e8]
        refine ⟨q1, fun n n0 n3 => ?_, ?_⟩
        · have sA := slR_A q2 n n0 n3
          have hl := ((hK (gD P i) (gD_m hi)).1 n n0 n3).2.2.2.2
          rw [← hEt] at hl ⊢
          refine ⟨?_, ?_, fun j hj => ?_⟩
          · rw [ea 166 (by omega) (by omega), (hk.2.2.1 _ (by omega) (by omega)).2]
            exact sA.1
          · rw [ea 165 (by omega) (by omega), (hk.2.2.1 _ (by omega) (by omega)).1]
            exact sA.2.1
          · rw [ea 164 (by omega) (by omega), hk.2.1 _ (by omega) (by omega)]
            exact sA.2.2 j hj
        · rw [ea 167 (by omega) (by omega), (hk.2.2.2 _ (by omega) (by omega)).1]
          exact q2.2.2.2
      · rintro w3 h3' ⟨rfl, rfl⟩
        refine am_W.rt rfl rfl ⟨trivial, trivial⟩ (Or.inr (Or.inr ⟨h1, h2, f', a', P', ?_, rfl, ?_, ?_, ?_, ?_, hP', hG'⟩))
        · rw [hEc]
        · intro j b n1 n2
          rw [hF.1 j b n1]
          exact u2x n2
        · intro b b0 b1
          rw [hF.2.1 b (by omega)]
          unfold am_sa
          rw [if_neg b1]
          exact hk.1 b (by omega)
        · rw [hF.2.1 130 (by omega), ← e130]
          rfl
        · refine hF.2.2 ?_
          intro k
          show -128 ≤ a1 156 k ∧ a1 156 k < 128
          rw [hk.1 156 (by omega)]
          exact hb k
  · rw [if_neg h1]
    refine am_W.br rfl rfl ⟨trivial, ⟨by omega, by omega⟩⟩ (fun z => absurd rfl z) (fun z => ?_)
    exact am_W.rt rfl rfl ⟨trivial, trivial⟩ (Or.inl ⟨h1, rfl, rfl⟩)
theorem c_mnx0 (d L B1 B2 : Nat) (fi : Nat → Nat → Int) (ai aj : Nat → Int → Int) (t : Int → Int) (b : Int) (l1 : txI (fi 60 126) (ai 131)) (l2 : 0 ≤ fi 90 126 ∧ fi 90 126 ≤ fi 60 126) (et : tx (fi 60 126) (ai 131) = t) (eb : fi 90 126 = b) : am_M am_prog (d + 2) m_Mo_next [.inr (.inr 126)] (HH L B1 B2 fi ai aj) (fun w h' => w = none ∧ ∃ fi', h' = HH L B1 B2 fi' ai aj ∧ FM fi fi' ∧ fi' 91 126 = fi 91 126 ∧ LM fi' ai ∧ TM fi' (lx t b 0)) := by
  subst et eb
  have n1 := l1.2.1
  have hc := c_Mo_next d L B1 B2 fi ai aj (fi 87 126) (fi 88 126) (fi 89 126) (fi 90 126) 0 l1 l2.1 l2.2
  rw [mk_id] at hc
  refine hc.mono ?_
  rintro w h' ⟨rfl, tok, val, rfl, hT⟩
  have hi := lx_in l1 (fi 90 126) 0 l2.1 l2.2 ⟨by omega, by omega⟩
  have hT2 := hT
  unfold TR at hT2
  refine ⟨rfl, _, rfl, FM_mk, rfl, ⟨l1, ⟨?_, hi.2.2.2.2.2.2⟩, hT2.2.2.2.2.2.2.2.2.2.2.2.2.2.2.2.2.2.1, hT2.2.2.2.2.2.2.2.2.2.2.2.2.2.2.2.2.2.2, ⟨?_, ?_⟩⟩, ⟨rfl, rfl, hT, hi.2.2.2.1⟩⟩
  · show 0 ≤ (lx (tx (fi 60 126) (ai 131)) (fi 90 126) 0).2.2.2
    omega
  · show 0 ≤ (lx (tx (fi 60 126) (ai 131)) (fi 90 126) 0).1
    omega
  · show (lx (tx (fi 60 126) (ai 131)) (fi 90 126) 0).1 ≤ 500
    omega
theorem RefA_B {D : DT} {a a1 a2 a3 : Nat → Int → Int} {m : Int} {x : MT} (hI : DI D) (hw : wfM D x) (hm : 0 ≤ m ∧ m < 6) (h : RefA a m x) (c1 : cp6 a a1 6) (c2 : cp18 a1 a2 18) (c3 : cp540 a2 a3 540) : RefB a3 m x := by
  obtain ⟨p1, p2, p3, -, p5⟩ := wfM_q hI hw
  have h6 : ∀ b, (b = 132 ∨ 137 ≤ b) → b ≤ 143 → a3 b = a1 b := by
    intro b b0 b1
    rw [c3.1 b (by omega), c2.1 b (by omega)]
  have h18 : ∀ b, 133 ≤ b → b ≤ 135 → a3 b = a2 b := fun b b0 b1 => c3.1 b (by omega)
  have hq := c1.2 m hm.1 hm.2
  have e18 : ∀ k, 0 ≤ k → k < 18 → a3 133 k = a 145 k ∧ a3 134 k = a 146 k ∧ a3 135 k = a 147 k := by
    intro k k0 k1
    have := c2.2 k k0 k1
    rw [h18 133 (by omega) (by omega), h18 134 (by omega) (by omega), h18 135 (by omega) (by omega), ← c1.1 145 (by decide), ← c1.1 146 (by decide), ← c1.1 147 (by decide)]
    exact this
  have e540 : ∀ k, 0 ≤ k → k < 540 → a3 136 k = a 148 k := by
    intro k k0 k1
    rw [c3.2 k k0 k1, c2.1 148 (by decide), c1.1 148 (by decide)]
  obtain ⟨r1, r2, r3, r4, r5, r6, r7, r8, r9, r10⟩ := h
  refine ⟨?_, ?_, ?_, ?_, ?_, ?_, ?_, ?_, ?_, ?_⟩
  · rw [h6 132 (by omega) (by omega), hq.1]
    exact r1
  · have e := e18 (3 * m) (by omega) (by omega)
    exact r2.fr e.1 e.2.1 e.2.2 (fun k k0 k1 => e540 k (by omega) (by omega)) (fun q => (p1.2.1 q).1)
  · have e := e18 (3 * m + 1) (by omega) (by omega)
    exact r3.fr e.1 e.2.1 e.2.2 (fun k k0 k1 => e540 k (by omega) (by omega)) (fun q => (p2.2.1 q).1)
  · have e := e18 (3 * m + 2) (by omega) (by omega)
    exact r4.fr e.1 e.2.1 e.2.2 (fun k k0 k1 => e540 k (by omega) (by omega)) (fun q => ((p3 (by omega)).2.1 q).1)
  · rw [h6 137 (by omega) (by omega), hq.2.1]
    exact r5
  · rw [h6 138 (by omega) (by omega), h6 139 (by omega) (by omega), hq.2.2.1, hq.2.2.2.1]
    exact r6
  · rw [h6 141 (by omega) (by omega), hq.2.2.2.2.2.1]
    exact r7
  · rw [h6 142 (by omega) (by omega), hq.2.2.2.2.2.2.1]
    exact r8
  · rw [h6 143 (by omega) (by omega), hq.2.2.2.2.2.2.2]
    exact r9
  · rw [h6 140 (by omega) (by omega), hq.2.2.2.2.1]
    exact r10
def rdF (fi f' : Nat → Nat → Int) : Prop := ∀ j b, (b ≠ 126 ∨ (j ≠ 60 ∧ j ≠ 61 ∧ j ≠ 74 ∧ j ≠ 94 ∧ (j < 87 ∨ 93 < j))) → f' j b = fi j b
def rdQ (L B1 B2 : Nat) (fi : Nat → Nat → Int) (ai aj : Nat → Int → Int) (D : DT) (R : Int ⊕ List MT) : Option am_V → am_H → Prop := fun v h' => match R with
  | .inl e => v = some (.inl e) ∧ (-1501 ≤ e ∧ e ≤ -10) ∧ ∃ f' a', h' = HH L B1 B2 f' a' aj ∧ rdF fi f' ∧ f' 60 126 = 0 ∧ f' 61 126 = fi 61 126 ∧ f' 94 126 = fi 94 126 ∧ (∀ b, b < 144 ∨ 155 < b → a' b = ai b)
  | .inr l => v = some (.inl (l.length : Int)) ∧ l.length ≤ 6 ∧ (∀ x ∈ l, wfM D x) ∧ ∃ f' a' P, h' = HH L B1 B2 f' a' aj ∧ rdF fi f' ∧ f' 60 126 = 0 ∧ f' 61 126 = (l.length : Int) ∧ (∀ (i : Nat) (x : MT), l[i]? = some x → RefB a' (i : Int) x) ∧ (∀ b, b < 132 ∨ 163 < b → a' b = ai b) ∧ (byR ai → byR a') ∧ f' 94 126 = (P.length : Int) ∧ GS (cD D l) (TMf D l) (gF l) a' P (aW D l 0)
set_option maxHeartbeats 400000 in
set_option maxRecDepth 100000 in
theorem c_Mo_read (d L B1 B2 : Nat) (fi : Nat → Nat → Int) (ai aj : Nat → Int → Int) (D : DT) (t : Int → Int) (eD : DM fi ai = D) (hI : DI D) (hT : txI (fi 60 126) (ai 131)) (et : tx (fi 60 126) (ai 131) = t) : am_M am_prog (d + 7) m_Mo_read [.inr (.inr 126)] (HH L B1 B2 fi ai aj) (rdQ L B1 B2 fi ai aj D (pAll t D 6 (lx t 0 0) [])) := by
  refine am_W.of rfl rfl ?_
  refine am_W.gp 16 rfl (by repeat' first | trivial | exact okI rfl rfl rfl | exact Or.inl rfl | refine And.intro ?_ ?_) ?_
  simp only [HS, FRS]
  have hn := hT.1
  generalize hR : pAll t D 6 (lx t 0 0) [] = R
  generalize hf0 : am_u2 (am_u2 (am_u2 fi 74 126 0) 91 126 0) 90 126 0 = f0
  have k0 : ∀ j b, ¬ (b = 126 ∧ (j = 74 ∨ j = 91 ∨ j = 90)) → f0 j b = fi j b := by
    intro j b h
    rw [← hf0, u2x (by omega), u2x (by omega), u2x (by omega)]
  have e74 : f0 74 126 = 0 := by rw [← hf0]; rfl
  have e90 : f0 90 126 = 0 := by rw [← hf0]; rfl
  have e91 : f0 91 126 = 0 := by rw [← hf0]; rfl
  have e60 : f0 60 126 = fi 60 126 := k0 60 126 (by omega)
  have eD0 : DM f0 ai = D := by
    rw [← eD]
    unfold DM
    rw [k0 54 126 (by omega)]
  refine am_W.cv 10 m_Mo_next rfl rfl rfl rfl ⟨trivial, okI rfl rfl rfl⟩ (c_mnx0 (d + 4) L B1 B2 f0 ai aj t 0 (by rw [e60]; exact hT) (by rw [e60, e90]; omega) (by rw [e60]; exact et) e90) ?_
  rintro w1 h1 ⟨rfl, f1, rfl, g1, g2, g3, g4⟩
  refine l_mread d L B1 B2 f0 ai aj _ (by rw [eD0]; exact hI) t (by rw [e60]; exact et) R none ?_ 6 [] f1 ai (lx t 0 0) rfl g1.m4 (fun _ _ => rfl) (by rw [g2, e91]) g3 g4 ((g1 74 126 (by omega)).trans e74) (fun i x hx => by cases hx) (by rw [eD0]; exact hR.symm)
  rintro f a ⟨hF, hA, hm⟩
  refine am_W.gp 45 rfl (by repeat' first | trivial | exact okI rfl rfl rfl | exact Or.inl rfl | refine And.intro ?_ ?_) ?_
  simp only [HS, FRS]
  rw [eD0] at hm
  have kf : ∀ j b, (b ≠ 126 ∨ (j ≠ 74 ∧ (j < 87 ∨ 93 < j))) → f j b = fi j b := fun j b h => (hF j b h).trans (k0 j b (by omega))
  have ok126 : ∀ f a, am_ok (HH L B1 B2 f a aj) 126 10 := fun f a => okI rfl rfl rfl
  cases R with
  | inl e =>
    obtain ⟨m1, m2, m3, m4⟩ := hm
    have q91 : am_fi (HH L B1 B2 (am_u2 f 60 126 0) a aj) 91 126 = 1 := m1
    have q92 : am_fi (HH L B1 B2 (am_u2 f 60 126 0) a aj) 92 126 = f 92 126 := rfl
    have hend : rdF fi (am_u2 f 60 126 0) ∧ (am_u2 f 60 126 0) 60 126 = 0 ∧ (am_u2 f 60 126 0) 61 126 = fi 61 126 ∧ (am_u2 f 60 126 0) 94 126 = fi 94 126 := by
      refine ⟨fun j b h => ?_, rfl, kf 61 126 (by omega), kf 94 126 (by omega)⟩
      rw [u2x (by omega)]
      exact kf j b (by omega)
    refine am_W.br rfl rfl ⟨⟨trivial, ok126 _ _⟩, by rw [q91]; exact ⟨by omega, by omega⟩⟩ (fun z => absurd z (by rw [q91]; decide)) (fun z => ?_)
    refine am_W.br rfl rfl ⟨⟨trivial, ok126 _ _⟩, by rw [q92]; exact ⟨by omega, by omega⟩⟩ (fun z => ?_) (fun z => ?_)
    · rw [q92] at z
      rw [if_neg (by omega)] at m3
      refine am_W.rt rfl rfl ⟨⟨trivial, ok126 _ _⟩, trivial⟩ ⟨?_, ⟨by omega, by omega⟩, _, _, rfl, hend.1, hend.2.1, hend.2.2.1, hend.2.2.2, hA⟩
      rw [← m3]
      rfl
    · rw [q92] at z
      rw [if_pos (by omega)] at m3
      refine am_W.rt rfl rfl ⟨⟨trivial, ok126 _ _⟩, trivial⟩ ⟨?_, ⟨by omega, by omega⟩, _, _, rfl, hend.1, hend.2.1, hend.2.2.1, hend.2.2.2, hA⟩
      rw [← m3]
      rfl
  | inr l =>
    obtain ⟨m1, m2, m3, m4⟩ := hm
    have q91 : am_fi (HH L B1 B2 (am_u2 f 60 126 0) a aj) 91 126 = 0 := m1
    refine am_W.br rfl rfl ⟨⟨trivial, ok126 _ _⟩, by rw [q91]; exact ⟨by omega, by omega⟩⟩ (fun z => ?_) (fun z => absurd (by rw [q91]) z)
    refine am_W.gp 83 rfl (by repeat' first | trivial | exact okI rfl rfl rfl | refine And.intro ?_ ?_) ?_
    simp only [HS, FRS]
    have e74b : am_u2 f 60 126 0 74 126 = (l.length : Int) := m2
    rw [e74b]
    refine l_read6 (d + 6) L B1 B2 _ ai aj _ a ?_ 6 0 a (by omega) (by omega) ⟨fun _ _ => rfl, fun j j0 j1 => absurd j1 (by omega)⟩
    intro a1 c1
    refine am_W.gp 193 rfl trivial ?_
    refine l_read18 (d + 6) L B1 B2 _ ai aj _ a1 ?_ 18 0 a1 (by omega) (by omega) ⟨fun _ _ => rfl, fun j j0 j1 => absurd j1 (by omega)⟩
    intro a2 c2
    refine am_W.gp 243 rfl trivial ?_
    refine l_read540 (d + 6) L B1 B2 _ ai aj _ a2 ?_ 540 0 a2 (by omega) (by omega) ⟨fun _ _ => rfl, fun j j0 j1 => absurd j1 (by omega)⟩
    intro a3 c3
    have hA3 : ∀ b, b < 132 ∨ 155 < b → a3 b = ai b := by
      intro b hb
      rw [c3.1 b (by omega), c2.1 b (by omega), c1.1 b (by omega), hA b (by omega)]
    have hwl : ∀ x ∈ l, wfM D x := by
      intro x hx
      obtain ⟨i, hi, ei⟩ := List.mem_iff_getElem.mp hx
      exact (m4 i x (by rw [List.getElem?_eq_getElem hi, ei])).2
    have hRef : ∀ (i : Nat) (x : MT), l[i]? = some x → RefB a3 (i : Int) x := by
      intro i x hx
      have hi := (List.getElem?_eq_some_iff.mp hx).1
      exact RefA_B hI (m4 i x hx).2 ⟨by omega, by omega⟩ (m4 i x hx).1 c1 c2 c3
    generalize hf2 : am_u2 (am_u2 f 60 126 0) 61 126 (l.length : Int) = f2
    have kf2 : ∀ j b, (b ≠ 126 ∨ (j ≠ 60 ∧ j ≠ 61 ∧ j ≠ 74 ∧ (j < 87 ∨ 93 < j))) → f2 j b = fi j b := by
      intro j b h
      rw [← hf2, u2x (by omega), u2x (by omega)]
      exact kf j b (by omega)
    have e61 : f2 61 126 = (l.length : Int) := by rw [← hf2]; exact u2s
    have e60b : f2 60 126 = 0 := by rw [← hf2]; rfl
    have eD2 : DM f2 a3 = D := by
      rw [← eD]
      unfold DM
      rw [kf2 54 126 (by omega), hA3 127 (by omega), hA3 128 (by omega), hA3 129 (by omega), hA3 130 (by omega)]
    refine am_W.cv 10 m_Mo_give rfl rfl rfl rfl ⟨trivial, ok126 _ _⟩ (c_give (d + 1) L B1 B2 f2 a3 aj D l eD2 hI m3 e61 hRef hwl) ?_
    rintro w2 h2 ⟨rfl, f', a', rfl, hF', P, hP, hG⟩
    have e61' : f' 61 126 = (l.length : Int) := (hF'.1 61 126 (by decide)).trans e61
    have q61 : am_fi (HH L B1 B2 f' a' aj) 61 126 = (l.length : Int) := e61'
    refine am_W.rt rfl rfl ⟨⟨trivial, ok126 _ _⟩, trivial⟩ ⟨by rw [q61], m3, hwl, f', a', P, rfl, ?_, (hF'.1 60 126 (by decide)).trans e60b, e61', ?_, ?_, ?_, hP, hG⟩
    · intro j b h
      rw [hF'.1 j b (by omega)]
      exact kf2 j b (by omega)
    · intro i x hx
      exact RefB_fr (hRef i x hx) (fun b hb => hF'.2.1 b (by omega))
    · intro b hb
      rw [hF'.2.1 b (by omega)]
      exact hA3 b (by omega)
    · intro h
      refine hF'.2.2 ?_
      intro k
      rw [hA3 156 (by omega)]
      exact h k
