-- the reference's read: its loop
set_option maxHeartbeats 400000 in
set_option maxRecDepth 100000 in
theorem c_mmapNo (d L B1 B2 : Nat) (fi : Nat → Nat → Int) (ai aj : Nat → Int → Int) (σ : Tk) (m : Int) (hm : fi 74 126 = m ∧ 0 ≤ m ∧ m ≤ 6) (h91 : fi 91 126 = 0) (hL : LM fi ai) (hT : TM fi σ) (hn : ¬ σ.2.1 = 7168368 ∨ m = 6) : am_M am_prog (d + 2) m_Mo_mapping [.inr (.inr 126)] (HH L B1 B2 fi ai aj) (fun w h' => w = none ∧ ∃ fi', h' = HH L B1 B2 fi' ai aj ∧ FM fi fi' ∧ FL fi' ((if σ.2.1 = 7168368 then -1000 else -10) - σ.1)) := by
  have fl91 := h91
  have fl87 := hm.1
  obtain ⟨l1, l2, l3, l4, l5⟩ := id hL
  have hRmap : (fi 87 126 = 1 ∧ fi 88 126 = 0) ↔ σ.2.1 = 7168368 := hT.2.2.1.2.2.2.2.2.2.2.2.2.2.2.1
  have t1 := hT.1
  refine am_W.of rfl rfl ?_
  refine am_W.cv 10 m_Mo_isWord rfl rfl rfl rfl (by and_intros <;> first | trivial | exact okI rfl rfl rfl | (refine okrI rfl rfl rfl rfl ?_ ?_ <;> (first | omega | (simp only [HS, FRS, CCS, am_R, fl91, fl87] at *; omega))) | (refine okaI rfl rfl rfl rfl ?_ ?_ <;> (first | omega | (simp only [HS, FRS, CCS, am_R, fl91, fl87] at *; omega))) | (first | omega | (simp only [HS, FRS, CCS, am_R, fl91, fl87] at *; omega)) | (simp only [HS, FRS, CCS, fl91, fl87])) (c_misWord d L B1 B2 fi ai aj 0 (by and_intros <;> first | trivial | exact okI rfl rfl rfl | (refine okrI rfl rfl rfl rfl ?_ ?_ <;> (first | omega | (simp only [HS, FRS, CCS, am_R, fl91, fl87] at *; omega))) | (refine okaI rfl rfl rfl rfl ?_ ?_ <;> (first | omega | (simp only [HS, FRS, CCS, am_R, fl91, fl87] at *; omega))) | (first | omega | (simp only [HS, FRS, CCS, am_R, fl91, fl87] at *; omega)) | (simp only [HS, FRS, CCS, fl91, fl87])) (Or.inl h91) ⟨by omega, by omega⟩ ⟨by omega, by omega⟩) ?_
  rintro r1 h1 ⟨rfl, rfl⟩
  by_cases hy : σ.2.1 = 7168368
  · rw [if_pos hy, show (if fi 91 126 = 0 ∧ fi 87 126 = 1 ∧ fi 88 126 = 0 then (1 : Int) else 0) = 1 from if_pos ⟨h91, hRmap.mpr hy⟩]
    refine am_W.br rfl rfl (by and_intros <;> first | trivial | exact okI rfl rfl rfl | (refine okrI rfl rfl rfl rfl ?_ ?_ <;> (first | omega | (simp only [HS, FRS, CCS, am_R, fl91, fl87] at *; omega))) | (refine okaI rfl rfl rfl rfl ?_ ?_ <;> (first | omega | (simp only [HS, FRS, CCS, am_R, fl91, fl87] at *; omega))) | (first | omega | (simp only [HS, FRS, CCS, am_R, fl91, fl87] at *; omega)) | (simp only [HS, FRS, CCS, fl91, fl87])) (fun c1 => ?_) (fun c1 => absurd c1 (by decide))
    refine am_W.br rfl rfl (by and_intros <;> first | trivial | exact okI rfl rfl rfl | (refine okrI rfl rfl rfl rfl ?_ ?_ <;> (first | omega | (simp only [HS, FRS, CCS, am_R, fl91, fl87] at *; omega))) | (refine okaI rfl rfl rfl rfl ?_ ?_ <;> (first | omega | (simp only [HS, FRS, CCS, am_R, fl91, fl87] at *; omega))) | (first | omega | (simp only [HS, FRS, CCS, am_R, fl91, fl87] at *; omega)) | (simp only [HS, FRS, CCS, fl91, fl87])) (fun c2 => absurd c2 (by simp only [HS, FRS, fl91, fl87]; omega)) (fun c2 => ?_)
    refine am_W.cv 10 m_Mo_fail rfl rfl rfl rfl (by and_intros <;> first | trivial | exact okI rfl rfl rfl | (refine okrI rfl rfl rfl rfl ?_ ?_ <;> (first | omega | (simp only [HS, FRS, CCS, am_R, fl91, fl87] at *; omega))) | (refine okaI rfl rfl rfl rfl ?_ ?_ <;> (first | omega | (simp only [HS, FRS, CCS, am_R, fl91, fl87] at *; omega))) | (first | omega | (simp only [HS, FRS, CCS, am_R, fl91, fl87] at *; omega)) | (simp only [HS, FRS, CCS, fl91, fl87])) (c_mfail d L B1 B2 fi ai aj 1 (fi 89 126) h91 (Or.inr rfl) ⟨by omega, by omega⟩) ?_
    rintro r1 h1 ⟨rfl, f2, rfl, g1, g2, g3⟩
    rw [if_pos rfl, t1] at g2
    exact am_W.rt rfl rfl (by and_intros <;> first | trivial | exact okI rfl rfl rfl | (refine okrI rfl rfl rfl rfl ?_ ?_ <;> (first | omega | (simp only [HS, FRS, CCS, am_R, fl91, fl87] at *; omega))) | (refine okaI rfl rfl rfl rfl ?_ ?_ <;> (first | omega | (simp only [HS, FRS, CCS, am_R, fl91, fl87] at *; omega))) | (first | omega | (simp only [HS, FRS, CCS, am_R, fl91, fl87] at *; omega)) | (simp only [HS, FRS, CCS, fl91, fl87])) ⟨rfl, f2, rfl, g1, g2⟩
  · rw [if_neg hy, show (if fi 91 126 = 0 ∧ fi 87 126 = 1 ∧ fi 88 126 = 0 then (1 : Int) else 0) = 0 from if_neg (fun z => hy (hRmap.mp z.2))]
    refine am_W.br rfl rfl (by and_intros <;> first | trivial | exact okI rfl rfl rfl | (refine okrI rfl rfl rfl rfl ?_ ?_ <;> (first | omega | (simp only [HS, FRS, CCS, am_R, fl91, fl87] at *; omega))) | (refine okaI rfl rfl rfl rfl ?_ ?_ <;> (first | omega | (simp only [HS, FRS, CCS, am_R, fl91, fl87] at *; omega))) | (first | omega | (simp only [HS, FRS, CCS, am_R, fl91, fl87] at *; omega)) | (simp only [HS, FRS, CCS, fl91, fl87])) (fun c1 => absurd rfl c1) (fun c1 => ?_)
    refine am_W.cv 10 m_Mo_fail rfl rfl rfl rfl (by and_intros <;> first | trivial | exact okI rfl rfl rfl | (refine okrI rfl rfl rfl rfl ?_ ?_ <;> (first | omega | (simp only [HS, FRS, CCS, am_R, fl91, fl87] at *; omega))) | (refine okaI rfl rfl rfl rfl ?_ ?_ <;> (first | omega | (simp only [HS, FRS, CCS, am_R, fl91, fl87] at *; omega))) | (first | omega | (simp only [HS, FRS, CCS, am_R, fl91, fl87] at *; omega)) | (simp only [HS, FRS, CCS, fl91, fl87])) (c_mfail d L B1 B2 fi ai aj 0 (fi 89 126) h91 (Or.inl rfl) ⟨by omega, by omega⟩) ?_
    rintro r1 h1 ⟨rfl, f2, rfl, g1, g2, g3⟩
    rw [if_neg (by decide), t1] at g2
    exact am_W.rt rfl rfl (by and_intros <;> first | trivial | exact okI rfl rfl rfl | (refine okrI rfl rfl rfl rfl ?_ ?_ <;> (first | omega | (simp only [HS, FRS, CCS, am_R, fl91, fl87] at *; omega))) | (refine okaI rfl rfl rfl rfl ?_ ?_ <;> (first | omega | (simp only [HS, FRS, CCS, am_R, fl91, fl87] at *; omega))) | (first | omega | (simp only [HS, FRS, CCS, am_R, fl91, fl87] at *; omega)) | (simp only [HS, FRS, CCS, fl91, fl87])) ⟨rfl, f2, rfl, g1, g2⟩
def lenM (x : MT) : Prop := x.2.1.2.2.length ≤ 30 ∧ x.2.2.1.2.2.length ≤ 30 ∧ x.2.2.2.1.2.2.length ≤ 30
theorem wfP_len {k : Int} {x : PT} (h : wfP k x) (h0 : x.1 = 0) : x.2.2.length ≤ 30 := by
  rcases h with ⟨_, h, _⟩ | ⟨h, _⟩
  · exact h
  · exact absurd (h0.symm.trans h) (by decide)
theorem RefA_fr {a a' : Nat → Int → Int} {m i : Int} {D : DT} {x : MT} (h : RefA a i x) (hF : FO m a a') (hi : i ≠ m) (hw : wfM D x) : RefA a' i x := by
  obtain ⟨a1, a2, a3, a4, a5, a6, a7, a8, a9, a10⟩ := h
  obtain ⟨w1, w2, w3, w4, w5⟩ := hw
  have e1 : ∀ b, (b = 144 ∨ 149 ≤ b) → a' b i = a b i := fun b hb => hF.2.1 b i hi hb
  have e2 : ∀ n, (3 * i ≤ n ∧ n < 3 * i + 3) → a' 145 n = a 145 n ∧ a' 146 n = a 146 n ∧ a' 147 n = a 147 n := fun n hn => ⟨hF.2.2.1 145 n (by omega) (by omega), hF.2.2.1 146 n (by omega) (by omega), hF.2.2.1 147 n (by omega) (by omega)⟩
  have e3 : ∀ n, (3 * i ≤ n ∧ n < 3 * i + 3) → ∀ k, 30 * n ≤ k → k < 30 * n + 30 → a' 148 k = a 148 k := fun n hn k h1 h2 => hF.2.2.2 k (by omega)
  refine ⟨(e1 144 (by omega)).trans a1, ?_, ?_, ?_, (e1 149 (by omega)).trans a5, ?_, (e1 153 (by omega)).trans a7, ?_, ?_, (e1 152 (by omega)).trans a10⟩
  · exact a2.fr (e2 _ ⟨by omega, by omega⟩).1 (e2 _ ⟨by omega, by omega⟩).2.1 (e2 _ ⟨by omega, by omega⟩).2.2 (e3 _ ⟨by omega, by omega⟩) (wfP_len w2)
  · exact a3.fr (e2 _ ⟨by omega, by omega⟩).1 (e2 _ ⟨by omega, by omega⟩).2.1 (e2 _ ⟨by omega, by omega⟩).2.2 (e3 _ ⟨by omega, by omega⟩) (wfP_len w3.1)
  · refine a4.fr (e2 _ ⟨by omega, by omega⟩).1 (e2 _ ⟨by omega, by omega⟩).2.1 (e2 _ ⟨by omega, by omega⟩).2.2 (e3 _ ⟨by omega, by omega⟩) ?_
    rcases w4 with ⟨h1, h2⟩ | ⟨h1, h2, _⟩
    · exact wfP_len h1
    · intro q
      rw [h2]
      exact Nat.zero_le _
  · rw [e1 150 (by omega), e1 151 (by omega)]
    exact a6
  · rw [e1 154 (by omega)]
    exact a8
  · rw [e1 155 (by omega)]
    exact a9
def PS (fi : Nat → Nat → Int) (ai : Nat → Int → Int) (D : DT) (R : Int ⊕ List MT) (f : Nat → Nat → Int) (a : Nat → Int → Int) : Prop := FM4 fi f ∧ (∀ b, b < 144 ∨ 155 < b → a b = ai b) ∧ (match R with
  | .inl e => FL f e
  | .inr l => f 91 126 = 0 ∧ f 74 126 = (l.length : Int) ∧ l.length ≤ 6 ∧ ∀ (i : Nat) (x : MT), l[i]? = some x → RefA a (i : Int) x ∧ wfM D x)
set_option maxHeartbeats 400000 in
set_option maxRecDepth 100000 in
theorem l_mread (d L B1 B2 : Nat) (fi : Nat → Nat → Int) (ai aj : Nat → Int → Int) (Q : Option am_V → am_H → Prop) (hI : DI (DM fi ai)) (t : Int → Int) (et : tx (fi 60 126) (ai 131) = t) (R : Int ⊕ List MT) (l1 : Option am_V) (w : ∀ f a, PS fi ai (DM fi ai) R f a → am_W (am_ev am_prog (d + 6)) T_Mo_read Q (40, [some (.inr (.inr 126)), l1], [], HH L B1 B2 f a aj)) : ∀ (k : Nat) (l : List MT) (f : Nat → Nat → Int) (a : Nat → Int → Int) (σ : Tk), l.length + k = 6 → FM4 fi f → (∀ b, b < 144 ∨ 155 < b → a b = ai b) → f 91 126 = 0 → LM f a → TM f σ → f 74 126 = (l.length : Int) → (∀ (i : Nat) (x : MT), l[i]? = some x → RefA a (i : Int) x ∧ wfM (DM fi ai) x) → R = pAll t (DM fi ai) k σ l → am_W (am_ev am_prog (d + 6)) T_Mo_read Q (19, [some (.inr (.inr 126)), l1], [], HH L B1 B2 f a aj) := by
  have hstop : ∀ (k : Nat) (l : List MT) (f : Nat → Nat → Int) (a : Nat → Int → Int) (σ : Tk), l.length ≤ 6 → FM4 fi f → (∀ b, b < 144 ∨ 155 < b → a b = ai b) → f 91 126 = 0 → LM f a → TM f σ → f 74 126 = (l.length : Int) → (∀ (i : Nat) (x : MT), l[i]? = some x → RefA a (i : Int) x ∧ wfM (DM fi ai) x) → (¬ σ.2.1 = 7168368 ∨ (k = 0 ∧ l.length = 6)) → R = pAll t (DM fi ai) k σ l → am_W (am_ev am_prog (d + 6)) T_Mo_read Q (19, [some (.inr (.inr 126)), l1], [], HH L B1 B2 f a aj) := by
    intro k l f a σ hk hF hA h91 hL hT h74 hr hn hR
    have fl91 := h91
    have fl87 := h74
    have o3 := hL.2.2
    have hR0 : f 87 126 = 0 ↔ σ.2.1 = -1 := hT.2.2.1.1
    have hR2 : R = if σ.2.1 = 7168368 then .inl (-1000 - σ.1) else if σ.2.1 = -1 then .inr l else .inl (-10 - σ.1) := by
      rw [hR]
      cases k with
      | zero => rfl
      | succ k =>
        rcases hn with hk | hk
        · rw [pAll, if_neg hk, if_neg hk]
        · exact absurd hk.1 (by omega)
    refine am_W.br rfl rfl (by and_intros <;> first | trivial | exact okI rfl rfl rfl | (refine okrI rfl rfl rfl rfl ?_ ?_ <;> (first | omega | (simp only [HS, FRS, CCS, am_R, fl91, fl87] at *; omega))) | (refine okaI rfl rfl rfl rfl ?_ ?_ <;> (first | omega | (simp only [HS, FRS, CCS, am_R, fl91, fl87] at *; omega))) | (first | omega | (simp only [HS, FRS, CCS, am_R, fl91, fl87] at *; omega)) | (simp only [HS, FRS, CCS, fl91, fl87])) (fun c1 => absurd c1 (by simp only [HS, h91]; decide)) (fun c1 => ?_)
    refine am_W.br rfl rfl (by and_intros <;> first | trivial | exact okI rfl rfl rfl | (refine okrI rfl rfl rfl rfl ?_ ?_ <;> (first | omega | (simp only [HS, FRS, CCS, am_R, fl91, fl87] at *; omega))) | (refine okaI rfl rfl rfl rfl ?_ ?_ <;> (first | omega | (simp only [HS, FRS, CCS, am_R, fl91, fl87] at *; omega))) | (first | omega | (simp only [HS, FRS, CCS, am_R, fl91, fl87] at *; omega)) | (simp only [HS, FRS, CCS, fl91, fl87])) (fun c2 => ?_) (fun c2 => ?_)
    · simp only [HS, FRS, fl91, fl87] at c2
      have hκ := hR0.mp c2
      rw [if_neg (by omega), if_pos hκ] at hR2
      refine w f a ⟨hF, hA, ?_⟩
      rw [hR2]
      exact ⟨h91, h74, hk, hr⟩
    · simp only [HS, FRS, fl91, fl87] at c2
      have hκ : ¬ σ.2.1 = -1 := fun q => c2 (hR0.mpr q)
      refine am_W.cv 10 m_Mo_mapping rfl rfl rfl rfl (by and_intros <;> first | trivial | exact okI rfl rfl rfl | (refine okrI rfl rfl rfl rfl ?_ ?_ <;> (first | omega | (simp only [HS, FRS, CCS, am_R, fl91, fl87] at *; omega))) | (refine okaI rfl rfl rfl rfl ?_ ?_ <;> (first | omega | (simp only [HS, FRS, CCS, am_R, fl91, fl87] at *; omega))) | (first | omega | (simp only [HS, FRS, CCS, am_R, fl91, fl87] at *; omega)) | (simp only [HS, FRS, CCS, fl91, fl87])) (c_mmapNo (d + 4) L B1 B2 f a aj σ (l.length : Int) ⟨h74, by omega, by omega⟩ h91 hL hT (by omega)) ?_
      rintro r1 h1 ⟨rfl, f2, rfl, g1, g2⟩
      have fz := g2.1
      refine am_W.br rfl rfl ?_ (fun c3 => ?_) (fun c3 => absurd c3 ?_)
      · simp only [HS, FRS, CCS, am_R, fz]
        exact (by and_intros <;> first | trivial | exact okI rfl rfl rfl | (refine okrI rfl rfl rfl rfl ?_ ?_ <;> (first | omega | (simp only [HS, FRS, CCS, am_R, fl91, fl87] at *; omega))) | (refine okaI rfl rfl rfl rfl ?_ ?_ <;> (first | omega | (simp only [HS, FRS, CCS, am_R, fl91, fl87] at *; omega))) | (first | omega | (simp only [HS, FRS, CCS, am_R, fl91, fl87] at *; omega)) | (simp only [HS, FRS, CCS, fl91, fl87]))
      · refine w f2 a ⟨hF.tr g1.m4, hA, ?_⟩
        by_cases hq : σ.2.1 = 7168368
        · rw [if_pos hq] at hR2
          rw [if_pos hq] at g2
          rw [hR2]
          exact g2
        · rw [if_neg hq, if_neg hκ] at hR2
          rw [if_neg hq] at g2
          rw [hR2]
          exact g2
      · simp only [HS, fz]
        decide
  intro k
  induction k with
  | zero =>
    intro l f a σ hk hF hA h91 hL hT h74 hr hR
    by_cases hq : σ.2.1 = 7168368
    · exact hstop 0 l f a σ (by omega) hF hA h91 hL hT h74 hr (Or.inr ⟨rfl, by omega⟩) hR
    · exact hstop 0 l f a σ (by omega) hF hA h91 hL hT h74 hr (Or.inl hq) hR
  | succ k ih =>
    intro l f a σ hk hF hA h91 hL hT h74 hr hR
    by_cases hq : σ.2.1 = 7168368
    · have fl91 := h91
      have fl87 := h74
      have o3 := hL.2.2
      have hR0 : f 87 126 = 0 ↔ σ.2.1 = -1 := hT.2.2.1.1
      rw [pAll, if_pos hq] at hR
      have e54 : f 54 126 = fi 54 126 := hF 54 126 (by omega)
      have e60 : f 60 126 = fi 60 126 := hF 60 126 (by omega)
      have eD : DM f a = DM fi ai := by
        unfold DM
        rw [e54, hA 127 (by omega), hA 128 (by omega), hA 129 (by omega), hA 130 (by omega)]
      refine am_W.br rfl rfl (by and_intros <;> first | trivial | exact okI rfl rfl rfl | (refine okrI rfl rfl rfl rfl ?_ ?_ <;> (first | omega | (simp only [HS, FRS, CCS, am_R, fl91, fl87] at *; omega))) | (refine okaI rfl rfl rfl rfl ?_ ?_ <;> (first | omega | (simp only [HS, FRS, CCS, am_R, fl91, fl87] at *; omega))) | (first | omega | (simp only [HS, FRS, CCS, am_R, fl91, fl87] at *; omega)) | (simp only [HS, FRS, CCS, fl91, fl87])) (fun c1 => absurd c1 (by simp only [HS, h91]; decide)) (fun c1 => ?_)
      refine am_W.br rfl rfl (by and_intros <;> first | trivial | exact okI rfl rfl rfl | (refine okrI rfl rfl rfl rfl ?_ ?_ <;> (first | omega | (simp only [HS, FRS, CCS, am_R, fl91, fl87] at *; omega))) | (refine okaI rfl rfl rfl rfl ?_ ?_ <;> (first | omega | (simp only [HS, FRS, CCS, am_R, fl91, fl87] at *; omega))) | (first | omega | (simp only [HS, FRS, CCS, am_R, fl91, fl87] at *; omega)) | (simp only [HS, FRS, CCS, fl91, fl87])) (fun c2 => absurd (hR0.mp (by simp only [HS, FRS, fl91, fl87] at c2; exact c2)) (by omega)) (fun c2 => ?_)
      have hc := c_mmapping d L B1 B2 f a aj (l.length : Int) σ t ⟨by omega, by omega⟩ h74 h91 hL hT (by rw [e60, hA 131 (by omega)]; exact et) (by rw [eD]; exact hI) hq
      rw [eD] at hc
      refine am_W.cv 10 m_Mo_mapping rfl rfl rfl rfl (by and_intros <;> first | trivial | exact okI rfl rfl rfl | (refine okrI rfl rfl rfl rfl ?_ ?_ <;> (first | omega | (simp only [HS, FRS, CCS, am_R, fl91, fl87] at *; omega))) | (refine okaI rfl rfl rfl rfl ?_ ?_ <;> (first | omega | (simp only [HS, FRS, CCS, am_R, fl91, fl87] at *; omega))) | (first | omega | (simp only [HS, FRS, CCS, am_R, fl91, fl87] at *; omega)) | (simp only [HS, FRS, CCS, fl91, fl87])) hc ?_
      rintro r1 h1 ⟨rfl, f2, a2, rfl, g1, g2, g3⟩
      have hA2 : ∀ b, b < 144 ∨ 155 < b → a2 b = ai b := fun b hb => (g2.1 b hb).trans (hA b hb)
      cases hpm : pMap t (DM fi ai) σ.2.2.2 with
      | inl e =>
        rw [hpm] at g3 hR
        have fz := g3.1
        refine am_W.br rfl rfl ?_ (fun c3 => ?_) (fun c3 => absurd c3 ?_)
        · simp only [HS, FRS, CCS, am_R, fz]
          exact (by and_intros <;> first | trivial | exact okI rfl rfl rfl | (refine okrI rfl rfl rfl rfl ?_ ?_ <;> (first | omega | (simp only [HS, FRS, CCS, am_R, fl91, fl87] at *; omega))) | (refine okaI rfl rfl rfl rfl ?_ ?_ <;> (first | omega | (simp only [HS, FRS, CCS, am_R, fl91, fl87] at *; omega))) | (first | omega | (simp only [HS, FRS, CCS, am_R, fl91, fl87] at *; omega)) | (simp only [HS, FRS, CCS, fl91, fl87]))
        · refine w f2 a2 ⟨hF.tr g1, hA2, ?_⟩
          rw [hR, pb_l]
          exact g3
        · simp only [HS, fz]
          decide
      | inr x =>
        rw [hpm] at g3
        rw [hpm, pb_r] at hR
        obtain ⟨g4, g5, g6, g7, g8⟩ := g3
        refine am_W.gp 19 rfl (by and_intros <;> first | trivial | exact okI rfl rfl rfl | (refine okrI rfl rfl rfl rfl ?_ ?_ <;> (first | omega | (simp only [HS, FRS, CCS, am_R, fl91, fl87] at *; omega))) | (refine okaI rfl rfl rfl rfl ?_ ?_ <;> (first | omega | (simp only [HS, FRS, CCS, am_R, fl91, fl87] at *; omega))) | (first | omega | (simp only [HS, FRS, CCS, am_R, fl91, fl87] at *; omega)) | (simp only [HS, FRS, CCS, fl91, fl87])) (ih (l ++ [x.1]) f2 a2 x.2 ?_ (hF.tr g1) hA2 g4 g5 g7 ?_ ?_ hR)
        · rw [List.length_append, List.length_singleton]
          omega
        · rw [List.length_append, List.length_singleton]
          omega
        · intro j z hz
          by_cases hj : j < l.length
          · rw [List.getElem?_append_left hj] at hz
            obtain ⟨q1, q2⟩ := hr j z hz
            exact ⟨RefA_fr q1 g2 (by omega) q2, q2⟩
          · rw [List.getElem?_append_right (by omega)] at hz
            have hj2 : j = l.length := by
              rcases Nat.eq_or_lt_of_le (Nat.le_of_not_lt hj) with h | h
              · exact h.symm
              · rw [List.getElem?_eq_none (by rw [List.length_singleton]; omega)] at hz
                cases hz
            subst hj2
            rw [Nat.sub_self] at hz
            cases hz
            exact ⟨g6, pMap_wf hpm⟩
    · exact hstop (k + 1) l f a σ (by omega) hF hA h91 hL hT h74 hr (Or.inl hq) hR
