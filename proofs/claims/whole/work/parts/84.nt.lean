-- triples numbered
def NI (c : Int → Int → Int) (S g0 : Int → Int) (i t : Int) (g3 g4 : Int → Int) : Prop := (0 ≤ t ∧ t ≤ i ∧ (0 < i → 0 < t)) ∧ (∀ q, 0 ≤ q → q < t → 0 ≤ g3 q ∧ g3 q < i ∧ (q + 1 < t → g3 q < g3 (q + 1))) ∧ (0 < t → g3 0 = 0) ∧ (∀ k, 0 ≤ k → k < i → ∃ q, 0 ≤ q ∧ q < t ∧ g3 q ≤ k ∧ (q + 1 < t → k < g3 (q + 1)) ∧ g4 (S k) = q) ∧ (∀ k, 0 < k → k < i → (c (S (k - 1)) (S k) = 0 ↔ ∀ q, 0 ≤ q → q < t → g3 q ≠ k)) ∧ (∀ w, (∀ k, 0 ≤ k → k < i → S k ≠ w) → g4 w = g0 w)
theorem NI_new {c : Int → Int → Int} {S g0 : Int → Int} {i t : Int} {g3 g4 : Int → Int} (hi : 0 ≤ i) (hd : ∀ k, 0 ≤ k → k < i → S k ≠ S i) (h : NI c S g0 i t g3 g4) (hq : i = 0 ∨ ¬ c (S (i - 1)) (S i) = 0) : NI c S g0 (i + 1) (t + 1) (up g3 t i) (up g4 (S i) t) := by
  obtain ⟨h1, h2, h3, h4, h5, h6⟩ := h
  refine ⟨by omega, ?_, ?_, ?_, ?_, ?_⟩
  · intro q q0 q1
    unfold up
    by_cases hqt : q = t
    · rw [if_pos hqt]
      exact ⟨by omega, by omega, fun z => by omega⟩
    · rw [if_neg hqt]
      have := h2 q q0 (by omega)
      refine ⟨this.1, by omega, fun z => ?_⟩
      by_cases hq2 : q + 1 = t
      · rw [if_pos hq2]
        exact this.2.1
      · rw [if_neg hq2]
        exact this.2.2 (by omega)
  · intro _
    unfold up
    by_cases ht : (0 : Int) = t
    · rw [if_pos ht]
      omega
    · rw [if_neg ht]
      exact h3 (by omega)
  · intro k k0 k1
    by_cases hk : k = i
    · refine ⟨t, by omega, by omega, ?_, fun z => by omega, ?_⟩
      · rw [up_s]
        omega
      · rw [hk, up_s]
    · obtain ⟨q, q0, q1, q2, q3, q4⟩ := h4 k k0 (by omega)
      refine ⟨q, q0, by omega, ?_, ?_, ?_⟩
      · rw [up_n _ _ (by omega)]
        exact q2
      · intro z
        unfold up
        by_cases hq2 : q + 1 = t
        · rw [if_pos hq2]
          omega
        · rw [if_neg hq2]
          exact q3 (by omega)
      · rw [up_n _ _ (hd k k0 (by omega))]
        exact q4
  · intro k k0 k1
    by_cases hk : k = i
    · subst hk
      have hne := hq.resolve_left (by omega)
      refine ⟨fun z => absurd z hne, fun z => ?_⟩
      have := z t (by omega) (by omega)
      rw [up_s] at this
      exact absurd rfl this
    · rw [h5 k k0 (by omega)]
      refine ⟨fun z q q0 q1 => ?_, fun z q q0 q1 => ?_⟩
      · unfold up
        by_cases hqt : q = t
        · rw [if_pos hqt]
          omega
        · rw [if_neg hqt]
          exact z q q0 (by omega)
      · have := z q q0 (by omega)
        rw [up_n _ _ (by omega)] at this
        exact this
  · intro w hw
    rw [up_n _ _ (fun z => hw i (by omega) (by omega) z.symm)]
    exact h6 w (fun k k0 k1 => hw k k0 (by omega))
theorem NI_old {c : Int → Int → Int} {S g0 : Int → Int} {i t : Int} {g3 g4 : Int → Int} (hi : 0 < i) (hd : ∀ k, 0 ≤ k → k < i → S k ≠ S i) (h : NI c S g0 i t g3 g4) (hq : c (S (i - 1)) (S i) = 0) : NI c S g0 (i + 1) t g3 (up g4 (S i) (t - 1)) := by
  obtain ⟨h1, h2, h3, h4, h5, h6⟩ := h
  refine ⟨by omega, ?_, h3, ?_, ?_, ?_⟩
  · intro q q0 q1
    have := h2 q q0 q1
    exact ⟨this.1, by omega, this.2.2⟩
  · intro k k0 k1
    by_cases hk : k = i
    · refine ⟨t - 1, by omega, by omega, ?_, fun z => by omega, ?_⟩
      · have := h2 (t - 1) (by omega) (by omega)
        omega
      · rw [hk, up_s]
    · obtain ⟨q, q0, q1, q2, q3, q4⟩ := h4 k k0 (by omega)
      refine ⟨q, q0, q1, q2, q3, ?_⟩
      rw [up_n _ _ (hd k k0 (by omega))]
      exact q4
  · intro k k0 k1
    by_cases hk : k = i
    · subst hk
      refine ⟨fun _ q q0 q1 => ?_, fun _ => hq⟩
      have := h2 q q0 q1
      omega
    · exact h5 k k0 (by omega)
  · intro w hw
    rw [up_n _ _ (fun z => hw i (by omega) (by omega) z.symm)]
    exact h6 w (fun k k0 k1 => hw k k0 (by omega))
set_option maxHeartbeats 400000 in
set_option maxRecDepth 100000 in
theorem l_number (d L B1 B2 : Nat) (fi : Nat → Nat → Int) (ai aj : Nat → Int → Int) (N : Nat) (h24 : fi 24 25 = (N : Int)) (hN : N ≤ 1536) (hw : ∀ i, 0 ≤ i → i < (N : Int) → wok ai aj (ai 30 i)) (hd : ∀ i k, 0 ≤ k → k < i → i < (N : Int) → ai 30 k ≠ ai 30 i) : ∀ (n : Nat) (i t : Int) (g3 g4 : Int → Int), i + (n : Int) = (N : Int) → 0 ≤ i → NI (cmW ai aj) (ai 30) (ai 33) i t g3 g4 → am_W (am_ev am_prog (d + 2)) T_Gi_numberTriples (fun v h' => v = none ∧ ∃ t g3 g4, h' = HH L B1 B2 (am_u2 fi 27 25 t) (am_sa (am_sa ai 32 (up g3 t (N : Int))) 33 g4) aj ∧ NI (cmW ai aj) (ai 30) (ai 33) (N : Int) t g3 g4) (7, [some (.inr (.inr 25)), some (.inl i)], [], HH L B1 B2 (am_u2 fi 27 25 t) (am_sa (am_sa ai 32 g3) 33 g4) aj) := by
  have ok25 : ∀ f a, am_ok (HH L B1 B2 f a aj) 25 4 := fun f a => okI rfl rfl rfl
  have e24 : ∀ t a, am_fi (HH L B1 B2 (am_u2 fi 27 25 t) a aj) 24 25 = (N : Int) := fun t a => h24
  have e27 : ∀ t, am_u2 fi 27 25 t 27 25 = t := fun t => u2s
  have e27' : ∀ t a, am_fi (HH L B1 B2 (am_u2 fi 27 25 t) a aj) 27 25 = t := fun t a => by simp only [HS, u2s]
  have ok30 : ∀ t g3 g4 i, 0 ≤ i → i < 1536 → am_okr (HH L B1 B2 (am_u2 fi 27 25 t) (am_sa (am_sa ai 32 g3) 33 g4) aj) (am_fr (HH L B1 B2 (am_u2 fi 27 25 t) (am_sa (am_sa ai 32 g3) 33 g4) aj) 22 25) 1000 i := fun t g3 g4 i i0 i1 => okrI rfl rfl (t := 1000) (N := 1536) rfl rfl i0 (by omega)
  intro n
  induction n with
  | zero =>
    intro i t g3 g4 hn hi hNI
    have hiN : i = (N : Int) := by omega
    subst hiN
    have ht := hNI.1
    have ok32 : am_oka (HH L B1 B2 (am_u2 fi 27 25 t) (am_sa (am_sa ai 32 g3) 33 g4) aj) (am_fr (HH L B1 B2 (am_u2 fi 27 25 t) (am_sa (am_sa ai 32 g3) 33 g4) aj) 25 25) 1000 t := okaI rfl rfl (t := 1000) (N := 1537) rfl rfl (by omega) (by omega)
    refine am_W.br rfl rfl ⟨⟨trivial, ok25 _ _⟩, ⟨by omega, by omega⟩, by rw [e24]; exact ⟨by omega, by omega⟩⟩ (fun c => ?_) (fun c => absurd c (by rw [e24]; omega))
    refine am_W.rt rfl rfl ⟨⟨⟨⟨⟨trivial, ok25 _ _⟩, ok25 _ _⟩, ok25 _ _⟩, by rw [e27']; exact ok32⟩, trivial⟩ ⟨rfl, t, g3, g4, ?_, hNI⟩
    rw [e27', e24]
    simp only [HS, FRS]
    congr 1
    funext b k
    unfold am_u2 am_sa up
    by_cases hb : b = 32
    · subst hb
      rw [if_pos rfl]
      by_cases hk : k = t
      · rw [if_pos hk, if_neg (by decide), if_pos rfl, if_pos hk]
      · rw [if_neg hk, if_neg (by decide), if_pos rfl, if_neg (by decide), if_pos rfl, if_neg hk]
    · rw [if_neg hb]
      by_cases hb2 : b = 33
      · rw [if_pos hb2, if_pos hb2]
      · rw [if_neg hb2, if_neg hb2, if_neg hb, if_neg hb]
  | succ n ih =>
    intro i t g3 g4 hn hi hNI
    have ht := hNI.1
    have hiw := hw i hi (by omega)
    -- behind the start
    have h60 : ∀ (t' : Int) (g3' : Int → Int), 1 ≤ t' ∧ t' ≤ i + 1 → NI (cmW ai aj) (ai 30) (ai 33) (i + 1) t' g3' (up g4 (ai 30 i) (t' - 1)) → am_W (am_ev am_prog (d + 2)) T_Gi_numberTriples (fun v h' => v = none ∧ ∃ t g3 g4, h' = HH L B1 B2 (am_u2 fi 27 25 t) (am_sa (am_sa ai 32 (up g3 t (N : Int))) 33 g4) aj ∧ NI (cmW ai aj) (ai 30) (ai 33) (N : Int) t g3 g4) (60, [some (.inr (.inr 25)), some (.inl i)], [], HH L B1 B2 (am_u2 fi 27 25 t') (am_sa (am_sa ai 32 g3') 33 g4) aj) := by
      intro t' g3' ht' hN2
      have e30 : am_ai (HH L B1 B2 (am_u2 fi 27 25 t') (am_sa (am_sa ai 32 g3') 33 g4) aj) (am_fr (HH L B1 B2 (am_u2 fi 27 25 t') (am_sa (am_sa ai 32 g3') 33 g4) aj) 22 25) i = ai 30 i := rfl
      have ok33 : am_oka (HH L B1 B2 (am_u2 fi 27 25 t') (am_sa (am_sa ai 32 g3') 33 g4) aj) (am_fr (HH L B1 B2 (am_u2 fi 27 25 t') (am_sa (am_sa ai 32 g3') 33 g4) aj) 26 25) 1000 (ai 30 i) := okaI rfl rfl (t := 1000) (N := 1536) rfl rfl hiw.1.1 (by have := hiw.1.2; omega)
      refine am_W.gp 7 rfl ⟨⟨⟨⟨⟨trivial, ok25 _ _⟩, ok25 _ _⟩, ok30 _ _ _ _ hi (by omega)⟩, ok25 _ _⟩, by rw [e30]; exact ok33⟩ ?_
      rw [e30, e27']
      simp only [HS, FRS, u2sa]
      exact ih (i + 1) t' g3' _ (by omega) (by omega) hN2
    have h40 : (i = 0 ∨ ¬ cmW ai aj (ai 30 (i - 1)) (ai 30 i) = 0) → am_W (am_ev am_prog (d + 2)) T_Gi_numberTriples (fun v h' => v = none ∧ ∃ t g3 g4, h' = HH L B1 B2 (am_u2 fi 27 25 t) (am_sa (am_sa ai 32 (up g3 t (N : Int))) 33 g4) aj ∧ NI (cmW ai aj) (ai 30) (ai 33) (N : Int) t g3 g4) (40, [some (.inr (.inr 25)), some (.inl i)], [], HH L B1 B2 (am_u2 fi 27 25 t) (am_sa (am_sa ai 32 g3) 33 g4) aj) := by
      intro hq
      have ok32 : am_oka (HH L B1 B2 (am_u2 fi 27 25 t) (am_sa (am_sa ai 32 g3) 33 g4) aj) (am_fr (HH L B1 B2 (am_u2 fi 27 25 t) (am_sa (am_sa ai 32 g3) 33 g4) aj) 25 25) 1000 t := okaI rfl rfl (t := 1000) (N := 1537) rfl rfl (by omega) (by omega)
      refine am_W.gp 60 rfl ⟨⟨⟨⟨⟨trivial, ok25 _ _⟩, ok25 _ _⟩, by rw [e27']; exact ok32⟩, ok25 _ _⟩, ok25 _ _⟩ ?_
      rw [e27']
      have eh : am_ufi (am_uai (HH L B1 B2 (am_u2 fi 27 25 t) (am_sa (am_sa ai 32 g3) 33 g4) aj) (am_fr (HH L B1 B2 (am_u2 fi 27 25 t) (am_sa (am_sa ai 32 g3) 33 g4) aj) 25 25) t i) 27 25 (am_fi (am_uai (HH L B1 B2 (am_u2 fi 27 25 t) (am_sa (am_sa ai 32 g3) 33 g4) aj) (am_fr (HH L B1 B2 (am_u2 fi 27 25 t) (am_sa (am_sa ai 32 g3) 33 g4) aj) 25 25) t i) 27 25 + 1) = HH L B1 B2 (am_u2 fi 27 25 (t + 1)) (am_sa (am_sa ai 32 (up g3 t i)) 33 g4) aj := by
        simp only [HS, FRS, u2u, e27]
        congr 1
        funext b k
        unfold am_u2 am_sa up
        by_cases hb : b = 32
        · subst hb
          rw [if_pos rfl]
          by_cases hk : k = t
          · rw [if_pos hk, if_neg (by decide), if_pos rfl, if_pos hk]
          · rw [if_neg hk, if_neg (by decide), if_pos rfl, if_neg (by decide), if_pos rfl, if_neg hk]
        · rw [if_neg hb]
          by_cases hb2 : b = 33
          · rw [if_pos hb2, if_pos hb2]
          · rw [if_neg hb2, if_neg hb2, if_neg hb, if_neg hb]
      rw [eh]
      refine h60 (t + 1) (up g3 t i) (by omega) ?_
      rw [show t + 1 - 1 = t by omega]
      exact NI_new hi (fun k k0 k1 => hd i k k0 k1 (by omega)) hNI hq
    refine am_W.br rfl rfl ⟨⟨trivial, ok25 _ _⟩, ⟨by omega, by omega⟩, by rw [e24]; exact ⟨by omega, by omega⟩⟩ (fun c => absurd c (by rw [e24]; omega)) (fun c => ?_)
    refine am_W.br rfl rfl ⟨trivial, ⟨by omega, by omega⟩⟩ (fun c2 => h40 (Or.inl c2)) (fun c2 => ?_)
    have hc := c_compareWays d L B1 B2 (am_u2 fi 27 25 t) (am_sa (am_sa ai 32 g3) 33 g4) aj (ai 30 (i - 1)) (ai 30 i) (hw (i - 1) (by omega) (by omega)) hiw
    refine am_W.cv 4 m_Gi_compareWays rfl rfl rfl rfl ⟨⟨⟨⟨⟨trivial, ok25 _ _⟩, ok30 _ _ _ _ (by omega) (by omega)⟩, ok25 _ _⟩, ok30 _ _ _ _ hi (by omega)⟩, ok25 _ _⟩ hc ?_
    rintro w1 h1 ⟨rfl, rfl⟩
    have hcR := lexc_R (kyW ai aj (ai 30 (i - 1))) (kyW ai aj (ai 30 i))
    have hcR2 : am_R (cmW ai aj (ai 30 (i - 1)) (ai 30 i)) := by
      unfold cmW
      constructor <;> omega
    refine am_W.br rfl rfl ⟨trivial, hcR2⟩ (fun c3 => ?_) (fun c3 => h40 (Or.inr c3))
    have c3' : cmW ai aj (ai 30 (i - 1)) (ai 30 i) = 0 := c3
    exact h60 t g3 (by omega) (NI_old (by omega) (fun k k0 k1 => hd i k k0 k1 (by omega)) hNI c3')
set_option maxHeartbeats 400000 in
set_option maxRecDepth 100000 in
theorem c_number (d L B1 B2 : Nat) (fi : Nat → Nat → Int) (ai aj : Nat → Int → Int) (N : Nat) (h24 : fi 24 25 = (N : Int)) (hN : N ≤ 1536) (hw : ∀ i, 0 ≤ i → i < (N : Int) → wok ai aj (ai 30 i)) (hd : ∀ i k, 0 ≤ k → k < i → i < (N : Int) → ai 30 k ≠ ai 30 i) : am_M am_prog (d + 3) m_Gi_numberTriples [.inr (.inr 25)] (HH L B1 B2 fi ai aj) (fun v h' => v = none ∧ ∃ t g3 g4, h' = HH L B1 B2 (am_u2 fi 27 25 t) (am_sa (am_sa ai 32 (up g3 t (N : Int))) 33 g4) aj ∧ NI (cmW ai aj) (ai 30) (ai 33) (N : Int) t g3 g4) := by
  refine am_W.of rfl rfl ?_
  have hl := l_number d L B1 B2 fi ai aj N h24 hN hw hd N 0 0 (ai 32) (ai 33) (by omega) (by omega) ⟨by omega, fun q q0 q1 => by omega, fun z => by omega, fun k k0 k1 => by omega, fun k k0 k1 => by omega, fun w _ => rfl⟩
  rw [sa_id, sa_id] at hl
  exact am_W.gp 7 rfl ⟨trivial, okI rfl rfl rfl⟩ hl
