-- the reference: note
theorem u2x {β γ : Type} [DecidableEq β] {f : Nat → β → γ} {i j : Nat} {a b : β} {v : γ} (h : ¬ (j = i ∧ b = a)) : am_u2 f i a v j b = f j b := by
  by_cases h1 : j = i
  · rw [h1]
    exact u2b (fun z => h ⟨h1, z⟩)
  · exact u2n h1
def FNo (fi fi' : Nat → Nat → Int) (a a' : Nat → Int → Int) : Prop := (∀ j b, ¬ (j = 94 ∧ b = 126) → fi' j b = fi j b) ∧ (∀ b, b < 156 ∨ 163 < b → a' b = a b) ∧ (byR a → byR a')
theorem FNo.rf {fi : Nat → Nat → Int} {a : Nat → Int → Int} : FNo fi fi a a := ⟨fun _ _ _ => rfl, fun _ _ => rfl, fun h => h⟩
theorem FNo.tr {f1 f2 f3 : Nat → Nat → Int} {a1 a2 a3 : Nat → Int → Int} (h1 : FNo f1 f2 a1 a2) (h2 : FNo f2 f3 a2 a3) : FNo f1 f3 a1 a3 := ⟨fun j b h => (h2.1 j b h).trans (h1.1 j b h), fun b h => (h2.2.1 b h).trans (h1.2.1 b h), fun h => h2.2.2 (h1.2.2 h)⟩
def GSQ (L B1 B2 : Nat) (aj : Nat → Int → Int) (c : Int → Int → Int) (TM : Int → Int → Int × List Int) (gr : Int → Int) (fi : Nat → Nat → Int) (a : Nat → Int → Int) (l : List Int) (h' : am_H) : Prop := ∃ f' a' P, h' = HH L B1 B2 f' a' aj ∧ FNo fi f' a a' ∧ f' 94 126 = (P.length : Int) ∧ GS c TM gr a' P l
theorem Lst_len {c : Int → Int → Int} (hc : ordC c) {l P : List Int} (h : Lst c l P) : P.length ≤ l.length := by
  have hn : P.Nodup := h.1.imp (fun {x y} hxy e => by
    rw [e] at hxy
    have := ordC_r hc y
    omega)
  exact hn.length_le_of_subset (fun w hw => ((h.2.1 w).mp hw).1)
set_option maxHeartbeats 400000 in
set_option maxRecDepth 100000 in
theorem c_note (d L B1 B2 : Nat) (fi : Nat → Nat → Int) (ai aj : Nat → Int → Int) (c : Int → Int → Int) (TM : Int → Int → Int × List Int) (gr : Int → Int) (P l : List Int) (w m r : Int) (hc : ordC c) (hG : fi 94 126 = (P.length : Int)) (hl : l.length < 1536) (hS : GS c TM gr ai P l) (hw : slR ai (P.length : Int) (TM w) (gr w)) (hwl : ∀ v ∈ l, v < w) (hk : ∀ p ∈ P, KOw c TM gr p) (hkw : KOw c TM gr w) (hcm : ∀ p ∈ P, cmT (TM p) (TM w) (gr p) (gr w) = c p w) (hm : m = w / 256) (hr : r = w / 16 % 16) (hw0 : 0 ≤ w ∧ w < 1536) : am_M am_prog (d + 3) m_Mo_note [.inr (.inr 126), .inl m, .inl r] (HH L B1 B2 fi ai aj) (fun v h' => v = none ∧ GSQ L B1 B2 aj c TM gr fi ai (l ++ [w]) h') := by
  have ok126 : am_ok (HH L B1 B2 fi ai aj) 126 10 := okI rfl rfl rfl
  have hPl := Lst_len hc hS.1
  have eG : am_fi (HH L B1 B2 fi ai aj) 94 126 = (P.length : Int) := hG
  refine am_W.of rfl rfl ?_
  refine am_W.cv 10 m_Mo_find rfl rfl rfl rfl ⟨trivial, ok126⟩ (c_find d L B1 B2 fi ai aj c TM gr P w hc hG (by omega) hS.1.1 (fun i hi => ⟨(hS.2.1 i hi).1, (hS.2.1 i hi).2.1⟩) hw hk hkw hcm) ?_
  rintro v1 h1 ⟨y, rfl, hq, rfl⟩
  rcases hq with ⟨i, hi, rfl, he⟩ | ⟨k, hk1, rfl, k1, k2⟩
  · refine am_W.br rfl rfl ⟨trivial, ⟨by omega, by omega⟩⟩ (fun z => absurd z (by omega)) (fun z => ?_)
    obtain ⟨q1, q2, q3, q4, q5⟩ := hS.2.1 i hi
    have hcn := cnt_le (c := c) (l := l) (p := gD P i)
    have oO : am_okr (HH L B1 B2 fi ai aj) (am_fr (HH L B1 B2 fi ai aj) 102 126) 1000 (i : Int) := okrI rfl rfl (t := 1000) (N := 1600) rfl rfl (by omega) (by omega)
    have eO : am_ai (HH L B1 B2 fi ai aj) (am_fr (HH L B1 B2 fi ai aj) 102 126) (i : Int) = ai 163 (i : Int) := rfl
    have oW : am_okr (HH L B1 B2 fi ai aj) (am_fr (HH L B1 B2 fi ai aj) 99 126) 1000 (ai 163 (i : Int)) := okrI rfl rfl (t := 1000) (N := 1600) rfl rfl (by omega) (by omega)
    refine am_W.rt rfl rfl ?_ ⟨rfl, fi, _, P, rfl, ⟨fun _ _ _ => rfl, ?_, fun h => h⟩, hG, ?_⟩
    · simp only [HS, FRS]
      exact (by and_intros <;> first | trivial | exact okI rfl rfl rfl | (refine okrI rfl rfl rfl rfl ?_ ?_ <;> (first | omega | (simp only [HS, FRS, CCS, am_R] at *; omega))) | (refine okaI rfl rfl rfl rfl ?_ ?_ <;> (first | omega | (simp only [HS, FRS, CCS, am_R] at *; omega))) | (first | omega | (simp only [HS, FRS, CCS, am_R] at *; omega)) | (simp only [HS, FRS, CCS]))
    · intro b hb
      simp only [HS, FRS]
      rw [u2_sa, san _ _ (by omega)]
    · simp only [HS, FRS]
      rw [u2_sa]
      exact GS_old hc hS hwl hi he
  · have hloop : ∀ (n : Nat) (q : Int), q = (k : Int) + n → q ≤ (P.length : Int) → am_W (am_ev am_prog (d + 2)) T_Mo_note (fun v h' => v = none ∧ GSQ L B1 B2 aj c TM gr fi ai (l ++ [w]) h') (31, [some (.inr (.inr 126)), some (.inl m), some (.inl r), some (.inl (-1 - (k : Int))), some (.inl q)], [], HH L B1 B2 fi (am_sa ai 163 (shf (ai 163) q (P.length : Int))) aj) := by
      intro n
      induction n with
      | zero =>
        intro q hq hq2
        refine am_W.br rfl rfl ⟨trivial, ⟨by omega, by omega⟩, ⟨by omega, by omega⟩⟩ (fun z => ?_) (fun z => absurd (by omega) z)
        refine am_W.rt rfl rfl ?_ ⟨rfl, ?_⟩
        · simp only [HS, FRS]
          exact (by and_intros <;> first | trivial | exact okI rfl rfl rfl | (refine okrI rfl rfl rfl rfl ?_ ?_ <;> (first | omega | (simp only [HS, FRS, CCS, am_R] at *; omega))) | (refine okaI rfl rfl rfl rfl ?_ ?_ <;> (first | omega | (simp only [HS, FRS, CCS, am_R] at *; omega))) | (first | omega | (simp only [HS, FRS, CCS, am_R] at *; omega)) | (simp only [HS, FRS, CCS]))
        · simp only [HS, FRS]
          simp only [u2_sa, hG, show -1 - (-1 - (k : Int)) = (k : Int) by omega, show q = (k : Int) by omega]
          refine ⟨_, _, ins P k w, rfl, ⟨fun j b h => u2x h, ?_, fun h => h⟩, ?_, ?_⟩
          · intro b hb
            rw [san _ _ (by omega), san _ _ (by omega), san _ _ (by omega), san _ _ (by omega), san _ _ (by omega)]
          · rw [u2s, ins_l hk1]
            omega
          · exact GS_new hc hS hwl hk1 hw k1 k2 _ rfl rfl rfl rfl rfl (by rw [← hm]; rfl) (by rw [← hr]; rfl) rfl
      | succ n ih =>
        intro q hq hq2
        refine am_W.br rfl rfl ⟨trivial, ⟨by omega, by omega⟩, ⟨by omega, by omega⟩⟩ (fun z => absurd z (by omega)) (fun z => ?_)
        refine am_W.gp 31 rfl ?_ ?_
        · simp only [HS, FRS]
          exact (by and_intros <;> first | trivial | exact okI rfl rfl rfl | (refine okrI rfl rfl rfl rfl ?_ ?_ <;> (first | omega | (simp only [HS, FRS, CCS, am_R] at *; omega))) | (refine okaI rfl rfl rfl rfl ?_ ?_ <;> (first | omega | (simp only [HS, FRS, CCS, am_R] at *; omega))) | (first | omega | (simp only [HS, FRS, CCS, am_R] at *; omega)) | (simp only [HS, FRS, CCS]))
        · simp only [HS, FRS]
          rw [u2sa, sas, shf_s _ hq2]
          exact ih (q - 1) (by omega) (by omega)
    refine am_W.br rfl rfl ⟨trivial, ⟨by omega, by omega⟩⟩ (fun z => ?_) (fun z => absurd (by omega) z)
    refine am_W.gp 31 rfl ⟨trivial, ok126⟩ ?_
    rw [eG]
    have h0 := hloop (P.length - k) (P.length : Int) (by omega) (Int.le_refl _)
    rw [shf_0, sa_id] at h0
    exact h0
