-- the reference's reader: names, objects, conditions
def RepQ (K C N P : Int → Int) (n : Int) (x : PT) : Prop := K n = x.1 ∧ (x.1 ≠ 0 → C n = x.2.1) ∧ (x.1 = 0 → N n = (x.2.2.length : Int) ∧ ∀ i : Nat, i < x.2.2.length → P (30 * n + (i : Int)) = rp (x.2.2.getD i 0))
def FN (n : Int) (ai ai' : Nat → Int → Int) : Prop := (∀ b, b < 145 ∨ 148 < b → ai' b = ai b) ∧ (∀ b k, k ≠ n → b ≠ 148 → ai' b k = ai b k) ∧ (∀ k, k < 30 * n ∨ 30 * n + 30 ≤ k → ai' 148 k = ai 148 k)
theorem FN.rf {n : Int} {ai : Nat → Int → Int} : FN n ai ai := ⟨fun _ _ => rfl, fun _ _ _ _ => rfl, fun _ _ => rfl⟩
theorem FN.tr {n : Int} {a1 a2 a3 : Nat → Int → Int} (h1 : FN n a1 a2) (h2 : FN n a2 a3) : FN n a1 a3 := ⟨fun b p => (h2.1 b p).trans (h1.1 b p), fun b k p q => (h2.2.1 b k p q).trans (h1.2.1 b k p q), fun k p => (h2.2.2 k p).trans (h1.2.2 k p)⟩
theorem FN_u {n v : Int} {c : Nat} {ai : Nat → Int → Int} (h : 145 ≤ c ∧ c ≤ 147) : FN n ai (am_u2 ai c n v) := ⟨fun b p => funext fun j => u2n (by omega), fun b k p q => u2a p, fun k p => u2n (by omega)⟩
theorem FN_T {n : Int} {ai ai' : Nat → Int → Int} (h : FT n ai ai') : FN n ai ai' := ⟨fun b p => h.1 b (by omega) (by omega), fun b k p q => by
    by_cases hb : b = 147
    · subst hb
      exact h.2.1 k p
    · rw [h.1 b hb q], h.2.2⟩
theorem am_u2_131 {c : Nat} {i v : Int} {ai : Nat → Int → Int} (h : c ≠ 131) : am_u2 ai c i v 131 = ai 131 := funext fun j => u2n (by omega)
set_option maxHeartbeats 400000 in
set_option maxRecDepth 100000 in
theorem c_mreadNameF (d L B1 B2 : Nat) (fi : Nat → Nat → Int) (ai aj : Nat → Int → Int) (n m g : Int) (h91 : fi 91 126 = 1) : am_M am_prog (d + 1) m_Mo_readName [.inr (.inr 126), .inl n, .inl m, .inl g] (HH L B1 B2 fi ai aj) (fun w h' => w = none ∧ h' = HH L B1 B2 fi ai aj) := by
  have fl91 := h91
  have fl87 : True := trivial
  refine am_W.of rfl rfl ?_
  refine am_W.br rfl rfl (by and_intros <;> first | trivial | exact okI rfl rfl rfl | (refine okrI rfl rfl rfl rfl ?_ ?_ <;> (first | omega | (simp only [HS, FRS, CCS, am_R, fl91, fl87] at *; omega))) | (refine okaI rfl rfl rfl rfl ?_ ?_ <;> (first | omega | (simp only [HS, FRS, CCS, am_R, fl91, fl87] at *; omega))) | (first | omega | (simp only [HS, FRS, CCS, am_R, fl91, fl87] at *; omega)) | (simp only [HS, FRS, CCS, fl91, fl87])) (fun c1 => absurd c1 (by simp only [HS, h91]; decide)) (fun c1 => ?_)
  exact am_W.rt rfl rfl (by and_intros <;> first | trivial | exact okI rfl rfl rfl | (refine okrI rfl rfl rfl rfl ?_ ?_ <;> (first | omega | (simp only [HS, FRS, CCS, am_R, fl91, fl87] at *; omega))) | (refine okaI rfl rfl rfl rfl ?_ ?_ <;> (first | omega | (simp only [HS, FRS, CCS, am_R, fl91, fl87] at *; omega))) | (first | omega | (simp only [HS, FRS, CCS, am_R, fl91, fl87] at *; omega)) | (simp only [HS, FRS, CCS, fl91, fl87])) ⟨rfl, rfl⟩
def pNm (t : Int → Int) (m g : Int) (σ : Tk) : Int ⊕ (PT × Int) := if g = 1 then pName t m σ else pb (qIs 34 σ) fun q => pb (pcs t m 30 q.2.2.2 []) fun x => .inr ((0, 0, x.1), x.2)
def KN (n : Int) (t : Int → Int) : (Nat → Nat → Int) → (Nat → Int → Int) → PT × Int → Prop := fun fi' ai' x => RepQ (ai' 145) (ai' 146) (ai' 147) (ai' 148) n x.1 ∧ TM fi' (lx t x.2 0)
set_option maxHeartbeats 400000 in
set_option maxRecDepth 100000 in
theorem c_mreadName (d L B1 B2 : Nat) (fi : Nat → Nat → Int) (ai aj : Nat → Int → Int) (n m g : Int) (σ : Tk) (t : Int → Int) (hn : 0 ≤ n ∧ n < 18) (hm : 0 ≤ m ∧ m ≤ 4) (hg : g = 0 ∨ g = 1) (h91 : fi 91 126 = 0) (hL : LM fi ai) (hT : TM fi σ) (et : tx (fi 60 126) (ai 131) = t) : am_M am_prog (d + 4) m_Mo_readName [.inr (.inr 126), .inl n, .inl m, .inl g] (HH L B1 B2 fi ai aj) (fun w h' => w = none ∧ MoQ L B1 B2 aj fi (FN n ai) (pNm t m g σ) (KN n t) h') := by
  have fl91 := h91
  have fl87 : True := trivial
  obtain ⟨l1, l2, l3, l4, l5⟩ := id hL
  have hR4 : fi 87 126 = 4 ↔ σ.2.1 = 34 := hT.2.2.1.2.2.2.1
  have hR95 : (fi 87 126 = 3 ∧ fi 88 126 = 95) ↔ σ.2.1 = 95 := hT.2.2.1.2.2.2.2.2.2.2.1
  have tb := hT.2.1
  have t1 := hT.1
  refine am_W.of rfl rfl ?_
  refine am_W.br rfl rfl (by and_intros <;> first | trivial | exact okI rfl rfl rfl | (refine okrI rfl rfl rfl rfl ?_ ?_ <;> (first | omega | (simp only [HS, FRS, CCS, am_R, fl91, fl87] at *; omega))) | (refine okaI rfl rfl rfl rfl ?_ ?_ <;> (first | omega | (simp only [HS, FRS, CCS, am_R, fl91, fl87] at *; omega))) | (first | omega | (simp only [HS, FRS, CCS, am_R, fl91, fl87] at *; omega)) | (simp only [HS, FRS, CCS, fl91, fl87])) (fun c1 => ?_) (fun c1 => absurd (by simp only [HS, FRS, fl91, fl87]) c1)
  have hfl : ∀ R : Int ⊕ (PT × Int), R = .inl (-10 - σ.1) → am_W (am_ev am_prog (d + 3)) T_Mo_readName (fun w h' => w = none ∧ MoQ L B1 B2 aj fi (FN n ai) R (KN n t) h') (70, [some (.inr (.inr 126)), some (.inl n), some (.inl m), some (.inl g)], [], HH L B1 B2 fi ai aj) := by
    intro R hR
    refine am_W.cv 10 m_Mo_fail rfl rfl rfl rfl (by and_intros <;> first | trivial | exact okI rfl rfl rfl | (refine okrI rfl rfl rfl rfl ?_ ?_ <;> (first | omega | (simp only [HS, FRS, CCS, am_R, fl91, fl87] at *; omega))) | (refine okaI rfl rfl rfl rfl ?_ ?_ <;> (first | omega | (simp only [HS, FRS, CCS, am_R, fl91, fl87] at *; omega))) | (first | omega | (simp only [HS, FRS, CCS, am_R, fl91, fl87] at *; omega)) | (simp only [HS, FRS, CCS, fl91, fl87])) (c_mfail (d + 2) L B1 B2 fi ai aj 0 (fi 89 126) h91 (Or.inl rfl) ⟨by omega, by omega⟩) ?_
    rintro r1 h1 ⟨rfl, f2, rfl, g1, g2, g3⟩
    rw [if_neg (by decide), t1] at g2
    exact am_W.rt rfl rfl (by and_intros <;> first | trivial | exact okI rfl rfl rfl | (refine okrI rfl rfl rfl rfl ?_ ?_ <;> (first | omega | (simp only [HS, FRS, CCS, am_R, fl91, fl87] at *; omega))) | (refine okaI rfl rfl rfl rfl ?_ ?_ <;> (first | omega | (simp only [HS, FRS, CCS, am_R, fl91, fl87] at *; omega))) | (first | omega | (simp only [HS, FRS, CCS, am_R, fl91, fl87] at *; omega)) | (simp only [HS, FRS, CCS, fl91, fl87])) ⟨rfl, MoQ_f hR g1 FN.rf g2⟩
  refine am_W.br rfl rfl (by and_intros <;> first | trivial | exact okI rfl rfl rfl | (refine okrI rfl rfl rfl rfl ?_ ?_ <;> (first | omega | (simp only [HS, FRS, CCS, am_R, fl91, fl87] at *; omega))) | (refine okaI rfl rfl rfl rfl ?_ ?_ <;> (first | omega | (simp only [HS, FRS, CCS, am_R, fl91, fl87] at *; omega))) | (first | omega | (simp only [HS, FRS, CCS, am_R, fl91, fl87] at *; omega)) | (simp only [HS, FRS, CCS, fl91, fl87])) (fun c2 => ?_) (fun c2 => ?_)
  · simp only [HS, FRS, fl91, fl87] at c2
    have hk : ¬ σ.2.1 = 34 := fun q => c2 (hR4.mpr q)
    refine am_W.br rfl rfl (by and_intros <;> first | trivial | exact okI rfl rfl rfl | (refine okrI rfl rfl rfl rfl ?_ ?_ <;> (first | omega | (simp only [HS, FRS, CCS, am_R, fl91, fl87] at *; omega))) | (refine okaI rfl rfl rfl rfl ?_ ?_ <;> (first | omega | (simp only [HS, FRS, CCS, am_R, fl91, fl87] at *; omega))) | (first | omega | (simp only [HS, FRS, CCS, am_R, fl91, fl87] at *; omega)) | (simp only [HS, FRS, CCS, fl91, fl87])) (fun c3 => ?_) (fun c3 => ?_)
    · refine hfl _ ?_
      rw [pNm, if_neg (by omega), qIs, if_neg hk, pb_l]
    · rw [pNm, if_pos (by omega)]
      refine am_W.cv 10 m_Mo_isSign rfl rfl rfl rfl (by and_intros <;> first | trivial | exact okI rfl rfl rfl | (refine okrI rfl rfl rfl rfl ?_ ?_ <;> (first | omega | (simp only [HS, FRS, CCS, am_R, fl91, fl87] at *; omega))) | (refine okaI rfl rfl rfl rfl ?_ ?_ <;> (first | omega | (simp only [HS, FRS, CCS, am_R, fl91, fl87] at *; omega))) | (first | omega | (simp only [HS, FRS, CCS, am_R, fl91, fl87] at *; omega)) | (simp only [HS, FRS, CCS, fl91, fl87])) (c_misSign (d + 2) L B1 B2 fi ai aj 95 (by and_intros <;> first | trivial | exact okI rfl rfl rfl | (refine okrI rfl rfl rfl rfl ?_ ?_ <;> (first | omega | (simp only [HS, FRS, CCS, am_R, fl91, fl87] at *; omega))) | (refine okaI rfl rfl rfl rfl ?_ ?_ <;> (first | omega | (simp only [HS, FRS, CCS, am_R, fl91, fl87] at *; omega))) | (first | omega | (simp only [HS, FRS, CCS, am_R, fl91, fl87] at *; omega)) | (simp only [HS, FRS, CCS, fl91, fl87])) (Or.inl h91) ⟨by omega, by omega⟩ ⟨by omega, by omega⟩) ?_
      rintro r1 h1 ⟨rfl, rfl⟩
      by_cases hy : σ.2.1 = 95
      · rw [if_pos ⟨h91, hR95.mpr hy⟩]
        refine am_W.br rfl rfl (by and_intros <;> first | trivial | exact okI rfl rfl rfl | (refine okrI rfl rfl rfl rfl ?_ ?_ <;> (first | omega | (simp only [HS, FRS, CCS, am_R, fl91, fl87] at *; omega))) | (refine okaI rfl rfl rfl rfl ?_ ?_ <;> (first | omega | (simp only [HS, FRS, CCS, am_R, fl91, fl87] at *; omega))) | (first | omega | (simp only [HS, FRS, CCS, am_R, fl91, fl87] at *; omega)) | (simp only [HS, FRS, CCS, fl91, fl87])) (fun c4 => absurd c4 (by decide)) (fun c4 => ?_)
        refine am_W.cv 10 m_Mo_next rfl rfl rfl rfl (by and_intros <;> first | trivial | exact okI rfl rfl rfl | (refine okrI rfl rfl rfl rfl ?_ ?_ <;> (first | omega | (simp only [HS, FRS, CCS, am_R, fl91, fl87] at *; omega))) | (refine okaI rfl rfl rfl rfl ?_ ?_ <;> (first | omega | (simp only [HS, FRS, CCS, am_R, fl91, fl87] at *; omega))) | (first | omega | (simp only [HS, FRS, CCS, am_R, fl91, fl87] at *; omega)) | (simp only [HS, FRS, CCS, fl91, fl87])) (c_mnx (d + 1) L B1 B2 fi ai aj t σ.2.2.2 hL et tb) ?_
        rintro r1 h1 ⟨rfl, f2, rfl, g1, g2, g3, g4⟩
        have g91 : f2 91 126 = 0 := g2.trans h91
        refine am_W.cv 10 m_Mo_wantNumber rfl rfl rfl rfl (by and_intros <;> first | trivial | exact okI rfl rfl rfl | (refine okrI rfl rfl rfl rfl ?_ ?_ <;> (first | omega | (simp only [HS, FRS, CCS, am_R, fl91, fl87] at *; omega))) | (refine okaI rfl rfl rfl rfl ?_ ?_ <;> (first | omega | (simp only [HS, FRS, CCS, am_R, fl91, fl87] at *; omega))) | (first | omega | (simp only [HS, FRS, CCS, am_R, fl91, fl87] at *; omega)) | (simp only [HS, FRS, CCS, fl91, fl87])) (c_mwantNum d L B1 B2 f2 (am_u2 ai 145 n 1) aj m _ t ⟨by omega, by omega⟩ g91 (LM_a (am_u2_131 (by decide)) g3) g4 (by rw [am_u2_131 (by decide), g1 60 126 (by omega)]; exact et)) ?_
        rintro r1 h1 ⟨v, rfl, f3, a3, rfl, k1, rfl, k3⟩
        have hp : pName t m σ = pb (qNum m (lx t σ.2.2.2 0)) fun y => .inr ((1, y.2.2.1, []), y.2.2.2) := by rw [pName, if_neg hk, if_pos hy]; rfl
        cases hqn : qNum m (lx t σ.2.2.2 0) with
        | inl e =>
          rw [hqn] at k3 hp
          exact am_W.rt rfl rfl (by and_intros <;> first | trivial | exact okI rfl rfl rfl | (refine okrI rfl rfl rfl rfl ?_ ?_ <;> (first | omega | (simp only [HS, FRS, CCS, am_R, fl91, fl87] at *; omega))) | (refine okaI rfl rfl rfl rfl ?_ ?_ <;> (first | omega | (simp only [HS, FRS, CCS, am_R, fl91, fl87] at *; omega))) | (first | omega | (simp only [HS, FRS, CCS, am_R, fl91, fl87] at *; omega)) | (simp only [HS, FRS, CCS, fl91, fl87])) ⟨rfl, MoQ_f (f1 := f3) (a1 := am_u2 (am_u2 ai 145 n 1) 146 n v) hp (g1.tr k1) ((FN_u (by omega)).tr (FN_u (by omega))) k3⟩
        | inr y =>
          rw [hqn] at k3 hp
          obtain ⟨k4, k5, k6, k7, k8⟩ := k3
          refine am_W.rt rfl rfl (by and_intros <;> first | trivial | exact okI rfl rfl rfl | (refine okrI rfl rfl rfl rfl ?_ ?_ <;> (first | omega | (simp only [HS, FRS, CCS, am_R, fl91, fl87] at *; omega))) | (refine okaI rfl rfl rfl rfl ?_ ?_ <;> (first | omega | (simp only [HS, FRS, CCS, am_R, fl91, fl87] at *; omega))) | (first | omega | (simp only [HS, FRS, CCS, am_R, fl91, fl87] at *; omega)) | (simp only [HS, FRS, CCS, fl91, fl87])) ⟨rfl, MoQ_y (f1 := f3) (a1 := am_u2 (am_u2 ai 145 n 1) 146 n v) hp (g1.tr k1) ((FN_u (by omega)).tr (FN_u (by omega))) k4 (LM_a (am_u2_131 (by decide)) k5) ⟨⟨?_, fun _ => ?_, fun q => absurd q (show ¬ (1 : Int) = 0 by decide)⟩, k8⟩⟩
          · rw [u2n (by decide), u2s]
          · rw [u2s]
            exact k6
      · rw [if_neg (fun z => hy (hR95.mp z.2))]
        refine am_W.br rfl rfl (by and_intros <;> first | trivial | exact okI rfl rfl rfl | (refine okrI rfl rfl rfl rfl ?_ ?_ <;> (first | omega | (simp only [HS, FRS, CCS, am_R, fl91, fl87] at *; omega))) | (refine okaI rfl rfl rfl rfl ?_ ?_ <;> (first | omega | (simp only [HS, FRS, CCS, am_R, fl91, fl87] at *; omega))) | (first | omega | (simp only [HS, FRS, CCS, am_R, fl91, fl87] at *; omega)) | (simp only [HS, FRS, CCS, fl91, fl87])) (fun c4 => ?_) (fun c4 => absurd rfl c4)
        refine hfl _ ?_
        rw [pName, if_neg hk, if_neg hy]
  · simp only [HS, FRS, fl91, fl87] at c2
    have hk : σ.2.1 = 34 := hR4.mp (by omega)
    have hp : pNm t m g σ = pb (pcs t m 30 σ.2.2.2 []) fun x => .inr ((0, 0, x.1), x.2) := by
      rcases hg with rfl | rfl
      · rw [pNm, if_neg (by decide), qIs, if_pos hk, pb_r]
      · rw [pNm, if_pos rfl, pName, if_pos hk]
    have ht := c_mtemplate d L B1 B2 fi (am_u2 ai 145 n 0) aj n m t hn hm h91 (LM_a (am_u2_131 (by decide)) hL) (by rw [am_u2_131 (by decide)]; exact et)
    rw [tb] at ht
    refine am_W.cv 10 m_Mo_template rfl rfl rfl rfl (by and_intros <;> first | trivial | exact okI rfl rfl rfl | (refine okrI rfl rfl rfl rfl ?_ ?_ <;> (first | omega | (simp only [HS, FRS, CCS, am_R, fl91, fl87] at *; omega))) | (refine okaI rfl rfl rfl rfl ?_ ?_ <;> (first | omega | (simp only [HS, FRS, CCS, am_R, fl91, fl87] at *; omega))) | (first | omega | (simp only [HS, FRS, CCS, am_R, fl91, fl87] at *; omega)) | (simp only [HS, FRS, CCS, fl91, fl87])) ht ?_
    rintro r1 h1 ⟨rfl, f3, a3, rfl, k1, k2, k3⟩
    cases hqn : pcs t m 30 σ.2.2.2 [] with
    | inl e =>
      rw [hqn] at k3 hp
      exact am_W.rt rfl rfl (by and_intros <;> first | trivial | exact okI rfl rfl rfl | (refine okrI rfl rfl rfl rfl ?_ ?_ <;> (first | omega | (simp only [HS, FRS, CCS, am_R, fl91, fl87] at *; omega))) | (refine okaI rfl rfl rfl rfl ?_ ?_ <;> (first | omega | (simp only [HS, FRS, CCS, am_R, fl91, fl87] at *; omega))) | (first | omega | (simp only [HS, FRS, CCS, am_R, fl91, fl87] at *; omega)) | (simp only [HS, FRS, CCS, fl91, fl87])) ⟨rfl, MoQ_f hp k1 ((FN_u (by omega)).tr (FN_T k2)) k3⟩
    | inr y =>
      rw [hqn] at k3 hp
      obtain ⟨k4, k5, k6, k7, k8⟩ := k3
      refine am_W.rt rfl rfl (by and_intros <;> first | trivial | exact okI rfl rfl rfl | (refine okrI rfl rfl rfl rfl ?_ ?_ <;> (first | omega | (simp only [HS, FRS, CCS, am_R, fl91, fl87] at *; omega))) | (refine okaI rfl rfl rfl rfl ?_ ?_ <;> (first | omega | (simp only [HS, FRS, CCS, am_R, fl91, fl87] at *; omega))) | (first | omega | (simp only [HS, FRS, CCS, am_R, fl91, fl87] at *; omega)) | (simp only [HS, FRS, CCS, fl91, fl87])) ⟨rfl, MoQ_y hp k1 ((FN_u (by omega)).tr (FN_T k2)) k4 k5 ⟨⟨?_, fun q => absurd rfl q, fun _ => ⟨k7, k8⟩⟩, k6⟩⟩
      rw [k2.1 145 (by decide) (by decide), u2s]
def FO (m : Int) (ai ai' : Nat → Int → Int) : Prop := (∀ b, b < 144 ∨ 155 < b → ai' b = ai b) ∧ (∀ b k, k ≠ m → (b = 144 ∨ 149 ≤ b) → ai' b k = ai b k) ∧ (∀ b k, k < 3 * m ∨ 3 * m + 3 ≤ k → (145 ≤ b ∧ b ≤ 147) → ai' b k = ai b k) ∧ (∀ k, k < 90 * m ∨ 90 * m + 90 ≤ k → ai' 148 k = ai 148 k)
theorem FO.rf {m : Int} {ai : Nat → Int → Int} : FO m ai ai := ⟨fun _ _ => rfl, fun _ _ _ _ => rfl, fun _ _ _ _ => rfl, fun _ _ => rfl⟩
theorem FO.tr {m : Int} {a1 a2 a3 : Nat → Int → Int} (h1 : FO m a1 a2) (h2 : FO m a2 a3) : FO m a1 a3 := ⟨fun b p => (h2.1 b p).trans (h1.1 b p), fun b k p q => (h2.2.1 b k p q).trans (h1.2.1 b k p q), fun b k p q => (h2.2.2.1 b k p q).trans (h1.2.2.1 b k p q), fun k p => (h2.2.2.2 k p).trans (h1.2.2.2 k p)⟩
theorem FO_n {m n : Int} {ai ai' : Nat → Int → Int} (h : FN n ai ai') (hn : 3 * m ≤ n ∧ n < 3 * m + 3) : FO m ai ai' := ⟨fun b p => h.1 b (by omega), fun b k _ q => by rw [h.1 b (by omega)], fun b k p q => h.2.1 b k (by omega) (by omega), fun k p => h.2.2 k (by omega)⟩
theorem FO_u {m v : Int} {c : Nat} {ai : Nat → Int → Int} (h : c = 144 ∨ (149 ≤ c ∧ c ≤ 155)) : FO m ai (am_u2 ai c m v) := ⟨fun b p => funext fun j => u2n (by omega), fun b k p q => u2a p, fun b k p q => u2n (by omega), fun k p => u2n (by omega)⟩
theorem FO_v {m n v : Int} {c : Nat} {ai : Nat → Int → Int} (h : 145 ≤ c ∧ c ≤ 147) (hn : 3 * m ≤ n ∧ n < 3 * m + 3) : FO m ai (am_u2 ai c n v) := ⟨fun b p => funext fun j => u2n (by omega), fun b k p q => u2n (by omega), fun b k p q => u2a (by omega), fun k p => u2n (by omega)⟩
def KOb (m : Int) (t : Int → Int) (ai : Nat → Int → Int) : (Nat → Nat → Int) → (Nat → Int → Int) → PT × JT × Tk → Prop := fun fi' ai' x => RepQ (ai' 145) (ai' 146) (ai' 147) (ai' 148) (3 * m + 2) x.1 ∧ ai' 149 m = x.2.1.1 ∧ (x.2.1.1 ≠ -1 → ai' 150 m = x.2.1.2.1 ∧ ai' 151 m = x.2.1.2.2) ∧ TM fi' x.2.2 ∧ ai' 144 = ai 144 ∧ (∀ b, 152 ≤ b → ai' b = ai b) ∧ (∀ b k, k ≠ 3 * m + 2 → (145 ≤ b ∧ b ≤ 147) → ai' b k = ai b k) ∧ (∀ k, k < 30 * (3 * m + 2) ∨ 30 * (3 * m + 2) + 30 ≤ k → ai' 148 k = ai 148 k)
abbrev DM (fi : Nat → Nat → Int) (ai : Nat → Int → Int) : DT := (fi 54 126, ai 127, ai 128, ai 130, ai 129)
theorem co_M {D : DT} {x : Int} (h0 : 0 ≤ x) (h1 : x < D.1) : co D x = D.2.1 x := if_neg (by omega)
