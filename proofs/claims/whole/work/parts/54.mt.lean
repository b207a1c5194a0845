-- the reference's reader: templates
theorem LM_90 {fi : Nat → Nat → Int} {ai : Nat → Int → Int} {x : Int} (hL : LM fi ai) (hx : 0 ≤ x ∧ x ≤ fi 60 126) : LM (am_u2 fi 90 126 x) ai := ⟨hL.1, ⟨by rw [u2s]; exact hx.1, by rw [u2s]; exact hx.2⟩, hL.2.2⟩
theorem ch_n {t : Int → Int} {i : Int} (h : t i ≠ -1) : ch t i = t i := if_neg h
theorem ch_0 {t : Int → Int} {i : Int} (h : t i = -1) : ch t i = 0 := if_pos h
set_option maxHeartbeats 400000 in
set_option maxRecDepth 100000 in
theorem c_mescaped (d L B1 B2 : Nat) (fi : Nat → Nat → Int) (ai aj : Nat → Int → Int) (t : Int → Int) (b : Int) (h91 : fi 91 126 = 0) (hL : LM fi ai) (et : tx (fi 60 126) (ai 131) = t) (hb : fi 90 126 = b) : am_M am_prog (d + 2) m_Mo_escaped [.inr (.inr 126)] (HH L B1 B2 fi ai aj) (fun w h' => w = some (.inl (ch t b)) ∧ ∃ fi', h' = HH L B1 B2 fi' ai aj ∧ FM fi fi' ∧ (esc (t b) → fi' 91 126 = 0 ∧ fi' 90 126 = b + 1 ∧ LM fi' ai) ∧ (¬ esc (t b) → FL fi' (-10 - b))) := by
  have fl91 := h91
  have fl87 : True := trivial
  obtain ⟨l1, l2, l3, l4, l5⟩ := id hL
  have n1 := l1.2.1
  have hx := tx_R l1 b
  have hcR := ch_R l1 b
  rw [et] at hx hcR
  refine am_W.of rfl rfl ?_
  have hc := c_Mo_charAt d L B1 B2 fi ai aj b l1 (by omega) ⟨by omega, by omega⟩
  rw [et] at hc
  refine am_W.cv 10 m_Mo_charAt rfl rfl rfl rfl (by and_intros <;> first | trivial | exact okI rfl rfl rfl | (refine okrI rfl rfl rfl rfl ?_ ?_ <;> (first | omega | (simp only [HS, FRS, CCS, am_R, fl91, fl87] at *; omega))) | (refine okaI rfl rfl rfl rfl ?_ ?_ <;> (first | omega | (simp only [HS, FRS, CCS, am_R, fl91, fl87] at *; omega))) | (first | omega | (simp only [HS, FRS, CCS, am_R, fl91, fl87] at *; omega)) | (simp only [HS, FRS, CCS, fl91, fl87])) (by rw [show am_gf (HH L B1 B2 fi ai aj) 90 126 0 = .inl (fi 90 126) from rfl, hb]; exact hc) ?_
  rintro r1 h1 ⟨rfl, rfl⟩
  have hno : ¬ esc (t b) → am_W (am_ev am_prog (d + 1)) T_Mo_escaped (fun w h' => w = some (.inl (ch t b)) ∧ ∃ fi', h' = HH L B1 B2 fi' ai aj ∧ FM fi fi' ∧ (esc (t b) → fi' 91 126 = 0 ∧ fi' 90 126 = b + 1 ∧ LM fi' ai) ∧ (¬ esc (t b) → FL fi' (-10 - b))) (44, [some (.inr (.inr 126)), some (.inl (ch t b))], [], HH L B1 B2 fi ai aj) := by
    intro hn
    refine am_W.cv 10 m_Mo_fail rfl rfl rfl rfl (by and_intros <;> first | trivial | exact okI rfl rfl rfl | (refine okrI rfl rfl rfl rfl ?_ ?_ <;> (first | omega | (simp only [HS, FRS, CCS, am_R, fl91, fl87] at *; omega))) | (refine okaI rfl rfl rfl rfl ?_ ?_ <;> (first | omega | (simp only [HS, FRS, CCS, am_R, fl91, fl87] at *; omega))) | (first | omega | (simp only [HS, FRS, CCS, am_R, fl91, fl87] at *; omega)) | (simp only [HS, FRS, CCS, fl91, fl87])) (by rw [show am_gf (HH L B1 B2 fi ai aj) 90 126 0 = .inl (fi 90 126) from rfl, hb]; exact c_mfail d L B1 B2 fi ai aj 0 b h91 (Or.inl rfl) ⟨by omega, by omega⟩) ?_
    rintro r1 h1 ⟨rfl, f2, rfl, g1, g2, g3⟩
    refine am_W.rt rfl rfl (by and_intros <;> first | trivial | exact okI rfl rfl rfl | (refine okrI rfl rfl rfl rfl ?_ ?_ <;> (first | omega | (simp only [HS, FRS, CCS, am_R, fl91, fl87] at *; omega))) | (refine okaI rfl rfl rfl rfl ?_ ?_ <;> (first | omega | (simp only [HS, FRS, CCS, am_R, fl91, fl87] at *; omega))) | (first | omega | (simp only [HS, FRS, CCS, am_R, fl91, fl87] at *; omega)) | (simp only [HS, FRS, CCS, fl91, fl87])) ⟨rfl, am_u2 f2 90 126 (f2 90 126 + 1), rfl, g1.tr (FM_u (by omega)), fun q => absurd q hn, fun _ => ?_⟩
    rw [if_neg (by decide)] at g2
    exact g2
  have hyes : esc (t b) → am_W (am_ev am_prog (d + 1)) T_Mo_escaped (fun w h' => w = some (.inl (ch t b)) ∧ ∃ fi', h' = HH L B1 B2 fi' ai aj ∧ FM fi fi' ∧ (esc (t b) → fi' 91 126 = 0 ∧ fi' 90 126 = b + 1 ∧ LM fi' ai) ∧ (¬ esc (t b) → FL fi' (-10 - b))) (53, [some (.inr (.inr 126)), some (.inl (ch t b))], [], HH L B1 B2 fi ai aj) := by
    intro hy
    have hlt := (tx_lt (n := fi 60 126) (T := ai 131) (p := b) (by rw [et]; omega)).2
    refine am_W.rt rfl rfl (by and_intros <;> first | trivial | exact okI rfl rfl rfl | (refine okrI rfl rfl rfl rfl ?_ ?_ <;> (first | omega | (simp only [HS, FRS, CCS, am_R, fl91, fl87] at *; omega))) | (refine okaI rfl rfl rfl rfl ?_ ?_ <;> (first | omega | (simp only [HS, FRS, CCS, am_R, fl91, fl87] at *; omega))) | (first | omega | (simp only [HS, FRS, CCS, am_R, fl91, fl87] at *; omega)) | (simp only [HS, FRS, CCS, fl91, fl87])) ⟨rfl, am_u2 fi 90 126 (fi 90 126 + 1), rfl, FM_u (by omega), fun _ => ⟨?_, ?_, LM_90 hL ⟨by omega, by omega⟩⟩, fun q => absurd hy q⟩
    · rw [u2n (by decide)]
      exact h91
    · rw [u2s, hb]
  refine am_W.br rfl rfl (by and_intros <;> first | trivial | exact okI rfl rfl rfl | (refine okrI rfl rfl rfl rfl ?_ ?_ <;> (first | omega | (simp only [HS, FRS, CCS, am_R, fl91, fl87] at *; omega))) | (refine okaI rfl rfl rfl rfl ?_ ?_ <;> (first | omega | (simp only [HS, FRS, CCS, am_R, fl91, fl87] at *; omega))) | (first | omega | (simp only [HS, FRS, CCS, am_R, fl91, fl87] at *; omega)) | (simp only [HS, FRS, CCS, fl91, fl87])) (fun c1 => hno ?_) (fun c1 => ?_)
  · simp only [HS, FRS, fl91, fl87] at c1
    rw [← et, tx_o (by omega)]
    omega
  · simp only [HS, FRS, fl91, fl87] at c1
    have hne : t b ≠ -1 := by omega
    rw [ch_n hne] at *
    refine am_W.br rfl rfl (by and_intros <;> first | trivial | exact okI rfl rfl rfl | (refine okrI rfl rfl rfl rfl ?_ ?_ <;> (first | omega | (simp only [HS, FRS, CCS, am_R, fl91, fl87] at *; omega))) | (refine okaI rfl rfl rfl rfl ?_ ?_ <;> (first | omega | (simp only [HS, FRS, CCS, am_R, fl91, fl87] at *; omega))) | (first | omega | (simp only [HS, FRS, CCS, am_R, fl91, fl87] at *; omega)) | (simp only [HS, FRS, CCS, fl91, fl87])) (fun c2 => hyes (by omega)) (fun c2 => ?_)
    refine am_W.br rfl rfl (by and_intros <;> first | trivial | exact okI rfl rfl rfl | (refine okrI rfl rfl rfl rfl ?_ ?_ <;> (first | omega | (simp only [HS, FRS, CCS, am_R, fl91, fl87] at *; omega))) | (refine okaI rfl rfl rfl rfl ?_ ?_ <;> (first | omega | (simp only [HS, FRS, CCS, am_R, fl91, fl87] at *; omega))) | (first | omega | (simp only [HS, FRS, CCS, am_R, fl91, fl87] at *; omega)) | (simp only [HS, FRS, CCS, fl91, fl87])) (fun c3 => hyes (by omega)) (fun c3 => ?_)
    refine am_W.br rfl rfl (by and_intros <;> first | trivial | exact okI rfl rfl rfl | (refine okrI rfl rfl rfl rfl ?_ ?_ <;> (first | omega | (simp only [HS, FRS, CCS, am_R, fl91, fl87] at *; omega))) | (refine okaI rfl rfl rfl rfl ?_ ?_ <;> (first | omega | (simp only [HS, FRS, CCS, am_R, fl91, fl87] at *; omega))) | (first | omega | (simp only [HS, FRS, CCS, am_R, fl91, fl87] at *; omega)) | (simp only [HS, FRS, CCS, fl91, fl87])) (fun c4 => hyes (by omega)) (fun c4 => ?_)
    exact am_W.br rfl rfl (by and_intros <;> first | trivial | exact okI rfl rfl rfl | (refine okrI rfl rfl rfl rfl ?_ ?_ <;> (first | omega | (simp only [HS, FRS, CCS, am_R, fl91, fl87] at *; omega))) | (refine okaI rfl rfl rfl rfl ?_ ?_ <;> (first | omega | (simp only [HS, FRS, CCS, am_R, fl91, fl87] at *; omega))) | (first | omega | (simp only [HS, FRS, CCS, am_R, fl91, fl87] at *; omega)) | (simp only [HS, FRS, CCS, fl91, fl87])) (fun c5 => hyes (by omega)) (fun c5 => hno (by omega))
set_option maxHeartbeats 400000 in
set_option maxRecDepth 100000 in
theorem l_mcolumn (d L B1 B2 : Nat) (fi : Nat → Nat → Int) (ai aj : Nat → Int → Int) (m b : Int) (Q : Option am_V → am_H → Prop) (hI : txI (fi 60 126) (ai 131)) (hb : 0 ≤ b ∧ b ≤ 500) : ∀ (k : Nat) (p v : Int) (h : am_H), p - b + (k : Int) = 4 → 0 ≤ p → b ≤ p → p ≤ fi 60 126 → h = HH L B1 B2 (am_u2 fi 90 126 p) ai aj → am_W (am_ev am_prog (d + 1)) T_Mo_column Q (62, [some (.inr (.inr 126)), some (.inl m), some (.inl b), some (.inl (dge (tx (fi 60 126) (ai 131)) k p v).2)], [], HH L B1 B2 (am_u2 fi 90 126 (dge (tx (fi 60 126) (ai 131)) k p v).1) ai aj) → am_W (am_ev am_prog (d + 1)) T_Mo_column Q (7, [some (.inr (.inr 126)), some (.inl m), some (.inl b), some (.inl v)], [], h) := by
  have hn1 := hI.2.1
  have fl91 : ∀ x, am_u2 fi 90 126 x 90 126 = x := fun x => u2s
  have fl87 : ∀ x, am_u2 fi 90 126 x 60 126 = fi 60 126 := fun x => u2n (by decide)
  intro k
  induction k with
  | zero =>
    intro p v h hk h0 h2 h1 hh w
    subst hh
    exact am_W.br rfl rfl (by and_intros <;> first | trivial | exact okI rfl rfl rfl | (refine okrI rfl rfl rfl rfl ?_ ?_ <;> (first | omega | (simp only [HS, FRS, CCS, am_R, fl91, fl87] at *; omega))) | (refine okaI rfl rfl rfl rfl ?_ ?_ <;> (first | omega | (simp only [HS, FRS, CCS, am_R, fl91, fl87] at *; omega))) | (first | omega | (simp only [HS, FRS, CCS, am_R, fl91, fl87] at *; omega)) | (simp only [HS, FRS, CCS, fl91, fl87])) (fun c1 => w) (fun c1 => absurd c1 (by (first | omega | (simp only [HS, FRS, CCS, am_R, fl91, fl87] at *; omega))))
  | succ k ih =>
    intro p v h hk h0 h2 h1 hh w
    subst hh
    refine am_W.br rfl rfl (by and_intros <;> first | trivial | exact okI rfl rfl rfl | (refine okrI rfl rfl rfl rfl ?_ ?_ <;> (first | omega | (simp only [HS, FRS, CCS, am_R, fl91, fl87] at *; omega))) | (refine okaI rfl rfl rfl rfl ?_ ?_ <;> (first | omega | (simp only [HS, FRS, CCS, am_R, fl91, fl87] at *; omega))) | (first | omega | (simp only [HS, FRS, CCS, am_R, fl91, fl87] at *; omega)) | (simp only [HS, FRS, CCS, fl91, fl87])) (fun c1 => absurd c1 (by (first | omega | (simp only [HS, FRS, CCS, am_R, fl91, fl87] at *; omega)))) (fun c1 => ?_)
    refine am_W.cv 10 m_Mo_charAt rfl rfl rfl rfl (by and_intros <;> first | trivial | exact okI rfl rfl rfl | (refine okrI rfl rfl rfl rfl ?_ ?_ <;> (first | omega | (simp only [HS, FRS, CCS, am_R, fl91, fl87] at *; omega))) | (refine okaI rfl rfl rfl rfl ?_ ?_ <;> (first | omega | (simp only [HS, FRS, CCS, am_R, fl91, fl87] at *; omega))) | (first | omega | (simp only [HS, FRS, CCS, am_R, fl91, fl87] at *; omega)) | (simp only [HS, FRS, CCS, fl91, fl87])) (by rw [show am_gf (HH L B1 B2 (am_u2 fi 90 126 p) ai aj) 90 126 0 = .inl (am_u2 fi 90 126 p 90 126) from rfl, u2s]; exact c_Mo_charAt d L B1 B2 (am_u2 fi 90 126 p) ai aj p hI h0 ⟨by omega, by omega⟩) ?_
    rintro r1 h1 ⟨rfl, rfl⟩
    refine am_W.cs rfl rfl rfl (by and_intros <;> first | trivial | exact okI rfl rfl rfl | (refine okrI rfl rfl rfl rfl ?_ ?_ <;> (first | omega | (simp only [HS, FRS, CCS, am_R, fl91, fl87] at *; omega))) | (refine okaI rfl rfl rfl rfl ?_ ?_ <;> (first | omega | (simp only [HS, FRS, CCS, am_R, fl91, fl87] at *; omega))) | (first | omega | (simp only [HS, FRS, CCS, am_R, fl91, fl87] at *; omega)) | (simp only [HS, FRS, CCS, fl91, fl87])) (c_Mo_isDigit d _ _ (ch_R hI _)) ?_
    rintro r1 h1 ⟨rfl, rfl⟩
    rw [fl87]
    unfold dge at w
    by_cases hq : dgt (tx (fi 60 126) (ai 131) p)
    · rw [if_pos (ch_d.mpr hq)]
      rw [if_pos hq] at w
      have hb2 := (tx_lt (T := ai 131) (p := p) (n := fi 60 126) (by omega)).2
      rw [tx_i h0 hb2] at w
      refine am_W.br rfl rfl (by and_intros <;> first | trivial | exact okI rfl rfl rfl | (refine okrI rfl rfl rfl rfl ?_ ?_ <;> (first | omega | (simp only [HS, FRS, CCS, am_R, fl91, fl87] at *; omega))) | (refine okaI rfl rfl rfl rfl ?_ ?_ <;> (first | omega | (simp only [HS, FRS, CCS, am_R, fl91, fl87] at *; omega))) | (first | omega | (simp only [HS, FRS, CCS, am_R, fl91, fl87] at *; omega)) | (simp only [HS, FRS, CCS, fl91, fl87])) (fun c1 => absurd c1 (by decide)) (fun c1 => ?_)
      refine am_W.gp 7 rfl (by and_intros <;> first | trivial | exact okI rfl rfl rfl | (refine okrI rfl rfl rfl rfl ?_ ?_ <;> (first | omega | (simp only [HS, FRS, CCS, am_R, fl91, fl87] at *; omega))) | (refine okaI rfl rfl rfl rfl ?_ ?_ <;> (first | omega | (simp only [HS, FRS, CCS, am_R, fl91, fl87] at *; omega))) | (first | omega | (simp only [HS, FRS, CCS, am_R, fl91, fl87] at *; omega)) | (simp only [HS, FRS, CCS, fl91, fl87])) ?_
      simp only [HS, FRS, fl91, fl87]
      refine ih (p + 1) _ _ (by omega) (by omega) (by omega) (by omega) ?_ w
      rw [u2u]
    · rw [if_neg (fun q => hq (ch_d.mp q))]
      rw [if_neg hq] at w
      exact am_W.br rfl rfl (by and_intros <;> first | trivial | exact okI rfl rfl rfl | (refine okrI rfl rfl rfl rfl ?_ ?_ <;> (first | omega | (simp only [HS, FRS, CCS, am_R, fl91, fl87] at *; omega))) | (refine okaI rfl rfl rfl rfl ?_ ?_ <;> (first | omega | (simp only [HS, FRS, CCS, am_R, fl91, fl87] at *; omega))) | (first | omega | (simp only [HS, FRS, CCS, am_R, fl91, fl87] at *; omega)) | (simp only [HS, FRS, CCS, fl91, fl87])) (fun c1 => w) (fun c1 => absurd rfl c1)
def cIn (t : Int → Int) (m b : Int) : Int ⊕ (Int × Int) := if (dge t 4 b 0).1 = b then .inl (-10 - b) else if m ≤ (dge t 4 b 0).2 then .inl (-1000 - b) else if t (dge t 4 b 0).1 = 125 then .inr ((dge t 4 b 0).2, (dge t 4 b 0).1 + 1) else .inl (-10 - (dge t 4 b 0).1)
set_option maxHeartbeats 400000 in
set_option maxRecDepth 100000 in
theorem c_mcolumn (d L B1 B2 : Nat) (fi : Nat → Nat → Int) (ai aj : Nat → Int → Int) (t : Int → Int) (m b : Int) (hm : am_R m) (h91 : fi 91 126 = 0) (hL : LM fi ai) (et : tx (fi 60 126) (ai 131) = t) (hb : fi 90 126 = b) : am_M am_prog (d + 2) m_Mo_column [.inr (.inr 126), .inl m] (HH L B1 B2 fi ai aj) (fun w h' => w = some (.inl (256 + (dge t 4 b 0).2)) ∧ ∃ fi', h' = HH L B1 B2 fi' ai aj ∧ FM fi fi' ∧ (match cIn t m b with
  | .inl e => FL fi' e
  | .inr x => fi' 91 126 = 0 ∧ fi' 90 126 = x.2 ∧ LM fi' ai)) := by
  obtain ⟨l1, l2, l3, l4, l5⟩ := id hL
  have n1 := l1.2.1
  refine am_W.of rfl rfl ?_
  have e0 : HH L B1 B2 fi ai aj = HH L B1 B2 (am_u2 fi 90 126 b) ai aj := by rw [← hb, u2_id]
  have hb0 : 0 ≤ b ∧ b ≤ 500 := by omega
  have fl91 := hb
  have fl87 : True := trivial
  refine am_W.gp 7 rfl (by and_intros <;> first | trivial | exact okI rfl rfl rfl | (refine okrI rfl rfl rfl rfl ?_ ?_ <;> (first | omega | (simp only [HS, FRS, CCS, am_R, fl91, fl87] at *; omega))) | (refine okaI rfl rfl rfl rfl ?_ ?_ <;> (first | omega | (simp only [HS, FRS, CCS, am_R, fl91, fl87] at *; omega))) | (first | omega | (simp only [HS, FRS, CCS, am_R, fl91, fl87] at *; omega)) | (simp only [HS, FRS, CCS, fl91, fl87])) ?_
  simp only [HS, FRS, fl91, fl87]
  refine l_mcolumn d L B1 B2 fi ai aj m b _ l1 hb0 4 b 0 _ (by omega) (by omega) (by omega) (by omega) e0 ?_
  clear fl91
  rw [et]
  have hd := dge_in (n := fi 60 126) (T := ai 131) 4 b 0 (by omega) (by omega) (Int.le_refl 0)
  have hd9 := dge_lt t b
  rw [et] at hd
  unfold cIn
  generalize dge t 4 b 0 = g at *
  have fl91 : ∀ x, am_u2 fi 90 126 x 90 126 = x := fun x => u2s
  have fl87 : ∀ x, am_u2 fi 90 126 x 60 126 = fi 60 126 := fun x => u2n (by decide)
  have f91 : am_u2 fi 90 126 g.1 91 126 = 0 := by rw [u2n (by decide)]; exact h91
  have f90 : am_u2 fi 90 126 g.1 90 126 = g.1 := u2s
  have f60 : am_u2 fi 90 126 g.1 60 126 = fi 60 126 := u2n (by decide)
  have hFM : FM fi (am_u2 fi 90 126 g.1) := FM_u (by omega)
  have hLM : LM (am_u2 fi 90 126 g.1) ai := LM_90 hL ⟨by omega, by omega⟩
  have et2 : tx (am_u2 fi 90 126 g.1 60 126) (ai 131) = t := by rw [fl87]; exact et
  clear fl91 fl87
  generalize am_u2 fi 90 126 g.1 = f1 at *
  have fl91 := f90
  have fl87 := f91
  have hR := tx_R l1 g.1
  rw [et] at hR
  have hfin : ∀ (R : Int ⊕ (Int × Int)) (f2 : Nat → Nat → Int), FM fi f2 → (match R with
    | .inl e => FL f2 e
    | .inr x => f2 91 126 = 0 ∧ f2 90 126 + 1 = x.2 ∧ LM (am_u2 f2 90 126 (f2 90 126 + 1)) ai) → am_W (am_ev am_prog (d + 1)) T_Mo_column (fun w h' => w = some (.inl (256 + g.2)) ∧ ∃ fi', h' = HH L B1 B2 fi' ai aj ∧ FM fi fi' ∧ (match R with
    | .inl e => FL fi' e
    | .inr x => fi' 91 126 = 0 ∧ fi' 90 126 = x.2 ∧ LM fi' ai)) (118, [some (.inr (.inr 126)), some (.inl m), some (.inl b), some (.inl g.2)], [], HH L B1 B2 f2 ai aj) := by
    intro R f2 hF2 hm2
    refine am_W.rt rfl rfl (by and_intros <;> first | trivial | exact okI rfl rfl rfl | (refine okrI rfl rfl rfl rfl ?_ ?_ <;> (first | omega | (simp only [HS, FRS, CCS, am_R, fl91, fl87] at *; omega))) | (refine okaI rfl rfl rfl rfl ?_ ?_ <;> (first | omega | (simp only [HS, FRS, CCS, am_R, fl91, fl87] at *; omega))) | (first | omega | (simp only [HS, FRS, CCS, am_R, fl91, fl87] at *; omega)) | (simp only [HS, FRS, CCS, fl91, fl87])) ⟨rfl, am_u2 f2 90 126 (f2 90 126 + 1), rfl, hF2.tr (FM_u (by omega)), ?_⟩
    cases R with
    | inl e => exact hm2
    | inr x => exact ⟨hm2.1, by rw [u2s]; exact hm2.2.1, hm2.2.2⟩
  refine am_W.br rfl rfl (by and_intros <;> first | trivial | exact okI rfl rfl rfl | (refine okrI rfl rfl rfl rfl ?_ ?_ <;> (first | omega | (simp only [HS, FRS, CCS, am_R, fl91, fl87] at *; omega))) | (refine okaI rfl rfl rfl rfl ?_ ?_ <;> (first | omega | (simp only [HS, FRS, CCS, am_R, fl91, fl87] at *; omega))) | (first | omega | (simp only [HS, FRS, CCS, am_R, fl91, fl87] at *; omega)) | (simp only [HS, FRS, CCS, fl91, fl87])) (fun c1 => ?_) (fun c1 => ?_)
  · simp only [HS, FRS, fl91, fl87] at c1
    rw [if_neg c1]
    refine am_W.br rfl rfl (by and_intros <;> first | trivial | exact okI rfl rfl rfl | (refine okrI rfl rfl rfl rfl ?_ ?_ <;> (first | omega | (simp only [HS, FRS, CCS, am_R, fl91, fl87] at *; omega))) | (refine okaI rfl rfl rfl rfl ?_ ?_ <;> (first | omega | (simp only [HS, FRS, CCS, am_R, fl91, fl87] at *; omega))) | (first | omega | (simp only [HS, FRS, CCS, am_R, fl91, fl87] at *; omega)) | (simp only [HS, FRS, CCS, fl91, fl87])) (fun c2 => ?_) (fun c2 => ?_)
    · rw [if_neg (by omega)]
      have hc := c_Mo_charAt d L B1 B2 f1 ai aj g.1 hLM.1 (by omega) ⟨by omega, by omega⟩
      rw [et2] at hc
      refine am_W.cv 10 m_Mo_charAt rfl rfl rfl rfl (by and_intros <;> first | trivial | exact okI rfl rfl rfl | (refine okrI rfl rfl rfl rfl ?_ ?_ <;> (first | omega | (simp only [HS, FRS, CCS, am_R, fl91, fl87] at *; omega))) | (refine okaI rfl rfl rfl rfl ?_ ?_ <;> (first | omega | (simp only [HS, FRS, CCS, am_R, fl91, fl87] at *; omega))) | (first | omega | (simp only [HS, FRS, CCS, am_R, fl91, fl87] at *; omega)) | (simp only [HS, FRS, CCS, fl91, fl87])) (by rw [show am_gf (HH L B1 B2 f1 ai aj) 90 126 0 = .inl (f1 90 126) from rfl, f90]; exact hc) ?_
      rintro r1 h1 ⟨rfl, rfl⟩
      have hcR := ch_R l1 g.1
      rw [et] at hcR
      refine am_W.br rfl rfl (by and_intros <;> first | trivial | exact okI rfl rfl rfl | (refine okrI rfl rfl rfl rfl ?_ ?_ <;> (first | omega | (simp only [HS, FRS, CCS, am_R, fl91, fl87] at *; omega))) | (refine okaI rfl rfl rfl rfl ?_ ?_ <;> (first | omega | (simp only [HS, FRS, CCS, am_R, fl91, fl87] at *; omega))) | (first | omega | (simp only [HS, FRS, CCS, am_R, fl91, fl87] at *; omega)) | (simp only [HS, FRS, CCS, fl91, fl87])) (fun c3 => ?_) (fun c3 => ?_)
      · have h125 : t g.1 = 125 := by
          unfold ch at c3
          split at c3 <;> omega
        have hlt := (tx_lt (n := fi 60 126) (T := ai 131) (p := g.1) (by rw [et]; omega)).2
        rw [if_pos h125]
        exact hfin (.inr (g.2, g.1 + 1)) f1 hFM ⟨f91, by rw [f90], by rw [f90]; exact LM_90 hLM ⟨by omega, by omega⟩⟩
      · have h125 : ¬ t g.1 = 125 := by
          intro q
          rw [ch_n (by omega)] at c3
          exact c3 q
        rw [if_neg h125]
        refine am_W.cv 10 m_Mo_fail rfl rfl rfl rfl (by and_intros <;> first | trivial | exact okI rfl rfl rfl | (refine okrI rfl rfl rfl rfl ?_ ?_ <;> (first | omega | (simp only [HS, FRS, CCS, am_R, fl91, fl87] at *; omega))) | (refine okaI rfl rfl rfl rfl ?_ ?_ <;> (first | omega | (simp only [HS, FRS, CCS, am_R, fl91, fl87] at *; omega))) | (first | omega | (simp only [HS, FRS, CCS, am_R, fl91, fl87] at *; omega)) | (simp only [HS, FRS, CCS, fl91, fl87])) (by rw [show am_gf (HH L B1 B2 f1 ai aj) 90 126 0 = .inl (f1 90 126) from rfl, f90]; exact c_mfail d L B1 B2 f1 ai aj 0 g.1 f91 (Or.inl rfl) ⟨by omega, by omega⟩) ?_
        rintro r1 h1 ⟨rfl, f2, rfl, g1, g2, g3⟩
        rw [if_neg (by decide)] at g2
        exact hfin (.inl (-10 - g.1)) f2 (hFM.tr g1) g2
    · rw [if_pos (by omega)]
      refine am_W.cv 10 m_Mo_fail rfl rfl rfl rfl (by and_intros <;> first | trivial | exact okI rfl rfl rfl | (refine okrI rfl rfl rfl rfl ?_ ?_ <;> (first | omega | (simp only [HS, FRS, CCS, am_R, fl91, fl87] at *; omega))) | (refine okaI rfl rfl rfl rfl ?_ ?_ <;> (first | omega | (simp only [HS, FRS, CCS, am_R, fl91, fl87] at *; omega))) | (first | omega | (simp only [HS, FRS, CCS, am_R, fl91, fl87] at *; omega)) | (simp only [HS, FRS, CCS, fl91, fl87])) (c_mfail d L B1 B2 f1 ai aj 1 b f91 (Or.inr rfl) ⟨by omega, by omega⟩) ?_
      rintro r1 h1 ⟨rfl, f2, rfl, g1, g2, g3⟩
      rw [if_pos rfl] at g2
      exact am_W.gp 118 rfl (by and_intros <;> first | trivial | exact okI rfl rfl rfl | (refine okrI rfl rfl rfl rfl ?_ ?_ <;> (first | omega | (simp only [HS, FRS, CCS, am_R, fl91, fl87] at *; omega))) | (refine okaI rfl rfl rfl rfl ?_ ?_ <;> (first | omega | (simp only [HS, FRS, CCS, am_R, fl91, fl87] at *; omega))) | (first | omega | (simp only [HS, FRS, CCS, am_R, fl91, fl87] at *; omega)) | (simp only [HS, FRS, CCS, fl91, fl87])) (hfin (.inl (-1000 - b)) f2 (hFM.tr g1) g2)
  · simp only [HS, FRS, fl91, fl87] at c1
    have c1' : g.1 = b := by omega
    rw [if_pos c1']
    refine am_W.cv 10 m_Mo_fail rfl rfl rfl rfl (by and_intros <;> first | trivial | exact okI rfl rfl rfl | (refine okrI rfl rfl rfl rfl ?_ ?_ <;> (first | omega | (simp only [HS, FRS, CCS, am_R, fl91, fl87] at *; omega))) | (refine okaI rfl rfl rfl rfl ?_ ?_ <;> (first | omega | (simp only [HS, FRS, CCS, am_R, fl91, fl87] at *; omega))) | (first | omega | (simp only [HS, FRS, CCS, am_R, fl91, fl87] at *; omega)) | (simp only [HS, FRS, CCS, fl91, fl87])) (by rw [show am_gf (HH L B1 B2 f1 ai aj) 90 126 0 = .inl (f1 90 126) from rfl, f90, c1']; exact c_mfail d L B1 B2 f1 ai aj 0 b f91 (Or.inl rfl) ⟨by omega, by omega⟩) ?_
    rintro r1 h1 ⟨rfl, f2, rfl, g1, g2, g3⟩
    rw [if_neg (by decide)] at g2
    exact am_W.gp 118 rfl (by and_intros <;> first | trivial | exact okI rfl rfl rfl | (refine okrI rfl rfl rfl rfl ?_ ?_ <;> (first | omega | (simp only [HS, FRS, CCS, am_R, fl91, fl87] at *; omega))) | (refine okaI rfl rfl rfl rfl ?_ ?_ <;> (first | omega | (simp only [HS, FRS, CCS, am_R, fl91, fl87] at *; omega))) | (first | omega | (simp only [HS, FRS, CCS, am_R, fl91, fl87] at *; omega)) | (simp only [HS, FRS, CCS, fl91, fl87])) (hfin (.inl (-10 - b)) f2 (hFM.tr g1) g2)
