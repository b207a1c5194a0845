-- what holds between two calls
def iS (fi : Nat → Nat → Int) (ai : Nat → Int → Int) : Prop := DI (DD fi ai) ∧ DI (DM fi ai) ∧ fi 54 126 = fi 10 17 ∧ ai 127 = ai 18 ∧ ai 128 = ai 19 ∧ ai 130 = ai 20 ∧ EqC (DD fi ai) (DM fi ai)
def iT (fi : Nat → Nat → Int) (ai : Nat → Int → Int) : Prop := fi 60 126 = fi 14 23 ∧ ai 131 = ai 24 ∧ LI fi ai ∧ fi 15 23 = 0
def iM (B1 : Nat) (fi : Nat → Nat → Int) (ai : Nat → Int → Int) (ms : List MT) : Prop := ms.length ≤ 6 ∧ RepL fi ai B1 ms ∧ (∀ (i : Nat) (x : MT), ms[i]? = some x → RefB ai (i : Int) x) ∧ fi 61 126 = (ms.length : Int) ∧ (∀ x ∈ ms, wfM (DD fi ai) x) ∧ (prA ms).length ≤ 626
def iP (fi : Nat → Nat → Int) (ai : Nat → Int → Int) : Prop := fi 109 126 = fi 36 36 ∧ (0 ≤ fi 36 36 ∧ fi 36 36 ≤ 626) ∧ ∀ i, 0 ≤ i → i < fi 36 36 → ai 169 i = ai 37 i ∧ am_R (ai 37 i)
def iG (fi : Nat → Nat → Int) (ai : Nat → Int → Int) (ms : List MT) (P : List Int) : Prop := byR ai ∧ fi 94 126 = (P.length : Int) ∧ GS (cD (DM fi ai) ms) (TMf (DM fi ai) ms) (gF ms) ai P (aW (DM fi ai) ms 0)
def iA (B1 B2 : Nat) (fi : Nat → Nat → Int) (ai aj : Nat → Int → Int) (ms : List MT) (P : List Int) (A1 : Int → Int) : Prop := ((B1 = 38 ∧ B2 = 82) ∨ (B1 = 82 ∧ B2 = 38)) ∧ iS fi ai ∧ iT fi ai ∧ iM B1 fi ai ms ∧ iP fi ai ∧ iG fi ai ms P ∧ cSt (DD fi ai) ms fi ai aj ∧ ai 1 = A1
def INV (L : Nat) (A1 : Int → Int) (h : am_H) : Prop := ∃ B1 B2 fi ai aj ms P, h = HH L B1 B2 fi ai aj ∧ iA B1 B2 fi ai aj ms P A1
theorem DD_f2 {f f' : Nat → Nat → Int} {a a' : Nat → Int → Int} (hf : f' 10 17 = f 10 17) (ha : ∀ b, 18 ≤ b → b ≤ 21 → a' b = a b) : DD f' a' = DD f a := by
  unfold DD
  rw [hf, ha 18 (by omega) (by omega), ha 19 (by omega) (by omega), ha 20 (by omega) (by omega), ha 21 (by omega) (by omega)]
theorem DM_f2 {f f' : Nat → Nat → Int} {a a' : Nat → Int → Int} (hf : f' 54 126 = f 54 126) (ha : ∀ b, 127 ≤ b → b ≤ 130 → a' b = a b) : DM f' a' = DM f a := by
  unfold DM
  rw [hf, ha 127 (by omega) (by omega), ha 128 (by omega) (by omega), ha 129 (by omega) (by omega), ha 130 (by omega) (by omega)]
theorem iS.fr {f f' : Nat → Nat → Int} {a a' : Nat → Int → Int} (h : iS f a) (f1 : f' 10 17 = f 10 17) (f2 : f' 54 126 = f 54 126) (h1 : ∀ b, 18 ≤ b → b ≤ 21 → a' b = a b) (h2 : ∀ b, 127 ≤ b → b ≤ 130 → a' b = a b) : iS f' a' := by
  unfold iS
  rw [DD_f2 f1 h1, DM_f2 f2 h2, f1, f2, h1 18 (by omega) (by omega), h1 19 (by omega) (by omega), h1 20 (by omega) (by omega), h2 127 (by omega) (by omega), h2 128 (by omega) (by omega), h2 130 (by omega) (by omega)]
  exact h
theorem iS.q {f : Nat → Nat → Int} {a : Nat → Int → Int} (h : iS f a) : EqD (DD f a) (DM f a) := by
  obtain ⟨-, -, h3, h4, h5, h6, h7⟩ := h
  have hr : ∀ x, ro (DD f a) x = ro (DM f a) x := by
    intro x
    show (if x < 0 ∨ f 10 17 ≤ x then 0 else a 19 x) = (if x < 0 ∨ f 54 126 ≤ x then 0 else a 128 x)
    rw [h3, h5]
  refine ⟨h7, hr, fun x y => ?_⟩
  show (if 0 ≤ y ∧ y < ro (DD f a) x then a 20 (x * 16 + y) else 0) = (if 0 ≤ y ∧ y < ro (DM f a) x then a 130 (x * 16 + y) else 0)
  rw [hr, h6]
theorem iS.co {f : Nat → Nat → Int} {a : Nat → Int → Int} (h : iS f a) (x : Int) : co (DD f a) x = co (DM f a) x := by
  show (if x < 0 ∨ f 10 17 ≤ x then 0 else a 18 x) = (if x < 0 ∨ f 54 126 ≤ x then 0 else a 127 x)
  rw [h.2.2.1, h.2.2.2.1]
theorem wfM_m {D E : DT} {x : MT} (h1 : D.1 ≤ E.1) (hc : ∀ s, 0 ≤ s → s < D.1 → co E s = co D s) (h : wfM D x) : wfM E x := by
  obtain ⟨w1, w2, w3, w4, w5, w6⟩ := h
  have e := hc x.1 w1.1 w1.2
  refine ⟨⟨w1.1, by omega⟩, by rw [e]; exact w2, by rw [e]; exact w3, ?_, by rw [e]; exact w5, w6⟩
  rw [e]
  rcases w4 with w | ⟨a, b, c, w⟩
  · exact Or.inl w
  · refine Or.inr ⟨a, b, c, ?_⟩
    rcases w with w | ⟨q1, q2, q3⟩
    · exact Or.inl w
    · refine Or.inr ⟨q1, by omega, ?_⟩
      rw [hc _ q1 q2]
      exact q3
theorem iT.fr {f f' : Nat → Nat → Int} {a a' : Nat → Int → Int} (h : iT f a) (f1 : ∀ j, 14 ≤ j → j ≤ 18 → f' j 23 = f j 23) (f2 : f' 60 126 = f 60 126) (h1 : a' 24 = a 24) (h2 : a' 131 = a 131) : iT f' a' := by
  unfold iT LI
  rw [f2, h1, h2, f1 14 (by omega) (by omega), f1 15 (by omega) (by omega), f1 16 (by omega) (by omega), f1 17 (by omega) (by omega), f1 18 (by omega) (by omega)]
  exact h
theorem iM.fr {B1 : Nat} {f f' : Nat → Nat → Int} {a a' : Nat → Int → Int} {ms : List MT} (hB : B1 = 38 ∨ B1 = 82) (h : iM B1 f a ms) (h1 : ∀ j b, B1 ≤ b → b < B1 + 44 → f' j b = f j b) (h2 : ∀ b, B1 ≤ b → b < B1 + 44 → a' b = a b) (h3 : f' 61 126 = f 61 126) (h4 : ∀ b, 132 ≤ b → b ≤ 143 → a' b = a b) (hw : ∀ x ∈ ms, wfM (DD f' a') x) : iM B1 f' a' ms := by
  obtain ⟨q1, q2, q3, q4, q5, q6⟩ := h
  refine ⟨q1, RepL_fr hB q1 q2 h1 h2, fun i x hx => ?_, h3.trans q4, hw, q6⟩
  unfold RefB
  rw [h4 132 (by omega) (by omega), h4 133 (by omega) (by omega), h4 134 (by omega) (by omega), h4 135 (by omega) (by omega), h4 136 (by omega) (by omega), h4 137 (by omega) (by omega), h4 138 (by omega) (by omega), h4 139 (by omega) (by omega), h4 140 (by omega) (by omega), h4 141 (by omega) (by omega), h4 142 (by omega) (by omega), h4 143 (by omega) (by omega)]
  exact q3 i x hx
theorem iP.fr {f f' : Nat → Nat → Int} {a a' : Nat → Int → Int} (h : iP f a) (f1 : f' 36 36 = f 36 36) (f2 : f' 109 126 = f 109 126) (h1 : a' 37 = a 37) (h2 : a' 169 = a 169) : iP f' a' := by
  unfold iP
  rw [f1, f2, h1, h2]
  exact h
theorem GS_a {c : Int → Int → Int} {TM : Int → Int → Int × List Int} {gr : Int → Int} {a a' : Nat → Int → Int} {P l : List Int} (h : GS c TM gr a P l) (ha : ∀ b, 156 ≤ b → b ≤ 163 → a' b = a b) : GS c TM gr a' P l := by
  unfold GS slR slT
  rw [ha 156 (by omega) (by omega), ha 157 (by omega) (by omega), ha 158 (by omega) (by omega), ha 159 (by omega) (by omega), ha 160 (by omega) (by omega), ha 161 (by omega) (by omega), ha 162 (by omega) (by omega), ha 163 (by omega) (by omega)]
  exact h
theorem iG.fr {f f' : Nat → Nat → Int} {a a' : Nat → Int → Int} {ms : List MT} {P : List Int} (h : iG f a ms P) (f1 : f' 94 126 = f 94 126) (h1 : ∀ b, 156 ≤ b → b ≤ 163 → a' b = a b) (hE : EqD (DM f a) (DM f' a')) : iG f' a' ms P := by
  obtain ⟨q1, q2, q3⟩ := h
  refine ⟨fun k => ?_, f1.trans q2, GS_a (GS_q hE q3) h1⟩
  rw [h1 156 (by omega) (by omega)]
  exact q1 k
theorem GVw_fr {D E : DT} (hE : EqD D E) {ms : List MT} {f f' : Nat → Nat → Int} {a a' j j' : Nat → Int → Int} (h : GVw D ms f a j) (f1 : f' 30 25 = f 30 25) (f2 : f' 27 25 = f 27 25) (h1 : ∀ b, 29 ≤ b → b ≤ 35 → a' b = a b) (h2 : j' 27 = j 27) (h3 : j' 28 = j 28) : GVw E ms f' a' j' := by
  have eW : WO j' = WO j := by
    funext w t k
    unfold WO
    rw [h2, h3]
  unfold GVw wok
  rw [← aB_q hE, ← aW_q hE, ← TMf_q hE.1, ← cD_q hE.1, f1, f2, h1 29 (by omega) (by omega), h1 30 (by omega) (by omega), h1 32 (by omega) (by omega), h1 33 (by omega) (by omega), h1 34 (by omega) (by omega), h1 35 (by omega) (by omega), eW, h3]
  exact h
theorem cSt_fr {D E : DT} (hE : EqD D E) {ms : List MT} {f f' : Nat → Nat → Int} {a a' j j' : Nat → Int → Int} (h : cSt D ms f a j) (f0 : f' 31 25 = f 31 25) (f1 : f' 30 25 = f 30 25) (f2 : f' 27 25 = f 27 25) (h1 : ∀ b, 29 ≤ b → b ≤ 35 → a' b = a b) (h2 : j' 27 = j 27) (h3 : j' 28 = j 28) : cSt E ms f' a' j' := by
  rcases h with ⟨q1, q2⟩ | q
  · exact Or.inl ⟨f0.trans q1, GVw_fr hE q2 f1 f2 h1 h2 h3⟩
  · exact Or.inr (f0.trans q)
theorem iA_K {B1 B2 : Nat} {f f' : Nat → Nat → Int} {a a' j j' : Nat → Int → Int} {ms : List MT} {P : List Int} {A1 : Int → Int} (h : iA B1 B2 f a j ms P A1) (hF : FK f f' a a' j j') (hS : cSt (DD f a) ms f' a' j') : iA B1 B2 f' a' j' ms P A1 := by
  obtain ⟨hB, h1, h2, h3, h4, h5, h6, h7⟩ := h
  have eD : DD f' a' = DD f a := hF.D
  have eM : DM f' a' = DM f a := DM_f2 (hF.1 54 126 (by omega) (by omega)) (fun b b0 b1 => hF.2.1 b (by omega))
  refine ⟨hB, h1.fr (hF.1 10 17 (by omega) (by omega)) (hF.1 54 126 (by omega) (by omega)) (fun b b0 b1 => hF.2.1 b (by omega)) (fun b b0 b1 => hF.2.1 b (by omega)), h2.fr (fun j j0 j1 => hF.1 j 23 (by omega) (by omega)) (hF.1 60 126 (by omega) (by omega)) (hF.2.1 24 (by omega)) (hF.2.1 131 (by omega)), iM.fr (by omega) h3 (fun j b b0 b1 => hF.1 j b (by omega) (by omega)) (fun b b0 b1 => hF.2.1 b (by omega)) (hF.1 61 126 (by omega) (by omega)) (fun b b0 b1 => hF.2.1 b (by omega)) (by rw [eD]; exact h3.2.2.2.2.1), h4.fr (hF.1 36 36 (by omega) (by omega)) (hF.1 109 126 (by omega) (by omega)) (hF.2.1 37 (by omega)) (hF.2.1 169 (by omega)), h5.fr (hF.1 94 126 (by omega) (by omega)) (fun b b0 b1 => hF.2.1 b (by omega)) (by rw [eM]; exact EqD.rf), by rw [eD]; exact hS, (hF.2.1 1 (by omega)).trans h7⟩
theorem iA.P {B1 B2 : Nat} {f : Nat → Nat → Int} {a j : Nat → Int → Int} {ms : List MT} {P : List Int} {A1 : Int → Int} (h : iA B1 B2 f a j ms P A1) : Lst (cD (DD f a) ms) (aW (DD f a) ms 0) P := by
  have hE := h.2.1.q
  have hG := h.2.2.2.2.2.1.2.2.1
  rw [cD_q hE.1, aW_q hE]
  exact hG
theorem iA.w {B1 B2 : Nat} {f : Nat → Nat → Int} {a j : Nat → Int → Int} {ms : List MT} {P : List Int} {A1 : Int → Int} (h : iA B1 B2 f a j ms P A1) : ∀ x ∈ ms, wfM (DM f a) x := fun x hx => wfM_m (by show f 10 17 ≤ f 54 126; rw [h.2.1.2.2.1]; exact Int.le_refl _) (fun s _ _ => (h.2.1.co s).symm) (h.2.2.2.1.2.2.2.2.1 x hx)
theorem iA.l {B1 B2 : Nat} {f : Nat → Nat → Int} {a j : Nat → Int → Int} {ms : List MT} {P : List Int} {A1 : Int → Int} (h : iA B1 B2 f a j ms P A1) : P.length ≤ 1536 := by
  have h1 := Lst_len (cD_ord _ _) h.P
  have h2 := (aW_in h.2.1.1 ms 0).1
  have h3 := h.2.2.2.1.1
  omega
def PR (L : Nat) (A1 : Int → Int) (mc mr : Nat) (as : List am_V) (h : am_H) : Prop := am_M am_prog 11 mc (.inr (.inr 16) :: as) h (fun v h1 => ∃ y B1 B2 f a j, v = some (.inl y) ∧ am_R y ∧ h1 = HH L B1 B2 f a j ∧ a 1 = A1 ∧ am_M am_prog 11 mr (.inr (.inr 126) :: as) h1 (fun v2 h2 => v2 = some (.inl y) ∧ INV L A1 h2))
