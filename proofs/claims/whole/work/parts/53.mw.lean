-- the reference's reader: steps on its tokens
def LM (fi : Nat → Nat → Int) (ai : Nat → Int → Int) : Prop := txI (fi 60 126) (ai 131) ∧ (0 ≤ fi 90 126 ∧ fi 90 126 ≤ fi 60 126) ∧ (-1 ≤ fi 88 126 ∧ fi 88 126 ≤ 9999) ∧ (0 ≤ fi 87 126 ∧ fi 87 126 ≤ 5) ∧ (0 ≤ fi 89 126 ∧ fi 89 126 ≤ 500)
def TM (fi : Nat → Nat → Int) (σ : Tk) : Prop := fi 89 126 = σ.1 ∧ fi 90 126 = σ.2.2.2 ∧ TR σ.2.1 σ.2.2.1 (fi 87 126) (fi 88 126) ∧ (0 ≤ σ.2.2.1 ∧ σ.2.2.1 ≤ 9999)
def FL (fi : Nat → Nat → Int) (e : Int) : Prop := fi 91 126 = 1 ∧ (fi 92 126 = 0 ∨ fi 92 126 = 1) ∧ (if fi 92 126 = 1 then -1000 else -10) - fi 93 126 = e ∧ (0 ≤ fi 93 126 ∧ fi 93 126 ≤ 501)
def FM (fi fi' : Nat → Nat → Int) : Prop := ∀ j b, (b ≠ 126 ∨ j < 87 ∨ 93 < j) → fi' j b = fi j b
theorem FM.rf {fi : Nat → Nat → Int} : FM fi fi := fun _ _ _ => rfl
theorem FM.tr {f1 f2 f3 : Nat → Nat → Int} (h1 : FM f1 f2) (h2 : FM f2 f3) : FM f1 f3 := fun j b q => (h2 j b q).trans (h1 j b q)
theorem FM_u {fi : Nat → Nat → Int} {j : Nat} {x : Int} (h : 87 ≤ j ∧ j ≤ 93) : FM fi (am_u2 fi j 126 x) := fun i b q => by
  rw [am_u2_e]
  split
  · next h2 =>
    subst h2
    rw [if_neg (by omega)]
  · rfl
theorem FM_mk {fi : Nat → Nat → Int} {τ : Tk} : FM fi (mk fi τ) := fun j b q => by
  unfold mk
  split
  · next h =>
    rw [if_neg (by omega), if_neg (by omega), if_neg (by omega), if_neg (by omega)]
  · rfl
def qNum (m : Int) (σ : Tk) : Int ⊕ Tk := if σ.2.1 = 1 then (if σ.2.2.1 < m then .inr σ else .inl (-1000 - σ.1)) else .inl (-10 - σ.1)
def qIs (q : Int) (σ : Tk) : Int ⊕ Tk := if σ.2.1 = q then .inr σ else .inl (-10 - σ.1)
theorem pNum_q (t : Int → Int) (m b : Int) : pNum t m b = qNum m (lx t b 0) := rfl
theorem pIs_q (t : Int → Int) (q b : Int) : pIs t q b = qIs q (lx t b 0) := rfl
/-- a step of the reference's: a fault, or what it did -/
def MoQ {α : Type} (L B1 B2 : Nat) (aj : Nat → Int → Int) (fi : Nat → Nat → Int) (A : (Nat → Int → Int) → Prop) (res : Int ⊕ α) (K : (Nat → Nat → Int) → (Nat → Int → Int) → α → Prop) : am_H → Prop := fun h' => ∃ fi' ai', h' = HH L B1 B2 fi' ai' aj ∧ FM fi fi' ∧ A ai' ∧ (match res with
  | .inl e => FL fi' e
  | .inr a => fi' 91 126 = 0 ∧ LM fi' ai' ∧ K fi' ai' a)
set_option maxHeartbeats 400000 in
set_option maxRecDepth 100000 in
theorem c_mfail (d L B1 B2 : Nat) (fi : Nat → Nat → Int) (ai aj : Nat → Int → Int) (m p : Int) (h91 : fi 91 126 = 0) (hm : m = 0 ∨ m = 1) (hp : 0 ≤ p ∧ p ≤ 501) : am_M am_prog (d + 1) m_Mo_fail [.inr (.inr 126), .inl m, .inl p] (HH L B1 B2 fi ai aj) (fun w h' => w = none ∧ ∃ fi', h' = HH L B1 B2 fi' ai aj ∧ FM fi fi' ∧ FL fi' ((if m = 1 then -1000 else -10) - p) ∧ fi' 90 126 = fi 90 126) := by
  have fl91 := h91
  have fl87 : True := trivial
  refine am_W.of rfl rfl ?_
  refine am_W.br rfl rfl (by and_intros <;> first | trivial | exact okI rfl rfl rfl | (refine okrI rfl rfl rfl rfl ?_ ?_ <;> (first | omega | (simp only [HS, FRS, CCS, am_R, fl91, fl87] at *; omega))) | (refine okaI rfl rfl rfl rfl ?_ ?_ <;> (first | omega | (simp only [HS, FRS, CCS, am_R, fl91, fl87] at *; omega))) | (first | omega | (simp only [HS, FRS, CCS, am_R, fl91, fl87] at *; omega)) | (simp only [HS, FRS, CCS, fl91, fl87])) (fun c1 => ?_) (fun c1 => absurd (by simp only [HS, FRS, fl91, fl87]) c1)
  refine am_W.rt rfl rfl (by and_intros <;> first | trivial | exact okI rfl rfl rfl | (refine okrI rfl rfl rfl rfl ?_ ?_ <;> (first | omega | (simp only [HS, FRS, CCS, am_R, fl91, fl87] at *; omega))) | (refine okaI rfl rfl rfl rfl ?_ ?_ <;> (first | omega | (simp only [HS, FRS, CCS, am_R, fl91, fl87] at *; omega))) | (first | omega | (simp only [HS, FRS, CCS, am_R, fl91, fl87] at *; omega)) | (simp only [HS, FRS, CCS, fl91, fl87])) ⟨rfl, am_u2 (am_u2 (am_u2 fi 91 126 1) 92 126 m) 93 126 p, rfl, ((FM_u (by omega)).tr (FM_u (by omega))).tr (FM_u (by omega)), ⟨?_, ?_, ?_, ?_⟩, ?_⟩
  · rw [u2n (by decide), u2n (by decide), u2s]
  · rw [u2n (by decide), u2s]
    exact hm
  · rw [u2n (by decide), u2s, u2s]
  · rw [u2s]
    exact hp
  · rw [u2n (by decide), u2n (by decide), u2n (by decide)]
set_option maxHeartbeats 400000 in
set_option maxRecDepth 100000 in
theorem c_misWord (d L B1 B2 : Nat) (fi : Nat → Nat → Int) (ai aj : Nat → Int → Int) (v : Int) (hv : am_R v) (h91 : fi 91 126 = 0 ∨ fi 91 126 = 1) (h87 : am_R (fi 87 126)) (h88 : am_R (fi 88 126)) : am_M am_prog (d + 1) m_Mo_isWord [.inr (.inr 126), .inl v] (HH L B1 B2 fi ai aj) (fun w h' => w = some (.inl (if fi 91 126 = 0 ∧ fi 87 126 = 1 ∧ fi 88 126 = v then 1 else 0)) ∧ h' = HH L B1 B2 fi ai aj) := by
  have fl91 : True := trivial
  have fl87 : True := trivial
  refine am_W.of rfl rfl ?_
  refine am_W.br rfl rfl (by and_intros <;> first | trivial | exact okI rfl rfl rfl | (refine okrI rfl rfl rfl rfl ?_ ?_ <;> (first | omega | (simp only [HS, FRS, CCS, am_R, fl91, fl87] at *; omega))) | (refine okaI rfl rfl rfl rfl ?_ ?_ <;> (first | omega | (simp only [HS, FRS, CCS, am_R, fl91, fl87] at *; omega))) | (first | omega | (simp only [HS, FRS, CCS, am_R, fl91, fl87] at *; omega)) | (simp only [HS, FRS, CCS, fl91, fl87])) (fun c1 => ?_) (fun c1 => ?_)
  · simp only [HS, FRS, fl91, fl87] at c1
    rw [if_neg (by omega)]
    exact am_W.rt rfl rfl (by and_intros <;> first | trivial | exact okI rfl rfl rfl | (refine okrI rfl rfl rfl rfl ?_ ?_ <;> (first | omega | (simp only [HS, FRS, CCS, am_R, fl91, fl87] at *; omega))) | (refine okaI rfl rfl rfl rfl ?_ ?_ <;> (first | omega | (simp only [HS, FRS, CCS, am_R, fl91, fl87] at *; omega))) | (first | omega | (simp only [HS, FRS, CCS, am_R, fl91, fl87] at *; omega)) | (simp only [HS, FRS, CCS, fl91, fl87])) ⟨rfl, rfl⟩
  · simp only [HS, FRS, fl91, fl87] at c1
    refine am_W.br rfl rfl (by and_intros <;> first | trivial | exact okI rfl rfl rfl | (refine okrI rfl rfl rfl rfl ?_ ?_ <;> (first | omega | (simp only [HS, FRS, CCS, am_R, fl91, fl87] at *; omega))) | (refine okaI rfl rfl rfl rfl ?_ ?_ <;> (first | omega | (simp only [HS, FRS, CCS, am_R, fl91, fl87] at *; omega))) | (first | omega | (simp only [HS, FRS, CCS, am_R, fl91, fl87] at *; omega)) | (simp only [HS, FRS, CCS, fl91, fl87])) (fun c2 => ?_) (fun c2 => ?_)
    · simp only [HS, FRS, fl91, fl87] at c2
      rw [if_neg (by omega)]
      exact am_W.rt rfl rfl (by and_intros <;> first | trivial | exact okI rfl rfl rfl | (refine okrI rfl rfl rfl rfl ?_ ?_ <;> (first | omega | (simp only [HS, FRS, CCS, am_R, fl91, fl87] at *; omega))) | (refine okaI rfl rfl rfl rfl ?_ ?_ <;> (first | omega | (simp only [HS, FRS, CCS, am_R, fl91, fl87] at *; omega))) | (first | omega | (simp only [HS, FRS, CCS, am_R, fl91, fl87] at *; omega)) | (simp only [HS, FRS, CCS, fl91, fl87])) ⟨rfl, rfl⟩
    · simp only [HS, FRS, fl91, fl87] at c2
      refine am_W.br rfl rfl (by and_intros <;> first | trivial | exact okI rfl rfl rfl | (refine okrI rfl rfl rfl rfl ?_ ?_ <;> (first | omega | (simp only [HS, FRS, CCS, am_R, fl91, fl87] at *; omega))) | (refine okaI rfl rfl rfl rfl ?_ ?_ <;> (first | omega | (simp only [HS, FRS, CCS, am_R, fl91, fl87] at *; omega))) | (first | omega | (simp only [HS, FRS, CCS, am_R, fl91, fl87] at *; omega)) | (simp only [HS, FRS, CCS, fl91, fl87])) (fun c3 => ?_) (fun c3 => ?_)
      · simp only [HS, FRS, fl91, fl87] at c3
        rw [if_neg (by omega)]
        exact am_W.rt rfl rfl (by and_intros <;> first | trivial | exact okI rfl rfl rfl | (refine okrI rfl rfl rfl rfl ?_ ?_ <;> (first | omega | (simp only [HS, FRS, CCS, am_R, fl91, fl87] at *; omega))) | (refine okaI rfl rfl rfl rfl ?_ ?_ <;> (first | omega | (simp only [HS, FRS, CCS, am_R, fl91, fl87] at *; omega))) | (first | omega | (simp only [HS, FRS, CCS, am_R, fl91, fl87] at *; omega)) | (simp only [HS, FRS, CCS, fl91, fl87])) ⟨rfl, rfl⟩
      · simp only [HS, FRS, fl91, fl87] at c3
        rw [if_pos (by omega)]
        exact am_W.rt rfl rfl (by and_intros <;> first | trivial | exact okI rfl rfl rfl | (refine okrI rfl rfl rfl rfl ?_ ?_ <;> (first | omega | (simp only [HS, FRS, CCS, am_R, fl91, fl87] at *; omega))) | (refine okaI rfl rfl rfl rfl ?_ ?_ <;> (first | omega | (simp only [HS, FRS, CCS, am_R, fl91, fl87] at *; omega))) | (first | omega | (simp only [HS, FRS, CCS, am_R, fl91, fl87] at *; omega)) | (simp only [HS, FRS, CCS, fl91, fl87])) ⟨rfl, rfl⟩
set_option maxHeartbeats 400000 in
set_option maxRecDepth 100000 in
theorem c_misSign (d L B1 B2 : Nat) (fi : Nat → Nat → Int) (ai aj : Nat → Int → Int) (v : Int) (hv : am_R v) (h91 : fi 91 126 = 0 ∨ fi 91 126 = 1) (h87 : am_R (fi 87 126)) (h88 : am_R (fi 88 126)) : am_M am_prog (d + 1) m_Mo_isSign [.inr (.inr 126), .inl v] (HH L B1 B2 fi ai aj) (fun w h' => w = some (.inl (if fi 91 126 = 0 ∧ fi 87 126 = 3 ∧ fi 88 126 = v then 1 else 0)) ∧ h' = HH L B1 B2 fi ai aj) := by
  have fl91 : True := trivial
  have fl87 : True := trivial
  refine am_W.of rfl rfl ?_
  refine am_W.br rfl rfl (by and_intros <;> first | trivial | exact okI rfl rfl rfl | (refine okrI rfl rfl rfl rfl ?_ ?_ <;> (first | omega | (simp only [HS, FRS, CCS, am_R, fl91, fl87] at *; omega))) | (refine okaI rfl rfl rfl rfl ?_ ?_ <;> (first | omega | (simp only [HS, FRS, CCS, am_R, fl91, fl87] at *; omega))) | (first | omega | (simp only [HS, FRS, CCS, am_R, fl91, fl87] at *; omega)) | (simp only [HS, FRS, CCS, fl91, fl87])) (fun c1 => ?_) (fun c1 => ?_)
  · simp only [HS, FRS, fl91, fl87] at c1
    rw [if_neg (by omega)]
    exact am_W.rt rfl rfl (by and_intros <;> first | trivial | exact okI rfl rfl rfl | (refine okrI rfl rfl rfl rfl ?_ ?_ <;> (first | omega | (simp only [HS, FRS, CCS, am_R, fl91, fl87] at *; omega))) | (refine okaI rfl rfl rfl rfl ?_ ?_ <;> (first | omega | (simp only [HS, FRS, CCS, am_R, fl91, fl87] at *; omega))) | (first | omega | (simp only [HS, FRS, CCS, am_R, fl91, fl87] at *; omega)) | (simp only [HS, FRS, CCS, fl91, fl87])) ⟨rfl, rfl⟩
  · simp only [HS, FRS, fl91, fl87] at c1
    refine am_W.br rfl rfl (by and_intros <;> first | trivial | exact okI rfl rfl rfl | (refine okrI rfl rfl rfl rfl ?_ ?_ <;> (first | omega | (simp only [HS, FRS, CCS, am_R, fl91, fl87] at *; omega))) | (refine okaI rfl rfl rfl rfl ?_ ?_ <;> (first | omega | (simp only [HS, FRS, CCS, am_R, fl91, fl87] at *; omega))) | (first | omega | (simp only [HS, FRS, CCS, am_R, fl91, fl87] at *; omega)) | (simp only [HS, FRS, CCS, fl91, fl87])) (fun c2 => ?_) (fun c2 => ?_)
    · simp only [HS, FRS, fl91, fl87] at c2
      rw [if_neg (by omega)]
      exact am_W.rt rfl rfl (by and_intros <;> first | trivial | exact okI rfl rfl rfl | (refine okrI rfl rfl rfl rfl ?_ ?_ <;> (first | omega | (simp only [HS, FRS, CCS, am_R, fl91, fl87] at *; omega))) | (refine okaI rfl rfl rfl rfl ?_ ?_ <;> (first | omega | (simp only [HS, FRS, CCS, am_R, fl91, fl87] at *; omega))) | (first | omega | (simp only [HS, FRS, CCS, am_R, fl91, fl87] at *; omega)) | (simp only [HS, FRS, CCS, fl91, fl87])) ⟨rfl, rfl⟩
    · simp only [HS, FRS, fl91, fl87] at c2
      refine am_W.br rfl rfl (by and_intros <;> first | trivial | exact okI rfl rfl rfl | (refine okrI rfl rfl rfl rfl ?_ ?_ <;> (first | omega | (simp only [HS, FRS, CCS, am_R, fl91, fl87] at *; omega))) | (refine okaI rfl rfl rfl rfl ?_ ?_ <;> (first | omega | (simp only [HS, FRS, CCS, am_R, fl91, fl87] at *; omega))) | (first | omega | (simp only [HS, FRS, CCS, am_R, fl91, fl87] at *; omega)) | (simp only [HS, FRS, CCS, fl91, fl87])) (fun c3 => ?_) (fun c3 => ?_)
      · simp only [HS, FRS, fl91, fl87] at c3
        rw [if_neg (by omega)]
        exact am_W.rt rfl rfl (by and_intros <;> first | trivial | exact okI rfl rfl rfl | (refine okrI rfl rfl rfl rfl ?_ ?_ <;> (first | omega | (simp only [HS, FRS, CCS, am_R, fl91, fl87] at *; omega))) | (refine okaI rfl rfl rfl rfl ?_ ?_ <;> (first | omega | (simp only [HS, FRS, CCS, am_R, fl91, fl87] at *; omega))) | (first | omega | (simp only [HS, FRS, CCS, am_R, fl91, fl87] at *; omega)) | (simp only [HS, FRS, CCS, fl91, fl87])) ⟨rfl, rfl⟩
      · simp only [HS, FRS, fl91, fl87] at c3
        rw [if_pos (by omega)]
        exact am_W.rt rfl rfl (by and_intros <;> first | trivial | exact okI rfl rfl rfl | (refine okrI rfl rfl rfl rfl ?_ ?_ <;> (first | omega | (simp only [HS, FRS, CCS, am_R, fl91, fl87] at *; omega))) | (refine okaI rfl rfl rfl rfl ?_ ?_ <;> (first | omega | (simp only [HS, FRS, CCS, am_R, fl91, fl87] at *; omega))) | (first | omega | (simp only [HS, FRS, CCS, am_R, fl91, fl87] at *; omega)) | (simp only [HS, FRS, CCS, fl91, fl87])) ⟨rfl, rfl⟩
theorem c_mnx (d L B1 B2 : Nat) (fi : Nat → Nat → Int) (ai aj : Nat → Int → Int) (t : Int → Int) (b : Int) (hL : LM fi ai) (et : tx (fi 60 126) (ai 131) = t) (eb : fi 90 126 = b) : am_M am_prog (d + 2) m_Mo_next [.inr (.inr 126)] (HH L B1 B2 fi ai aj) (fun w h' => w = none ∧ ∃ fi', h' = HH L B1 B2 fi' ai aj ∧ FM fi fi' ∧ fi' 91 126 = fi 91 126 ∧ LM fi' ai ∧ TM fi' (lx t b 0)) := by
  subst et eb
  obtain ⟨l1, l2, l3, l4, l5⟩ := hL
  have n1 := l1.2.1
  have hc := c_Mo_next d L B1 B2 fi ai aj (fi 87 126) (fi 88 126) (fi 89 126) (fi 90 126) 0 l1 l2.1 l2.2
  rw [mk_id] at hc
  refine hc.mono ?_
  rintro w h' ⟨rfl, tok, val, rfl, hT⟩
  have hi := lx_in l1 (fi 90 126) 0 l2.1 l2.2 ⟨by omega, by omega⟩
  have hT2 := hT
  unfold TR at hT2
  refine ⟨rfl, _, rfl, FM_mk, rfl, ⟨l1, ⟨?_, hi.2.2.2.2.2.2⟩, hT2.2.2.2.2.2.2.2.2.2.2.2.2.2.2.2.2.2.1, hT2.2.2.2.2.2.2.2.2.2.2.2.2.2.2.2.2.2.2, ⟨?_, ?_⟩⟩, ⟨rfl, rfl, hT, hi.2.2.2.1⟩⟩
  · show 0 ≤ (lx (tx (fi 60 126) (ai 131)) (fi 90 126) 0).2.2.2
    omega
  · show 0 ≤ (lx (tx (fi 60 126) (ai 131)) (fi 90 126) 0).1
    omega
  · show (lx (tx (fi 60 126) (ai 131)) (fi 90 126) 0).1 ≤ 500
    omega
theorem MoQ_f {α : Type} {L B1 B2 : Nat} {aj : Nat → Int → Int} {fi f1 : Nat → Nat → Int} {a1 : Nat → Int → Int} {A : (Nat → Int → Int) → Prop} {e : Int} {K : (Nat → Nat → Int) → (Nat → Int → Int) → α → Prop} {res : Int ⊕ α} (hr : res = .inl e) (hF : FM fi f1) (hA : A a1) (he : FL f1 e) : MoQ L B1 B2 aj fi A res K (HH L B1 B2 f1 a1 aj) := ⟨_, _, rfl, hF, hA, by subst hr; exact he⟩
theorem MoQ_y {α : Type} {L B1 B2 : Nat} {aj : Nat → Int → Int} {fi f1 : Nat → Nat → Int} {a1 : Nat → Int → Int} {A : (Nat → Int → Int) → Prop} {a : α} {K : (Nat → Nat → Int) → (Nat → Int → Int) → α → Prop} {res : Int ⊕ α} (hr : res = .inr a) (hF : FM fi f1) (hA : A a1) (h9 : f1 91 126 = 0) (hL : LM f1 a1) (hK : K f1 a1 a) : MoQ L B1 B2 aj fi A res K (HH L B1 B2 f1 a1 aj) := ⟨_, _, rfl, hF, hA, by subst hr; exact ⟨h9, hL, hK⟩⟩
set_option maxHeartbeats 400000 in
set_option maxRecDepth 100000 in
theorem c_mwantWord (d L B1 B2 : Nat) (fi : Nat → Nat → Int) (ai aj : Nat → Int → Int) (v q : Int) (σ : Tk) (t : Int → Int) (hv : am_R v) (h91 : fi 91 126 = 0) (hL : LM fi ai) (hT : TM fi σ) (et : tx (fi 60 126) (ai 131) = t) (hq : (fi 87 126 = 1 ∧ fi 88 126 = v) ↔ σ.2.1 = q) : am_M am_prog (d + 3) m_Mo_wantWord [.inr (.inr 126), .inl v] (HH L B1 B2 fi ai aj) (fun w h' => w = none ∧ MoQ L B1 B2 aj fi (· = ai) (qIs q σ) (fun fi' _ a => TM fi' (lx t a.2.2.2 0)) h') := by
  have fl91 := h91
  have fl87 : True := trivial
  obtain ⟨l1, l2, l3, l4, l5⟩ := id hL
  refine am_W.of rfl rfl ?_
  refine am_W.br rfl rfl (by and_intros <;> first | trivial | exact okI rfl rfl rfl | (refine okrI rfl rfl rfl rfl ?_ ?_ <;> (first | omega | (simp only [HS, FRS, CCS, am_R, fl91, fl87] at *; omega))) | (refine okaI rfl rfl rfl rfl ?_ ?_ <;> (first | omega | (simp only [HS, FRS, CCS, am_R, fl91, fl87] at *; omega))) | (first | omega | (simp only [HS, FRS, CCS, am_R, fl91, fl87] at *; omega)) | (simp only [HS, FRS, CCS, fl91, fl87])) (fun c1 => absurd (by simp only [HS, FRS, fl91, fl87]) c1) (fun c1 => ?_)
  refine am_W.cv 10 m_Mo_isWord rfl rfl rfl rfl (by and_intros <;> first | trivial | exact okI rfl rfl rfl | (refine okrI rfl rfl rfl rfl ?_ ?_ <;> (first | omega | (simp only [HS, FRS, CCS, am_R, fl91, fl87] at *; omega))) | (refine okaI rfl rfl rfl rfl ?_ ?_ <;> (first | omega | (simp only [HS, FRS, CCS, am_R, fl91, fl87] at *; omega))) | (first | omega | (simp only [HS, FRS, CCS, am_R, fl91, fl87] at *; omega)) | (simp only [HS, FRS, CCS, fl91, fl87])) (c_misWord (d + 1) L B1 B2 fi ai aj v hv (Or.inl h91) ⟨by omega, by omega⟩ ⟨by omega, by omega⟩) ?_
  rintro r1 h1 ⟨rfl, rfl⟩
  unfold qIs
  by_cases hy : σ.2.1 = q
  · rw [if_pos hy, if_pos ⟨h91, hq.mpr hy⟩]
    refine am_W.br rfl rfl (by and_intros <;> first | trivial | exact okI rfl rfl rfl | (refine okrI rfl rfl rfl rfl ?_ ?_ <;> (first | omega | (simp only [HS, FRS, CCS, am_R, fl91, fl87] at *; omega))) | (refine okaI rfl rfl rfl rfl ?_ ?_ <;> (first | omega | (simp only [HS, FRS, CCS, am_R, fl91, fl87] at *; omega))) | (first | omega | (simp only [HS, FRS, CCS, am_R, fl91, fl87] at *; omega)) | (simp only [HS, FRS, CCS, fl91, fl87])) (fun c2 => ?_) (fun c2 => absurd c2 (by decide))
    refine am_W.br rfl rfl (by and_intros <;> first | trivial | exact okI rfl rfl rfl | (refine okrI rfl rfl rfl rfl ?_ ?_ <;> (first | omega | (simp only [HS, FRS, CCS, am_R, fl91, fl87] at *; omega))) | (refine okaI rfl rfl rfl rfl ?_ ?_ <;> (first | omega | (simp only [HS, FRS, CCS, am_R, fl91, fl87] at *; omega))) | (first | omega | (simp only [HS, FRS, CCS, am_R, fl91, fl87] at *; omega)) | (simp only [HS, FRS, CCS, fl91, fl87])) (fun c3 => absurd (by simp only [HS, FRS, fl91, fl87]) c3) (fun c3 => ?_)
    refine am_W.cv 10 m_Mo_next rfl rfl rfl rfl (by and_intros <;> first | trivial | exact okI rfl rfl rfl | (refine okrI rfl rfl rfl rfl ?_ ?_ <;> (first | omega | (simp only [HS, FRS, CCS, am_R, fl91, fl87] at *; omega))) | (refine okaI rfl rfl rfl rfl ?_ ?_ <;> (first | omega | (simp only [HS, FRS, CCS, am_R, fl91, fl87] at *; omega))) | (first | omega | (simp only [HS, FRS, CCS, am_R, fl91, fl87] at *; omega)) | (simp only [HS, FRS, CCS, fl91, fl87])) (c_mnx d L B1 B2 fi ai aj t σ.2.2.2 hL et hT.2.1) ?_
    rintro r1 h1 ⟨rfl, f2, rfl, g1, g2, g3, g4⟩
    exact am_W.rt rfl rfl (by and_intros <;> first | trivial | exact okI rfl rfl rfl | (refine okrI rfl rfl rfl rfl ?_ ?_ <;> (first | omega | (simp only [HS, FRS, CCS, am_R, fl91, fl87] at *; omega))) | (refine okaI rfl rfl rfl rfl ?_ ?_ <;> (first | omega | (simp only [HS, FRS, CCS, am_R, fl91, fl87] at *; omega))) | (first | omega | (simp only [HS, FRS, CCS, am_R, fl91, fl87] at *; omega)) | (simp only [HS, FRS, CCS, fl91, fl87])) ⟨rfl, MoQ_y rfl g1 rfl (g2.trans h91) g3 g4⟩
  · rw [if_neg hy, if_neg (fun z => hy (hq.mp z.2))]
    refine am_W.br rfl rfl (by and_intros <;> first | trivial | exact okI rfl rfl rfl | (refine okrI rfl rfl rfl rfl ?_ ?_ <;> (first | omega | (simp only [HS, FRS, CCS, am_R, fl91, fl87] at *; omega))) | (refine okaI rfl rfl rfl rfl ?_ ?_ <;> (first | omega | (simp only [HS, FRS, CCS, am_R, fl91, fl87] at *; omega))) | (first | omega | (simp only [HS, FRS, CCS, am_R, fl91, fl87] at *; omega)) | (simp only [HS, FRS, CCS, fl91, fl87])) (fun c2 => absurd rfl c2) (fun c2 => ?_)
    refine am_W.cv 10 m_Mo_fail rfl rfl rfl rfl (by and_intros <;> first | trivial | exact okI rfl rfl rfl | (refine okrI rfl rfl rfl rfl ?_ ?_ <;> (first | omega | (simp only [HS, FRS, CCS, am_R, fl91, fl87] at *; omega))) | (refine okaI rfl rfl rfl rfl ?_ ?_ <;> (first | omega | (simp only [HS, FRS, CCS, am_R, fl91, fl87] at *; omega))) | (first | omega | (simp only [HS, FRS, CCS, am_R, fl91, fl87] at *; omega)) | (simp only [HS, FRS, CCS, fl91, fl87])) (c_mfail (d + 1) L B1 B2 fi ai aj 0 (fi 89 126) h91 (Or.inl rfl) ⟨by omega, by omega⟩) ?_
    rintro r1 h1 ⟨rfl, f2, rfl, g1, g2, g3⟩
    have f91 := g2.1
    refine am_W.br rfl rfl ?_ (fun c3 => ?_) (fun c3 => absurd c3 ?_)
    · simp only [HS, FRS, CCS, am_R, f91]
      exact (by and_intros <;> first | trivial | exact okI rfl rfl rfl | (refine okrI rfl rfl rfl rfl ?_ ?_ <;> (first | omega | (simp only [HS, FRS, CCS, am_R, fl91, fl87] at *; omega))) | (refine okaI rfl rfl rfl rfl ?_ ?_ <;> (first | omega | (simp only [HS, FRS, CCS, am_R, fl91, fl87] at *; omega))) | (first | omega | (simp only [HS, FRS, CCS, am_R, fl91, fl87] at *; omega)) | (simp only [HS, FRS, CCS, fl91, fl87]))
    · refine am_W.rt rfl rfl (by and_intros <;> first | trivial | exact okI rfl rfl rfl | (refine okrI rfl rfl rfl rfl ?_ ?_ <;> (first | omega | (simp only [HS, FRS, CCS, am_R, fl91, fl87] at *; omega))) | (refine okaI rfl rfl rfl rfl ?_ ?_ <;> (first | omega | (simp only [HS, FRS, CCS, am_R, fl91, fl87] at *; omega))) | (first | omega | (simp only [HS, FRS, CCS, am_R, fl91, fl87] at *; omega)) | (simp only [HS, FRS, CCS, fl91, fl87])) ⟨rfl, MoQ_f ?_ g1 rfl g2⟩
      rw [if_neg (by decide), hT.1]
    · simp only [HS, f91]
      decide
set_option maxHeartbeats 400000 in
set_option maxRecDepth 100000 in
theorem c_mwantSign (d L B1 B2 : Nat) (fi : Nat → Nat → Int) (ai aj : Nat → Int → Int) (v q : Int) (σ : Tk) (t : Int → Int) (hv : am_R v) (h91 : fi 91 126 = 0) (hL : LM fi ai) (hT : TM fi σ) (et : tx (fi 60 126) (ai 131) = t) (hq : (fi 87 126 = 3 ∧ fi 88 126 = v) ↔ σ.2.1 = q) : am_M am_prog (d + 3) m_Mo_wantSign [.inr (.inr 126), .inl v] (HH L B1 B2 fi ai aj) (fun w h' => w = none ∧ MoQ L B1 B2 aj fi (· = ai) (qIs q σ) (fun fi' _ a => TM fi' (lx t a.2.2.2 0)) h') := by
  have fl91 := h91
  have fl87 : True := trivial
  obtain ⟨l1, l2, l3, l4, l5⟩ := id hL
  refine am_W.of rfl rfl ?_
  refine am_W.br rfl rfl (by and_intros <;> first | trivial | exact okI rfl rfl rfl | (refine okrI rfl rfl rfl rfl ?_ ?_ <;> (first | omega | (simp only [HS, FRS, CCS, am_R, fl91, fl87] at *; omega))) | (refine okaI rfl rfl rfl rfl ?_ ?_ <;> (first | omega | (simp only [HS, FRS, CCS, am_R, fl91, fl87] at *; omega))) | (first | omega | (simp only [HS, FRS, CCS, am_R, fl91, fl87] at *; omega)) | (simp only [HS, FRS, CCS, fl91, fl87])) (fun c1 => absurd (by simp only [HS, FRS, fl91, fl87]) c1) (fun c1 => ?_)
  refine am_W.cv 10 m_Mo_isSign rfl rfl rfl rfl (by and_intros <;> first | trivial | exact okI rfl rfl rfl | (refine okrI rfl rfl rfl rfl ?_ ?_ <;> (first | omega | (simp only [HS, FRS, CCS, am_R, fl91, fl87] at *; omega))) | (refine okaI rfl rfl rfl rfl ?_ ?_ <;> (first | omega | (simp only [HS, FRS, CCS, am_R, fl91, fl87] at *; omega))) | (first | omega | (simp only [HS, FRS, CCS, am_R, fl91, fl87] at *; omega)) | (simp only [HS, FRS, CCS, fl91, fl87])) (c_misSign (d + 1) L B1 B2 fi ai aj v hv (Or.inl h91) ⟨by omega, by omega⟩ ⟨by omega, by omega⟩) ?_
  rintro r1 h1 ⟨rfl, rfl⟩
  unfold qIs
  by_cases hy : σ.2.1 = q
  · rw [if_pos hy, if_pos ⟨h91, hq.mpr hy⟩]
    refine am_W.br rfl rfl (by and_intros <;> first | trivial | exact okI rfl rfl rfl | (refine okrI rfl rfl rfl rfl ?_ ?_ <;> (first | omega | (simp only [HS, FRS, CCS, am_R, fl91, fl87] at *; omega))) | (refine okaI rfl rfl rfl rfl ?_ ?_ <;> (first | omega | (simp only [HS, FRS, CCS, am_R, fl91, fl87] at *; omega))) | (first | omega | (simp only [HS, FRS, CCS, am_R, fl91, fl87] at *; omega)) | (simp only [HS, FRS, CCS, fl91, fl87])) (fun c2 => ?_) (fun c2 => absurd c2 (by decide))
    refine am_W.br rfl rfl (by and_intros <;> first | trivial | exact okI rfl rfl rfl | (refine okrI rfl rfl rfl rfl ?_ ?_ <;> (first | omega | (simp only [HS, FRS, CCS, am_R, fl91, fl87] at *; omega))) | (refine okaI rfl rfl rfl rfl ?_ ?_ <;> (first | omega | (simp only [HS, FRS, CCS, am_R, fl91, fl87] at *; omega))) | (first | omega | (simp only [HS, FRS, CCS, am_R, fl91, fl87] at *; omega)) | (simp only [HS, FRS, CCS, fl91, fl87])) (fun c3 => absurd (by simp only [HS, FRS, fl91, fl87]) c3) (fun c3 => ?_)
    refine am_W.cv 10 m_Mo_next rfl rfl rfl rfl (by and_intros <;> first | trivial | exact okI rfl rfl rfl | (refine okrI rfl rfl rfl rfl ?_ ?_ <;> (first | omega | (simp only [HS, FRS, CCS, am_R, fl91, fl87] at *; omega))) | (refine okaI rfl rfl rfl rfl ?_ ?_ <;> (first | omega | (simp only [HS, FRS, CCS, am_R, fl91, fl87] at *; omega))) | (first | omega | (simp only [HS, FRS, CCS, am_R, fl91, fl87] at *; omega)) | (simp only [HS, FRS, CCS, fl91, fl87])) (c_mnx d L B1 B2 fi ai aj t σ.2.2.2 hL et hT.2.1) ?_
    rintro r1 h1 ⟨rfl, f2, rfl, g1, g2, g3, g4⟩
    exact am_W.rt rfl rfl (by and_intros <;> first | trivial | exact okI rfl rfl rfl | (refine okrI rfl rfl rfl rfl ?_ ?_ <;> (first | omega | (simp only [HS, FRS, CCS, am_R, fl91, fl87] at *; omega))) | (refine okaI rfl rfl rfl rfl ?_ ?_ <;> (first | omega | (simp only [HS, FRS, CCS, am_R, fl91, fl87] at *; omega))) | (first | omega | (simp only [HS, FRS, CCS, am_R, fl91, fl87] at *; omega)) | (simp only [HS, FRS, CCS, fl91, fl87])) ⟨rfl, MoQ_y rfl g1 rfl (g2.trans h91) g3 g4⟩
  · rw [if_neg hy, if_neg (fun z => hy (hq.mp z.2))]
    refine am_W.br rfl rfl (by and_intros <;> first | trivial | exact okI rfl rfl rfl | (refine okrI rfl rfl rfl rfl ?_ ?_ <;> (first | omega | (simp only [HS, FRS, CCS, am_R, fl91, fl87] at *; omega))) | (refine okaI rfl rfl rfl rfl ?_ ?_ <;> (first | omega | (simp only [HS, FRS, CCS, am_R, fl91, fl87] at *; omega))) | (first | omega | (simp only [HS, FRS, CCS, am_R, fl91, fl87] at *; omega)) | (simp only [HS, FRS, CCS, fl91, fl87])) (fun c2 => absurd rfl c2) (fun c2 => ?_)
    refine am_W.cv 10 m_Mo_fail rfl rfl rfl rfl (by and_intros <;> first | trivial | exact okI rfl rfl rfl | (refine okrI rfl rfl rfl rfl ?_ ?_ <;> (first | omega | (simp only [HS, FRS, CCS, am_R, fl91, fl87] at *; omega))) | (refine okaI rfl rfl rfl rfl ?_ ?_ <;> (first | omega | (simp only [HS, FRS, CCS, am_R, fl91, fl87] at *; omega))) | (first | omega | (simp only [HS, FRS, CCS, am_R, fl91, fl87] at *; omega)) | (simp only [HS, FRS, CCS, fl91, fl87])) (c_mfail (d + 1) L B1 B2 fi ai aj 0 (fi 89 126) h91 (Or.inl rfl) ⟨by omega, by omega⟩) ?_
    rintro r1 h1 ⟨rfl, f2, rfl, g1, g2, g3⟩
    have f91 := g2.1
    refine am_W.br rfl rfl ?_ (fun c3 => ?_) (fun c3 => absurd c3 ?_)
    · simp only [HS, FRS, CCS, am_R, f91]
      exact (by and_intros <;> first | trivial | exact okI rfl rfl rfl | (refine okrI rfl rfl rfl rfl ?_ ?_ <;> (first | omega | (simp only [HS, FRS, CCS, am_R, fl91, fl87] at *; omega))) | (refine okaI rfl rfl rfl rfl ?_ ?_ <;> (first | omega | (simp only [HS, FRS, CCS, am_R, fl91, fl87] at *; omega))) | (first | omega | (simp only [HS, FRS, CCS, am_R, fl91, fl87] at *; omega)) | (simp only [HS, FRS, CCS, fl91, fl87]))
    · refine am_W.rt rfl rfl (by and_intros <;> first | trivial | exact okI rfl rfl rfl | (refine okrI rfl rfl rfl rfl ?_ ?_ <;> (first | omega | (simp only [HS, FRS, CCS, am_R, fl91, fl87] at *; omega))) | (refine okaI rfl rfl rfl rfl ?_ ?_ <;> (first | omega | (simp only [HS, FRS, CCS, am_R, fl91, fl87] at *; omega))) | (first | omega | (simp only [HS, FRS, CCS, am_R, fl91, fl87] at *; omega)) | (simp only [HS, FRS, CCS, fl91, fl87])) ⟨rfl, MoQ_f ?_ g1 rfl g2⟩
      rw [if_neg (by decide), hT.1]
    · simp only [HS, f91]
      decide
set_option maxHeartbeats 400000 in
set_option maxRecDepth 100000 in
theorem c_mwantWordF (d L B1 B2 : Nat) (fi : Nat → Nat → Int) (ai aj : Nat → Int → Int) (v : Int) (h91 : fi 91 126 = 1) : am_M am_prog (d + 1) m_Mo_wantWord [.inr (.inr 126), .inl v] (HH L B1 B2 fi ai aj) (fun w h' => w = none ∧ h' = HH L B1 B2 fi ai aj) := by
  have fl91 := h91
  have fl87 : True := trivial
  refine am_W.of rfl rfl ?_
  refine am_W.br rfl rfl (by and_intros <;> first | trivial | exact okI rfl rfl rfl | (refine okrI rfl rfl rfl rfl ?_ ?_ <;> (first | omega | (simp only [HS, FRS, CCS, am_R, fl91, fl87] at *; omega))) | (refine okaI rfl rfl rfl rfl ?_ ?_ <;> (first | omega | (simp only [HS, FRS, CCS, am_R, fl91, fl87] at *; omega))) | (first | omega | (simp only [HS, FRS, CCS, am_R, fl91, fl87] at *; omega)) | (simp only [HS, FRS, CCS, fl91, fl87])) (fun c1 => ?_) (fun c1 => absurd c1 (by simp only [HS, h91]; decide))
  refine am_W.br rfl rfl (by and_intros <;> first | trivial | exact okI rfl rfl rfl | (refine okrI rfl rfl rfl rfl ?_ ?_ <;> (first | omega | (simp only [HS, FRS, CCS, am_R, fl91, fl87] at *; omega))) | (refine okaI rfl rfl rfl rfl ?_ ?_ <;> (first | omega | (simp only [HS, FRS, CCS, am_R, fl91, fl87] at *; omega))) | (first | omega | (simp only [HS, FRS, CCS, am_R, fl91, fl87] at *; omega)) | (simp only [HS, FRS, CCS, fl91, fl87])) (fun c1 => ?_) (fun c1 => absurd c1 (by simp only [HS, h91]; decide))
  exact am_W.rt rfl rfl (by and_intros <;> first | trivial | exact okI rfl rfl rfl | (refine okrI rfl rfl rfl rfl ?_ ?_ <;> (first | omega | (simp only [HS, FRS, CCS, am_R, fl91, fl87] at *; omega))) | (refine okaI rfl rfl rfl rfl ?_ ?_ <;> (first | omega | (simp only [HS, FRS, CCS, am_R, fl91, fl87] at *; omega))) | (first | omega | (simp only [HS, FRS, CCS, am_R, fl91, fl87] at *; omega)) | (simp only [HS, FRS, CCS, fl91, fl87])) ⟨rfl, rfl⟩
set_option maxHeartbeats 400000 in
set_option maxRecDepth 100000 in
theorem c_mwantSignF (d L B1 B2 : Nat) (fi : Nat → Nat → Int) (ai aj : Nat → Int → Int) (v : Int) (h91 : fi 91 126 = 1) : am_M am_prog (d + 1) m_Mo_wantSign [.inr (.inr 126), .inl v] (HH L B1 B2 fi ai aj) (fun w h' => w = none ∧ h' = HH L B1 B2 fi ai aj) := by
  have fl91 := h91
  have fl87 : True := trivial
  refine am_W.of rfl rfl ?_
  refine am_W.br rfl rfl (by and_intros <;> first | trivial | exact okI rfl rfl rfl | (refine okrI rfl rfl rfl rfl ?_ ?_ <;> (first | omega | (simp only [HS, FRS, CCS, am_R, fl91, fl87] at *; omega))) | (refine okaI rfl rfl rfl rfl ?_ ?_ <;> (first | omega | (simp only [HS, FRS, CCS, am_R, fl91, fl87] at *; omega))) | (first | omega | (simp only [HS, FRS, CCS, am_R, fl91, fl87] at *; omega)) | (simp only [HS, FRS, CCS, fl91, fl87])) (fun c1 => ?_) (fun c1 => absurd c1 (by simp only [HS, h91]; decide))
  refine am_W.br rfl rfl (by and_intros <;> first | trivial | exact okI rfl rfl rfl | (refine okrI rfl rfl rfl rfl ?_ ?_ <;> (first | omega | (simp only [HS, FRS, CCS, am_R, fl91, fl87] at *; omega))) | (refine okaI rfl rfl rfl rfl ?_ ?_ <;> (first | omega | (simp only [HS, FRS, CCS, am_R, fl91, fl87] at *; omega))) | (first | omega | (simp only [HS, FRS, CCS, am_R, fl91, fl87] at *; omega)) | (simp only [HS, FRS, CCS, fl91, fl87])) (fun c1 => ?_) (fun c1 => absurd c1 (by simp only [HS, h91]; decide))
  exact am_W.rt rfl rfl (by and_intros <;> first | trivial | exact okI rfl rfl rfl | (refine okrI rfl rfl rfl rfl ?_ ?_ <;> (first | omega | (simp only [HS, FRS, CCS, am_R, fl91, fl87] at *; omega))) | (refine okaI rfl rfl rfl rfl ?_ ?_ <;> (first | omega | (simp only [HS, FRS, CCS, am_R, fl91, fl87] at *; omega))) | (first | omega | (simp only [HS, FRS, CCS, am_R, fl91, fl87] at *; omega)) | (simp only [HS, FRS, CCS, fl91, fl87])) ⟨rfl, rfl⟩
set_option maxHeartbeats 400000 in
set_option maxRecDepth 100000 in
theorem c_mwantNumF (d L B1 B2 : Nat) (fi : Nat → Nat → Int) (ai aj : Nat → Int → Int) (v : Int) (h91 : fi 91 126 = 1) : am_M am_prog (d + 1) m_Mo_wantNumber [.inr (.inr 126), .inl v] (HH L B1 B2 fi ai aj) (fun w h' => w = some (.inl 0) ∧ h' = HH L B1 B2 fi ai aj) := by
  have fl91 := h91
  have fl87 : True := trivial
  refine am_W.of rfl rfl ?_
  refine am_W.br rfl rfl (by and_intros <;> first | trivial | exact okI rfl rfl rfl | (refine okrI rfl rfl rfl rfl ?_ ?_ <;> (first | omega | (simp only [HS, FRS, CCS, am_R, fl91, fl87] at *; omega))) | (refine okaI rfl rfl rfl rfl ?_ ?_ <;> (first | omega | (simp only [HS, FRS, CCS, am_R, fl91, fl87] at *; omega))) | (first | omega | (simp only [HS, FRS, CCS, am_R, fl91, fl87] at *; omega)) | (simp only [HS, FRS, CCS, fl91, fl87])) (fun c1 => ?_) (fun c1 => absurd c1 (by simp only [HS, h91]; decide))
  refine am_W.br rfl rfl (by and_intros <;> first | trivial | exact okI rfl rfl rfl | (refine okrI rfl rfl rfl rfl ?_ ?_ <;> (first | omega | (simp only [HS, FRS, CCS, am_R, fl91, fl87] at *; omega))) | (refine okaI rfl rfl rfl rfl ?_ ?_ <;> (first | omega | (simp only [HS, FRS, CCS, am_R, fl91, fl87] at *; omega))) | (first | omega | (simp only [HS, FRS, CCS, am_R, fl91, fl87] at *; omega)) | (simp only [HS, FRS, CCS, fl91, fl87])) (fun c1 => ?_) (fun c1 => absurd c1 (by simp only [HS, h91]; decide))
  refine am_W.br rfl rfl (by and_intros <;> first | trivial | exact okI rfl rfl rfl | (refine okrI rfl rfl rfl rfl ?_ ?_ <;> (first | omega | (simp only [HS, FRS, CCS, am_R, fl91, fl87] at *; omega))) | (refine okaI rfl rfl rfl rfl ?_ ?_ <;> (first | omega | (simp only [HS, FRS, CCS, am_R, fl91, fl87] at *; omega))) | (first | omega | (simp only [HS, FRS, CCS, am_R, fl91, fl87] at *; omega)) | (simp only [HS, FRS, CCS, fl91, fl87])) (fun c1 => absurd c1 (by simp only [HS, h91]; decide)) (fun c1 => ?_)
  exact am_W.rt rfl rfl (by and_intros <;> first | trivial | exact okI rfl rfl rfl | (refine okrI rfl rfl rfl rfl ?_ ?_ <;> (first | omega | (simp only [HS, FRS, CCS, am_R, fl91, fl87] at *; omega))) | (refine okaI rfl rfl rfl rfl ?_ ?_ <;> (first | omega | (simp only [HS, FRS, CCS, am_R, fl91, fl87] at *; omega))) | (first | omega | (simp only [HS, FRS, CCS, am_R, fl91, fl87] at *; omega)) | (simp only [HS, FRS, CCS, fl91, fl87])) ⟨rfl, rfl⟩
set_option maxHeartbeats 400000 in
set_option maxRecDepth 100000 in
theorem c_mwantNum (d L B1 B2 : Nat) (fi : Nat → Nat → Int) (ai aj : Nat → Int → Int) (m : Int) (σ : Tk) (t : Int → Int) (hm : am_R m) (h91 : fi 91 126 = 0) (hL : LM fi ai) (hT : TM fi σ) (et : tx (fi 60 126) (ai 131) = t) : am_M am_prog (d + 3) m_Mo_wantNumber [.inr (.inr 126), .inl m] (HH L B1 B2 fi ai aj) (fun w h' => ∃ v, w = some (.inl v) ∧ MoQ L B1 B2 aj fi (· = ai) (qNum m σ) (fun fi' _ a => v = a.2.2.1 ∧ (0 ≤ v ∧ v ≤ 9999) ∧ TM fi' (lx t a.2.2.2 0)) h') := by
  have fl91 := h91
  have fl87 : True := trivial
  obtain ⟨l1, l2, l3, l4, l5⟩ := id hL
  have hR1 : fi 87 126 = 2 ↔ σ.2.1 = 1 := hT.2.2.1.2.1
  have hR2 : σ.2.1 = 1 → fi 88 126 = σ.2.2.1 := hT.2.2.1.2.2.1
  have hR3 := hT.2.2.2
  refine am_W.of rfl rfl ?_
  refine am_W.br rfl rfl (by and_intros <;> first | trivial | exact okI rfl rfl rfl | (refine okrI rfl rfl rfl rfl ?_ ?_ <;> (first | omega | (simp only [HS, FRS, CCS, am_R, fl91, fl87] at *; omega))) | (refine okaI rfl rfl rfl rfl ?_ ?_ <;> (first | omega | (simp only [HS, FRS, CCS, am_R, fl91, fl87] at *; omega))) | (first | omega | (simp only [HS, FRS, CCS, am_R, fl91, fl87] at *; omega)) | (simp only [HS, FRS, CCS, fl91, fl87])) (fun c1 => absurd (by simp only [HS, FRS, fl91, fl87]) c1) (fun c1 => ?_)
  unfold qNum
  refine am_W.br rfl rfl (by and_intros <;> first | trivial | exact okI rfl rfl rfl | (refine okrI rfl rfl rfl rfl ?_ ?_ <;> (first | omega | (simp only [HS, FRS, CCS, am_R, fl91, fl87] at *; omega))) | (refine okaI rfl rfl rfl rfl ?_ ?_ <;> (first | omega | (simp only [HS, FRS, CCS, am_R, fl91, fl87] at *; omega))) | (first | omega | (simp only [HS, FRS, CCS, am_R, fl91, fl87] at *; omega)) | (simp only [HS, FRS, CCS, fl91, fl87])) (fun c2 => ?_) (fun c2 => ?_)
  · simp only [HS, FRS, fl91, fl87] at c2
    have hk : σ.2.1 = 1 := by omega
    have hv := hR2 hk
    rw [if_pos hk]
    refine am_W.br rfl rfl (by and_intros <;> first | trivial | exact okI rfl rfl rfl | (refine okrI rfl rfl rfl rfl ?_ ?_ <;> (first | omega | (simp only [HS, FRS, CCS, am_R, fl91, fl87] at *; omega))) | (refine okaI rfl rfl rfl rfl ?_ ?_ <;> (first | omega | (simp only [HS, FRS, CCS, am_R, fl91, fl87] at *; omega))) | (first | omega | (simp only [HS, FRS, CCS, am_R, fl91, fl87] at *; omega)) | (simp only [HS, FRS, CCS, fl91, fl87])) (fun c3 => absurd (by simp only [HS, FRS, fl91, fl87]) c3) (fun c3 => ?_)
    refine am_W.br rfl rfl (by and_intros <;> first | trivial | exact okI rfl rfl rfl | (refine okrI rfl rfl rfl rfl ?_ ?_ <;> (first | omega | (simp only [HS, FRS, CCS, am_R, fl91, fl87] at *; omega))) | (refine okaI rfl rfl rfl rfl ?_ ?_ <;> (first | omega | (simp only [HS, FRS, CCS, am_R, fl91, fl87] at *; omega))) | (first | omega | (simp only [HS, FRS, CCS, am_R, fl91, fl87] at *; omega)) | (simp only [HS, FRS, CCS, fl91, fl87])) (fun c4 => ?_) (fun c4 => ?_)
    · simp only [HS, FRS, fl91, fl87] at c4
      rw [if_pos (by omega)]
      refine am_W.br rfl rfl (by and_intros <;> first | trivial | exact okI rfl rfl rfl | (refine okrI rfl rfl rfl rfl ?_ ?_ <;> (first | omega | (simp only [HS, FRS, CCS, am_R, fl91, fl87] at *; omega))) | (refine okaI rfl rfl rfl rfl ?_ ?_ <;> (first | omega | (simp only [HS, FRS, CCS, am_R, fl91, fl87] at *; omega))) | (first | omega | (simp only [HS, FRS, CCS, am_R, fl91, fl87] at *; omega)) | (simp only [HS, FRS, CCS, fl91, fl87])) (fun c5 => ?_) (fun c5 => absurd (by simp only [HS, FRS, fl91, fl87]) c5)
      refine am_W.cv 10 m_Mo_next rfl rfl rfl rfl (by and_intros <;> first | trivial | exact okI rfl rfl rfl | (refine okrI rfl rfl rfl rfl ?_ ?_ <;> (first | omega | (simp only [HS, FRS, CCS, am_R, fl91, fl87] at *; omega))) | (refine okaI rfl rfl rfl rfl ?_ ?_ <;> (first | omega | (simp only [HS, FRS, CCS, am_R, fl91, fl87] at *; omega))) | (first | omega | (simp only [HS, FRS, CCS, am_R, fl91, fl87] at *; omega)) | (simp only [HS, FRS, CCS, fl91, fl87])) (c_mnx d L B1 B2 fi ai aj t σ.2.2.2 hL et hT.2.1) ?_
      rintro r1 h1 ⟨rfl, f2, rfl, g1, g2, g3, g4⟩
      exact am_W.rt rfl rfl (by and_intros <;> first | trivial | exact okI rfl rfl rfl | (refine okrI rfl rfl rfl rfl ?_ ?_ <;> (first | omega | (simp only [HS, FRS, CCS, am_R, fl91, fl87] at *; omega))) | (refine okaI rfl rfl rfl rfl ?_ ?_ <;> (first | omega | (simp only [HS, FRS, CCS, am_R, fl91, fl87] at *; omega))) | (first | omega | (simp only [HS, FRS, CCS, am_R, fl91, fl87] at *; omega)) | (simp only [HS, FRS, CCS, fl91, fl87])) ⟨_, rfl, MoQ_y rfl g1 rfl (g2.trans h91) g3 ⟨hv, ⟨by show 0 ≤ fi 88 126; omega, l3.2⟩, g4⟩⟩
    · simp only [HS, FRS, fl91, fl87] at c4
      rw [if_neg (by omega)]
      refine am_W.cv 10 m_Mo_fail rfl rfl rfl rfl (by and_intros <;> first | trivial | exact okI rfl rfl rfl | (refine okrI rfl rfl rfl rfl ?_ ?_ <;> (first | omega | (simp only [HS, FRS, CCS, am_R, fl91, fl87] at *; omega))) | (refine okaI rfl rfl rfl rfl ?_ ?_ <;> (first | omega | (simp only [HS, FRS, CCS, am_R, fl91, fl87] at *; omega))) | (first | omega | (simp only [HS, FRS, CCS, am_R, fl91, fl87] at *; omega)) | (simp only [HS, FRS, CCS, fl91, fl87])) (c_mfail (d + 1) L B1 B2 fi ai aj 1 (fi 89 126) h91 (Or.inr rfl) ⟨by omega, by omega⟩) ?_
      rintro r1 h1 ⟨rfl, f2, rfl, g1, g2, g3⟩
      have f91 := g2.1
      refine am_W.br rfl rfl ?_ (fun c3 => absurd c3 ?_) (fun c3 => ?_)
      · simp only [HS, FRS, CCS, am_R, f91]
        exact (by and_intros <;> first | trivial | exact okI rfl rfl rfl | (refine okrI rfl rfl rfl rfl ?_ ?_ <;> (first | omega | (simp only [HS, FRS, CCS, am_R, fl91, fl87] at *; omega))) | (refine okaI rfl rfl rfl rfl ?_ ?_ <;> (first | omega | (simp only [HS, FRS, CCS, am_R, fl91, fl87] at *; omega))) | (first | omega | (simp only [HS, FRS, CCS, am_R, fl91, fl87] at *; omega)) | (simp only [HS, FRS, CCS, fl91, fl87]))
      · simp only [HS, f91]
        decide
      · refine am_W.rt rfl rfl (by and_intros <;> first | trivial | exact okI rfl rfl rfl | (refine okrI rfl rfl rfl rfl ?_ ?_ <;> (first | omega | (simp only [HS, FRS, CCS, am_R, fl91, fl87] at *; omega))) | (refine okaI rfl rfl rfl rfl ?_ ?_ <;> (first | omega | (simp only [HS, FRS, CCS, am_R, fl91, fl87] at *; omega))) | (first | omega | (simp only [HS, FRS, CCS, am_R, fl91, fl87] at *; omega)) | (simp only [HS, FRS, CCS, fl91, fl87])) ⟨0, rfl, MoQ_f ?_ g1 rfl g2⟩
        rw [if_pos rfl, hT.1]
  · simp only [HS, FRS, fl91, fl87] at c2
    rw [if_neg (by omega)]
    refine am_W.cv 10 m_Mo_fail rfl rfl rfl rfl (by and_intros <;> first | trivial | exact okI rfl rfl rfl | (refine okrI rfl rfl rfl rfl ?_ ?_ <;> (first | omega | (simp only [HS, FRS, CCS, am_R, fl91, fl87] at *; omega))) | (refine okaI rfl rfl rfl rfl ?_ ?_ <;> (first | omega | (simp only [HS, FRS, CCS, am_R, fl91, fl87] at *; omega))) | (first | omega | (simp only [HS, FRS, CCS, am_R, fl91, fl87] at *; omega)) | (simp only [HS, FRS, CCS, fl91, fl87])) (c_mfail (d + 1) L B1 B2 fi ai aj 0 (fi 89 126) h91 (Or.inl rfl) ⟨by omega, by omega⟩) ?_
    rintro r1 h1 ⟨rfl, f2, rfl, g1, g2, g3⟩
    have f91 := g2.1
    refine am_W.br rfl rfl ?_ (fun c3 => ?_) (fun c3 => absurd c3 ?_)
    · simp only [HS, FRS, CCS, am_R, f91]
      exact (by and_intros <;> first | trivial | exact okI rfl rfl rfl | (refine okrI rfl rfl rfl rfl ?_ ?_ <;> (first | omega | (simp only [HS, FRS, CCS, am_R, fl91, fl87] at *; omega))) | (refine okaI rfl rfl rfl rfl ?_ ?_ <;> (first | omega | (simp only [HS, FRS, CCS, am_R, fl91, fl87] at *; omega))) | (first | omega | (simp only [HS, FRS, CCS, am_R, fl91, fl87] at *; omega)) | (simp only [HS, FRS, CCS, fl91, fl87]))
    · refine am_W.br rfl rfl ?_ (fun c3 => absurd c3 ?_) (fun c3 => ?_)
      · simp only [HS, FRS, CCS, am_R, f91]
        exact (by and_intros <;> first | trivial | exact okI rfl rfl rfl | (refine okrI rfl rfl rfl rfl ?_ ?_ <;> (first | omega | (simp only [HS, FRS, CCS, am_R, fl91, fl87] at *; omega))) | (refine okaI rfl rfl rfl rfl ?_ ?_ <;> (first | omega | (simp only [HS, FRS, CCS, am_R, fl91, fl87] at *; omega))) | (first | omega | (simp only [HS, FRS, CCS, am_R, fl91, fl87] at *; omega)) | (simp only [HS, FRS, CCS, fl91, fl87]))
      · simp only [HS, f91]
        decide
      · refine am_W.rt rfl rfl (by and_intros <;> first | trivial | exact okI rfl rfl rfl | (refine okrI rfl rfl rfl rfl ?_ ?_ <;> (first | omega | (simp only [HS, FRS, CCS, am_R, fl91, fl87] at *; omega))) | (refine okaI rfl rfl rfl rfl ?_ ?_ <;> (first | omega | (simp only [HS, FRS, CCS, am_R, fl91, fl87] at *; omega))) | (first | omega | (simp only [HS, FRS, CCS, am_R, fl91, fl87] at *; omega)) | (simp only [HS, FRS, CCS, fl91, fl87])) ⟨0, rfl, MoQ_f ?_ g1 rfl g2⟩
        rw [if_neg (by decide), hT.1]
    · simp only [HS, f91]
      decide
