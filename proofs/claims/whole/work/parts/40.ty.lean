-- as far as a place
def am_aP (T : am_T) (pc : Nat) : Nat → Option (Prop × am_F) → Option (Prop × am_F)
  | 0, x => x
  | n + 1, x => match x with
    | some (P, q, ls, s, h) => cond (Nat.beq q pc) (some (P, q, ls, s, h)) (am_aP T pc n (am_a1 T (some (P, q, ls, s, h))))
    | none => none
theorem am_aP_W {C : am_C} {T : am_T} {Q : Option am_V → am_H → Prop} (pc : Nat) : ∀ (n : Nat) {x : Option (Prop × am_F)}, am_G C T Q (am_aP T pc n x) → am_G C T Q x
  | 0, _, h => h
  | n + 1, none, h => h
  | n + 1, some (P, q, ls, s, hh), h => by
    unfold am_aP at h
    dsimp only at h
    cases hb : Nat.beq q pc
    · rw [hb] at h
      exact am_a1_W (am_aP_W pc n h)
    · rw [hb] at h
      exact h
theorem am_W.gp {C : am_C} {T : am_T} {Q : Option am_V → am_H → Prop} {f f' : am_F} {P : Prop} (pc : Nat) (hs : am_aP T pc 96 (some (True, f)) = some (P, f')) (hp : P) (w : am_W C T Q f') : am_W C T Q f := by
  obtain ⟨P1, f1, e, -, w1⟩ := am_aP_W (C := C) (T := T) (Q := Q) pc 96 (x := some (True, f)) ⟨P, f', hs, hp, w⟩
  simp only [Option.some.injEq, Prod.mk.injEq] at e
  obtain ⟨-, rfl⟩ := e
  exact w1
-- whole arrays
def up (f : Int → Int) (i v : Int) : Int → Int := fun j => if j = i then v else f j
def am_sa (ai : Nat → Int → Int) (a : Nat) (f : Int → Int) : Nat → Int → Int := fun b => if b = a then f else ai b
theorem u2sa (ai : Nat → Int → Int) (a : Nat) (f : Int → Int) (i v : Int) : am_u2 (am_sa ai a f) a i v = am_sa ai a (up f i v) := by
  funext b j
  unfold am_u2 am_sa up
  by_cases h : b = a
  · simp only [h, if_true]
  · simp only [h, if_false]
theorem u2_sa (ai : Nat → Int → Int) (a : Nat) (i v : Int) : am_u2 ai a i v = am_sa ai a (up (ai a) i v) := by
  funext b j
  unfold am_u2 am_sa up
  by_cases h : b = a
  · simp only [h, if_true]
  · simp only [h, if_false]
theorem sas (ai : Nat → Int → Int) (a : Nat) (f : Int → Int) : am_sa ai a f a = f := if_pos rfl
theorem san (ai : Nat → Int → Int) {a b : Nat} (f : Int → Int) (h : b ≠ a) : am_sa ai a f b = ai b := if_neg h
theorem sa_id (ai : Nat → Int → Int) (a : Nat) : am_sa ai a (ai a) = ai := by
  funext b
  unfold am_sa
  by_cases h : b = a
  · simp only [h, if_true]
  · simp only [h, if_false]
theorem sasa (ai : Nat → Int → Int) (a : Nat) (f g : Int → Int) : am_sa (am_sa ai a f) a g = am_sa ai a g := by
  funext b
  unfold am_sa
  by_cases h : b = a
  · simp only [h, if_true]
  · simp only [h, if_false]
theorem u2u {β γ : Type} [DecidableEq β] (f : Nat → β → γ) (i : Nat) (a : β) (v w : γ) : am_u2 (am_u2 f i a v) i a w = am_u2 f i a w := by
  funext j b
  unfold am_u2
  by_cases h : j = i
  · by_cases h2 : b = a
    · simp only [h, h2, if_true]
    · simp only [h, h2, if_true, if_false]
  · simp only [h, if_false]
theorem u2_id {β γ : Type} [DecidableEq β] (f : Nat → β → γ) (i : Nat) (a : β) : am_u2 f i a (f i a) = f := by
  funext j b
  unfold am_u2
  by_cases h : j = i
  · by_cases h2 : b = a
    · simp only [h, h2, if_true]
    · simp only [h, h2, if_true, if_false]
  · simp only [h, if_false]
theorem up_s (f : Int → Int) (i v : Int) : up f i v i = v := if_pos rfl
theorem up_n (f : Int → Int) {i j : Int} (v : Int) (h : j ≠ i) : up f i v j = f j := if_neg h
-- what is typed
def tyv (e i : Int) : Int := am_and (am_shrJ e (8 * i)) 255
def tyl (e : Int) : Nat → Int → (Int → Int) → (Int → Int)
  | 0, _, t => t
  | k + 1, l, t => tyl e k (l + 1) (up t l (tyv e k))
theorem and255 (x : Int) : 0 ≤ am_and x 255 ∧ am_and x 255 ≤ 255 := by
  have h : am_and x 255 = ((Int32.ofInt x).toBitVec &&& 255#32).toInt := by
    unfold am_and
    rw [← Int32.toInt_toBitVec, Int32.toBitVec_and]
    rfl
  have h2 : ((Int32.ofInt x).toBitVec &&& 255#32).toNat ≤ 255 := by
    rw [BitVec.toNat_and]
    exact Nat.and_le_right
  rw [h, BitVec.toInt_eq_toNat_of_lt (by omega)]
  omega
theorem tyl_eq (e : Int) : ∀ (k : Nat) (l : Int) (t t' : Int → Int), (∀ i, 0 ≤ i → i < l → t i = t' i) → ∀ i, 0 ≤ i → i < l + k → tyl e k l t i = tyl e k l t' i
  | 0, l, t, t', h, i, h0, h1 => h i h0 (by omega)
  | k + 1, l, t, t', h, i, h0, h1 => tyl_eq e k (l + 1) _ _ (fun j j0 j1 => by
      unfold up
      by_cases q : j = l
      · rw [if_pos q, if_pos q]
      · rw [if_neg q, if_neg q]
        exact h j j0 (by omega)) i h0 (by omega)
theorem tyl_in (e : Int) : ∀ (k : Nat) (l : Int) (t : Int → Int), (∀ i, 0 ≤ i → i < l → 0 ≤ t i ∧ t i ≤ 255) → ∀ i, 0 ≤ i → i < l + k → 0 ≤ tyl e k l t i ∧ tyl e k l t i ≤ 255
  | 0, l, t, h, i, h0, h1 => h i h0 (by omega)
  | k + 1, l, t, h, i, h0, h1 => tyl_in e k (l + 1) _ (fun j j0 j1 => by
      unfold up
      by_cases q : j = l
      · rw [if_pos q]
        exact and255 _
      · rw [if_neg q]
        exact h j j0 (by omega)) i h0 (by omega)
set_option maxHeartbeats 400000 in
set_option maxRecDepth 100000 in
theorem l_To_append (d L B1 B2 : Nat) (fi : Nat → Nat → Int) (ai aj : Nat → Int → Int) (e n : Int) : ∀ (k : Nat) (i l : Int) (t : Int → Int) (h : am_H), i + 1 = (k : Int) → k ≤ 8 → 0 ≤ l → l + k ≤ 500 → h = HH L B1 B2 (am_u2 fi 14 23 l) (am_sa ai 24 t) aj → am_W (am_ev am_prog d) T_To_append (fun v h' => v = some (.inl (l + k)) ∧ h' = HH L B1 B2 (am_u2 fi 14 23 (l + k)) (am_sa ai 24 (tyl e k l t)) aj) (20, [some (.inr (.inr 23)), some (.inr (.inl e)), none, some (.inl n), some (.inl i)], [], h)
  | 0, i, l, t, h, hi, hk, h0, h1, hh => by
    subst hh
    refine am_W.br rfl rfl (by and_intros <;> first | trivial | exact okI rfl rfl rfl | (refine okrI rfl rfl rfl rfl ?_ ?_ <;> (first | omega | (simp only [HS, FRS, CCS, am_R] at *; omega))) | (refine okaI rfl rfl rfl rfl ?_ ?_ <;> (first | omega | (simp only [HS, FRS, CCS, am_R] at *; omega))) | (first | omega | (simp only [HS, FRS, CCS, am_R] at *; omega))) (fun c1 => ?_) (fun c1 => absurd c1 (by omega))
    refine am_W.rt rfl rfl (by and_intros <;> first | trivial | exact okI rfl rfl rfl | (refine okrI rfl rfl rfl rfl ?_ ?_ <;> (first | omega | (simp only [HS, FRS, CCS, am_R] at *; omega))) | (refine okaI rfl rfl rfl rfl ?_ ?_ <;> (first | omega | (simp only [HS, FRS, CCS, am_R] at *; omega))) | (first | omega | (simp only [HS, FRS, CCS, am_R] at *; omega))) ⟨?_, ?_⟩
    · simp only [HS, u2s]
      congr 2
      omega
    · rw [show l + ((0 : Nat) : Int) = l by omega]
      rfl
  | k + 1, i, l, t, h, hi, hk, h0, h1, hh => by
    subst hh
    refine am_W.br rfl rfl (by and_intros <;> first | trivial | exact okI rfl rfl rfl | (refine okrI rfl rfl rfl rfl ?_ ?_ <;> (first | omega | (simp only [HS, FRS, CCS, am_R] at *; omega))) | (refine okaI rfl rfl rfl rfl ?_ ?_ <;> (first | omega | (simp only [HS, FRS, CCS, am_R] at *; omega))) | (first | omega | (simp only [HS, FRS, CCS, am_R] at *; omega))) (fun c1 => absurd c1 (by omega)) (fun c1 => ?_)
    have hl : am_fi (HH L B1 B2 (am_u2 fi 14 23 l) (am_sa ai 24 t) aj) 14 23 = l := by simp only [HS, u2s]
    refine am_W.gp 20 rfl ?_ ?_
    · rw [hl]
      exact (by and_intros <;> first | trivial | exact okI rfl rfl rfl | (refine okrI rfl rfl rfl rfl ?_ ?_ <;> (first | omega | (simp only [HS, FRS, CCS, am_R] at *; omega))) | (refine okaI rfl rfl rfl rfl ?_ ?_ <;> (first | omega | (simp only [HS, FRS, CCS, am_R] at *; omega))) | (first | omega | (simp only [HS, FRS, CCS, am_R] at *; omega)))
    · rw [show l + ((k + 1 : Nat) : Int) = l + 1 + (k : Int) by omega]
      refine l_To_append d L B1 B2 fi ai aj e n k _ (l + 1) (up t l (tyv e k)) _ (by omega) (by omega) (by omega) (by omega) ?_
      simp only [HS, FRS, u2s, u2u, u2sa, tyv]
      rw [show i = (k : Int) by omega]
def tyA (n l : Int) : Int := if n < 1 ∨ 8 < n then -1 else if 500 < l + n then -2 else l + n
def tyT (e n l : Int) (t : Int → Int) : Int → Int := if n < 1 ∨ 8 < n ∨ 500 < l + n then t else tyl e n.toNat l t
def tyN (n l : Int) : Int := if n < 1 ∨ 8 < n ∨ 500 < l + n then l else l + n
set_option maxHeartbeats 400000 in
set_option maxRecDepth 100000 in
theorem c_To_append (d L B1 B2 : Nat) (fi : Nat → Nat → Int) (ai aj : Nat → Int → Int) (e n : Int) (hn : 1 ≤ n ∧ n ≤ 8) (hl : 0 ≤ fi 14 23 ∧ fi 14 23 ≤ 500) : am_M am_prog (d + 1) m_To_append [.inr (.inr 23), .inr (.inl e), .inl n] (HH L B1 B2 fi ai aj) (fun v h' => v = some (.inl (tyA n (fi 14 23))) ∧ h' = HH L B1 B2 (am_u2 fi 14 23 (tyN n (fi 14 23))) (am_sa ai 24 (tyT e n (fi 14 23) (ai 24))) aj) := by
  refine am_W.of rfl rfl ?_
  unfold tyA tyT tyN
  refine am_W.br rfl rfl (by and_intros <;> first | trivial | exact okI rfl rfl rfl | (refine okrI rfl rfl rfl rfl ?_ ?_ <;> (first | omega | (simp only [HS, FRS, CCS, am_R] at *; omega))) | (refine okaI rfl rfl rfl rfl ?_ ?_ <;> (first | omega | (simp only [HS, FRS, CCS, am_R] at *; omega))) | (first | omega | (simp only [HS, FRS, CCS, am_R] at *; omega))) (fun c1 => ?_) (fun c1 => ?_)
  · simp only [HS] at c1
    rw [if_neg (by omega), if_neg (by omega), if_neg (by omega), if_neg (by omega)]
    refine am_W.gp 20 rfl trivial ?_
    have hw := l_To_append d L B1 B2 fi ai aj e n n.toNat (n - 1) (fi 14 23) (ai 24) (HH L B1 B2 fi ai aj) (by omega) (by omega) (by omega) (by omega) (by rw [u2_id, sa_id])
    rw [show (n.toNat : Int) = n by omega] at hw
    exact hw
  · simp only [HS] at c1
    rw [if_neg (by omega), if_pos (by omega), if_pos (by omega), if_pos (by omega), u2_id, sa_id]
    exact am_W.rt rfl rfl (by and_intros <;> first | trivial | exact okI rfl rfl rfl | (refine okrI rfl rfl rfl rfl ?_ ?_ <;> (first | omega | (simp only [HS, FRS, CCS, am_R] at *; omega))) | (refine okaI rfl rfl rfl rfl ?_ ?_ <;> (first | omega | (simp only [HS, FRS, CCS, am_R] at *; omega))) | (first | omega | (simp only [HS, FRS, CCS, am_R] at *; omega))) ⟨rfl, rfl⟩
set_option maxHeartbeats 400000 in
set_option maxRecDepth 100000 in
theorem c_MT_type (d L B1 B2 : Nat) (fi : Nat → Nat → Int) (ai aj : Nat → Int → Int) (e n : Int) (hn : am_R n) (hl : 0 ≤ fi 14 23 ∧ fi 14 23 ≤ 500) : am_M am_prog (d + 2) m_MT_type [.inr (.inr 16), .inr (.inl e), .inl n] (HH L B1 B2 fi ai aj) (fun v h' => v = some (.inl (tyA n (fi 14 23))) ∧ h' = HH L B1 B2 (am_u2 fi 14 23 (tyN n (fi 14 23))) (am_sa ai 24 (tyT e n (fi 14 23) (ai 24))) aj) := by
  refine am_W.of rfl rfl ?_
  refine am_W.br rfl rfl (by and_intros <;> first | trivial | exact okI rfl rfl rfl | (refine okrI rfl rfl rfl rfl ?_ ?_ <;> (first | omega | (simp only [HS, FRS, CCS, am_R] at *; omega))) | (refine okaI rfl rfl rfl rfl ?_ ?_ <;> (first | omega | (simp only [HS, FRS, CCS, am_R] at *; omega))) | (first | omega | (simp only [HS, FRS, CCS, am_R] at *; omega))) (fun c1 => ?_) (fun c1 => ?_)
  · unfold tyA tyT tyN
    rw [if_pos (by omega), if_pos (by omega), if_pos (by omega), u2_id, sa_id]
    exact am_W.rt rfl rfl (by and_intros <;> first | trivial | exact okI rfl rfl rfl | (refine okrI rfl rfl rfl rfl ?_ ?_ <;> (first | omega | (simp only [HS, FRS, CCS, am_R] at *; omega))) | (refine okaI rfl rfl rfl rfl ?_ ?_ <;> (first | omega | (simp only [HS, FRS, CCS, am_R] at *; omega))) | (first | omega | (simp only [HS, FRS, CCS, am_R] at *; omega))) ⟨rfl, rfl⟩
  · refine am_W.br rfl rfl (by and_intros <;> first | trivial | exact okI rfl rfl rfl | (refine okrI rfl rfl rfl rfl ?_ ?_ <;> (first | omega | (simp only [HS, FRS, CCS, am_R] at *; omega))) | (refine okaI rfl rfl rfl rfl ?_ ?_ <;> (first | omega | (simp only [HS, FRS, CCS, am_R] at *; omega))) | (first | omega | (simp only [HS, FRS, CCS, am_R] at *; omega))) (fun c2 => ?_) (fun c2 => ?_)
    · refine am_W.cv 3 m_To_append rfl rfl rfl rfl (by and_intros <;> first | trivial | exact okI rfl rfl rfl | (refine okrI rfl rfl rfl rfl ?_ ?_ <;> (first | omega | (simp only [HS, FRS, CCS, am_R] at *; omega))) | (refine okaI rfl rfl rfl rfl ?_ ?_ <;> (first | omega | (simp only [HS, FRS, CCS, am_R] at *; omega))) | (first | omega | (simp only [HS, FRS, CCS, am_R] at *; omega))) (c_To_append d L B1 B2 fi ai aj e n (by omega) hl) ?_
      rintro r1 h1 ⟨rfl, rfl⟩
      exact am_W.rt rfl rfl (by and_intros <;> first | trivial | exact okI rfl rfl rfl | (refine okrI rfl rfl rfl rfl ?_ ?_ <;> (first | omega | (simp only [HS, FRS, CCS, am_R] at *; omega))) | (refine okaI rfl rfl rfl rfl ?_ ?_ <;> (first | omega | (simp only [HS, FRS, CCS, am_R] at *; omega))) | (first | omega | (simp only [HS, FRS, CCS, am_R] at *; omega))) ⟨rfl, rfl⟩
    · unfold tyA tyT tyN
      rw [if_pos (by omega), if_pos (by omega), if_pos (by omega), u2_id, sa_id]
      exact am_W.rt rfl rfl (by and_intros <;> first | trivial | exact okI rfl rfl rfl | (refine okrI rfl rfl rfl rfl ?_ ?_ <;> (first | omega | (simp only [HS, FRS, CCS, am_R] at *; omega))) | (refine okaI rfl rfl rfl rfl ?_ ?_ <;> (first | omega | (simp only [HS, FRS, CCS, am_R] at *; omega))) | (first | omega | (simp only [HS, FRS, CCS, am_R] at *; omega))) ⟨rfl, rfl⟩
set_option maxHeartbeats 400000 in
set_option maxRecDepth 100000 in
theorem c_Mo_in (d : Nat) (x lo hi : Int) (h : am_H) (hx : am_R x) (h1 : am_R lo) (h2 : am_R hi) : am_M am_prog (d + 1) m_Mo_in [.inl x, .inl lo, .inl hi] h (fun v h' => v = some (.inl (if lo ≤ x ∧ x ≤ hi then 1 else 0)) ∧ h' = h) := by
  refine am_W.of rfl rfl ?_
  refine am_W.br rfl rfl (by and_intros <;> first | trivial | exact okI rfl rfl rfl | (refine okrI rfl rfl rfl rfl ?_ ?_ <;> (first | omega | (simp only [HS, FRS, CCS, am_R] at *; omega))) | (refine okaI rfl rfl rfl rfl ?_ ?_ <;> (first | omega | (simp only [HS, FRS, CCS, am_R] at *; omega))) | (first | omega | (simp only [HS, FRS, CCS, am_R] at *; omega))) (fun c1 => ?_) (fun c1 => ?_)
  · rw [if_neg (by omega)]
    exact am_W.rt rfl rfl (by and_intros <;> first | trivial | exact okI rfl rfl rfl | (refine okrI rfl rfl rfl rfl ?_ ?_ <;> (first | omega | (simp only [HS, FRS, CCS, am_R] at *; omega))) | (refine okaI rfl rfl rfl rfl ?_ ?_ <;> (first | omega | (simp only [HS, FRS, CCS, am_R] at *; omega))) | (first | omega | (simp only [HS, FRS, CCS, am_R] at *; omega))) ⟨rfl, rfl⟩
  · refine am_W.br rfl rfl (by and_intros <;> first | trivial | exact okI rfl rfl rfl | (refine okrI rfl rfl rfl rfl ?_ ?_ <;> (first | omega | (simp only [HS, FRS, CCS, am_R] at *; omega))) | (refine okaI rfl rfl rfl rfl ?_ ?_ <;> (first | omega | (simp only [HS, FRS, CCS, am_R] at *; omega))) | (first | omega | (simp only [HS, FRS, CCS, am_R] at *; omega))) (fun c2 => ?_) (fun c2 => ?_)
    · rw [if_neg (by omega)]
      exact am_W.rt rfl rfl (by and_intros <;> first | trivial | exact okI rfl rfl rfl | (refine okrI rfl rfl rfl rfl ?_ ?_ <;> (first | omega | (simp only [HS, FRS, CCS, am_R] at *; omega))) | (refine okaI rfl rfl rfl rfl ?_ ?_ <;> (first | omega | (simp only [HS, FRS, CCS, am_R] at *; omega))) | (first | omega | (simp only [HS, FRS, CCS, am_R] at *; omega))) ⟨rfl, rfl⟩
    · rw [if_pos (by omega)]
      exact am_W.rt rfl rfl (by and_intros <;> first | trivial | exact okI rfl rfl rfl | (refine okrI rfl rfl rfl rfl ?_ ?_ <;> (first | omega | (simp only [HS, FRS, CCS, am_R] at *; omega))) | (refine okaI rfl rfl rfl rfl ?_ ?_ <;> (first | omega | (simp only [HS, FRS, CCS, am_R] at *; omega))) | (first | omega | (simp only [HS, FRS, CCS, am_R] at *; omega))) ⟨rfl, rfl⟩
set_option maxHeartbeats 400000 in
set_option maxRecDepth 100000 in
theorem l_Mo_type (d L B1 B2 : Nat) (fi : Nat → Nat → Int) (ai aj : Nat → Int → Int) (e n : Int) : ∀ (k : Nat) (i l : Int) (t : Int → Int) (h : am_H), i + 1 = (k : Int) → k ≤ 8 → 0 ≤ l → l + k ≤ 500 → h = HH L B1 B2 (am_u2 fi 60 126 l) (am_sa ai 131 t) aj → am_W (am_ev am_prog d) T_Mo_type (fun v h' => v = some (.inl (l + k)) ∧ h' = HH L B1 B2 (am_u2 fi 60 126 (l + k)) (am_sa ai 131 (tyl e k l t)) aj) (32, [some (.inr (.inr 126)), some (.inr (.inl e)), none, some (.inl n), some (.inl i)], [], h)
  | 0, i, l, t, h, hi, hk, h0, h1, hh => by
    subst hh
    refine am_W.br rfl rfl (by and_intros <;> first | trivial | exact okI rfl rfl rfl | (refine okrI rfl rfl rfl rfl ?_ ?_ <;> (first | omega | (simp only [HS, FRS, CCS, am_R] at *; omega))) | (refine okaI rfl rfl rfl rfl ?_ ?_ <;> (first | omega | (simp only [HS, FRS, CCS, am_R] at *; omega))) | (first | omega | (simp only [HS, FRS, CCS, am_R] at *; omega))) (fun c1 => ?_) (fun c1 => absurd c1 (by omega))
    refine am_W.rt rfl rfl (by and_intros <;> first | trivial | exact okI rfl rfl rfl | (refine okrI rfl rfl rfl rfl ?_ ?_ <;> (first | omega | (simp only [HS, FRS, CCS, am_R] at *; omega))) | (refine okaI rfl rfl rfl rfl ?_ ?_ <;> (first | omega | (simp only [HS, FRS, CCS, am_R] at *; omega))) | (first | omega | (simp only [HS, FRS, CCS, am_R] at *; omega))) ⟨?_, ?_⟩
    · simp only [HS, u2s]
      congr 2
      omega
    · rw [show l + ((0 : Nat) : Int) = l by omega]
      rfl
  | k + 1, i, l, t, h, hi, hk, h0, h1, hh => by
    subst hh
    refine am_W.br rfl rfl (by and_intros <;> first | trivial | exact okI rfl rfl rfl | (refine okrI rfl rfl rfl rfl ?_ ?_ <;> (first | omega | (simp only [HS, FRS, CCS, am_R] at *; omega))) | (refine okaI rfl rfl rfl rfl ?_ ?_ <;> (first | omega | (simp only [HS, FRS, CCS, am_R] at *; omega))) | (first | omega | (simp only [HS, FRS, CCS, am_R] at *; omega))) (fun c1 => absurd c1 (by omega)) (fun c1 => ?_)
    have hl : am_fi (HH L B1 B2 (am_u2 fi 60 126 l) (am_sa ai 131 t) aj) 60 126 = l := by simp only [HS, u2s]
    refine am_W.gp 32 rfl ?_ ?_
    · rw [hl]
      exact (by and_intros <;> first | trivial | exact okI rfl rfl rfl | (refine okrI rfl rfl rfl rfl ?_ ?_ <;> (first | omega | (simp only [HS, FRS, CCS, am_R] at *; omega))) | (refine okaI rfl rfl rfl rfl ?_ ?_ <;> (first | omega | (simp only [HS, FRS, CCS, am_R] at *; omega))) | (first | omega | (simp only [HS, FRS, CCS, am_R] at *; omega)))
    · rw [show l + ((k + 1 : Nat) : Int) = l + 1 + (k : Int) by omega]
      refine l_Mo_type d L B1 B2 fi ai aj e n k _ (l + 1) (up t l (tyv e k)) _ (by omega) (by omega) (by omega) (by omega) ?_
      simp only [HS, FRS, u2s, u2u, u2sa, tyv]
      rw [show i = (k : Int) by omega]
set_option maxHeartbeats 400000 in
set_option maxRecDepth 100000 in
theorem c_Mo_type (d L B1 B2 : Nat) (fi : Nat → Nat → Int) (ai aj : Nat → Int → Int) (e n : Int) (hn : am_R n) (hl : 0 ≤ fi 60 126 ∧ fi 60 126 ≤ 500) : am_M am_prog (d + 2) m_Mo_type [.inr (.inr 126), .inr (.inl e), .inl n] (HH L B1 B2 fi ai aj) (fun v h' => v = some (.inl (tyA n (fi 60 126))) ∧ h' = HH L B1 B2 (am_u2 fi 60 126 (tyN n (fi 60 126))) (am_sa ai 131 (tyT e n (fi 60 126) (ai 131))) aj) := by
  refine am_W.of rfl rfl ?_
  refine am_W.cs rfl rfl rfl (by and_intros <;> first | trivial | exact okI rfl rfl rfl | (refine okrI rfl rfl rfl rfl ?_ ?_ <;> (first | omega | (simp only [HS, FRS, CCS, am_R] at *; omega))) | (refine okaI rfl rfl rfl rfl ?_ ?_ <;> (first | omega | (simp only [HS, FRS, CCS, am_R] at *; omega))) | (first | omega | (simp only [HS, FRS, CCS, am_R] at *; omega))) (c_Mo_in d n 1 8 _ hn (by and_intros <;> first | trivial | exact okI rfl rfl rfl | (refine okrI rfl rfl rfl rfl ?_ ?_ <;> (first | omega | (simp only [HS, FRS, CCS, am_R] at *; omega))) | (refine okaI rfl rfl rfl rfl ?_ ?_ <;> (first | omega | (simp only [HS, FRS, CCS, am_R] at *; omega))) | (first | omega | (simp only [HS, FRS, CCS, am_R] at *; omega))) (by and_intros <;> first | trivial | exact okI rfl rfl rfl | (refine okrI rfl rfl rfl rfl ?_ ?_ <;> (first | omega | (simp only [HS, FRS, CCS, am_R] at *; omega))) | (refine okaI rfl rfl rfl rfl ?_ ?_ <;> (first | omega | (simp only [HS, FRS, CCS, am_R] at *; omega))) | (first | omega | (simp only [HS, FRS, CCS, am_R] at *; omega)))) ?_
  rintro r1 h1 ⟨rfl, rfl⟩
  unfold tyA tyT tyN
  by_cases q : 1 ≤ n ∧ n ≤ 8
  · rw [if_pos q, if_neg (by omega)]
    refine am_W.br rfl rfl (by and_intros <;> first | trivial | exact okI rfl rfl rfl | (refine okrI rfl rfl rfl rfl ?_ ?_ <;> (first | omega | (simp only [HS, FRS, CCS, am_R] at *; omega))) | (refine okaI rfl rfl rfl rfl ?_ ?_ <;> (first | omega | (simp only [HS, FRS, CCS, am_R] at *; omega))) | (first | omega | (simp only [HS, FRS, CCS, am_R] at *; omega))) (fun c1 => ?_) (fun c1 => absurd c1 (by decide))
    refine am_W.br rfl rfl (by and_intros <;> first | trivial | exact okI rfl rfl rfl | (refine okrI rfl rfl rfl rfl ?_ ?_ <;> (first | omega | (simp only [HS, FRS, CCS, am_R] at *; omega))) | (refine okaI rfl rfl rfl rfl ?_ ?_ <;> (first | omega | (simp only [HS, FRS, CCS, am_R] at *; omega))) | (first | omega | (simp only [HS, FRS, CCS, am_R] at *; omega))) (fun c1 => ?_) (fun c1 => ?_)
    · simp only [HS] at c1
      rw [if_neg (by omega), if_neg (by omega), if_neg (by omega)]
      refine am_W.gp 32 rfl trivial ?_
      have hw := l_Mo_type (d + 1) L B1 B2 fi ai aj e n n.toNat (n - 1) (fi 60 126) (ai 131) (HH L B1 B2 fi ai aj) (by omega) (by omega) (by omega) (by omega) (by rw [u2_id, sa_id])
      rw [show (n.toNat : Int) = n by omega] at hw
      exact hw
    · simp only [HS] at c1
      rw [if_pos (by omega), if_pos (by omega), if_pos (by omega), u2_id, sa_id]
      exact am_W.rt rfl rfl (by and_intros <;> first | trivial | exact okI rfl rfl rfl | (refine okrI rfl rfl rfl rfl ?_ ?_ <;> (first | omega | (simp only [HS, FRS, CCS, am_R] at *; omega))) | (refine okaI rfl rfl rfl rfl ?_ ?_ <;> (first | omega | (simp only [HS, FRS, CCS, am_R] at *; omega))) | (first | omega | (simp only [HS, FRS, CCS, am_R] at *; omega))) ⟨rfl, rfl⟩
  · rw [if_neg q, if_pos (by omega), if_pos (by omega), if_pos (by omega), u2_id, sa_id]
    refine am_W.br rfl rfl (by and_intros <;> first | trivial | exact okI rfl rfl rfl | (refine okrI rfl rfl rfl rfl ?_ ?_ <;> (first | omega | (simp only [HS, FRS, CCS, am_R] at *; omega))) | (refine okaI rfl rfl rfl rfl ?_ ?_ <;> (first | omega | (simp only [HS, FRS, CCS, am_R] at *; omega))) | (first | omega | (simp only [HS, FRS, CCS, am_R] at *; omega))) (fun c1 => absurd rfl c1) (fun c1 => ?_)
    exact am_W.rt rfl rfl (by and_intros <;> first | trivial | exact okI rfl rfl rfl | (refine okrI rfl rfl rfl rfl ?_ ?_ <;> (first | omega | (simp only [HS, FRS, CCS, am_R] at *; omega))) | (refine okaI rfl rfl rfl rfl ?_ ?_ <;> (first | omega | (simp only [HS, FRS, CCS, am_R] at *; omega))) | (first | omega | (simp only [HS, FRS, CCS, am_R] at *; omega))) ⟨rfl, rfl⟩
