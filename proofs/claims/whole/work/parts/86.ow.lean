-- the order of ways; what a way's terms are like
theorem cp3_a (x y : Int) : cp3 x y = -(cp3 y x) := by
  unfold cp3
  (repeat' split) <;> omega
theorem cp3_0 {x y : Int} : cp3 x y = 0 ↔ x = y := by
  unfold cp3
  (repeat' split) <;> omega
theorem cp3_l {x y : Int} : cp3 x y < 0 ↔ x < y := by
  unfold cp3
  (repeat' split) <;> omega
theorem lexc_a : ∀ (x y : List Int), lexc x y = -(lexc y x)
  | [], [] => rfl
  | [], _ :: _ => rfl
  | _ :: _, [] => rfl
  | a :: r, b :: s => by
    rw [lexc_c, lexc_c]
    have h1 := cp3_a a b
    have h2 := lexc_a r s
    by_cases h : cp3 a b = 0
    · rw [if_pos h, if_pos (by omega)]
      exact h2
    · rw [if_neg h, if_neg (by omega)]
      exact h1
theorem lexc_t : ∀ (x y z : List Int), x.length = y.length → y.length = z.length → lexc x y ≤ 0 → lexc y z ≤ 0 → lexc x z ≤ 0 ∧ (lexc x z = 0 → lexc x y = 0 ∧ lexc y z = 0)
  | [], [], [], _, _, _, _ => ⟨Int.le_refl 0, fun _ => ⟨rfl, rfl⟩⟩
  | a :: r, b :: s, e :: u, h1, h2, k1, k2 => by
    rw [lexc_c] at k1 k2
    rw [lexc_c, lexc_c, lexc_c]
    have ra := cp3_R a b
    have rb := cp3_R b e
    have rc := cp3_R a e
    have a0 := cp3_0 (x := a) (y := b)
    have b0 := cp3_0 (x := b) (y := e)
    have c0 := cp3_0 (x := a) (y := e)
    have al := cp3_l (x := a) (y := b)
    have bl := cp3_l (x := b) (y := e)
    have cl := cp3_l (x := a) (y := e)
    have ih := lexc_t r s u (by simpa using h1) (by simpa using h2)
    by_cases ha : cp3 a b = 0
    · rw [if_pos ha] at k1 ⊢
      by_cases hb : cp3 b e = 0
      · rw [if_pos hb] at k2 ⊢
        rw [if_pos (by omega)]
        exact ih k1 k2
      · rw [if_neg hb] at k2 ⊢
        rw [if_neg (by omega)]
        exact ⟨by omega, fun q => by omega⟩
    · rw [if_neg ha] at k1 ⊢
      by_cases hb : cp3 b e = 0
      · rw [if_pos hb] at k2 ⊢
        rw [if_neg (by omega)]
        exact ⟨by omega, fun q => by omega⟩
      · rw [if_neg hb] at k2 ⊢
        rw [if_neg (by omega)]
        exact ⟨by omega, fun q => by omega⟩
theorem cmW_ord (a j : Nat → Int → Int) : ordC (cmW a j) := ⟨fun x y => lexc_a _ _, fun x y z h1 h2 => lexc_t _ _ _ rfl rfl h1 h2⟩
def bn (l : List Int) : Prop := ∀ b ∈ l, 1 ≤ b
theorem bn_app {x y : List Int} (hx : bn x) (hy : bn y) : bn (x ++ y) := fun b hb => by
  rcases List.mem_append.mp hb with h | h
  · exact hx b h
  · exact hy b h
theorem bn_dgs {v : Int} (hv : 0 ≤ v) : bn (dgs v) := by
  have h1 : ∀ x : Int, bn [48 + x % 10] := fun x c hc => by
    rw [List.mem_singleton.mp hc]
    omega
  have h0 : bn [] := fun c hc => by cases hc
  unfold dgs
  refine bn_app ?_ (bn_app ?_ (bn_app ?_ (h1 v)))
  · split
    · exact h1 _
    · exact h0
  · split
    · exact h1 _
    · exact h0
  · split
    · exact h1 _
    · exact h0
theorem tpL_n {D : DT} {s r : Int} (hI : DI D) : ∀ (l : List Int), (∀ p ∈ l, okC 4 p) → (∀ p ∈ l, p < 4 → ce D s r p ≠ -1) → bn (tpL D s r l)
  | [], _, _ => fun c hc => (by cases hc)
  | p :: w, h1, h2 => by
    refine bn_app ?_ (tpL_n hI w (fun p hp => h1 p (List.mem_cons_of_mem _ hp)) (fun p hp => h2 p (List.mem_cons_of_mem _ hp)))
    have hp := h1 p (List.mem_cons_self ..)
    have hc := ce_in s r p hI
    unfold tpC
    split
    · next h =>
      have := h2 p (List.mem_cons_self ..) h
      exact bn_dgs (by omega)
    · intro c hc2
      rw [List.mem_singleton.mp hc2]
      rcases hp with h | h <;> omega
theorem tbP_n {D : DT} {s r : Int} {x : PT} (hI : DI D) (hs : 0 ≤ s) (h0 : x.1 = 0 → x.2.2.length ≤ 30 ∧ ∀ q ∈ x.2.2, okC 4 q) (hn : nnP D s r x) : bn (tbP D s r x) := by
  unfold tbP
  unfold nnP at hn
  split
  · next h =>
    rw [if_pos h] at hn
    exact tpL_n hI x.2.2 (h0 h).2 hn
  · next h =>
    rw [if_neg h] at hn
    have hc := ce_in s r x.2.1 hI
    have b1 := bn_dgs (v := ce D s r x.2.1) (by omega)
    split
    · exact bn_app (bn_app (bn_dgs hs) (fun c hc => by rw [List.mem_singleton.mp hc]; omega)) b1
    · exact b1
/-- a term that is given -/
def tOK (u : Int × List Int) : Prop := (0 ≤ u.1 ∧ u.1 ≤ 2) ∧ byt u.2 ∧ bn u.2 ∧ 1 ≤ u.2.length ∧ u.2.length ≤ 20
theorem oth_m {D : DT} {x : MT} {r : Int} : ∀ (k : Nat) (o v : Int), v ∈ oth D x r k o → ce D x.2.2.2.2.1.1 v x.2.2.2.1.2.1 ≠ -1 ∧ jn D x r v
  | 0, o, v, h => by cases h
  | k + 1, o, v, h => by
    by_cases hq : ce D x.2.2.2.2.1.1 o x.2.2.2.1.2.1 ≠ -1 ∧ jn D x r o
    · rw [oth_y hq] at h
      rcases List.mem_cons.mp h with h | h
      · rw [h]
        exact hq
      · exact oth_m k (o + 1) v h
    · rw [oth_n hq] at h
      exact oth_m k (o + 1) v h
theorem tmx_ok {D : DT} (hI : DI D) {x : MT} (hw : wfM D x) {r o t : Int} (hn : nmN D x r) (hb : bdN D x r = -1) (ho : o ∈ rwO D x r) (ht : 0 ≤ t ∧ t < 3) : tOK (tmx D x r o t) := by
  obtain ⟨q1, q2, q3, q4, q5, q6, q7⟩ := wfM_p hI hw
  obtain ⟨n1, n2, n3⟩ := hn
  unfold bdN at hb
  have b1 : ¬ badT x.2.1.1 (tbP D x.1 r x.2.1) := fun z => by rw [if_pos z] at hb; exact absurd hb (by decide)
  rw [if_neg b1] at hb
  have b2 : ¬ badT x.2.2.1.1 (tbP D x.1 r x.2.2.1) := fun z => by rw [if_pos z] at hb; exact absurd hb (by decide)
  rw [if_neg b2] at hb
  have b3 : ¬ badT x.2.2.2.1.1 (tbP D x.1 r x.2.2.2.1) := fun z => by rw [if_pos z] at hb; exact absurd hb (by decide)
  unfold tmx
  by_cases h0 : t = 0
  · rw [if_pos h0]
    obtain ⟨c1, c2, c3⟩ := tbP_b hI q4.1 q1.2.1 n1
    exact ⟨by dsimp only; omega, c1, tbP_n hI q4.1 q1.2.1 n1, by dsimp only; omega, by dsimp only; omega⟩
  · rw [if_neg h0]
    by_cases h1 : t = 1
    · rw [if_pos h1]
      obtain ⟨c1, c2, c3⟩ := tbP_b hI q4.1 q2.2.1 n2
      exact ⟨by dsimp only; omega, c1, tbP_n hI q4.1 q2.2.1 n2, by dsimp only; omega, by dsimp only; omega⟩
    · rw [if_neg h1]
      unfold rwO at ho
      by_cases hj : x.2.2.2.2.1.1 = -1
      · rw [if_pos hj] at ho ⊢
        have hnn : nnP D x.1 r x.2.2.2.1 := by
          by_cases hk : x.2.2.2.1.1 = 2
          · by_cases hz : ¬ x.2.2.2.1.1 = 2 ∨ nnP D x.1 r x.2.2.2.1
            · rcases hz with hz | hz
              · exact absurd hk hz
              · exact hz
            · rw [if_neg hz] at ho
              cases ho
          · exact n3 hk
        obtain ⟨c1, c2, c3⟩ := tbP_b hI q4.1 q3.2.1 hnn
        have hk3 := q3.1
        refine ⟨by dsimp only; omega, c1, tbP_n hI q4.1 q3.2.1 hnn, ?_, ?_⟩
        · dsimp only
          by_cases hk : x.2.2.2.1.1 = 2
          · exact (c3 (by omega)).1
          · omega
        · dsimp only
          by_cases hk : x.2.2.2.1.1 = 2
          · have := (c3 (by omega)).2
            omega
          · omega
      · rw [if_neg hj] at ho ⊢
        have hc := (oth_m _ _ _ ho).1
        have hr := ce_in x.2.2.2.2.1.1 o x.2.2.2.1.2.1 hI
        have h4 := dgs_4 (ce D x.2.2.2.2.1.1 o x.2.2.2.1.2.1)
        have hl := dgs_len (ce D x.2.2.2.2.1.1 o x.2.2.2.1.2.1)
        refine ⟨by dsimp only; omega, byt_dgs (by omega), bn_dgs (by omega), ?_, by dsimp only; omega⟩
        dsimp only
        rw [hl]
        (repeat' split) <;> omega
/-- which ways there are -/
def isWay (D : DT) (ms : List MT) (w : Int) : Prop := ∃ (m : Nat) (x : MT) (r o : Int), ms[m]? = some x ∧ w = ((m : Int) * 16 + r) * 16 + o ∧ (0 ≤ r ∧ r < ro D x.1) ∧ (0 ≤ o ∧ o < 16) ∧ gvs D x r ∧ bdN D x r = -1 ∧ o ∈ rwO D x r
theorem mW_m {D : DT} (hI : DI D) {x : MT} {i : Int} : ∀ (k : Nat) (r w : Int), w ∈ mW D x i k r ↔ ∃ q o, r ≤ q ∧ q < r + k ∧ w = (i * 16 + q) * 16 + o ∧ (0 ≤ o ∧ o < 16) ∧ gvs D x q ∧ bdN D x q = -1 ∧ o ∈ rwO D x q
  | 0, r, w => ⟨fun h => (by cases h), fun ⟨q, o, h1, h2, _⟩ => absurd h2 (by omega)⟩
  | k + 1, r, w => by
    unfold mW
    rw [List.mem_append, mW_m hI k (r + 1) w]
    constructor
    · rintro (h | ⟨q, o, h1, h2, h3⟩)
      · by_cases hg : gvs D x r
        · rw [if_pos hg] at h
          unfold rwW at h
          by_cases hb : bdN D x r = -1
          · rw [if_pos hb] at h
            obtain ⟨o, ho, rfl⟩ := List.mem_map.mp h
            have := (rwO_in (x := x) (r := r) hI).2 o ho
            exact ⟨r, o, by omega, by omega, by omega, this, hg, hb, ho⟩
          · rw [if_neg hb] at h
            cases h
        · rw [if_neg hg] at h
          cases h
      · exact ⟨q, o, by omega, by omega, h3⟩
    · rintro ⟨q, o, h1, h2, h3, h4, h5, h6, h7⟩
      by_cases hq : q = r
      · subst hq
        refine Or.inl ?_
        rw [if_pos h5]
        unfold rwW
        rw [if_pos h6]
        exact List.mem_map.mpr ⟨o, h7, by omega⟩
      · exact Or.inr ⟨q, o, by omega, by omega, h3, h4, h5, h6, h7⟩
theorem aW_m {D : DT} (hI : DI D) : ∀ (ms : List MT) (i w : Int), w ∈ aW D ms i ↔ ∃ (m : Nat) (x : MT) (r o : Int), ms[m]? = some x ∧ w = ((i + m) * 16 + r) * 16 + o ∧ (0 ≤ r ∧ r < ro D x.1) ∧ (0 ≤ o ∧ o < 16) ∧ gvs D x r ∧ bdN D x r = -1 ∧ o ∈ rwO D x r
  | [], i, w => ⟨fun h => (by cases h), fun ⟨m, x, r, o, h, _⟩ => by simp at h⟩
  | y :: ms, i, w => by
    have hro := ro_in y.1 hI
    unfold aW
    rw [List.mem_append, mW_m hI, aW_m hI ms (i + 1) w]
    constructor
    · rintro (⟨q, o, h1, h2, h3, h4, h5⟩ | ⟨m, x, r, o, h1, h2, h3⟩)
      · exact ⟨0, y, q, o, rfl, by rw [h3]; show _ = ((i + ((0 : Nat) : Int)) * 16 + q) * 16 + o; omega, by omega, h4, h5⟩
      · exact ⟨m + 1, x, r, o, h1, by rw [h2]; show _ = ((i + ((m + 1 : Nat) : Int)) * 16 + r) * 16 + o; omega, h3⟩
    · rintro ⟨m, x, r, o, h1, h2, h3, h4, h5⟩
      cases m with
      | zero =>
        cases h1
        exact Or.inl ⟨r, o, by omega, by omega, by rw [h2]; show ((i + ((0 : Nat) : Int)) * 16 + r) * 16 + o = _; omega, h4, h5⟩
      | succ m => exact Or.inr ⟨m, x, r, o, h1, by rw [h2]; show ((i + ((m + 1 : Nat) : Int)) * 16 + r) * 16 + o = _; omega, h3, h4, h5⟩
