-- the class's numbering is the list of triples
theorem NI_mono {c : Int → Int → Int} {s g0 g3 g4 : Int → Int} {n t : Int} (h : NI c s g0 n t g3 g4) : ∀ (k : Nat) (q : Int), 0 ≤ q → q + (k : Int) + 1 < t → g3 q < g3 (q + (k : Int) + 1)
  | 0, q, h0, h1 => by
    have := (h.2.1 q h0 (by omega)).2.2 (by omega)
    rw [show q + ((0 : Nat) : Int) + 1 = q + 1 by omega]
    exact this
  | k + 1, q, h0, h1 => by
    have a := NI_mono h k q h0 (by omega)
    have b := (h.2.1 (q + (k : Int) + 1) (by omega) (by omega)).2.2 (by omega)
    rw [show q + ((k + 1 : Nat) : Int) + 1 = q + (k : Int) + 1 + 1 by omega]
    omega
theorem NI_lt {c : Int → Int → Int} {s g0 g3 g4 : Int → Int} {n t : Int} (h : NI c s g0 n t g3 g4) {q p : Int} (h0 : 0 ≤ q) (h1 : q < p) (h2 : p < t) : g3 q < g3 p := by
  have := NI_mono h (p - q - 1).toNat q h0 (by omega)
  rw [show q + ((p - q - 1).toNat : Int) + 1 = p by omega] at this
  exact this
def nxt (g3 : Int → Int) (t n q : Int) : Int := if q + 1 < t then g3 (q + 1) else n
theorem NI_blk {c : Int → Int → Int} (hc : ordC c) {s g0 g3 g4 : Int → Int} {n t : Int} (h : NI c s g0 n t g3 g4) {q : Int} (h0 : 0 ≤ q) (h1 : q < t) : ∀ (j : Nat), g3 q + (j : Int) < nxt g3 t n q → c (s (g3 q)) (s (g3 q + (j : Int))) = 0
  | 0, _ => by
    rw [show g3 q + ((0 : Nat) : Int) = g3 q by omega]
    exact ordC_r hc _
  | j + 1, hj => by
    have ih := NI_blk hc h h0 h1 j (by omega)
    have hq := h.2.1 q h0 h1
    have hlt : g3 q + ((j + 1 : Nat) : Int) < n := by
      unfold nxt at hj
      split at hj
      · next z =>
        have := (h.2.1 (q + 1) (by omega) z).2.1
        omega
      · exact hj
    have e := (h.2.2.2.2.1 (g3 q + ((j + 1 : Nat) : Int)) (by omega) hlt).mpr (by
      intro p p0 p1 e
      rcases Int.lt_trichotomy p q with z | z | z
      · have := NI_lt h p0 z h1
        omega
      · subst z
        omega
      · unfold nxt at hj
        rw [if_pos (by omega)] at hj
        by_cases z2 : p = q + 1
        · subst z2
          omega
        · have := NI_lt h (q := q + 1) (p := p) (by omega) (by omega) p1
          omega)
    rw [show g3 q + ((j + 1 : Nat) : Int) - 1 = g3 q + (j : Int) by omega] at e
    exact ordC_e hc ih e
theorem NI_in {c : Int → Int → Int} (hc : ordC c) {s g0 g3 g4 : Int → Int} {n t : Int} (h : NI c s g0 n t g3 g4) {q k : Int} (h0 : 0 ≤ q) (h1 : q < t) (h2 : g3 q ≤ k) (h3 : k < nxt g3 t n q) : c (s (g3 q)) (s k) = 0 := by
  have := NI_blk hc h h0 h1 (k - g3 q).toNat (by omega)
  rw [show g3 q + ((k - g3 q).toNat : Int) = k by omega] at this
  exact this
theorem NI_sep {c : Int → Int → Int} (hc : ordC c) {s g0 g3 g4 : Int → Int} {n t : Int} (h : NI c s g0 n t g3 g4) (hp : ∀ k l, 0 ≤ k → k < l → l < n → ltW c (s k) (s l)) {q p : Int} (h0 : 0 ≤ q) (h1 : q < p) (h2 : p < t) : c (s (g3 q)) (s (g3 p)) < 0 := by
  have hqp := NI_lt h h0 h1 h2
  have hq := h.2.1 q h0 (by omega)
  have hP := h.2.1 p (by omega) h2
  have hs : ¬ c (s (g3 p - 1)) (s (g3 p)) = 0 := fun e => (h.2.2.2.2.1 (g3 p) (by omega) hP.2.1).mp e p (by omega) h2 rfl
  have hl := hp (g3 p - 1) (g3 p) (by omega) (by omega) hP.2.1
  have hl2 : c (s (g3 p - 1)) (s (g3 p)) < 0 := by
    rcases hl with z | z
    · exact z
    · exact absurd z.1 hs
  by_cases e : g3 q = g3 p - 1
  · rw [e]
    exact hl2
  · rcases hp (g3 q) (g3 p - 1) hq.1 (by omega) (by omega) with z | z
    · exact ordC_l hc z hl2
    · exact ordC_le hc z.1 hl2
theorem NI_q {c : Int → Int → Int} (hc : ordC c) {s g0 g3 g4 : Int → Int} {n t : Int} (h : NI c s g0 n t g3 g4) {k : Int} (k0 : 0 ≤ k) (k1 : k < n) : ∃ q, 0 ≤ q ∧ q < t ∧ g3 q ≤ k ∧ k < nxt g3 t n q ∧ g4 (s k) = q ∧ c (s (g3 q)) (s k) = 0 := by
  obtain ⟨q, q0, q1, q2, q3, q4⟩ := h.2.2.2.1 k k0 k1
  have q5 : k < nxt g3 t n q := by
    unfold nxt
    split
    · next z => exact q3 z
    · exact k1
  exact ⟨q, q0, q1, q2, q5, q4, NI_in hc h q0 q1 q2 q5⟩
def PL (s g3 : Int → Int) (t : Nat) : List Int := (List.range t).map (fun q : Nat => s (g3 (q : Int)))
theorem PL_len {s g3 : Int → Int} {t : Nat} : (PL s g3 t).length = t := by
  unfold PL
  rw [List.length_map, List.length_range]
theorem PL_get {s g3 : Int → Int} {t i : Nat} (h : i < t) : gD (PL s g3 t) i = s (g3 (i : Int)) := by
  unfold gD PL
  rw [List.getD_eq_getElem?_getD, List.getElem?_map, List.getElem?_range h]
  rfl
theorem PL_mem {s g3 : Int → Int} {t : Nat} {w : Int} : w ∈ PL s g3 t ↔ ∃ q : Nat, q < t ∧ s (g3 (q : Int)) = w := by
  unfold PL
  rw [List.mem_map]
  constructor
  · rintro ⟨q, h1, h2⟩
    exact ⟨q, List.mem_range.mp h1, h2⟩
  · rintro ⟨q, h1, h2⟩
    exact ⟨q, List.mem_range.mpr h1, h2⟩
theorem sgm_m {s : Int → Int} {n : Nat} {w : Int} : w ∈ sgm s 0 n ↔ ∃ k, 0 ≤ k ∧ k < (n : Int) ∧ s k = w := by
  constructor
  · intro h
    obtain ⟨i, i0, i1, i2⟩ := sgm_mem h
    exact ⟨i, i0, by omega, i2.symm⟩
  · rintro ⟨k, k0, k1, k2⟩
    have := sgm_get (g := s) n 0 k.toNat (by omega)
    rw [show (0 : Int) + (k.toNat : Int) = k by omega, k2] at this
    exact List.mem_of_getElem? this
theorem NI_lst {c : Int → Int → Int} (hc : ordC c) {s g0 g3 g4 : Int → Int} {n : Nat} {t : Int} (h : NI c s g0 (n : Int) t g3 g4) (hp : ∀ k l, 0 ≤ k → k < l → l < (n : Int) → ltW c (s k) (s l)) : Lst c (sgm s 0 n) (PL s g3 t.toNat) := by
  have ht := h.1
  refine ⟨?_, fun w => ?_, fun w hw => ?_⟩
  · unfold PL
    rw [List.pairwise_map]
    refine List.Pairwise.imp_of_mem ?_ List.pairwise_lt_range
    intro a b ha hb hab
    have := List.mem_range.mp ha
    have := List.mem_range.mp hb
    exact NI_sep hc h hp (by omega) (by omega) (by omega)
  · rw [PL_mem, sgm_m]
    constructor
    · rintro ⟨q, q0, q1⟩
      have hq := h.2.1 (q : Int) (by omega) (by omega)
      refine ⟨⟨_, hq.1, hq.2.1, q1⟩, fun w' hw' e => ?_⟩
      obtain ⟨k, k0, k1, k2⟩ := sgm_m.mp hw'
      obtain ⟨p, p0, p1, p2, p3, p4, p5⟩ := NI_q hc h k0 k1
      rw [← q1, ← k2] at e ⊢
      have e2 := ordC_e hc e (ordC_s hc p5)
      rcases Int.lt_trichotomy p (q : Int) with z | z | z
      · have := NI_sep hc h hp p0 z (by omega)
        have := ordC_s hc e2
        omega
      · subst z
        by_cases e3 : g3 (q : Int) = k
        · rw [e3]
          exact Int.le_refl _
        · rcases hp (g3 (q : Int)) k hq.1 (by omega) k1 with z | z
          · omega
          · exact Int.le_of_lt z.2
      · have := NI_sep hc h hp (q := (q : Int)) (p := p) (by omega) z p1
        omega
    · rintro ⟨⟨k, k0, k1, k2⟩, hm⟩
      obtain ⟨p, p0, p1, p2, p3, p4, p5⟩ := NI_q hc h k0 k1
      have hq := h.2.1 p p0 p1
      refine ⟨p.toNat, by omega, ?_⟩
      rw [show ((p.toNat : Nat) : Int) = p by omega, ← k2]
      by_cases e3 : g3 p = k
      · rw [e3]
      · have m1 := hm (s (g3 p)) (sgm_m.mpr ⟨_, hq.1, hq.2.1, rfl⟩) (by rw [← k2]; exact ordC_s hc p5)
        rcases hp (g3 p) k hq.1 (by omega) k1 with z | z
        · omega
        · omega
  · obtain ⟨k, k0, k1, k2⟩ := sgm_m.mp hw
    obtain ⟨p, p0, p1, p2, p3, p4, p5⟩ := NI_q hc h k0 k1
    refine ⟨s (g3 p), PL_mem.mpr ⟨p.toNat, by omega, by rw [show ((p.toNat : Nat) : Int) = p by omega]⟩, ?_⟩
    rw [← k2]
    exact p5
theorem cnt_ap {c : Int → Int → Int} {a b : List Int} {p : Int} : cnt c (a ++ b) p = cnt c a p + cnt c b p := by
  unfold cnt
  rw [List.filter_append, List.length_append]
  omega
theorem cnt_1 {c : Int → Int → Int} {l : List Int} {p : Int} (h : ∀ w ∈ l, c p w = 0) : cnt c l p = (l.length : Int) := by
  unfold cnt
  rw [List.filter_eq_self.mpr (fun w hw => decide_eq_true (h w hw))]
theorem cnt_p {c : Int → Int → Int} {a b : List Int} {p : Int} (h : a.Perm b) : cnt c a p = cnt c b p := by
  unfold cnt
  rw [(h.filter _).length_eq]
theorem cnt_cg {c c' : Int → Int → Int} {l : List Int} {p : Int} (h : ∀ w ∈ l, c p w = c' p w) : cnt c l p = cnt c' l p := by
  unfold cnt
  rw [List.filter_congr (fun w hw => by rw [h w hw])]
theorem NI_cnt {c : Int → Int → Int} (hc : ordC c) {s g0 g3 g4 : Int → Int} {n : Nat} {t : Int} (h : NI c s g0 (n : Int) t g3 g4) (hp : ∀ k l, 0 ≤ k → k < l → l < (n : Int) → ltW c (s k) (s l)) {q : Int} (q0 : 0 ≤ q) (q1 : q < t) : cnt c (sgm s 0 n) (s (g3 q)) = nxt g3 t (n : Int) q - g3 q ∧ g3 q < nxt g3 t (n : Int) q ∧ nxt g3 t (n : Int) q ≤ (n : Int) := by
  have hq := h.2.1 q q0 q1
  have hx : g3 q < nxt g3 t (n : Int) q ∧ nxt g3 t (n : Int) q ≤ (n : Int) := by
    unfold nxt
    split
    · next z =>
      have := (h.2.1 (q + 1) (by omega) z).2.1
      have := hq.2.2 z
      omega
    · omega
  refine ⟨?_, hx⟩
  have hno : ∀ k, 0 ≤ k → k < (n : Int) → (k < g3 q ∨ nxt g3 t (n : Int) q ≤ k) → c (s (g3 q)) (s k) ≠ 0 := by
    intro k k0 k1 k2 e
    obtain ⟨p, p0, p1, p2, p3, p4, p5⟩ := NI_q hc h k0 k1
    have e2 := ordC_e hc e (ordC_s hc p5)
    rcases Int.lt_trichotomy p q with z | z | z
    · have := NI_sep hc h hp p0 z q1
      have := ordC_s hc e2
      omega
    · subst z
      omega
    · have := NI_sep hc h hp q0 z p1
      omega
  have hyes : ∀ k, g3 q ≤ k → k < nxt g3 t (n : Int) q → c (s (g3 q)) (s k) = 0 := fun k k0 k1 => NI_in hc h q0 q1 k0 k1
  generalize nxt g3 t (n : Int) q = hi at hx hno hyes
  have e1 : n = (g3 q).toNat + ((hi - g3 q).toNat + ((n : Int) - hi).toNat) := by omega
  have es : sgm s 0 n = sgm s 0 (g3 q).toNat ++ (sgm s (0 + ((g3 q).toNat : Int)) (hi - g3 q).toNat ++ sgm s (0 + ((g3 q).toNat : Int) + ((hi - g3 q).toNat : Int)) ((n : Int) - hi).toNat) := by
    rw [← sgm_app, ← sgm_app, ← e1]
  have c1 : cnt c (sgm s 0 (g3 q).toNat) (s (g3 q)) = 0 := cnt_0 (fun w hw => by
    obtain ⟨i, i0, i1, i2⟩ := sgm_mem hw
    rw [i2]
    exact hno i i0 (by omega) (Or.inl (by omega)))
  have c2 : cnt c (sgm s (0 + ((g3 q).toNat : Int)) (hi - g3 q).toNat) (s (g3 q)) = ((sgm s (0 + ((g3 q).toNat : Int)) (hi - g3 q).toNat).length : Int) := cnt_1 (fun w hw => by
    obtain ⟨i, i0, i1, i2⟩ := sgm_mem hw
    rw [i2]
    exact hyes i (by omega) (by omega))
  have c3 : cnt c (sgm s (0 + ((g3 q).toNat : Int) + ((hi - g3 q).toNat : Int)) ((n : Int) - hi).toNat) (s (g3 q)) = 0 := cnt_0 (fun w hw => by
    obtain ⟨i, i0, i1, i2⟩ := sgm_mem hw
    rw [i2]
    exact hno i (by omega) (by omega) (Or.inr (by omega)))
  rw [es, cnt_ap, cnt_ap, c1, c2, c3, sgm_len]
  omega
theorem Lst_cg {c c' : Int → Int → Int} {l P : List Int} (h : ∀ x ∈ l, ∀ y ∈ l, c x y = c' x y) (hL : Lst c l P) : Lst c' l P := by
  obtain ⟨h1, h2, h3⟩ := hL
  have hm : ∀ w ∈ P, w ∈ l := fun w hw => ((h2 w).mp hw).1
  refine ⟨?_, fun w => ?_, fun w hw => ?_⟩
  · refine List.Pairwise.imp_of_mem ?_ h1
    intro a b ha hb hab
    rw [← h a (hm a ha) b (hm b hb)]
    exact hab
  · rw [h2 w]
    constructor
    · rintro ⟨a, b⟩
      refine ⟨a, fun w' hw' e => b w' hw' ?_⟩
      rw [h w a w' hw']
      exact e
    · rintro ⟨a, b⟩
      refine ⟨a, fun w' hw' e => b w' hw' ?_⟩
      rw [← h w a w' hw']
      exact e
  · obtain ⟨p, hp, e⟩ := h3 w hw
    refine ⟨p, hp, ?_⟩
    rw [← h p (hm p hp) w hw]
    exact e
theorem Lst_p {c : Int → Int → Int} {l l' P : List Int} (h : l.Perm l') (hL : Lst c l P) : Lst c l' P := by
  obtain ⟨h1, h2, h3⟩ := hL
  refine ⟨h1, fun w => ?_, fun w hw => h3 w (h.mem_iff.mpr hw)⟩
  rw [h2 w, h.mem_iff]
  constructor
  · rintro ⟨a, b⟩
    exact ⟨a, fun w' hw' => b w' (h.mem_iff.mpr hw')⟩
  · rintro ⟨a, b⟩
    exact ⟨a, fun w' hw' => b w' (h.mem_iff.mp hw')⟩
def GVw (D : DT) (ms : List MT) (f : Nat → Nat → Int) (a j : Nat → Int → Int) : Prop := f 30 25 = ((aB D ms 0).length : Int) ∧ (∀ (i : Nat) (p : Int × Int), (aB D ms 0)[i]? = some p → a 34 (i : Int) = p.1 ∧ a 35 (i : Int) = p.2) ∧ (∀ w ∈ aW D ms 0, ∀ t k, 0 ≤ t → t < 3 → 0 ≤ k → k < 3 → WO j w t k = wd (TMf D ms w t).1 (TMf D ms w t).2 k) ∧ (∀ w ∈ aW D ms 0, wok a j w ∧ a 29 (w / 256) = gF ms w) ∧ ∃ P : List Int, Lst (cD D ms) (aW D ms 0) P ∧ f 27 25 = (P.length : Int) ∧ (∀ i : Nat, i < P.length → (0 ≤ a 32 (i : Int) ∧ a 32 (i : Int) < 1536) ∧ a 30 (a 32 (i : Int)) = gD P i ∧ a 32 ((i : Int) + 1) - a 32 (i : Int) = cnt (cD D ms) (aW D ms 0) (gD P i)) ∧ (ms ≠ [] → ∀ w, 0 ≤ w → w < 1536 → (¬ w ∈ aW D ms 0 → a 33 w = -1) ∧ (w ∈ aW D ms 0 → ∃ i : Nat, i < P.length ∧ a 33 w = (i : Int) ∧ cD D ms (gD P i) w = 0))
theorem aW_g {D : DT} (hI : DI D) {ms : List MT} {w : Int} (h : w ∈ aW D ms 0) : ∃ (m : Nat) (x : MT), ms[m]? = some x ∧ w / 256 = (m : Int) ∧ gF ms w = grf x := by
  obtain ⟨m, x, r, o, h1, h2, h3, h4, -⟩ := (aW_m hI ms 0 w).mp h
  have h16 := ro_in x.1 hI
  have e : w / 256 = (m : Int) := by omega
  refine ⟨m, x, h1, e, ?_⟩
  unfold gF
  rw [e, List.getD_eq_getElem?_getD, show ((m : Int)).toNat = m by omega, h1]
  rfl
theorem GVw_of {D : DT} (hI : DI D) {ms : List MT} (h6 : ms.length ≤ 6) {f : Nat → Nat → Int} {a j : Nat → Int → Int} (h : GVc D ms f a j) : GVw D ms f a j := by
  obtain ⟨h1, h2, h3, h4, h5, S, g0, g3, t, s1, s2, s3, s4, s5, s6, s7⟩ := h
  have hg : ∀ w ∈ aW D ms 0, a 29 (w / 256) = gF ms w := by
    intro w hw
    obtain ⟨m, x, x1, x2, x3⟩ := aW_g hI hw
    rw [x2, x3]
    exact h4 m x x1
  have hky : ∀ w ∈ aW D ms 0, kyW a j w = kyT (TMf D ms w) (gF ms w) := by
    intro w hw
    have q := h3 w hw
    unfold kyW kyT wl3
    rw [hg w hw, q 0 0 (by omega) (by omega) (by omega) (by omega), q 0 1 (by omega) (by omega) (by omega) (by omega), q 0 2 (by omega) (by omega) (by omega) (by omega), q 1 0 (by omega) (by omega) (by omega) (by omega), q 1 1 (by omega) (by omega) (by omega) (by omega), q 1 2 (by omega) (by omega) (by omega) (by omega), q 2 0 (by omega) (by omega) (by omega) (by omega), q 2 1 (by omega) (by omega) (by omega) (by omega), q 2 2 (by omega) (by omega) (by omega) (by omega)]
    rfl
  have hcd : ∀ x ∈ aW D ms 0, ∀ y ∈ aW D ms 0, cmW a j x y = cD D ms x y := by
    intro x hx y hy
    unfold cmW cD
    rw [hky x hx, hky y hy]
  have hc := cmW_ord a j
  have hlen := (aW_in hI ms 0).1
  have hSl := s2.length_eq
  have ht := s7.1
  have hpw : ∀ k l, 0 ≤ k → k < l → l < (S.length : Int) → ltW (cmW a j) (a 30 k) (a 30 l) := by
    intro k l k0 k1 k2
    have e := pwD s1 (i := k.toNat) (j := l.toNat) (by omega) (by omega)
    have e1 : ∀ i : Int, 0 ≤ i → i < (S.length : Int) → gD S i.toNat = a 30 i := by
      intro i i0 i1
      have e2 := sgm_get (g := a 30) S.length 0 i.toNat (by omega)
      rw [s3, gD_lt (by omega), show (0 : Int) + (i.toNat : Int) = i by omega] at e2
      exact Option.some.inj e2
    rw [e1 k k0 (by omega), e1 l (by omega) k2] at e
    exact e
  have hL0 := NI_lst hc s7 hpw
  rw [s3] at hL0
  have hL := Lst_cg hcd (Lst_p s2 hL0)
  have hPm : ∀ p ∈ PL (a 30) g3 t.toNat, p ∈ aW D ms 0 := fun p hp => ((hL.2.1 p).mp hp).1
  refine ⟨h1, h2, h3, fun w hw => ⟨h5 w hw, hg w hw⟩, PL (a 30) g3 t.toNat, hL, ?_, ?_, ?_⟩
  · rw [PL_len, s4]
    omega
  · intro i hi
    rw [PL_len] at hi
    have hq := s7.2.1 (i : Int) (by omega) (by omega)
    obtain ⟨c1, c2, c3⟩ := NI_cnt hc s7 hpw (q := (i : Int)) (by omega) (by omega)
    have ei : a 32 (i : Int) = g3 (i : Int) := by
      rw [s5, up_n _ _ (by omega)]
    have en : a 32 ((i : Int) + 1) = nxt g3 t (S.length : Int) (i : Int) := by
      unfold nxt
      split
      · rw [s5, up_n _ _ (by omega)]
      · have : (i : Int) + 1 = t := by omega
        rw [s5, this, up_s]
    rw [ei, en, PL_get hi]
    refine ⟨⟨hq.1, by omega⟩, rfl, ?_⟩
    rw [← c1, s3, cnt_p s2]
    have hm : a 30 (g3 (i : Int)) ∈ aW D ms 0 := hPm _ (PL_mem.mpr ⟨i, hi, rfl⟩)
    exact cnt_cg (fun w hw => hcd _ hm w hw)
  · intro _ w w0 w1
    refine ⟨fun hn => ?_, fun hy => ?_⟩
    · rw [s7.2.2.2.2.2 w (fun k k0 k1 e => hn ?_)]
      · exact s6 w w0 w1
      · refine s2.mem_iff.mp ?_
        rw [← s3]
        exact sgm_m.mpr ⟨k, k0, k1, e⟩
    · have hS := s2.mem_iff.mpr hy
      rw [← s3] at hS
      obtain ⟨k, k0, k1, k2⟩ := sgm_m.mp hS
      obtain ⟨q, q0, q1, q2, q3, q4, q5⟩ := NI_q hc s7 k0 k1
      have hi : q.toNat < t.toNat := by omega
      refine ⟨q.toNat, by rw [PL_len]; exact hi, by rw [← k2, q4]; omega, ?_⟩
      rw [PL_get hi, show ((q.toNat : Nat) : Int) = q by omega]
      have hm : a 30 (g3 q) ∈ aW D ms 0 := hPm _ (PL_mem.mpr ⟨q.toNat, hi, by rw [show ((q.toNat : Nat) : Int) = q by omega]⟩)
      rw [← hcd _ hm _ hy, ← k2]
      exact q5
