-- the reference's triples: what stands in its slots
def gD (P : List Int) (i : Nat) : Int := P.getD i 0
theorem gD_lt {P : List Int} {i : Nat} (h : i < P.length) : P[i]? = some (gD P i) := by
  unfold gD
  rw [List.getD_eq_getElem?_getD, List.getElem?_eq_getElem h]
  rfl
theorem gD_m {P : List Int} {i : Nat} (h : i < P.length) : gD P i ∈ P := List.mem_of_getElem? (gD_lt h)
theorem gD_e {P : List Int} {w : Int} (h : w ∈ P) : ∃ i, i < P.length ∧ gD P i = w := by
  obtain ⟨i, hi⟩ := List.mem_iff_getElem?.mp h
  obtain ⟨h1, h2⟩ := List.getElem?_eq_some_iff.mp hi
  refine ⟨i, h1, ?_⟩
  have := gD_lt h1
  rw [hi] at this
  exact (Option.some.inj this).symm
theorem pwD {R : Int → Int → Prop} {P : List Int} (h : P.Pairwise R) {i j : Nat} (hij : i < j) (hj : j < P.length) : R (gD P i) (gD P j) := by
  have h1 := List.pairwise_iff_getElem.mp h i j (by omega) hj hij
  have e1 := gD_lt (P := P) (i := i) (by omega)
  have e2 := gD_lt hj
  rw [List.getElem?_eq_getElem (by omega)] at e1
  rw [List.getElem?_eq_getElem hj] at e2
  rw [← Option.some.inj e1, ← Option.some.inj e2]
  exact h1
def cnt (c : Int → Int → Int) (l : List Int) (p : Int) : Int := ((l.filter (fun w => decide (c p w = 0))).length : Int)
theorem cnt_a {c : Int → Int → Int} {l : List Int} {p w : Int} : cnt c (l ++ [w]) p = cnt c l p + (if c p w = 0 then 1 else 0) := by
  unfold cnt
  rw [List.filter_append, List.length_append]
  by_cases h : c p w = 0
  · rw [if_pos h, List.filter_cons_of_pos (by simpa using h)]
    rfl
  · rw [if_neg h, List.filter_cons_of_neg (by simpa using h)]
    rfl
theorem cnt_0 {c : Int → Int → Int} {l : List Int} {p : Int} (h : ∀ w ∈ l, c p w ≠ 0) : cnt c l p = 0 := by
  unfold cnt
  rw [List.filter_eq_nil_iff.mpr (fun w hw => by simpa using h w hw)]
  rfl
theorem cnt_le {c : Int → Int → Int} {l : List Int} {p : Int} : 0 ≤ cnt c l p ∧ cnt c l p ≤ l.length := by
  unfold cnt
  have := List.length_filter_le (fun w => decide (c p w = 0)) l
  omega
/-- the least ways of each triple, in order -/
def Lst (c : Int → Int → Int) (l P : List Int) : Prop := P.Pairwise (fun x y => c x y < 0) ∧ (∀ w, w ∈ P ↔ w ∈ l ∧ ∀ w' ∈ l, c w w' = 0 → w ≤ w') ∧ (∀ w ∈ l, ∃ p ∈ P, c p w = 0)
def GS (c : Int → Int → Int) (TM : Int → Int → Int × List Int) (gr : Int → Int) (a : Nat → Int → Int) (P l : List Int) : Prop := Lst c l P ∧ (∀ i : Nat, i < P.length → (0 ≤ a 163 (i : Int) ∧ a 163 (i : Int) < (P.length : Int)) ∧ slR a (a 163 (i : Int)) (TM (gD P i)) (gr (gD P i)) ∧ a 160 (a 163 (i : Int)) = cnt c l (gD P i) ∧ a 161 (a 163 (i : Int)) = gD P i / 256 ∧ a 162 (a 163 (i : Int)) = gD P i / 16 % 16) ∧ (∀ i j : Nat, i < P.length → j < P.length → a 163 (i : Int) = a 163 (j : Int) → i = j)
theorem ordC_s {c : Int → Int → Int} (hc : ordC c) {x y : Int} (h : c x y = 0) : c y x = 0 := by
  have := hc.1 x y
  omega
theorem ordC_r {c : Int → Int → Int} (hc : ordC c) (x : Int) : c x x = 0 := by
  have := hc.1 x x
  omega
theorem ordC_e {c : Int → Int → Int} (hc : ordC c) {x y z : Int} (h1 : c x y = 0) (h2 : c y z = 0) : c x z = 0 := by
  have a1 := (hc.2 x y z (by omega) (by omega)).1
  have b1 := (hc.2 z y x (by have := hc.1 z y; omega) (by have := hc.1 y x; omega)).1
  have := hc.1 x z
  omega
theorem ordC_le {c : Int → Int → Int} (hc : ordC c) {x y z : Int} (h1 : c x y = 0) (h2 : c y z < 0) : c x z < 0 := by
  have a1 := hc.2 x y z (by omega) (by omega)
  rcases Int.lt_or_eq_of_le a1.1 with h | h
  · exact h
  · have := a1.2 h
    omega
theorem ordC_el {c : Int → Int → Int} (hc : ordC c) {x y z : Int} (h1 : c x y < 0) (h2 : c y z = 0) : c x z < 0 := by
  have a1 := hc.2 x y z (by omega) (by omega)
  rcases Int.lt_or_eq_of_le a1.1 with h | h
  · exact h
  · have := a1.2 h
    omega
theorem ordC_l {c : Int → Int → Int} (hc : ordC c) {x y z : Int} (h1 : c x y < 0) (h2 : c y z < 0) : c x z < 0 := by
  have a1 := hc.2 x y z (by omega) (by omega)
  rcases Int.lt_or_eq_of_le a1.1 with h | h
  · exact h
  · have := a1.2 h
    omega
theorem Lst_nil {c : Int → Int → Int} : Lst c [] [] := ⟨List.Pairwise.nil, fun w => ⟨fun h => (by cases h), fun h => (by cases h.1)⟩, fun w h => by cases h⟩
theorem Lst_old {c : Int → Int → Int} (hc : ordC c) {l P : List Int} {w p : Int} (h : Lst c l P) (hw : ∀ v ∈ l, v < w) (hp : p ∈ P) (he : c p w = 0) : Lst c (l ++ [w]) P := by
  obtain ⟨h1, h2, h3⟩ := h
  have hpl := ((h2 p).mp hp).1
  refine ⟨h1, fun v => ?_, fun v hv => ?_⟩
  · constructor
    · intro hv
      obtain ⟨a1, a2⟩ := (h2 v).mp hv
      refine ⟨List.mem_append_left _ a1, fun v' hv' e => ?_⟩
      rcases List.mem_append.mp hv' with g | g
      · exact a2 v' g e
      · rw [List.mem_singleton.mp g]
        exact Int.le_of_lt (hw v a1)
    · rintro ⟨a1, a2⟩
      rcases List.mem_append.mp a1 with g | g
      · exact (h2 v).mpr ⟨g, fun v' hv' e => a2 v' (List.mem_append_left _ hv') e⟩
      · rw [List.mem_singleton.mp g] at a2
        have := a2 p (List.mem_append_left _ hpl) (ordC_s hc he)
        have := hw p hpl
        omega
  · rcases List.mem_append.mp hv with g | g
    · exact h3 v g
    · rw [List.mem_singleton.mp g]
      exact ⟨p, hp, he⟩
def ins (P : List Int) (k : Nat) (w : Int) : List Int := P.take k ++ w :: P.drop k
theorem ins_m {P : List Int} {k : Nat} {w v : Int} : v ∈ ins P k w ↔ v ∈ P ∨ v = w := by
  unfold ins
  rw [List.mem_append, List.mem_cons]
  constructor
  · rintro (h | h | h)
    · exact Or.inl (List.mem_of_mem_take h)
    · exact Or.inr h
    · exact Or.inl (List.mem_of_mem_drop h)
  · rintro (h | h)
    · rw [← List.take_append_drop k P] at h
      rcases List.mem_append.mp h with g | g
      · exact Or.inl g
      · exact Or.inr (Or.inr g)
    · exact Or.inr (Or.inl h)
theorem ins_l {P : List Int} {k : Nat} {w : Int} (hk : k ≤ P.length) : (ins P k w).length = P.length + 1 := by
  unfold ins
  rw [List.length_append, List.length_cons, List.length_take, List.length_drop]
  omega
theorem ins_g {P : List Int} {k : Nat} {w : Int} (hk : k ≤ P.length) (i : Nat) : gD (ins P k w) i = if i < k then gD P i else if i = k then w else gD P (i - 1) := by
  unfold gD ins
  rw [List.getD_eq_getElem?_getD]
  by_cases h : i < k
  · rw [if_pos h, List.getElem?_append_left (by rw [List.length_take]; omega), List.getElem?_take_of_lt h, List.getD_eq_getElem?_getD]
  · rw [if_neg h, List.getElem?_append_right (by rw [List.length_take]; omega), List.length_take, Nat.min_eq_left hk]
    by_cases h2 : i = k
    · rw [if_pos h2, h2, Nat.sub_self]
      rfl
    · rw [if_neg h2, show i - k = (i - k - 1) + 1 by omega, List.getElem?_cons_succ, List.getElem?_drop, List.getD_eq_getElem?_getD, show k + (i - k - 1) = i - 1 by omega]
theorem Lst_new {c : Int → Int → Int} (hc : ordC c) {l P : List Int} {w : Int} {k : Nat} (h : Lst c l P) (hw : ∀ v ∈ l, v < w) (hk : k ≤ P.length) (h1 : ∀ i, i < k → c (gD P i) w < 0) (h2 : ∀ i, k ≤ i → i < P.length → 0 < c (gD P i) w) : Lst c (l ++ [w]) (ins P k w) ∧ ∀ v ∈ l, c v w ≠ 0 := by
  obtain ⟨p1, p2, p3⟩ := h
  have hne : ∀ v ∈ l, c v w ≠ 0 := by
    intro v hv e
    obtain ⟨p, hp, hpe⟩ := p3 v hv
    obtain ⟨i, hi, rfl⟩ := gD_e hp
    have e2 := ordC_e hc hpe e
    by_cases g : i < k
    · have := h1 i g
      omega
    · have := h2 i (by omega) hi
      omega
  refine ⟨⟨?_, fun v => ?_, fun v hv => ?_⟩, hne⟩
  · unfold ins
    rw [List.pairwise_append, List.pairwise_cons]
    have htk : ∀ x ∈ P.take k, c x w < 0 := by
      intro x hx
      obtain ⟨i, hi, rfl⟩ := gD_e hx
      rw [List.length_take] at hi
      have e : gD (P.take k) i = gD P i := by
        unfold gD
        rw [List.getD_eq_getElem?_getD, List.getD_eq_getElem?_getD, List.getElem?_take_of_lt (by omega)]
      rw [e]
      exact h1 i (by omega)
    have hdr : ∀ x ∈ P.drop k, c w x < 0 := by
      intro x hx
      obtain ⟨i, hi, rfl⟩ := gD_e hx
      rw [List.length_drop] at hi
      have e : gD (P.drop k) i = gD P (k + i) := by
        unfold gD
        rw [List.getD_eq_getElem?_getD, List.getD_eq_getElem?_getD, List.getElem?_drop]
      rw [e]
      have := h2 (k + i) (by omega) (by omega)
      have := hc.1 w (gD P (k + i))
      omega
    refine ⟨p1.sublist (List.take_sublist k P), ⟨hdr, p1.sublist (List.drop_sublist k P)⟩, ?_⟩
    intro x hx y hy
    rcases List.mem_cons.mp hy with g | g
    · rw [g]; exact htk x hx
    · exact ordC_l hc (htk x hx) (hdr y g)
  · rw [ins_m, p2 v]
    constructor
    · rintro (⟨a1, a2⟩ | rfl)
      · refine ⟨List.mem_append_left _ a1, fun v' hv' e => ?_⟩
        rcases List.mem_append.mp hv' with g | g
        · exact a2 v' g e
        · rw [List.mem_singleton.mp g]
          exact Int.le_of_lt (hw v a1)
      · refine ⟨List.mem_append_right _ (List.mem_singleton.mpr rfl), fun v' hv' e => ?_⟩
        rcases List.mem_append.mp hv' with g | g
        · exact absurd (ordC_s hc e) (hne v' g)
        · rw [List.mem_singleton.mp g]
          exact Int.le_refl _
    · rintro ⟨a1, a2⟩
      rcases List.mem_append.mp a1 with g | g
      · exact Or.inl ⟨g, fun v' hv' e => a2 v' (List.mem_append_left _ hv') e⟩
      · exact Or.inr (List.mem_singleton.mp g)
  · rcases List.mem_append.mp hv with g | g
    · obtain ⟨p, hp, e⟩ := p3 v g
      exact ⟨p, ins_m.mpr (Or.inl hp), e⟩
    · rw [List.mem_singleton.mp g]
      exact ⟨w, ins_m.mpr (Or.inr rfl), ordC_r hc w⟩
/-- such a list is one -/
theorem Lst_1 {c : Int → Int → Int} (hc : ordC c) {l : List Int} : ∀ {P P' : List Int}, P.Pairwise (fun x y => c x y < 0) → P'.Pairwise (fun x y => c x y < 0) → (∀ w, w ∈ P ↔ w ∈ P') → P = P'
  | [], [], _, _, _ => rfl
  | [], y :: s, _, _, h => by have := (h y).mpr (List.mem_cons_self ..); cases this
  | x :: r, [], _, _, h => by have := (h x).mp (List.mem_cons_self ..); cases this
  | x :: r, y :: s, h1, h2, h => by
    obtain ⟨a1, a2⟩ := List.pairwise_cons.mp h1
    obtain ⟨b1, b2⟩ := List.pairwise_cons.mp h2
    have e : x = y := by
      rcases List.mem_cons.mp ((h x).mp (List.mem_cons_self ..)) with g | g
      · exact g
      · rcases List.mem_cons.mp ((h y).mpr (List.mem_cons_self ..)) with g2 | g2
        · exact g2.symm
        · have := a1 y g2
          have := b1 x g
          have := hc.1 x y
          omega
    subst e
    congr 1
    refine Lst_1 hc (l := l) a2 b2 (fun w => ⟨fun hw => ?_, fun hw => ?_⟩)
    · rcases List.mem_cons.mp ((h w).mp (List.mem_cons_of_mem _ hw)) with g | g
      · have := a1 w hw
        rw [g] at this
        have := ordC_r hc x
        omega
      · exact g
    · rcases List.mem_cons.mp ((h w).mpr (List.mem_cons_of_mem _ hw)) with g | g
      · have := b1 w hw
        rw [g] at this
        have := ordC_r hc x
        omega
      · exact g
theorem Lst_u {c : Int → Int → Int} (hc : ordC c) {l P P' : List Int} (h : Lst c l P) (h' : Lst c l P') : P = P' := Lst_1 hc (l := l) h.1 h'.1 (fun w => (h.2.1 w).trans (h'.2.1 w).symm)
