-- the reference: find, note
def KOw (c : Int → Int → Int) (TM : Int → Int → Int × List Int) (gr : Int → Int) (p : Int) : Prop := (∀ t, 0 ≤ t → t < 3 → tOK (TM p t)) ∧ (0 ≤ gr p ∧ gr p < 10)
theorem slR_A {a : Nat → Int → Int} {s : Int} {T : Int → Int × List Int} {g : Int} (h : slR a s T g) : ∀ n, 0 ≤ n → n < 3 → slA (a 158) (a 157) (a 156) s n (T n) := by
  intro n h0 h3
  obtain ⟨a1, a2, a3, -⟩ := h
  have : n = 0 ∨ n = 1 ∨ n = 2 := by omega
  rcases this with rfl | rfl | rfl
  · exact a1
  · exact a2
  · exact a3
def fnQ (c : Int → Int → Int) (P : List Int) (w : Int) (v : Int) : Prop := (∃ i : Nat, i < P.length ∧ v = (i : Int) ∧ c (gD P i) w = 0) ∨ (∃ k : Nat, k ≤ P.length ∧ v = -1 - (k : Int) ∧ (∀ i, i < k → c (gD P i) w < 0) ∧ (∀ i, k ≤ i → i < P.length → 0 < c (gD P i) w))
set_option maxHeartbeats 400000 in
set_option maxRecDepth 100000 in
theorem c_find (d L B1 B2 : Nat) (fi : Nat → Nat → Int) (ai aj : Nat → Int → Int) (c : Int → Int → Int) (TM : Int → Int → Int × List Int) (gr : Int → Int) (P : List Int) (w : Int) (hc : ordC c) (hG : fi 94 126 = (P.length : Int)) (hl : P.length ≤ 1536) (hP : P.Pairwise (fun x y => c x y < 0)) (hS : ∀ i : Nat, i < P.length → (0 ≤ ai 163 (i : Int) ∧ ai 163 (i : Int) < (P.length : Int)) ∧ slR ai (ai 163 (i : Int)) (TM (gD P i)) (gr (gD P i))) (hw : slR ai (P.length : Int) (TM w) (gr w)) (hk : ∀ p ∈ P, KOw c TM gr p) (hkw : KOw c TM gr w) (hcm : ∀ p ∈ P, cmT (TM p) (TM w) (gr p) (gr w) = c p w) : am_M am_prog (d + 2) m_Mo_find [.inr (.inr 126)] (HH L B1 B2 fi ai aj) (fun v h' => ∃ y, v = some (.inl y) ∧ fnQ c P w y ∧ h' = HH L B1 B2 fi ai aj) := by
  have ok126 : am_ok (HH L B1 B2 fi ai aj) 126 10 := okI rfl rfl rfl
  have eG : am_fi (HH L B1 B2 fi ai aj) 94 126 = (P.length : Int) := hG
  have hloop : ∀ (n lo hi : Nat) (l3 l4 : Option am_V), hi - lo ≤ n → lo ≤ hi → hi ≤ P.length → (∀ i, i < lo → c (gD P i) w < 0) → (∀ i, hi ≤ i → i < P.length → 0 < c (gD P i) w) → am_W (am_ev am_prog (d + 1)) T_Mo_find (fun v h' => ∃ y, v = some (.inl y) ∧ fnQ c P w y ∧ h' = HH L B1 B2 fi ai aj) (7, [some (.inr (.inr 126)), some (.inl (lo : Int)), some (.inl (hi : Int)), l3, l4], [], HH L B1 B2 fi ai aj) := by
    intro n
    induction n with
    | zero =>
      intro lo hi l3 l4 hn h1 h2 h3 h4
      refine am_W.br rfl rfl ⟨trivial, ⟨by omega, by omega⟩, ⟨by omega, by omega⟩⟩ (fun z => ?_) (fun z => absurd (by omega) z)
      exact am_W.rt rfl rfl ⟨trivial, trivial⟩ ⟨_, rfl, Or.inr ⟨lo, by omega, rfl, h3, fun i hi1 hi2 => h4 i (by omega) hi2⟩, rfl⟩
    | succ n ih =>
      intro lo hi l3 l4 hn h1 h2 h3 h4
      by_cases hlt : lo < hi
      · refine am_W.br rfl rfl ⟨trivial, ⟨by omega, by omega⟩, ⟨by omega, by omega⟩⟩ (fun z => absurd z (by omega)) (fun z => ?_)
        have em : ((lo : Int) + (hi : Int)).tdiv 2 = (((lo + hi) / 2 : Nat) : Int) := by
          rw [Int.tdiv_eq_ediv_of_nonneg (by omega)]
          omega
        generalize hmid : (lo + hi) / 2 = mid at em
        have hm1 : lo ≤ mid ∧ mid < hi := by omega
        obtain ⟨s1, s2⟩ := hS mid (by omega)
        have oO : am_okr (HH L B1 B2 fi ai aj) (am_fr (HH L B1 B2 fi ai aj) 102 126) 1000 (((lo : Int) + (hi : Int)).tdiv 2) := by
          rw [em]
          exact okrI rfl rfl (t := 1000) (N := 1600) rfl rfl (by omega) (by omega)
        have eO : am_ai (HH L B1 B2 fi ai aj) (am_fr (HH L B1 B2 fi ai aj) 102 126) (((lo : Int) + (hi : Int)).tdiv 2) = ai 163 (mid : Int) := by
          rw [em]
          rfl
        have hkp := hk _ (gD_m (P := P) (i := mid) (by omega))
        have hcc := hcm _ (gD_m (P := P) (i := mid) (by omega))
        have cc := c_compare d L B1 B2 fi ai aj (ai 163 (mid : Int)) (P.length : Int) (gr (gD P mid)) (gr w) (TM (gD P mid)) (TM w) ⟨by omega, by omega⟩ ⟨by omega, by omega⟩ (fun t h0 h3 => ⟨slR_A s2 t h0 h3, slR_A hw t h0 h3, hkp.1 t h0 h3, hkw.1 t h0 h3⟩) s2.2.2.2 hw.2.2.2 hkp.2 hkw.2
        rw [hcc] at cc
        refine am_W.cv 10 m_Mo_compare rfl rfl rfl rfl (by simp only [HS, FRS]; exact (by and_intros <;> first | trivial | exact okI rfl rfl rfl | (refine okrI rfl rfl rfl rfl ?_ ?_ <;> (first | omega | (simp only [HS, FRS, CCS, am_R] at *; omega))) | (refine okaI rfl rfl rfl rfl ?_ ?_ <;> (first | omega | (simp only [HS, FRS, CCS, am_R] at *; omega))) | (first | omega | (simp only [HS, FRS, CCS, am_R] at *; omega)) | (simp only [HS, FRS, CCS]))) (by rw [eO]; rw [show am_gf (HH L B1 B2 fi ai aj) 94 126 0 = .inl (P.length : Int) from congrArg Sum.inl hG]; exact cc) ?_
        rintro v1 h1' ⟨y, rfl, hsg, hyR, rfl⟩
        rw [em]
        refine am_W.br rfl rfl ⟨trivial, ⟨by omega, by omega⟩⟩ (fun z1 => ?_) (fun z1 => ?_)
        · refine am_W.br rfl rfl ⟨trivial, ⟨by omega, by omega⟩⟩ (fun z2 => ?_) (fun z2 => ?_)
          · refine am_W.gp 7 rfl trivial ?_
            refine ih lo mid _ _ (by omega) (by omega) (by omega) h3 (fun i i1 i2 => ?_)
            have hcm0 : 0 < c (gD P mid) w := by
              unfold SG at hsg
              omega
            rcases Nat.lt_or_eq_of_le i1 with g | g
            · have h5 := pwD hP g i2
              have h6 := hc.1 (gD P mid) w
              have h7 := hc.1 (gD P i) w
              have := ordC_l hc (x := w) (y := gD P mid) (z := gD P i) (by omega) h5
              omega
            · rw [← g]
              exact hcm0
          · refine am_W.gp 7 rfl trivial ?_
            have hcm0 : c (gD P mid) w < 0 := by
              unfold SG at hsg
              omega
            refine ih (mid + 1) hi _ _ (by omega) (by omega) (by omega) (fun i i1 => ?_) h4
            rcases Nat.lt_or_eq_of_le (Nat.le_of_lt_succ i1) with g | g
            · exact ordC_l hc (pwD hP g (by omega)) hcm0
            · rw [g]
              exact hcm0
        · have hcm0 : c (gD P mid) w = 0 := by
            unfold SG at hsg
            omega
          exact am_W.rt rfl rfl ⟨trivial, trivial⟩ ⟨_, rfl, Or.inl ⟨mid, by omega, rfl, hcm0⟩, rfl⟩
      · refine am_W.br rfl rfl ⟨trivial, ⟨by omega, by omega⟩, ⟨by omega, by omega⟩⟩ (fun z => ?_) (fun z => absurd (by omega) z)
        exact am_W.rt rfl rfl ⟨trivial, trivial⟩ ⟨_, rfl, Or.inr ⟨lo, by omega, rfl, h3, fun i hi1 hi2 => h4 i (by omega) hi2⟩, rfl⟩
  refine am_W.of rfl rfl ?_
  refine am_W.gp 7 rfl ⟨trivial, ok126⟩ ?_
  rw [eG]
  exact hloop P.length 0 P.length none none (by omega) (by omega) (Nat.le_refl _) (fun i h => absurd h (by omega)) (fun i h h' => absurd h (by omega))
def shf (o : Int → Int) (k n : Int) : Int → Int := fun i => if k < i ∧ i ≤ n then o (i - 1) else o i
theorem shf_0 (o : Int → Int) (n : Int) : shf o n n = o := by
  funext i
  unfold shf
  rw [if_neg (by omega)]
theorem shf_s (o : Int → Int) {k n : Int} (h : k ≤ n) : up (shf o k n) k (shf o k n (k - 1)) = shf o (k - 1) n := by
  funext i
  unfold up shf
  by_cases h1 : i = k
  · rw [if_pos h1, if_neg (by omega), if_pos (by omega), h1]
  · rw [if_neg h1]
    by_cases h2 : k < i ∧ i ≤ n
    · rw [if_pos h2, if_pos (by omega)]
    · rw [if_neg h2, if_neg (by omega)]
theorem slR_fr {a a' : Nat → Int → Int} {s : Int} {T : Int → Int × List Int} {g : Int} (h : slR a s T g) (h6 : a' 156 = a 156) (h7 : a' 157 = a 157) (h8 : a' 158 = a 158) (h9 : a' 159 = a 159) : slR a' s T g := by
  unfold slR slT at *
  rw [h6, h7, h8, h9]
  exact h
theorem GS_old {c : Int → Int → Int} {TM : Int → Int → Int × List Int} {gr : Int → Int} {a : Nat → Int → Int} {P l : List Int} {w : Int} {i : Nat} (hc : ordC c) (h : GS c TM gr a P l) (hw : ∀ v ∈ l, v < w) (hi : i < P.length) (he : c (gD P i) w = 0) : GS c TM gr (am_sa a 160 (up (a 160) (a 163 (i : Int)) (a 160 (a 163 (i : Int)) + 1))) P (l ++ [w]) := by
  obtain ⟨h1, h2, h3⟩ := h
  refine ⟨Lst_old hc h1 hw (gD_m hi) he, fun j hj => ?_, fun j j' => h3 j j'⟩
  obtain ⟨q1, q2, q3, q4, q5⟩ := h2 j hj
  refine ⟨q1, slR_fr q2 rfl rfl rfl rfl, ?_, q4, q5⟩
  show up (a 160) (a 163 (i : Int)) (a 160 (a 163 (i : Int)) + 1) (a 163 (j : Int)) = _
  rw [cnt_a]
  by_cases hij : j = i
  · rw [hij, up_s, if_pos he, ← hij, q3]
  · rw [up_n _ _ (fun z => hij (h3 j i hj hi z)), q3, if_neg, Int.add_zero]
    intro z
    have e1 := ordC_e hc z (ordC_s hc he)
    rcases Nat.lt_or_gt_of_ne hij with g | g
    · have := pwD h1.1 g hi
      omega
    · have := pwD h1.1 g hj
      have := hc.1 (gD P j) (gD P i)
      omega
theorem GS_new {c : Int → Int → Int} {TM : Int → Int → Int × List Int} {gr : Int → Int} {a : Nat → Int → Int} {P l : List Int} {w : Int} {k : Nat} (hc : ordC c) (h : GS c TM gr a P l) (hw : ∀ v ∈ l, v < w) (hk : k ≤ P.length) (hs : slR a (P.length : Int) (TM w) (gr w)) (h1 : ∀ i, i < k → c (gD P i) w < 0) (h2 : ∀ i, k ≤ i → i < P.length → 0 < c (gD P i) w) (a' : Nat → Int → Int) (e6 : a' 156 = a 156) (e7 : a' 157 = a 157) (e8 : a' 158 = a 158) (e9 : a' 159 = a 159) (e0 : a' 160 = up (a 160) (P.length : Int) 1) (e1 : a' 161 = up (a 161) (P.length : Int) (w / 256)) (e2 : a' 162 = up (a 162) (P.length : Int) (w / 16 % 16)) (e3 : a' 163 = up (shf (a 163) (k : Int) (P.length : Int)) (k : Int) (P.length : Int)) : GS c TM gr a' (ins P k w) (l ++ [w]) := by
  obtain ⟨g1, g2, g3⟩ := h
  obtain ⟨n1, n2⟩ := Lst_new hc g1 hw hk h1 h2
  have o1 : ∀ j : Nat, j < k → a' 163 (j : Int) = a 163 (j : Int) := fun j hj => by
    rw [e3, up_n _ _ (by omega)]
    unfold shf
    rw [if_neg (by omega)]
  have o2 : a' 163 (k : Int) = (P.length : Int) := by rw [e3, up_s]
  have o3 : ∀ j : Nat, k < j → j ≤ P.length → a' 163 (j : Int) = a 163 ((j - 1 : Nat) : Int) := fun j hj hj2 => by
    rw [e3, up_n _ _ (by omega)]
    unfold shf
    rw [if_pos (by omega), show (j : Int) - 1 = ((j - 1 : Nat) : Int) by omega]
  refine ⟨n1, fun j hj => ?_, fun i j hi hj e => ?_⟩
  · rw [ins_l hk] at hj ⊢
    rw [ins_g hk]
    have hold : ∀ q : Nat, q < P.length → a' 163 (j : Int) = a 163 (q : Int) → (0 ≤ a' 163 (j : Int) ∧ a' 163 (j : Int) < ((P.length + 1 : Nat) : Int)) ∧ slR a' (a' 163 (j : Int)) (TM (gD P q)) (gr (gD P q)) ∧ a' 160 (a' 163 (j : Int)) = cnt c (l ++ [w]) (gD P q) ∧ a' 161 (a' 163 (j : Int)) = gD P q / 256 ∧ a' 162 (a' 163 (j : Int)) = gD P q / 16 % 16 := by
      intro q hq e
      obtain ⟨q1, q2, q3, q4, q5⟩ := g2 q hq
      rw [e]
      refine ⟨by omega, slR_fr q2 e6 e7 e8 e9, ?_, ?_, ?_⟩
      · rw [e0, up_n _ _ (by omega), q3, cnt_a, if_neg, Int.add_zero]
        by_cases hqk : q < k
        · have := h1 q hqk
          omega
        · have := h2 q (by omega) hq
          omega
      · rw [e1, up_n _ _ (by omega), q4]
      · rw [e2, up_n _ _ (by omega), q5]
    by_cases c1 : j < k
    · rw [if_pos c1]
      exact hold j (by omega) (o1 j c1)
    · rw [if_neg c1]
      by_cases c2 : j = k
      · rw [if_pos c2, c2, o2]
        refine ⟨by omega, slR_fr hs e6 e7 e8 e9, ?_, ?_, ?_⟩
        · rw [e0, up_s, cnt_a, if_pos (ordC_r hc w), cnt_0]
          · rfl
          · exact fun v hv z => n2 v hv (ordC_s hc z)
        · rw [e1, up_s]
        · rw [e2, up_s]
      · rw [if_neg c2]
        exact hold (j - 1) (by omega) (o3 j (by omega) (by omega))
  · rw [ins_l hk] at hi hj
    have hlt : ∀ q : Nat, q < P.length → a 163 (q : Int) < (P.length : Int) := fun q hq => (g2 q hq).1.2
    rcases Nat.lt_trichotomy i k with ci | ci | ci
    · rcases Nat.lt_trichotomy j k with cj | cj | cj
      · rw [o1 i ci, o1 j cj] at e
        exact g3 i j (by omega) (by omega) e
      · rw [o1 i ci, cj, o2] at e
        have := hlt i (by omega)
        omega
      · rw [o1 i ci, o3 j cj (by omega)] at e
        have := g3 i (j - 1) (by omega) (by omega) e
        omega
    · rcases Nat.lt_trichotomy j k with cj | cj | cj
      · rw [o1 j cj, ci, o2] at e
        have := hlt j (by omega)
        omega
      · omega
      · rw [o3 j cj (by omega), ci, o2] at e
        have := hlt (j - 1) (by omega)
        omega
    · rcases Nat.lt_trichotomy j k with cj | cj | cj
      · rw [o3 i ci (by omega), o1 j cj] at e
        have := g3 (i - 1) j (by omega) (by omega) e
        omega
      · rw [o3 i ci (by omega), cj, o2] at e
        have := hlt (i - 1) (by omega)
        omega
      · rw [o3 i ci (by omega), o3 j cj (by omega)] at e
        have := g3 (i - 1) (j - 1) (by omega) (by omega) e
        omega
