-- runs merged
def sgm (g : Int → Int) : Int → Nat → List Int
  | _, 0 => []
  | lo, n + 1 => g lo :: sgm g (lo + 1) n
theorem sgm_eq {g g' : Int → Int} : ∀ (n : Nat) (lo : Int), (∀ i, lo ≤ i → i < lo + n → g i = g' i) → sgm g lo n = sgm g' lo n
  | 0, _, _ => rfl
  | n + 1, lo, h => by
    show g lo :: sgm g (lo + 1) n = g' lo :: sgm g' (lo + 1) n
    rw [h lo (by omega) (by omega), sgm_eq n (lo + 1) (fun i h1 h2 => h i (by omega) (by omega))]
theorem sgm_app {g : Int → Int} : ∀ (n m : Nat) (lo : Int), sgm g lo (n + m) = sgm g lo n ++ sgm g (lo + n) m
  | 0, m, lo => by
    rw [Nat.zero_add]
    show _ = sgm g (lo + ((0 : Nat) : Int)) m
    rw [show lo + ((0 : Nat) : Int) = lo by omega]
  | n + 1, m, lo => by
    rw [show n + 1 + m = (n + m) + 1 by omega]
    show g lo :: sgm g (lo + 1) (n + m) = g lo :: (sgm g (lo + 1) n ++ sgm g (lo + ((n + 1 : Nat) : Int)) m)
    rw [sgm_app n m (lo + 1), show lo + 1 + (n : Int) = lo + ((n + 1 : Nat) : Int) by omega]
theorem sgm_len {g : Int → Int} : ∀ (n : Nat) (lo : Int), (sgm g lo n).length = n
  | 0, _ => rfl
  | n + 1, lo => congrArg (· + 1) (sgm_len n (lo + 1))
theorem sgm_get {g : Int → Int} : ∀ (n : Nat) (lo : Int) (i : Nat), i < n → (sgm g lo n)[i]? = some (g (lo + i))
  | 0, _, _, h => absurd h (Nat.not_lt_zero _)
  | n + 1, lo, 0, h => by
    show some (g lo) = _
    rw [show lo + ((0 : Nat) : Int) = lo by omega]
  | n + 1, lo, i + 1, h => by
    show (sgm g (lo + 1) n)[i]? = _
    rw [sgm_get n (lo + 1) i (by omega), show lo + 1 + (i : Int) = lo + ((i + 1 : Nat) : Int) by omega]
theorem sgm_mem {g : Int → Int} {n : Nat} {lo v : Int} (h : v ∈ sgm g lo n) : ∃ i, lo ≤ i ∧ i < lo + n ∧ v = g i := by
  obtain ⟨i, hi⟩ := List.mem_iff_getElem?.mp h
  have hlt : i < n := by
    rcases Nat.lt_or_ge i n with h2 | h2
    · exact h2
    · rw [List.getElem?_eq_none (by rw [sgm_len]; exact h2)] at hi
      cases hi
  rw [sgm_get n lo i hlt] at hi
  cases hi
  exact ⟨lo + i, by omega, by omega, rfl⟩
theorem sgm_of {g : Int → Int} : ∀ (l : List Int) (lo : Int), (∀ (i : Nat) (w : Int), l[i]? = some w → g (lo + i) = w) → sgm g lo l.length = l
  | [], _, _ => rfl
  | x :: r, lo, h => by
    show g lo :: sgm g (lo + 1) r.length = x :: r
    have h0 := h 0 x rfl
    rw [show lo + ((0 : Nat) : Int) = lo by omega] at h0
    rw [h0, sgm_of r (lo + 1) (fun i w hw => by have := h (i + 1) w hw; rw [show lo + 1 + (i : Int) = lo + ((i + 1 : Nat) : Int) by omega]; exact this)]
def mrgF (c : Int → Int → Int) : Nat → List Int → List Int → List Int
  | 0, _, _ => []
  | _ + 1, [], [] => []
  | n + 1, [], y :: s => y :: mrgF c n [] s
  | n + 1, x :: r, [] => x :: mrgF c n r []
  | n + 1, x :: r, y :: s => if c x y ≤ 0 then x :: mrgF c n r (y :: s) else y :: mrgF c n (x :: r) s
theorem wok_31 {a j : Nat → Int → Int} {g : Int → Int} {w : Int} (h : wok a j w) : wok (am_sa a 31 g) j w := h
theorem lexc_R : ∀ (x y : List Int), lexc x y = -1 ∨ lexc x y = 0 ∨ lexc x y = 1
  | [], _ => Or.inr (Or.inl (by unfold lexc; rfl))
  | _ :: _, [] => Or.inr (Or.inl (by unfold lexc; rfl))
  | a :: r, b :: s => by
    rw [lexc_c]
    split
    · exact lexc_R r s
    · exact cp3_R a b
set_option maxHeartbeats 400000 in
set_option maxRecDepth 100000 in
theorem l_merge (d L B1 B2 : Nat) (fi : Nat → Nat → Int) (ai aj : Nat → Int → Int) (lo mid hi : Int) (h0 : 0 ≤ lo ∧ lo ≤ mid ∧ mid ≤ hi ∧ hi ≤ 1536) (hw : ∀ i, lo ≤ i → i < hi → wok ai aj (ai 30 i)) : ∀ (n : Nat) (l r to : Int) (g : Int → Int), to + (n : Int) = hi → lo ≤ l ∧ l ≤ mid → mid ≤ r ∧ r ≤ hi → (mid - l) + (hi - r) = (n : Int) → lo ≤ to → am_W (am_ev am_prog (d + 2)) T_Gi_mergeRuns (fun v h' => v = none ∧ ∃ g', h' = HH L B1 B2 fi (am_sa ai 31 g') aj ∧ (∀ i, i < to ∨ hi ≤ i → g' i = g i) ∧ sgm g' to n = mrgF (cmW ai aj) n (sgm (ai 30) l (mid - l).toNat) (sgm (ai 30) r (hi - r).toNat)) (9, [some (.inr (.inr 25)), some (.inl lo), some (.inl mid), some (.inl hi), some (.inl l), some (.inl r), some (.inl to)], [], HH L B1 B2 fi (am_sa ai 31 g) aj) := by
  have ok25 : ∀ a, am_ok (HH L B1 B2 fi a aj) 25 4 := fun a => okI rfl rfl rfl
  have ok30 : ∀ g i, 0 ≤ i → i < 1536 → am_okr (HH L B1 B2 fi (am_sa ai 31 g) aj) (am_fr (HH L B1 B2 fi (am_sa ai 31 g) aj) 22 25) 1000 i := fun g i i0 i1 => okrI rfl rfl (t := 1000) (N := 1536) rfl rfl i0 (by omega)
  have ok31 : ∀ g i, 0 ≤ i → i < 1536 → am_oka (HH L B1 B2 fi (am_sa ai 31 g) aj) (am_fr (HH L B1 B2 fi (am_sa ai 31 g) aj) 23 25) 1000 i := fun g i i0 i1 => okaI rfl rfl (t := 1000) (N := 1536) rfl rfl i0 (by omega)
  have e30 : ∀ g i, am_ai (HH L B1 B2 fi (am_sa ai 31 g) aj) (am_fr (HH L B1 B2 fi (am_sa ai 31 g) aj) 22 25) i = ai 30 i := fun g i => rfl
  intro n
  induction n with
  | zero =>
    intro l r to g hn hl hr hs ht
    refine am_W.br rfl rfl ⟨trivial, ⟨by omega, by omega⟩, ⟨by omega, by omega⟩⟩ (fun c => ?_) (fun c => absurd c (by omega))
    exact am_W.rt rfl rfl ⟨trivial, trivial⟩ ⟨rfl, g, rfl, fun _ _ => rfl, rfl⟩
  | succ n ih =>
    intro l r to g hn hl hr hs ht
    have hto : 0 ≤ to ∧ to < 1536 := by omega
    -- one is taken
    have htake : ∀ (x l' r' : Int) (rest : List Int), lo ≤ l' ∧ l' ≤ mid → mid ≤ r' ∧ r' ≤ hi → (mid - l') + (hi - r') = (n : Int) → mrgF (cmW ai aj) (n + 1) (sgm (ai 30) l (mid - l).toNat) (sgm (ai 30) r (hi - r).toNat) = x :: mrgF (cmW ai aj) n (sgm (ai 30) l' (mid - l').toNat) (sgm (ai 30) r' (hi - r').toNat) → am_W (am_ev am_prog (d + 2)) T_Gi_mergeRuns (fun v h' => v = none ∧ ∃ g', h' = HH L B1 B2 fi (am_sa ai 31 g') aj ∧ (∀ i, i < to ∨ hi ≤ i → g' i = g i) ∧ sgm g' to (n + 1) = mrgF (cmW ai aj) (n + 1) (sgm (ai 30) l (mid - l).toNat) (sgm (ai 30) r (hi - r).toNat)) (9, [some (.inr (.inr 25)), some (.inl lo), some (.inl mid), some (.inl hi), some (.inl l'), some (.inl r'), some (.inl (to + 1))], [], HH L B1 B2 fi (am_sa ai 31 (up g to x)) aj) := by
      intro x l' r' rest k1 k2 k3 k4
      refine (ih l' r' (to + 1) (up g to x) (by omega) k1 k2 k3 (by omega)).mono ?_
      rintro v h' ⟨rfl, g', rfl, m1, m2⟩
      refine ⟨rfl, g', rfl, fun i hi2 => ?_, ?_⟩
      · rw [m1 i (by omega), up_n _ _ (by omega)]
      · rw [k4]
        show g' to :: sgm g' (to + 1) n = _
        rw [m1 to (by omega), up_s, m2]
    have hleft : l < mid → (r = hi ∨ (r < hi ∧ cmW ai aj (ai 30 l) (ai 30 r) ≤ 0)) → am_W (am_ev am_prog (d + 2)) T_Gi_mergeRuns (fun v h' => v = none ∧ ∃ g', h' = HH L B1 B2 fi (am_sa ai 31 g') aj ∧ (∀ i, i < to ∨ hi ≤ i → g' i = g i) ∧ sgm g' to (n + 1) = mrgF (cmW ai aj) (n + 1) (sgm (ai 30) l (mid - l).toNat) (sgm (ai 30) r (hi - r).toNat)) (48, [some (.inr (.inr 25)), some (.inl lo), some (.inl mid), some (.inl hi), some (.inl l), some (.inl r), some (.inl to)], [], HH L B1 B2 fi (am_sa ai 31 g) aj) := by
      intro h1 h2
      refine am_W.gp 9 rfl ⟨⟨⟨⟨trivial, ok25 _⟩, ok25 _⟩, ok30 _ _ (by omega) (by omega)⟩, ok31 _ _ hto.1 hto.2⟩ ?_
      rw [e30]
      simp only [HS, FRS, u2sa]
      refine htake (ai 30 l) (l + 1) r [] (by omega) hr (by omega) ?_
      have e : (mid - l).toNat = (mid - (l + 1)).toNat + 1 := by omega
      rw [e]
      show mrgF (cmW ai aj) (n + 1) (ai 30 l :: sgm (ai 30) (l + 1) (mid - (l + 1)).toNat) _ = _
      rcases h2 with h2 | ⟨h2, h3⟩
      · rw [show (hi - r).toNat = 0 by omega]
        rfl
      · have e2 : (hi - r).toNat = (hi - (r + 1)).toNat + 1 := by omega
        rw [e2]
        show (if cmW ai aj (ai 30 l) (ai 30 r) ≤ 0 then _ else _) = _
        rw [if_pos h3]
        rfl
    have hright : r < hi → (l = mid ∨ (l < mid ∧ ¬ cmW ai aj (ai 30 l) (ai 30 r) ≤ 0)) → am_W (am_ev am_prog (d + 2)) T_Gi_mergeRuns (fun v h' => v = none ∧ ∃ g', h' = HH L B1 B2 fi (am_sa ai 31 g') aj ∧ (∀ i, i < to ∨ hi ≤ i → g' i = g i) ∧ sgm g' to (n + 1) = mrgF (cmW ai aj) (n + 1) (sgm (ai 30) l (mid - l).toNat) (sgm (ai 30) r (hi - r).toNat)) (68, [some (.inr (.inr 25)), some (.inl lo), some (.inl mid), some (.inl hi), some (.inl l), some (.inl r), some (.inl to)], [], HH L B1 B2 fi (am_sa ai 31 g) aj) := by
      intro h1 h2
      refine am_W.gp 9 rfl ⟨⟨⟨⟨trivial, ok25 _⟩, ok25 _⟩, ok30 _ _ (by omega) (by omega)⟩, ok31 _ _ hto.1 hto.2⟩ ?_
      rw [e30]
      simp only [HS, FRS, u2sa]
      refine htake (ai 30 r) l (r + 1) [] hl (by omega) (by omega) ?_
      have e : (hi - r).toNat = (hi - (r + 1)).toNat + 1 := by omega
      rw [e]
      show mrgF (cmW ai aj) (n + 1) _ (ai 30 r :: sgm (ai 30) (r + 1) (hi - (r + 1)).toNat) = _
      rcases h2 with h2 | ⟨h2, h3⟩
      · rw [show (mid - l).toNat = 0 by omega]
        rfl
      · have e2 : (mid - l).toNat = (mid - (l + 1)).toNat + 1 := by omega
        rw [e2]
        show (if cmW ai aj (ai 30 l) (ai 30 r) ≤ 0 then _ else _) = _
        rw [if_neg h3]
        rfl
    refine am_W.br rfl rfl ⟨trivial, ⟨by omega, by omega⟩, ⟨by omega, by omega⟩⟩ (fun c => absurd c (by omega)) (fun c => ?_)
    refine am_W.br rfl rfl ⟨trivial, ⟨by omega, by omega⟩, ⟨by omega, by omega⟩⟩ (fun c1 => hleft (by omega) (Or.inl (by omega))) (fun c1 => ?_)
    refine am_W.br rfl rfl ⟨trivial, ⟨by omega, by omega⟩, ⟨by omega, by omega⟩⟩ (fun c2 => hright (by omega) (Or.inl (by omega))) (fun c2 => ?_)
    have hc := c_compareWays d L B1 B2 fi (am_sa ai 31 g) aj (ai 30 l) (ai 30 r) (hw l (by omega) (by omega)) (hw r (by omega) (by omega))
    refine am_W.cv 4 m_Gi_compareWays rfl rfl rfl rfl ⟨⟨⟨⟨⟨trivial, ok25 _⟩, ok30 _ _ (by omega) (by omega)⟩, ok25 _⟩, ok30 _ _ (by omega) (by omega)⟩, ok25 _⟩ hc ?_
    rintro w1 h1 ⟨rfl, rfl⟩
    have hcR := lexc_R (kyW ai aj (ai 30 l)) (kyW ai aj (ai 30 r))
    have hcR2 : am_R (cmW ai aj (ai 30 l) (ai 30 r)) := by
      unfold cmW
      constructor <;> omega
    refine am_W.br rfl rfl ⟨trivial, hcR2⟩ (fun c3 => hright (by omega) (Or.inr ⟨by omega, ?_⟩)) (fun c3 => hleft (by omega) (Or.inr ⟨by omega, ?_⟩))
    · have c3' : 0 < cmW ai aj (ai 30 l) (ai 30 r) := c3
      omega
    · have c3' : ¬ 0 < cmW ai aj (ai 30 l) (ai 30 r) := c3
      omega
set_option maxHeartbeats 400000 in
set_option maxRecDepth 100000 in
theorem c_mergeRuns (d L B1 B2 : Nat) (fi : Nat → Nat → Int) (ai aj : Nat → Int → Int) (lo mid hi : Int) (h0 : 0 ≤ lo ∧ lo ≤ mid ∧ mid ≤ hi ∧ hi ≤ 1536) (hw : ∀ i, lo ≤ i → i < hi → wok ai aj (ai 30 i)) : am_M am_prog (d + 3) m_Gi_mergeRuns [.inr (.inr 25), .inl lo, .inl mid, .inl hi] (HH L B1 B2 fi ai aj) (fun v h' => v = none ∧ ∃ g', h' = HH L B1 B2 fi (am_sa ai 31 g') aj ∧ (∀ i, i < lo ∨ hi ≤ i → g' i = ai 31 i) ∧ sgm g' lo (hi - lo).toNat = mrgF (cmW ai aj) (hi - lo).toNat (sgm (ai 30) lo (mid - lo).toNat) (sgm (ai 30) mid (hi - mid).toNat)) := by
  refine am_W.of rfl rfl ?_
  have hm := l_merge d L B1 B2 fi ai aj lo mid hi h0 hw (hi - lo).toNat lo mid lo (ai 31) (by omega) (by omega) (by omega) (by omega) (by omega)
  rw [sa_id] at hm
  exact am_W.gp 9 rfl trivial hm
