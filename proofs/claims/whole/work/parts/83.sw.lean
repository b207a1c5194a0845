-- ways sorted
def passF (c : Int → Int → Int) (W : Nat) : Nat → List Int → List Int
  | 0, _ => []
  | k + 1, l => if l = [] then [] else mrgF c (l.take (2 * W)).length (l.take W) ((l.drop W).take W) ++ passF c W k (l.drop (2 * W))
def sortF (c : Int → Int → Int) : Nat → Nat → List Int → List Int
  | 0, _, l => l
  | k + 1, W, l => if W < l.length then sortF c k (2 * W) (passF c W l.length l) else l
theorem mrgF_mem {c : Int → Int → Int} : ∀ (n : Nat) (a b : List Int) (v : Int), v ∈ mrgF c n a b → v ∈ a ∨ v ∈ b
  | 0, _, _, v, h => by cases h
  | n + 1, [], [], v, h => by cases h
  | n + 1, [], y :: s, v, h => by
    rcases List.mem_cons.mp h with h | h
    · exact Or.inr (List.mem_cons.mpr (Or.inl h))
    · rcases mrgF_mem n [] s v h with h | h
      · cases h
      · exact Or.inr (List.mem_cons_of_mem _ h)
  | n + 1, x :: r, [], v, h => by
    rcases List.mem_cons.mp h with h | h
    · exact Or.inl (List.mem_cons.mpr (Or.inl h))
    · rcases mrgF_mem n r [] v h with h | h
      · exact Or.inl (List.mem_cons_of_mem _ h)
      · cases h
  | n + 1, x :: r, y :: s, v, h => by
    unfold mrgF at h
    split at h
    · rcases List.mem_cons.mp h with h | h
      · exact Or.inl (List.mem_cons.mpr (Or.inl h))
      · rcases mrgF_mem n r (y :: s) v h with h | h
        · exact Or.inl (List.mem_cons_of_mem _ h)
        · exact Or.inr h
    · rcases List.mem_cons.mp h with h | h
      · exact Or.inr (List.mem_cons.mpr (Or.inl h))
      · rcases mrgF_mem n (x :: r) s v h with h | h
        · exact Or.inl h
        · exact Or.inr (List.mem_cons_of_mem _ h)
theorem passF_mem {c : Int → Int → Int} {W : Nat} : ∀ (k : Nat) (l : List Int) (v : Int), v ∈ passF c W k l → v ∈ l
  | 0, _, v, h => by cases h
  | k + 1, l, v, h => by
    unfold passF at h
    split at h
    · cases h
    · rcases List.mem_append.mp h with h | h
      · rcases mrgF_mem _ _ _ v h with h | h
        · exact List.mem_of_mem_take h
        · exact List.mem_of_mem_drop (List.mem_of_mem_take h)
      · exact List.mem_of_mem_drop (passF_mem k _ v h)
theorem sgm_take {g : Int → Int} : ∀ (m n : Nat) (lo : Int), (sgm g lo n).take m = sgm g lo (min m n)
  | 0, n, lo => by
    rw [List.take_zero, Nat.zero_min]
    rfl
  | m + 1, 0, lo => by
    rw [Nat.min_zero]
    rfl
  | m + 1, n + 1, lo => by
    rw [show min (m + 1) (n + 1) = min m n + 1 by omega]
    show g lo :: (sgm g (lo + 1) n).take m = g lo :: sgm g (lo + 1) (min m n)
    rw [sgm_take m n (lo + 1)]
theorem sgm_drop {g : Int → Int} : ∀ (m n : Nat) (lo : Int), (sgm g lo n).drop m = sgm g (lo + m) (n - m)
  | 0, n, lo => by
    rw [List.drop_zero, Nat.sub_zero, show lo + ((0 : Nat) : Int) = lo by omega]
  | m + 1, 0, lo => by
    rw [Nat.zero_sub]
    rfl
  | m + 1, n + 1, lo => by
    show (sgm g (lo + 1) n).drop m = _
    rw [sgm_drop m n (lo + 1), show lo + 1 + (m : Int) = lo + ((m + 1 : Nat) : Int) by omega, show n - m = n + 1 - (m + 1) by omega]
set_option maxHeartbeats 400000 in
set_option maxRecDepth 100000 in
theorem l_pass (d L B1 B2 : Nat) (fi : Nat → Nat → Int) (ai aj : Nat → Int → Int) (W : Int) (N : Nat) (Q : Option am_V → am_H → Prop) (hW : 1 ≤ W ∧ W ≤ 2048) (h24 : fi 24 25 = (N : Int)) (hN : N ≤ 1536) (hw : ∀ i, 0 ≤ i → i < (N : Int) → wok ai aj (ai 30 i)) (g0 : Int → Int) : ∀ (k : Nat) (fr : Int) (g : Int → Int), (N : Int) - fr ≤ (k : Int) → 0 ≤ fr → fr ≤ 8000 → (∀ g', (∀ i, i < fr → g' i = g i) → sgm g' fr ((N : Int) - fr).toNat = passF (cmW ai aj) W.toNat k (sgm (ai 30) fr ((N : Int) - fr).toNat) → ∀ l2 : Option am_V, am_W (am_ev am_prog (d + 3)) T_Gi_sortWays Q (56, [some (.inr (.inr 25)), some (.inl W), l2], [], HH L B1 B2 fi (am_sa ai 31 g') aj)) → am_W (am_ev am_prog (d + 3)) T_Gi_sortWays Q (12, [some (.inr (.inr 25)), some (.inl W), some (.inl fr)], [], HH L B1 B2 fi (am_sa ai 31 g) aj) := by
  have ok25 : ∀ a, am_ok (HH L B1 B2 fi a aj) 25 4 := fun a => okI rfl rfl rfl
  have e24 : ∀ a, am_fi (HH L B1 B2 fi a aj) 24 25 = (N : Int) := fun a => h24
  have g24 : ∀ a, am_gf (HH L B1 B2 fi a aj) 24 25 0 = .inl (N : Int) := fun a => congrArg Sum.inl h24
  intro k
  induction k with
  | zero =>
    intro fr g hk h0 h8 w
    refine am_W.br rfl rfl ⟨⟨trivial, ok25 _⟩, ⟨by omega, by omega⟩, by rw [e24]; exact ⟨by omega, by omega⟩⟩ (fun c => ?_) (fun c => absurd c (by rw [e24]; omega))
    refine w g (fun _ _ => rfl) ?_ _
    rw [show ((N : Int) - fr).toNat = 0 by omega]
    rfl
  | succ k ih =>
    intro fr g hk h0 h8 w
    refine am_W.br rfl rfl ⟨⟨trivial, ok25 _⟩, ⟨by omega, by omega⟩, by rw [e24]; exact ⟨by omega, by omega⟩⟩ (fun c => ?_) (fun c => ?_)
    · rw [e24] at c
      refine w g (fun _ _ => rfl) ?_ _
      rw [show ((N : Int) - fr).toNat = 0 by omega]
      unfold passF
      rw [if_pos (show sgm (ai 30) fr 0 = [] from rfl)]
      rfl
    · rw [e24] at c
      refine am_W.cs rfl rfl rfl ⟨trivial, ok25 _⟩ (by rw [g24]; exact am_min (d := d + 2) ⟨by omega, by omega⟩ ⟨by omega, by omega⟩) ?_
      rintro r1 h1 ⟨rfl, rfl⟩
      refine am_W.cs rfl rfl rfl ⟨trivial, ok25 _⟩ (by rw [g24]; exact am_min (d := d + 2) ⟨by omega, by omega⟩ ⟨by omega, by omega⟩) ?_
      rintro r1 h1 ⟨rfl, rfl⟩
      have em : (if (N : Int) < fr + W then (N : Int) else fr + W) = min (fr + W) (N : Int) := by
        rw [Int.min_def]
        split <;> split <;> omega
      have eh : (if (N : Int) < fr + 2 * W then (N : Int) else fr + 2 * W) = min (fr + 2 * W) (N : Int) := by
        rw [Int.min_def]
        split <;> split <;> omega
      rw [em, eh]
      generalize hmid : min (fr + W) (N : Int) = mid
      generalize hhi : min (fr + 2 * W) (N : Int) = hi
      have hb : fr ≤ mid ∧ mid ≤ hi ∧ hi ≤ (N : Int) ∧ mid ≤ fr + W ∧ hi ≤ fr + 2 * W ∧ (mid = fr + W ∨ mid = (N : Int)) ∧ (hi = fr + 2 * W ∨ hi = (N : Int)) := by
        rw [Int.min_def] at hmid hhi
        split at hmid <;> split at hhi <;> omega
      have hm := c_mergeRuns d L B1 B2 fi (am_sa ai 31 g) aj fr mid hi (by omega) (fun i i0 i1 => hw i (by omega) (by omega))
      refine am_W.cv 4 m_Gi_mergeRuns rfl rfl rfl rfl ⟨trivial, ok25 _⟩ hm ?_
      rintro w1 h1 ⟨rfl, g2, rfl, m1, m2⟩
      refine am_W.gp 12 rfl trivial ?_
      rw [sasa]
      have m1' : ∀ i, i < fr ∨ hi ≤ i → g2 i = g i := fun i hi2 => by rw [m1 i hi2, sas]
      have m2' : sgm g2 fr (hi - fr).toNat = mrgF (cmW ai aj) (hi - fr).toNat (sgm (ai 30) fr (mid - fr).toNat) (sgm (ai 30) mid (hi - mid).toNat) := m2
      refine ih (fr + 2 * W) g2 (by omega) (by omega) (by omega) ?_
      intro g' k1 k2 l2
      refine w g' (fun i hi2 => ?_) ?_ l2
      · rw [k1 i (by omega), m1' i (Or.inl hi2)]
      · unfold passF
        rw [if_neg (fun z => ?_)]
        · rw [sgm_take, sgm_take, sgm_drop, sgm_drop, sgm_take, sgm_len]
          have e1 : min (2 * W.toNat) ((N : Int) - fr).toNat = (hi - fr).toNat := by omega
          have e2 : min W.toNat ((N : Int) - fr).toNat = (mid - fr).toNat := by omega
          have e3 : sgm (ai 30) (fr + (W.toNat : Int)) (min W.toNat (((N : Int) - fr).toNat - W.toNat)) = sgm (ai 30) mid (hi - mid).toNat := by
            rcases hb.2.2.2.2.2.1 with h | h
            · rw [show fr + (W.toNat : Int) = mid by omega, show min W.toNat (((N : Int) - fr).toNat - W.toNat) = (hi - mid).toNat by omega]
            · rw [show min W.toNat (((N : Int) - fr).toNat - W.toNat) = 0 by omega, show (hi - mid).toNat = 0 by omega]
              rfl
          have e4 : sgm (ai 30) (fr + ((2 * W.toNat : Nat) : Int)) (((N : Int) - fr).toNat - 2 * W.toNat) = sgm (ai 30) (fr + 2 * W) ((N : Int) - (fr + 2 * W)).toNat := by
            rw [show fr + ((2 * W.toNat : Nat) : Int) = fr + 2 * W by omega, show ((N : Int) - fr).toNat - 2 * W.toNat = ((N : Int) - (fr + 2 * W)).toNat by omega]
          rw [e1, e2, e3, e4, ← k2, ← m2']
          have e5 : ((N : Int) - fr).toNat = (hi - fr).toNat + ((N : Int) - (fr + 2 * W)).toNat := by omega
          rw [e5, sgm_app]
          congr 1
          · refine sgm_eq _ _ (fun i i0 i1 => k1 i (by omega))
          · rcases hb.2.2.2.2.2.2 with h | h
            · rw [show fr + ((hi - fr).toNat : Int) = fr + 2 * W by omega]
            · rw [show ((N : Int) - (fr + 2 * W)).toNat = 0 by omega]
              rfl
        · have hlen := congrArg List.length z
          rw [sgm_len, List.length_nil] at hlen
          omega
theorem sgm_l {g : Int → Int} {n : Nat} {l : List Int} (h : sgm g 0 n = l) : l.length = n := by rw [← h, sgm_len]
theorem wok_of {a a' j : Nat → Int → Int} {w : Int} (h : wok a j w) (e : a' 29 = a 29) : wok a' j w := by
  unfold wok
  rw [e]
  exact h
theorem cmW_of {a a' j : Nat → Int → Int} (e : a' 29 = a 29) : cmW a' j = cmW a j := by
  funext x y
  unfold cmW kyW
  rw [e]
set_option maxHeartbeats 400000 in
set_option maxRecDepth 100000 in
theorem l_sort (d L B1 B2 : Nat) (fi : Nat → Nat → Int) (ai aj : Nat → Int → Int) (N : Nat) (h24 : fi 24 25 = (N : Int)) (hN : N ≤ 1536) : ∀ (k : Nat) (W : Nat) (a1 : Nat → Int → Int) (l : List Int) (l2 : Option am_V), N ≤ W * 2 ^ k → 1 ≤ W → W ≤ 4096 → (∀ b, b ≠ 30 → b ≠ 31 → a1 b = ai b) → sgm (a1 30) 0 N = l → (∀ v ∈ l, wok ai aj v) → am_W (am_ev am_prog (d + 3)) T_Gi_sortWays (fun v h' => v = none ∧ ∃ a', h' = HH L B1 B2 fi a' aj ∧ (∀ b, b ≠ 30 → b ≠ 31 → a' b = ai b) ∧ sgm (a' 30) 0 N = sortF (cmW ai aj) k W l) (2, [some (.inr (.inr 25)), some (.inl (W : Int)), l2], [], HH L B1 B2 fi a1 aj) := by
  have ok25 : ∀ a, am_ok (HH L B1 B2 fi a aj) 25 4 := fun a => okI rfl rfl rfl
  have e24 : ∀ a, am_fi (HH L B1 B2 fi a aj) 24 25 = (N : Int) := fun a => h24
  have g24 : ∀ a, am_gf (HH L B1 B2 fi a aj) 24 25 0 = .inl (N : Int) := fun a => congrArg Sum.inl h24
  intro k
  induction k with
  | zero =>
    intro W a1 l l2 hk hW1 hW2 ha hl hv
    rw [Nat.pow_zero, Nat.mul_one] at hk
    refine am_W.br rfl rfl ⟨⟨trivial, ok25 _⟩, ⟨by omega, by omega⟩, by rw [e24]; exact ⟨by omega, by omega⟩⟩ (fun c => ?_) (fun c => absurd c (by rw [e24]; omega))
    exact am_W.rt rfl rfl ⟨trivial, trivial⟩ ⟨rfl, a1, rfl, ha, hl⟩
  | succ k ih =>
    intro W a1 l l2 hk hW1 hW2 ha hl hv
    have hll := sgm_l hl
    unfold sortF
    refine am_W.br rfl rfl ⟨⟨trivial, ok25 _⟩, ⟨by omega, by omega⟩, by rw [e24]; exact ⟨by omega, by omega⟩⟩ (fun c => ?_) (fun c => ?_)
    · rw [e24] at c
      rw [if_neg (by omega)]
      exact am_W.rt rfl rfl ⟨trivial, trivial⟩ ⟨rfl, a1, rfl, ha, hl⟩
    · rw [e24] at c
      rw [if_pos (by omega)]
      have e29 : a1 29 = ai 29 := ha 29 (by decide) (by decide)
      have hw1 : ∀ i, 0 ≤ i → i < (N : Int) → wok a1 aj (a1 30 i) := by
        intro i i0 i1
        refine wok_of (hv _ ?_) e29
        rw [← hl]
        have h := sgm_get (g := a1 30) N 0 i.toNat (by omega)
        rw [show (0 : Int) + (i.toNat : Int) = i by omega] at h
        exact List.mem_of_getElem? h
      refine am_W.gp 12 rfl trivial ?_
      have hp := l_pass d L B1 B2 fi a1 aj (W : Int) N (fun v h' => v = none ∧ ∃ a', h' = HH L B1 B2 fi a' aj ∧ (∀ b, b ≠ 30 → b ≠ 31 → a' b = ai b) ∧ sgm (a' 30) 0 N = sortF (cmW ai aj) k (2 * W) (passF (cmW ai aj) W l.length l)) (by omega) h24 hN hw1 (a1 31) N 0 (a1 31) (by omega) (by omega) (by omega) ?_
      · rw [sa_id] at hp
        exact hp
      · intro g' k1 k2 l2
        have okc : am_cp (HH L B1 B2 fi (am_sa a1 31 g') aj) 31 0 30 0 (N : Int) := by
          refine ⟨⟨Nat.le_of_ble_eq_true rfl, Nat.le_of_ble_eq_true rfl, rfl, by omega, ?_, by omega⟩, ⟨Nat.le_of_ble_eq_true rfl, Nat.le_of_ble_eq_true rfl, rfl, by omega, ?_, by omega⟩, by omega, by omega⟩
          · show (0 : Int) + (N : Int) ≤ 1536
            omega
          · show (0 : Int) + (N : Int) ≤ 1536
            omega
        refine am_W.cs rfl rfl rfl ⟨⟨⟨trivial, ok25 _⟩, ok25 _⟩, ok25 _⟩ (by rw [g24]; exact am_cpm (d := d + 2) okc) ?_
        rintro r1 h1 ⟨rfl, rfl⟩
        refine am_W.gp 2 rfl trivial ?_
        generalize ha2 : (fun (q : Nat) (i : Int) => if q = 30 then (if 0 ≤ i ∧ i < 0 + (N : Int) then am_sa a1 31 g' 31 (0 + (i - 0)) else am_sa a1 31 g' q i) else am_sa a1 31 g' q i) = a2
        have ecp : am_cpi (HH L B1 B2 fi (am_sa a1 31 g') aj) 31 0 30 0 (N : Int) = HH L B1 B2 fi a2 aj := by rw [← ha2]; rfl
        rw [show am_fr (HH L B1 B2 fi (am_sa a1 31 g') aj) 23 25 = 31 from rfl, show am_fr (HH L B1 B2 fi (am_sa a1 31 g') aj) 22 25 = 30 from rfl, ecp]
        have a2b : ∀ b, b ≠ 30 → b ≠ 31 → a2 b = ai b := by
          intro b h1 h2
          rw [← ha b h1 h2, ← ha2]
          funext i
          show (if b = 30 then _ else am_sa a1 31 g' b i) = _
          rw [if_neg h1, san _ _ h2]
        have a230 : sgm (a2 30) 0 N = passF (cmW ai aj) W l.length l := by
          have h2 : sgm g' 0 N = passF (cmW ai aj) W l.length l := by
            rw [show ((N : Int) - 0).toNat = N by omega, cmW_of e29, hl, Int.toNat_natCast] at k2
            rw [k2, hll]
          rw [← h2]
          refine sgm_eq _ _ (fun i i0 i1 => ?_)
          rw [← ha2]
          show (if (30 : Nat) = 30 then (if 0 ≤ i ∧ i < 0 + (N : Int) then am_sa a1 31 g' 31 (0 + (i - 0)) else _) else _) = _
          rw [if_pos rfl, if_pos ⟨i0, by omega⟩, sas, show (0 : Int) + (i - 0) = i by omega]
        rw [show (W : Int) * 2 = ((2 * W : Nat) : Int) by omega]
        have hk2 : N ≤ 2 * W * 2 ^ k := by
          rw [Nat.pow_succ] at hk
          have e : W * (2 ^ k * 2) = 2 * W * 2 ^ k := by
            rw [Nat.mul_comm (2 ^ k) 2, ← Nat.mul_assoc, Nat.mul_comm W 2]
          omega
        exact ih (2 * W) a2 _ _ hk2 (by omega) (by omega) a2b a230 (fun v hv2 => hv v (passF_mem _ _ v hv2))
set_option maxHeartbeats 400000 in
set_option maxRecDepth 100000 in
theorem c_sortWays (d L B1 B2 : Nat) (fi : Nat → Nat → Int) (ai aj : Nat → Int → Int) (N : Nat) (l : List Int) (h24 : fi 24 25 = (N : Int)) (hN : N ≤ 1536) (hl : sgm (ai 30) 0 N = l) (hv : ∀ v ∈ l, wok ai aj v) : am_M am_prog (d + 4) m_Gi_sortWays [.inr (.inr 25)] (HH L B1 B2 fi ai aj) (fun v h' => v = none ∧ ∃ a', h' = HH L B1 B2 fi a' aj ∧ (∀ b, b ≠ 30 → b ≠ 31 → a' b = ai b) ∧ sgm (a' 30) 0 N = sortF (cmW ai aj) 11 1 l) := by
  refine am_W.of rfl rfl ?_
  exact am_W.gp 2 rfl trivial (l_sort d L B1 B2 fi ai aj N h24 hN 11 1 ai l none (by show N ≤ 2048; omega) (by omega) (by omega) (fun _ _ _ => rfl) hl hv)
