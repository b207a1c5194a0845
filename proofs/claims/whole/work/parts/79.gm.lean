-- all rows given
def FK (fi f : Nat → Nat → Int) (ai a aj j : Nat → Int → Int) : Prop := (∀ q b, b ≠ 25 → b ≠ 26 → f q b = fi q b) ∧ (∀ b, b < 29 ∨ 35 < b → a b = ai b) ∧ (∀ b, b ≠ 27 → b ≠ 28 → j b = aj b)
theorem FK.rf {fi : Nat → Nat → Int} {ai aj : Nat → Int → Int} : FK fi fi ai ai aj aj := ⟨fun _ _ _ _ => rfl, fun _ _ => rfl, fun _ _ _ => rfl⟩
theorem FK.tr {f1 f2 f3 : Nat → Nat → Int} {a1 a2 a3 j1 j2 j3 : Nat → Int → Int} (h1 : FK f1 f2 a1 a2 j1 j2) (h2 : FK f2 f3 a2 a3 j2 j3) : FK f1 f3 a1 a3 j1 j3 := ⟨fun q b p r => (h2.1 q b p r).trans (h1.1 q b p r), fun b p => (h2.2.1 b p).trans (h1.2.1 b p), fun b p q => (h2.2.2 b p q).trans (h1.2.2 b p q)⟩
theorem FK.D {fi f : Nat → Nat → Int} {ai a aj j : Nat → Int → Int} (h : FK fi f ai a aj j) : DD f a = DD fi ai := by
  unfold DD
  rw [h.1 10 17 (by decide) (by decide), h.2.1 18 (by omega), h.2.1 19 (by omega), h.2.1 20 (by omega), h.2.1 21 (by omega)]
theorem FK.M {fi f : Nat → Nat → Int} {ai a aj j : Nat → Int → Int} {r : Nat} {x : MT} (h : FK fi f ai a aj j) (hp : 40 ≤ r) (hx : RepM fi ai r x) : RepM f a r x := hx.fr (fun q b h1 h2 => h.1 q b (by omega) (by omega)) (fun b h1 h2 => h.2.1 b (by omega))
theorem FG.K {fi f : Nat → Nat → Int} {ai a aj j : Nat → Int → Int} (h : FG fi f ai a aj j) : FK fi f ai a aj j := ⟨h.1, fun b p => h.2.2.1 b (by omega) (by omega) (by omega), h.2.2.2⟩
set_option maxHeartbeats 400000 in
set_option maxRecDepth 100000 in
theorem l_fill (d L B1 B2 : Nat) (fi : Nat → Nat → Int) (ai aj : Nat → Int → Int) (n : Nat) : ∀ (k : Nat) (i : Int) (g : Int → Int), i + (k : Int) = 1536 → 0 ≤ i → (∀ q, 0 ≤ q → q < i → g q = -1) → am_W (am_ev am_prog d) T_Arr_fill (fun w h' => w = none ∧ ∃ g, h' = HH L B1 B2 fi (am_sa ai 33 g) aj ∧ ∀ q, 0 ≤ q → q < 1536 → g q = -1) (5, [some (.inr (.inr 33)), some (.inl (-1)), some (.inl i), some (.inl 1536)], [], HH L B1 B2 fi (am_sa ai 33 g) aj)
  | 0, i, g, hk, hi, hg => by
    refine am_W.br rfl rfl ⟨trivial, ⟨by omega, by omega⟩, ⟨by omega, by omega⟩⟩ (fun c1 => ?_) (fun c1 => absurd c1 (by omega))
    exact am_W.rt rfl rfl ⟨trivial, trivial⟩ ⟨rfl, g, rfl, fun q q0 q1 => hg q q0 (by omega)⟩
  | k + 1, i, g, hk, hi, hg => by
    refine am_W.br rfl rfl ⟨trivial, ⟨by omega, by omega⟩, ⟨by omega, by omega⟩⟩ (fun c1 => absurd c1 (by omega)) (fun c1 => ?_)
    refine am_W.gp 5 rfl ⟨trivial, okaI rfl rfl (t := 1000) (N := 1536) rfl rfl hi (by omega)⟩ ?_
    simp only [HS, u2sa]
    refine l_fill d L B1 B2 fi ai aj n k (i + 1) (up g i (-1)) (by omega) (by omega) ?_
    intro q q0 q1
    unfold up
    split
    · rfl
    · exact hg q q0 (by omega)
set_option maxHeartbeats 400000 in
set_option maxRecDepth 100000 in
theorem c_fill (d L B1 B2 : Nat) (fi : Nat → Nat → Int) (ai aj : Nat → Int → Int) : am_M am_prog (d + 1) m_Arr_fill [.inr (.inr 33), .inl (-1)] (HH L B1 B2 fi ai aj) (fun w h' => w = none ∧ ∃ g, h' = HH L B1 B2 fi (am_sa ai 33 g) aj ∧ ∀ q, 0 ≤ q → q < 1536 → g q = -1) := by
  refine am_W.of rfl rfl ?_
  have hw := l_fill d L B1 B2 fi ai aj 0 1536 0 (ai 33) (by omega) (by omega) (fun q q0 q1 => absurd q1 (by omega))
  rw [sa_id] at hw
  exact am_W.gp 5 rfl ⟨trivial, Or.inr ⟨Nat.le_of_ble_eq_true rfl, Nat.le_of_ble_eq_true rfl⟩, rfl⟩ hw
def gvs (D : DT) (x : MT) (r : Int) : Prop := th D x.1 r = 1 ∧ hld D x r ∧ nmN D x r
noncomputable def mB (D : DT) (x : MT) (i : Int) : Nat → Int → List (Int × Int)
  | 0, _ => []
  | k + 1, r => @ite _ (gvs D x r) (Classical.propDecidable _) (rwB D x r (i * 16 + r)) [] ++ mB D x i k (r + 1)
noncomputable def mW (D : DT) (x : MT) (i : Int) : Nat → Int → List Int
  | 0, _ => []
  | k + 1, r => @ite _ (gvs D x r) (Classical.propDecidable _) (rwW D x r (i * 16 + r)) [] ++ mW D x i k (r + 1)
noncomputable def aB (D : DT) : List MT → Int → List (Int × Int)
  | [], _ => []
  | x :: w, i => mB D x i (ro D x.1).toNat 0 ++ aB D w (i + 1)
noncomputable def aW (D : DT) : List MT → Int → List Int
  | [], _ => []
  | x :: w, i => mW D x i (ro D x.1).toNat 0 ++ aW D w (i + 1)
theorem oth_in {D : DT} {x : MT} {r : Int} : ∀ (k : Nat) (o : Int), (oth D x r k o).length ≤ k ∧ ∀ v ∈ oth D x r k o, o ≤ v ∧ v < o + k
  | 0, o => ⟨Nat.le_refl 0, fun v hv => (by cases hv)⟩
  | k + 1, o => by
    obtain ⟨h1, h2⟩ := oth_in (D := D) (x := x) (r := r) k (o + 1)
    by_cases hq : ce D x.2.2.2.2.1.1 o x.2.2.2.1.2.1 ≠ -1 ∧ jn D x r o
    · rw [oth_y hq]
      refine ⟨by rw [List.length_cons]; omega, fun v hv => ?_⟩
      rcases List.mem_cons.mp hv with h | h
      · omega
      · have := h2 v h
        omega
    · rw [oth_n hq]
      refine ⟨by omega, fun v hv => ?_⟩
      have := h2 v hv
      omega
theorem rwO_in {D : DT} (hI : DI D) {x : MT} {r : Int} : (rwO D x r).length ≤ 16 ∧ ∀ v ∈ rwO D x r, 0 ≤ v ∧ v < 16 := by
  unfold rwO
  split
  · split
    · exact ⟨by rw [List.length_singleton]; omega, fun v hv => by rw [List.mem_singleton.mp hv]; omega⟩
    · exact ⟨Nat.zero_le _, fun v hv => by cases hv⟩
  · have h := ro_in x.2.2.2.2.1.1 hI
    obtain ⟨h1, h2⟩ := oth_in (D := D) (x := x) (r := r) (ro D x.2.2.2.2.1.1).toNat 0
    refine ⟨by omega, fun v hv => ?_⟩
    have := h2 v hv
    omega
theorem rwW_in {D : DT} (hI : DI D) {x : MT} {r pair : Int} : (rwW D x r pair).length ≤ 16 ∧ ∀ v ∈ rwW D x r pair, pair * 16 ≤ v ∧ v < pair * 16 + 16 := by
  obtain ⟨h1, h2⟩ := rwO_in (x := x) (r := r) hI
  unfold rwW
  split
  · refine ⟨by rw [List.length_map]; exact h1, fun v hv => ?_⟩
    obtain ⟨o, ho, rfl⟩ := List.mem_map.mp hv
    have := h2 o ho
    omega
  · exact ⟨Nat.zero_le _, fun v hv => by cases hv⟩
theorem rwB_in {D : DT} {x : MT} {r pair : Int} : (rwB D x r pair).length ≤ 1 := by
  unfold rwB
  split
  · exact Nat.zero_le _
  · exact Nat.le_refl 1
set_option maxHeartbeats 400000 in
set_option maxRecDepth 100000 in
theorem l_makeRows (d L B1 B2 : Nat) (fi : Nat → Nat → Int) (ai aj : Nat → Int → Int) (B r : Nat) (x : MT) (i : Int) (Q : Option am_V → am_H → Prop) (hp : MapAt L B1 B2 r) (hx : RepM fi ai r x) (hI : DI (DD fi ai)) (hw : wfM (DD fi ai) x) (hi : 0 ≤ i ∧ i < 6) (TM : Int → Int → Int × List Int) (hTM : ∀ row o t, 0 ≤ row → row < 16 → 0 ≤ o → o < 16 → TM ((i * 16 + row) * 16 + o) t = tmx (DD fi ai) x row o t) (bads0 : List (Int × Int)) (ways0 : List Int) : ∀ (k : Nat) (row : Int) (f : Nat → Nat → Int) (a j : Nat → Int → Int) (bads : List (Int × Int)) (ways : List Int), row + (k : Int) = ro (DD fi ai) x.1 → 0 ≤ row → FK fi f ai a aj j → f 31 25 = 0 → GI f a j bads ways TM → (∀ v ∈ ways, 0 ≤ v ∧ v < (i * 16 + row) * 16) → (ways.length : Int) ≤ (i * 16 + row) * 16 → (bads.length : Int) ≤ i * 16 + row → (∀ f' a' j', FK fi f' ai a' aj j' → f' 31 25 = 0 → a' 29 = a 29 → a' 33 = a 33 → GI f' a' j' (bads ++ mB (DD fi ai) x i k row) (ways ++ mW (DD fi ai) x i k row) TM → am_W (am_ev am_prog (d + 6)) T_Gi_make Q (148, [some (.inr (.inr 25)), some (.inr (.inr B)), some (.inr (.inr 17)), some (.inl i), some (.inr (.inr r)), some (.inl (ro (DD fi ai) x.1))], [], HH L B1 B2 f' a' j')) → am_W (am_ev am_prog (d + 6)) T_Gi_make Q (76, [some (.inr (.inr 25)), some (.inr (.inr B)), some (.inr (.inr 17)), some (.inl i), some (.inr (.inr r)), some (.inl row)], [], HH L B1 B2 f a j) := by
  have p0 := hp.1
  obtain ⟨-, -, -, q4, -⟩ := wfM_p hI hw
  have hsR : am_R x.1 := ⟨by omega, by omega⟩
  have hro := ro_in x.1 hI
  have ok17 : ∀ f a b, am_ok (HH L B1 B2 f a b) 17 1 := fun _ _ _ => okI rfl rfl rfl
  intro k
  induction k with
  | zero =>
    intro row f a j bads ways hk h0 hF h31 hG hv hl hb w
    have hD := hF.D
    have hx1 := hF.M p0 hx
    have g39 : am_gf (HH L B1 B2 f a j) 39 r 0 = .inl x.1 := congrArg Sum.inl hx1.1
    refine am_W.cv 1 m_So_rowsOf rfl rfl rfl rfl ⟨⟨trivial, HH_ma _ _ _ hp⟩, ok17 _ _ _⟩ (by rw [g39]; exact c_So_rowsOf (d + 5) L B1 B2 f a j _ hsR (by rw [hD]; exact hI)) ?_
    rintro r1 h1 ⟨rfl, rfl⟩
    rw [hD]
    have hrow : row = ro (DD fi ai) x.1 := by omega
    refine am_W.br rfl rfl ⟨trivial, ⟨by omega, by omega⟩, ⟨by omega, by omega⟩⟩ (fun c1 => ?_) (fun c1 => absurd c1 (by omega))
    rw [hrow]
    refine w f a j hF h31 rfl rfl ?_
    show GI f a j (bads ++ []) (ways ++ []) TM
    rw [List.append_nil, List.append_nil]
    exact hG
  | succ k ih =>
    intro row f a j bads ways hk h0 hF h31 hG hv hl hb w
    have hD := hF.D
    have hx1 := hF.M p0 hx
    have g39 : am_gf (HH L B1 B2 f a j) 39 r 0 = .inl x.1 := congrArg Sum.inl hx1.1
    have hskip : ¬ gvs (DD fi ai) x row → am_W (am_ev am_prog (d + 6)) T_Gi_make Q (142, [some (.inr (.inr 25)), some (.inr (.inr B)), some (.inr (.inr 17)), some (.inl i), some (.inr (.inr r)), some (.inl row)], [], HH L B1 B2 f a j) := by
      intro hq
      refine am_W.gp 76 rfl trivial (ih (row + 1) f a j bads ways (by omega) (by omega) hF h31 hG (fun v hv2 => by have := hv v hv2; omega) (by omega) (by omega) ?_)
      intro f' a' j' k1 k2 k3 k4 k5
      refine w f' a' j' k1 k2 k3 k4 ?_
      unfold mB mW
      rw [if_neg hq, if_neg hq, List.nil_append, List.nil_append]
      exact k5
    refine am_W.cv 1 m_So_rowsOf rfl rfl rfl rfl ⟨⟨trivial, HH_ma _ _ _ hp⟩, ok17 _ _ _⟩ (by rw [g39]; exact c_So_rowsOf (d + 5) L B1 B2 f a j _ hsR (by rw [hD]; exact hI)) ?_
    rintro r1 h1 ⟨rfl, rfl⟩
    rw [hD]
    refine am_W.br rfl rfl ⟨trivial, ⟨by omega, by omega⟩, ⟨by omega, by omega⟩⟩ (fun c1 => absurd c1 (by omega)) (fun c1 => ?_)
    refine am_W.cv 1 m_So_isThere rfl rfl rfl rfl ⟨⟨trivial, HH_ma _ _ _ hp⟩, ok17 _ _ _⟩ (by rw [g39]; exact c_So_isThere (d + 3) L B1 B2 f a j x.1 row hsR ⟨by omega, by omega⟩ (by rw [hD]; exact hI)) ?_
    rintro r1 h1 ⟨rfl, rfl⟩
    rw [hD]
    rcases th_01 hI x.1 row with ht | ht
    · rw [ht]
      exact am_W.br rfl rfl ⟨trivial, ⟨by omega, by omega⟩⟩ (fun c2 => hskip (fun z => absurd (ht.symm.trans z.1) (by decide))) (fun c2 => absurd rfl c2)
    rw [ht]
    refine am_W.br rfl rfl ⟨trivial, ⟨by omega, by omega⟩⟩ (fun c2 => absurd c2 (by decide)) (fun c2 => ?_)
    have hh := c_holds (d + 3) L B1 B2 f a j r x row hp hx1 (by rw [hD]; exact hI) (by rw [hD]; exact hw) ⟨by omega, by omega⟩
    rw [hD] at hh
    refine am_W.cv 8 m_Ma_holds rfl rfl rfl rfl ⟨trivial, HH_ma _ _ _ hp⟩ hh ?_
    rintro w1 h1 ⟨hq1, rfl⟩
    rcases hq1 with ⟨n1, rfl⟩ | ⟨n1, rfl⟩
    · refine am_W.br rfl rfl ⟨trivial, ⟨by omega, by omega⟩⟩ (fun c3 => absurd c3 (by decide)) (fun c3 => ?_)
      have hnn := c_namesWantNull (d + 2) L B1 B2 f a j r x row hp hx1 (by rw [hD]; exact hI) (by rw [hD]; exact hw) ⟨by omega, by omega⟩
      rw [hD] at hnn
      refine am_W.cv 8 m_Ma_namesWantNull rfl rfl rfl rfl ⟨trivial, HH_ma _ _ _ hp⟩ hnn ?_
      rintro w1 h1 ⟨hq1, rfl⟩
      rcases hq1 with ⟨n2, rfl⟩ | ⟨n2, rfl⟩
      · exact am_W.br rfl rfl ⟨trivial, ⟨by omega, by omega⟩⟩ (fun c4 => hskip (fun z => n2 z.2.2)) (fun c4 => absurd c4 (by decide))
      · refine am_W.br rfl rfl ⟨trivial, ⟨by omega, by omega⟩⟩ (fun c4 => absurd rfl c4) (fun c4 => ?_)
        have m2 := Classical.byContradiction n2
        have hg : gvs (DD fi ai) x row := ⟨ht, n1, m2⟩
        have hgr := c_giveRow d L B1 B2 f a j r x row (i * 16 + row) hp hx1 (by rw [hD]; exact hI) (by rw [hD]; exact hw) ⟨by omega, by omega⟩ (by omega) (by rw [hD]; exact m2) bads ways TM (fun o t o0 o1 => by rw [hD]; exact hTM row o t h0 (by omega) o0 o1) f a j FG.rf hG hv hl hb
        rw [hD] at hgr
        refine am_W.cv 4 m_Gi_giveRow rfl rfl rfl rfl ⟨trivial, okI rfl rfl rfl⟩ hgr ?_
        rintro w1 h1 ⟨rfl, f2, a2, j2, rfl, k1, k2⟩
        have hF2 : FK fi f2 ai a2 aj j2 := hF.tr k1.K
        obtain ⟨r1, r2⟩ := rwW_in (x := x) (r := row) (pair := i * 16 + row) hI
        have r3 := rwB_in (D := DD fi ai) (x := x) (r := row) (pair := i * 16 + row)
        refine am_W.gp 76 rfl trivial (ih (row + 1) f2 a2 j2 _ _ (by omega) (by omega) hF2 (by rw [k1.2.1 31 (by decide) (by decide)]; exact h31) k2 ?_ ?_ ?_ ?_)
        · intro v hv2
          rcases List.mem_append.mp hv2 with g | g
          · have := hv v g
            omega
          · have := r2 v g
            omega
        · rw [List.length_append]
          omega
        · rw [List.length_append]
          omega
        · intro f' a' j' g1 g2 g3 g4 g5
          refine w f' a' j' g1 g2 (g3.trans (k1.2.2.1 29 (by decide) (by decide) (by decide))) (g4.trans (k1.2.2.1 33 (by decide) (by decide) (by decide))) ?_
          unfold mB mW
          rw [if_pos hg, if_pos hg, ← List.append_assoc, ← List.append_assoc]
          exact g5
    · exact am_W.br rfl rfl ⟨trivial, ⟨by omega, by omega⟩⟩ (fun c3 => hskip (fun z => n1 z.2.1)) (fun c3 => absurd rfl c3)
