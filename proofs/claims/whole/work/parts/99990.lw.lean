-- the law's loop
theorem A1_R (xs : Nat → Int32) (k : Int) : am_R (st_ai xs 1 k) := am_toI _
theorem okS {L B1 B2 : Nat} {f : Nat → Nat → Int} {a j : Nat → Int → Int} {k : Int} (hL : L ≤ 3072) (h0 : 0 ≤ k) (h1 : k < (L : Int)) : am_okr (HH L B1 B2 f a j) 1 1000 k := ⟨Or.inl rfl, rfl, h0, h1, by omega⟩
def am_LQ : Option am_V → am_H → Prop := fun r h' => r = some (.inl 1) ∧ am_n h' ≤ 600016 ∧ am_sl h' ≤ 7302250
def am_LS (i : Int) : am_L := [some (.inr (.inr 1)), some (.inr (.inr 16)), some (.inr (.inr 126)), some (.inl i)]
set_option maxHeartbeats 400000 in
set_option maxRecDepth 100000 in
theorem w_source {L : Nat} {A1 : Int → Int} {i : Int} {h : am_H} (hL : L ≤ 3072) (hR : ∀ k, am_R (A1 k)) (h0 : 0 ≤ i) (h1 : i + 6 ≤ (L : Int)) (hI : INV L A1 h) (w : ∀ h2, INV L A1 h2 → am_W (am_ev am_prog 11) T_Law_law am_LQ (535, am_LS i, [], h2)) : am_W (am_ev am_prog 11) T_Law_law am_LQ (100, am_LS i, [], h) := by
  obtain ⟨B1, B2, f, a, j, ms, P, rfl, hA⟩ := hI
  have ha : a 1 = A1 := hA.2.2.2.2.2.2.2
  subst ha
  refine am_W.cv 0 m_MT_source rfl rfl rfl rfl (by repeat' first | exact okS hL (by omega) (by omega) | exact okI rfl rfl rfl | exact hR _ | trivial | refine And.intro ?_ ?_) (p_source hA (a 1 (i + 1)) (hR _)) ?_
  rintro v1 h1' ⟨y, C1, C2, f1, a1, j1, rfl, hy, rfl, e1, hm⟩
  rw [← e1] at hm
  refine am_W.cv 10 m_Mo_source rfl rfl rfl rfl (by repeat' first | exact okS hL (by omega) (by omega) | exact okI rfl rfl rfl | exact hR _ | trivial | refine And.intro ?_ ?_) hm ?_
  rintro v2 h2' ⟨rfl, hN⟩
  rw [e1] at hN
  exact am_W.br rfl rfl ⟨trivial, hy, hy⟩ (fun z => w _ hN) (fun z => absurd rfl z)
set_option maxHeartbeats 400000 in
set_option maxRecDepth 100000 in
theorem w_row {L : Nat} {A1 : Int → Int} {i : Int} {h : am_H} (hL : L ≤ 3072) (hR : ∀ k, am_R (A1 k)) (h0 : 0 ≤ i) (h1 : i + 6 ≤ (L : Int)) (hI : INV L A1 h) (w : ∀ h2, INV L A1 h2 → am_W (am_ev am_prog 11) T_Law_law am_LQ (535, am_LS i, [], h2)) : am_W (am_ev am_prog 11) T_Law_law am_LQ (123, am_LS i, [], h) := by
  obtain ⟨B1, B2, f, a, j, ms, P, rfl, hA⟩ := hI
  have ha : a 1 = A1 := hA.2.2.2.2.2.2.2
  subst ha
  refine am_W.cv 0 m_MT_row rfl rfl rfl rfl (by repeat' first | exact okS hL (by omega) (by omega) | exact okI rfl rfl rfl | exact hR _ | trivial | refine And.intro ?_ ?_) (p_row hA (a 1 (i + 1)) (a 1 (i + 2)) (a 1 (i + 3)) (a 1 (i + 4)) (a 1 (i + 5)) (hR _) (hR _) (hR _) (hR _) (hR _)) ?_
  rintro v1 h1' ⟨y, C1, C2, f1, a1, j1, rfl, hy, rfl, e1, hm⟩
  rw [← e1] at hm
  refine am_W.cv 10 m_Mo_row rfl rfl rfl rfl (by repeat' first | exact okS hL (by omega) (by omega) | exact okI rfl rfl rfl | exact hR _ | trivial | refine And.intro ?_ ?_) hm ?_
  rintro v2 h2' ⟨rfl, hN⟩
  rw [e1] at hN
  exact am_W.br rfl rfl ⟨trivial, hy, hy⟩ (fun z => w _ hN) (fun z => absurd rfl z)
set_option maxHeartbeats 400000 in
set_option maxRecDepth 100000 in
theorem w_read {L : Nat} {A1 : Int → Int} {i : Int} {h : am_H} (hL : L ≤ 3072) (hR : ∀ k, am_R (A1 k)) (h0 : 0 ≤ i) (h1 : i + 6 ≤ (L : Int)) (hI : INV L A1 h) (w : ∀ h2, INV L A1 h2 → am_W (am_ev am_prog 11) T_Law_law am_LQ (535, am_LS i, [], h2)) : am_W (am_ev am_prog 11) T_Law_law am_LQ (308, am_LS i, [], h) := by
  obtain ⟨B1, B2, f, a, j, ms, P, rfl, hA⟩ := hI
  have ha : a 1 = A1 := hA.2.2.2.2.2.2.2
  subst ha
  refine am_W.cv 0 m_MT_read rfl rfl rfl rfl (by repeat' first | exact okS hL (by omega) (by omega) | exact okI rfl rfl rfl | exact hR _ | trivial | refine And.intro ?_ ?_) (p_read hA ) ?_
  rintro v1 h1' ⟨y, C1, C2, f1, a1, j1, rfl, hy, rfl, e1, hm⟩
  refine am_W.cv 10 m_Mo_read rfl rfl rfl rfl (by repeat' first | exact okS hL (by omega) (by omega) | exact okI rfl rfl rfl | exact hR _ | trivial | refine And.intro ?_ ?_) hm ?_
  rintro v2 h2' ⟨rfl, hN⟩
  exact am_W.br rfl rfl ⟨trivial, hy, hy⟩ (fun z => w _ hN) (fun z => absurd rfl z)
set_option maxHeartbeats 400000 in
set_option maxRecDepth 100000 in
theorem w_triples {L : Nat} {A1 : Int → Int} {i : Int} {h : am_H} (hL : L ≤ 3072) (hR : ∀ k, am_R (A1 k)) (h0 : 0 ≤ i) (h1 : i + 6 ≤ (L : Int)) (hI : INV L A1 h) (w : ∀ h2, INV L A1 h2 → am_W (am_ev am_prog 11) T_Law_law am_LQ (535, am_LS i, [], h2)) : am_W (am_ev am_prog 11) T_Law_law am_LQ (321, am_LS i, [], h) := by
  obtain ⟨B1, B2, f, a, j, ms, P, rfl, hA⟩ := hI
  have ha : a 1 = A1 := hA.2.2.2.2.2.2.2
  subst ha
  refine am_W.cv 0 m_MT_triples rfl rfl rfl rfl (by repeat' first | exact okS hL (by omega) (by omega) | exact okI rfl rfl rfl | exact hR _ | trivial | refine And.intro ?_ ?_) (p_triples hA ) ?_
  rintro v1 h1' ⟨y, C1, C2, f1, a1, j1, rfl, hy, rfl, e1, hm⟩
  refine am_W.cv 10 m_Mo_triples rfl rfl rfl rfl (by repeat' first | exact okS hL (by omega) (by omega) | exact okI rfl rfl rfl | exact hR _ | trivial | refine And.intro ?_ ?_) hm ?_
  rintro v2 h2' ⟨rfl, hN⟩
  exact am_W.br rfl rfl ⟨trivial, hy, hy⟩ (fun z => w _ hN) (fun z => absurd rfl z)
set_option maxHeartbeats 400000 in
set_option maxRecDepth 100000 in
theorem w_triple {L : Nat} {A1 : Int → Int} {i : Int} {h : am_H} (hL : L ≤ 3072) (hR : ∀ k, am_R (A1 k)) (h0 : 0 ≤ i) (h1 : i + 6 ≤ (L : Int)) (hI : INV L A1 h) (w : ∀ h2, INV L A1 h2 → am_W (am_ev am_prog 11) T_Law_law am_LQ (535, am_LS i, [], h2)) : am_W (am_ev am_prog 11) T_Law_law am_LQ (334, am_LS i, [], h) := by
  obtain ⟨B1, B2, f, a, j, ms, P, rfl, hA⟩ := hI
  have ha : a 1 = A1 := hA.2.2.2.2.2.2.2
  subst ha
  refine am_W.cv 0 m_MT_triple rfl rfl rfl rfl (by repeat' first | exact okS hL (by omega) (by omega) | exact okI rfl rfl rfl | exact hR _ | trivial | refine And.intro ?_ ?_) (p_triple hA (a 1 (i + 1)) (a 1 (i + 2)) (hR _) (hR _)) ?_
  rintro v1 h1' ⟨y, C1, C2, f1, a1, j1, rfl, hy, rfl, e1, hm⟩
  rw [← e1] at hm
  refine am_W.cv 10 m_Mo_triple rfl rfl rfl rfl (by repeat' first | exact okS hL (by omega) (by omega) | exact okI rfl rfl rfl | exact hR _ | trivial | refine And.intro ?_ ?_) hm ?_
  rintro v2 h2' ⟨rfl, hN⟩
  rw [e1] at hN
  exact am_W.br rfl rfl ⟨trivial, hy, hy⟩ (fun z => w _ hN) (fun z => absurd rfl z)
set_option maxHeartbeats 400000 in
set_option maxRecDepth 100000 in
theorem w_byteOf {L : Nat} {A1 : Int → Int} {i : Int} {h : am_H} (hL : L ≤ 3072) (hR : ∀ k, am_R (A1 k)) (h0 : 0 ≤ i) (h1 : i + 6 ≤ (L : Int)) (hI : INV L A1 h) (w : ∀ h2, INV L A1 h2 → am_W (am_ev am_prog 11) T_Law_law am_LQ (535, am_LS i, [], h2)) : am_W (am_ev am_prog 11) T_Law_law am_LQ (367, am_LS i, [], h) := by
  obtain ⟨B1, B2, f, a, j, ms, P, rfl, hA⟩ := hI
  have ha : a 1 = A1 := hA.2.2.2.2.2.2.2
  subst ha
  refine am_W.cv 0 m_MT_byteOf rfl rfl rfl rfl (by repeat' first | exact okS hL (by omega) (by omega) | exact okI rfl rfl rfl | exact hR _ | trivial | refine And.intro ?_ ?_) (p_byteOf hA (a 1 (i + 1)) (a 1 (i + 2)) (a 1 (i + 3)) (hR _) (hR _) (hR _)) ?_
  rintro v1 h1' ⟨y, C1, C2, f1, a1, j1, rfl, hy, rfl, e1, hm⟩
  rw [← e1] at hm
  refine am_W.cv 10 m_Mo_byteOf rfl rfl rfl rfl (by repeat' first | exact okS hL (by omega) (by omega) | exact okI rfl rfl rfl | exact hR _ | trivial | refine And.intro ?_ ?_) hm ?_
  rintro v2 h2' ⟨rfl, hN⟩
  rw [e1] at hN
  exact am_W.br rfl rfl ⟨trivial, hy, hy⟩ (fun z => w _ hN) (fun z => absurd rfl z)
set_option maxHeartbeats 400000 in
set_option maxRecDepth 100000 in
theorem w_which {L : Nat} {A1 : Int → Int} {i : Int} {h : am_H} (hL : L ≤ 3072) (hR : ∀ k, am_R (A1 k)) (h0 : 0 ≤ i) (h1 : i + 6 ≤ (L : Int)) (hI : INV L A1 h) (w : ∀ h2, INV L A1 h2 → am_W (am_ev am_prog 11) T_Law_law am_LQ (535, am_LS i, [], h2)) : am_W (am_ev am_prog 11) T_Law_law am_LQ (410, am_LS i, [], h) := by
  obtain ⟨B1, B2, f, a, j, ms, P, rfl, hA⟩ := hI
  have ha : a 1 = A1 := hA.2.2.2.2.2.2.2
  subst ha
  refine am_W.cv 0 m_MT_which rfl rfl rfl rfl (by repeat' first | exact okS hL (by omega) (by omega) | exact okI rfl rfl rfl | exact hR _ | trivial | refine And.intro ?_ ?_) (p_which hA (a 1 (i + 1)) (a 1 (i + 2)) (a 1 (i + 3)) (hR _) (hR _) (hR _)) ?_
  rintro v1 h1' ⟨y, C1, C2, f1, a1, j1, rfl, hy, rfl, e1, hm⟩
  rw [← e1] at hm
  refine am_W.cv 10 m_Mo_which rfl rfl rfl rfl (by repeat' first | exact okS hL (by omega) (by omega) | exact okI rfl rfl rfl | exact hR _ | trivial | refine And.intro ?_ ?_) hm ?_
  rintro v2 h2' ⟨rfl, hN⟩
  rw [e1] at hN
  exact am_W.br rfl rfl ⟨trivial, hy, hy⟩ (fun z => w _ hN) (fun z => absurd rfl z)
set_option maxHeartbeats 400000 in
set_option maxRecDepth 100000 in
theorem w_bads {L : Nat} {A1 : Int → Int} {i : Int} {h : am_H} (hL : L ≤ 3072) (hR : ∀ k, am_R (A1 k)) (h0 : 0 ≤ i) (h1 : i + 6 ≤ (L : Int)) (hI : INV L A1 h) (w : ∀ h2, INV L A1 h2 → am_W (am_ev am_prog 11) T_Law_law am_LQ (535, am_LS i, [], h2)) : am_W (am_ev am_prog 11) T_Law_law am_LQ (453, am_LS i, [], h) := by
  obtain ⟨B1, B2, f, a, j, ms, P, rfl, hA⟩ := hI
  have ha : a 1 = A1 := hA.2.2.2.2.2.2.2
  subst ha
  refine am_W.cv 0 m_MT_bads rfl rfl rfl rfl (by repeat' first | exact okS hL (by omega) (by omega) | exact okI rfl rfl rfl | exact hR _ | trivial | refine And.intro ?_ ?_) (p_bads hA ) ?_
  rintro v1 h1' ⟨y, C1, C2, f1, a1, j1, rfl, hy, rfl, e1, hm⟩
  refine am_W.cv 10 m_Mo_bads rfl rfl rfl rfl (by repeat' first | exact okS hL (by omega) (by omega) | exact okI rfl rfl rfl | exact hR _ | trivial | refine And.intro ?_ ?_) hm ?_
  rintro v2 h2' ⟨rfl, hN⟩
  exact am_W.br rfl rfl ⟨trivial, hy, hy⟩ (fun z => w _ hN) (fun z => absurd rfl z)
set_option maxHeartbeats 400000 in
set_option maxRecDepth 100000 in
theorem w_bad {L : Nat} {A1 : Int → Int} {i : Int} {h : am_H} (hL : L ≤ 3072) (hR : ∀ k, am_R (A1 k)) (h0 : 0 ≤ i) (h1 : i + 6 ≤ (L : Int)) (hI : INV L A1 h) (w : ∀ h2, INV L A1 h2 → am_W (am_ev am_prog 11) T_Law_law am_LQ (535, am_LS i, [], h2)) : am_W (am_ev am_prog 11) T_Law_law am_LQ (466, am_LS i, [], h) := by
  obtain ⟨B1, B2, f, a, j, ms, P, rfl, hA⟩ := hI
  have ha : a 1 = A1 := hA.2.2.2.2.2.2.2
  subst ha
  refine am_W.cv 0 m_MT_bad rfl rfl rfl rfl (by repeat' first | exact okS hL (by omega) (by omega) | exact okI rfl rfl rfl | exact hR _ | trivial | refine And.intro ?_ ?_) (p_bad hA (a 1 (i + 1)) (a 1 (i + 2)) (hR _) (hR _)) ?_
  rintro v1 h1' ⟨y, C1, C2, f1, a1, j1, rfl, hy, rfl, e1, hm⟩
  rw [← e1] at hm
  refine am_W.cv 10 m_Mo_bad rfl rfl rfl rfl (by repeat' first | exact okS hL (by omega) (by omega) | exact okI rfl rfl rfl | exact hR _ | trivial | refine And.intro ?_ ?_) hm ?_
  rintro v2 h2' ⟨rfl, hN⟩
  rw [e1] at hN
  exact am_W.br rfl rfl ⟨trivial, hy, hy⟩ (fun z => w _ hN) (fun z => absurd rfl z)
set_option maxHeartbeats 400000 in
set_option maxRecDepth 100000 in
theorem w_print {L : Nat} {A1 : Int → Int} {i : Int} {h : am_H} (hL : L ≤ 3072) (hR : ∀ k, am_R (A1 k)) (h0 : 0 ≤ i) (h1 : i + 6 ≤ (L : Int)) (hI : INV L A1 h) (w : ∀ h2, INV L A1 h2 → am_W (am_ev am_prog 11) T_Law_law am_LQ (535, am_LS i, [], h2)) : am_W (am_ev am_prog 11) T_Law_law am_LQ (499, am_LS i, [], h) := by
  obtain ⟨B1, B2, f, a, j, ms, P, rfl, hA⟩ := hI
  have ha : a 1 = A1 := hA.2.2.2.2.2.2.2
  subst ha
  refine am_W.cv 0 m_MT_print rfl rfl rfl rfl (by repeat' first | exact okS hL (by omega) (by omega) | exact okI rfl rfl rfl | exact hR _ | trivial | refine And.intro ?_ ?_) (p_print hA ) ?_
  rintro v1 h1' ⟨y, C1, C2, f1, a1, j1, rfl, hy, rfl, e1, hm⟩
  refine am_W.cv 10 m_Mo_print rfl rfl rfl rfl (by repeat' first | exact okS hL (by omega) (by omega) | exact okI rfl rfl rfl | exact hR _ | trivial | refine And.intro ?_ ?_) hm ?_
  rintro v2 h2' ⟨rfl, hN⟩
  exact am_W.br rfl rfl ⟨trivial, hy, hy⟩ (fun z => w _ hN) (fun z => absurd rfl z)
set_option maxHeartbeats 400000 in
set_option maxRecDepth 100000 in
theorem w_at {L : Nat} {A1 : Int → Int} {i : Int} {h : am_H} (hL : L ≤ 3072) (hR : ∀ k, am_R (A1 k)) (h0 : 0 ≤ i) (h1 : i + 6 ≤ (L : Int)) (hI : INV L A1 h) (w : ∀ h2, INV L A1 h2 → am_W (am_ev am_prog 11) T_Law_law am_LQ (535, am_LS i, [], h2)) : am_W (am_ev am_prog 11) T_Law_law am_LQ (512, am_LS i, [], h) := by
  obtain ⟨B1, B2, f, a, j, ms, P, rfl, hA⟩ := hI
  have ha : a 1 = A1 := hA.2.2.2.2.2.2.2
  subst ha
  refine am_W.cv 0 m_MT_at rfl rfl rfl rfl (by repeat' first | exact okS hL (by omega) (by omega) | exact okI rfl rfl rfl | exact hR _ | trivial | refine And.intro ?_ ?_) (p_at hA (a 1 (i + 1)) (hR _)) ?_
  rintro v1 h1' ⟨y, C1, C2, f1, a1, j1, rfl, hy, rfl, e1, hm⟩
  rw [← e1] at hm
  refine am_W.cv 10 m_Mo_at rfl rfl rfl rfl (by repeat' first | exact okS hL (by omega) (by omega) | exact okI rfl rfl rfl | exact hR _ | trivial | refine And.intro ?_ ?_) hm ?_
  rintro v2 h2' ⟨rfl, hN⟩
  rw [e1] at hN
  exact am_W.br rfl rfl ⟨trivial, hy, hy⟩ (fun z => w _ hN) (fun z => absurd rfl z)
set_option maxHeartbeats 400000 in
set_option maxRecDepth 100000 in
theorem w_type {L : Nat} {A1 : Int → Int} {i : Int} {h : am_H} (hL : L ≤ 3072) (hR : ∀ k, am_R (A1 k)) (h0 : 0 ≤ i) (h1 : i + 6 ≤ (L : Int)) (hI : INV L A1 h) (w : ∀ h2, INV L A1 h2 → am_W (am_ev am_prog 11) T_Law_law am_LQ (535, am_LS i, [], h2)) : am_W (am_ev am_prog 11) T_Law_law am_LQ (245, am_LS i, [], h) := by
  obtain ⟨B1, B2, f, a, j, ms, P, rfl, hA⟩ := hI
  have ha : a 1 = A1 := hA.2.2.2.2.2.2.2
  subst ha
  refine am_W.cv 0 m_MT_type rfl rfl rfl rfl (by repeat' first | exact okS hL (by omega) (by omega) | exact okI rfl rfl rfl | exact hR _ | trivial | refine And.intro ?_ ?_) (p_type hA (am_orJ (am_shlJ (a 1 (i + 1)) 32) (am_andJ (a 1 (i + 2)) 4294967295)) (a 1 (i + 3)) (hR _)) ?_
  rintro v1 h1' ⟨y, C1, C2, f1, a1, j1, rfl, hy, rfl, e1, hm⟩
  rw [← e1] at hm hR
  refine am_W.cv 10 m_Mo_type rfl rfl rfl rfl (by repeat' first | exact okS hL (by omega) (by omega) | exact okI rfl rfl rfl | exact hR _ | trivial | refine And.intro ?_ ?_) hm ?_
  rintro v2 h2' ⟨rfl, hN⟩
  rw [e1] at hN
  exact am_W.br rfl rfl ⟨trivial, hy, hy⟩ (fun z => w _ hN) (fun z => absurd rfl z)
set_option maxHeartbeats 400000 in
set_option maxRecDepth 100000 in
theorem w_change {L : Nat} {A1 : Int → Int} {i : Int} {h : am_H} (hL : L ≤ 3072) (hR : ∀ k, am_R (A1 k)) (h0 : 0 ≤ i) (h1 : i + 6 ≤ (L : Int)) (hI : INV L A1 h) (w : ∀ h2, INV L A1 h2 → am_W (am_ev am_prog 11) T_Law_law am_LQ (535, am_LS i, [], h2)) : am_W (am_ev am_prog 11) T_Law_law am_LQ (186, am_LS i, [], h) := by
  obtain ⟨B1, B2, f, a, j, ms, P, rfl, hA⟩ := hI
  have ha : a 1 = A1 := hA.2.2.2.2.2.2.2
  subst ha
  by_cases hz : a 1 (i + 3) = 0
  · refine am_W.br rfl rfl (by repeat' first | exact okS hL (by omega) (by omega) | exact okI rfl rfl rfl | exact hR _ | trivial | refine And.intro ?_ ?_) (fun z => ?_) (fun z => absurd hz z)
    refine am_W.cv 0 m_MT_change rfl rfl rfl rfl (by repeat' first | exact okS hL (by omega) (by omega) | exact okI rfl rfl rfl | exact hR _ | trivial | refine And.intro ?_ ?_) (p_change hA (a 1 (i + 1)) (a 1 (i + 2)) 0 (hR _) (hR _) (Or.inl rfl)) ?_
    rintro v1 h1' ⟨y, C1, C2, f1, a1, j1, rfl, hy, rfl, e1, hm⟩
    rw [← e1] at hm hR hz
    refine am_W.br rfl rfl (by repeat' first | exact okS hL (by omega) (by omega) | exact okI rfl rfl rfl | exact hR _ | trivial | refine And.intro ?_ ?_) (fun z => ?_) (fun z => absurd hz z)
    refine am_W.cv 10 m_Mo_change rfl rfl rfl rfl (by repeat' first | exact okS hL (by omega) (by omega) | exact okI rfl rfl rfl | exact hR _ | trivial | refine And.intro ?_ ?_) hm ?_
    rintro v2 h2' ⟨rfl, hN⟩
    rw [e1] at hN
    exact am_W.br rfl rfl ⟨trivial, hy, hy⟩ (fun z => w _ hN) (fun z => absurd rfl z)
  · refine am_W.br rfl rfl (by repeat' first | exact okS hL (by omega) (by omega) | exact okI rfl rfl rfl | exact hR _ | trivial | refine And.intro ?_ ?_) (fun z => absurd z hz) (fun z => ?_)
    refine am_W.cv 0 m_MT_change rfl rfl rfl rfl (by repeat' first | exact okS hL (by omega) (by omega) | exact okI rfl rfl rfl | exact hR _ | trivial | refine And.intro ?_ ?_) (p_change hA (a 1 (i + 1)) (a 1 (i + 2)) 1 (hR _) (hR _) (Or.inr rfl)) ?_
    rintro v1 h1' ⟨y, C1, C2, f1, a1, j1, rfl, hy, rfl, e1, hm⟩
    rw [← e1] at hm hR hz
    refine am_W.br rfl rfl (by repeat' first | exact okS hL (by omega) (by omega) | exact okI rfl rfl rfl | exact hR _ | trivial | refine And.intro ?_ ?_) (fun z => absurd z hz) (fun z => ?_)
    refine am_W.cv 10 m_Mo_change rfl rfl rfl rfl (by repeat' first | exact okS hL (by omega) (by omega) | exact okI rfl rfl rfl | exact hR _ | trivial | refine And.intro ?_ ?_) hm ?_
    rintro v2 h2' ⟨rfl, hN⟩
    rw [e1] at hN
    exact am_W.br rfl rfl ⟨trivial, hy, hy⟩ (fun z => w _ hN) (fun z => absurd rfl z)
set_option maxHeartbeats 400000 in
set_option maxRecDepth 100000 in
theorem l_law {L : Nat} {A1 : Int → Int} (hL : L ≤ 3072) (hR : ∀ k, am_R (A1 k)) : ∀ (n : Nat) (i : Int) (h : am_H), 0 ≤ i → i ≤ (L : Int) → (L : Int) - i ≤ (n : Int) → INV L A1 h → am_W (am_ev am_prog 11) T_Law_law am_LQ (18, am_LS i, [], h) := by
  intro n
  induction n with
  | zero =>
    intro i h h0 hi hn hI
    obtain ⟨B1, B2, f, a, j, ms, P, rfl, hA⟩ := hI
    have eL : ((am_c (HH L B1 B2 f a j) 1).2 : Int) = (L : Int) := rfl
    refine am_W.br rfl rfl ⟨⟨trivial, Or.inl rfl, rfl⟩, ⟨by omega, by omega⟩, ⟨by rw [eL]; omega, by rw [eL]; omega⟩⟩ (fun z => ?_) (fun z => absurd (by rw [eL]; omega) z)
    exact am_W.rt rfl rfl ⟨trivial, Or.inr rfl⟩ ⟨rfl, by show (170 : Nat) ≤ 600016; omega, by show (242178 : Nat) ≤ 7302250; omega⟩
  | succ n ih =>
    intro i h h0 hi hn hI
    obtain ⟨B1, B2, f, a, j, ms, P, rfl, hA⟩ := id hI
    have eL : ((am_c (HH L B1 B2 f a j) 1).2 : Int) = (L : Int) := rfl
    by_cases h1 : i + 6 ≤ (L : Int)
    · refine am_W.br rfl rfl ⟨⟨trivial, Or.inl rfl, rfl⟩, ⟨by omega, by omega⟩, ⟨by rw [eL]; omega, by rw [eL]; omega⟩⟩ (fun z => absurd z (by rw [eL]; omega)) (fun z => ?_)
      have hw : ∀ h2, INV L A1 h2 → am_W (am_ev am_prog 11) T_Law_law am_LQ (535, am_LS i, [], h2) := fun h2 hh => am_W.gp 18 rfl trivial (ih (i + 6) h2 (by omega) (by omega) (by omega) hh)
      refine am_W.sw rfl rfl ⟨⟨trivial, okS hL (by omega) (by omega)⟩, am_toI _⟩ (fun k tg hm hx => ?_) (fun hn => hw _ hI)
      simp only [List.mem_cons, Prod.mk.injEq, List.not_mem_nil, or_false] at hm
      rcases hm with ⟨rfl, rfl⟩ | ⟨rfl, rfl⟩ | ⟨rfl, rfl⟩ | ⟨rfl, rfl⟩ | ⟨rfl, rfl⟩ | ⟨rfl, rfl⟩ | ⟨rfl, rfl⟩ | ⟨rfl, rfl⟩ | ⟨rfl, rfl⟩ | ⟨rfl, rfl⟩ | ⟨rfl, rfl⟩ | ⟨rfl, rfl⟩ | ⟨rfl, rfl⟩
      · exact w_source hL hR h0 h1 hI hw
      · exact w_row hL hR h0 h1 hI hw
      · exact w_change hL hR h0 h1 hI hw
      · exact w_type hL hR h0 h1 hI hw
      · exact w_read hL hR h0 h1 hI hw
      · exact w_triples hL hR h0 h1 hI hw
      · exact w_triple hL hR h0 h1 hI hw
      · exact w_byteOf hL hR h0 h1 hI hw
      · exact w_which hL hR h0 h1 hI hw
      · exact w_bads hL hR h0 h1 hI hw
      · exact w_bad hL hR h0 h1 hI hw
      · exact w_print hL hR h0 h1 hI hw
      · exact w_at hL hR h0 h1 hI hw
    · refine am_W.br rfl rfl ⟨⟨trivial, Or.inl rfl, rfl⟩, ⟨by omega, by omega⟩, ⟨by rw [eL]; omega, by rw [eL]; omega⟩⟩ (fun z => ?_) (fun z => absurd (by rw [eL]; omega) z)
      exact am_W.rt rfl rfl ⟨trivial, Or.inr rfl⟩ ⟨rfl, by show (170 : Nat) ≤ 600016; omega, by show (242178 : Nat) ≤ 7302250; omega⟩
