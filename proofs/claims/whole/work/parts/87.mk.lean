-- the class's triples, made
theorem oth_p {D : DT} {x : MT} {r : Int} : ∀ (k : Nat) (o : Int), (oth D x r k o).Pairwise (· < ·)
  | 0, _ => List.Pairwise.nil
  | k + 1, o => by
    by_cases hq : ce D x.2.2.2.2.1.1 o x.2.2.2.1.2.1 ≠ -1 ∧ jn D x r o
    · rw [oth_y hq]
      refine List.pairwise_cons.mpr ⟨fun v hv => ?_, oth_p k (o + 1)⟩
      have := (oth_in (D := D) (x := x) (r := r) k (o + 1)).2 v hv
      omega
    · rw [oth_n hq]
      exact oth_p k (o + 1)
theorem rwW_p {D : DT} {x : MT} {r pair : Int} : (rwW D x r pair).Pairwise (· < ·) := by
  unfold rwW
  split
  · refine List.pairwise_map.mpr ?_
    have h : (rwO D x r).Pairwise (· < ·) := by
      unfold rwO
      split
      · split
        · exact List.pairwise_singleton _ _
        · exact List.Pairwise.nil
      · exact oth_p _ _
    exact h.imp (fun {a b} hab => by omega)
  · exact List.Pairwise.nil
theorem mW_p {D : DT} (hI : DI D) {x : MT} {i : Int} : ∀ (k : Nat) (r : Int), (mW D x i k r).Pairwise (· < ·)
  | 0, _ => List.Pairwise.nil
  | k + 1, r => by
    unfold mW
    refine List.pairwise_append.mpr ⟨?_, mW_p hI k (r + 1), ?_⟩
    · split
      · exact rwW_p
      · exact List.Pairwise.nil
    · intro a ha b hb
      have h1 := (mW_in (x := x) (i := i) hI k (r + 1)).2.2 b hb
      by_cases hg : gvs D x r
      · rw [if_pos hg] at ha
        have h2 := (rwW_in (x := x) (r := r) (pair := i * 16 + r) hI).2 a ha
        omega
      · rw [if_neg hg] at ha
        cases ha
theorem aW_in {D : DT} (hI : DI D) : ∀ (ms : List MT) (i : Int), ((aW D ms i).length : Int) ≤ 256 * ms.length ∧ ((aB D ms i).length : Int) ≤ 16 * ms.length ∧ (aW D ms i).Pairwise (· < ·) ∧ ∀ v ∈ aW D ms i, i * 256 ≤ v ∧ v < (i + ms.length) * 256
  | [], i => ⟨by show ((0 : Nat) : Int) ≤ _; omega, by show ((0 : Nat) : Int) ≤ _; omega, List.Pairwise.nil, fun v hv => (by cases hv)⟩
  | x :: ms, i => by
    obtain ⟨h1, h2, h3, h4⟩ := aW_in hI ms (i + 1)
    obtain ⟨m1, m2, m3⟩ := mW_in (x := x) (i := i) hI (ro D x.1).toNat 0
    have hro := ro_in x.1 hI
    unfold aW aB
    rw [List.length_append, List.length_append, List.length_cons]
    refine ⟨by omega, by omega, List.pairwise_append.mpr ⟨mW_p hI _ _, h3, fun a ha b hb => ?_⟩, fun v hv => ?_⟩
    · have := m3 a ha
      have := h4 b hb
      omega
    · rcases List.mem_append.mp hv with h | h
      · have := m3 v h
        omega
      · have := h4 v h
        omega
theorem TMf_ok {D : DT} (hI : DI D) {ms : List MT} (hw : ∀ x ∈ ms, wfM D x) {w t : Int} (h : w ∈ aW D ms 0) (ht : 0 ≤ t ∧ t < 3) : tOK (TMf D ms w t) := by
  obtain ⟨m, x, r, o, h1, h2, h3, h4, h5, h6, h7⟩ := (aW_m hI ms 0 w).mp h
  have hro := ro_in x.1 hI
  have e : TMf D ms w t = tmx D x r o t := by
    unfold TMf
    rw [h2, show ((0 + (m : Int)) * 16 + r) * 16 + o = ((m : Int) * 16 + r) * 16 + o by omega, show (((m : Int) * 16 + r) * 16 + o) / 256 = m by omega, show (((m : Int) * 16 + r) * 16 + o) / 16 % 16 = r by omega, show (((m : Int) * 16 + r) * 16 + o) % 16 = o by omega, Int.toNat_natCast, List.getD_eq_getElem?_getD, h1]
    rfl
  rw [e]
  exact tmx_ok hI (hw x (List.mem_of_getElem? h1)) h5.2.2 h6 h7 ht
def GVc (D : DT) (ms : List MT) (f : Nat → Nat → Int) (a j : Nat → Int → Int) : Prop := f 30 25 = ((aB D ms 0).length : Int) ∧ (∀ (i : Nat) (p : Int × Int), (aB D ms 0)[i]? = some p → a 34 (i : Int) = p.1 ∧ a 35 (i : Int) = p.2) ∧ (∀ w ∈ aW D ms 0, ∀ t k, 0 ≤ t → t < 3 → 0 ≤ k → k < 3 → WO j w t k = wd (TMf D ms w t).1 (TMf D ms w t).2 k) ∧ (∀ (i : Nat) (x : MT), ms[i]? = some x → a 29 (i : Int) = grf x) ∧ (∀ w ∈ aW D ms 0, wok a j w) ∧ ∃ (S : List Int) (g0 g3 : Int → Int) (t : Int), S.Pairwise (ltW (cmW a j)) ∧ S.Perm (aW D ms 0) ∧ sgm (a 30) 0 S.length = S ∧ f 27 25 = t ∧ a 32 = up g3 t (S.length : Int) ∧ (∀ q, 0 ≤ q → q < 1536 → g0 q = -1) ∧ NI (cmW a j) (a 30) g0 (S.length : Int) t g3 (a 33)
theorem grf_in {D : DT} {x : MT} (hw : wfM D x) : 0 ≤ grf x ∧ grf x < 10 := by
  have := hw.2.2.2.2.2
  unfold grf
  split <;> omega
theorem wok_make {D : DT} (hI : DI D) {ms : List MT} (h6 : ms.length ≤ 6) (hw : ∀ x ∈ ms, wfM D x) {a j : Nat → Int → Int} (hg : ∀ (i : Nat) (x : MT), ms[i]? = some x → a 29 (i : Int) = grf x) {w : Int} (h : w ∈ aW D ms 0) (hW : ∀ t k, 0 ≤ t → t < 3 → 0 ≤ k → k < 3 → WO j w t k = wd (TMf D ms w t).1 (TMf D ms w t).2 k) : wok a j w := by
  have hin := (aW_in hI ms 0).2.2.2 w h
  obtain ⟨m, x, r, o, h1, h2, h3, h4, h5, h6', h7⟩ := (aW_m hI ms 0 w).mp h
  have hro := ro_in x.1 hI
  have hb : ∀ t k, 0 ≤ t → t < 3 → 0 ≤ k → k < 3 → 0 ≤ WO j w t k ∧ WO j w t k < 216172782113783808 := by
    intro t k t0 t1 k0 k1
    rw [hW t k t0 t1 k0 k1]
    have ho := TMf_ok hI hw h ⟨t0, t1⟩
    exact wd_b _ _ _ ho.1 ho.2.1
  refine ⟨by omega, hb, ?_, ?_⟩
  · have h20 := hb 2 0 (by omega) (by omega) (by omega) (by omega)
    unfold WO at h20
    by_cases hz : j 28 w = 0
    · rw [hz]
      exact ⟨by decide, by decide⟩
    · rw [if_pos ⟨rfl, hz⟩, if_pos rfl] at h20
      exact ⟨by omega, by omega⟩
  · have e : w / 256 = (m : Int) := by omega
    rw [e, hg m x h1]
    exact grf_in (hw x (List.mem_of_getElem? h1))
set_option maxHeartbeats 400000 in
set_option maxRecDepth 100000 in
theorem c_make (d L B1 B2 : Nat) (fi : Nat → Nat → Int) (ai aj : Nat → Int → Int) (B : Nat) (hB : B = 38 ∨ B = 82) (hI : DI (DD fi ai)) (ms : List MT) (h6 : ms.length ≤ 6) (hr : RepL fi ai B ms) (hw : ∀ x ∈ ms, wfM (DD fi ai) x) (hst : (fi 31 25 = 0 ∧ GVc (DD fi ai) ms fi ai aj) ∨ fi 31 25 = 1) : am_M am_prog (d + 7) m_Gi_make [.inr (.inr 25), .inr (.inr B), .inr (.inr 17)] (HH L B1 B2 fi ai aj) (fun v h' => v = none ∧ ∃ f' a' j', h' = HH L B1 B2 f' a' j' ∧ FK fi f' ai a' aj j' ∧ f' 31 25 = 0 ∧ GVc (DD fi ai) ms f' a' j') := by
  have ok25 : ∀ f a j, am_ok (HH L B1 B2 f a j) 25 4 := fun f a j => okI rfl rfl rfl
  refine am_W.of rfl rfl ?_
  rcases hst with ⟨h0, hG⟩ | h1
  · have e31 : am_fi (HH L B1 B2 fi ai aj) 31 25 = 0 := h0
    refine am_W.br rfl rfl ⟨⟨trivial, ok25 _ _ _⟩, by rw [e31]; exact ⟨by omega, by omega⟩⟩ (fun c => absurd e31 c) (fun c => ?_)
    exact am_W.rt rfl rfl ⟨trivial, trivial⟩ ⟨rfl, fi, ai, aj, rfl, FK.rf, h0, hG⟩
  · have e31 : am_fi (HH L B1 B2 fi ai aj) 31 25 = 1 := h1
    refine am_W.br rfl rfl ⟨⟨trivial, ok25 _ _ _⟩, by rw [e31]; exact ⟨by omega, by omega⟩⟩ (fun c => ?_) (fun c => absurd (by rw [e31]; decide) c)
    generalize hf1 : am_u2 (am_u2 (am_u2 fi 31 25 0) 24 25 0) 30 25 0 = f1
    refine am_W.cs rfl rfl rfl ⟨⟨⟨⟨trivial, ok25 _ _ _, Or.inl rfl⟩, ok25 _ _ _⟩, ok25 _ _ _⟩, ok25 _ _ _⟩ (c_fill (d + 5) L B1 B2 (am_u2 (am_u2 (am_u2 fi 31 25 0) 24 25 0) 30 25 0) ai aj) ?_
    rintro w1 h1' ⟨rfl, g0, rfl, hg0⟩
    rw [hf1]
    have e1 : f1 31 25 = 0 := by rw [← hf1, u2n (by decide), u2n (by decide), u2s]
    have e2 : f1 24 25 = 0 := by rw [← hf1, u2n (by decide), u2s]
    have e3 : f1 30 25 = 0 := by rw [← hf1, u2s]
    have hF1 : FK fi f1 ai (am_sa ai 33 g0) aj aj := ⟨fun q b p _ => by rw [← hf1, u2a p, u2a p, u2a p], fun b p => san _ _ (by omega), fun _ _ _ => rfl⟩
    refine am_W.gp 33 rfl trivial ?_
    obtain ⟨L1, L2, L3, L4⟩ := aW_in hI ms 0
    refine l_makeMaps d L B1 B2 fi ai aj B hB _ hI ms h6 hr hw g0 ?_ ms [] 0 f1 (am_sa ai 33 g0) aj [] [] none none rfl rfl hF1 e1 (sas _ _ _) (fun i x hx => by simp at hx) ⟨e3, fun i p hp => by simp at hp, e2, fun i p hp => by simp at hp, fun w hw => by cases hw⟩ (fun v hv => by cases hv) (by show ((0 : Nat) : Int) ≤ _; omega) (by show ((0 : Nat) : Int) ≤ _; omega) rfl rfl
    intro f a j l4 l5 hF k31 k33 k29 hG
    obtain ⟨G1, G2, G3, G4, G5⟩ := hG
    have hwk : ∀ w ∈ aW (DD fi ai) ms 0, wok a j w := fun w hww => wok_make hI h6 hw k29 hww (G5 w hww)
    have hN : (aW (DD fi ai) ms 0).length ≤ 1536 := by omega
    have hsg : sgm (a 30) 0 (aW (DD fi ai) ms 0).length = aW (DD fi ai) ms 0 := sgm_of _ 0 (fun i w hww => by rw [Int.zero_add]; exact G4 i w hww)
    refine am_W.cv 4 m_Gi_sortWays rfl rfl rfl rfl ⟨trivial, ok25 _ _ _⟩ (c_sortWays (d + 2) L B1 B2 f a j (aW (DD fi ai) ms 0).length (aW (DD fi ai) ms 0) G3 hN hsg hwk) ?_
    rintro w1 h1' ⟨rfl, a2, rfl, m1, m2⟩
    obtain ⟨s1, s2⟩ := sortF_ok (cmW_ord a j) L3 hN
    generalize hS : sortF (cmW a j) 11 1 (aW (DD fi ai) ms 0) = S at *
    have hSl : S.length = (aW (DD fi ai) ms 0).length := s2.length_eq
    have e29 : a2 29 = a 29 := m1 29 (by decide) (by decide)
    have ecm : cmW a2 j = cmW a j := cmW_of e29
    have hget : ∀ i : Int, 0 ≤ i → i < (S.length : Int) → S[i.toNat]? = some (a2 30 i) := by
      intro i i0 i1
      rw [← m2]
      have h := sgm_get (g := a2 30) (aW (DD fi ai) ms 0).length 0 i.toNat (by omega)
      rw [show (0 : Int) + (i.toNat : Int) = i by omega] at h
      exact h
    have hw2 : ∀ i, 0 ≤ i → i < (S.length : Int) → wok a2 j (a2 30 i) := by
      intro i i0 i1
      exact wok_of (hwk _ (s2.mem_iff.mp (List.mem_of_getElem? (hget i i0 i1)))) e29
    have hd2 : ∀ i k, 0 ≤ k → k < i → i < (S.length : Int) → a2 30 k ≠ a2 30 i := by
      intro i k k0 k1 k2
      have h1 := hget i (by omega) k2
      have h2 := hget k k0 (by omega)
      intro heq
      have hlt : ltW (cmW a j) (a2 30 k) (a2 30 i) := by
        have hp := List.pairwise_iff_getElem.mp s1 k.toNat i.toNat (by omega) (by omega) (by omega)
        have e1 := Option.some.inj ((List.getElem?_eq_getElem (show i.toNat < S.length by omega)).symm.trans h1)
        have e2 := Option.some.inj ((List.getElem?_eq_getElem (show k.toNat < S.length by omega)).symm.trans h2)
        rw [e1, e2] at hp
        exact hp
      rw [heq] at hlt
      have h0 : cmW a j (a2 30 i) (a2 30 i) = 0 := by
        have := (cmW_ord a j).1 (a2 30 i) (a2 30 i)
        omega
      rcases hlt with h | h <;> omega
    rw [← hSl] at G3 m2
    refine am_W.cv 4 m_Gi_numberTriples rfl rfl rfl rfl ⟨trivial, ok25 _ _ _⟩ (c_number (d + 3) L B1 B2 f a2 j S.length G3 (by omega) hw2 hd2) ?_
    rintro w1 h1' ⟨rfl, t, g3, g4, rfl, hNI⟩
    refine am_W.rt rfl rfl ⟨trivial, trivial⟩ ⟨rfl, _, _, _, rfl, ?_, ?_, ?_⟩
    · refine hF.tr ⟨fun q b p _ => u2a p, fun b p => ?_, fun _ _ _ => rfl⟩
      rw [san _ _ (by omega), san _ _ (by omega)]
      exact m1 b (by omega) (by omega)
    · rw [u2n (by decide)]
      exact k31
    · have E29 : am_sa (am_sa a2 32 (up g3 t (S.length : Int))) 33 g4 29 = a 29 := e29
      have Ecm : cmW (am_sa (am_sa a2 32 (up g3 t (S.length : Int))) 33 g4) j = cmW a j := cmW_of E29
      refine ⟨(u2n (by decide)).trans G1, ?_, G5, ?_, fun w hww => wok_of (hwk w hww) E29, S, g0, g3, t, ?_, s2, m2, u2s, rfl, hg0, ?_⟩
      · intro i p hp
        rw [san _ _ (by decide), san _ _ (by decide), san _ _ (by decide), san _ _ (by decide), m1 34 (by decide) (by decide), m1 35 (by decide) (by decide)]
        exact G2 i p hp
      · intro i x hx
        rw [E29]
        exact k29 i x hx
      · rw [Ecm]
        exact s1
      · rw [Ecm, sas]
        rw [ecm] at hNI
        have e33 : a2 33 = g0 := (m1 33 (by decide) (by decide)).trans k33
        rw [e33] at hNI
        exact hNI
