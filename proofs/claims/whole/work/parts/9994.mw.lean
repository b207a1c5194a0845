-- the class's which, change, read
theorem RepL_fr {f f' : Nat → Nat → Int} {a a' : Nat → Int → Int} {B : Nat} {ms : List MT} (hB : B = 38 ∨ B = 82) (h6 : ms.length ≤ 6) (h : RepL f a B ms) (h1 : ∀ j b, B ≤ b → b < B + 44 → f' j b = f j b) (h2 : ∀ b, B ≤ b → b < B + 44 → a' b = a b) : RepL f' a' B ms := by
  refine ⟨(h1 38 B (by omega) (by omega)).trans h.1, fun i x hx => ?_⟩
  have hi := (List.getElem?_eq_some_iff.mp hx).1
  exact (h.2 i x hx).fr (fun j b b0 b1 => h1 j b (by omega) (by omega)) (fun b b0 b1 => h2 b (by omega) (by omega))
set_option maxHeartbeats 400000 in
set_option maxRecDepth 100000 in
theorem c_MT_which (d L B1 B2 : Nat) (fi : Nat → Nat → Int) (ai aj : Nat → Int → Int) (ms : List MT) (P : List Int) (m r o : Int) (hm : am_R m) (hr0 : am_R r) (ho : am_R o) (hB : B1 = 38 ∨ B1 = 82) (hI : DI (DD fi ai)) (h6 : ms.length ≤ 6) (hr : RepL fi ai B1 ms) (hw : ∀ x ∈ ms, wfM (DD fi ai) x) (hst : cSt (DD fi ai) ms fi ai aj) (hP : Lst (cD (DD fi ai) ms) (aW (DD fi ai) ms 0) P) : am_M am_prog (d + 8) m_MT_which [.inr (.inr 16), .inl m, .inl r, .inl o] (HH L B1 B2 fi ai aj) (fun v h' => ∃ y, v = some (.inl y) ∧ WhQ (DD fi ai) ms P m r o y ∧ CE L B1 B2 fi ai aj (DD fi ai) ms h') := by
  have ok16 : ∀ f a j, am_ok (HH L B1 B2 f a j) 16 0 := fun f a j => okI rfl rfl rfl
  have ok17 : ∀ f a j, am_ok (HH L B1 B2 f a j) 17 1 := fun f a j => okI rfl rfl rfl
  have ok25 : ∀ f a j, am_ok (HH L B1 B2 f a j) 25 4 := fun f a j => okI rfl rfl rfl
  have hn4 := hI.1
  have hbad : ∀ l4 l5 pc, (pc = 15 ∨ pc = 68) → (¬ ∃ x, whV (DD fi ai) ms m r o x) → am_W (am_ev am_prog (d + 7)) T_MT_which (fun v h' => ∃ y, v = some (.inl y) ∧ WhQ (DD fi ai) ms P m r o y ∧ CE L B1 B2 fi ai aj (DD fi ai) ms h') (pc, [some (.inr (.inr 16)), some (.inl m), some (.inl r), some (.inl o), l4, l5], [], HH L B1 B2 fi ai aj) := by
    intro l4 l5 pc hpc h
    rcases hpc with rfl | rfl
    · exact am_W.rt rfl rfl ⟨trivial, trivial⟩ ⟨-1, rfl, Or.inl ⟨h, rfl⟩, fi, ai, aj, rfl, FK.rf, hst⟩
    · exact am_W.rt rfl rfl ⟨trivial, trivial⟩ ⟨-1, rfl, Or.inl ⟨h, rfl⟩, fi, ai, aj, rfl, FK.rf, hst⟩
  refine am_W.of rfl rfl ?_
  by_cases h0 : m < 0
  · refine am_W.br rfl rfl ⟨trivial, hm⟩ (fun z => hbad _ _ 15 (Or.inl rfl) (fun ⟨x, q⟩ => absurd q.1 (by omega))) (fun z => absurd h0 z)
  refine am_W.br rfl rfl ⟨trivial, hm⟩ (fun z => absurd z h0) (fun z => ?_)
  obtain ⟨-, -, hCB, hCl, hfl⟩ := MapAt_all L B1 B2 B1 0 hB (by decide)
  have e4 : am_fr (HH L B1 B2 fi ai aj) 4 16 = B1 := rfl
  have e38 : am_fi (HH L B1 B2 fi ai aj) 38 (am_fr (HH L B1 B2 fi ai aj) 4 16) = (ms.length : Int) := hr.1
  have okB : am_ok (HH L B1 B2 fi ai aj) (am_fr (HH L B1 B2 fi ai aj) 4 16) 7 := ⟨by rw [e4]; omega, by rw [e4]; show B1 < 170; omega, by rw [e4]; exact hCB⟩
  by_cases h1 : m < (ms.length : Int)
  · refine am_W.br rfl rfl ⟨⟨⟨trivial, ok16 _ _ _⟩, okB⟩, hm, by rw [e38]; exact ⟨by omega, by omega⟩⟩ (fun z => ?_) (fun z => absurd (by rw [e38]; exact h1) z)
    obtain ⟨hMi, hAi, -, -, -⟩ := MapAt_all L B1 B2 B1 m.toNat hB (by omega)
    obtain ⟨x, hx⟩ : ∃ x, ms[m.toNat]? = some x := ⟨_, List.getElem?_eq_getElem (by omega)⟩
    have emm : ((m.toNat : Nat) : Int) = m := by omega
    have hxm := List.mem_of_getElem? hx
    have hxr := hr.2 _ x hx
    have hro := ro_in x.1 hI
    have hx1 := (hw x hxm).1
    have hroj := ro_in x.2.2.2.2.1.1 hI
    have hjR : -1 ≤ x.2.2.2.2.1.1 ∧ x.2.2.2.2.1.1 < 4 := by
      rcases (hw x hxm).2.2.2.1 with w | w
      · omega
      · rcases w.2.2.2 with w1 | w1 <;> omega
    have hno : ∀ x', whV (DD fi ai) ms m r o x' → x' = x := fun x' h => Option.some.inj (h.2.1.symm.trans hx)
    have ear : am_ar (HH L B1 B2 fi ai aj) (am_fr (HH L B1 B2 fi ai aj) 37 (am_fr (HH L B1 B2 fi ai aj) 4 16)) m = B1 + 2 + 7 * m.toNat := by
      rw [e4]
      show ARR (FRR B1 B2 37 B1) m = _
      rw [hfl, ← emm]
      exact hAi
    have hli : am_okr (HH L B1 B2 fi ai aj) (am_fr (HH L B1 B2 fi ai aj) 37 (am_fr (HH L B1 B2 fi ai aj) 4 16)) 1004 m := by
      rw [e4]
      show am_okr (HH L B1 B2 fi ai aj) (FRR B1 B2 37 B1) 1004 m
      rw [hfl]
      refine ⟨Or.inr ⟨by omega, by show B1 + 1 < 170; omega⟩, ?_, by omega, ?_, by omega⟩
      · show (CC L (B1 + 1)).1 = 1004
        rw [hCl]
      · show m < ((CC L (B1 + 1)).2 : Int)
        rw [hCl]
        show m < 6
        omega
    refine am_W.gp 28 rfl (by repeat' first | exact ok16 _ _ _ | exact okB | exact hli | trivial | refine And.intro ?_ ?_) ?_
    rw [ear]
    generalize hr1 : B1 + 2 + 7 * m.toNat = r1 at hMi hxr
    have hr1b : 26 < r1 := by omega
    have okm : ∀ f a j, am_ok (HH L B1 B2 f a j) r1 8 := fun f a j => HH_ma f a j hMi
    have e39 : am_fi (HH L B1 B2 fi ai aj) 39 r1 = x.1 := hxr.1
    have e43 : am_fi (HH L B1 B2 fi ai aj) 43 r1 = x.2.2.2.2.1.1 := hxr.2.2.2.2.1
    refine am_W.cv 1 m_So_hasRow rfl rfl rfl rfl (by repeat' first | exact ok16 _ _ _ | exact ok17 _ _ _ | exact okm _ _ _ | trivial | refine And.intro ?_ ?_) (by rw [show am_gf (HH L B1 B2 fi ai aj) 39 r1 0 = .inl x.1 from congrArg Sum.inl e39]; exact c_So_hasRow (d + 5) L B1 B2 fi ai aj x.1 r ⟨by omega, by omega⟩ hr0 hI) ?_
    rintro v1 h1' ⟨rfl, rfl⟩
    by_cases h2 : 0 ≤ r ∧ r < ro (DD fi ai) x.1
    · rw [if_pos h2]
      refine am_W.br rfl rfl ⟨trivial, ⟨by omega, by omega⟩⟩ (fun z => absurd z (by decide)) (fun z => ?_)
      have h70 : whV (DD fi ai) ms m r o x → am_W (am_ev am_prog (d + 7)) T_MT_which (fun v h' => ∃ y, v = some (.inl y) ∧ WhQ (DD fi ai) ms P m r o y ∧ CE L B1 B2 fi ai aj (DD fi ai) ms h') (70, [some (.inr (.inr 16)), some (.inl m), some (.inl r), some (.inl o), some (.inr (.inr r1)), none], [], HH L B1 B2 fi ai aj) := by
        intro hv
        refine am_W.cv 4 m_Gi_make rfl rfl rfl rfl (by repeat' first | exact ok16 _ _ _ | exact ok25 _ _ _ | trivial | refine And.intro ?_ ?_) (c_make2 d L B1 B2 fi ai aj B1 hB hI ms h6 hr hw hst) ?_
        rintro w1 h1' ⟨rfl, f', a', j', rfl, g1, g2, g3⟩
        obtain ⟨hQ, -, hQ3⟩ := GQ_of hI h6 hw hP g3
        have hms : ms ≠ [] := by
          rintro rfl
          cases hxm
        have e43' : am_fi (HH L B1 B2 f' a' j') 43 r1 = x.2.2.2.2.1.1 := (g1.1 43 r1 (by omega) (by omega)).trans e43
        have h104 : am_W (am_ev am_prog (d + 7)) T_MT_which (fun v h' => ∃ y, v = some (.inl y) ∧ WhQ (DD fi ai) ms P m r o y ∧ CE L B1 B2 fi ai aj (DD fi ai) ms h') (104, [some (.inr (.inr 16)), some (.inl m), some (.inl r), some (.inl o), some (.inr (.inr r1)), none], [.inl (if x.2.2.2.2.1.1 = -1 then 0 else o), .inl r, .inl m, .inr (.inr 25)], HH L B1 B2 f' a' j') := by
          refine am_W.cs rfl rfl rfl trivial (c_wayOf (d + 6) m r _ _) ?_
          rintro v2 h2' ⟨rfl, rfl⟩
          have hwR : 0 ≤ wyQ x m r o ∧ wyQ x m r o < 1536 := by
            unfold wyQ
            split
            · omega
            · next hj =>
              have := hv.2.2.2 hj
              omega
          refine am_W.cv 4 m_Gi_tripleBy rfl rfl rfl rfl ⟨trivial, ok25 _ _ _⟩ (c_tripleBy (d + 6) L B1 B2 f' a' j' (wyQ x m r o) hwR) ?_
          rintro v3 h3' ⟨rfl, rfl⟩
          obtain ⟨k1, k2⟩ := hQ3 hms _ hwR.1 hwR.2
          have hl := hQ.1
          by_cases hy : wyQ x m r o ∈ aW (DD fi ai) ms 0
          · obtain ⟨i, i1, i2, i3⟩ := k2 hy
            rw [i2]
            refine am_W.br rfl rfl ⟨trivial, ⟨by omega, by omega⟩⟩ (fun z => ?_) (fun z => absurd (by omega) z)
            exact am_W.rt rfl rfl ⟨trivial, trivial⟩ ⟨(i : Int), rfl, Or.inr ⟨x, hv, Or.inr ⟨hy, i, i1, rfl, i3⟩⟩, f', a', j', rfl, g1, Or.inl ⟨g2, g3⟩⟩
          · rw [k1 hy]
            refine am_W.br rfl rfl ⟨trivial, ⟨by omega, by omega⟩⟩ (fun z => absurd z (by omega)) (fun z => ?_)
            exact am_W.rt rfl rfl ⟨trivial, trivial⟩ ⟨-3, rfl, Or.inr ⟨x, hv, Or.inl ⟨hy, rfl⟩⟩, f', a', j', rfl, g1, Or.inl ⟨g2, g3⟩⟩
        refine am_W.cv 8 m_Ma_isJoin rfl rfl rfl rfl (by repeat' first | exact ok16 _ _ _ | exact okm _ _ _ | trivial | refine And.intro ?_ ?_) (c_isJoin (d + 6) L B1 B2 f' a' j' r1 (HH L B1 B2 f' a' j') (okm _ _ _) (by rw [e43']; exact ⟨by omega, by omega⟩)) ?_
        rintro v2 h2' ⟨rfl, rfl⟩
        rw [e43']
        by_cases hj : x.2.2.2.2.1.1 = -1
        · rw [if_pos hj] at h104 ⊢
          refine am_W.br rfl rfl ⟨trivial, ⟨by omega, by omega⟩⟩ (fun z => ?_) (fun z => absurd rfl z)
          exact am_W.gp 104 rfl trivial h104
        · rw [if_neg hj] at h104 ⊢
          refine am_W.br rfl rfl ⟨trivial, ⟨by omega, by omega⟩⟩ (fun z => absurd z (by decide)) (fun z => ?_)
          exact am_W.gp 104 rfl trivial h104
      refine am_W.cv 8 m_Ma_isJoin rfl rfl rfl rfl (by repeat' first | exact ok16 _ _ _ | exact okm _ _ _ | trivial | refine And.intro ?_ ?_) (c_isJoin (d + 6) L B1 B2 fi ai aj r1 (HH L B1 B2 fi ai aj) (okm _ _ _) (by rw [e43]; exact ⟨by omega, by omega⟩)) ?_
      rintro v2 h2' ⟨rfl, rfl⟩
      rw [e43]
      by_cases hj : x.2.2.2.2.1.1 = -1
      · rw [if_pos hj]
        refine am_W.br rfl rfl ⟨trivial, ⟨by omega, by omega⟩⟩ (fun z => ?_) (fun z => absurd rfl z)
        exact h70 ⟨by omega, hx, h2, fun q => absurd hj q⟩
      · rw [if_neg hj]
        refine am_W.br rfl rfl ⟨trivial, ⟨by omega, by omega⟩⟩ (fun z => absurd z (by decide)) (fun z => ?_)
        refine am_W.cv 1 m_So_hasRow rfl rfl rfl rfl (by repeat' first | exact ok16 _ _ _ | exact ok17 _ _ _ | exact okm _ _ _ | trivial | refine And.intro ?_ ?_) (by rw [show am_gf (HH L B1 B2 fi ai aj) 43 r1 0 = .inl x.2.2.2.2.1.1 from congrArg Sum.inl e43]; exact c_So_hasRow (d + 5) L B1 B2 fi ai aj x.2.2.2.2.1.1 o ⟨by omega, by omega⟩ ho hI) ?_
        rintro v3 h3' ⟨rfl, rfl⟩
        by_cases h3 : 0 ≤ o ∧ o < ro (DD fi ai) x.2.2.2.2.1.1
        · rw [if_pos h3]
          refine am_W.br rfl rfl ⟨trivial, ⟨by omega, by omega⟩⟩ (fun z => ?_) (fun z => absurd (by decide) z)
          exact h70 ⟨by omega, hx, h2, fun _ => h3⟩
        · rw [if_neg h3]
          refine am_W.br rfl rfl ⟨trivial, ⟨by omega, by omega⟩⟩ (fun z => absurd rfl z) (fun z => ?_)
          refine hbad _ _ 68 (Or.inr rfl) ?_
          rintro ⟨x', hv⟩
          have := hno x' hv
          subst this
          exact h3 (hv.2.2.2 hj)
    · rw [if_neg h2]
      refine am_W.br rfl rfl ⟨trivial, ⟨by omega, by omega⟩⟩ (fun z => ?_) (fun z => absurd rfl z)
      refine hbad _ _ 68 (Or.inr rfl) ?_
      rintro ⟨x', hv⟩
      have := hno x' hv
      subst this
      exact h2 hv.2.2.1
  · refine am_W.br rfl rfl ⟨⟨⟨trivial, ok16 _ _ _⟩, okB⟩, hm, by rw [e38]; exact ⟨by omega, by omega⟩⟩ (fun z => absurd z (by rw [e38]; exact h1)) (fun z => ?_)
    refine hbad _ _ 15 (Or.inl rfl) ?_
    rintro ⟨x', hv⟩
    have := (List.getElem?_eq_some_iff.mp hv.2.1).1
    have := hv.1
    omega
def chC (L B1 B2 : Nat) (fi : Nat → Nat → Int) (ai aj : Nat → Int → Int) (D : DT) (ms : List MT) (P : List Int) (s r v : Int) : Option am_V → am_H → Prop := fun w h' => (¬ (0 ≤ r ∧ r < ro D s) ∧ w = some (.inl (-1)) ∧ h' = HH L B1 B2 fi ai aj) ∨ ((0 ≤ r ∧ r < ro D s) ∧ th D s r = v ∧ w = some (.inl 0) ∧ h' = HH L B1 B2 fi ai aj) ∨ ((0 ≤ r ∧ r < ro D s) ∧ ¬ th D s r = v ∧ ∃ P' f' a' j', Lst (cD (chD D s r v) ms) (aW (chD D s r v) ms 0) P' ∧ w = some (.inl (if 0 ≤ (P'.length : Int) - (P.length : Int) then (P'.length : Int) - (P.length : Int) else 0 - ((P'.length : Int) - (P.length : Int)))) ∧ h' = HH L B1 B2 f' a' j' ∧ FK fi f' (am_sa ai 20 (up (ai 20) (s * 16 + r) v)) a' aj j' ∧ cSt (chD D s r v) ms f' a' j')
set_option maxHeartbeats 400000 in
set_option maxRecDepth 100000 in
theorem c_MT_change (d L B1 B2 : Nat) (fi : Nat → Nat → Int) (ai aj : Nat → Int → Int) (ms : List MT) (P : List Int) (s r v : Int) (hs : am_R s) (hr0 : am_R r) (hv : v = 0 ∨ v = 1) (hB : B1 = 38 ∨ B1 = 82) (hI : DI (DD fi ai)) (h6 : ms.length ≤ 6) (hr : RepL fi ai B1 ms) (hw : ∀ x ∈ ms, wfM (DD fi ai) x) (hst : cSt (DD fi ai) ms fi ai aj) (hP : Lst (cD (DD fi ai) ms) (aW (DD fi ai) ms 0) P) : am_M am_prog (d + 8) m_MT_change [.inr (.inr 16), .inl s, .inl r, .inl v] (HH L B1 B2 fi ai aj) (chC L B1 B2 fi ai aj (DD fi ai) ms P s r v) := by
  have ok16 : ∀ f a j, am_ok (HH L B1 B2 f a j) 16 0 := fun f a j => okI rfl rfl rfl
  have ok17 : ∀ f a j, am_ok (HH L B1 B2 f a j) 17 1 := fun f a j => okI rfl rfl rfl
  have ok25 : ∀ f a j, am_ok (HH L B1 B2 f a j) 25 4 := fun f a j => okI rfl rfl rfl
  refine am_W.of rfl rfl ?_
  refine am_W.cv 1 m_So_hasRow rfl rfl rfl rfl (by repeat' first | exact ok16 _ _ _ | exact ok17 _ _ _ | trivial | refine And.intro ?_ ?_) (c_So_hasRow (d + 5) L B1 B2 fi ai aj s r hs hr0 hI) ?_
  rintro v1 h1' ⟨rfl, rfl⟩
  by_cases h1 : 0 ≤ r ∧ r < ro (DD fi ai) s
  · rw [if_pos h1]
    refine am_W.br rfl rfl ⟨trivial, ⟨by omega, by omega⟩⟩ (fun z => ?_) (fun z => absurd (by decide) z)
    refine am_W.cv 1 m_So_isThere rfl rfl rfl rfl (by repeat' first | exact ok16 _ _ _ | exact ok17 _ _ _ | trivial | refine And.intro ?_ ?_) (c_So_isThere (d + 4) L B1 B2 fi ai aj s r hs hr0 hI) ?_
    rintro v2 h2' ⟨rfl, rfl⟩
    have h01 := th_01 hI s r
    by_cases h2 : th (DD fi ai) s r = v
    · refine am_W.br rfl rfl ⟨trivial, ⟨by omega, by omega⟩, ⟨by omega, by omega⟩⟩ (fun z => absurd h2 z) (fun z => ?_)
      exact am_W.rt rfl rfl ⟨trivial, trivial⟩ (Or.inr (Or.inl ⟨h1, h2, rfl, rfl⟩))
    · refine am_W.br rfl rfl ⟨trivial, ⟨by omega, by omega⟩, ⟨by omega, by omega⟩⟩ (fun z => ?_) (fun z => absurd h2 z)
      refine am_W.cv 4 m_Gi_make rfl rfl rfl rfl (by repeat' first | exact ok16 _ _ _ | exact ok25 _ _ _ | trivial | refine And.intro ?_ ?_) (c_make2 d L B1 B2 fi ai aj B1 hB hI ms h6 hr hw hst) ?_
      rintro w1 h1' ⟨rfl, f1, a1, j1, rfl, g1, g2, g3⟩
      have hQ := (GQ_of hI h6 hw hP g3).1
      have hl := hQ.1
      have e27 : am_fi (HH L B1 B2 f1 a1 j1) 27 25 = (P.length : Int) := hQ.2.1
      have hD1 : DD f1 a1 = DD fi ai := g1.D
      have hc := c_So_setThere (d + 4) L B1 B2 f1 a1 j1 s r v hs hr0 hv (by rw [hD1]; exact hI) (by rw [hD1]; exact h1)
      refine am_W.gp 53 rfl (by repeat' first | exact ok16 _ _ _ | exact ok25 _ _ _ | trivial | refine And.intro ?_ ?_) ?_
      refine am_W.cv 1 m_So_setThere rfl rfl rfl rfl (by repeat' first | exact ok16 _ _ _ | exact ok17 _ _ _ | trivial | refine And.intro ?_ ?_) hc ?_
      rintro w2 h2' ⟨rfl, rfl⟩
      refine am_W.gp 71 rfl (by repeat' first | exact ok16 _ _ _ | exact ok25 _ _ _ | trivial | exact Or.inr rfl | refine And.intro ?_ ?_) ?_
      simp only [HS, FRS]
      rw [u2_sa]
      have e20 : a1 20 = ai 20 := g1.2.1 20 (by omega)
      have hDI' : DI (chD (DD fi ai) s r v) := DI_th (n := fi 10 17) (c := ai 18) (r := ai 19) (t := ai 20) (f := ai 21) hI hv
      generalize hf2 : am_u2 f1 31 25 1 = f2
      generalize ha2 : am_sa a1 20 (up (a1 20) (s * 16 + r) v) = a2
      have hD2 : DD f2 a2 = chD (DD fi ai) s r v := by
        rw [← hf2, ← ha2, ← hD1]
        rfl
      have e31 : f2 31 25 = 1 := by rw [← hf2]; exact u2s
      have kf2 : ∀ j b, b ≠ 25 → f2 j b = f1 j b := fun j b h => by rw [← hf2]; exact u2a h
      have ka2 : ∀ b, b ≠ 20 → a2 b = a1 b := fun b h => by rw [← ha2]; exact san _ _ h
      have hr2 : RepL f2 a2 B1 ms := RepL_fr hB h6 hr (fun j b b0 b1 => (kf2 j b (by omega)).trans (g1.1 j b (by omega) (by omega))) (fun b b0 b1 => (ka2 b (by omega)).trans (g1.2.1 b (by omega)))
      have hc2 := c_make2 d L B1 B2 f2 a2 j1 B1 hB (by rw [hD2]; exact hDI') ms h6 hr2 (by rw [hD2]; exact hw) (Or.inr e31)
      rw [hD2] at hc2
      refine am_W.cv 4 m_Gi_make rfl rfl rfl rfl (by repeat' first | exact ok16 _ _ _ | exact ok25 _ _ _ | trivial | refine And.intro ?_ ?_) hc2 ?_
      rintro w3 h3' ⟨rfl, f3, a3, j3, rfl, k1, k2, k3⟩
      obtain ⟨-, -, -, -, P', p1, p2, -⟩ := id k3
      have hPl' := Lst_len (cD_ord (chD (DD fi ai) s r v) ms) p1
      have hlen' := (aW_in hDI' ms 0).1
      have e27' : am_fi (HH L B1 B2 f3 a3 j3) 27 25 = (P'.length : Int) := p2
      refine am_W.cs rfl rfl rfl (by repeat' first | exact ok16 _ _ _ | exact ok25 _ _ _ | trivial | refine And.intro ?_ ?_) (am_abs (d := d + 6) (x := am_fi (HH L B1 B2 f3 a3 j3) 27 25 - am_fi (HH L B1 B2 f1 a1 j1) 27 25) (by rw [e27, e27']; exact ⟨by omega, by omega⟩)) ?_
      rintro w4 h4' ⟨rfl, rfl⟩
      rw [e27, e27']
      refine am_W.rt rfl rfl ⟨trivial, trivial⟩ (Or.inr (Or.inr ⟨h1, h2, P', f3, a3, j3, p1, rfl, rfl, ?_, Or.inl ⟨k2, k3⟩⟩))
      refine FK.tr ⟨fun q b b0 b1 => ?_, fun b b0 => ?_, g1.2.2⟩ k1
      · rw [kf2 q b b0]
        exact g1.1 q b b0 b1
      · rw [← ha2, e20]
        unfold am_sa
        split
        · rfl
        · exact g1.2.1 b b0
  · rw [if_neg h1]
    refine am_W.br rfl rfl ⟨trivial, ⟨by omega, by omega⟩⟩ (fun z => absurd rfl z) (fun z => ?_)
    exact am_W.rt rfl rfl ⟨trivial, trivial⟩ (Or.inl ⟨h1, rfl, rfl⟩)
theorem FRR_o1 {B1 B2 j b : Nat} (h : 111 ≤ j ∨ 170 ≤ b) : FRR B1 B2 j b = 0 := by
  unfold FRR
  by_cases hj : 111 ≤ j
  · rw [st_blt j 111, decide_eq_false (by omega)]
    rfl
  · rw [st_blt j 111, decide_eq_true (by omega), st_blt b 170, decide_eq_false (by omega)]
    rfl
set_option maxRecDepth 100000 in
theorem FRR_ck3 : (List.range 111).all (fun j => (List.range 170).all (fun b => (Nat.beq j 4 && Nat.beq b 16) || (Nat.beq j 5 && Nat.beq b 16) || Nat.beq (FRR 38 82 j b) (FRR 82 38 j b))) = true := by decide +kernel
theorem FRR_eq {j b : Nat} (h : ¬ (j = 4 ∧ b = 16)) (h' : ¬ (j = 5 ∧ b = 16)) : FRR 38 82 j b = FRR 82 38 j b := by
  by_cases ho : 111 ≤ j ∨ 170 ≤ b
  · rw [FRR_o1 ho, FRR_o1 ho]
  · have h1 := List.all_eq_true.mp FRR_ck3 j (List.mem_range.mpr (by omega))
    have h2 := List.all_eq_true.mp h1 b (List.mem_range.mpr (by omega))
    simp only [st_beq, Bool.or_eq_true, Bool.and_eq_true, decide_eq_true_eq] at h2
    rcases h2 with (q | q) | q
    · exact absurd q h
    · exact absurd q h'
    · exact q
theorem FRR_sw {B1 B2 : Nat} (hB : (B1 = 38 ∧ B2 = 82) ∨ (B1 = 82 ∧ B2 = 38)) : am_u2 (am_u2 (FRR B1 B2) 4 16 B2) 5 16 B1 = FRR B2 B1 := by
  funext j b
  by_cases h5 : j = 5 ∧ b = 16
  · obtain ⟨rfl, rfl⟩ := h5
    rcases hB with ⟨rfl, rfl⟩ | ⟨rfl, rfl⟩ <;> rfl
  · rw [u2x h5]
    by_cases h4 : j = 4 ∧ b = 16
    · obtain ⟨rfl, rfl⟩ := h4
      rcases hB with ⟨rfl, rfl⟩ | ⟨rfl, rfl⟩ <;> rfl
    · rw [u2x h4]
      rcases hB with ⟨rfl, rfl⟩ | ⟨rfl, rfl⟩
      · exact FRR_eq h4 h5
      · exact (FRR_eq h4 h5).symm
set_option maxHeartbeats 400000 in
set_option maxRecDepth 100000 in
theorem c_To_clear (d L B1 B2 : Nat) (fi : Nat → Nat → Int) (ai aj : Nat → Int → Int) : am_M am_prog (d + 1) m_To_clear [.inr (.inr 23)] (HH L B1 B2 fi ai aj) (fun v h' => v = none ∧ h' = HH L B1 B2 (am_u2 (am_u2 fi 14 23 0) 15 23 0) ai aj) := by
  refine am_W.of rfl rfl ?_
  refine am_W.rt rfl rfl (by repeat' first | exact okI rfl rfl rfl | trivial | refine And.intro ?_ ?_) ⟨rfl, ?_⟩
  simp only [HS]
def rdC (L B1 B2 : Nat) (fi : Nat → Nat → Int) (ai aj : Nat → Int → Int) (R : Int ⊕ List MT) : Option am_V → am_H → Prop := fun v h' => ∃ f' a', (∀ j b, b ≠ 22 → b ≠ 23 → (b < B2 ∨ B2 + 44 ≤ b) → ¬ (j = 31 ∧ b = 25) → f' j b = fi j b) ∧ (∀ b, (b < B2 ∨ B2 + 44 ≤ b) → a' b = ai b) ∧ f' 14 23 = 0 ∧ f' 15 23 = 0 ∧ LI f' a' ∧ (match R with
  | .inl e => v = some (.inl e) ∧ h' = HH L B1 B2 f' a' aj ∧ f' 31 25 = fi 31 25
  | .inr l => v = some (.inl (l.length : Int)) ∧ h' = HH L B2 B1 f' a' aj ∧ f' 31 25 = 1 ∧ RepL f' a' B2 l)
set_option maxHeartbeats 400000 in
set_option maxRecDepth 100000 in
theorem c_MT_read (d L B1 B2 : Nat) (fi : Nat → Nat → Int) (ai aj : Nat → Int → Int) (R : Int ⊕ List MT) (hB : (B1 = 38 ∧ B2 = 82) ∨ (B1 = 82 ∧ B2 = 38)) (hI : DI (DD fi ai)) (hL : LI fi ai) (hR : pAll (tx (fi 14 23) (ai 24)) (DD fi ai) 6 (lx (tx (fi 14 23) (ai 24)) (fi 15 23) 0) [] = R) (he : ∀ e, R = .inl e → -1501 ≤ e ∧ e ≤ -10) (hl : ∀ l, R = .inr l → l.length ≤ 6) : am_M am_prog (d + 8) m_MT_read [.inr (.inr 16)] (HH L B1 B2 fi ai aj) (rdC L B1 B2 fi ai aj R) := by
  have ok16 : ∀ B1 B2 f a j, am_ok (HH L B1 B2 f a j) 16 0 := fun B1 B2 f a j => okI rfl rfl rfl
  have ok22 : ∀ f a j, am_ok (HH L B1 B2 f a j) 22 2 := fun f a j => okI rfl rfl rfl
  have ok23 : ∀ f a j, am_ok (HH L B1 B2 f a j) 23 3 := fun f a j => okI rfl rfl rfl
  have ok25 : ∀ f a j, am_ok (HH L B1 B2 f a j) 25 4 := fun f a j => okI rfl rfl rfl
  refine am_W.of rfl rfl ?_
  have hc := c_readAll d L B1 B2 fi ai aj B2 (by omega) hI hL
  rw [hR] at hc
  refine am_W.cv 2 m_Re_readAll rfl rfl rfl rfl (by repeat' first | exact ok16 _ _ _ _ _ | exact ok22 _ _ _ | trivial | refine And.intro ?_ ?_) hc ?_
  rintro v1 h1 ⟨f1, a1, rfl, hF, hL1, hm⟩
  have hfin : (∀ j b, b ≠ 22 → b ≠ 23 → (b < B2 ∨ B2 + 44 ≤ b) → am_u2 (am_u2 f1 14 23 0) 15 23 0 j b = fi j b) ∧ LI (am_u2 (am_u2 f1 14 23 0) 15 23 0) a1 := by
    refine ⟨fun j b b0 b1 b2 => ?_, ?_⟩
    · rw [u2x (by omega), u2x (by omega)]
      exact hF.1 j b b0 b1 b2
    · show txI 0 (a1 24) ∧ (0 ≤ (0 : Int) ∧ (0 : Int) ≤ 0) ∧ (0 ≤ f1 18 23 ∧ f1 18 23 ≤ 9999) ∧ am_R (f1 17 23) ∧ (0 ≤ f1 16 23 ∧ f1 16 23 ≤ 500)
      exact ⟨⟨by omega, by omega, fun i i0 i1 => absurd i1 (by omega)⟩, ⟨by omega, by omega⟩, hL1.2.2.1, hL1.2.2.2.1, hL1.2.2.2.2⟩
  cases R with
  | inl e =>
    have hv : v1 = some (.inl e) := hm
    subst hv
    have her := he e rfl
    refine am_W.cv 3 m_To_clear rfl rfl rfl rfl (by repeat' first | exact ok16 _ _ _ _ _ | exact ok22 _ _ _ | exact ok23 _ _ _ | trivial | refine And.intro ?_ ?_) (c_To_clear (d + 6) L B1 B2 f1 a1 aj) ?_
    rintro v2 h2 ⟨rfl, rfl⟩
    refine am_W.br rfl rfl ⟨trivial, ⟨by omega, by omega⟩⟩ (fun z => ?_) (fun z => absurd (by omega) z)
    exact am_W.rt rfl rfl ⟨trivial, trivial⟩ ⟨_, a1, fun j b b0 b1 b2 b3 => hfin.1 j b b0 b1 b2, hF.2.1, rfl, rfl, hfin.2, rfl, rfl, hfin.1 31 25 (by omega) (by omega) (by omega)⟩
  | inr l =>
    obtain ⟨hv, hRp⟩ := hm
    subst hv
    have h6 := hl l rfl
    refine am_W.cv 3 m_To_clear rfl rfl rfl rfl (by repeat' first | exact ok16 _ _ _ _ _ | exact ok22 _ _ _ | exact ok23 _ _ _ | trivial | refine And.intro ?_ ?_) (c_To_clear (d + 6) L B1 B2 f1 a1 aj) ?_
    rintro v2 h2 ⟨rfl, rfl⟩
    refine am_W.br rfl rfl ⟨trivial, ⟨by omega, by omega⟩⟩ (fun z => absurd z (by omega)) (fun z => ?_)
    have okB1 : ∀ f a j, am_ok (HH L B1 B2 f a j) B1 7 := fun f a j => ⟨by omega, by show B1 < 170; omega, (MapAt_all L B1 B2 B1 0 (by omega) (by decide)).2.2.1⟩
    have okB2 : ∀ f a j, am_ok (HH L B1 B2 f a j) B2 7 := fun f a j => ⟨by omega, by show B2 < 170; omega, (MapAt_all L B1 B2 B2 0 (by omega) (by decide)).2.2.1⟩
    generalize hf2 : am_u2 (am_u2 f1 14 23 0) 15 23 0 = f2 at hfin
    refine am_W.rt rfl rfl ?_ ⟨am_u2 f2 31 25 1, a1, ?_, hF.2.1, ?_, ?_, ?_, rfl, ?_, rfl, ?_⟩
    · repeat' first | exact okI rfl rfl rfl | trivial | exact Or.inr rfl | refine And.intro ?_ ?_
    · intro j b b0 b1 b2 b3
      rw [u2x b3]
      exact hfin.1 j b b0 b1 b2
    · rw [← hf2]
      rfl
    · rw [← hf2]
      rfl
    · exact hfin.2
    · show (170, SLN, CC L, am_u2 f2 31 25 1, (fun _ _ => (0 : Int)), am_u2 (am_u2 (FRR B1 B2) 4 16 B2) 5 16 B1, a1, aj, ARR) = (170, SLN, CC L, am_u2 f2 31 25 1, (fun _ _ => (0 : Int)), FRR B2 B1, a1, aj, ARR)
      rw [FRR_sw hB]
    · refine RepL_fr (by omega) h6 hRp (fun j b b0 b1 => ?_) (fun _ _ _ => rfl)
      rw [u2x (by omega), ← hf2, u2x (by omega), u2x (by omega)]
