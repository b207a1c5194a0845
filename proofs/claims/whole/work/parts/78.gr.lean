-- a row given
noncomputable def rwO (D : DT) (x : MT) (r : Int) : List Int := if x.2.2.2.2.1.1 = -1 then @ite (List Int) (¬ x.2.2.2.1.1 = 2 ∨ nnP D x.1 r x.2.2.2.1) (Classical.propDecidable _) [0] [] else oth D x r (ro D x.2.2.2.2.1.1).toNat 0
noncomputable def rwB (D : DT) (x : MT) (r pair : Int) : List (Int × Int) := if bdN D x r = -1 then [] else [(pair, bdN D x r)]
noncomputable def rwW (D : DT) (x : MT) (r pair : Int) : List Int := if bdN D x r = -1 then (rwO D x r).map (fun o => pair * 16 + o) else []
theorem GI_bad {f : Nat → Nat → Int} {a j : Nat → Int → Int} {bads : List (Int × Int)} {ways : List Int} {TM : Int → Int → Int × List Int} {p q : Int} (h : GI f a j bads ways TM) : GI (am_u2 f 30 25 (f 30 25 + 1)) (am_sa (am_sa a 34 (up (a 34) (f 30 25) p)) 35 (up (a 35) (f 30 25) q)) j (bads ++ [(p, q)]) ways TM := by
  obtain ⟨h1, h2, h3, h4, h5⟩ := h
  refine ⟨?_, ?_, (u2n (by decide)).trans h3, ?_, h5⟩
  · rw [u2s, List.length_append, List.length_singleton]
    omega
  · intro i v hv
    rw [sas, san _ _ (by decide), sas]
    rcases getE_app hv with ⟨g1, g2⟩ | ⟨g1, g2⟩
    · rw [up_n _ _ (by omega), up_n _ _ (by omega)]
      exact h2 i v g2
    · rw [g1, ← h1, up_s, up_s, g2]
      exact ⟨rfl, rfl⟩
  · intro i w hw
    rw [san _ _ (by decide), san _ _ (by decide)]
    exact h4 i w hw
theorem FG_bad {f : Nat → Nat → Int} {a j : Nat → Int → Int} (x : Int) (g g2 : Int → Int) : FG f (am_u2 f 30 25 x) a (am_sa (am_sa a 34 g) 35 g2) j j := ⟨fun q b h1 _ => u2a h1, fun q _ h1 => u2n h1, fun b _ h1 h2 => by rw [san _ _ h2, san _ _ h1], fun b _ _ => rfl⟩
set_option maxHeartbeats 400000 in
set_option maxRecDepth 100000 in
theorem c_giveRow (d L B1 B2 : Nat) (fi : Nat → Nat → Int) (ai aj : Nat → Int → Int) (r : Nat) (x : MT) (row pair : Int) (hp : MapAt L B1 B2 r) (hx : RepM fi ai r x) (hI : DI (DD fi ai)) (hw : wfM (DD fi ai) x) (hr : am_R row) (hpr : 0 ≤ pair ∧ pair < 96) (hn : nmN (DD fi ai) x row) (bads : List (Int × Int)) (ways : List Int) (TM : Int → Int → Int × List Int) (hTM : ∀ o t, 0 ≤ o → o < 16 → TM (pair * 16 + o) t = tmx (DD fi ai) x row o t) (f : Nat → Nat → Int) (a j : Nat → Int → Int) (hF : FG fi f ai a aj j) (hG : GI f a j bads ways TM) (hv : ∀ v ∈ ways, 0 ≤ v ∧ v < pair * 16) (hl : (ways.length : Int) ≤ pair * 16) (hb : (bads.length : Int) ≤ pair) : am_M am_prog (d + 6) m_Gi_giveRow [.inr (.inr 25), .inr (.inr r), .inl pair, .inr (.inr 17), .inl row] (HH L B1 B2 f a j) (fun w h' => w = none ∧ ∃ f' a' j', h' = HH L B1 B2 f' a' j' ∧ FG fi f' ai a' aj j' ∧ GI f' a' j' (bads ++ rwB (DD fi ai) x row pair) (ways ++ rwW (DD fi ai) x row pair) TM) := by
  have p0 := hp.1
  have hf5 := hp.2.2.2.2.2.1
  have hpc := hp.2.2.2.2.2.2.2.2
  have hD := hF.D
  have hx1 := hF.M p0 hx
  obtain ⟨q1, q2, q3, q4, q5, q6, q7⟩ := wfM_p hI hw
  have hnm := c_putNames (d + 1) L B1 B2 f a j r x row (pair * 3) hp hx1 (by rw [hD]; exact hI) (by rw [hD]; exact hw) hr ⟨by omega, by omega⟩ (by rw [hD]; exact hn)
  refine am_W.of rfl rfl ?_
  refine am_W.cv 4 m_Gi_putNames rfl rfl rfl rfl ⟨trivial, okI rfl rfl rfl⟩ hnm ?_
  rintro w1 h1 ⟨rfl, f2, j2, rfl, n1, n2, n3, n4⟩
  rw [hD] at n4 ⊢
  have hG2 : GI f2 a j2 bads ways TM := GI_27 hG n1 (n2 28 (by decide)) (fun v hv2 t k t0 t1 k0 k1 => n3 _ (by have := hv v hv2; omega))
  have hF2 : FG fi f2 ai a aj j2 := hF.tr (FG_26 n1 n2)
  have hD2 := hF2.D
  have hx2 := hF2.M p0 hx
  have e30 : f2 30 25 = (bads.length : Int) := hG2.1
  have e24 : f2 24 25 = (ways.length : Int) := hG2.2.2.1
  have hbR : -1 ≤ bdN (DD fi ai) x row ∧ bdN (DD fi ai) x row ≤ 2 := by
    unfold bdN
    (repeat' split) <;> omega
  unfold rwB rwW
  by_cases hbd : bdN (DD fi ai) x row = -1
  · rw [if_pos hbd, if_pos hbd, List.append_nil]
    have n5 := n4 hbd
    have hT2 : wT (DD fi ai) x row pair j2 := by
      intro k k0 k1
      obtain ⟨m1, m2, -⟩ := n5 k k0 k1
      rw [show (pair * 3 + 0) * 3 + k = 3 * (pair * 3) + k by omega, show (pair * 3 + 1) * 3 + k = 3 * (pair * 3 + 1) + k by omega]
      exact ⟨m1, m2⟩
    rw [hbd]
    refine am_W.br rfl rfl ⟨trivial, ⟨by omega, by omega⟩, ⟨by omega, by omega⟩⟩ (fun c1 => ?_) (fun c1 => absurd rfl c1)
    have hJR : am_R x.2.2.2.2.1.1 := by
      obtain ⟨w1, w2, w3, w4, w5, w6⟩ := hw
      have hn4 := hI.1
      constructor
      · rcases w4 with ⟨-, h⟩ | ⟨-, -, h3, h4⟩
        · omega
        · omega
      · rcases w4 with ⟨-, h⟩ | ⟨-, -, h3, h4⟩
        · omega
        · omega
    have e43 : am_fi (HH L B1 B2 f2 a j2) 43 r = x.2.2.2.2.1.1 := hx2.2.2.2.2.1
    have e42 : ∀ b, am_fr (HH L B1 B2 f2 a b) 42 r = r + 5 := fun b => hf5
    refine am_W.cv 8 m_Ma_isJoin rfl rfl rfl rfl ⟨trivial, HH_ma _ _ _ hp⟩ (c_isJoin (d + 4) L B1 B2 f2 a j2 r (HH L B1 B2 f2 a j2) (HH_ma _ _ _ hp) (by rw [e43]; exact hJR)) ?_
    rintro r1 h1 ⟨rfl, rfl⟩
    rw [e43]
    unfold rwO
    by_cases hj : x.2.2.2.2.1.1 = -1
    · rw [if_pos hj, if_pos hj]
      refine am_W.br rfl rfl ⟨trivial, ⟨by omega, by omega⟩⟩ (fun c2 => ?_) (fun c2 => absurd rfl c2)
      have e50 : am_fi (HH L B1 B2 f2 a j2) 50 (r + 5) = x.2.2.2.1.1 := hx2.2.2.2.1.1
      -- a way without a join, once the third term's words stand
      have hadd : ∀ (f3 : Nat → Nat → Int) (j3 : Nat → Int → Int), FG fi f3 ai a aj j3 → GI f3 a j3 bads ways TM → wT (DD fi ai) x row pair j3 → (∀ k, 0 ≤ k → k < 3 → j3 27 ((pair * 3 + 2) * 3 + k) = wd x.2.2.2.1.1 (tbP (DD fi ai) x.1 row x.2.2.2.1) k) → am_M am_prog (d + 5) m_Gi_addWay [.inr (.inr 25), .inl (pair * 16), .inr (.inl 0)] (HH L B1 B2 f3 a j3) (fun w h' => w = none ∧ ∃ f' a' j', h' = HH L B1 B2 f' a' j' ∧ FG fi f' ai a' aj j' ∧ GI f' a' j' bads (ways ++ [pair * 16 + 0]) TM) := by
        intro f3 j3 k1 k2 k3 k4
        have e24' : f3 24 25 = (ways.length : Int) := k2.2.2.1
        refine (c_addWay (d + 4) L B1 B2 f3 a j3 (pair * 16) 0 (by omega) (by omega)).mono ?_
        rintro w h' ⟨rfl, rfl⟩
        refine ⟨rfl, _, _, _, rfl, k1.tr (FG_way _ _ _), ?_⟩
        rw [show pair * 16 + 0 = pair * 16 by omega]
        refine GI_way k2 (fun v hv2 => by have := hv v hv2; omega) ?_
        intro t k t0 t1 kk0 kk1
        have hTM0 := hTM 0 t (by omega) (by omega)
        rw [show pair * 16 + 0 = pair * 16 by omega] at hTM0
        rw [hTM0]
        unfold WO tmx
        rw [sas, up_s, san _ _ (by decide), if_neg (fun z => z.2 rfl), show pair * 16 / 16 = pair by omega, if_pos hj]
        have h3 : t = 0 ∨ t = 1 ∨ t = 2 := by omega
        rcases h3 with rfl | rfl | rfl
        · exact (k3 k kk0 kk1).1
        · exact (k3 k kk0 kk1).2
        · exact k4 k kk0 kk1
      refine am_W.br rfl rfl ⟨⟨⟨trivial, HH_ma _ _ _ hp⟩, by rw [e42]; exact HH_pa _ _ _ hpc⟩, by rw [e42, e50]; exact ⟨by have := q3.1; omega, by have := q3.1; omega⟩, ⟨by omega, by omega⟩⟩ (fun c3 => ?_) (fun c3 => ?_)
      · rw [e42, e50] at c3
        have g39 : ∀ b, am_gf (HH L B1 B2 f2 a b) 39 r 0 = .inl x.1 := fun b => congrArg Sum.inl hx2.1
        have hwn := c_wantsNull (d + 2) L B1 B2 f2 a j2 (r + 5) x.2.2.2.1 x.1 row hpc hx2.2.2.2.1 q3.1 q3.2.1 (fun z => ⟨by have := q3.2.2 z; omega, by have := q3.2.2 z; omega⟩) ⟨by omega, by omega⟩ hr (by rw [hD2]; exact hI)
        rw [hD2] at hwn
        refine am_W.cv 9 m_Pa_wantsNull rfl rfl rfl rfl ⟨⟨⟨trivial, HH_ma _ _ _ hp⟩, HH_ma _ _ _ hp⟩, by rw [e42]; exact HH_pa _ _ _ hpc⟩ (by rw [e42, g39]; exact hwn) ?_
        rintro w1 h1 ⟨hq1, rfl⟩
        rcases hq1 with ⟨m1, rfl⟩ | ⟨m1, rfl⟩
        · rw [if_neg (fun z => z.elim (fun z => z c3) m1)]
          refine am_W.br rfl rfl ⟨trivial, ⟨by omega, by omega⟩⟩ (fun c4 => ?_) (fun c4 => absurd c4 (by decide))
          refine am_W.rt rfl rfl ⟨trivial, trivial⟩ ⟨rfl, f2, a, j2, rfl, hF2, ?_⟩
          show GI f2 a j2 bads (ways ++ []) TM
          rw [List.append_nil]
          exact hG2
        · have m2 := Classical.byContradiction m1
          rw [if_pos (Or.inr m2)]
          refine am_W.br rfl rfl ⟨trivial, ⟨by omega, by omega⟩⟩ (fun c4 => absurd rfl c4) (fun c4 => ?_)
          refine am_W.cv 5 m_Te_begin rfl rfl rfl rfl ⟨⟨trivial, okI rfl rfl rfl⟩, okI rfl rfl rfl⟩ (c_Te_begin (d + 4) L B1 B2 f2 a j2 (pair * 3 + 2) 2 (by omega) (by omega)) ?_
          rintro r1 h1 ⟨rfl, rfl⟩
          have hpp := c_Te_putPart (d + 2) L B1 B2 f2 a j2 (r + 5) x.2.2.2.1 (pair * 3 + 2) 2 x.1 row hpc hx2.2.2.2.1 q3.1 q3.2.1 (fun z => ⟨by have := q3.2.2 z; omega, by have := q3.2.2 z; omega⟩) (by omega) (by omega) q4 hr (by rw [hD2]; exact hI) (by rw [hD2]; exact m2)
          rw [hD2] at hpp
          have e42T : am_gf (HT L B1 B2 f2 a j2 (pair * 3 + 2) 2 []) 42 r 2 = .inr (.inr (r + 5)) := congrArg (fun z => Sum.inr (Sum.inr z)) hf5
          have g39T : am_gf (HT L B1 B2 f2 a j2 (pair * 3 + 2) 2 []) 39 r 0 = .inl x.1 := by
            have h1 : am_fi (HT L B1 B2 f2 a j2 (pair * 3 + 2) 2 []) 39 r = x.1 := by rw [HT_fi _ _ _ _ _ _ _ _ _ (by omega)]; exact hx2.1
            exact congrArg Sum.inl h1
          have okmT : am_ok (HT L B1 B2 f2 a j2 (pair * 3 + 2) 2 []) r 8 := ⟨by omega, by show r < 170; have := hp.2.1; omega, hp.2.2.1⟩
          refine am_W.cv 5 m_Te_putPart rfl rfl rfl rfl ⟨⟨⟨⟨trivial, okI rfl rfl rfl⟩, okmT⟩, okmT⟩, okI rfl rfl rfl⟩ (by rw [e42T, g39T]; exact hpp) ?_
          rintro r1 h1 ⟨rfl, rfl⟩
          generalize htb : tbP (DD fi ai) x.1 row x.2.2.2.1 = t3 at *
          generalize hf3 : am_u2 (am_u2 f2 33 26 (3 * (pair * 3 + 2))) 34 26 (t3.length : Int) = f3
          generalize hj3 : am_sa j2 27 (tw (j2 27) (pair * 3 + 2) 2 t3) = j3
          have g1 : F26 f2 f3 := by rw [← hf3]; exact F26_T f2 _ _
          have g2 : ∀ b, b ≠ 27 → j3 b = j2 b := fun b hb => by rw [← hj3]; exact san _ _ hb
          have g3 : j3 27 = tw (j2 27) (pair * 3 + 2) 2 t3 := by rw [← hj3]; exact sas _ _ _
          have hG3 : GI f3 a j3 bads ways TM := GI_27 hG2 g1 (g2 28 (by decide)) (fun v hv2 t k t0 t1 k0 k1 => by rw [g3, tw_o (by have := hv v hv2; omega)])
          have hT3 : wT (DD fi ai) x row pair j3 := by
            intro k k0 k1
            rw [g3, tw_o (by omega), tw_o (by omega)]
            exact hT2 k k0 k1
          rw [show HT L B1 B2 f2 a j2 (pair * 3 + 2) 2 t3 = HH L B1 B2 f3 a j3 by rw [← hf3, ← hj3]; rfl]
          refine am_W.cv 4 m_Gi_addWay rfl rfl rfl rfl ⟨trivial, okI rfl rfl rfl⟩ (hadd f3 j3 (hF2.tr (FG_26 g1 g2)) hG3 hT3 (fun k k0 k1 => ?_)) ?_
          · rw [g3, show (pair * 3 + 2) * 3 + k = 3 * (pair * 3 + 2) + k by omega, tw_i k0 k1, c3]
          · rintro w1 h1 ⟨rfl, f4, a4, j4, rfl, k1, k2⟩
            exact am_W.rt rfl rfl ⟨trivial, trivial⟩ ⟨rfl, f4, a4, j4, rfl, k1, k2⟩
      · rw [e42, e50] at c3
        rw [if_pos (Or.inl c3)]
        refine am_W.cv 4 m_Gi_addWay rfl rfl rfl rfl ⟨trivial, okI rfl rfl rfl⟩ (hadd f2 j2 hF2 hG2 hT2 (fun k k0 k1 => ?_)) ?_
        · rw [show (pair * 3 + 2) * 3 + k = 3 * (pair * 3 + 2) + k by omega]
          exact (n5 k k0 k1).2.2 c3
        · rintro w1 h1 ⟨rfl, f4, a4, j4, rfl, k1, k2⟩
          exact am_W.rt rfl rfl ⟨trivial, trivial⟩ ⟨rfl, f4, a4, j4, rfl, k1, k2⟩
    · rw [if_neg hj, if_neg hj]
      have hro := ro_in x.2.2.2.2.1.1 hI
      refine am_W.br rfl rfl ⟨trivial, ⟨by omega, by omega⟩⟩ (fun c2 => absurd c2 (by decide)) (fun c2 => ?_)
      have hjr : am_M am_prog (d + 5) m_Gi_joinRow [.inr (.inr 25), .inr (.inr r), .inl pair, .inr (.inr 17), .inl row] (HH L B1 B2 f2 a j2) (fun w h' => w = none ∧ ∃ f' a' j', h' = HH L B1 B2 f' a' j' ∧ FG fi f' ai a' aj j' ∧ GI f' a' j' bads (ways ++ (oth (DD fi ai) x row (ro (DD fi ai) x.2.2.2.2.1.1).toNat 0).map (fun o => pair * 16 + o)) TM) := by
        refine am_W.of rfl rfl ?_
        exact am_W.gp 3 rfl trivial (l_joinRow d L B1 B2 fi ai aj r x row pair hp hx hj hI hw hr hpr bads TM hTM _ 0 f2 a j2 ways none (by omega) (by omega) hF2 hG2 (fun v hv2 => by have := hv v hv2; omega) (by omega) hT2)
      refine am_W.cv 4 m_Gi_joinRow rfl rfl rfl rfl ⟨trivial, okI rfl rfl rfl⟩ hjr ?_
      rintro w1 h1 ⟨rfl, f4, a4, j4, rfl, k1, k2⟩
      exact am_W.rt rfl rfl ⟨trivial, trivial⟩ ⟨rfl, f4, a4, j4, rfl, k1, k2⟩
  · rw [if_neg hbd, if_neg hbd, List.append_nil]
    refine am_W.br rfl rfl ⟨trivial, ⟨by omega, by omega⟩, ⟨by omega, by omega⟩⟩ (fun c1 => absurd c1 hbd) (fun c1 => ?_)
    refine am_W.cv 4 m_Gi_addBad rfl rfl rfl rfl ⟨trivial, okI rfl rfl rfl⟩ (c_addBad (d + 4) L B1 B2 f2 a j2 pair (bdN (DD fi ai) x row) (by omega)) ?_
    rintro r1 h1 ⟨rfl, rfl⟩
    exact am_W.rt rfl rfl ⟨trivial, trivial⟩ ⟨rfl, _, _, _, rfl, hF2.tr (FG_bad _ _ _), GI_bad hG2⟩
