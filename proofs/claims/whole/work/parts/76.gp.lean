-- names put, ways and bad rows noted
abbrev badT (k : Int) (l : List Int) : Prop := ¬ k = 2 ∧ (l.length = 0 ∨ 20 < l.length)
def bdN (D : DT) (x : MT) (r : Int) : Int := if badT x.2.1.1 (tbP D x.1 r x.2.1) then 0 else if badT x.2.2.1.1 (tbP D x.1 r x.2.2.1) then 1 else if badT x.2.2.2.1.1 (tbP D x.1 r x.2.2.2.1) then 2 else -1
def F26 (fi fi' : Nat → Nat → Int) : Prop := ∀ j b, b ≠ 26 → fi' j b = fi j b
theorem F26.tr {f1 f2 f3 : Nat → Nat → Int} (h1 : F26 f1 f2) (h2 : F26 f2 f3) : F26 f1 f3 := fun j b h => (h2 j b h).trans (h1 j b h)
theorem F26.rf {f : Nat → Nat → Int} : F26 f f := fun _ _ _ => rfl
theorem F26.D {f1 f2 : Nat → Nat → Int} (ai : Nat → Int → Int) (h : F26 f1 f2) : DD f2 ai = DD f1 ai := by
  unfold DD
  rw [h 10 17 (by decide)]
theorem F26.P {f1 f2 : Nat → Nat → Int} {ai : Nat → Int → Int} {p : Nat} {x : PT} (h : F26 f1 f2) (hp : 40 ≤ p) (hx : RepP f1 ai p x) : RepP f2 ai p x := hx.fr (fun j => h j p (by omega)) rfl
theorem F26.M {f1 f2 : Nat → Nat → Int} {ai : Nat → Int → Int} {r : Nat} {x : MT} (h : F26 f1 f2) (hp : 40 ≤ r) (hx : RepM f1 ai r x) : RepM f2 ai r x := hx.fr (fun j b h1 h2 => h j b (by omega)) (fun _ _ _ => rfl)
theorem F26_T (fi : Nat → Nat → Int) (x y : Int) : F26 fi (am_u2 (am_u2 fi 33 26 x) 34 26 y) := fun j b h => by rw [u2a h, u2a h]
def NmQ (L B1 B2 : Nat) (fi : Nat → Nat → Int) (ai aj : Nat → Int → Int) (x : MT) (r τ : Int) : Option am_V → am_H → Prop := fun w h' => w = some (.inl (bdN (DD fi ai) x r)) ∧ ∃ fi' aj', h' = HH L B1 B2 fi' ai aj' ∧ F26 fi fi' ∧ (∀ b, b ≠ 27 → aj' b = aj b) ∧ (∀ i, i < 3 * τ ∨ 3 * τ + 9 ≤ i → aj' 27 i = aj 27 i) ∧ (bdN (DD fi ai) x r = -1 → ∀ k, 0 ≤ k → k < 3 → aj' 27 (3 * τ + k) = wd x.2.1.1 (tbP (DD fi ai) x.1 r x.2.1) k ∧ aj' 27 (3 * (τ + 1) + k) = wd x.2.2.1.1 (tbP (DD fi ai) x.1 r x.2.2.1) k ∧ (¬ x.2.2.2.1.1 = 2 → aj' 27 (3 * (τ + 2) + k) = wd x.2.2.2.1.1 (tbP (DD fi ai) x.1 r x.2.2.2.1) k))
set_option maxHeartbeats 400000 in
set_option maxRecDepth 100000 in
theorem l_name (d L B1 B2 : Nat) (fi : Nat → Nat → Int) (ai aj : Nat → Int → Int) (r p : Nat) (x : MT) (y : PT) (row τ i : Int) (Q : Option am_V → am_H → Prop) (hp : MapAt L B1 B2 r) (hpp : PartAt L B1 B2 p) (hx : fi 39 r = x.1) (hy : RepP fi ai p y) (hk : ptP y) (hn : ¬ y.1 = 2 → nnP (DD fi ai) x.1 row y) (hs : 0 ≤ x.1 ∧ x.1 ≤ 3) (hr : am_R row) (hτ : 0 ≤ τ ∧ τ + 2 < 288) (hi : 0 ≤ i ∧ i < 3) (hI : DI (DD fi ai)) (f1 : Nat → Nat → Int) (aj1 : Nat → Int → Int) (hF : F26 fi f1)
    (w1 : y.1 = 2 → am_W (am_ev am_prog (d + 3)) T_Gi_putNames Q (106, [some (.inr (.inr 25)), some (.inr (.inr r)), some (.inl τ), some (.inr (.inr 17)), some (.inl row), some (.inl i), some (.inr (.inr p))], [], HH L B1 B2 f1 ai aj1))
    (w2 : ¬ y.1 = 2 → ¬ badT y.1 (tbP (DD fi ai) x.1 row y) → ∀ f2, F26 f1 f2 → am_W (am_ev am_prog (d + 3)) T_Gi_putNames Q (106, [some (.inr (.inr 25)), some (.inr (.inr r)), some (.inl τ), some (.inr (.inr 17)), some (.inl row), some (.inl i), some (.inr (.inr p))], [], HH L B1 B2 f2 ai (am_sa aj1 27 (tw (aj1 27) (τ + i) y.1 (tbP (DD fi ai) x.1 row y)))))
    (w3 : badT y.1 (tbP (DD fi ai) x.1 row y) → ∀ f2, F26 f1 f2 → Q (some (.inl i)) (HH L B1 B2 f2 ai (am_sa aj1 27 (tw (aj1 27) (τ + i) y.1 (tbP (DD fi ai) x.1 row y))))) :
    am_W (am_ev am_prog (d + 3)) T_Gi_putNames Q (40, [some (.inr (.inr 25)), some (.inr (.inr r)), some (.inl τ), some (.inr (.inr 17)), some (.inl row), some (.inl i), some (.inr (.inr p))], [], HH L B1 B2 f1 ai aj1) := by
  have p0 := hp.1
  have q0 := hpp.1
  have hD := hF.D ai
  have hy1 : RepP f1 ai p y := hF.P q0 hy
  have e50 : am_fi (HH L B1 B2 f1 ai aj1) 50 p = y.1 := hy1.1
  have g50 : am_gf (HH L B1 B2 f1 ai aj1) 50 p 0 = .inl y.1 := congrArg Sum.inl hy1.1
  have ok25 : ∀ f a b, am_ok (HH L B1 B2 f a b) 25 4 := fun _ _ _ => okI rfl rfl rfl
  refine am_W.br rfl rfl ⟨⟨trivial, HH_pa _ _ _ hpp⟩, by rw [e50]; exact ⟨by have := hk.1; omega, by have := hk.1; omega⟩, ⟨by omega, by omega⟩⟩ (fun c1 => w1 (by rw [e50] at c1; exact c1)) (fun c1 => ?_)
  rw [e50] at c1
  have hnn := hn c1
  obtain ⟨b1, b2, b3⟩ := tbP_b hI hs.1 hk.2.1 hnn
  refine am_W.cv 5 m_Te_begin rfl rfl rfl rfl ⟨⟨⟨trivial, ok25 _ _ _⟩, HH_pa _ _ _ hpp⟩, okI rfl rfl rfl⟩ (by rw [g50]; exact c_Te_begin (d + 2) L B1 B2 f1 ai aj1 (τ + i) y.1 (by omega) hk.1) ?_
  rintro r1 h1 ⟨rfl, rfl⟩
  have e39 : am_gf (HT L B1 B2 f1 ai aj1 (τ + i) y.1 []) 39 r 0 = .inl x.1 := by
    have h1 : am_fi (HT L B1 B2 f1 ai aj1 (τ + i) y.1 []) 39 r = x.1 := by rw [HT_fi _ _ _ _ _ _ _ _ _ (by omega), hF 39 r (by omega)]; exact hx
    exact congrArg Sum.inl h1
  have hc := c_Te_putPart d L B1 B2 f1 ai aj1 p y (τ + i) y.1 x.1 row hpp hy1 hk.1 hk.2.1 (fun z => ⟨by have := hk.2.2 z; omega, by have := hk.2.2 z; omega⟩) (by omega) ⟨by have := hk.1; omega, by have := hk.1; omega⟩ hs hr (by rw [hD]; exact hI) (by rw [hD]; exact hnn)
  rw [hD] at hc
  refine am_W.cv 5 m_Te_putPart rfl rfl rfl rfl ⟨⟨⟨trivial, okI rfl rfl rfl⟩, ⟨by omega, by show r < 170; have := hp.2.1; omega, hp.2.2.1⟩⟩, okI rfl rfl rfl⟩ (by rw [e39]; exact hc) ?_
  rintro r1 h1 ⟨rfl, rfl⟩
  generalize htb : tbP (DD fi ai) x.1 row y = l at *
  have elen : ∀ z : Nat, z = 26 → am_fi (HT L B1 B2 f1 ai aj1 (τ + i) y.1 l) 34 z = (l.length : Int) := fun z hz => by subst hz; rfl
  have e34 : am_fi (HT L B1 B2 f1 ai aj1 (τ + i) y.1 l) 34 26 = (l.length : Int) := rfl
  have eHT : HT L B1 B2 f1 ai aj1 (τ + i) y.1 l = HH L B1 B2 (am_u2 (am_u2 f1 33 26 (3 * (τ + i))) 34 26 (l.length : Int)) ai (am_sa aj1 27 (tw (aj1 27) (τ + i) y.1 l)) := rfl
  refine am_W.br rfl rfl ⟨⟨⟨trivial, okI rfl rfl rfl⟩, okI rfl rfl rfl⟩, ⟨by show -2147483648 ≤ (l.length : Int); omega, by show (l.length : Int) ≤ 2147483647; omega⟩⟩ (fun c2 => ?_) (fun c2 => ?_)
  · have c2' : (l.length : Int) = 0 := c2
    exact am_W.rt rfl rfl ⟨trivial, trivial⟩ (w3 ⟨c1, Or.inl (by omega)⟩ _ (F26_T f1 _ _))
  · have c2' : ¬ (l.length : Int) = 0 := c2
    refine am_W.br rfl rfl ⟨⟨⟨trivial, okI rfl rfl rfl⟩, okI rfl rfl rfl⟩, ⟨by show -2147483648 ≤ (l.length : Int); omega, by show (l.length : Int) ≤ 2147483647; omega⟩, ⟨by omega, by omega⟩⟩ (fun c3 => ?_) (fun c3 => ?_)
    · have c3' : (l.length : Int) ≤ 20 := c3
      exact w2 c1 (by omega) _ (F26_T f1 _ _)
    · have c3' : ¬ (l.length : Int) ≤ 20 := c3
      exact am_W.rt rfl rfl ⟨trivial, trivial⟩ (w3 ⟨c1, Or.inr (by omega)⟩ _ (F26_T f1 _ _))
theorem tw_i {W : Int → Int} {τ q : Int} {l : List Int} {k : Int} (h0 : 0 ≤ k) (h1 : k < 3) : tw W τ q l (3 * τ + k) = wd q l k := by
  unfold tw
  rw [if_pos (by omega), show 3 * τ + k - 3 * τ = k by omega]
theorem tw_o {W : Int → Int} {τ q : Int} {l : List Int} {i : Int} (h : i < 3 * τ ∨ 3 * τ + 3 ≤ i) : tw W τ q l i = W i := if_neg (by omega)
set_option maxHeartbeats 400000 in
set_option maxRecDepth 100000 in
theorem c_putNames (d L B1 B2 : Nat) (fi : Nat → Nat → Int) (ai aj : Nat → Int → Int) (r : Nat) (x : MT) (row τ : Int) (hp : MapAt L B1 B2 r) (hx : RepM fi ai r x) (hI : DI (DD fi ai)) (hw : wfM (DD fi ai) x) (hr : am_R row) (hτ : 0 ≤ τ ∧ τ + 2 < 288) (hn : nmN (DD fi ai) x row) : am_M am_prog (d + 4) m_Gi_putNames [.inr (.inr 25), .inr (.inr r), .inl τ, .inr (.inr 17), .inl row] (HH L B1 B2 fi ai aj) (NmQ L B1 B2 fi ai aj x row τ) := by
  obtain ⟨q1, q2, q3, q4, q5, q6, q7⟩ := wfM_p hI hw
  obtain ⟨p0, p1, hC, hf3, hf4, hf5, hpa, hpb, hpc⟩ := id hp
  obtain ⟨r1, r2, r3, r4, -⟩ := hx
  obtain ⟨n1, n2, n3⟩ := hn
  have hb1 : ¬ x.2.1.1 = 2 := by omega
  have hb2 : ¬ x.2.2.1.1 = 2 := by omega
  have g40 : ∀ f b, am_gf (HH L B1 B2 f ai b) 40 r 2 = .inr (.inr (r + 1)) := fun f b => congrArg (fun z => Sum.inr (Sum.inr z)) hf3
  have e40 : ∀ f b, am_fr (HH L B1 B2 f ai b) 40 r = r + 1 := fun f b => hf3
  have e41 : ∀ f b, am_fr (HH L B1 B2 f ai b) 41 r = r + 3 := fun f b => hf4
  have e42 : ∀ f b, am_fr (HH L B1 B2 f ai b) 42 r = r + 5 := fun f b => hf5
  refine am_W.of rfl rfl ?_
  refine am_W.gp 3 rfl trivial ?_
  refine am_W.br rfl rfl ⟨trivial, ⟨by omega, by omega⟩, ⟨by omega, by omega⟩⟩ (fun c1 => absurd c1 (by decide)) (fun c1 => ?_)
  refine am_W.br rfl rfl ⟨trivial, ⟨by omega, by omega⟩⟩ (fun c2 => absurd rfl c2) (fun c2 => ?_)
  refine am_W.gp 40 rfl ⟨trivial, HH_ma _ _ _ hp⟩ ?_
  rw [e40]
  refine l_name d L B1 B2 fi ai aj r (r + 1) x x.2.1 row τ 0 _ hp hpa r1 r2 q1 (fun _ => n1) q4 hr hτ (by omega) hI fi aj F26.rf (fun z => absurd z hb1) ?_ ?_
  · intro _ g1 f2 hF2
    refine am_W.gp 3 rfl trivial ?_
    refine am_W.br rfl rfl ⟨trivial, ⟨by omega, by omega⟩, ⟨by omega, by omega⟩⟩ (fun c1 => absurd c1 (by decide)) (fun c1 => ?_)
    refine am_W.br rfl rfl ⟨trivial, ⟨by omega, by omega⟩⟩ (fun c2 => ?_) (fun c2 => absurd (by decide) c2)
    refine am_W.br rfl rfl ⟨trivial, ⟨by omega, by omega⟩, ⟨by omega, by omega⟩⟩ (fun c2 => absurd rfl c2) (fun c2 => ?_)
    refine am_W.gp 40 rfl ⟨trivial, HH_ma _ _ _ hp⟩ ?_
    rw [e41]
    generalize ht1 : tbP (DD fi ai) x.1 row x.2.1 = t1 at *
    generalize ha1 : am_sa aj 27 (tw (aj 27) (τ + 0) x.2.1.1 t1) = aj1
    have a1b : ∀ b, b ≠ 27 → aj1 b = aj b := fun b hb => by rw [← ha1]; exact san _ _ hb
    have a17 : aj1 27 = tw (aj 27) (τ + 0) x.2.1.1 t1 := by rw [← ha1]; exact sas _ _ _
    refine l_name d L B1 B2 fi ai aj r (r + 3) x x.2.2.1 row τ 1 _ hp hpb r1 r3 q2 (fun _ => n2) q4 hr hτ (by omega) hI f2 aj1 hF2 (fun z => absurd z hb2) ?_ ?_
    · intro _ g2 f3 hF3
      refine am_W.gp 3 rfl trivial ?_
      refine am_W.br rfl rfl ⟨trivial, ⟨by omega, by omega⟩, ⟨by omega, by omega⟩⟩ (fun c1 => absurd c1 (by decide)) (fun c1 => ?_)
      refine am_W.br rfl rfl ⟨trivial, ⟨by omega, by omega⟩⟩ (fun c2 => ?_) (fun c2 => absurd (by decide) c2)
      refine am_W.br rfl rfl ⟨trivial, ⟨by omega, by omega⟩, ⟨by omega, by omega⟩⟩ (fun c2 => ?_) (fun c2 => absurd (by decide) c2)
      refine am_W.gp 40 rfl ⟨trivial, HH_ma _ _ _ hp⟩ ?_
      rw [e42]
      generalize ht2 : tbP (DD fi ai) x.1 row x.2.2.1 = t2 at *
      generalize ha2 : am_sa aj1 27 (tw (aj1 27) (τ + 1) x.2.2.1.1 t2) = aj2
      have a2b : ∀ b, b ≠ 27 → aj2 b = aj b := fun b hb => by rw [← ha2, san _ _ hb]; exact a1b b hb
      have a27 : aj2 27 = tw (aj1 27) (τ + 1) x.2.2.1.1 t2 := by rw [← ha2]; exact sas _ _ _
      refine l_name d L B1 B2 fi ai aj r (r + 5) x x.2.2.2.1 row τ 2 _ hp hpc r1 r4 q3 n3 q4 hr hτ (by omega) hI f3 aj2 (hF2.tr hF3) ?_ ?_ ?_
      · intro z
        refine am_W.gp 3 rfl trivial ?_
        refine am_W.br rfl rfl ⟨trivial, ⟨by omega, by omega⟩, ⟨by omega, by omega⟩⟩ (fun c1 => ?_) (fun c1 => absurd (by decide) c1)
        have eb : bdN (DD fi ai) x row = -1 := by
          unfold bdN
          rw [ht1, ht2, if_neg g1, if_neg g2, if_neg (fun w => w.1 z)]
        refine am_W.rt rfl rfl ⟨trivial, trivial⟩ ⟨by rw [eb], f3, aj2, rfl, hF2.tr hF3, a2b, ?_, ?_⟩
        · intro i hi
          rw [a27, tw_o (by omega), a17, tw_o (by omega)]
        · intro _ k k0 k1
          rw [ht1, ht2, a27]
          refine ⟨?_, tw_i k0 k1, fun w => absurd z w⟩
          rw [tw_o (by omega), a17, show 3 * τ + k = 3 * (τ + 0) + k by omega, tw_i k0 k1]
      · intro z g3 f4 hF4
        refine am_W.gp 3 rfl trivial ?_
        refine am_W.br rfl rfl ⟨trivial, ⟨by omega, by omega⟩, ⟨by omega, by omega⟩⟩ (fun c1 => ?_) (fun c1 => absurd (by decide) c1)
        have eb : bdN (DD fi ai) x row = -1 := by
          unfold bdN
          rw [ht1, ht2, if_neg g1, if_neg g2, if_neg g3]
        refine am_W.rt rfl rfl ⟨trivial, trivial⟩ ⟨by rw [eb], f4, _, rfl, (hF2.tr hF3).tr hF4, ?_, ?_, ?_⟩
        · intro b hb
          rw [san _ _ hb]
          exact a2b b hb
        · intro i hi
          rw [sas, tw_o (by omega), a27, tw_o (by omega), a17, tw_o (by omega)]
        · intro _ k k0 k1
          rw [ht1, ht2, sas]
          refine ⟨?_, ?_, fun _ => tw_i k0 k1⟩
          · rw [tw_o (by omega), a27, tw_o (by omega), a17, show 3 * τ + k = 3 * (τ + 0) + k by omega, tw_i k0 k1]
          · rw [tw_o (by omega), a27, tw_i k0 k1]
      · intro g3 f4 hF4
        have eb : bdN (DD fi ai) x row = 2 := by
          unfold bdN
          rw [ht1, ht2, if_neg g1, if_neg g2, if_pos g3]
        refine ⟨by rw [eb], f4, _, rfl, (hF2.tr hF3).tr hF4, ?_, ?_, fun w => absurd (eb.symm.trans w) (by decide)⟩
        · intro b hb
          rw [san _ _ hb]
          exact a2b b hb
        · intro i hi
          rw [sas, tw_o (by omega), a27, tw_o (by omega), a17, tw_o (by omega)]
    · intro g2 f3 hF3
      have eb : bdN (DD fi ai) x row = 1 := by
        unfold bdN
        rw [ht1, if_neg g1, if_pos g2]
      refine ⟨by rw [eb], f3, _, rfl, hF2.tr hF3, ?_, ?_, fun w => absurd (eb.symm.trans w) (by decide)⟩
      · intro b hb
        rw [san _ _ hb]
        exact a1b b hb
      · intro i hi
        rw [sas, tw_o (by omega), a17, tw_o (by omega)]
  · intro g1 f2 hF2
    have eb : bdN (DD fi ai) x row = 0 := by
      unfold bdN
      rw [if_pos g1]
    refine ⟨by rw [eb], f2, _, rfl, hF2, ?_, ?_, fun w => absurd (eb.symm.trans w) (by decide)⟩
    · intro b hb
      rw [san _ _ hb]
    · intro i hi
      rw [sas, tw_o (by omega)]
set_option maxHeartbeats 400000 in
set_option maxRecDepth 100000 in
theorem c_addBad (d L B1 B2 : Nat) (fi : Nat → Nat → Int) (ai aj : Nat → Int → Int) (a b : Int) (hn : 0 ≤ fi 30 25 ∧ fi 30 25 < 96) : am_M am_prog (d + 1) m_Gi_addBad [.inr (.inr 25), .inl a, .inl b] (HH L B1 B2 fi ai aj) (fun w h' => w = none ∧ h' = HH L B1 B2 (am_u2 fi 30 25 (fi 30 25 + 1)) (am_sa (am_sa ai 34 (up (ai 34) (fi 30 25) a)) 35 (up (ai 35) (fi 30 25) b)) aj) := by
  refine am_W.of rfl rfl ?_
  refine am_W.br rfl rfl (by and_intros <;> first | trivial | exact okI rfl rfl rfl | (refine okrI rfl rfl rfl rfl ?_ ?_ <;> (first | omega | (simp only [HS, FRS, CCS, am_R] at *; omega))) | (refine okaI rfl rfl rfl rfl ?_ ?_ <;> (first | omega | (simp only [HS, FRS, CCS, am_R] at *; omega))) | (first | omega | (simp only [HS, FRS, CCS, am_R] at *; omega)) | (simp only [HS, FRS, CCS])) (fun c1 => absurd c1 (by simp only [HS]; omega)) (fun c1 => ?_)
  refine am_W.rt rfl rfl (by and_intros <;> first | trivial | exact okI rfl rfl rfl | (refine okrI rfl rfl rfl rfl ?_ ?_ <;> (first | omega | (simp only [HS, FRS, CCS, am_R] at *; omega))) | (refine okaI rfl rfl rfl rfl ?_ ?_ <;> (first | omega | (simp only [HS, FRS, CCS, am_R] at *; omega))) | (first | omega | (simp only [HS, FRS, CCS, am_R] at *; omega)) | (simp only [HS, FRS, CCS])) ⟨rfl, ?_⟩
  simp only [HS, FRS, u2_sa]
  rfl
set_option maxHeartbeats 400000 in
set_option maxRecDepth 100000 in
theorem c_addWay (d L B1 B2 : Nat) (fi : Nat → Nat → Int) (ai aj : Nat → Int → Int) (a b : Int) (hn : 0 ≤ fi 24 25 ∧ fi 24 25 < 1536) (ha : 0 ≤ a ∧ a < 1536) : am_M am_prog (d + 1) m_Gi_addWay [.inr (.inr 25), .inl a, .inr (.inl b)] (HH L B1 B2 fi ai aj) (fun w h' => w = none ∧ h' = HH L B1 B2 (am_u2 fi 24 25 (fi 24 25 + 1)) (am_sa ai 30 (up (ai 30) (fi 24 25) a)) (am_sa aj 28 (up (aj 28) a b))) := by
  refine am_W.of rfl rfl ?_
  refine am_W.br rfl rfl (by and_intros <;> first | trivial | exact okI rfl rfl rfl | (refine okrI rfl rfl rfl rfl ?_ ?_ <;> (first | omega | (simp only [HS, FRS, CCS, am_R] at *; omega))) | (refine okaI rfl rfl rfl rfl ?_ ?_ <;> (first | omega | (simp only [HS, FRS, CCS, am_R] at *; omega))) | (first | omega | (simp only [HS, FRS, CCS, am_R] at *; omega)) | (simp only [HS, FRS, CCS])) (fun c1 => absurd c1 (by simp only [HS]; omega)) (fun c1 => ?_)
  refine am_W.br rfl rfl (by and_intros <;> first | trivial | exact okI rfl rfl rfl | (refine okrI rfl rfl rfl rfl ?_ ?_ <;> (first | omega | (simp only [HS, FRS, CCS, am_R] at *; omega))) | (refine okaI rfl rfl rfl rfl ?_ ?_ <;> (first | omega | (simp only [HS, FRS, CCS, am_R] at *; omega))) | (first | omega | (simp only [HS, FRS, CCS, am_R] at *; omega)) | (simp only [HS, FRS, CCS])) (fun c2 => absurd c2 (by omega)) (fun c2 => ?_)
  refine am_W.br rfl rfl (by and_intros <;> first | trivial | exact okI rfl rfl rfl | (refine okrI rfl rfl rfl rfl ?_ ?_ <;> (first | omega | (simp only [HS, FRS, CCS, am_R] at *; omega))) | (refine okaI rfl rfl rfl rfl ?_ ?_ <;> (first | omega | (simp only [HS, FRS, CCS, am_R] at *; omega))) | (first | omega | (simp only [HS, FRS, CCS, am_R] at *; omega)) | (simp only [HS, FRS, CCS])) (fun c3 => absurd c3 (by omega)) (fun c3 => ?_)
  refine am_W.rt rfl rfl (by and_intros <;> first | trivial | exact okI rfl rfl rfl | (refine okrI rfl rfl rfl rfl ?_ ?_ <;> (first | omega | (simp only [HS, FRS, CCS, am_R] at *; omega))) | (refine okaI rfl rfl rfl rfl ?_ ?_ <;> (first | omega | (simp only [HS, FRS, CCS, am_R] at *; omega))) | (first | omega | (simp only [HS, FRS, CCS, am_R] at *; omega)) | (simp only [HS, FRS, CCS])) ⟨rfl, ?_⟩
  simp only [HS, FRS, u2_sa]
