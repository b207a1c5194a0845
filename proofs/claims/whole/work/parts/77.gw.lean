-- the ways of a row
def WO (j : Nat → Int → Int) (w t k : Int) : Int := if t = 2 ∧ j 28 w ≠ 0 then (if k = 0 then j 28 w else 0) else j 27 ((w / 16 * 3 + t) * 3 + k)
def tmx (D : DT) (x : MT) (r o t : Int) : Int × List Int := if t = 0 then (x.2.1.1, tbP D x.1 r x.2.1) else if t = 1 then (x.2.2.1.1, tbP D x.1 r x.2.2.1) else if x.2.2.2.2.1.1 = -1 then (x.2.2.2.1.1, tbP D x.1 r x.2.2.2.1) else (2, dgs (ce D x.2.2.2.2.1.1 o x.2.2.2.1.2.1))
def FG (fi f : Nat → Nat → Int) (ai a aj j : Nat → Int → Int) : Prop := (∀ q b, b ≠ 25 → b ≠ 26 → f q b = fi q b) ∧ (∀ q, q ≠ 24 → q ≠ 30 → f q 25 = fi q 25) ∧ (∀ b, b ≠ 30 → b ≠ 34 → b ≠ 35 → a b = ai b) ∧ (∀ b, b ≠ 27 → b ≠ 28 → j b = aj b)
theorem FG.rf {fi : Nat → Nat → Int} {ai aj : Nat → Int → Int} : FG fi fi ai ai aj aj := ⟨fun _ _ _ _ => rfl, fun _ _ _ => rfl, fun _ _ _ _ => rfl, fun _ _ _ => rfl⟩
theorem FG.tr {f1 f2 f3 : Nat → Nat → Int} {a1 a2 a3 j1 j2 j3 : Nat → Int → Int} (h1 : FG f1 f2 a1 a2 j1 j2) (h2 : FG f2 f3 a2 a3 j2 j3) : FG f1 f3 a1 a3 j1 j3 := ⟨fun q b p r => (h2.1 q b p r).trans (h1.1 q b p r), fun q p r => (h2.2.1 q p r).trans (h1.2.1 q p r), fun b p q r => (h2.2.2.1 b p q r).trans (h1.2.2.1 b p q r), fun b p q => (h2.2.2.2 b p q).trans (h1.2.2.2 b p q)⟩
theorem FG.D {fi f : Nat → Nat → Int} {ai a aj j : Nat → Int → Int} (h : FG fi f ai a aj j) : DD f a = DD fi ai := by
  unfold DD
  rw [h.1 10 17 (by decide) (by decide), h.2.2.1 18 (by decide) (by decide) (by decide), h.2.2.1 19 (by decide) (by decide) (by decide), h.2.2.1 20 (by decide) (by decide) (by decide), h.2.2.1 21 (by decide) (by decide) (by decide)]
theorem FG.M {fi f : Nat → Nat → Int} {ai a aj j : Nat → Int → Int} {r : Nat} {x : MT} (h : FG fi f ai a aj j) (hp : 40 ≤ r) (hx : RepM fi ai r x) : RepM f a r x := hx.fr (fun q b h1 h2 => h.1 q b (by omega) (by omega)) (fun b h1 h2 => h.2.2.1 b (by omega) (by omega) (by omega))
def GI (f : Nat → Nat → Int) (a j : Nat → Int → Int) (bads : List (Int × Int)) (ways : List Int) (TM : Int → Int → Int × List Int) : Prop := f 30 25 = (bads.length : Int) ∧ (∀ (i : Nat) (p : Int × Int), bads[i]? = some p → a 34 (i : Int) = p.1 ∧ a 35 (i : Int) = p.2) ∧ f 24 25 = (ways.length : Int) ∧ (∀ (i : Nat) (w : Int), ways[i]? = some w → a 30 (i : Int) = w) ∧ (∀ w ∈ ways, ∀ t k, 0 ≤ t → t < 3 → 0 ≤ k → k < 3 → WO j w t k = wd (TM w t).1 (TM w t).2 k)
theorem getE_app {α : Type} {l : List α} {x y : α} {i : Nat} (h : (l ++ [x])[i]? = some y) : (i < l.length ∧ l[i]? = some y) ∨ (i = l.length ∧ y = x) := by
  by_cases hj : i < l.length
  · rw [List.getElem?_append_left hj] at h
    exact Or.inl ⟨hj, h⟩
  · rw [List.getElem?_append_right (by omega)] at h
    have hj2 : i = l.length := by
      rcases Nat.eq_or_lt_of_le (Nat.le_of_not_lt hj) with h2 | h2
      · exact h2.symm
      · rw [List.getElem?_eq_none (by rw [List.length_singleton]; omega)] at h
        cases h
    subst hj2
    rw [Nat.sub_self] at h
    cases h
    exact Or.inr ⟨rfl, rfl⟩
/-- a way more -/
theorem GI_way {f : Nat → Nat → Int} {a j : Nat → Int → Int} {bads : List (Int × Int)} {ways : List Int} {TM : Int → Int → Int × List Int} {w b : Int} (h : GI f a j bads ways TM) (hw : ∀ v ∈ ways, v ≠ w) (hn : ∀ t k, 0 ≤ t → t < 3 → 0 ≤ k → k < 3 → WO (am_sa j 28 (up (j 28) w b)) w t k = wd (TM w t).1 (TM w t).2 k) : GI (am_u2 f 24 25 (f 24 25 + 1)) (am_sa a 30 (up (a 30) (f 24 25) w)) (am_sa j 28 (up (j 28) w b)) bads (ways ++ [w]) TM := by
  obtain ⟨h1, h2, h3, h4, h5⟩ := h
  refine ⟨(u2n (by decide)).trans h1, ?_, ?_, ?_, ?_⟩
  · intro i p hp
    rw [san _ _ (by decide), san _ _ (by decide)]
    exact h2 i p hp
  · rw [u2s, List.length_append, List.length_singleton]
    omega
  · intro i v hv
    rw [sas]
    rcases getE_app hv with ⟨g1, g2⟩ | ⟨g1, g2⟩
    · rw [up_n _ _ (by omega)]
      exact h4 i v g2
    · rw [g1, ← h3, up_s, g2]
  · intro v hv t k t0 t1 k0 k1
    rcases List.mem_append.mp hv with g | g
    · have hne := hw v g
      rw [← h5 v g t k t0 t1 k0 k1]
      unfold WO
      rw [sas, san _ _ (by decide), up_n _ _ hne]
    · rw [List.mem_singleton.mp g]
      exact hn t k t0 t1 k0 k1
theorem FG_way {f : Nat → Nat → Int} {a j : Nat → Int → Int} (x : Int) (g g2 : Int → Int) : FG f (am_u2 f 24 25 x) a (am_sa a 30 g) j (am_sa j 28 g2) := ⟨fun q b h1 _ => u2a h1, fun q h1 _ => u2n h1, fun b h1 _ _ => san _ _ h1, fun b _ h2 => san _ _ h2⟩
theorem FG_26 {f f' : Nat → Nat → Int} {a j j' : Nat → Int → Int} (h : F26 f f') (hj : ∀ b, b ≠ 27 → j' b = j b) : FG f f' a a j j' := ⟨fun q b _ h2 => h q b h2, fun q _ _ => h q 25 (by decide), fun _ _ _ _ => rfl, fun b h1 _ => hj b h1⟩
/-- words elsewhere stay -/
theorem GI_27 {f f' : Nat → Nat → Int} {a j j' : Nat → Int → Int} {bads : List (Int × Int)} {ways : List Int} {TM : Int → Int → Int × List Int} (h : GI f a j bads ways TM) (hf : F26 f f') (hj : j' 28 = j 28) (hw : ∀ w ∈ ways, ∀ t k, 0 ≤ t → t < 3 → 0 ≤ k → k < 3 → j' 27 ((w / 16 * 3 + t) * 3 + k) = j 27 ((w / 16 * 3 + t) * 3 + k)) : GI f' a j' bads ways TM := by
  obtain ⟨h1, h2, h3, h4, h5⟩ := h
  refine ⟨(hf 30 25 (by decide)).trans h1, h2, (hf 24 25 (by decide)).trans h3, h4, ?_⟩
  intro w hw2 t k t0 t1 k0 k1
  rw [← h5 w hw2 t k t0 t1 k0 k1]
  unfold WO
  rw [hj, hw w hw2 t k t0 t1 k0 k1]
noncomputable def oth (D : DT) (x : MT) (r : Int) : Nat → Int → List Int
  | 0, _ => []
  | k + 1, o => @ite (List Int) (ce D x.2.2.2.2.1.1 o x.2.2.2.1.2.1 ≠ -1 ∧ jn D x r o) (Classical.propDecidable _) (o :: oth D x r k (o + 1)) (oth D x r k (o + 1))
theorem oth_y {D : DT} {x : MT} {r o : Int} {k : Nat} (h : ce D x.2.2.2.2.1.1 o x.2.2.2.1.2.1 ≠ -1 ∧ jn D x r o) : oth D x r (k + 1) o = o :: oth D x r k (o + 1) := if_pos h
theorem oth_n {D : DT} {x : MT} {r o : Int} {k : Nat} (h : ¬ (ce D x.2.2.2.2.1.1 o x.2.2.2.1.2.1 ≠ -1 ∧ jn D x r o)) : oth D x r (k + 1) o = oth D x r k (o + 1) := if_neg h
theorem wd2_0 {v : Int} (hv : 0 ≤ v) : wd 2 (dgs v) 0 ≠ 0 ∧ wd 2 (dgs v) 1 = 0 ∧ wd 2 (dgs v) 2 = 0 := by
  have h4 := dgs_4 v
  refine ⟨?_, ?_, ?_⟩
  · show hor 2 (pad 7 ((dgs v).take 7)) ≠ 0
    rw [List.take_of_length_le (by omega), hor_pad]
    have h1 : ∀ (l : List Int) (a : Int), 1 ≤ a → byt l → 1 ≤ hor a l := by
      intro l
      induction l with
      | nil => exact fun a h _ => h
      | cons b r ih =>
        intro a h hb
        have := hb b (List.mem_cons_self ..)
        exact ih (a * 256 + b) (by omega) (fun c hc => hb c (List.mem_cons_of_mem _ hc))
    have h2 := h1 (dgs v) 2 (by decide) (byt_dgs hv)
    have h3 : (0 : Int) < 256 ^ (7 - (dgs v).length) := Int.pow_pos (by decide)
    have h5 := Int.mul_pos (a := hor 2 (dgs v)) (b := 256 ^ (7 - (dgs v).length)) (by omega) h3
    omega
  · show hor 0 (pad 7 (((dgs v).drop 7).take 7)) = 0
    rw [List.drop_eq_nil_of_le (by omega)]
    rfl
  · show hor 0 (pad 7 (((dgs v).drop 14).take 6)) = 0
    rw [List.drop_eq_nil_of_le (by omega)]
    rfl
def wT (D : DT) (x : MT) (row pair : Int) (j : Nat → Int → Int) : Prop := ∀ k, 0 ≤ k → k < 3 → j 27 ((pair * 3 + 0) * 3 + k) = wd x.2.1.1 (tbP D x.1 row x.2.1) k ∧ j 27 ((pair * 3 + 1) * 3 + k) = wd x.2.2.1.1 (tbP D x.1 row x.2.2.1) k
theorem HH_li {L B1 B2 : Nat} : True := trivial
set_option maxHeartbeats 400000 in
set_option maxRecDepth 100000 in
theorem l_joinRow (d L B1 B2 : Nat) (fi : Nat → Nat → Int) (ai aj : Nat → Int → Int) (r : Nat) (x : MT) (row pair : Int) (hp : MapAt L B1 B2 r) (hx : RepM fi ai r x) (hj : x.2.2.2.2.1.1 ≠ -1) (hI : DI (DD fi ai)) (hw : wfM (DD fi ai) x) (hr : am_R row) (hpr : 0 ≤ pair ∧ pair < 96) (bads : List (Int × Int)) (TM : Int → Int → Int × List Int) (hTM : ∀ o t, 0 ≤ o → o < 16 → TM (pair * 16 + o) t = tmx (DD fi ai) x row o t) : ∀ (k : Nat) (o : Int) (f : Nat → Nat → Int) (a j : Nat → Int → Int) (ways : List Int) (l6 : Option am_V), o + (k : Int) = ro (DD fi ai) x.2.2.2.2.1.1 → 0 ≤ o → FG fi f ai a aj j → GI f a j bads ways TM → (∀ v ∈ ways, v < pair * 16 + o) → (ways.length : Int) ≤ pair * 16 + o → wT (DD fi ai) x row pair j → am_W (am_ev am_prog (d + 4)) T_Gi_joinRow (fun w h' => w = none ∧ ∃ f' a' j', h' = HH L B1 B2 f' a' j' ∧ FG fi f' ai a' aj j' ∧ GI f' a' j' bads (ways ++ (oth (DD fi ai) x row k o).map (fun o => pair * 16 + o)) TM) (3, [some (.inr (.inr 25)), some (.inr (.inr r)), some (.inl pair), some (.inr (.inr 17)), some (.inl row), some (.inl o), l6], [], HH L B1 B2 f a j) := by
  have p0 := hp.1
  have hf5 := hp.2.2.2.2.2.1
  have hpc := hp.2.2.2.2.2.2.2.2
  have hroJ := ro_in x.2.2.2.2.1.1 hI
  have hJc : am_R x.2.2.2.2.1.1 ∧ am_R x.2.2.2.1.2.1 := by
    obtain ⟨w1, w2, w3, w4, w5, w6⟩ := hw
    have := co_in x.2.2.2.2.1.1 hI
    have hn := hI.1
    rcases w4 with ⟨-, h⟩ | ⟨-, -, h3, h4⟩
    · exact absurd h hj
    · rcases h4 with h4 | h4
      · exact absurd h4.1 hj
      · exact ⟨⟨by omega, by omega⟩, ⟨by omega, by omega⟩⟩
  have hk2 : x.2.2.2.1.1 = 2 := (wfM_p hI hw).2.2.2.2.2.2 hj
  have ok17 : ∀ f a b, am_ok (HH L B1 B2 f a b) 17 1 := fun _ _ _ => okI rfl rfl rfl
  intro k
  induction k with
  | zero =>
    intro o f a j ways l6 hk ho hF hG hv hl hT
    have hD := hF.D
    have hx1 := hF.M p0 hx
    have g43 : am_gf (HH L B1 B2 f a j) 43 r 0 = .inl x.2.2.2.2.1.1 := congrArg Sum.inl hx1.2.2.2.2.1
    refine am_W.cv 1 m_So_rowsOf rfl rfl rfl rfl ⟨⟨trivial, HH_ma _ _ _ hp⟩, ok17 _ _ _⟩ (by rw [g43]; exact c_So_rowsOf (d + 3) L B1 B2 f a j _ hJc.1 (by rw [hD]; exact hI)) ?_
    rintro r1 h1 ⟨rfl, rfl⟩
    rw [hD]
    refine am_W.br rfl rfl ⟨trivial, ⟨by omega, by omega⟩, ⟨by omega, by omega⟩⟩ (fun c1 => ?_) (fun c1 => absurd c1 (by omega))
    refine am_W.rt rfl rfl ⟨trivial, trivial⟩ ⟨rfl, f, a, j, rfl, hF, ?_⟩
    show GI f a j bads (ways ++ []) TM
    rw [List.append_nil]
    exact hG
  | succ k ih =>
    intro o f a j ways l6 hk ho hF hG hv hl hT
    have hD := hF.D
    have hx1 := hF.M p0 hx
    have g43 : am_gf (HH L B1 B2 f a j) 43 r 0 = .inl x.2.2.2.2.1.1 := congrArg Sum.inl hx1.2.2.2.2.1
    have e42 : am_fr (HH L B1 B2 f a j) 42 r = r + 5 := hf5
    have g51 : am_gf (HH L B1 B2 f a j) 51 (r + 5) 0 = .inl x.2.2.2.1.2.1 := congrArg Sum.inl (hx1.2.2.2.1.2.1 (by omega))
    refine am_W.cv 1 m_So_rowsOf rfl rfl rfl rfl ⟨⟨trivial, HH_ma _ _ _ hp⟩, ok17 _ _ _⟩ (by rw [g43]; exact c_So_rowsOf (d + 3) L B1 B2 f a j _ hJc.1 (by rw [hD]; exact hI)) ?_
    rintro r1 h1 ⟨rfl, rfl⟩
    rw [hD]
    refine am_W.br rfl rfl ⟨trivial, ⟨by omega, by omega⟩, ⟨by omega, by omega⟩⟩ (fun c1 => absurd c1 (by omega)) (fun c1 => ?_)
    have hc := c_So_cell (d + 2) L B1 B2 f a j x.2.2.2.2.1.1 o x.2.2.2.1.2.1 hJc.1 ⟨by omega, by omega⟩ hJc.2 (by rw [hD]; exact hI)
    rw [hD] at hc
    refine am_W.cv 1 m_So_cell rfl rfl rfl rfl ⟨⟨⟨⟨trivial, HH_ma _ _ _ hp⟩, HH_ma _ _ _ hp⟩, by rw [e42]; exact HH_pa _ _ _ hpc⟩, ok17 _ _ _⟩ (by rw [g43, e42, g51]; exact hc) ?_
    rintro r1 h1 ⟨rfl, rfl⟩
    have hcell := ce_in x.2.2.2.2.1.1 o x.2.2.2.1.2.1 hI
    have hskip : ¬ (ce (DD fi ai) x.2.2.2.2.1.1 o x.2.2.2.1.2.1 ≠ -1 ∧ jn (DD fi ai) x row o) → ∀ l6 : Option am_V, am_W (am_ev am_prog (d + 4)) T_Gi_joinRow (fun w h' => w = none ∧ ∃ f' a' j', h' = HH L B1 B2 f' a' j' ∧ FG fi f' ai a' aj j' ∧ GI f' a' j' bads (ways ++ (oth (DD fi ai) x row (k + 1) o).map (fun o => pair * 16 + o)) TM) (73, [some (.inr (.inr 25)), some (.inr (.inr r)), some (.inl pair), some (.inr (.inr 17)), some (.inl row), some (.inl o), l6], [], HH L B1 B2 f a j) := by
      intro hq l6
      rw [oth_n hq]
      exact am_W.gp 3 rfl trivial (ih (o + 1) f a j ways l6 (by omega) (by omega) hF hG (fun v h => by have := hv v h; omega) (by omega) hT)
    generalize hcv : ce (DD fi ai) x.2.2.2.2.1.1 o x.2.2.2.1.2.1 = c at *
    refine am_W.br rfl rfl ⟨trivial, ⟨by omega, by omega⟩, ⟨by omega, by omega⟩⟩ (fun c2 => hskip (fun z => z.1 c2) _) (fun c2 => ?_)
    have hjc := c_joins d L B1 B2 f a j r x row o hp hx1 hj (by rw [hD]; exact hI) (by rw [hD]; exact hw) hr ⟨by omega, by omega⟩
    rw [hD] at hjc
    refine am_W.cv 8 m_Ma_joins rfl rfl rfl rfl ⟨trivial, HH_ma _ _ _ hp⟩ hjc ?_
    rintro w1 h1 ⟨hq1, rfl⟩
    rcases hq1 with ⟨n1, rfl⟩ | ⟨n1, rfl⟩
    · refine am_W.br rfl rfl ⟨trivial, ⟨by omega, by omega⟩⟩ (fun c3 => absurd c3 (by decide)) (fun c3 => ?_)
      refine am_W.cv 5 m_Te_valueWord rfl rfl rfl rfl ⟨⟨trivial, okI rfl rfl rfl⟩, okI rfl rfl rfl⟩ (c_Te_valueWord (d + 1) L B1 B2 f a j c (by omega)) ?_
      rintro r1 h1 ⟨rfl, rfl⟩
      have w2 := wd2_0 (v := c) (by omega)
      generalize hf2 : am_u2 (am_u2 f 33 26 (3 * 288)) 34 26 ((dgs c).length : Int) = f2
      generalize hj2 : am_sa j 27 (tw (j 27) 288 2 (dgs c)) = j2
      have hF2 : F26 f f2 := by rw [← hf2]; exact F26_T f _ _
      have hj2b : ∀ b, b ≠ 27 → j2 b = j b := fun b hb => by rw [← hj2]; exact san _ _ hb
      have hj27 : ∀ i, i < 864 → j2 27 i = j 27 i := fun i hi => by rw [← hj2, sas, tw_o (by omega)]
      have hG2 : GI f2 a j2 bads ways TM := GI_27 hG hF2 (hj2b 28 (by decide)) (fun v hv2 t k t0 t1 k0 k1 => hj27 _ (by have := hv v hv2; omega))
      have hFG2 : FG fi f2 ai a aj j2 := hF.tr (FG_26 hF2 hj2b)
      have e24 : f2 24 25 = (ways.length : Int) := hG2.2.2.1
      show am_W (am_ev am_prog (d + 4)) T_Gi_joinRow _ (70, _, _, HT L B1 B2 f a j 288 2 (dgs c))
      rw [show HT L B1 B2 f a j 288 2 (dgs c) = HH L B1 B2 f2 a j2 by rw [← hf2, ← hj2]; rfl]
      refine am_W.cv 4 m_Gi_addWay rfl rfl rfl rfl ⟨trivial, okI rfl rfl rfl⟩ (c_addWay (d + 3) L B1 B2 f2 a j2 (pair * 16 + o) (wd 2 (dgs c) 0) (by omega) (by omega)) ?_
      rintro r1 h1 ⟨rfl, rfl⟩
      have hT2 : wT (DD fi ai) x row pair (am_sa j2 28 (up (j2 28) (pair * 16 + o) (wd 2 (dgs c) 0))) := by
        intro k k0 k1
        rw [san _ _ (by decide), hj27 _ (by omega), hj27 _ (by omega)]
        exact hT k k0 k1
      have hGw := GI_way (w := pair * 16 + o) (b := wd 2 (dgs c) 0) hG2 (fun v hv2 => by have := hv v hv2; omega) ?_
      · rw [oth_y ⟨by rw [hcv]; exact c2, n1⟩, List.map_cons]
        have ew : ways ++ (pair * 16 + o) :: (oth (DD fi ai) x row k (o + 1)).map (fun o => pair * 16 + o) = (ways ++ [pair * 16 + o]) ++ (oth (DD fi ai) x row k (o + 1)).map (fun o => pair * 16 + o) := by rw [List.append_assoc]; rfl
        rw [ew]
        refine am_W.gp 3 rfl trivial (ih (o + 1) _ _ _ (ways ++ [pair * 16 + o]) _ (by omega) (by omega) (hFG2.tr (FG_way _ _ _)) hGw ?_ ?_ hT2)
        · intro v hv2
          rcases List.mem_append.mp hv2 with g | g
          · have := hv v g
            omega
          · rw [List.mem_singleton.mp g]
            omega
        · rw [List.length_append, List.length_singleton]
          omega
      · intro t k t0 t1 k0 k1
        rw [hTM o t ho (by omega)]
        unfold WO tmx
        rw [sas, up_s, san _ _ (by decide), show (pair * 16 + o) / 16 = pair by omega]
        have h3 : t = 0 ∨ t = 1 ∨ t = 2 := by omega
        rcases h3 with rfl | rfl | rfl
        · rw [if_neg (fun z => absurd z.1 (by decide)), if_pos rfl, hj27 _ (by omega)]
          exact (hT k k0 k1).1
        · rw [if_neg (fun z => absurd z.1 (by decide)), if_neg (by decide), if_pos rfl, hj27 _ (by omega)]
          exact (hT k k0 k1).2
        · rw [if_pos ⟨rfl, w2.1⟩, if_neg (show ¬ (2 : Int) = 0 by decide), if_neg (show ¬ (2 : Int) = 1 by decide), if_neg hj, hcv]
          have hk3 : k = 0 ∨ k = 1 ∨ k = 2 := by omega
          rcases hk3 with rfl | rfl | rfl
          · rw [if_pos rfl]
          · rw [if_neg (by decide), w2.2.1]
          · rw [if_neg (by decide), w2.2.2]
    · exact am_W.br rfl rfl ⟨trivial, ⟨by omega, by omega⟩⟩ (fun c3 => hskip (fun z => n1 z.2) _) (fun c3 => absurd rfl c3)
