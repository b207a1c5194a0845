-- the ways of a row
def WO (j : Nat → Int → Int) (w t k : Int) : Int := if t = 2 ∧ j 28 w ≠ 0 then (if k = 0 then j 28 w else 0) else j 27 ((w / 16 * 3 + t) * 3 + k)
def tmx (D : DT) (x : MT) (r o t : Int) : Int × List Int := if t = 0 then (x.2.1.1, tbP D x.1 r x.2.1) else if t = 1 then (x.2.2.1.1, tbP D x.1 r x.2.2.1) else if x.2.2.2.2.1.1 = -1 then (x.2.2.2.1.1, tbP D x.1 r x.2.2.2.1) else (2, dgs (ce D x.2.2.2.2.1.1 o x.2.2.2.1.2.1))
def FG (fi f : Nat → Nat → Int) (ai a aj j : Nat → Int → Int) : Prop := (∀ q b, b ≠ 25 → b ≠ 26 → f q b = fi q b) ∧ (∀ q, q ≠ 24 → q ≠ 30 → f q 25 = fi q 25) ∧ (∀ b, b ≠ 30 → b ≠ 34 → b ≠ 35 → a b = ai b) ∧ (∀ b, b ≠ 27 → b ≠ 28 → j b = aj b)
theorem FG.rf {fi : Nat → Nat → Int} {ai aj : Nat → Int → Int} : FG fi fi ai ai aj aj := ⟨fun _ _ _ _ => rfl, fun _ _ _ => rfl, fun _ _ _ _ => rfl, fun _ _ _ => rfl⟩
theorem FG.tr {f1 f2 f3 : Nat → Nat → Int} {a1 a2 a3 j1 j2 j3 : Nat → Int → Int} (h1 : FG f1 f2 a1 a2 j1 j2) (h2 : FG f2 f3 a2 a3 j2 j3) : FG f1 f3 a1 a3 j1 j3 := ⟨fun q b p r => (h2.1 q b p r).trans (h1.1 q b p r), fun q p r => (h2.2.1 q p r).trans (h1.2.1 q p r), fun b p q r => (h2.2.2.1 b p q r).trans (h1.2.2.1 b p q r), fun b p q => (h2.2.2.2 b p q).trans (h1.2.2.2 b p q)⟩
theorem FG.D {fi f : Nat → Nat → Int} {ai a aj j : Nat → Int → Int} (h : FG fi f ai a aj j) : DD f a = DD fi ai := by
  unfold DD
  rw [h.1 10 17 (by decide) (by decide), h.2.2.1 18 (by decide) (by decide) (by decide), h.2.2.1 19 (by decide) (by decide) (by decide), h.2.2.1 20 (by decide) (by decide) (by decide), h.2.2.1 21 (by decide) (by decide) (by decide)]
theorem FG.M {fi f : Nat → Nat → Int} {ai a aj j : Nat → Int → Int} {r : Nat} {x : MT} (h : FG fi f ai a aj j) (hp : 40 ≤ r) (hx : RepM fi ai r x) : RepM f a r x := hx.fr (fun q b h1 h2 => h.1 q b (by omega) (by omega)) (fun b h1 h2 => h.2.2.1 b (by omega) (by omega) (by omega))
def GI (f : Nat → Nat → Int) (a j : Nat → Int → Int) (bads : List (Int × Int)) (ways : List Int) (TM : Int → Int → Int × List Int) : Prop := f 30 25 = (bads.length : Int) ∧ (∀ (i : Nat) (p : Int × Int), bads[i]? = some p → a 34 (i : Int) = p.1 ∧ a 35 (i : Int) = p.2) ∧ f 24 25 = (ways.length : Int) ∧ (∀ (i : Nat) (w : Int), ways[i]? = some w → a 30 (i : Int) = w) ∧ (∀ w ∈ ways, ∀ t k, 0 ≤ t → t < 3 → 0 ≤ k → k < 3 → WO j w t k = wd (TM w t).1 (TM w t).2 k)
theorem getE_app {α : Type} {l : List α} {x y : α} {i : Nat} (h : (l ++ [x])[i]? = some y) : (i < l.length ∧ l[i]? = some y) ∨ (i = l.length ∧ y = x) := by
  by_cases hj : i < l.length
  · rw [List.getElem?_append_left hj] at h
    exact Or.inl ⟨hj, h⟩
  · rw [List.getElem?_append_right (by omega)] at h
    have hj2 : i = l.length := by
      rcases Nat.eq_or_lt_of_le (Nat.le_of_not_lt hj) with h2 | h2
      · exact h2.symm
      · rw [List.getElem?_eq_none (by rw [List.length_singleton]; omega)] at h
        cases h
    subst hj2
    rw [Nat.sub_self] at h
    cases h
    exact Or.inr ⟨rfl, rfl⟩
/-- a way more -/
theorem GI_way {f : Nat → Nat → Int} {a j : Nat → Int → Int} {bads : List (Int × Int)} {ways : List Int} {TM : Int → Int → Int × List Int} {w b : Int} (h : GI f a j bads ways TM) (hw : ∀ v ∈ ways, v ≠ w) (hn : ∀ t k, 0 ≤ t → t < 3 → 0 ≤ k → k < 3 → WO (am_sa j 28 (up (j 28) w b)) w t k = wd (TM w t).1 (TM w t).2 k) : GI (am_u2 f 24 25 (f 24 25 + 1)) (am_sa a 30 (up (a 30) (f 24 25) w)) (am_sa j 28 (up (j 28) w b)) bads (ways ++ [w]) TM := by
  obtain ⟨h1, h2, h3, h4, h5⟩ := h
  refine ⟨(u2n (by decide)).trans h1, ?_, ?_, ?_, ?_⟩
  · intro i p hp
    rw [san _ _ (by decide), san _ _ (by decide)]
    exact h2 i p hp
  · rw [u2s, List.length_append, List.length_singleton]
    omega
  · intro i v hv
    rw [sas]
    rcases getE_app hv with ⟨g1, g2⟩ | ⟨g1, g2⟩
    · rw [up_n _ _ (by omega)]
      exact h4 i v g2
    · rw [g1, ← h3, up_s, g2]
  · intro v hv t k t0 t1 k0 k1
    rcases List.mem_append.mp hv with g | g
    · have hne := hw v g
      rw [← h5 v g t k t0 t1 k0 k1]
      unfold WO
      rw [sas, san _ _ (by decide), up_n _ _ hne]
    · rw [List.mem_singleton.mp g]
      exact hn t k t0 t1 k0 k1
theorem FG_way {f : Nat → Nat → Int} {a j : Nat → Int → Int} (x : Int) (g g2 : Int → Int) : FG f (am_u2 f 24 25 x) a (am_sa a 30 g) j (am_sa j 28 g2) := ⟨fun q b h1 _ => u2a h1, fun q h1 _ => u2n h1, fun b h1 _ _ => san _ _ h1, fun b _ h2 => san _ _ h2⟩
theorem FG_26 {f f' : Nat → Nat → Int} {a j j' : Nat → Int → Int} (h : F26 f f') (hj : ∀ b, b ≠ 27 → j' b = j b) : FG f f' a a j j' := ⟨fun q b _ h2 => h q b h2, fun q _ _ => h q 25 (by decide), fun _ _ _ _ => rfl, fun b h1 _ => hj b h1⟩
/-- words elsewhere stay -/
theorem GI_27 {f f' : Nat → Nat → Int} {a j j' : Nat → Int → Int} {bads : List (Int × Int)} {ways : List Int} {TM : Int → Int → Int × List Int} (h : GI f a j bads ways TM) (hf : F26 f f') (hj : j' 28 = j 28) (hw : ∀ w ∈ ways, ∀ t k, 0 ≤ t → t < 3 → 0 ≤ k → k < 3 → j' 27 ((w / 16 * 3 + t) * 3 + k) = j 27 ((w / 16 * 3 + t) * 3 + k)) : GI f' a j' bads ways TM := by
  obtain ⟨h1, h2, h3, h4, h5⟩ := h
  refine ⟨(hf 30 25 (by decide)).trans h1, h2, (hf 24 25 (by decide)).trans h3, h4, ?_⟩
  intro w hw2 t k t0 t1 k0 k1
  rw [← h5 w hw2 t k t0 t1 k0 k1]
  unfold WO
  rw [hj, hw w hw2 t k t0 t1 k0 k1]
noncomputable def oth (D : DT) (x : MT) (r : Int) : Nat → Int → List Int
  | 0, _ => []
  | k + 1, o => @ite (List Int) (ce D x.2.2.2.2.1.1 o x.2.2.2.1.2.1 ≠ -1 ∧ jn D x r o) (Classical.propDecidable _) (o :: oth D x r k (o + 1)) (oth D x r k (o + 1))
theorem oth_y {D : DT} {x : MT} {r o : Int} {k : Nat} (h : ce D x.2.2.2.2.1.1 o x.2.2.2.1.2.1 ≠ -1 ∧ jn D x r o) : oth D x r (k + 1) o = o :: oth D x r k (o + 1) := if_pos h
theorem oth_n {D : DT} {x : MT} {r o : Int} {k : Nat} (h : ¬ (ce D x.2.2.2.2.1.1 o x.2.2.2.1.2.1 ≠ -1 ∧ jn D x r o)) : oth D x r (k + 1) o = oth D x r k (o + 1) := if_neg h
theorem wd2_0 {v : Int} (hv : 0 ≤ v) : wd 2 (dgs v) 0 ≠ 0 ∧ wd 2 (dgs v) 1 = 0 ∧ wd 2 (dgs v) 2 = 0 := by
  have h4 := dgs_4 v
  refine ⟨?_, ?_, ?_⟩
  · show hor 2 (pad 7 ((dgs v).take 7)) ≠ 0
    rw [List.take_of_length_le (by omega), hor_pad]
    have h1 : ∀ (l : List Int) (a : Int), 1 ≤ a → byt l → 1 ≤ hor a l := by
      intro l
      induction l with
      | nil => exact fun a h _ => h
      | cons b r ih =>
        intro a h hb
        have := hb b (List.mem_cons_self ..)
        exact ih (a * 256 + b) (by omega) (fun c hc => hb c (List.mem_cons_of_mem _ hc))
    have h2 := h1 (dgs v) 2 (by decide) (byt_dgs hv)
    have h3 : (0 : Int) < 256 ^ (7 - (dgs v).length) := Int.pow_pos (by decide)
    have h5 := Int.mul_pos (a := hor 2 (dgs v)) (b := 256 ^ (7 - (dgs v).length)) (by omega) h3
    omega
  · show hor 0 (pad 7 (((dgs v).drop 7).take 7)) = 0
    rw [List.drop_eq_nil_of_le (by omega)]
    rfl
  · show hor 0 (pad 7 (((dgs v).drop 14).take 6)) = 0
    rw [List.drop_eq_nil_of_le (by omega)]
    rfl
