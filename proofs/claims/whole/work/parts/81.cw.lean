-- ways compared
def cp3 (x y : Int) : Int := if x < y then -1 else if x = y then 0 else 1
def lexc : List Int → List Int → Int
  | x :: r, y :: s => if cp3 x y = 0 then lexc r s else cp3 x y
  | _, _ => 0
theorem cp3_R (x y : Int) : cp3 x y = -1 ∨ cp3 x y = 0 ∨ cp3 x y = 1 := by
  unfold cp3
  (repeat' split) <;> omega
set_option maxHeartbeats 400000 in
set_option maxRecDepth 100000 in
theorem c_Lng_compare (d : Nat) (x y : Int) (h : am_H) (hx : am_RJ x) (hy : am_RJ y) : am_M am_prog (d + 1) m_Lng_compare [.inr (.inl x), .inr (.inl y)] h (fun v h' => v = some (.inl (cp3 x y)) ∧ h' = h) := by
  refine am_W.of rfl rfl ?_
  unfold cp3
  by_cases h1 : x < y
  · rw [if_pos h1]
    refine am_W.br rfl rfl ⟨⟨trivial, hx, hy⟩, by rw [if_pos h1]; exact ⟨by omega, by omega⟩⟩ (fun c => absurd c (by rw [if_pos h1]; omega)) (fun c => ?_)
    exact am_W.rt rfl rfl ⟨trivial, trivial⟩ ⟨rfl, rfl⟩
  · rw [if_neg h1]
    have hr : am_R (if x = y then 0 else 1) := by split <;> exact ⟨by omega, by omega⟩
    refine am_W.br rfl rfl ⟨⟨trivial, hx, hy⟩, by rw [if_neg h1]; exact hr⟩ (fun c => ?_) (fun c => absurd (by rw [if_neg h1]; split <;> omega) c)
    by_cases h2 : x = y
    · rw [if_pos h2]
      refine am_W.br rfl rfl ⟨⟨trivial, hx, hy⟩, by rw [if_neg h1]; exact hr⟩ (fun c2 => absurd (by rw [if_neg h1, if_pos h2]) c2) (fun c2 => ?_)
      exact am_W.rt rfl rfl ⟨trivial, trivial⟩ ⟨rfl, rfl⟩
    · rw [if_neg h2]
      refine am_W.br rfl rfl ⟨⟨trivial, hx, hy⟩, by rw [if_neg h1]; exact hr⟩ (fun c2 => ?_) (fun c2 => absurd (by rw [if_neg h1, if_neg h2]; omega) c2)
      exact am_W.rt rfl rfl ⟨trivial, trivial⟩ ⟨rfl, rfl⟩
set_option maxHeartbeats 400000 in
set_option maxRecDepth 100000 in
theorem c_Itg_compare (d : Nat) (x y : Int) (h : am_H) (hx : am_R x) (hy : am_R y) : am_M am_prog (d + 1) m_Itg_compare [.inl x, .inl y] h (fun v h' => v = some (.inl (cp3 x y)) ∧ h' = h) := by
  refine am_W.of rfl rfl ?_
  unfold cp3
  refine am_W.br rfl rfl ⟨trivial, hx, hy⟩ (fun c1 => ?_) (fun c1 => ?_)
  · rw [if_neg (by omega)]
    refine am_W.br rfl rfl ⟨trivial, hx, hy⟩ (fun c2 => ?_) (fun c2 => ?_)
    · rw [if_neg c2]
      exact am_W.rt rfl rfl ⟨trivial, trivial⟩ ⟨rfl, rfl⟩
    · rw [if_pos (by omega)]
      exact am_W.rt rfl rfl ⟨trivial, trivial⟩ ⟨rfl, rfl⟩
  · rw [if_pos (by omega)]
    exact am_W.rt rfl rfl ⟨trivial, trivial⟩ ⟨rfl, rfl⟩
/-- a way's words and graph are such as can be compared -/
def wok (a j : Nat → Int → Int) (w : Int) : Prop := (0 ≤ w ∧ w < 1536) ∧ (∀ t k, 0 ≤ t → t < 3 → 0 ≤ k → k < 3 → 0 ≤ WO j w t k ∧ WO j w t k < 216172782113783808) ∧ am_RJ (j 28 w) ∧ (0 ≤ a 29 (w / 256) ∧ a 29 (w / 256) < 10)
set_option maxHeartbeats 400000 in
set_option maxRecDepth 100000 in
theorem c_wordOf (d L B1 B2 : Nat) (fi : Nat → Nat → Int) (ai aj : Nat → Int → Int) (w t k : Int) (hw : wok ai aj w) (ht : 0 ≤ t ∧ t < 3) (hk : 0 ≤ k ∧ k < 3) : am_M am_prog (d + 1) m_Gi_wordOf [.inr (.inr 25), .inl w, .inl t, .inl k] (HH L B1 B2 fi ai aj) (fun v h' => v = some (.inr (.inl (WO aj w t k))) ∧ h' = HH L B1 B2 fi ai aj) := by
  obtain ⟨w1, w2, w3, w4⟩ := hw
  have ed : w.tdiv 16 = w / 16 := Int.tdiv_eq_ediv_of_nonneg w1.1
  have ok28 : am_okr (HH L B1 B2 fi ai aj) (am_fr (HH L B1 B2 fi ai aj) 20 25) 1001 w := okrI rfl rfl (t := 1001) (N := 1536) rfl rfl w1.1 (by omega)
  have e28 : am_aj (HH L B1 B2 fi ai aj) (am_fr (HH L B1 B2 fi ai aj) 20 25) w = aj 28 w := rfl
  have ok25 : am_ok (HH L B1 B2 fi ai aj) 25 4 := okI rfl rfl rfl
  refine am_W.of rfl rfl ?_
  refine am_W.br rfl rfl ⟨trivial, ⟨by omega, by omega⟩⟩ (fun c => absurd c (by omega)) (fun c => ?_)
  refine am_W.br rfl rfl ⟨trivial, ⟨by omega, by omega⟩, ⟨by omega, by omega⟩⟩ (fun c => absurd c (by omega)) (fun c => ?_)
  refine am_W.br rfl rfl ⟨trivial, ⟨by omega, by omega⟩⟩ (fun c => absurd c (by omega)) (fun c => ?_)
  refine am_W.br rfl rfl ⟨trivial, ⟨by omega, by omega⟩, ⟨by omega, by omega⟩⟩ (fun c => absurd c (by omega)) (fun c => ?_)
  refine am_W.br rfl rfl ⟨trivial, ⟨by omega, by omega⟩⟩ (fun c => absurd c (by omega)) (fun c => ?_)
  refine am_W.br rfl rfl ⟨trivial, ⟨by omega, by omega⟩, ⟨by omega, by omega⟩⟩ (fun c => ?_) (fun c => absurd (by omega) c)
  have hlast : ¬ (t = 2 ∧ aj 28 w ≠ 0) → am_W (am_ev am_prog d) T_Gi_wordOf (fun v h' => v = some (.inr (.inl (WO aj w t k))) ∧ h' = HH L B1 B2 fi ai aj) (62, [some (.inr (.inr 25)), some (.inl w), some (.inl t), some (.inl k)], [], HH L B1 B2 fi ai aj) := by
    intro hq
    have ok27 : am_okr (HH L B1 B2 fi ai aj) (am_fr (HH L B1 B2 fi ai aj) 32 (am_fr (HH L B1 B2 fi ai aj) 19 25)) 1001 ((w / 16 * 3 + t) * 3 + k) := okrI rfl rfl (t := 1001) (N := 867) rfl rfl (by omega) (by omega)
    refine am_W.rt rfl rfl ⟨⟨⟨⟨⟨trivial, ok25⟩, okI rfl rfl rfl⟩, ⟨by omega, by omega⟩, ⟨by omega, by omega⟩, by decide⟩, by rw [ed]; exact ok27⟩, trivial⟩ ⟨?_, rfl⟩
    unfold WO
    rw [if_neg hq, ed]
    rfl
  refine am_W.br rfl rfl ⟨trivial, ⟨by omega, by omega⟩, ⟨by omega, by omega⟩⟩ (fun c2 => hlast (fun z => c2 z.1)) (fun c2 => ?_)
  have t2 : t = 2 := by omega
  have hcR : am_R (if aj 28 w < 0 then -1 else if aj 28 w = 0 then 0 else 1) := by (repeat' split) <;> exact ⟨by omega, by omega⟩
  refine am_W.br rfl rfl ⟨⟨⟨⟨trivial, ok25⟩, ok28⟩, w3, ⟨by decide, by decide⟩⟩, hcR⟩ (fun c3 => hlast (fun z => ?_)) (fun c3 => ?_)
  · have c3' : (if aj 28 w < 0 then (-1 : Int) else if aj 28 w = 0 then 0 else 1) = 0 := c3
    revert c3'
    split
    · intro q
      omega
    · split
      · next h => exact fun _ => z.2 h
      · intro q
        omega
  · have c3' : ¬ (if aj 28 w < 0 then (-1 : Int) else if aj 28 w = 0 then 0 else 1) = 0 := c3
    have hne : aj 28 w ≠ 0 := by
      intro q
      rw [if_neg (by omega), if_pos q] at c3'
      exact c3' rfl
    unfold WO
    rw [if_pos ⟨t2, hne⟩]
    refine am_W.br rfl rfl ⟨trivial, ⟨by omega, by omega⟩⟩ (fun c4 => ?_) (fun c4 => ?_)
    · rw [if_neg c4]
      exact am_W.rt rfl rfl ⟨trivial, trivial⟩ ⟨rfl, rfl⟩
    · rw [if_pos (by omega)]
      exact am_W.rt rfl rfl ⟨⟨⟨trivial, ok25⟩, ok28⟩, trivial⟩ ⟨rfl, rfl⟩
set_option maxHeartbeats 400000 in
set_option maxRecDepth 100000 in
theorem c_graphOfWay (d L B1 B2 : Nat) (fi : Nat → Nat → Int) (ai aj : Nat → Int → Int) (w : Int) (hw : wok ai aj w) : am_M am_prog (d + 1) m_Gi_graphOfWay [.inr (.inr 25), .inl w] (HH L B1 B2 fi ai aj) (fun v h' => v = some (.inl (ai 29 (w / 256))) ∧ h' = HH L B1 B2 fi ai aj) := by
  obtain ⟨w1, w2, w3, w4⟩ := hw
  have ed : (w.tdiv 16).tdiv 16 = w / 256 := by
    rw [Int.tdiv_eq_ediv_of_nonneg w1.1, Int.tdiv_eq_ediv_of_nonneg (by omega)]
    omega
  have ed1 : w.tdiv 16 = w / 16 := Int.tdiv_eq_ediv_of_nonneg w1.1
  have ok29 : am_okr (HH L B1 B2 fi ai aj) (am_fr (HH L B1 B2 fi ai aj) 21 25) 1000 (w / 256) := okrI rfl rfl (t := 1000) (N := 6) rfl rfl (by omega) (by omega)
  refine am_W.of rfl rfl ?_
  refine am_W.br rfl rfl ⟨trivial, ⟨by omega, by omega⟩⟩ (fun c => absurd c (by omega)) (fun c => ?_)
  refine am_W.br rfl rfl ⟨trivial, ⟨by omega, by omega⟩, ⟨by omega, by omega⟩⟩ (fun c => ?_) (fun c => absurd (by omega) c)
  refine am_W.rt rfl rfl ⟨⟨⟨⟨⟨trivial, okI rfl rfl rfl⟩, ⟨by omega, by omega⟩, ⟨by omega, by omega⟩, by decide⟩, ⟨by rw [ed1]; omega, by rw [ed1]; omega⟩, ⟨by omega, by omega⟩, by decide⟩, by rw [ed]; exact ok29⟩, trivial⟩ ⟨?_, rfl⟩
  rw [ed]
  rfl
def kyW (a j : Nat → Int → Int) (w : Int) : List Int := [WO j w 0 0, WO j w 0 1, WO j w 0 2, WO j w 1 0, WO j w 1 1, WO j w 1 2, WO j w 2 0, WO j w 2 1, WO j w 2 2, a 29 (w / 256)]
def cmW (a j : Nat → Int → Int) (x y : Int) : Int := lexc (kyW a j x) (kyW a j y)
theorem lexc_c {x y : Int} {r s : List Int} : lexc (x :: r) (y :: s) = if cp3 x y = 0 then lexc r s else cp3 x y := rfl
set_option maxHeartbeats 400000 in
set_option maxRecDepth 100000 in
theorem c_compareWays (d L B1 B2 : Nat) (fi : Nat → Nat → Int) (ai aj : Nat → Int → Int) (x y : Int) (hx : wok ai aj x) (hy : wok ai aj y) : am_M am_prog (d + 2) m_Gi_compareWays [.inr (.inr 25), .inl x, .inl y] (HH L B1 B2 fi ai aj) (fun v h' => v = some (.inl (cmW ai aj x y)) ∧ h' = HH L B1 B2 fi ai aj) := by
  have ok25 : am_ok (HH L B1 B2 fi ai aj) 25 4 := okI rfl rfl rfl
  have hstep : ∀ (R : Int) (t k : Int) (l5 : Option am_V), 0 ≤ t ∧ t < 3 → 0 ≤ k ∧ k < 3 → (cp3 (WO aj x t k) (WO aj y t k) ≠ 0 → R = cp3 (WO aj x t k) (WO aj y t k)) → (cp3 (WO aj x t k) (WO aj y t k) = 0 → ∀ l5 : Option am_V, am_W (am_ev am_prog (d + 1)) T_Gi_compareWays (fun v h' => v = some (.inl R) ∧ h' = HH L B1 B2 fi ai aj) (10, [some (.inr (.inr 25)), some (.inl x), some (.inl y), some (.inl t), some (.inl (k + 1)), l5], [], HH L B1 B2 fi ai aj)) → am_W (am_ev am_prog (d + 1)) T_Gi_compareWays (fun v h' => v = some (.inl R) ∧ h' = HH L B1 B2 fi ai aj) (10, [some (.inr (.inr 25)), some (.inl x), some (.inl y), some (.inl t), some (.inl k), l5], [], HH L B1 B2 fi ai aj) := by
    intro R t k l5 ht hk h1 h2
    have b1 := hx.2.1 t k ht.1 ht.2 hk.1 hk.2
    have b2 := hy.2.1 t k ht.1 ht.2 hk.1 hk.2
    refine am_W.br rfl rfl ⟨trivial, ⟨by omega, by omega⟩, ⟨by omega, by omega⟩⟩ (fun c => absurd c (by omega)) (fun c => ?_)
    refine am_W.cv 4 m_Gi_wordOf rfl rfl rfl rfl ⟨trivial, ok25⟩ (c_wordOf d L B1 B2 fi ai aj x t k hx ht hk) ?_
    rintro r1 h1 ⟨rfl, rfl⟩
    refine am_W.cv 4 m_Gi_wordOf rfl rfl rfl rfl ⟨trivial, ok25⟩ (c_wordOf d L B1 B2 fi ai aj y t k hy ht hk) ?_
    rintro r1 h1 ⟨rfl, rfl⟩
    refine am_W.cs rfl rfl rfl trivial (c_Lng_compare d _ _ _ ⟨by omega, by omega⟩ ⟨by omega, by omega⟩) ?_
    rintro r1 h1 ⟨rfl, rfl⟩
    have h3 := cp3_R (WO aj x t k) (WO aj y t k)
    refine am_W.br rfl rfl ⟨trivial, ⟨by omega, by omega⟩⟩ (fun c2 => ?_) (fun c2 => ?_)
    · exact am_W.gp 10 rfl trivial (h2 c2 _)
    · refine am_W.rt rfl rfl ⟨trivial, trivial⟩ ⟨?_, rfl⟩
      rw [h1 c2]
  have hrow : ∀ (R : Int) (t : Int) (l4 l5 : Option am_V), 0 ≤ t ∧ t < 3 → (cp3 (WO aj x t 0) (WO aj y t 0) ≠ 0 → R = cp3 (WO aj x t 0) (WO aj y t 0)) → (cp3 (WO aj x t 0) (WO aj y t 0) = 0 → cp3 (WO aj x t 1) (WO aj y t 1) ≠ 0 → R = cp3 (WO aj x t 1) (WO aj y t 1)) → (cp3 (WO aj x t 0) (WO aj y t 0) = 0 → cp3 (WO aj x t 1) (WO aj y t 1) = 0 → cp3 (WO aj x t 2) (WO aj y t 2) ≠ 0 → R = cp3 (WO aj x t 2) (WO aj y t 2)) → (cp3 (WO aj x t 0) (WO aj y t 0) = 0 → cp3 (WO aj x t 1) (WO aj y t 1) = 0 → cp3 (WO aj x t 2) (WO aj y t 2) = 0 → ∀ l4 l5 : Option am_V, am_W (am_ev am_prog (d + 1)) T_Gi_compareWays (fun v h' => v = some (.inl R) ∧ h' = HH L B1 B2 fi ai aj) (2, [some (.inr (.inr 25)), some (.inl x), some (.inl y), some (.inl (t + 1)), l4, l5], [], HH L B1 B2 fi ai aj)) → am_W (am_ev am_prog (d + 1)) T_Gi_compareWays (fun v h' => v = some (.inl R) ∧ h' = HH L B1 B2 fi ai aj) (2, [some (.inr (.inr 25)), some (.inl x), some (.inl y), some (.inl t), l4, l5], [], HH L B1 B2 fi ai aj) := by
    intro R t l4 l5 ht h0 h1 h2 h3
    refine am_W.br rfl rfl ⟨trivial, ⟨by omega, by omega⟩, ⟨by omega, by omega⟩⟩ (fun c => absurd c (by omega)) (fun c => ?_)
    refine am_W.gp 10 rfl trivial ?_
    refine hstep R t 0 _ ht (by omega) h0 (fun e0 l5 => ?_)
    refine hstep R t 1 _ ht (by omega) (h1 e0) (fun e1 l5 => ?_)
    refine hstep R t 2 _ ht (by omega) (h2 e0 e1) (fun e2 l5 => ?_)
    refine am_W.br rfl rfl ⟨trivial, ⟨by omega, by omega⟩, ⟨by omega, by omega⟩⟩ (fun c2 => ?_) (fun c2 => absurd (by omega) c2)
    exact am_W.gp 2 rfl trivial (h3 e0 e1 e2 _ _)
  refine am_W.of rfl rfl ?_
  refine am_W.gp 2 rfl trivial ?_
  unfold cmW kyW
  refine hrow _ 0 _ _ (by omega) (fun q => ?_) (fun e0 q => ?_) (fun e0 e1 q => ?_) (fun e0 e1 e2 l4 l5 => ?_)
  · rw [lexc_c, if_neg q]
  · rw [lexc_c, if_pos e0, lexc_c, if_neg q]
  · rw [lexc_c, if_pos e0, lexc_c, if_pos e1, lexc_c, if_neg q]
  rw [lexc_c, if_pos e0, lexc_c, if_pos e1, lexc_c, if_pos e2]
  refine hrow _ 1 _ _ (by omega) (fun q => ?_) (fun e0 q => ?_) (fun e0 e1 q => ?_) (fun e0 e1 e2 l4 l5 => ?_)
  · rw [lexc_c, if_neg q]
  · rw [lexc_c, if_pos e0, lexc_c, if_neg q]
  · rw [lexc_c, if_pos e0, lexc_c, if_pos e1, lexc_c, if_neg q]
  rw [lexc_c, if_pos e0, lexc_c, if_pos e1, lexc_c, if_pos e2]
  refine hrow _ 2 _ _ (by omega) (fun q => ?_) (fun e0 q => ?_) (fun e0 e1 q => ?_) (fun e0 e1 e2 l4 l5 => ?_)
  · rw [lexc_c, if_neg q]
  · rw [lexc_c, if_pos e0, lexc_c, if_neg q]
  · rw [lexc_c, if_pos e0, lexc_c, if_pos e1, lexc_c, if_neg q]
  rw [lexc_c, if_pos e0, lexc_c, if_pos e1, lexc_c, if_pos e2]
  have g1 := hx.2.2.2
  have g2 := hy.2.2.2
  refine am_W.br rfl rfl ⟨trivial, ⟨by omega, by omega⟩, ⟨by omega, by omega⟩⟩ (fun c2 => ?_) (fun c2 => absurd (by decide) c2)
  refine am_W.cv 4 m_Gi_graphOfWay rfl rfl rfl rfl ⟨trivial, ok25⟩ (c_graphOfWay d L B1 B2 fi ai aj x hx) ?_
  rintro r1 h1 ⟨rfl, rfl⟩
  refine am_W.cv 4 m_Gi_graphOfWay rfl rfl rfl rfl ⟨trivial, ok25⟩ (c_graphOfWay d L B1 B2 fi ai aj y hy) ?_
  rintro r1 h1 ⟨rfl, rfl⟩
  refine am_W.cs rfl rfl rfl trivial (c_Itg_compare d _ _ _ ⟨by omega, by omega⟩ ⟨by omega, by omega⟩) ?_
  rintro r1 h1 ⟨rfl, rfl⟩
  refine am_W.rt rfl rfl ⟨trivial, trivial⟩ ⟨?_, rfl⟩
  rw [lexc_c]
  split
  · next h => rw [h]; rfl
  · rfl
