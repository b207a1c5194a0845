-- what is printed fits: each token takes at most one byte more than in the text
theorem dge_e (t : Int → Int) : ∀ (k : Nat) (p v : Int), 0 ≤ v → p ≤ (dge t k p v).1 ∧ (dge t k p v).2 < (v + 1) * 10 ^ ((dge t k p v).1 - p).toNat
  | 0, p, v, h => by
    show p ≤ p ∧ v < (v + 1) * 10 ^ (p - p).toNat
    rw [Int.sub_self]
    refine ⟨Int.le_refl p, ?_⟩
    show v < (v + 1) * 10 ^ 0
    omega
  | k + 1, p, v, h => by
    unfold dge
    split
    · next hq =>
      obtain ⟨h1, h2⟩ := dge_e t k (p + 1) (10 * v + t p - 48) (by omega)
      refine ⟨by omega, ?_⟩
      have e : ((dge t k (p + 1) (10 * v + t p - 48)).1 - p).toNat = ((dge t k (p + 1) (10 * v + t p - 48)).1 - (p + 1)).toNat + 1 := by omega
      rw [e, Int.pow_succ]
      refine Int.lt_of_lt_of_le h2 ?_
      have h3 : (10 * v + t p - 48 + 1) ≤ (v + 1) * 10 := by omega
      calc (10 * v + t p - 48 + 1) * 10 ^ ((dge t k (p + 1) (10 * v + t p - 48)).1 - (p + 1)).toNat ≤ ((v + 1) * 10) * 10 ^ ((dge t k (p + 1) (10 * v + t p - 48)).1 - (p + 1)).toNat := Int.mul_le_mul_of_nonneg_right h3 (Int.le_of_lt (Int.pow_pos (by decide)))
        _ = (v + 1) * (10 ^ ((dge t k (p + 1) (10 * v + t p - 48)).1 - (p + 1)).toNat * 10) := by rw [Int.mul_assoc, Int.mul_comm 10]
    · show p ≤ p ∧ v < (v + 1) * 10 ^ (p - p).toNat
      rw [Int.sub_self]
      refine ⟨Int.le_refl p, ?_⟩
      show v < (v + 1) * 10 ^ 0
      omega
theorem dgs_len (v : Int) : (dgs v).length = if 1000 ≤ v then 4 else if 100 ≤ v then 3 else if 10 ≤ v then 2 else 1 := by
  unfold dgs
  simp only [List.length_append, List.length_cons, List.length_nil]
  by_cases h1 : 1000 ≤ v
  · rw [if_pos h1, if_pos h1, if_pos (by omega), if_pos (by omega)]
    rfl
  · by_cases h2 : 100 ≤ v
    · rw [if_neg h1, if_neg h1, if_pos h2, if_pos h2, if_pos (by omega)]
      rfl
    · by_cases h3 : 10 ≤ v
      · rw [if_neg h1, if_neg h1, if_neg h2, if_neg h2, if_pos h3, if_pos h3]
        rfl
      · rw [if_neg h1, if_neg h1, if_neg h2, if_neg h2, if_neg h3, if_neg h3]
        rfl
/-- a number's digits are no more than those read -/
theorem dge_d (t : Int → Int) (p : Int) (h : (dge t 4 p 0).1 ≠ p) : ((dgs (dge t 4 p 0).2).length : Int) ≤ (dge t 4 p 0).1 - p := by
  obtain ⟨h1, h2⟩ := dge_e t 4 p 0 (Int.le_refl 0)
  have h9 := dge_lt t p
  generalize dge t 4 p 0 = g at *
  rw [dgs_len]
  have hk : (g.1 - p).toNat = 1 ∨ (g.1 - p).toNat = 2 ∨ (g.1 - p).toNat = 3 ∨ 4 ≤ (g.1 - p).toNat := by omega
  rcases hk with hk | hk | hk | hk
  · rw [hk] at h2
    have h3 : g.2 < 10 := h2
    rw [if_neg (by omega), if_neg (by omega), if_neg (by omega)]
    omega
  · rw [hk] at h2
    have h3 : g.2 < 100 := h2
    rw [if_neg (by omega), if_neg (by omega)]
    split <;> omega
  · rw [hk] at h2
    have h3 : g.2 < 1000 := h2
    rw [if_neg (by omega)]
    (repeat' split) <;> omega
  · (repeat' split) <;> omega
/-- a token: behind its start, and a number's digits fit -/
theorem lxs_b (t : Int → Int) (s : Int) : s ≤ (lxs t s 0).2.2.2 ∧ ((lxs t s 0).2.1 ≠ -1 → s + 1 ≤ (lxs t s 0).2.2.2) ∧ ((lxs t s 0).2.1 = 1 → ((dgs (lxs t s 0).2.2.1).length : Int) ≤ (lxs t s 0).2.2.2 - s) ∧ (lxs t s 0).1 = s := by
  unfold lxs
  split
  · next h =>
    have hw := wdk_e h
    refine ⟨wde_ge 501 s, fun _ => ?_, fun q => ?_, rfl⟩
    · dsimp only
      omega
    · exfalso
      revert q
      dsimp only
      split
      · intro q
        omega
      · intro q
        omega
  · split
    · next h =>
      have hd := (dge_e t 3 (s + 1) (10 * 0 + t s - 48) (by omega)).1
      have e : dge t 4 s 0 = dge t 3 (s + 1) (10 * 0 + t s - 48) := if_pos h
      have hne : (dge t 4 s 0).1 ≠ s := by rw [e]; omega
      have := dge_d t s hne
      refine ⟨?_, fun _ => ?_, fun _ => this, rfl⟩
      · rw [e]
        dsimp only
        omega
      · rw [e]
        dsimp only
        omega
    · split
      · refine ⟨Int.le_refl s, fun q => absurd rfl q, fun q => ?_, rfl⟩
        dsimp only at q
        omega
      · refine ⟨by dsimp only; omega, fun _ => by dsimp only; omega, fun q => ?_, rfl⟩
        exfalso
        revert q
        dsimp only
        split
        · intro q
          omega
        · intro q
          omega
theorem skp_ge (t : Int → Int) : ∀ (k : Nat) (p : Int), p ≤ skp t k p
  | 0, p => Int.le_refl p
  | k + 1, p => by
    unfold skp
    split
    · have := skp_ge t k (p + 1)
      omega
    · exact Int.le_refl p
theorem lx_b (t : Int → Int) (b : Int) : b ≤ (lx t b 0).1 ∧ (lx t b 0).1 ≤ (lx t b 0).2.2.2 ∧ ((lx t b 0).2.1 ≠ -1 → (lx t b 0).1 + 1 ≤ (lx t b 0).2.2.2) ∧ ((lx t b 0).2.1 = 1 → ((dgs (lx t b 0).2.2.1).length : Int) ≤ (lx t b 0).2.2.2 - (lx t b 0).1) := by
  have h1 := skp_ge t 500 b
  obtain ⟨h2, h3, h4, h5⟩ := lxs_b t (skp t 500 b)
  unfold lx
  rw [h5]
  exact ⟨h1, h2, h3, h4⟩
theorem pNum_b {t : Int → Int} {m b : Int} {y : Tk} (h : pNum t m b = .inr y) : ((dgs y.2.2.1).length : Int) ≤ y.2.2.2 - b := by
  obtain ⟨h1, h2, -⟩ := pNum_i h
  have := lx_b t b
  subst h1
  have := this.2.2.2 h2
  omega
theorem pIs_b {t : Int → Int} {q b : Int} {y : Tk} (h : pIs t q b = .inr y) (hq : q ≠ -1) : b + 1 ≤ y.2.2.2 := by
  obtain ⟨h1, h2, -⟩ := pIs_i h
  have := lx_b t b
  subst h1
  have := this.2.2.1 (by omega)
  omega
theorem pPc_b {t : Int → Int} {m b : Int} {x : Int × Int} (hm : m ≤ 4) (h2 : ¬ (t b < 32 ∨ 126 < t b ∨ t b = 125)) (h34 : ¬ t b = 34) (h : pPc t m b = .inr x) : ((prC x.1).length : Int) ≤ x.2 - b := by
  unfold pPc at h
  split at h
  · split at h
    · cases h
    · next hne =>
      split at h
      · cases h
      · next hlt =>
        split at h
        · cases h
          have hd := dge_d t (b + 1) hne
          rw [prC, if_pos (by dsimp only; omega)]
          simp only [List.length_append, List.length_cons, List.length_nil]
          omega
        · cases h
  · split at h
    · split at h
      · next h3 =>
        cases h
        rw [prC, if_neg (by dsimp only; omega), if_pos h3]
        show (2 : Int) ≤ b + 2 - b
        omega
      · cases h
    · next h123 h92 =>
      cases h
      rw [prC, if_neg (by dsimp only; omega), if_neg (by dsimp only; omega)]
      show (1 : Int) ≤ b + 1 - b
      omega
theorem pcs_b {t : Int → Int} {m : Int} (hm : m ≤ 4) : ∀ (k : Nat) (b : Int) (l : List Int) (x : List Int × Int), pcs t m k b l = .inr x → ((prL x.1).length : Int) + 1 ≤ (prL l).length + (x.2 - b)
  | 0, b, l, x, h => by
    unfold pcs at h
    split at h
    · cases h
      dsimp only
      omega
    · split at h <;> cases h
  | k + 1, b, l, x, h => by
    unfold pcs at h
    split at h
    · cases h
      dsimp only
      omega
    · next h34 =>
      split at h
      · cases h
      · next h2 =>
        obtain ⟨y, hp, hy⟩ := pb_i h
        have h3 := pcs_b hm k y.2 (l ++ [y.1]) x hy
        have h4 := pPc_b hm h2 h34 hp
        rw [prL_app, List.length_append] at h3
        have e : (prL [y.1]).length = (prC y.1).length := by
          show (prC y.1 ++ []).length = _
          rw [List.append_nil]
        rw [e] at h3
        omega
/-- longer words have larger kinds -/
theorem lx_w (t : Int → Int) (b : Int) : ((lx t b 0).2.1 = 28518 ∨ (lx t b 0).2.1 = 25209 ∨ (lx t b 0).2.1 = 26982 ∨ (lx t b 0).2.1 = 26990 → (lx t b 0).1 + 2 ≤ (lx t b 0).2.2.2) ∧ ((lx t b 0).2.1 = 7168368 → (lx t b 0).1 + 3 ≤ (lx t b 0).2.2.2) ∧ ((lx t b 0).2.1 = 1853189228 → (lx t b 0).1 + 4 ≤ (lx t b 0).2.2.2) := by
  unfold lx
  generalize skp t 500 b = s
  unfold lxs
  split
  · next h =>
    have hw := wdk_e h
    dsimp only
    split
    · exact ⟨fun q => by omega, fun q => by omega, fun q => by omega⟩
    · refine ⟨fun q => ?_, fun q => ?_, fun q => ?_⟩ <;> omega
  · split
    · dsimp only
      exact ⟨fun q => by omega, fun q => by omega, fun q => by omega⟩
    · split
      · dsimp only
        exact ⟨fun q => by omega, fun q => by omega, fun q => by omega⟩
      · dsimp only
        split
        · refine ⟨fun q => ?_, fun q => ?_, fun q => ?_⟩ <;> omega
        · exact ⟨fun q => by omega, fun q => by omega, fun q => by omega⟩
theorem pName_b {t : Int → Int} {m b : Int} {x : PT × Int} (hm : m ≤ 4) (h : pName t m (lx t b 0) = .inr x) : ((prP x.1).length : Int) ≤ x.2 - b + 1 := by
  have hb := lx_b t b
  unfold pName at h
  split at h
  · next hq =>
    obtain ⟨y, hp, hy⟩ := pb_i h
    cases hy
    have h1 := pcs_b hm 30 _ [] y hp
    have h2 := hb.2.2.1 (by omega)
    have e : (prP (0, 0, y.1)).length = 1 + ((prL y.1).length + 2) := by
      show ([34] ++ (prL y.1 ++ [34, 32])).length = _
      rw [List.length_append, List.length_append]
      rfl
    rw [e]
    have e0 : (prL []).length = 0 := rfl
    rw [e0] at h1
    dsimp only
    omega
  · split at h
    · next hq =>
      obtain ⟨y, hp, hy⟩ := pb_i h
      cases hy
      have h1 := pNum_b hp
      have h2 := hb.2.2.1 (by omega)
      have e : (prP (1, y.2.2.1, [])).length = 1 + ((dgs y.2.2.1).length + 1) := by
        show ([95] ++ (dgs y.2.2.1 ++ [32])).length = _
        rw [List.length_append, List.length_append]
        rfl
      rw [e]
      dsimp only
      omega
    · cases h
theorem pObj_b {t : Int → Int} {D : DT} {s m b : Int} {x : PT × JT × Tk} (hm : m ≤ 4) (h : pObj t D s m (lx t b 0) = .inr x) : ((prP x.1).length : Int) + ((prJ x.2.1).length : Int) ≤ x.2.2.1 - b + 6 ∧ ∃ b', x.2.2 = lx t b' 0 := by
  have hb := lx_b t b
  unfold pObj at h
  split at h
  · next hq =>
    obtain ⟨y, hp, hy⟩ := pb_i h
    have h1 := pNum_b hp
    have h2 := hb.2.2.1 (by omega)
    have e : (prP (2, y.2.2.1, [])).length = 1 + ((dgs y.2.2.1).length + 1) := by
      show ([36] ++ (dgs y.2.2.1 ++ [32])).length = _
      rw [List.length_append, List.length_append]
      rfl
    have hz := lx_b t y.2.2.2
    split at hy
    · next hof =>
      have hzw := (lx_w t y.2.2.2).1 (Or.inl hof)
      obtain ⟨j, hj, hj2⟩ := pb_i hy
      cases hj2
      unfold pJoin at hj
      obtain ⟨y2, hp2, hy2⟩ := pb_i hj
      have k2 := pNum_b hp2
      split at hy2
      · cases hy2
      · split at hy2
        · cases hy2
        · obtain ⟨z, hz1, hz2⟩ := pb_i hy2
          obtain ⟨u, hu, hu2⟩ := pb_i hz2
          obtain ⟨w, hw, hw2⟩ := pb_i hu2
          obtain ⟨ez, ez2, -⟩ := pIs_i hz1
          have hzb := lx_b t y2.2.2.2
          have hbw := (lx_w t y2.2.2.2).1
          rw [← ez] at hzb hbw
          have hbw2 := hbw (Or.inr (Or.inl ez2))
          have ku := pNum_b hu
          have kw := pNum_b hw
          cases hw2
          have hwl := lx_b t w.2.2.2
          rw [e]
          have ej : ((prJ (y2.2.2.1, u.2.2.1, w.2.2.1)).length : Int) ≤ 9 + (dgs y2.2.2.1).length + (dgs u.2.2.1).length + (dgs w.2.2.1).length := by
            unfold prJ
            split
            · show ((0 : Nat) : Int) ≤ _
              omega
            · simp only [List.length_append, List.length_cons, List.length_nil]
              omega
          refine ⟨by dsimp only; omega, _, rfl⟩
    · split at hy
      · cases hy
        rw [e]
        have ej : (prJ (-1, 0, 0)).length = 0 := rfl
        rw [ej]
        exact ⟨by dsimp only; omega, _, rfl⟩
      · cases hy
  · obtain ⟨y, hp, hy⟩ := pb_i h
    cases hy
    have h1 := pName_b hm hp
    have hz := lx_b t y.2
    have ej : (prJ (-1, 0, 0)).length = 0 := rfl
    rw [ej]
    exact ⟨by dsimp only; omega, _, rfl⟩
theorem pCond_b {t : Int → Int} {m : Int} {σ : Tk} {x : JT × Tk} (hs : σ.1 + 2 ≤ σ.2.2.2) (h : pCond t m σ = .inr x) : ((prT x.1).length : Int) ≤ x.2.1 - σ.1 + 4 ∧ ∃ b', x.2 = lx t b' 0 := by
  have hb := lx_b t σ.2.2.2
  unfold pCond at h
  split at h
  · next hn =>
    have hbw := (lx_w t σ.2.2.2).2.2 hn
    split at h
    · next hd =>
      obtain ⟨y, hp, hy⟩ := pb_i h
      have h1 := pNum_b hp
      have h2 := lx_b t (lx t σ.2.2.2 0).2.2.2
      have h3 := h2.2.2.1 (by omega)
      cases hy
      have h4 := lx_b t y.2.2.2
      have e : ((prT (1853189228, y.2.2.1, 0)).length : Int) = 10 + (dgs y.2.2.1).length := by
        unfold prT
        rw [if_neg (show ¬ (1853189228 : Int) = -1 by decide), if_pos rfl, if_pos rfl]
        simp only [List.length_append, List.length_cons, List.length_nil]
        omega
      rw [e]
      exact ⟨by dsimp only; omega, _, rfl⟩
    · cases h
  · split at h
    · next hd =>
      obtain ⟨y, hp, hy⟩ := pb_i h
      have h1 := pNum_b hp
      have h3 := hb.2.2.1 (by omega)
      split at hy
      · next hsg =>
        obtain ⟨w, hw, hw2⟩ := pb_i hy
        have h5 := lx_b t y.2.2.2
        have h6 := h5.2.2.1 (by omega)
        obtain ⟨ew, ew2, -⟩ := pIs_i hw
        have h7 := lx_b t (lx t y.2.2.2 0).2.2.2
        rw [← ew] at h7
        have h8 := h7.2.2.2 ew2
        cases hw2
        have h9 := lx_b t w.2.2.2
        have e : ((prT ((lx t y.2.2.2 0).2.1, y.2.2.1, w.2.2.1)).length : Int) = 8 + (dgs y.2.2.1).length + (dgs w.2.2.1).length := by
          unfold prT
          rw [if_neg (by dsimp only; omega), if_neg (by dsimp only; omega), if_neg (by dsimp only; omega)]
          simp only [List.length_append, List.length_cons, List.length_nil]
          omega
        rw [e]
        exact ⟨by dsimp only; omega, _, rfl⟩
      · cases hy
    · cases h
theorem pMap_b {t : Int → Int} {D : DT} (hI : DI D) {b : Int} {x : MT × Tk} (h : pMap t D b = .inr x) : ((prM x.1).length : Int) ≤ x.2.1 - b + 21 ∧ ∃ b', x.2 = lx t b' 0 := by
  unfold pMap at h
  obtain ⟨y, hy, h⟩ := pb_i h
  obtain ⟨z, hz, h⟩ := pb_i h
  obtain ⟨p, hp, h⟩ := pb_i h
  obtain ⟨q, hq, h⟩ := pb_i h
  obtain ⟨l, hl, h⟩ := pb_i h
  obtain ⟨o, ho, h⟩ := pb_i h
  obtain ⟨c, hc, h⟩ := pb_i h
  obtain ⟨g, hg, h⟩ := pb_i h
  have hk := (co_in y.2.2.1 hI).2.1
  have k1 := pNum_b hy
  have k2 := pIs_b hz (by decide)
  have k3 := pName_b hk hp
  have k4 := pIs_b hq (by decide)
  have k5 := pcs_b hk 30 _ [] l hl
  have k6 := (pObj_b hk ho).1
  obtain ⟨b6, e6⟩ := (pObj_b hk ho).2
  have e0 : (prL []).length = 0 := rfl
  rw [e0] at k5
  have k7 : ((prT c.1).length : Int) ≤ c.2.1 - o.2.2.1 + 4 ∧ ∃ b', c.2 = lx t b' 0 := by
    split at hc
    · next hq1 =>
      have hw := (lx_w t b6).1
      rw [← e6] at hw
      exact pCond_b (hw (Or.inr (Or.inr (Or.inl hq1)))) hc
    · cases hc
      have e7 : (prT (-1, 0, 0)).length = 0 := rfl
      rw [e7]
      exact ⟨by dsimp only; omega, b6, e6⟩
  obtain ⟨k7, b7, e7⟩ := k7
  have k8 : ((prG g.1).length : Int) ≤ g.2.1 - c.2.1 + 2 ∧ ∃ b', g.2 = lx t b' 0 := by
    split at hg
    · next hq1 =>
      have hw := (lx_w t b7).1
      rw [← e7] at hw
      have hw2 := hw (Or.inr (Or.inr (Or.inr hq1)))
      unfold pGra at hg
      obtain ⟨w, hw3, hw4⟩ := pb_i hg
      have k9 := pNum_b hw3
      have hn := pNum_i hw3
      cases hw4
      have hb := lx_b t w.2.2.2
      have e8 : ((prG w.2.2.1).length : Int) = 4 + (dgs w.2.2.1).length := by
        unfold prG
        rw [if_neg (by omega)]
        simp only [List.length_append, List.length_cons, List.length_nil]
        omega
      rw [e8]
      exact ⟨by dsimp only; omega, _, rfl⟩
    · cases hg
      have e8 : (prG (-1)).length = 0 := rfl
      rw [e8]
      exact ⟨by dsimp only; omega, b7, e7⟩
  obtain ⟨k8, b8, e8⟩ := k8
  split at h
  · next hd =>
    cases h
    have hb := lx_b t b8
    rw [← e8] at hb
    have hb2 := hb.2.2.1 (by omega)
    have hb3 := lx_b t g.2.2.2.2
    have eP : (prP (0, 0, l.1)).length = 1 + ((prL l.1).length + 2) := by
      show ([34] ++ (prL l.1 ++ [34, 32])).length = _
      rw [List.length_append, List.length_append]
      rfl
    have eM : ((prM (y.2.2.1, p.1, (0, 0, l.1), o.1, o.2.1, c.1, g.1)).length : Int) = 9 + (dgs y.2.2.1).length + (prP p.1).length + (prP (0, 0, l.1)).length + (prP o.1).length + (prJ o.2.1).length + (prT c.1).length + (prG g.1).length := by
      unfold prM
      simp only [List.length_append, List.length_cons, List.length_nil]
      omega
    rw [eM, eP]
    refine ⟨?_, _, rfl⟩
    have hl2 := lx_b t l.2
    dsimp only
    omega
  · cases h
def inR (n b : Int) : Prop := 0 ≤ b ∧ b ≤ n
theorem lx_r {n : Int} {T : Int → Int} (hI : txI n T) {b : Int} (h : inR n b) : inR n (lx (tx n T) b 0).2.2.2 ∧ inR n (lx (tx n T) b 0).1 := by
  have := lx_in hI b 0 h.1 h.2 ⟨by omega, by omega⟩
  have h0 := h.1
  exact ⟨⟨by omega, by omega⟩, ⟨by omega, by omega⟩⟩
theorem pNum_r {n : Int} {T : Int → Int} (hI : txI n T) {m b : Int} {y : Tk} (h : pNum (tx n T) m b = .inr y) (hb : inR n b) : inR n y.2.2.2 := by
  obtain ⟨h1, -⟩ := pNum_i h
  subst h1
  exact (lx_r hI hb).1
theorem pIs_r {n : Int} {T : Int → Int} (hI : txI n T) {q b : Int} {y : Tk} (h : pIs (tx n T) q b = .inr y) (hb : inR n b) : inR n y.2.2.2 := by
  obtain ⟨h1, -⟩ := pIs_i h
  subst h1
  exact (lx_r hI hb).1
theorem pPc_r {n : Int} {T : Int → Int} {m b : Int} {x : Int × Int} (h2 : ¬ (tx n T b < 32 ∨ 126 < tx n T b ∨ tx n T b = 125)) (h : pPc (tx n T) m b = .inr x) : inR n x.2 := by
  have hb := tx_lt (n := n) (T := T) (p := b) (by omega)
  unfold pPc at h
  split at h
  · split at h
    · cases h
    · split at h
      · cases h
      · split at h
        · next h125 =>
          cases h
          have := tx_lt (n := n) (T := T) (p := (dge (tx n T) 4 (b + 1) 0).1) (by omega)
          exact ⟨by dsimp only; omega, by dsimp only; omega⟩
        · cases h
  · split at h
    · split at h
      · next h3 =>
        cases h
        have := tx_lt (n := n) (T := T) (p := b + 1) (by omega)
        exact ⟨by dsimp only; omega, by dsimp only; omega⟩
      · cases h
    · cases h
      exact ⟨by dsimp only; omega, by dsimp only; omega⟩
theorem pcs_r {n : Int} {T : Int → Int} {m : Int} : ∀ (k : Nat) (b : Int) (l : List Int) (x : List Int × Int), pcs (tx n T) m k b l = .inr x → inR n x.2
  | 0, b, l, x, h => by
    unfold pcs at h
    split at h
    · next hq =>
      cases h
      have := tx_lt (n := n) (T := T) (p := b) (by omega)
      exact ⟨by dsimp only; omega, by dsimp only; omega⟩
    · split at h <;> cases h
  | k + 1, b, l, x, h => by
    unfold pcs at h
    split at h
    · next hq =>
      cases h
      have := tx_lt (n := n) (T := T) (p := b) (by omega)
      exact ⟨by dsimp only; omega, by dsimp only; omega⟩
    · split at h
      · cases h
      · obtain ⟨y, hp, hy⟩ := pb_i h
        exact pcs_r k y.2 (l ++ [y.1]) x hy
theorem pName_r {n : Int} {T : Int → Int} (hI : txI n T) {m : Int} {σ : Tk} {x : PT × Int} (hs : inR n σ.2.2.2) (h : pName (tx n T) m σ = .inr x) : inR n x.2 := by
  unfold pName at h
  split at h
  · obtain ⟨y, hp, hy⟩ := pb_i h
    cases hy
    exact pcs_r 30 _ _ _ hp
  · split at h
    · obtain ⟨y, hp, hy⟩ := pb_i h
      cases hy
      exact pNum_r hI hp hs
    · cases h
theorem pObj_r {n : Int} {T : Int → Int} (hI : txI n T) {D : DT} {s m : Int} {σ : Tk} {x : PT × JT × Tk} (hs : inR n σ.2.2.2) (h : pObj (tx n T) D s m σ = .inr x) : ∃ b', inR n b' ∧ x.2.2 = lx (tx n T) b' 0 := by
  unfold pObj at h
  split at h
  · obtain ⟨y, hp, hy⟩ := pb_i h
    have h1 := pNum_r hI hp hs
    split at hy
    · obtain ⟨j, hj, hj2⟩ := pb_i hy
      cases hj2
      unfold pJoin at hj
      obtain ⟨y2, hp2, hy2⟩ := pb_i hj
      have h2 := pNum_r hI hp2 (lx_r hI h1).1
      split at hy2
      · cases hy2
      · split at hy2
        · cases hy2
        · obtain ⟨z, hz1, hz2⟩ := pb_i hy2
          obtain ⟨u, hu, hu2⟩ := pb_i hz2
          obtain ⟨w, hw, hw2⟩ := pb_i hu2
          cases hw2
          exact ⟨_, pNum_r hI hw (pNum_r hI hu (pIs_r hI hz1 h2)), rfl⟩
    · split at hy
      · cases hy
        exact ⟨_, h1, rfl⟩
      · cases hy
  · obtain ⟨y, hp, hy⟩ := pb_i h
    cases hy
    exact ⟨_, pName_r hI hs hp, rfl⟩
theorem pCond_r {n : Int} {T : Int → Int} (hI : txI n T) {m : Int} {σ : Tk} {x : JT × Tk} (hs : inR n σ.2.2.2) (h : pCond (tx n T) m σ = .inr x) : ∃ b', inR n b' ∧ x.2 = lx (tx n T) b' 0 := by
  unfold pCond at h
  split at h
  · split at h
    · obtain ⟨y, hp, hy⟩ := pb_i h
      cases hy
      exact ⟨_, pNum_r hI hp (lx_r hI (lx_r hI hs).1).1, rfl⟩
    · cases h
  · split at h
    · obtain ⟨y, hp, hy⟩ := pb_i h
      split at hy
      · obtain ⟨w, hw, hw2⟩ := pb_i hy
        cases hw2
        exact ⟨_, pIs_r hI hw (lx_r hI (pNum_r hI hp (lx_r hI hs).1)).1, rfl⟩
      · cases hy
    · cases h
theorem pMap_r {n : Int} {T : Int → Int} (hI : txI n T) {D : DT} {b : Int} {x : MT × Tk} (hb : inR n b) (h : pMap (tx n T) D b = .inr x) : ∃ b', inR n b' ∧ x.2 = lx (tx n T) b' 0 := by
  unfold pMap at h
  obtain ⟨y, hy, h⟩ := pb_i h
  obtain ⟨z, hz, h⟩ := pb_i h
  obtain ⟨p, hp, h⟩ := pb_i h
  obtain ⟨q, hq, h⟩ := pb_i h
  obtain ⟨l, hl, h⟩ := pb_i h
  obtain ⟨o, ho, h⟩ := pb_i h
  obtain ⟨c, hc, h⟩ := pb_i h
  obtain ⟨g, hg, h⟩ := pb_i h
  have h1 : inR n l.2 := pcs_r 30 _ _ _ hl
  obtain ⟨b6, r6, e6⟩ := pObj_r hI (lx_r hI h1).1 ho
  have h6 : inR n o.2.2.2.2.2 := by rw [e6]; exact (lx_r hI r6).1
  have h7 : ∃ b', inR n b' ∧ c.2 = lx (tx n T) b' 0 := by
    split at hc
    · exact pCond_r hI h6 hc
    · cases hc
      exact ⟨b6, r6, e6⟩
  obtain ⟨b7, r7, e7⟩ := h7
  have h8 : ∃ b', inR n b' ∧ g.2 = lx (tx n T) b' 0 := by
    split at hg
    · unfold pGra at hg
      obtain ⟨w, hw, hw2⟩ := pb_i hg
      cases hw2
      refine ⟨_, pNum_r hI hw ?_, rfl⟩
      rw [e7]
      exact (lx_r hI r7).1
    · cases hg
      exact ⟨b7, r7, e7⟩
  obtain ⟨b8, r8, e8⟩ := h8
  split at h
  · cases h
    refine ⟨_, ?_, rfl⟩
    rw [e8]
    exact (lx_r hI r8).1
  · cases h
theorem pAll_b {n : Int} {T : Int → Int} (hT : txI n T) {D : DT} (hI : DI D) : ∀ (k : Nat) (b : Int) (l ms : List MT), inR n b → pAll (tx n T) D k (lx (tx n T) b 0) l = .inr ms → l.length + k = 6 → ((prA l).length : Int) ≤ (lx (tx n T) b 0).1 + 18 * l.length → (∀ x ∈ l, wfM D x) → ms.length ≤ 6 ∧ ((prA ms).length : Int) ≤ 608 ∧ ∀ x ∈ ms, wfM D x
  | 0, b, l, ms, h0, h, hk, hl, hw => by
    have h5 := (lx_r hT h0).2.2
    have h6 := hT.2.1
    unfold pAll at h
    split at h
    · cases h
    · split at h
      · cases h
        exact ⟨by omega, by omega, hw⟩
      · cases h
  | k + 1, b, l, ms, h0, h, hk, hl, hw => by
    have h5 := (lx_r hT h0).2.2
    have h6 := hT.2.1
    unfold pAll at h
    split at h
    · next hq =>
      obtain ⟨x, hx, h⟩ := pb_i h
      obtain ⟨h1, -⟩ := pMap_b hI hx
      obtain ⟨b', r', h2⟩ := pMap_r hT (lx_r hT h0).1 hx
      have hw3 := (lx_w (tx n T) b).2.1 hq
      rw [h2] at h
      refine pAll_b hT hI k b' (l ++ [x.1]) ms r' h (by rw [List.length_append, List.length_singleton]; omega) ?_ ?_
      · rw [prA_app, List.length_append, List.length_append, List.length_singleton, ← h2]
        have e : (prA [x.1]).length = (prM x.1).length := by
          show (prM x.1 ++ []).length = _
          rw [List.append_nil]
        rw [e]
        omega
      · intro z hz
        rcases List.mem_append.mp hz with h3 | h3
        · exact hw z h3
        · rw [List.mem_singleton.mp h3]
          exact pMap_wf hx
    · split at h
      · cases h
        exact ⟨by omega, by omega, hw⟩
      · cases h
