-- the class's terms: numbers and parts
theorem byt1 {l : List Int} {b : Int} (h : byt l) (hb : 0 ≤ b ∧ b < 128) : byt (l ++ [b]) := byt_app h (fun c hc => by rw [List.mem_singleton.mp hc]; exact hb)
set_option maxHeartbeats 400000 in
set_option maxRecDepth 100000 in
theorem c_putNumG (d r : Nat) (Hs : List Int → am_H) (N : Nat) (hr : 16 ≤ r) (hok : ∀ l, am_ok (Hs l) r 5) (hput : ∀ l b, byt l → l.length < N → 48 ≤ b → b ≤ 57 → am_M am_prog (d + 1) m_Te_put [.inr (.inr r), .inl b] (Hs l) (fun w h' => w = none ∧ h' = Hs (l ++ [b]))) (l : List Int) (v : Int) (hby : byt l) (hv : 0 ≤ v ∧ v ≤ 9999) (hl : l.length + (dgs v).length ≤ N) : am_M am_prog (d + 2) m_Si_putNumber [.inr (.inr r), .inl v] (Hs l) (fun w h' => w = none ∧ h' = Hs (l ++ dgs v)) := by
  have e1 : ∀ k : Int, v.tdiv k = v / k := fun k => Int.tdiv_eq_ediv_of_nonneg hv.1
  have e2 : ∀ x : Int, 0 ≤ x → x.tmod 10 = x % 10 := fun x hx => Int.tmod_eq_emod_of_nonneg hx
  have a3 : 0 ≤ v / 1000 ∧ v / 1000 ≤ 9 := by omega
  have a2 : 0 ≤ v / 100 ∧ v / 100 ≤ 99 := by omega
  have a1 : 0 ≤ v / 10 ∧ v / 10 ≤ 999 := by omega
  have h62 : ∀ l1 : List Int, byt l1 → l1.length + [48 + v % 10].length ≤ N → am_W (am_ev am_prog (d + 1)) T_Si_putNumber (fun w h' => w = none ∧ h' = Hs (l1 ++ [48 + v % 10])) (62, [some (.inr (.inr r)), some (.inl v)], [], Hs l1) := by
    intro l1 hb1 h1
    rw [List.length_singleton] at h1
    have hp := hput l1 (48 + v % 10) hb1 (by omega) (by omega) (by omega)
    rw [← e2 v hv.1] at hp ⊢
    refine am_W.cv 5 m_Te_put rfl rfl rfl rfl ⟨⟨trivial, ⟨by omega, by omega⟩, ⟨by omega, by omega⟩, by decide⟩, hok l1⟩ hp ?_
    rintro r1 h1 ⟨rfl, rfl⟩
    exact am_W.rt rfl rfl ⟨trivial, trivial⟩ ⟨rfl, rfl⟩
  have hst : ∀ (l1 : List Int) (x : Int) (rest : List Int) (pc : Nat), True := fun _ _ _ _ => trivial
  have h42 : ∀ l1 : List Int, byt l1 → l1.length + ((if 10 ≤ v then [48 + v / 10 % 10] else []) ++ [48 + v % 10]).length ≤ N → am_W (am_ev am_prog (d + 1)) T_Si_putNumber (fun w h' => w = none ∧ h' = Hs (l1 ++ ((if 10 ≤ v then [48 + v / 10 % 10] else []) ++ [48 + v % 10]))) (42, [some (.inr (.inr r)), some (.inl v)], [], Hs l1) := by
    intro l1 hb1 h1
    by_cases hq : 10 ≤ v
    · rw [if_pos hq] at h1 ⊢
      rw [List.length_append, List.length_singleton] at h1
      have hp := hput l1 (48 + v / 10 % 10) hb1 (by omega) (by omega) (by omega)
      have hw := h62 (l1 ++ [48 + v / 10 % 10]) (byt1 hb1 (by omega)) (by rw [List.length_append]; exact (by omega))
      rw [List.append_assoc] at hw
      refine am_W.br rfl rfl ⟨trivial, ⟨by omega, by omega⟩, ⟨by omega, by omega⟩⟩ (fun c1 => absurd c1 (by omega)) (fun c1 => ?_)
      rw [← e2 _ a1.1, ← e1 10] at hp
      rw [← e2 _ a1.1, ← e1 10] at hw
      rw [← e2 _ a1.1, ← e1 10]
      refine am_W.cv 5 m_Te_put rfl rfl rfl rfl ?_ hp ?_
      · rw [e1]
        exact ⟨⟨⟨trivial, ⟨by omega, by omega⟩, ⟨by omega, by omega⟩, by decide⟩, ⟨by omega, by omega⟩, ⟨by omega, by omega⟩, by decide⟩, hok l1⟩
      · rintro r1 h1 ⟨rfl, rfl⟩
        exact hw
    · rw [if_neg hq, List.nil_append] at h1 ⊢
      exact am_W.br rfl rfl ⟨trivial, ⟨by omega, by omega⟩, ⟨by omega, by omega⟩⟩ (fun c1 => h62 l1 hb1 h1) (fun c1 => absurd c1 (by omega))
  have h22 : ∀ l1 : List Int, byt l1 → l1.length + ((if 100 ≤ v then [48 + v / 100 % 10] else []) ++ ((if 10 ≤ v then [48 + v / 10 % 10] else []) ++ [48 + v % 10])).length ≤ N → am_W (am_ev am_prog (d + 1)) T_Si_putNumber (fun w h' => w = none ∧ h' = Hs (l1 ++ ((if 100 ≤ v then [48 + v / 100 % 10] else []) ++ ((if 10 ≤ v then [48 + v / 10 % 10] else []) ++ [48 + v % 10])))) (22, [some (.inr (.inr r)), some (.inl v)], [], Hs l1) := by
    intro l1 hb1 h1
    by_cases hq : 100 ≤ v
    · rw [if_pos hq] at h1 ⊢
      rw [List.length_append, List.length_singleton] at h1
      have hp := hput l1 (48 + v / 100 % 10) hb1 (by omega) (by omega) (by omega)
      have hw := h42 (l1 ++ [48 + v / 100 % 10]) (byt1 hb1 (by omega)) (by rw [List.length_append, List.length_singleton]; omega)
      rw [List.append_assoc] at hw
      refine am_W.br rfl rfl ⟨trivial, ⟨by omega, by omega⟩, ⟨by omega, by omega⟩⟩ (fun c1 => absurd c1 (by omega)) (fun c1 => ?_)
      rw [← e2 _ a2.1, ← e1 100] at hp
      rw [← e2 _ a2.1, ← e1 100] at hw
      rw [← e2 _ a2.1, ← e1 100]
      refine am_W.cv 5 m_Te_put rfl rfl rfl rfl ?_ hp ?_
      · rw [e1]
        exact ⟨⟨⟨trivial, ⟨by omega, by omega⟩, ⟨by omega, by omega⟩, by decide⟩, ⟨by omega, by omega⟩, ⟨by omega, by omega⟩, by decide⟩, hok l1⟩
      · rintro r1 h1 ⟨rfl, rfl⟩
        exact hw
    · rw [if_neg hq, List.nil_append] at h1 ⊢
      exact am_W.br rfl rfl ⟨trivial, ⟨by omega, by omega⟩, ⟨by omega, by omega⟩⟩ (fun c1 => h42 l1 hb1 h1) (fun c1 => absurd c1 (by omega))
  refine am_W.of rfl rfl ?_
  unfold dgs at hl ⊢
  by_cases hq : 1000 ≤ v
  · rw [if_pos hq] at hl ⊢
    rw [List.length_append, List.length_singleton] at hl
    have hp := hput l (48 + v / 1000 % 10) hby (by omega) (by omega) (by omega)
    have hw := h22 (l ++ [48 + v / 1000 % 10]) (byt1 hby (by omega)) (by rw [List.length_append, List.length_singleton]; omega)
    rw [List.append_assoc] at hw
    refine am_W.br rfl rfl ⟨trivial, ⟨by omega, by omega⟩, ⟨by omega, by omega⟩⟩ (fun c1 => absurd c1 (by omega)) (fun c1 => ?_)
    rw [← e2 _ a3.1, ← e1 1000] at hp
    rw [← e2 _ a3.1, ← e1 1000] at hw
    rw [← e2 _ a3.1, ← e1 1000]
    refine am_W.cv 5 m_Te_put rfl rfl rfl rfl ?_ hp ?_
    · rw [e1]
      exact ⟨⟨⟨trivial, ⟨by omega, by omega⟩, ⟨by omega, by omega⟩, by decide⟩, ⟨by omega, by omega⟩, ⟨by omega, by omega⟩, by decide⟩, hok l⟩
    · rintro r1 h1 ⟨rfl, rfl⟩
      exact hw
  · rw [if_neg hq, List.nil_append] at hl ⊢
    exact am_W.br rfl rfl ⟨trivial, ⟨by omega, by omega⟩, ⟨by omega, by omega⟩⟩ (fun c1 => h22 l hby hl) (fun c1 => absurd c1 (by omega))
theorem c_Te_num (d L B1 B2 : Nat) (fi : Nat → Nat → Int) (ai aj : Nat → Int → Int) (τ q : Int) (l : List Int) (v : Int) (hτ : 0 ≤ τ ∧ τ ≤ 288) (hq : 0 ≤ q ∧ q ≤ 2) (hl : byt l) (hv : 0 ≤ v ∧ v ≤ 9999) (hn : l.length + (dgs v).length ≤ 1000) : am_M am_prog (d + 2) m_Si_putNumber [.inr (.inr 26), .inl v] (HT L B1 B2 fi ai aj τ q l) (fun w h' => w = none ∧ h' = HT L B1 B2 fi ai aj τ q (l ++ dgs v)) := c_putNumG d 26 (fun l => HT L B1 B2 fi ai aj τ q l) 1000 (by decide) (fun l => HT_ok _ _ _ _ _ _ _ _ l) (fun l b h1 h2 h3 h4 => c_Te_put d L B1 B2 fi ai aj τ q l b hτ hq h1 (by omega) h2) l v hl hv hn
theorem byt_dgs {v : Int} (hv : 0 ≤ v) : byt (dgs v) := by
  have h1 : ∀ x : Int, byt [48 + x % 10] := fun x c hc => by
    rw [List.mem_singleton.mp hc]
    omega
  have h0 : byt [] := fun c hc => by cases hc
  unfold dgs
  refine byt_app ?_ (byt_app ?_ (byt_app ?_ (h1 v)))
  · split
    · exact h1 _
    · exact h0
  · split
    · exact h1 _
    · exact h0
  · split
    · exact h1 _
    · exact h0
def tpC (D : DT) (s r p : Int) : List Int := if p < 4 then dgs (ce D s r p) else [p]
def tpL (D : DT) (s r : Int) : List Int → List Int
  | [] => []
  | p :: w => tpC D s r p ++ tpL D s r w
def tbP (D : DT) (s r : Int) (x : PT) : List Int := if x.1 = 0 then tpL D s r x.2.2 else (if x.1 = 1 then dgs s ++ [46] else []) ++ dgs (ce D s r x.2.1)
theorem tpL_app (D : DT) (s r : Int) : ∀ (a b : List Int), tpL D s r (a ++ b) = tpL D s r a ++ tpL D s r b
  | [], b => rfl
  | x :: w, b => by
    show tpC D s r x ++ tpL D s r (w ++ b) = tpC D s r x ++ tpL D s r w ++ tpL D s r b
    rw [tpL_app D s r w b, List.append_assoc]
/-- no column that is wanted is null -/
def nnP (D : DT) (s r : Int) (x : PT) : Prop := if x.1 = 0 then ∀ p ∈ x.2.2, p < 4 → ce D s r p ≠ -1 else ce D s r x.2.1 ≠ -1
theorem tpC_b {D : DT} {s r p : Int} (hI : DI D) (hp : okC 4 p) (hn : p < 4 → ce D s r p ≠ -1) : byt (tpC D s r p) ∧ (tpC D s r p).length ≤ 4 := by
  have hc := ce_in s r p hI
  unfold tpC
  split
  · next h =>
    have := hn h
    exact ⟨byt_dgs (by omega), dgs_4 _⟩
  · refine ⟨fun c h => ?_, by rw [List.length_singleton]; omega⟩
    rw [List.mem_singleton.mp h]
    rcases hp with h | h <;> omega
theorem tpL_b {D : DT} {s r : Int} (hI : DI D) : ∀ (l : List Int), (∀ p ∈ l, okC 4 p) → (∀ p ∈ l, p < 4 → ce D s r p ≠ -1) → byt (tpL D s r l) ∧ (tpL D s r l).length ≤ 4 * l.length
  | [], _, _ => ⟨fun c hc => (by cases hc), Nat.le_refl 0⟩
  | p :: w, h1, h2 => by
    obtain ⟨a1, a2⟩ := tpC_b hI (h1 p (List.mem_cons_self ..)) (h2 p (List.mem_cons_self ..))
    obtain ⟨b1, b2⟩ := tpL_b hI w (fun p hp => h1 p (List.mem_cons_of_mem _ hp)) (fun p hp => h2 p (List.mem_cons_of_mem _ hp))
    refine ⟨byt_app a1 b1, ?_⟩
    show (tpC D s r p ++ tpL D s r w).length ≤ _
    rw [List.length_append, List.length_cons]
    omega
theorem tbP_b {D : DT} {s r : Int} {x : PT} (hI : DI D) (hs : 0 ≤ s) (h0 : x.1 = 0 → x.2.2.length ≤ 30 ∧ ∀ q ∈ x.2.2, okC 4 q) (hn : nnP D s r x) : byt (tbP D s r x) ∧ (tbP D s r x).length ≤ 120 ∧ (x.1 ≠ 0 → 1 ≤ (tbP D s r x).length ∧ (tbP D s r x).length ≤ 9) := by
  unfold tbP
  unfold nnP at hn
  have h1 : ∀ v : Int, 1 ≤ (dgs v).length := fun v => by
    rw [dgs_len]
    (repeat' split) <;> omega
  split
  · next h =>
    rw [if_pos h] at hn
    obtain ⟨a1, a2⟩ := h0 h
    obtain ⟨b1, b2⟩ := tpL_b (D := D) (s := s) (r := r) hI x.2.2 a2 hn
    exact ⟨b1, by omega, fun q => absurd h q⟩
  · next h =>
    rw [if_neg h] at hn
    have hc := ce_in s r x.2.1 hI
    have k1 := h1 (ce D s r x.2.1)
    have k2 := dgs_4 (ce D s r x.2.1)
    have k3 := dgs_4 s
    have b1 := byt_dgs (v := ce D s r x.2.1) (by omega)
    split
    · refine ⟨byt_app (byt_app (byt_dgs hs) (fun c hc => by rw [List.mem_singleton.mp hc]; omega)) b1, ?_, fun _ => ?_⟩ <;> simp only [List.length_append, List.length_cons, List.length_nil] <;> omega
    · rw [List.nil_append]
      exact ⟨b1, by omega, fun _ => by omega⟩
theorem HT_fi (L B1 B2 : Nat) (fi : Nat → Nat → Int) (ai aj : Nat → Int → Int) (τ q : Int) (l : List Int) {j b : Nat} (h : b ≠ 26) : am_fi (HT L B1 B2 fi ai aj τ q l) j b = fi j b := by
  show am_u2 (am_u2 fi 33 26 (3 * τ)) 34 26 (l.length : Int) j b = fi j b
  rw [u2a h, u2a h]
theorem HT_ai (L B1 B2 : Nat) (fi : Nat → Nat → Int) (ai aj : Nat → Int → Int) (τ q : Int) (l : List Int) : am_ai (HT L B1 B2 fi ai aj τ q l) = ai := rfl
theorem HT_fr (L B1 B2 : Nat) (fi : Nat → Nat → Int) (ai aj : Nat → Int → Int) (τ q : Int) (l : List Int) : am_fr (HT L B1 B2 fi ai aj τ q l) = FRR B1 B2 := rfl
theorem HT_pa {L B1 B2 p : Nat} (fi : Nat → Nat → Int) (ai aj : Nat → Int → Int) (τ q : Int) (l : List Int) (hp : PartAt L B1 B2 p) : am_ok (HT L B1 B2 fi ai aj τ q l) p 9 := ⟨by have := hp.1; omega, by have := hp.2.1; show p < 170; omega, hp.2.2.1⟩
theorem HT_ar {L B1 B2 p : Nat} (fi : Nat → Nat → Int) (ai aj : Nat → Int → Int) (τ q : Int) (l : List Int) (hp : PartAt L B1 B2 p) {i : Int} (h0 : 0 ≤ i) (h1 : i < 30) : am_okr (HT L B1 B2 fi ai aj τ q l) (am_fr (HT L B1 B2 fi ai aj τ q l) 52 p) 1000 i := by
  obtain ⟨p0, p1, hC, hCq, hfr⟩ := hp
  rw [HT_fr, hfr]
  refine ⟨Or.inr ⟨by omega, by show p + 1 < 170; omega⟩, ?_, h0, ?_, by omega⟩
  · show (CC L (p + 1)).1 = 1000
    rw [hCq]
  · show i < ((CC L (p + 1)).2 : Int)
    rw [hCq]
    exact h1
theorem c_HT_cell (d L B1 B2 : Nat) (fi : Nat → Nat → Int) (ai aj : Nat → Int → Int) (τ q : Int) (l : List Int) (x y z : Int) (hx : am_R x) (hy : am_R y) (hz : am_R z) (hI : DI (DD fi ai)) : am_M am_prog (d + 2) m_So_cell [.inr (.inr 17), .inl x, .inl y, .inl z] (HT L B1 B2 fi ai aj τ q l) (fun v h' => v = some (.inl (ce (DD fi ai) x y z)) ∧ h' = HT L B1 B2 fi ai aj τ q l) := c_So_cell d L B1 B2 _ ai _ x y z hx hy hz hI
set_option maxHeartbeats 400000 in
set_option maxRecDepth 100000 in
theorem l_Te_part (d L B1 B2 : Nat) (fi : Nat → Nat → Int) (ai aj : Nat → Int → Int) (p : Nat) (hp : PartAt L B1 B2 p) (τ q s r : Int) (hτ : 0 ≤ τ ∧ τ ≤ 288) (hq : 0 ≤ q ∧ q ≤ 2) (hs : am_R s) (hr : am_R r) (hI : DI (DD fi ai)) (L0 : List Int) (h53 : fi 53 p = (L0.length : Int)) (h30 : L0.length ≤ 30) (hpc : ∀ i : Nat, i < L0.length → ai (p + 1) (i : Int) = L0.getD i 0) (hok : ∀ x ∈ L0, okC 4 x) (hnn : ∀ x ∈ L0, x < 4 → ce (DD fi ai) s r x ≠ -1) : ∀ (rest pre : List Int) (i : Int) (l3 : Option am_V), L0 = pre ++ rest → i = (pre.length : Int) → am_W (am_ev am_prog (d + 2)) T_Te_putPart (fun w h' => w = none ∧ h' = HT L B1 B2 fi ai aj τ q (tpL (DD fi ai) s r L0)) (10, [some (.inr (.inr 26)), some (.inr (.inr p)), some (.inr (.inr 17)), some (.inl s), some (.inl r), some (.inl i), l3], [], HT L B1 B2 fi ai aj τ q (tpL (DD fi ai) s r pre)) := by
  have p0 := hp.1
  have p1 := hp.2.1
  have hfr := hp.2.2.2.2
  have e53 : ∀ l, am_fi (HT L B1 B2 fi ai aj τ q l) 53 p = (L0.length : Int) := fun l => by rw [HT_fi _ _ _ _ _ _ _ _ _ (by omega)]; exact h53
  intro rest
  induction rest with
  | nil =>
    intro pre i l3 hL hi
    rw [List.append_nil] at hL
    subst hL
    refine am_W.br rfl rfl ⟨⟨trivial, HT_pa _ _ _ _ _ _ hp⟩, ⟨by omega, by omega⟩, by rw [e53]; exact ⟨by omega, by omega⟩⟩ (fun c1 => ?_) (fun c1 => absurd c1 (by rw [e53]; omega))
    exact am_W.rt rfl rfl ⟨trivial, trivial⟩ ⟨rfl, rfl⟩
  | cons x rest ih =>
    intro pre i l3 hL hi
    have hlen : L0.length = pre.length + (rest.length + 1) := by rw [hL, List.length_append, List.length_cons]
    have hx : L0.getD pre.length 0 = x := by
      rw [hL, List.getD_eq_getElem?_getD, List.getElem?_append_right (Nat.le_refl _), Nat.sub_self]
      rfl
    have hxm : x ∈ L0 := by rw [hL]; exact List.mem_append_right _ (List.mem_cons_self ..)
    have hxo : okC 4 x := hok x hxm
    obtain ⟨hxR, hx4⟩ := okC_R (Int.le_refl 4) hxo
    have hcx := ce_in s r x hI
    obtain ⟨b1, b2⟩ := tpL_b (D := DD fi ai) (s := s) (r := r) hI pre (fun z hz => hok z (by rw [hL]; exact List.mem_append_left _ hz)) (fun z hz => hnn z (by rw [hL]; exact List.mem_append_left _ hz))
    have hgo : ∀ l6 : Option am_V, am_W (am_ev am_prog (d + 2)) T_Te_putPart (fun w h' => w = none ∧ h' = HT L B1 B2 fi ai aj τ q (tpL (DD fi ai) s r L0)) (58, [some (.inr (.inr 26)), some (.inr (.inr p)), some (.inr (.inr 17)), some (.inl s), some (.inl r), some (.inl i), l6], [], HT L B1 B2 fi ai aj τ q (tpL (DD fi ai) s r pre ++ tpC (DD fi ai) s r x)) := by
      intro l6
      refine am_W.gp 10 rfl trivial ?_
      have e : tpL (DD fi ai) s r pre ++ tpC (DD fi ai) s r x = tpL (DD fi ai) s r (pre ++ [x]) := by
        rw [tpL_app]
        show _ = tpL (DD fi ai) s r pre ++ (tpC (DD fi ai) s r x ++ [])
        rw [List.append_nil]
      rw [e]
      exact ih (pre ++ [x]) (i + 1) _ (by rw [hL, List.append_assoc]; rfl) (by rw [List.length_append, List.length_singleton]; omega)
    have hrd : am_ai (HT L B1 B2 fi ai aj τ q (tpL (DD fi ai) s r pre)) (am_fr (HT L B1 B2 fi ai aj τ q (tpL (DD fi ai) s r pre)) 52 p) i = x := by
      rw [HT_fr, hfr, HT_ai, hi, hpc _ (by omega)]
      exact hx
    refine am_W.br rfl rfl ⟨⟨trivial, HT_pa _ _ _ _ _ _ hp⟩, ⟨by omega, by omega⟩, by rw [e53]; exact ⟨by omega, by omega⟩⟩ (fun c1 => absurd c1 (by rw [e53]; omega)) (fun c1 => ?_)
    refine am_W.cs rfl rfl rfl ⟨⟨trivial, HT_pa _ _ _ _ _ _ hp⟩, HT_ar _ _ _ _ _ _ hp (by omega) (by omega)⟩ (by rw [hrd]; exact c_isColumn (d + 1) x _ hxR) ?_
    rintro r1 h1 ⟨rfl, rfl⟩
    rw [hrd]
    unfold tpC at hgo
    by_cases h4 : x < 4
    · rw [if_pos h4] at hgo ⊢
      have hnx := hnn x hxm h4
      refine am_W.br rfl rfl ⟨trivial, ⟨by omega, by omega⟩⟩ (fun c2 => absurd c2 (by decide)) (fun c2 => ?_)
      refine am_W.cv 1 m_So_cell rfl rfl rfl rfl ⟨trivial, okI rfl rfl rfl⟩ (c_HT_cell d L B1 B2 fi ai aj τ q _ s r x hs hr hxR hI) ?_
      rintro r1 h1 ⟨rfl, rfl⟩
      refine am_W.cv 5 m_Si_putNumber rfl rfl rfl rfl ⟨trivial, HT_ok _ _ _ _ _ _ _ _ _⟩ (c_Te_num d L B1 B2 fi ai aj τ q _ _ hτ hq b1 (by omega) (by have := dgs_4 (ce (DD fi ai) s r x); omega)) ?_
      rintro r1 h1 ⟨rfl, rfl⟩
      exact am_W.gp 58 rfl trivial (hgo _)
    · rw [if_neg h4] at hgo ⊢
      refine am_W.br rfl rfl ⟨trivial, ⟨by omega, by omega⟩⟩ (fun c2 => ?_) (fun c2 => absurd rfl c2)
      refine am_W.cv 5 m_Te_put rfl rfl rfl rfl ⟨trivial, HT_ok _ _ _ _ _ _ _ _ _⟩ (c_Te_put (d + 1) L B1 B2 fi ai aj τ q _ x hτ hq b1 (by rcases hxo with h | h <;> omega) (by omega)) ?_
      rintro r1 h1 ⟨rfl, rfl⟩
      exact hgo _
