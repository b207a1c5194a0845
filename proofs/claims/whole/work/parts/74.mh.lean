-- the class's terms of a part; which rows a mapping takes
set_option maxHeartbeats 400000 in
set_option maxRecDepth 100000 in
theorem c_Te_putPart (d L B1 B2 : Nat) (fi : Nat → Nat → Int) (ai aj : Nat → Int → Int) (p : Nat) (x : PT) (τ q s r : Int) (hp : PartAt L B1 B2 p) (hx : RepP fi ai p x) (hk : x.1 = 0 ∨ x.1 = 1 ∨ x.1 = 2) (h0 : x.1 = 0 → x.2.2.length ≤ 30 ∧ ∀ q ∈ x.2.2, okC 4 q) (h1 : x.1 ≠ 0 → am_R x.2.1) (hτ : 0 ≤ τ ∧ τ ≤ 288) (hq : 0 ≤ q ∧ q ≤ 2) (hs : 0 ≤ s ∧ s ≤ 3) (hr : am_R r) (hI : DI (DD fi ai)) (hn : nnP (DD fi ai) s r x) : am_M am_prog (d + 3) m_Te_putPart [.inr (.inr 26), .inr (.inr p), .inr (.inr 17), .inl s, .inl r] (HT L B1 B2 fi ai aj τ q []) (fun w h' => w = none ∧ h' = HT L B1 B2 fi ai aj τ q (tbP (DD fi ai) s r x)) := by
  obtain ⟨r1, r2, r3⟩ := hx
  have p0 := hp.1
  have e50 : ∀ l, am_fi (HT L B1 B2 fi ai aj τ q l) 50 p = x.1 := fun l => by rw [HT_fi _ _ _ _ _ _ _ _ _ (by omega)]; exact r1
  have e51 : x.1 ≠ 0 → ∀ l, am_gf (HT L B1 B2 fi ai aj τ q l) 51 p 0 = .inl x.2.1 := fun z l => congrArg Sum.inl ((HT_fi _ _ _ _ _ _ _ _ _ (by omega)).trans (r2 z))
  unfold nnP at hn
  unfold tbP
  refine am_W.of rfl rfl ?_
  refine am_W.br rfl rfl ⟨⟨trivial, HT_pa _ _ _ _ _ _ hp⟩, by rw [e50]; exact ⟨by omega, by omega⟩⟩ (fun c1 => ?_) (fun c1 => ?_)
  · rw [e50] at c1
    rw [if_neg c1] at hn ⊢
    have hc := ce_in s r x.2.1 hI
    have h4 := dgs_4 (ce (DD fi ai) s r x.2.1)
    have h5 := dgs_4 s
    have hlast : ∀ l : List Int, byt l → l.length ≤ 10 → am_W (am_ev am_prog (d + 2)) T_Te_putPart (fun w h' => w = none ∧ h' = HT L B1 B2 fi ai aj τ q (l ++ dgs (ce (DD fi ai) s r x.2.1))) (84, [some (.inr (.inr 26)), some (.inr (.inr p)), some (.inr (.inr 17)), some (.inl s), some (.inl r), none, none], [], HT L B1 B2 fi ai aj τ q l) := by
      intro l hb hl
      refine am_W.cv 1 m_So_cell rfl rfl rfl rfl ⟨⟨trivial, HT_pa _ _ _ _ _ _ hp⟩, okI rfl rfl rfl⟩ (by rw [e51 c1]; exact c_HT_cell d L B1 B2 fi ai aj τ q l s r x.2.1 ⟨by omega, by omega⟩ hr (h1 c1) hI) ?_
      rintro r1 h1 ⟨rfl, rfl⟩
      refine am_W.cv 5 m_Si_putNumber rfl rfl rfl rfl ⟨trivial, HT_ok _ _ _ _ _ _ _ _ _⟩ (c_Te_num d L B1 B2 fi ai aj τ q l _ hτ hq hb (by omega) (by omega)) ?_
      rintro r1 h1 ⟨rfl, rfl⟩
      exact am_W.rt rfl rfl ⟨trivial, trivial⟩ ⟨rfl, rfl⟩
    refine am_W.br rfl rfl ⟨⟨trivial, HT_pa _ _ _ _ _ _ hp⟩, by rw [e50]; exact ⟨by omega, by omega⟩, ⟨by omega, by omega⟩⟩ (fun c2 => ?_) (fun c2 => ?_)
    · rw [e50] at c2
      rw [if_neg c2]
      exact hlast [] (fun c hc => by cases hc) (Nat.zero_le _)
    · rw [e50] at c2
      rw [if_pos (by omega)]
      refine am_W.cv 5 m_Si_putNumber rfl rfl rfl rfl ⟨trivial, HT_ok _ _ _ _ _ _ _ _ _⟩ (c_Te_num d L B1 B2 fi ai aj τ q [] s hτ hq (fun c hc => by cases hc) (by omega) (by rw [List.length_nil]; omega)) ?_
      rintro r1 h1 ⟨rfl, rfl⟩
      rw [List.nil_append]
      refine am_W.cv 5 m_Te_put rfl rfl rfl rfl ⟨trivial, HT_ok _ _ _ _ _ _ _ _ _⟩ (c_Te_put (d + 1) L B1 B2 fi ai aj τ q (dgs s) 46 hτ hq (byt_dgs hs.1) (by omega) (by omega)) ?_
      rintro r1 h1 ⟨rfl, rfl⟩
      exact hlast (dgs s ++ [46]) (byt1 (byt_dgs hs.1) (by omega)) (by rw [List.length_append, List.length_singleton]; omega)
  · rw [e50] at c1
    have c1' : x.1 = 0 := by omega
    rw [if_pos c1'] at hn ⊢
    obtain ⟨h30, hok⟩ := h0 c1'
    exact am_W.gp 10 rfl trivial (l_Te_part d L B1 B2 fi ai aj p hp τ q s r hτ hq ⟨by omega, by omega⟩ hr hI x.2.2 (r3 c1').1 h30 (r3 c1').2 hok hn x.2.2 [] 0 none rfl rfl)
set_option maxHeartbeats 400000 in
set_option maxRecDepth 100000 in
theorem c_Te_valueWord (d L B1 B2 : Nat) (fi : Nat → Nat → Int) (ai aj : Nat → Int → Int) (v : Int) (hv : 0 ≤ v ∧ v ≤ 9999) : am_M am_prog (d + 3) m_Te_valueWord [.inr (.inr 26), .inl v] (HH L B1 B2 fi ai aj) (fun w h' => w = some (.inr (.inl (wd 2 (dgs v) 0))) ∧ h' = HT L B1 B2 fi ai aj 288 2 (dgs v)) := by
  have h4 := dgs_4 v
  refine am_W.of rfl rfl ?_
  refine am_W.cv 5 m_Te_begin rfl rfl rfl rfl ⟨trivial, okI rfl rfl rfl⟩ (c_Te_begin (d + 1) L B1 B2 fi ai aj 288 2 (by omega) (by omega)) ?_
  rintro r1 h1 ⟨rfl, rfl⟩
  refine am_W.cv 5 m_Si_putNumber rfl rfl rfl rfl ⟨trivial, HT_ok _ _ _ _ _ _ _ _ _⟩ (c_Te_num d L B1 B2 fi ai aj 288 2 [] v (by omega) (by omega) (fun c hc => by cases hc) hv (by rw [List.length_nil]; omega)) ?_
  rintro r1 h1 ⟨rfl, rfl⟩
  rw [List.nil_append]
  refine am_W.rt rfl rfl ⟨⟨⟨⟨trivial, okI rfl rfl rfl⟩, okI rfl rfl rfl⟩, okrI rfl rfl (t := 1001) (N := 867) rfl rfl (by show (0 : Int) ≤ 3 * 288; decide) (by show (3 * 288 : Int) < 867; decide)⟩, trivial⟩ ⟨?_, rfl⟩
  have e : tw (aj 27) 288 2 (dgs v) (3 * 288) = wd 2 (dgs v) 0 := by
    unfold tw
    rw [if_pos (by omega)]
    rfl
  exact congrArg (fun z => some (Sum.inr (Sum.inl z))) e
theorem HH_pa {L B1 B2 p : Nat} (fi : Nat → Nat → Int) (ai aj : Nat → Int → Int) (hp : PartAt L B1 B2 p) : am_ok (HH L B1 B2 fi ai aj) p 9 := ⟨by have := hp.1; omega, by have := hp.2.1; show p < 170; omega, hp.2.2.1⟩
theorem HH_ma {L B1 B2 p : Nat} (fi : Nat → Nat → Int) (ai aj : Nat → Int → Int) (hp : MapAt L B1 B2 p) : am_ok (HH L B1 B2 fi ai aj) p 8 := ⟨by have := hp.1; omega, by have := hp.2.1; show p < 170; omega, hp.2.2.1⟩
theorem HH_ar {L B1 B2 p : Nat} (fi : Nat → Nat → Int) (ai aj : Nat → Int → Int) (hp : PartAt L B1 B2 p) {i : Int} (h0 : 0 ≤ i) (h1 : i < 30) : am_okr (HH L B1 B2 fi ai aj) (am_fr (HH L B1 B2 fi ai aj) 52 p) 1000 i := by
  obtain ⟨p0, p1, hC, hCq, hfr⟩ := hp
  rw [show am_fr (HH L B1 B2 fi ai aj) 52 p = p + 1 from hfr]
  refine ⟨Or.inr ⟨by omega, by show p + 1 < 170; omega⟩, ?_, h0, ?_, by omega⟩
  · show (CC L (p + 1)).1 = 1000
    rw [hCq]
  · show i < ((CC L (p + 1)).2 : Int)
    rw [hCq]
    exact h1
def nQ (P : Prop) (h : am_H) : Option am_V → am_H → Prop := fun w h' => ((P ∧ w = some (.inl 1)) ∨ (¬ P ∧ w = some (.inl 0))) ∧ h' = h
set_option maxHeartbeats 400000 in
set_option maxRecDepth 100000 in
theorem l_wantsNull (d L B1 B2 : Nat) (fi : Nat → Nat → Int) (ai aj : Nat → Int → Int) (p : Nat) (hp : PartAt L B1 B2 p) (s r : Int) (hs : am_R s) (hr : am_R r) (hI : DI (DD fi ai)) (L0 : List Int) (h53 : fi 53 p = (L0.length : Int)) (h30 : L0.length ≤ 30) (hpc : ∀ i : Nat, i < L0.length → ai (p + 1) (i : Int) = L0.getD i 0) (hok : ∀ x ∈ L0, okC 4 x) : ∀ (rest pre : List Int) (i : Int), L0 = pre ++ rest → i = (pre.length : Int) → (∀ x ∈ pre, x < 4 → ce (DD fi ai) s r x ≠ -1) → am_W (am_ev am_prog (d + 2)) T_Pa_wantsNull (nQ (¬ ∀ x ∈ L0, x < 4 → ce (DD fi ai) s r x ≠ -1) (HH L B1 B2 fi ai aj)) (30, [some (.inr (.inr p)), some (.inr (.inr 17)), some (.inl s), some (.inl r), some (.inl i)], [], HH L B1 B2 fi ai aj) := by
  have p0 := hp.1
  have hfr := hp.2.2.2.2
  have e53 : am_fi (HH L B1 B2 fi ai aj) 53 p = (L0.length : Int) := h53
  intro rest
  induction rest with
  | nil =>
    intro pre i hL hi hq
    rw [List.append_nil] at hL
    subst hL
    refine am_W.br rfl rfl ⟨⟨trivial, HH_pa _ _ _ hp⟩, ⟨by omega, by omega⟩, by rw [e53]; exact ⟨by omega, by omega⟩⟩ (fun c1 => ?_) (fun c1 => absurd c1 (by rw [e53]; omega))
    exact am_W.rt rfl rfl ⟨trivial, Or.inl rfl⟩ ⟨Or.inr ⟨fun z => z hq, rfl⟩, rfl⟩
  | cons x rest ih =>
    intro pre i hL hi hq
    have hlen : L0.length = pre.length + (rest.length + 1) := by rw [hL, List.length_append, List.length_cons]
    have hx : L0.getD pre.length 0 = x := by
      rw [hL, List.getD_eq_getElem?_getD, List.getElem?_append_right (Nat.le_refl _), Nat.sub_self]
      rfl
    have hxm : x ∈ L0 := by rw [hL]; exact List.mem_append_right _ (List.mem_cons_self ..)
    obtain ⟨hxR, hx4⟩ := okC_R (Int.le_refl 4) (hok x hxm)
    have hcx := ce_in s r x hI
    have hrd : am_ai (HH L B1 B2 fi ai aj) (am_fr (HH L B1 B2 fi ai aj) 52 p) i = x := by
      rw [show am_fr (HH L B1 B2 fi ai aj) 52 p = p + 1 from hfr]
      show ai (p + 1) i = x
      rw [hi, hpc _ (by omega)]
      exact hx
    have hgo : (x < 4 → ce (DD fi ai) s r x ≠ -1) → am_W (am_ev am_prog (d + 2)) T_Pa_wantsNull (nQ (¬ ∀ x ∈ L0, x < 4 → ce (DD fi ai) s r x ≠ -1) (HH L B1 B2 fi ai aj)) (71, [some (.inr (.inr p)), some (.inr (.inr 17)), some (.inl s), some (.inl r), some (.inl i)], [], HH L B1 B2 fi ai aj) := by
      intro hx2
      refine am_W.gp 30 rfl trivial (ih (pre ++ [x]) (i + 1) (by rw [hL, List.append_assoc]; rfl) (by rw [List.length_append, List.length_singleton]; omega) ?_)
      intro z hz
      rcases List.mem_append.mp hz with h | h
      · exact hq z h
      · rw [List.mem_singleton.mp h]
        exact hx2
    refine am_W.br rfl rfl ⟨⟨trivial, HH_pa _ _ _ hp⟩, ⟨by omega, by omega⟩, by rw [e53]; exact ⟨by omega, by omega⟩⟩ (fun c1 => absurd c1 (by rw [e53]; omega)) (fun c1 => ?_)
    refine am_W.cs rfl rfl rfl ⟨⟨trivial, HH_pa _ _ _ hp⟩, HH_ar _ _ _ hp (by omega) (by omega)⟩ (by rw [hrd]; exact c_isColumn (d + 1) x _ hxR) ?_
    rintro r1 h1 ⟨rfl, rfl⟩
    by_cases h4 : x < 4
    · rw [if_pos h4]
      refine am_W.br rfl rfl ⟨trivial, ⟨by omega, by omega⟩⟩ (fun c2 => absurd c2 (by decide)) (fun c2 => ?_)
      refine am_W.cv 1 m_So_cell rfl rfl rfl rfl ⟨⟨⟨trivial, HH_pa _ _ _ hp⟩, HH_ar _ _ _ hp (by omega) (by omega)⟩, okI rfl rfl rfl⟩ (by rw [hrd]; exact c_So_cell d L B1 B2 fi ai aj s r x hs hr hxR hI) ?_
      rintro r1 h1 ⟨rfl, rfl⟩
      refine am_W.br rfl rfl ⟨trivial, ⟨by omega, by omega⟩, ⟨by omega, by omega⟩⟩ (fun c3 => hgo (fun _ => c3)) (fun c3 => ?_)
      exact am_W.rt rfl rfl ⟨trivial, Or.inr rfl⟩ ⟨Or.inl ⟨fun z => z x hxm h4 (by omega), rfl⟩, rfl⟩
    · rw [if_neg h4]
      exact am_W.br rfl rfl ⟨trivial, ⟨by omega, by omega⟩⟩ (fun c2 => hgo (fun q => absurd q h4)) (fun c2 => absurd rfl c2)
set_option maxHeartbeats 400000 in
set_option maxRecDepth 100000 in
theorem c_wantsNull (d L B1 B2 : Nat) (fi : Nat → Nat → Int) (ai aj : Nat → Int → Int) (p : Nat) (x : PT) (s r : Int) (hp : PartAt L B1 B2 p) (hx : RepP fi ai p x) (hk : x.1 = 0 ∨ x.1 = 1 ∨ x.1 = 2) (h0 : x.1 = 0 → x.2.2.length ≤ 30 ∧ ∀ q ∈ x.2.2, okC 4 q) (h1 : x.1 ≠ 0 → am_R x.2.1) (hs : am_R s) (hr : am_R r) (hI : DI (DD fi ai)) : am_M am_prog (d + 3) m_Pa_wantsNull [.inr (.inr p), .inr (.inr 17), .inl s, .inl r] (HH L B1 B2 fi ai aj) (nQ (¬ nnP (DD fi ai) s r x) (HH L B1 B2 fi ai aj)) := by
  obtain ⟨r1, r2, r3⟩ := hx
  have e50 : am_fi (HH L B1 B2 fi ai aj) 50 p = x.1 := r1
  refine am_W.of rfl rfl ?_
  unfold nnP
  refine am_W.br rfl rfl ⟨⟨trivial, HH_pa _ _ _ hp⟩, by rw [e50]; exact ⟨by omega, by omega⟩⟩ (fun c1 => ?_) (fun c1 => ?_)
  · rw [e50] at c1
    rw [if_pos c1]
    obtain ⟨h30, hok⟩ := h0 c1
    exact am_W.gp 30 rfl trivial (l_wantsNull d L B1 B2 fi ai aj p hp s r hs hr hI x.2.2 (r3 c1).1 h30 (r3 c1).2 hok x.2.2 [] 0 rfl rfl (fun z hz => by cases hz))
  · rw [e50] at c1
    rw [if_neg c1]
    have hc := ce_in s r x.2.1 hI
    refine am_W.cv 1 m_So_cell rfl rfl rfl rfl ⟨⟨trivial, HH_pa _ _ _ hp⟩, okI rfl rfl rfl⟩ (by rw [show am_gf (HH L B1 B2 fi ai aj) 51 p 0 = .inl x.2.1 from congrArg Sum.inl (r2 c1)]; exact c_So_cell d L B1 B2 fi ai aj s r x.2.1 hs hr (h1 c1) hI) ?_
    rintro r1 h1 ⟨rfl, rfl⟩
    refine am_W.br rfl rfl ⟨trivial, ⟨by omega, by omega⟩, ⟨by omega, by omega⟩⟩ (fun c3 => ?_) (fun c3 => ?_)
    · exact am_W.rt rfl rfl ⟨trivial, Or.inl rfl⟩ ⟨Or.inr ⟨fun z => z c3, rfl⟩, rfl⟩
    · exact am_W.rt rfl rfl ⟨trivial, Or.inr rfl⟩ ⟨Or.inl ⟨fun z => z (by omega), rfl⟩, rfl⟩
def hld (D : DT) (x : MT) (r : Int) : Prop := x.2.2.2.2.2.1.1 = -1 ∨ (x.2.2.2.2.2.1.1 = 1853189228 ∧ ce D x.1 r x.2.2.2.2.2.1.2.1 = -1) ∨ (x.2.2.2.2.2.1.1 = 61 ∧ ce D x.1 r x.2.2.2.2.2.1.2.1 ≠ -1 ∧ ce D x.1 r x.2.2.2.2.2.1.2.1 = x.2.2.2.2.2.1.2.2) ∨ (x.2.2.2.2.2.1.1 = 60 ∧ ce D x.1 r x.2.2.2.2.2.1.2.1 ≠ -1 ∧ ce D x.1 r x.2.2.2.2.2.1.2.1 < x.2.2.2.2.2.1.2.2) ∨ (x.2.2.2.2.2.1.1 = 62 ∧ ce D x.1 r x.2.2.2.2.2.1.2.1 ≠ -1 ∧ x.2.2.2.2.2.1.2.2 < ce D x.1 r x.2.2.2.2.2.1.2.1)
set_option maxHeartbeats 400000 in
set_option maxRecDepth 100000 in
theorem c_holds (d L B1 B2 : Nat) (fi : Nat → Nat → Int) (ai aj : Nat → Int → Int) (r : Nat) (x : MT) (row : Int) (hp : MapAt L B1 B2 r) (hx : RepM fi ai r x) (hI : DI (DD fi ai)) (hw : wfM (DD fi ai) x) (hr : am_R row) : am_M am_prog (d + 3) m_Ma_holds [.inr (.inr r), .inr (.inr 17), .inl row] (HH L B1 B2 fi ai aj) (nQ (hld (DD fi ai) x row) (HH L B1 B2 fi ai aj)) := by
  have hn := hI.1
  obtain ⟨s, P1, P2, P3, J, C, g⟩ := x
  obtain ⟨r1, r2, r3, r4, r5, r6, r7, r8, r9, r10⟩ := hx
  obtain ⟨w1, w2, w3, w4, w5, w6⟩ := hw
  unfold hld
  dsimp only at *
  have hco := co_in s hI
  clear w2 w3 w4 w6 r2 r3 r4 r5 r6 r10
  have hc := ce_in s row C.2.1 hI
  have e46 : am_fi (HH L B1 B2 fi ai aj) 46 r = C.1 := r7
  refine am_W.of rfl rfl ?_
  refine am_W.br rfl rfl ⟨⟨trivial, HH_ma _ _ _ hp⟩, by rw [e46]; exact ⟨by omega, by omega⟩, ⟨by omega, by omega⟩⟩ (fun c1 => ?_) (fun c1 => ?_)
  · rw [e46] at c1
    obtain ⟨v1, v2, v3, v4, v5⟩ := w5.resolve_left c1
    have e39 : am_gf (HH L B1 B2 fi ai aj) 39 r 0 = .inl s := congrArg Sum.inl r1
    have e47 : am_gf (HH L B1 B2 fi ai aj) 47 r 0 = .inl C.2.1 := congrArg Sum.inl (r8 c1)
    refine am_W.cv 1 m_So_cell rfl rfl rfl rfl ⟨⟨⟨trivial, HH_ma _ _ _ hp⟩, HH_ma _ _ _ hp⟩, okI rfl rfl rfl⟩ (by rw [e39, e47]; exact c_So_cell d L B1 B2 fi ai aj s row C.2.1 ⟨by omega, by omega⟩ hr ⟨by omega, by omega⟩ hI) ?_
    rintro r1 h1 ⟨rfl, rfl⟩
    generalize ce (DD fi ai) s row C.2.1 = c at *
    have hnull : (C.1 = 1853189228 ∨ c = -1) → am_W (am_ev am_prog (d + 2)) T_Ma_holds (nQ (C.1 = -1 ∨ (C.1 = 1853189228 ∧ c = -1) ∨ (C.1 = 61 ∧ c ≠ -1 ∧ c = C.2.2) ∨ (C.1 = 60 ∧ c ≠ -1 ∧ c < C.2.2) ∨ (C.1 = 62 ∧ c ≠ -1 ∧ C.2.2 < c)) (HH L B1 B2 fi ai aj)) (38, [some (.inr (.inr r)), some (.inr (.inr 17)), some (.inl row), some (.inl c)], [], HH L B1 B2 fi ai aj) := by
      intro hq
      refine am_W.br rfl rfl ⟨⟨trivial, HH_ma _ _ _ hp⟩, by rw [e46]; exact ⟨by omega, by omega⟩, ⟨by omega, by omega⟩⟩ (fun c2 => ?_) (fun c2 => ?_)
      · rw [e46] at c2
        exact am_W.rt rfl rfl ⟨trivial, Or.inl rfl⟩ ⟨Or.inr ⟨by omega, rfl⟩, rfl⟩
      · rw [e46] at c2
        refine am_W.br rfl rfl ⟨trivial, ⟨by omega, by omega⟩, ⟨by omega, by omega⟩⟩ (fun c3 => ?_) (fun c3 => ?_)
        · exact am_W.rt rfl rfl ⟨trivial, Or.inl rfl⟩ ⟨Or.inr ⟨by omega, rfl⟩, rfl⟩
        · exact am_W.rt rfl rfl ⟨trivial, Or.inr rfl⟩ ⟨Or.inl ⟨by omega, rfl⟩, rfl⟩
    refine am_W.br rfl rfl ⟨⟨trivial, HH_ma _ _ _ hp⟩, by rw [e46]; exact ⟨by omega, by omega⟩, ⟨by omega, by omega⟩⟩ (fun c2 => hnull (Or.inl (by rw [e46] at c2; exact c2))) (fun c2 => ?_)
    rw [e46] at c2
    refine am_W.br rfl rfl ⟨trivial, ⟨by omega, by omega⟩, ⟨by omega, by omega⟩⟩ (fun c3 => ?_) (fun c3 => hnull (Or.inr (by omega)))
    have e48 : am_fi (HH L B1 B2 fi ai aj) 48 r = C.2.2 := r9 c1 c2
    refine am_W.br rfl rfl ⟨⟨trivial, HH_ma _ _ _ hp⟩, by rw [e46]; exact ⟨by omega, by omega⟩, ⟨by omega, by omega⟩⟩ (fun c4 => ?_) (fun c4 => ?_)
    · rw [e46] at c4
      refine am_W.br rfl rfl ⟨⟨trivial, HH_ma _ _ _ hp⟩, by rw [e46]; exact ⟨by omega, by omega⟩, ⟨by omega, by omega⟩⟩ (fun c5 => ?_) (fun c5 => ?_)
      · rw [e46] at c5
        refine am_W.br rfl rfl ⟨⟨trivial, HH_ma _ _ _ hp⟩, ⟨by omega, by omega⟩, by rw [e48]; exact ⟨by omega, by omega⟩⟩ (fun c6 => ?_) (fun c6 => ?_)
        · rw [e48] at c6
          exact am_W.rt rfl rfl ⟨trivial, Or.inl rfl⟩ ⟨Or.inr ⟨by omega, rfl⟩, rfl⟩
        · rw [e48] at c6
          exact am_W.rt rfl rfl ⟨trivial, Or.inr rfl⟩ ⟨Or.inl ⟨by omega, rfl⟩, rfl⟩
      · rw [e46] at c5
        refine am_W.br rfl rfl ⟨⟨trivial, HH_ma _ _ _ hp⟩, ⟨by omega, by omega⟩, by rw [e48]; exact ⟨by omega, by omega⟩⟩ (fun c6 => ?_) (fun c6 => ?_)
        · rw [e48] at c6
          exact am_W.rt rfl rfl ⟨trivial, Or.inl rfl⟩ ⟨Or.inr ⟨by omega, rfl⟩, rfl⟩
        · rw [e48] at c6
          exact am_W.rt rfl rfl ⟨trivial, Or.inr rfl⟩ ⟨Or.inl ⟨by omega, rfl⟩, rfl⟩
    · rw [e46] at c4
      refine am_W.br rfl rfl ⟨⟨trivial, HH_ma _ _ _ hp⟩, ⟨by omega, by omega⟩, by rw [e48]; exact ⟨by omega, by omega⟩⟩ (fun c6 => ?_) (fun c6 => ?_)
      · rw [e48] at c6
        exact am_W.rt rfl rfl ⟨trivial, Or.inl rfl⟩ ⟨Or.inr ⟨by omega, rfl⟩, rfl⟩
      · rw [e48] at c6
        exact am_W.rt rfl rfl ⟨trivial, Or.inr rfl⟩ ⟨Or.inl ⟨by omega, rfl⟩, rfl⟩
  · rw [e46] at c1
    exact am_W.rt rfl rfl ⟨trivial, Or.inr rfl⟩ ⟨Or.inl ⟨Or.inl (by omega), rfl⟩, rfl⟩
