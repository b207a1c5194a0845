-- the reference's bads, bad
theorem bnR_in {D : DT} {x : MT} {r : Int} : -1 ≤ bnR D x r ∧ bnR D x r ≤ 2 := by
  unfold bnR
  split
  · unfold bdN
    split
    · omega
    · split
      · omega
      · split <;> omega
  · omega
noncomputable def mB1 (D : DT) (x : MT) (i r : Int) : List (Int × Int) := if bnR D x r = -1 then [] else [(i * 16 + r, bnR D x r)]
theorem mB_c {D : DT} {x : MT} {i r : Int} {k : Nat} : mB D x i (k + 1) r = mB1 D x i r ++ mB D x i k (r + 1) := by
  show @ite _ (gvs D x r) (Classical.propDecidable _) (rwB D x r (i * 16 + r)) [] ++ mB D x i k (r + 1) = _
  unfold mB1
  by_cases g : gvs D x r
  · rw [if_pos g, show bnR D x r = bdN D x r from if_pos g]
    rfl
  · rw [if_neg g, show bnR D x r = -1 from if_neg g, if_pos rfl]
set_option maxHeartbeats 400000 in
set_option maxRecDepth 100000 in
theorem l_bads1 (d L B1 B2 : Nat) (fi : Nat → Nat → Int) (ai aj : Nat → Int → Int) (D : DT) (ms : List MT) (eD : DM fi ai = D) (hI : DI D) (h6 : ms.length ≤ 6) (hr : ∀ (i : Nat) (x : MT), ms[i]? = some x → RefB ai (i : Int) x) (hw : ∀ x ∈ ms, wfM D x) (m : Nat) (x : MT) (hx : ms[m]? = some x) (Q : Option am_V → am_H → Prop) : ∀ (k : Nat) (r n : Int), 0 ≤ r → r + k = ro D x.1 → (∀ l3 : Option am_V, am_W (am_ev am_prog (d + 3)) T_Mo_bads Q (53, [some (.inr (.inr 126)), some (.inl (n + ((mB D x (m : Int) k r).length : Int))), some (.inl (m : Int)), l3], [], HH L B1 B2 fi ai aj)) → am_W (am_ev am_prog (d + 3)) T_Mo_bads Q (14, [some (.inr (.inr 126)), some (.inl n), some (.inl (m : Int)), some (.inl r)], [], HH L B1 B2 fi ai aj) := by
  have hm6 : m < ms.length := (List.getElem?_eq_some_iff.mp hx).1
  have hxm := List.mem_of_getElem? hx
  have hro := ro_in x.1 hI
  have hn4 := hI.1
  have hx1 := (hw x hxm).1
  have ok126 : am_ok (HH L B1 B2 fi ai aj) 126 10 := okI rfl rfl rfl
  have hx2 := hr m x hx
  have oS : am_okr (HH L B1 B2 fi ai aj) (am_fr (HH L B1 B2 fi ai aj) 62 126) 1000 (m : Int) := ok6 fi _ aj rfl rfl rfl ⟨by omega, by omega⟩
  have eS : am_ai (HH L B1 B2 fi ai aj) (am_fr (HH L B1 B2 fi ai aj) 62 126) (m : Int) = x.1 := hx2.1
  have oR : am_okr (HH L B1 B2 fi ai aj) (am_fr (HH L B1 B2 fi ai aj) 56 126) 1000 x.1 := okrI rfl rfl (t := 1000) (N := 4) rfl rfl (by omega) (by omega)
  have eR : am_ai (HH L B1 B2 fi ai aj) (am_fr (HH L B1 B2 fi ai aj) 56 126) x.1 = ro D x.1 := by
    rw [ro_v hx1, ← eD]
    rfl
  intro k
  induction k with
  | zero =>
    intro r n h0 hk w
    refine am_W.br rfl rfl ⟨⟨⟨⟨⟨trivial, ok126⟩, ok126⟩, oS⟩, by rw [eS]; exact oR⟩, ⟨by omega, by omega⟩, by rw [eS, eR]; exact ⟨by omega, by omega⟩⟩ (fun z => ?_) (fun z => absurd (by rw [eS, eR]; omega) z)
    have := w (some (.inl r))
    rw [show n + ((mB D x (m : Int) 0 r).length : Int) = n from Int.add_zero n] at this
    exact this
  | succ k ih =>
    intro r n h0 hk w
    rw [mB_c] at w
    refine am_W.br rfl rfl ⟨⟨⟨⟨⟨trivial, ok126⟩, ok126⟩, oS⟩, by rw [eS]; exact oR⟩, ⟨by omega, by omega⟩, by rw [eS, eR]; exact ⟨by omega, by omega⟩⟩ (fun z => absurd z (by rw [eS, eR]; omega)) (fun z => ?_)
    refine am_W.cv 10 m_Mo_badName rfl rfl rfl rfl ⟨trivial, ok126⟩ (c_badName d L B1 B2 fi ai aj (m : Int) r x ⟨by omega, by omega⟩ hx2 (by rw [eD]; exact hI) (by rw [eD]; exact hw x hxm) (by rw [eD]; exact ⟨h0, by omega⟩)) ?_
    rintro r1 h1 ⟨rfl, rfl⟩
    rw [eD]
    have hb := bnR_in (D := D) (x := x) (r := r)
    by_cases h1 : bnR D x r = -1
    · refine am_W.br rfl rfl ⟨trivial, ⟨by omega, by omega⟩, ⟨by omega, by omega⟩⟩ (fun z => ?_) (fun z => absurd h1 z)
      refine am_W.gp 14 rfl trivial ?_
      rw [show mB1 D x (m : Int) r = [] from if_pos h1, List.nil_append] at w
      rw [show n + 0 = n from Int.add_zero n]
      exact ih (r + 1) n (by omega) (by omega) w
    · refine am_W.br rfl rfl ⟨trivial, ⟨by omega, by omega⟩, ⟨by omega, by omega⟩⟩ (fun z => absurd z h1) (fun z => ?_)
      refine am_W.gp 14 rfl trivial ?_
      rw [show mB1 D x (m : Int) r = [((m : Int) * 16 + r, bnR D x r)] from if_neg h1, List.length_append, List.length_singleton] at w
      refine ih (r + 1) (n + 1) (by omega) (by omega) (fun l3 => ?_)
      have := w l3
      rw [show n + ((1 + (mB D x (m : Int) k (r + 1)).length : Nat) : Int) = n + 1 + ((mB D x (m : Int) k (r + 1)).length : Int) by omega] at this
      exact this
theorem aB_app {D : DT} : ∀ (a b : List MT) (i : Int), aB D (a ++ b) i = aB D a i ++ aB D b (i + a.length)
  | [], b, i => by
    show aB D b i = [] ++ aB D b (i + ((0 : Nat) : Int))
    rw [List.nil_append, show i + ((0 : Nat) : Int) = i by omega]
  | x :: a, b, i => by
    show mB D x i _ 0 ++ aB D (a ++ b) (i + 1) = (mB D x i _ 0 ++ aB D a (i + 1)) ++ _
    rw [aB_app a b (i + 1), List.append_assoc, List.length_cons, show i + ((a.length + 1 : Nat) : Int) = i + 1 + (a.length : Int) by omega]
set_option maxHeartbeats 400000 in
set_option maxRecDepth 100000 in
theorem l_bads2 (d L B1 B2 : Nat) (fi : Nat → Nat → Int) (ai aj : Nat → Int → Int) (D : DT) (ms : List MT) (eD : DM fi ai = D) (hI : DI D) (h6 : ms.length ≤ 6) (h61 : fi 61 126 = (ms.length : Int)) (hr : ∀ (i : Nat) (x : MT), ms[i]? = some x → RefB ai (i : Int) x) (hw : ∀ x ∈ ms, wfM D x) : ∀ (rest pre : List MT) (i n : Int) (l3 : Option am_V), ms = pre ++ rest → i = (pre.length : Int) → n = ((aB D pre 0).length : Int) → am_W (am_ev am_prog (d + 3)) T_Mo_bads (fun v h' => v = some (.inl ((aB D ms 0).length : Int)) ∧ h' = HH L B1 B2 fi ai aj) (4, [some (.inr (.inr 126)), some (.inl n), some (.inl i), l3], [], HH L B1 B2 fi ai aj) := by
  have e61 : am_fi (HH L B1 B2 fi ai aj) 61 126 = (ms.length : Int) := h61
  intro rest
  induction rest with
  | nil =>
    intro pre i n l3 hm hi hn
    rw [List.append_nil] at hm
    subst hm
    refine am_W.br rfl rfl ⟨⟨trivial, okI rfl rfl rfl⟩, ⟨by omega, by omega⟩, by rw [e61]; exact ⟨by omega, by omega⟩⟩ (fun z => ?_) (fun z => absurd (by rw [e61]; omega) z)
    exact am_W.rt rfl rfl ⟨trivial, trivial⟩ ⟨by rw [hn], rfl⟩
  | cons x rest ih =>
    intro pre i n l3 hm hi hn
    have hlen : ms.length = pre.length + (rest.length + 1) := by rw [hm, List.length_append, List.length_cons]
    have hx : ms[pre.length]? = some x := by
      rw [hm, List.getElem?_append_right (Nat.le_refl _), Nat.sub_self]
      rfl
    have hro := ro_in x.1 hI
    refine am_W.br rfl rfl ⟨⟨trivial, okI rfl rfl rfl⟩, ⟨by omega, by omega⟩, by rw [e61]; exact ⟨by omega, by omega⟩⟩ (fun z => absurd z (by rw [e61]; omega)) (fun z => ?_)
    refine am_W.gp 14 rfl trivial ?_
    rw [hi]
    refine l_bads1 d L B1 B2 fi ai aj D ms eD hI h6 hr hw pre.length x hx _ (ro D x.1).toNat 0 n (Int.le_refl 0) (by omega) (fun l3 => ?_)
    refine am_W.gp 4 rfl trivial ?_
    refine ih (pre ++ [x]) _ _ _ (by rw [hm, List.append_assoc]; rfl) (by rw [List.length_append, List.length_singleton]; omega) ?_
    rw [aB_app, show (0 : Int) + (pre.length : Int) = (pre.length : Int) by omega]
    show _ = (((aB D pre 0) ++ (mB D x (pre.length : Int) (ro D x.1).toNat 0 ++ [])).length : Int)
    rw [List.append_nil, List.length_append, hn]
    omega
set_option maxHeartbeats 400000 in
set_option maxRecDepth 100000 in
theorem c_Mo_bads (d L B1 B2 : Nat) (fi : Nat → Nat → Int) (ai aj : Nat → Int → Int) (D : DT) (ms : List MT) (eD : DM fi ai = D) (hI : DI D) (h6 : ms.length ≤ 6) (h61 : fi 61 126 = (ms.length : Int)) (hr : ∀ (i : Nat) (x : MT), ms[i]? = some x → RefB ai (i : Int) x) (hw : ∀ x ∈ ms, wfM D x) : am_M am_prog (d + 4) m_Mo_bads [.inr (.inr 126)] (HH L B1 B2 fi ai aj) (fun v h' => v = some (.inl ((aB D ms 0).length : Int)) ∧ h' = HH L B1 B2 fi ai aj) := by
  refine am_W.of rfl rfl ?_
  refine am_W.gp 4 rfl trivial ?_
  exact l_bads2 d L B1 B2 fi ai aj D ms eD hI h6 h61 hr hw ms [] 0 0 _ rfl rfl rfl
def pkB (q : Int) (p : Int × Int) : Int := if q = 0 then p.1 / 16 else if q = 1 then p.1 % 16 else p.2
def bdL (q i : Int) (l : List (Int × Int)) : Int := if 0 ≤ i ∧ i < (l.length : Int) then pkB q (l.getD i.toNat (0, 0)) else -3
def bdS (l : List (Int × Int)) (i q : Int) : Int := if ¬ (0 ≤ q ∧ q ≤ 2) then -1 else bdL q i l
def dcr (i : Int) : Int := if i = -2147483648 then 2147483647 else i - 1
theorem dcr_R {i : Int} (h : am_R i) : am_R (dcr i) := by
  unfold dcr
  split
  · exact ⟨by omega, by omega⟩
  · have := h.1
    have := h.2
    exact ⟨by omega, by omega⟩
theorem bdL_0 {q : Int} {p : Int × Int} {l : List (Int × Int)} : bdL q 0 (p :: l) = pkB q p := by
  unfold bdL
  rw [if_pos ⟨by omega, by rw [List.length_cons]; omega⟩]
  rfl
theorem bdL_s {q i : Int} {p : Int × Int} {l : List (Int × Int)} (hi : am_R i) (h0 : i ≠ 0) (hl : l.length ≤ 1000) : bdL q (dcr i) l = bdL q i (p :: l) := by
  have := hi.1
  have := hi.2
  unfold bdL dcr
  rw [List.length_cons]
  by_cases h1 : i = -2147483648
  · rw [if_pos h1, if_neg (by omega), if_neg (by omega)]
  · rw [if_neg h1]
    by_cases h2 : 0 ≤ i ∧ i < ((l.length + 1 : Nat) : Int)
    · rw [if_pos h2, if_pos (by omega)]
      have e : i.toNat = (i - 1).toNat + 1 := by omega
      rw [e, List.getD_cons_succ]
    · rw [if_neg h2, if_neg (by omega)]
set_option maxHeartbeats 400000 in
set_option maxRecDepth 100000 in
theorem l_bad1 (d L B1 B2 : Nat) (fi : Nat → Nat → Int) (ai aj : Nat → Int → Int) (D : DT) (ms : List MT) (eD : DM fi ai = D) (hI : DI D) (h6 : ms.length ≤ 6) (hr : ∀ (i : Nat) (x : MT), ms[i]? = some x → RefB ai (i : Int) x) (hw : ∀ x ∈ ms, wfM D x) (m : Nat) (x : MT) (hx : ms[m]? = some x) (i0 q A : Int) (hq : 0 ≤ q ∧ q ≤ 2) (tl : List (Int × Int)) (Q : Option am_V → am_H → Prop) (hQ : Q (some (.inl A)) (HH L B1 B2 fi ai aj)) : ∀ (k : Nat) (r i : Int) (l6 : Option am_V), 0 ≤ r → r + k = ro D x.1 → am_R i → (mB D x (m : Int) k r ++ tl).length ≤ 1000 → A = bdL q i (mB D x (m : Int) k r ++ tl) → (∀ (j : Int) (l5 l6 : Option am_V), am_R j → A = bdL q j tl → am_W (am_ev am_prog (d + 3)) T_Mo_bad Q (107, [some (.inr (.inr 126)), some (.inl i0), some (.inl q), some (.inl j), some (.inl (m : Int)), l5, l6], [], HH L B1 B2 fi ai aj)) → am_W (am_ev am_prog (d + 3)) T_Mo_bad Q (28, [some (.inr (.inr 126)), some (.inl i0), some (.inl q), some (.inl i), some (.inl (m : Int)), some (.inl r), l6], [], HH L B1 B2 fi ai aj) := by
  have hm6 : m < ms.length := (List.getElem?_eq_some_iff.mp hx).1
  have hxm := List.mem_of_getElem? hx
  have hro := ro_in x.1 hI
  have hn4 := hI.1
  have hx1 := (hw x hxm).1
  have ok126 : am_ok (HH L B1 B2 fi ai aj) 126 10 := okI rfl rfl rfl
  have hx2 := hr m x hx
  have oS : am_okr (HH L B1 B2 fi ai aj) (am_fr (HH L B1 B2 fi ai aj) 62 126) 1000 (m : Int) := ok6 fi _ aj rfl rfl rfl ⟨by omega, by omega⟩
  have eS : am_ai (HH L B1 B2 fi ai aj) (am_fr (HH L B1 B2 fi ai aj) 62 126) (m : Int) = x.1 := hx2.1
  have oR : am_okr (HH L B1 B2 fi ai aj) (am_fr (HH L B1 B2 fi ai aj) 56 126) 1000 x.1 := okrI rfl rfl (t := 1000) (N := 4) rfl rfl (by omega) (by omega)
  have eR : am_ai (HH L B1 B2 fi ai aj) (am_fr (HH L B1 B2 fi ai aj) 56 126) x.1 = ro D x.1 := by
    rw [ro_v hx1, ← eD]
    rfl
  intro k
  induction k with
  | zero =>
    intro r i l6 h0 hk hi hl hA w
    refine am_W.br rfl rfl ⟨⟨⟨⟨⟨trivial, ok126⟩, ok126⟩, oS⟩, by rw [eS]; exact oR⟩, ⟨by omega, by omega⟩, by rw [eS, eR]; exact ⟨by omega, by omega⟩⟩ (fun z => ?_) (fun z => absurd (by rw [eS, eR]; omega) z)
    exact w i (some (.inl r)) l6 hi hA
  | succ k ih =>
    intro r i l6 h0 hk hi hl hA w
    rw [mB_c, List.append_assoc] at hl hA
    refine am_W.br rfl rfl ⟨⟨⟨⟨⟨trivial, ok126⟩, ok126⟩, oS⟩, by rw [eS]; exact oR⟩, ⟨by omega, by omega⟩, by rw [eS, eR]; exact ⟨by omega, by omega⟩⟩ (fun z => absurd z (by rw [eS, eR]; omega)) (fun z => ?_)
    refine am_W.cv 10 m_Mo_badName rfl rfl rfl rfl ⟨trivial, ok126⟩ (c_badName d L B1 B2 fi ai aj (m : Int) r x ⟨by omega, by omega⟩ hx2 (by rw [eD]; exact hI) (by rw [eD]; exact hw x hxm) (by rw [eD]; exact ⟨h0, by omega⟩)) ?_
    rintro r1 h1 ⟨rfl, rfl⟩
    rw [eD]
    have hb := bnR_in (D := D) (x := x) (r := r)
    generalize hbe : bnR D x r = b at hb
    by_cases h1 : b = -1
    · rw [show mB1 D x (m : Int) r = [] from if_pos (hbe.trans h1), List.nil_append] at hl hA
      refine am_W.br rfl rfl ⟨trivial, ⟨by omega, by omega⟩, ⟨by omega, by omega⟩⟩ (fun z => ?_) (fun z => absurd h1 z)
      refine am_W.br rfl rfl ⟨trivial, ⟨by omega, by omega⟩, ⟨by omega, by omega⟩⟩ (fun z => ?_) (fun z => absurd h1 z)
      refine am_W.gp 28 rfl trivial ?_
      rw [show i - 0 = i from Int.sub_zero i]
      exact ih (r + 1) i _ (by omega) (by omega) hi hl hA w
    · rw [show mB1 D x (m : Int) r = [((m : Int) * 16 + r, b)] by rw [← hbe]; exact if_neg (by rw [hbe]; exact h1), List.singleton_append] at hl hA
      refine am_W.br rfl rfl ⟨trivial, ⟨by omega, by omega⟩, ⟨by omega, by omega⟩⟩ (fun z => absurd z h1) (fun z => ?_)
      by_cases h2 : i = 0
      · refine am_W.br rfl rfl ⟨trivial, hi⟩ (fun z => absurd h2 z) (fun z => ?_)
        rw [h2, bdL_0] at hA
        unfold pkB at hA
        by_cases h3 : q = 0
        · rw [if_pos h3] at hA
          refine am_W.br rfl rfl ⟨trivial, ⟨by omega, by omega⟩⟩ (fun z => absurd h3 z) (fun z => ?_)
          refine am_W.rt rfl rfl ⟨trivial, trivial⟩ ?_
          rw [show A = (m : Int) by rw [hA]; show ((m : Int) * 16 + r) / 16 = (m : Int); omega] at hQ
          exact hQ
        · rw [if_neg h3] at hA
          refine am_W.br rfl rfl ⟨trivial, ⟨by omega, by omega⟩⟩ (fun z => ?_) (fun z => absurd h3 z)
          by_cases h4 : q = 1
          · rw [if_pos h4] at hA
            refine am_W.br rfl rfl ⟨trivial, ⟨by omega, by omega⟩, ⟨by omega, by omega⟩⟩ (fun z => absurd h4 z) (fun z => ?_)
            refine am_W.rt rfl rfl ⟨trivial, trivial⟩ ?_
            rw [show A = r by rw [hA]; show ((m : Int) * 16 + r) % 16 = r; omega] at hQ
            exact hQ
          · rw [if_neg h4] at hA
            refine am_W.br rfl rfl ⟨trivial, ⟨by omega, by omega⟩, ⟨by omega, by omega⟩⟩ (fun z => ?_) (fun z => absurd h4 z)
            refine am_W.rt rfl rfl ⟨trivial, trivial⟩ ?_
            rw [show A = b from hA] at hQ
            exact hQ
      · refine am_W.br rfl rfl ⟨trivial, hi⟩ (fun z => ?_) (fun z => absurd h2 z)
        refine am_W.br rfl rfl ⟨trivial, ⟨by omega, by omega⟩, ⟨by omega, by omega⟩⟩ (fun z => absurd z h1) (fun z => ?_)
        have hl2 : (mB D x (m : Int) k (r + 1) ++ tl).length ≤ 1000 := by
          rw [List.length_cons] at hl
          omega
        rw [← bdL_s hi h2 hl2] at hA
        have hn := ih (r + 1) (dcr i) (some (.inl b)) (by omega) (by omega) (dcr_R hi) hl2 hA w
        refine am_W.gp 100 rfl trivial ?_
        refine am_W.rn (dcr i) ?_ ?_
        · unfold dcr
          split
          · rename_i h5
            rw [h5]
            rfl
          · rfl
        · exact am_W.gp 28 rfl trivial hn
set_option maxHeartbeats 400000 in
set_option maxRecDepth 100000 in
theorem l_bad2 (d L B1 B2 : Nat) (fi : Nat → Nat → Int) (ai aj : Nat → Int → Int) (D : DT) (ms : List MT) (eD : DM fi ai = D) (hI : DI D) (h6 : ms.length ≤ 6) (h61 : fi 61 126 = (ms.length : Int)) (hr : ∀ (i : Nat) (x : MT), ms[i]? = some x → RefB ai (i : Int) x) (hw : ∀ x ∈ ms, wfM D x) (i0 q A : Int) (hq : 0 ≤ q ∧ q ≤ 2) : ∀ (rest pre : List MT) (m i : Int) (l5 l6 : Option am_V), ms = pre ++ rest → m = (pre.length : Int) → am_R i → A = bdL q i (aB D rest (pre.length : Int)) → am_W (am_ev am_prog (d + 3)) T_Mo_bad (fun v h' => v = some (.inl A) ∧ h' = HH L B1 B2 fi ai aj) (16, [some (.inr (.inr 126)), some (.inl i0), some (.inl q), some (.inl i), some (.inl m), l5, l6], [], HH L B1 B2 fi ai aj) := by
  have e61 : am_fi (HH L B1 B2 fi ai aj) 61 126 = (ms.length : Int) := h61
  intro rest
  induction rest with
  | nil =>
    intro pre m i l5 l6 hm hi hn hA
    rw [List.append_nil] at hm
    subst hm
    refine am_W.br rfl rfl ⟨⟨trivial, okI rfl rfl rfl⟩, ⟨by omega, by omega⟩, by rw [e61]; exact ⟨by omega, by omega⟩⟩ (fun z => ?_) (fun z => absurd (by rw [e61]; omega) z)
    refine am_W.rt rfl rfl ⟨trivial, trivial⟩ ⟨?_, rfl⟩
    rw [hA]
    unfold bdL
    rw [if_neg (by show ¬ (0 ≤ i ∧ i < ((0 : Nat) : Int)); omega)]
  | cons x rest ih =>
    intro pre m i l5 l6 hm hi hn hA
    have hlen : ms.length = pre.length + (rest.length + 1) := by rw [hm, List.length_append, List.length_cons]
    have hx : ms[pre.length]? = some x := by
      rw [hm, List.getElem?_append_right (Nat.le_refl _), Nat.sub_self]
      rfl
    have hro := ro_in x.1 hI
    refine am_W.br rfl rfl ⟨⟨trivial, okI rfl rfl rfl⟩, ⟨by omega, by omega⟩, by rw [e61]; exact ⟨by omega, by omega⟩⟩ (fun z => absurd z (by rw [e61]; omega)) (fun z => ?_)
    refine am_W.gp 28 rfl trivial ?_
    rw [hi]
    have hB := (aW_in hI (x :: rest) (pre.length : Int)).2.1
    rw [List.length_cons] at hB
    refine l_bad1 d L B1 B2 fi ai aj D ms eD hI h6 hr hw pre.length x hx i0 q A hq (aB D rest ((pre.length : Int) + 1)) _ ⟨rfl, rfl⟩ (ro D x.1).toNat 0 i _ (Int.le_refl 0) (by omega) hn (by show (aB D (x :: rest) (pre.length : Int)).length ≤ 1000; omega) hA (fun j l5 l6 hj hA2 => ?_)
    refine am_W.gp 16 rfl trivial ?_
    refine ih (pre ++ [x]) _ j _ _ (by rw [hm, List.append_assoc]; rfl) (by rw [List.length_append, List.length_singleton]; omega) hj ?_
    rw [List.length_append, List.length_singleton, show ((pre.length + 1 : Nat) : Int) = (pre.length : Int) + 1 by omega]
    exact hA2
set_option maxHeartbeats 400000 in
set_option maxRecDepth 100000 in
theorem c_Mo_bad (d L B1 B2 : Nat) (fi : Nat → Nat → Int) (ai aj : Nat → Int → Int) (D : DT) (ms : List MT) (i q : Int) (hi : am_R i) (hq : am_R q) (eD : DM fi ai = D) (hI : DI D) (h6 : ms.length ≤ 6) (h61 : fi 61 126 = (ms.length : Int)) (hr : ∀ (i : Nat) (x : MT), ms[i]? = some x → RefB ai (i : Int) x) (hw : ∀ x ∈ ms, wfM D x) : am_M am_prog (d + 4) m_Mo_bad [.inr (.inr 126), .inl i, .inl q] (HH L B1 B2 fi ai aj) (fun v h' => v = some (.inl (bdS (aB D ms 0) i q)) ∧ h' = HH L B1 B2 fi ai aj) := by
  refine am_W.of rfl rfl ?_
  refine am_W.cs rfl rfl rfl trivial (c_Mo_in (d + 2) q 0 2 _ hq ⟨by omega, by omega⟩ ⟨by omega, by omega⟩) ?_
  rintro r1 h1 ⟨rfl, rfl⟩
  unfold bdS
  by_cases h1 : 0 ≤ q ∧ q ≤ 2
  · rw [if_pos h1, if_neg (fun z => z h1)]
    refine am_W.br rfl rfl ⟨trivial, ⟨by omega, by omega⟩⟩ (fun z => ?_) (fun z => absurd (by decide) z)
    refine am_W.gp 16 rfl trivial ?_
    exact l_bad2 d L B1 B2 fi ai aj D ms eD hI h6 h61 hr hw i q _ h1 ms [] 0 i _ _ rfl rfl hi rfl
  · rw [if_neg h1, if_pos h1]
    refine am_W.br rfl rfl ⟨trivial, ⟨by omega, by omega⟩⟩ (fun z => absurd rfl z) (fun z => ?_)
    exact am_W.rt rfl rfl ⟨trivial, trivial⟩ ⟨rfl, rfl⟩
