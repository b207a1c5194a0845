-- the reference's which, bads, bad
theorem aw_mks {D : DT} (hI : DI D) {ms : List MT} {m : Nat} {x : MT} (hx : ms[m]? = some x) {r o : Int} (hr : 0 ≤ r ∧ r < ro D x.1) (ho : 0 ≤ o ∧ o < 16) : ((m : Int) * 16 + r) * 16 + o ∈ aW D ms 0 ↔ mks D x r o := by
  have h16 := ro_in x.1 hI
  rw [aW_m hI]
  constructor
  · rintro ⟨m', x', r', o', h1, h2, h3, h4, h5⟩
    have h17 := ro_in x'.1 hI
    have e1 : m' = m := by omega
    subst e1
    have e2 : x' = x := Option.some.inj (h1.symm.trans hx)
    subst e2
    have e3 : r' = r := by omega
    have e4 : o' = o := by omega
    subst e3 e4
    exact h5
  · intro h
    exact ⟨m, x, r, o, hx, by omega, hr, ho, h⟩
def whV (D : DT) (ms : List MT) (m r o : Int) (x : MT) : Prop := 0 ≤ m ∧ ms[m.toNat]? = some x ∧ (0 ≤ r ∧ r < ro D x.1) ∧ (¬ x.2.2.2.2.1.1 = -1 → 0 ≤ o ∧ o < ro D x.2.2.2.2.1.1)
def wyQ (x : MT) (m r o : Int) : Int := (m * 16 + r) * 16 + (if x.2.2.2.2.1.1 = -1 then 0 else o)
def WhQ (D : DT) (ms : List MT) (P : List Int) (m r o y : Int) : Prop := (¬ (∃ x, whV D ms m r o x) ∧ y = -1) ∨ ∃ x, whV D ms m r o x ∧ ((¬ wyQ x m r o ∈ aW D ms 0 ∧ y = -3) ∨ (wyQ x m r o ∈ aW D ms 0 ∧ ∃ i : Nat, i < P.length ∧ y = (i : Int) ∧ cD D ms (gD P i) (wyQ x m r o) = 0))
theorem WhQ_u {D : DT} {ms : List MT} {P : List Int} {m r o y y' : Int} (hP : P.Pairwise (fun x y => cD D ms x y < 0)) (h : WhQ D ms P m r o y) (h' : WhQ D ms P m r o y') : y = y' := by
  have hc := cD_ord D ms
  rcases h with ⟨h1, h2⟩ | ⟨x, h1, h2⟩
  · rcases h' with ⟨g1, g2⟩ | ⟨x, g1, g2⟩
    · rw [h2, g2]
    · exact absurd ⟨x, g1⟩ h1
  · rcases h' with ⟨g1, g2⟩ | ⟨x', g1, g2⟩
    · exact absurd ⟨x, h1⟩ g1
    · have e : x' = x := Option.some.inj (g1.2.1.symm.trans h1.2.1)
      subst e
      rcases h2 with ⟨a1, a2⟩ | ⟨a1, i, a2, a3, a4⟩
      · rcases g2 with ⟨b1, b2⟩ | ⟨b1, j, b2, b3, b4⟩
        · rw [a2, b2]
        · exact absurd b1 a1
      · rcases g2 with ⟨b1, b2⟩ | ⟨b1, j, b2, b3, b4⟩
        · exact absurd a1 b1
        · have e0 := ordC_e hc a4 (ordC_s hc b4)
          rcases Nat.lt_trichotomy i j with q | q | q
          · have := pwD hP q b2
            omega
          · rw [a3, b3, q]
          · have := pwD hP q a2
            have := ordC_s hc e0
            omega
set_option maxHeartbeats 400000 in
set_option maxRecDepth 100000 in
theorem c_Mo_which (d L B1 B2 : Nat) (fi : Nat → Nat → Int) (ai aj : Nat → Int → Int) (D : DT) (ms : List MT) (P : List Int) (m r o : Int) (hm : am_R m) (hr0 : am_R r) (ho : am_R o) (eD : DM fi ai = D) (hI : DI D) (h6 : ms.length ≤ 6) (h61 : fi 61 126 = (ms.length : Int)) (hr : ∀ (i : Nat) (x : MT), ms[i]? = some x → RefB ai (i : Int) x) (hw : ∀ x ∈ ms, wfM D x) (hP : fi 94 126 = (P.length : Int)) (hG : GS (cD D ms) (TMf D ms) (gF ms) ai P (aW D ms 0)) : am_M am_prog (d + 5) m_Mo_which [.inr (.inr 126), .inl m, .inl r, .inl o] (HH L B1 B2 fi ai aj) (fun v h' => ∃ y a', v = some (.inl y) ∧ WhQ D ms P m r o y ∧ h' = HH L B1 B2 fi a' aj ∧ (∀ b, b < 156 ∨ 159 < b → a' b = ai b) ∧ (byR ai → byR a') ∧ GS (cD D ms) (TMf D ms) (gF ms) a' P (aW D ms 0)) := by
  have ok126 : am_ok (HH L B1 B2 fi ai aj) 126 10 := okI rfl rfl rfl
  have hbad : (¬ ∃ x, whV D ms m r o x) → am_W (am_ev am_prog (d + 4)) T_Mo_which (fun v h' => ∃ y a', v = some (.inl y) ∧ WhQ D ms P m r o y ∧ h' = HH L B1 B2 fi a' aj ∧ (∀ b, b < 156 ∨ 159 < b → a' b = ai b) ∧ (byR ai → byR a') ∧ GS (cD D ms) (TMf D ms) (gF ms) a' P (aW D ms 0)) (52, [some (.inr (.inr 126)), some (.inl m), some (.inl r), some (.inl o)], [], HH L B1 B2 fi ai aj) := by
    intro h
    exact am_W.rt rfl rfl ⟨trivial, trivial⟩ ⟨-1, ai, rfl, Or.inl ⟨h, rfl⟩, rfl, fun _ _ => rfl, fun h => h, hG⟩
  refine am_W.of rfl rfl ?_
  have e61 : am_fi (HH L B1 B2 fi ai aj) 61 126 = (ms.length : Int) := h61
  have hn4 := hI.1
  refine am_W.cs rfl rfl rfl ⟨trivial, ok126⟩ (by rw [e61]; exact c_Mo_in (d + 3) m 0 ((ms.length : Int) - 1) _ hm ⟨by omega, by omega⟩ ⟨by omega, by omega⟩) ?_
  rintro r1 h1 ⟨rfl, rfl⟩
  by_cases h1 : 0 ≤ m ∧ m < (ms.length : Int)
  · rw [if_pos (by omega)]
    refine am_W.br rfl rfl ⟨trivial, ⟨by omega, by omega⟩⟩ (fun z => absurd z (by decide)) (fun z => ?_)
    obtain ⟨x, hx⟩ : ∃ x, ms[m.toNat]? = some x := ⟨_, List.getElem?_eq_getElem (by omega)⟩
    have emm : ((m.toNat : Nat) : Int) = m := by omega
    have hxm := List.mem_of_getElem? hx
    have hx2 := hr _ x hx
    rw [emm] at hx2
    have hx1 := (hw x hxm).1
    have hro := ro_in x.1 hI
    have hroj := ro_in x.2.2.2.2.1.1 hI
    have hjR : -1 ≤ x.2.2.2.2.1.1 ∧ x.2.2.2.2.1.1 < 4 := by
      rcases (hw x hxm).2.2.2.1 with w | w
      · omega
      · rcases w.2.2.2 with w1 | w1 <;> omega
    have oS : am_okr (HH L B1 B2 fi ai aj) (am_fr (HH L B1 B2 fi ai aj) 62 126) 1000 m := ok6 fi _ aj rfl rfl rfl ⟨by omega, by omega⟩
    have eS : am_ai (HH L B1 B2 fi ai aj) (am_fr (HH L B1 B2 fi ai aj) 62 126) m = x.1 := hx2.1
    have oJ : am_okr (HH L B1 B2 fi ai aj) (am_fr (HH L B1 B2 fi ai aj) 67 126) 1000 m := ok6 fi _ aj rfl rfl rfl ⟨by omega, by omega⟩
    have eJ : am_ai (HH L B1 B2 fi ai aj) (am_fr (HH L B1 B2 fi ai aj) 67 126) m = x.2.2.2.2.1.1 := hx2.2.2.2.2.1
    have hno : ∀ x', whV D ms m r o x' → x' = x := fun x' h => Option.some.inj (h.2.1.symm.trans hx)
    refine am_W.cv 10 m_Mo_isRow rfl rfl rfl rfl (by repeat' first | assumption | trivial | refine And.intro ?_ ?_) (by rw [eS]; exact c_isRow (d + 2) L B1 B2 fi ai aj x.1 r ⟨by omega, by omega⟩ hr0 (by rw [eD]; exact hI)) ?_
    rintro r1 h1 ⟨rfl, rfl⟩
    rw [eD]
    by_cases h2 : 0 ≤ r ∧ r < ro D x.1
    · rw [if_pos h2]
      refine am_W.br rfl rfl ⟨trivial, ⟨by omega, by omega⟩⟩ (fun z => absurd z (by decide)) (fun z => ?_)
      have h72 : whV D ms m r o x → am_W (am_ev am_prog (d + 4)) T_Mo_which (fun v h' => ∃ y a', v = some (.inl y) ∧ WhQ D ms P m r o y ∧ h' = HH L B1 B2 fi a' aj ∧ (∀ b, b < 156 ∨ 159 < b → a' b = ai b) ∧ (byR ai → byR a') ∧ GS (cD D ms) (TMf D ms) (gF ms) a' P (aW D ms 0)) (72, [some (.inr (.inr 126)), some (.inl m), some (.inl r), some (.inl o)], [.inl (jdo x (if x.2.2.2.2.1.1 = -1 then 0 else o)), .inl r, .inl m, .inr (.inr 126)], HH L B1 B2 fi ai aj) := by
        intro hv
        have hPl := Lst_len (cD_ord D ms) hG.1
        have hlen := (aW_in hI ms 0).1
        have hoo : 0 ≤ (if x.2.2.2.2.1.1 = -1 then 0 else o) ∧ (x.2.2.2.2.1.1 = -1 → (if x.2.2.2.2.1.1 = -1 then 0 else o) = 0) ∧ (¬ x.2.2.2.2.1.1 = -1 → (if x.2.2.2.2.1.1 = -1 then 0 else o) < ro D x.2.2.2.2.1.1) := by
          by_cases hj : x.2.2.2.2.1.1 = -1
          · rw [if_pos hj]
            exact ⟨by omega, fun _ => rfl, fun z => absurd hj z⟩
          · rw [if_neg hj]
            have := hv.2.2.2 hj
            exact ⟨this.1, fun z => absurd z hj, fun _ => this.2⟩
        have hwy : wyQ x m r o = (m * 16 + r) * 16 + (if x.2.2.2.2.1.1 = -1 then 0 else o) := rfl
        have ho16 : (if x.2.2.2.2.1.1 = -1 then 0 else o) < 16 := by
          by_cases hj : x.2.2.2.2.1.1 = -1
          · rw [if_pos hj]
            omega
          · have := hoo.2.2 hj
            omega
        have hmk := aw_mks hI hx h2 ⟨hoo.1, ho16⟩
        rw [emm, ← hwy] at hmk
        generalize (if x.2.2.2.2.1.1 = -1 then 0 else o) = p at hoo hwy ho16 hmk ⊢
        refine am_W.cv 10 m_Mo_makes rfl rfl rfl rfl ⟨trivial, ok126⟩ (c_makes d L B1 B2 fi ai aj m r p x ⟨by omega, by omega⟩ hx2 (by rw [eD]; exact hI) (by rw [eD]; exact hw x hxm) (by rw [eD]; exact h2) (by rw [eD]; exact hoo) ⟨by omega, by omega⟩) ?_
        rintro v1 h1 (⟨hk1, rfl, a2, rfl, hfs, hsl⟩ | ⟨hk1, rfl, rfl⟩)
        · rw [eD] at hk1 hsl
          have hwa := hmk.mpr hk1
          have hpa : ∀ p ∈ P, p ∈ aW D ms 0 := fun p hp => ((hG.1.2.1 p).mp hp).1
          obtain ⟨wx1, wx2⟩ := way_x (D := D) (r := r) (o := p) hx (by omega) ⟨hoo.1, ho16⟩
          rw [emm, ← hwy] at wx1 wx2
          rw [hP] at hfs hsl
          have hG2 := GS_fs (fun p hp t h0 h3 => ((KO_all hI hw (hpa p hp)).1 t h0 h3).2.2.2.2) hG hfs
          refine am_W.br rfl rfl ⟨trivial, ⟨by omega, by omega⟩⟩ (fun z1 => absurd z1 (by decide)) (fun z1 => ?_)
          refine am_W.cv 10 m_Mo_find rfl rfl rfl rfl ⟨trivial, okI rfl rfl rfl⟩ (c_find (d + 2) L B1 B2 fi a2 aj (cD D ms) (TMf D ms) (gF ms) P (wyQ x m r o) (cD_ord D ms) hP (by omega) hG.1.1 (fun i hi => ⟨(hG2.2.1 i hi).1, (hG2.2.1 i hi).2.1⟩) (by rw [wx1, wx2]; exact hsl) (fun p hp => KO_all hI hw (hpa p hp)) (KO_all hI hw hwa) (fun p hp => cm_all hI hw (hpa p hp) hwa)) ?_
          rintro v2 h2 ⟨y, rfl, hq, rfl⟩
          refine am_W.gp 87 rfl trivial ?_
          refine am_W.rt rfl rfl ⟨trivial, trivial⟩ ⟨y, a2, rfl, Or.inr ⟨x, hv, Or.inr ⟨hwa, ?_⟩⟩, rfl, hfs.1, hfs.2.2.2.2, hG2⟩
          rcases hq with ⟨i, q1, q2, q3⟩ | ⟨k, q1, q2, q3, q4⟩
          · exact ⟨i, q1, q2, q3⟩
          · obtain ⟨p', hp', e'⟩ := hG.1.2.2 _ hwa
            obtain ⟨i, hi, ei⟩ := gD_e hp'
            rw [← ei] at e'
            rcases Nat.lt_or_ge i k with q | q
            · have := q3 i q
              omega
            · have := q4 i q hi
              omega
        · rw [eD] at hk1
          refine am_W.br rfl rfl ⟨trivial, ⟨by omega, by omega⟩⟩ (fun z1 => ?_) (fun z1 => absurd rfl z1)
          exact am_W.rt rfl rfl ⟨trivial, trivial⟩ ⟨-3, ai, rfl, Or.inr ⟨x, hv, Or.inl ⟨fun z => hk1 (hmk.mp z), rfl⟩⟩, rfl, fun _ _ => rfl, fun h => h, hG⟩
      have h54 : whV D ms m r o x → am_W (am_ev am_prog (d + 4)) T_Mo_which (fun v h' => ∃ y a', v = some (.inl y) ∧ WhQ D ms P m r o y ∧ h' = HH L B1 B2 fi a' aj ∧ (∀ b, b < 156 ∨ 159 < b → a' b = ai b) ∧ (byR ai → byR a') ∧ GS (cD D ms) (TMf D ms) (gF ms) a' P (aW D ms 0)) (54, [some (.inr (.inr 126)), some (.inl m), some (.inl r), some (.inl o)], [], HH L B1 B2 fi ai aj) := by
        intro hv
        have hh := h72 hv
        refine am_W.br rfl rfl ⟨⟨⟨trivial, ok126⟩, oJ⟩, by rw [eJ]; exact ⟨by omega, by omega⟩, ⟨by omega, by omega⟩⟩ (fun z1 => ?_) (fun z1 => ?_)
        · rw [eJ] at z1
          rw [if_neg z1, show jdo x o = o from if_neg z1] at hh
          exact am_W.gp 72 rfl trivial hh
        · rw [eJ] at z1
          have z2 : x.2.2.2.2.1.1 = -1 := by omega
          rw [if_pos z2, show jdo x 0 = -1 from if_pos z2] at hh
          exact am_W.gp 72 rfl trivial hh
      refine am_W.br rfl rfl ⟨⟨⟨trivial, ok126⟩, oJ⟩, by rw [eJ]; exact ⟨by omega, by omega⟩, ⟨by omega, by omega⟩⟩ (fun z1 => ?_) (fun z1 => ?_)
      · rw [eJ] at z1
        exact h54 ⟨h1.1, hx, h2, fun q => absurd z1 q⟩
      · rw [eJ] at z1
        refine am_W.cv 10 m_Mo_isRow rfl rfl rfl rfl (by repeat' first | assumption | trivial | refine And.intro ?_ ?_) (by rw [eJ]; exact c_isRow (d + 2) L B1 B2 fi ai aj x.2.2.2.2.1.1 o ⟨by omega, by omega⟩ ho (by rw [eD]; exact hI)) ?_
        rintro r1 h1 ⟨rfl, rfl⟩
        rw [eD]
        by_cases h3 : 0 ≤ o ∧ o < ro D x.2.2.2.2.1.1
        · rw [if_pos h3]
          refine am_W.br rfl rfl ⟨trivial, ⟨by omega, by omega⟩⟩ (fun z => ?_) (fun z => absurd (by decide) z)
          exact h54 ⟨h1.1, hx, h2, fun _ => h3⟩
        · rw [if_neg h3]
          refine am_W.br rfl rfl ⟨trivial, ⟨by omega, by omega⟩⟩ (fun z => absurd rfl z) (fun z => ?_)
          refine hbad ?_
          rintro ⟨x', hv⟩
          have := hno x' hv
          subst this
          exact h3 (hv.2.2.2 z1)
    · rw [if_neg h2]
      refine am_W.br rfl rfl ⟨trivial, ⟨by omega, by omega⟩⟩ (fun z => ?_) (fun z => absurd rfl z)
      refine hbad ?_
      rintro ⟨x', hv⟩
      have := hno x' hv
      subst this
      exact h2 hv.2.2.1
  · rw [if_neg (by omega)]
    refine am_W.br rfl rfl ⟨trivial, ⟨by omega, by omega⟩⟩ (fun z => ?_) (fun z => absurd rfl z)
    refine hbad ?_
    rintro ⟨x', hv⟩
    have := (List.getElem?_eq_some_iff.mp hv.2.1).1
    have := hv.1
    omega
