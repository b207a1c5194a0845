-- the reference: give
theorem GS_fs {c : Int → Int → Int} {TM : Int → Int → Int × List Int} {gr : Int → Int} {a a' : Nat → Int → Int} {P l : List Int} (hT : ∀ p ∈ P, ∀ t, 0 ≤ t → t < 3 → (TM p t).2.length ≤ 20) (h : GS c TM gr a P l) (hf : FS (P.length : Int) a a') : GS c TM gr a' P l := by
  obtain ⟨h1, h2, h3⟩ := h
  obtain ⟨f1, f2, f3, f4, -⟩ := hf
  have e : ∀ b, 159 < b → a' b = a b := fun b hb => f1 b (by omega)
  refine ⟨h1, fun i hi => ?_, ?_⟩
  · rw [e 163 (by omega), e 160 (by omega), e 161 (by omega), e 162 (by omega)]
    obtain ⟨q1, q2, q3⟩ := h2 i hi
    refine ⟨q1, ?_, q3⟩
    have hT1 := hT _ (gD_m hi)
    have hs : ∀ n : Int, 0 ≤ n → n < 3 → slT a (a 163 (i : Int)) n (TM (gD P i) n) → slT a' (a 163 (i : Int)) n (TM (gD P i) n) := by
      intro n n0 n3 hq
      have h20 := hT1 n n0 n3
      have g3 := f3 (3 * a 163 (i : Int) + n) (by omega)
      refine ⟨g3.2.trans hq.1, g3.1.trans hq.2.1, fun k hk => ?_⟩
      rw [f2 _ (by omega)]
      exact hq.2.2 k hk
    exact ⟨hs 0 (by decide) (by decide) q2.1, hs 1 (by decide) (by decide) q2.2.1, hs 2 (by decide) (by decide) q2.2.2.1, (f4 _ (by omega)).trans q2.2.2.2⟩
  · rw [e 163 (by omega)]
    exact h3
noncomputable def wO (D : DT) (x : MT) (m r : Int) : Nat → Int → List Int
  | 0, _ => []
  | k + 1, o => @ite (List Int) (mks D x r o) (Classical.propDecidable _) [(m * 16 + r) * 16 + o] [] ++ wO D x m r k (o + 1)
def nO (D : DT) (x : MT) : Int := if x.2.2.2.2.1.1 = -1 then 1 else ro D x.2.2.2.2.1.1
theorem wO_oth {D : DT} {x : MT} {m r : Int} (hI : DI D) (hj : ¬ x.2.2.2.2.1.1 = -1) (hg : gvs D x r) (hb : bdN D x r = -1) : ∀ (k : Nat) (o : Int), 0 ≤ o → o + k ≤ ro D x.2.2.2.2.1.1 → wO D x m r k o = (oth D x r k o).map (fun q => (m * 16 + r) * 16 + q)
  | 0, o, _, _ => rfl
  | k + 1, o, h0, h1 => by
    have ih := wO_oth (m := m) hI hj hg hb k (o + 1) (by omega) (by omega)
    unfold wO
    rw [ih]
    by_cases hq : ce D x.2.2.2.2.1.1 o x.2.2.2.1.2.1 ≠ -1 ∧ jn D x r o
    · rw [oth_y hq, if_pos ⟨hg, hb, (rwO_2 hI hj).mpr ⟨by omega, hq⟩⟩]
      rfl
    · rw [oth_n hq, if_neg (fun z => hq ((rwO_2 hI hj).mp z.2.2).2)]
      rfl
theorem wO_no {D : DT} {x : MT} {m r : Int} (h : ¬ (gvs D x r ∧ bdN D x r = -1)) : ∀ (k : Nat) (o : Int), wO D x m r k o = []
  | 0, o => rfl
  | k + 1, o => by
    unfold wO
    rw [wO_no h k (o + 1), if_neg (fun z => h ⟨z.1, z.2.1⟩)]
    rfl
theorem wO_row {D : DT} {x : MT} {m r : Int} (hI : DI D) : wO D x m r (nO D x).toNat 0 = @ite _ (gvs D x r) (Classical.propDecidable _) (rwW D x r (m * 16 + r)) [] := by
  by_cases hg : gvs D x r
  · rw [if_pos hg]
    unfold rwW
    by_cases hb : bdN D x r = -1
    · rw [if_pos hb]
      unfold nO rwO
      by_cases hj : x.2.2.2.2.1.1 = -1
      · rw [if_pos hj, if_pos hj]
        show @ite (List Int) (mks D x r 0) (Classical.propDecidable _) [(m * 16 + r) * 16 + 0] [] ++ [] = _
        rw [List.append_nil]
        by_cases h3 : ¬ x.2.2.2.1.1 = 2 ∨ nnP D x.1 r x.2.2.2.1
        · rw [if_pos h3, if_pos ⟨hg, hb, (rwO_1 hj).mpr ⟨rfl, h3⟩⟩]
          rfl
        · rw [if_neg h3, if_neg (fun z => h3 ((rwO_1 hj).mp z.2.2).2)]
          rfl
      · rw [if_neg hj, if_neg hj]
        have hro := ro_in x.2.2.2.2.1.1 hI
        exact wO_oth hI hj hg hb _ 0 (by omega) (by omega)
    · rw [if_neg hb]
      exact wO_no (fun z => hb z.2) _ _
  · rw [if_neg hg]
    exact wO_no (fun z => hg z.1) _ _
theorem mW_c {D : DT} {x : MT} {m r : Int} {k : Nat} (hI : DI D) : mW D x m (k + 1) r = wO D x m r (nO D x).toNat 0 ++ mW D x m k (r + 1) := by
  rw [wO_row hI]
  rfl
abbrev gF (ms : List MT) (w : Int) : Int := grf (ms.getD (w / 256).toNat dMT)
def GJ (D : DT) (ms : List MT) (fi f : Nat → Nat → Int) (ai a : Nat → Int → Int) (l : List Int) : Prop := FNo fi f ai a ∧ ∃ P : List Int, f 94 126 = (P.length : Int) ∧ GS (cD D ms) (TMf D ms) (gF ms) a P l
theorem way_x {D : DT} {ms : List MT} {m : Nat} {x : MT} {r o : Int} (h : ms[m]? = some x) (hr : 0 ≤ r ∧ r < 16) (ho : 0 ≤ o ∧ o < 16) : TMf D ms ((((m : Int) * 16 + r) * 16) + o) = tmx D x r o ∧ gF ms ((((m : Int) * 16 + r) * 16) + o) = grf x := by
  have e1 : ((((m : Int) * 16 + r) * 16 + o) / 256).toNat = m := by omega
  have e2 : (((m : Int) * 16 + r) * 16 + o) / 16 % 16 = r := by omega
  have e3 : (((m : Int) * 16 + r) * 16 + o) % 16 = o := by omega
  have e4 : ms.getD m dMT = x := by rw [List.getD_eq_getElem?_getD, h]; rfl
  constructor
  · funext t
    unfold TMf
    rw [e1, e2, e3, e4]
  · unfold gF
    rw [e1, e4]
theorem KO_all {D : DT} (hI : DI D) {ms : List MT} (hw : ∀ x ∈ ms, wfM D x) {w : Int} (h : w ∈ aW D ms 0) : KOw (cD D ms) (TMf D ms) (gF ms) w := by
  refine ⟨fun t h0 h3 => TMf_ok hI hw h ⟨h0, h3⟩, ?_⟩
  obtain ⟨m, x, r, o, h1, h2, h3, h4, -⟩ := (aW_m hI ms 0 w).mp h
  have hro := ro_in x.1 hI
  have e := (way_x (D := D) (r := r) (o := o) h1 (by omega) h4).2
  rw [show ((m : Int) * 16 + r) * 16 + o = w by omega] at e
  rw [e]
  exact grf_in (hw x (List.mem_of_getElem? h1))
theorem cm_all {D : DT} (hI : DI D) {ms : List MT} (hw : ∀ x ∈ ms, wfM D x) {w w' : Int} (h : w ∈ aW D ms 0) (h' : w' ∈ aW D ms 0) : cmT (TMf D ms w) (TMf D ms w') (gF ms w) (gF ms w') = cD D ms w w' := cmT_k (fun n h0 h3 => ⟨TMf_ok hI hw h ⟨h0, h3⟩, TMf_ok hI hw h' ⟨h0, h3⟩⟩)
set_option maxHeartbeats 400000 in
set_option maxRecDepth 100000 in
theorem l_give1 (d L B1 B2 : Nat) (fi : Nat → Nat → Int) (ai aj : Nat → Int → Int) (D : DT) (ms : List MT) (eD : DM fi ai = D) (hI : DI D) (h6 : ms.length ≤ 6) (hr : ∀ (i : Nat) (x : MT), ms[i]? = some x → RefB ai (i : Int) x) (hw : ∀ x ∈ ms, wfM D x) (m : Nat) (x : MT) (hx : ms[m]? = some x) (r : Int) (hrr : 0 ≤ r ∧ r < ro D x.1) (Q : Option am_V → am_H → Prop) (rest : List Int) (hrest : aW D ms 0 = rest) : ∀ (k : Nat) (o : Int) (f : Nat → Nat → Int) (a : Nat → Int → Int) (l tl : List Int), 0 ≤ o → o + k = nO D x → GJ D ms fi f ai a l → aW D ms 0 = l ++ (wO D x (m : Int) r k o ++ tl) → (∀ f' a', GJ D ms fi f' ai a' (l ++ wO D x (m : Int) r k o) → ∀ l4 : Option am_V, am_W (am_ev am_prog (d + 4)) T_Mo_give Q (104, [some (.inr (.inr 126)), some (.inl (m : Int)), some (.inl r), some (.inl (nO D x)), l4], [], HH L B1 B2 f' a' aj)) → am_W (am_ev am_prog (d + 4)) T_Mo_give Q (61, [some (.inr (.inr 126)), some (.inl (m : Int)), some (.inl r), some (.inl (nO D x)), some (.inl o)], [], HH L B1 B2 f a aj) := by
  have hm6 : m < ms.length := (List.getElem?_eq_some_iff.mp hx).1
  have hxm := List.mem_of_getElem? hx
  have hro := ro_in x.1 hI
  have hroj := ro_in x.2.2.2.2.1.1 hI
  have hnO : 0 ≤ nO D x ∧ nO D x ≤ 16 := by
    unfold nO
    split <;> omega
  have hjR : -1 ≤ x.2.2.2.2.1.1 ∧ x.2.2.2.2.1.1 < 4 := by
    have hn4 := hI.1
    rcases (hw x hxm).2.2.2.1 with w | w
    · omega
    · rcases w.2.2.2 with w1 | w1 <;> omega
  intro k
  induction k with
  | zero =>
    intro o f a l tl ho hk hJ hl w
    refine am_W.br rfl rfl ⟨trivial, ⟨by omega, by omega⟩, ⟨by omega, by omega⟩⟩ (fun z => ?_) (fun z => absurd (by omega) z)
    refine w f a ?_ _
    show GJ D ms fi f ai a (l ++ [])
    rw [List.append_nil]
    exact hJ
  | succ k ih =>
    intro o f a l tl ho hk hJ hl w
    obtain ⟨hF, P, hP, hG⟩ := hJ
    have ok126 : am_ok (HH L B1 B2 f a aj) 126 10 := okI rfl rfl rfl
    have hA : ∀ b, b < 156 → a b = ai b := fun b hb => hF.2.1 b (by omega)
    have eD2 : DM f a = D := (DM_fr hA (hF.1 54 126 (by decide))).trans eD
    have hx2 := RefB_fr (hr m x hx) hA
    have oJ : am_okr (HH L B1 B2 f a aj) (am_fr (HH L B1 B2 f a aj) 67 126) 1000 (m : Int) := ok6 f _ aj rfl rfl rfl ⟨by omega, by omega⟩
    have eJ : am_ai (HH L B1 B2 f a aj) (am_fr (HH L B1 B2 f a aj) 67 126) (m : Int) = x.2.2.2.2.1.1 := hx2.2.2.2.2.1
    have hPl := Lst_len (cD_ord D ms) hG.1
    have hlen := (aW_in hI ms 0).1
    have hall : ∀ v ∈ l, v ∈ aW D ms 0 := fun v hv => by rw [hl]; exact List.mem_append_left _ hv
    have hll : l.length ≤ (aW D ms 0).length := by rw [hl, List.length_append]; omega
    have hpa : ∀ p ∈ P, p ∈ aW D ms 0 := fun p hp => hall p ((hG.1.2.1 p).mp hp).1
    have hoo : 0 ≤ o ∧ (x.2.2.2.2.1.1 = -1 → o = 0) ∧ (¬ x.2.2.2.2.1.1 = -1 → o < ro D x.2.2.2.2.1.1) := by
      unfold nO at hk
      refine ⟨ho, fun z => ?_, fun z => ?_⟩
      · rw [if_pos z] at hk
        omega
      · rw [if_neg z] at hk
        omega
    have ew : wO D x (m : Int) r (k + 1) o = @ite (List Int) (mks D x r o) (Classical.propDecidable _) [((m : Int) * 16 + r) * 16 + o] [] ++ wO D x (m : Int) r k (o + 1) := rfl
    rw [ew] at hl w
    refine am_W.br rfl rfl ⟨trivial, ⟨by omega, by omega⟩, ⟨by omega, by omega⟩⟩ (fun z => absurd z (by omega)) (fun z => ?_)
    have h86 : am_W (am_ev am_prog (d + 4)) T_Mo_give Q (86, [some (.inr (.inr 126)), some (.inl (m : Int)), some (.inl r), some (.inl (nO D x)), some (.inl o)], [.inl (jdo x o), .inl r, .inl (m : Int), .inr (.inr 126)], HH L B1 B2 f a aj) := by
      refine am_W.cv 10 m_Mo_makes rfl rfl rfl rfl ⟨trivial, ok126⟩ (c_makes d L B1 B2 f a aj (m : Int) r o x ⟨by omega, by omega⟩ hx2 (by rw [eD2]; exact hI) (by rw [eD2]; exact hw x hxm) (by rw [eD2]; exact hrr) (by rw [eD2]; exact hoo) ⟨by omega, by omega⟩) ?_
      rintro v1 h1 (⟨hk1, rfl, a2, rfl, hfs, hsl⟩ | ⟨hk1, rfl, rfl⟩)
      · rw [eD2] at hk1 hsl
        rw [if_pos hk1] at hl w
        have ho16 : o < 16 := by omega
        obtain ⟨wx1, wx2⟩ := way_x (D := D) (r := r) (o := o) hx (by omega) ⟨ho, ho16⟩
        have hwa : ((m : Int) * 16 + r) * 16 + o ∈ aW D ms 0 := by
          rw [hl]
          exact List.mem_append_right _ (List.mem_append_left _ (List.mem_append_left _ (List.mem_singleton.mpr rfl)))
        have hwl : ∀ v ∈ l, v < ((m : Int) * 16 + r) * 16 + o := by
          have hp := (aW_in hI ms 0).2.2.1
          rw [hl] at hp
          intro v hv
          exact (List.pairwise_append.mp hp).2.2 v hv _ (List.mem_append_left _ (List.mem_append_left _ (List.mem_singleton.mpr rfl)))
        have hll2 : l.length < (aW D ms 0).length := by
          rw [hl, List.length_append, List.length_append, List.length_append, List.length_singleton]
          omega
        rw [hP] at hfs hsl
        have hG2 := GS_fs (fun p hp t h0 h3 => ((KO_all hI hw (hpa p hp)).1 t h0 h3).2.2.2.2) hG hfs
        refine am_W.br rfl rfl ⟨trivial, ⟨by omega, by omega⟩⟩ (fun z1 => absurd z1 (by decide)) (fun z1 => ?_)
        refine am_W.cv 10 m_Mo_note rfl rfl rfl rfl ⟨trivial, okI rfl rfl rfl⟩ (c_note (d + 1) L B1 B2 f a2 aj (cD D ms) (TMf D ms) (gF ms) P l (((m : Int) * 16 + r) * 16 + o) (m : Int) r (cD_ord D ms) hP (by omega) hG2 (by rw [wx1, wx2]; exact hsl) hwl (fun p hp => KO_all hI hw (hpa p hp)) (KO_all hI hw hwa) (fun p hp => cm_all hI hw (hpa p hp) hwa) (by omega) (by omega) ⟨by omega, by omega⟩) ?_
        rintro v2 h2 ⟨rfl, f3, a3, P3, rfl, g1, g2, g3⟩
        refine am_W.gp 61 rfl trivial ?_
        refine ih (o + 1) f3 a3 (l ++ [((m : Int) * 16 + r) * 16 + o]) tl (by omega) (by omega) ⟨hF.tr (FNo.tr ⟨fun _ _ _ => rfl, fun b hb => hfs.1 b (by omega), hfs.2.2.2.2⟩ g1), P3, g2, g3⟩ (by rw [hl, List.append_assoc, List.append_assoc]) (fun f' a' hJ l4 => w f' a' ?_ l4)
        rw [← List.append_assoc]
        exact hJ
      · rw [eD2] at hk1
        rw [if_neg hk1, List.nil_append] at hl w
        refine am_W.br rfl rfl ⟨trivial, ⟨by omega, by omega⟩⟩ (fun z1 => ?_) (fun z1 => absurd rfl z1)
        refine am_W.gp 61 rfl trivial ?_
        exact ih (o + 1) f a l tl (by omega) (by omega) ⟨hF, P, hP, hG⟩ hl w
    refine am_W.br rfl rfl ⟨⟨⟨trivial, ok126⟩, oJ⟩, by rw [eJ]; exact ⟨by omega, by omega⟩, ⟨by omega, by omega⟩⟩ (fun z1 => ?_) (fun z1 => ?_)
    · rw [eJ] at z1
      rw [show jdo x o = o from if_neg z1] at h86
      exact am_W.gp 86 rfl trivial h86
    · rw [eJ] at z1
      rw [show jdo x o = -1 from if_pos (by omega)] at h86
      exact am_W.gp 86 rfl trivial h86
theorem ro_v {D : DT} {s : Int} (h : 0 ≤ s ∧ s < D.1) : ro D s = D.2.2.1 s := if_neg (by omega)
theorem co_v {D : DT} {s : Int} (h : 0 ≤ s ∧ s < D.1) : co D s = D.2.1 s := if_neg (by omega)
set_option maxHeartbeats 400000 in
set_option maxRecDepth 100000 in
theorem l_give2 (d L B1 B2 : Nat) (fi : Nat → Nat → Int) (ai aj : Nat → Int → Int) (D : DT) (ms : List MT) (eD : DM fi ai = D) (hI : DI D) (h6 : ms.length ≤ 6) (hr : ∀ (i : Nat) (x : MT), ms[i]? = some x → RefB ai (i : Int) x) (hw : ∀ x ∈ ms, wfM D x) (m : Nat) (x : MT) (hx : ms[m]? = some x) (Q : Option am_V → am_H → Prop) : ∀ (k : Nat) (r : Int) (f : Nat → Nat → Int) (a : Nat → Int → Int) (l tl : List Int) (l3 l4 : Option am_V), 0 ≤ r → r + k = ro D x.1 → GJ D ms fi f ai a l → aW D ms 0 = l ++ (mW D x (m : Int) k r ++ tl) → (∀ f' a', GJ D ms fi f' ai a' (l ++ mW D x (m : Int) k r) → ∀ l2 l3 l4 : Option am_V, am_W (am_ev am_prog (d + 4)) T_Mo_give Q (110, [some (.inr (.inr 126)), some (.inl (m : Int)), l2, l3, l4], [], HH L B1 B2 f' a' aj)) → am_W (am_ev am_prog (d + 4)) T_Mo_give Q (17, [some (.inr (.inr 126)), some (.inl (m : Int)), some (.inl r), l3, l4], [], HH L B1 B2 f a aj) := by
  have hm6 : m < ms.length := (List.getElem?_eq_some_iff.mp hx).1
  have hxm := List.mem_of_getElem? hx
  have hro := ro_in x.1 hI
  have hroj := ro_in x.2.2.2.2.1.1 hI
  have hn4 := hI.1
  have hx1 := (hw x hxm).1
  have hjR : -1 ≤ x.2.2.2.2.1.1 ∧ x.2.2.2.2.1.1 < 4 ∧ (¬ x.2.2.2.2.1.1 = -1 → 0 ≤ x.2.2.2.2.1.1 ∧ x.2.2.2.2.1.1 < D.1) := by
    rcases (hw x hxm).2.2.2.1 with w | w
    · omega
    · rcases w.2.2.2 with w1 | w1 <;> omega
  intro k
  induction k with
  | zero =>
    intro r f a l tl l3 l4 h0 hk hJ hl w
    have hF := hJ.1
    have ok126 : am_ok (HH L B1 B2 f a aj) 126 10 := okI rfl rfl rfl
    have hA : ∀ b, b < 156 → a b = ai b := fun b hb => hF.2.1 b (by omega)
    have eD2 : DM f a = D := (DM_fr hA (hF.1 54 126 (by decide))).trans eD
    have hx2 := RefB_fr (hr m x hx) hA
    have oS : am_okr (HH L B1 B2 f a aj) (am_fr (HH L B1 B2 f a aj) 62 126) 1000 (m : Int) := ok6 f _ aj rfl rfl rfl ⟨by omega, by omega⟩
    have eS : am_ai (HH L B1 B2 f a aj) (am_fr (HH L B1 B2 f a aj) 62 126) (m : Int) = x.1 := hx2.1
    have oR : am_okr (HH L B1 B2 f a aj) (am_fr (HH L B1 B2 f a aj) 56 126) 1000 x.1 := okrI rfl rfl (t := 1000) (N := 4) rfl rfl (by omega) (by omega)
    have eR : am_ai (HH L B1 B2 f a aj) (am_fr (HH L B1 B2 f a aj) 56 126) x.1 = ro D x.1 := by
      rw [ro_v hx1, ← eD2]
      rfl
    refine am_W.br rfl rfl ⟨⟨⟨⟨⟨trivial, ok126⟩, ok126⟩, oS⟩, by rw [eS]; exact oR⟩, ⟨by omega, by omega⟩, by rw [eS, eR]; exact ⟨by omega, by omega⟩⟩ (fun z => ?_) (fun z => absurd (by rw [eS, eR]; omega) z)
    refine w f a ?_ _ _ _
    show GJ D ms fi f ai a (l ++ [])
    rw [List.append_nil]
    exact hJ
  | succ k ih =>
    intro r f a l tl l3 l4 h0 hk hJ hl w
    have hF := hJ.1
    have ok126 : am_ok (HH L B1 B2 f a aj) 126 10 := okI rfl rfl rfl
    have hA : ∀ b, b < 156 → a b = ai b := fun b hb => hF.2.1 b (by omega)
    have eD2 : DM f a = D := (DM_fr hA (hF.1 54 126 (by decide))).trans eD
    have hx2 := RefB_fr (hr m x hx) hA
    have oS : am_okr (HH L B1 B2 f a aj) (am_fr (HH L B1 B2 f a aj) 62 126) 1000 (m : Int) := ok6 f _ aj rfl rfl rfl ⟨by omega, by omega⟩
    have eS : am_ai (HH L B1 B2 f a aj) (am_fr (HH L B1 B2 f a aj) 62 126) (m : Int) = x.1 := hx2.1
    have oR : am_okr (HH L B1 B2 f a aj) (am_fr (HH L B1 B2 f a aj) 56 126) 1000 x.1 := okrI rfl rfl (t := 1000) (N := 4) rfl rfl (by omega) (by omega)
    have eR : am_ai (HH L B1 B2 f a aj) (am_fr (HH L B1 B2 f a aj) 56 126) x.1 = ro D x.1 := by
      rw [ro_v hx1, ← eD2]
      rfl
    have oJ : am_okr (HH L B1 B2 f a aj) (am_fr (HH L B1 B2 f a aj) 67 126) 1000 (m : Int) := ok6 f _ aj rfl rfl rfl ⟨by omega, by omega⟩
    have eJ : am_ai (HH L B1 B2 f a aj) (am_fr (HH L B1 B2 f a aj) 67 126) (m : Int) = x.2.2.2.2.1.1 := hx2.2.2.2.2.1
    rw [mW_c hI] at hl w
    have h58 : am_W (am_ev am_prog (d + 4)) T_Mo_give Q (57, [some (.inr (.inr 126)), some (.inl (m : Int)), some (.inl r), l3, l4], [.inl (nO D x)], HH L B1 B2 f a aj) := by
      refine am_W.gp 61 rfl trivial ?_
      have hnO : 0 ≤ nO D x := by
        unfold nO
        split <;> omega
      refine l_give1 d L B1 B2 fi ai aj D ms eD hI h6 hr hw m x hx r ⟨h0, by omega⟩ Q _ rfl (nO D x).toNat 0 f a l (mW D x (m : Int) k (r + 1) ++ tl) (Int.le_refl 0) (by omega) hJ (by rw [hl, List.append_assoc]) (fun f' a' hJ' l4 => ?_)
      refine am_W.gp 17 rfl trivial ?_
      refine ih (r + 1) f' a' _ tl _ _ (by omega) (by omega) hJ' (by rw [hl, List.append_assoc, List.append_assoc]) (fun f' a' hJ2 l2 l3 l4 => w f' a' ?_ l2 l3 l4)
      rw [← List.append_assoc]
      exact hJ2
    refine am_W.br rfl rfl ⟨⟨⟨⟨⟨trivial, ok126⟩, ok126⟩, oS⟩, by rw [eS]; exact oR⟩, ⟨by omega, by omega⟩, by rw [eS, eR]; exact ⟨by omega, by omega⟩⟩ (fun z => absurd z (by rw [eS, eR]; omega)) (fun z => ?_)
    refine am_W.br rfl rfl ⟨⟨⟨trivial, ok126⟩, oJ⟩, by rw [eJ]; exact ⟨by omega, by omega⟩, ⟨by omega, by omega⟩⟩ (fun z1 => ?_) (fun z1 => ?_)
    · rw [eJ] at z1
      have hj := hjR.2.2 z1
      have oR2 : am_okr (HH L B1 B2 f a aj) (am_fr (HH L B1 B2 f a aj) 56 126) 1000 x.2.2.2.2.1.1 := okrI rfl rfl (t := 1000) (N := 4) rfl rfl (by omega) (by omega)
      have eR2 : am_ai (HH L B1 B2 f a aj) (am_fr (HH L B1 B2 f a aj) 56 126) x.2.2.2.2.1.1 = nO D x := by
        unfold nO
        rw [if_neg z1, ro_v hj, ← eD2]
        rfl
      refine am_W.gp 57 rfl ⟨⟨⟨⟨trivial, ok126⟩, ok126⟩, oJ⟩, by rw [eJ]; exact oR2⟩ ?_
      rw [eJ, eR2]
      exact h58
    · rw [eJ] at z1
      rw [show nO D x = 1 from if_pos (by omega)] at h58
      exact am_W.gp 57 rfl trivial h58
theorem aW_app {D : DT} : ∀ (a b : List MT) (i : Int), aW D (a ++ b) i = aW D a i ++ aW D b (i + a.length)
  | [], b, i => by
    show aW D b i = [] ++ aW D b (i + ((0 : Nat) : Int))
    rw [List.nil_append, show i + ((0 : Nat) : Int) = i by omega]
  | x :: a, b, i => by
    show mW D x i _ 0 ++ aW D (a ++ b) (i + 1) = (mW D x i _ 0 ++ aW D a (i + 1)) ++ _
    rw [aW_app a b (i + 1), List.append_assoc, List.length_cons, show i + ((a.length + 1 : Nat) : Int) = i + 1 + (a.length : Int) by omega]
set_option maxHeartbeats 400000 in
set_option maxRecDepth 100000 in
theorem l_give3 (d L B1 B2 : Nat) (fi : Nat → Nat → Int) (ai aj : Nat → Int → Int) (D : DT) (ms : List MT) (eD : DM fi ai = D) (hI : DI D) (h6 : ms.length ≤ 6) (h61 : fi 61 126 = (ms.length : Int)) (hr : ∀ (i : Nat) (x : MT), ms[i]? = some x → RefB ai (i : Int) x) (hw : ∀ x ∈ ms, wfM D x) : ∀ (rest pre : List MT) (i : Int) (f : Nat → Nat → Int) (a : Nat → Int → Int) (l2 l3 l4 : Option am_V), ms = pre ++ rest → i = (pre.length : Int) → GJ D ms fi f ai a (aW D pre 0) → am_W (am_ev am_prog (d + 4)) T_Mo_give (fun v h' => v = none ∧ ∃ f' a', h' = HH L B1 B2 f' a' aj ∧ GJ D ms fi f' ai a' (aW D ms 0)) (7, [some (.inr (.inr 126)), some (.inl i), l2, l3, l4], [], HH L B1 B2 f a aj) := by
  intro rest
  induction rest with
  | nil =>
    intro pre i f a l2 l3 l4 hm hi hJ
    rw [List.append_nil] at hm
    subst hm
    have e61 : am_fi (HH L B1 B2 f a aj) 61 126 = (ms.length : Int) := (hJ.1.1 61 126 (by decide)).trans h61
    refine am_W.br rfl rfl ⟨⟨trivial, okI rfl rfl rfl⟩, ⟨by omega, by omega⟩, by rw [e61]; exact ⟨by omega, by omega⟩⟩ (fun z => ?_) (fun z => absurd (by rw [e61]; omega) z)
    exact am_W.rt rfl rfl ⟨trivial, trivial⟩ ⟨rfl, f, a, rfl, hJ⟩
  | cons x rest ih =>
    intro pre i f a l2 l3 l4 hm hi hJ
    have hlen : ms.length = pre.length + (rest.length + 1) := by rw [hm, List.length_append, List.length_cons]
    have hx : ms[pre.length]? = some x := by
      rw [hm, List.getElem?_append_right (Nat.le_refl _), Nat.sub_self]
      rfl
    have hro := ro_in x.1 hI
    have e61 : am_fi (HH L B1 B2 f a aj) 61 126 = (ms.length : Int) := (hJ.1.1 61 126 (by decide)).trans h61
    refine am_W.br rfl rfl ⟨⟨trivial, okI rfl rfl rfl⟩, ⟨by omega, by omega⟩, by rw [e61]; exact ⟨by omega, by omega⟩⟩ (fun z => absurd z (by rw [e61]; omega)) (fun z => ?_)
    refine am_W.gp 17 rfl trivial ?_
    rw [hi]
    have ea : aW D ms 0 = aW D pre 0 ++ (mW D x (pre.length : Int) (ro D x.1).toNat 0 ++ aW D rest ((pre.length : Int) + 1)) := by
      rw [hm, aW_app, show (0 : Int) + (pre.length : Int) = (pre.length : Int) by omega]
      rfl
    refine l_give2 d L B1 B2 fi ai aj D ms eD hI h6 hr hw pre.length x hx _ (ro D x.1).toNat 0 f a (aW D pre 0) (aW D rest ((pre.length : Int) + 1)) _ _ (Int.le_refl 0) (by omega) hJ ea (fun f' a' hJ' l2 l3 l4 => ?_)
    refine am_W.gp 7 rfl trivial ?_
    refine ih (pre ++ [x]) _ f' a' _ _ _ (by rw [hm, List.append_assoc]; rfl) (by rw [List.length_append, List.length_singleton]; omega) ?_
    rw [aW_app, show (0 : Int) + (pre.length : Int) = (pre.length : Int) by omega]
    show GJ D ms fi f' ai a' (aW D pre 0 ++ (mW D x (pre.length : Int) (ro D x.1).toNat 0 ++ []))
    rw [List.append_nil]
    exact hJ'
set_option maxHeartbeats 400000 in
set_option maxRecDepth 100000 in
theorem c_give (d L B1 B2 : Nat) (fi : Nat → Nat → Int) (ai aj : Nat → Int → Int) (D : DT) (ms : List MT) (eD : DM fi ai = D) (hI : DI D) (h6 : ms.length ≤ 6) (h61 : fi 61 126 = (ms.length : Int)) (hr : ∀ (i : Nat) (x : MT), ms[i]? = some x → RefB ai (i : Int) x) (hw : ∀ x ∈ ms, wfM D x) : am_M am_prog (d + 5) m_Mo_give [.inr (.inr 126)] (HH L B1 B2 fi ai aj) (fun v h' => v = none ∧ ∃ f' a', h' = HH L B1 B2 f' a' aj ∧ GJ D ms fi f' ai a' (aW D ms 0)) := by
  refine am_W.of rfl rfl ?_
  refine am_W.gp 7 rfl ⟨trivial, okI rfl rfl rfl⟩ ?_
  simp only [HS, FRS]
  refine l_give3 d L B1 B2 fi ai aj D ms eD hI h6 h61 hr hw ms [] 0 _ _ _ _ _ rfl rfl ⟨⟨fun j b h => u2x h, fun _ _ => rfl, fun h => h⟩, [], u2s, Lst_nil, fun i hi => absurd hi (Nat.not_lt_zero i), fun i j hi => absurd hi (Nat.not_lt_zero i)⟩
