-- the reference: does a way give a triple; its terms at the slot behind the last
def slT (a : Nat → Int → Int) (s n : Int) (u : Int × List Int) : Prop := a 158 (3 * s + n) = u.1 ∧ a 157 (3 * s + n) = (u.2.length : Int) ∧ ∀ i : Nat, i < u.2.length → a 156 (60 * s + 20 * n + (i : Int)) = u.2.getD i 0
def slR (a : Nat → Int → Int) (s : Int) (T : Int → Int × List Int) (g : Int) : Prop := slT a s 0 (T 0) ∧ slT a s 1 (T 1) ∧ slT a s 2 (T 2) ∧ a 159 s = g
def byR (a : Nat → Int → Int) : Prop := ∀ k, -128 ≤ a 156 k ∧ a 156 k < 128
def FTm (s n : Int) (a a' : Nat → Int → Int) : Prop := (∀ b, b < 156 ∨ 158 < b → a' b = a b) ∧ (∀ k, k < 60 * s + 20 * n ∨ 60 * s + 20 * n + 20 ≤ k → a' 156 k = a 156 k) ∧ (∀ k, k ≠ 3 * s + n → a' 157 k = a 157 k ∧ a' 158 k = a 158 k) ∧ (byR a → byR a')
def FS (s : Int) (a a' : Nat → Int → Int) : Prop := (∀ b, b < 156 ∨ 159 < b → a' b = a b) ∧ (∀ k, k < 60 * s ∨ 60 * s + 60 ≤ k → a' 156 k = a 156 k) ∧ (∀ k, k < 3 * s ∨ 3 * s + 3 ≤ k → a' 157 k = a 157 k ∧ a' 158 k = a 158 k) ∧ (∀ k, k ≠ s → a' 159 k = a 159 k) ∧ (byR a → byR a')
theorem slT_fr {a a' : Nat → Int → Int} {s n n' : Int} {u : Int × List Int} (h : slT a s n u) (hf : FTm s n' a a') (hn : n ≠ n') (hu : u.2.length ≤ 20) : slT a' s n u := by
  obtain ⟨h1, h2, h3⟩ := h
  have e := hf.2.2.1 (3 * s + n) (by omega)
  refine ⟨e.2.trans h1, e.1.trans h2, fun i hi => ?_⟩
  rw [hf.2.1 _ (by omega)]
  exact h3 i hi
theorem RefB_fr {a a' : Nat → Int → Int} {m : Int} {x : MT} (h : RefB a m x) (hf : ∀ b, b < 156 → a' b = a b) : RefB a' m x := by
  unfold RefB at *
  rw [hf 132 (by omega), hf 133 (by omega), hf 134 (by omega), hf 135 (by omega), hf 136 (by omega), hf 137 (by omega), hf 138 (by omega), hf 139 (by omega), hf 140 (by omega), hf 141 (by omega), hf 142 (by omega), hf 143 (by omega)]
  exact h
theorem DM_fr {fi fi' : Nat → Nat → Int} {a a' : Nat → Int → Int} (hf : ∀ b, b < 156 → a' b = a b) (h54 : fi' 54 126 = fi 54 126) : DM fi' a' = DM fi a := by
  unfold DM
  rw [hf 127 (by omega), hf 128 (by omega), hf 129 (by omega), hf 130 (by omega), h54]
theorem PTm_p {L B1 B2 : Nat} {fi : Nat → Nat → Int} {ai aj : Nat → Int → Int} {n κ : Int} {l : List Int} {g : Int → Int} (hw : wrt (ai 156) (60 * fi 94 126 + 20 * n) l g) (hl : l.length ≤ 20) (hb : byt l) : ∃ a, PTm L B1 B2 fi ai aj n κ l g = HH L B1 B2 fi a aj ∧ slT a (fi 94 126) n (κ, l) ∧ FTm (fi 94 126) n ai a := by
  refine ⟨_, rfl, ⟨?_, ?_, ?_⟩, ?_, ?_, ?_, ?_⟩
  · show up (ai 158) _ _ _ = _
    rw [up_s]
  · show up (ai 157) _ _ _ = _
    rw [up_s]
  · exact fun i hi => hw.1 i hi
  · intro b hb
    rw [san _ _ (by omega), san _ _ (by omega), san _ _ (by omega)]
  · intro k hk
    exact hw.2 k (by omega)
  · intro k hk
    exact ⟨up_n _ _ hk, up_n _ _ hk⟩
  · intro h k
    show -128 ≤ g k ∧ g k < 128
    by_cases hk : k < 60 * fi 94 126 + 20 * n ∨ 60 * fi 94 126 + 20 * n + (l.length : Int) ≤ k
    · rw [hw.2 k hk]
      exact h k
    · have e := hw.1 (k - (60 * fi 94 126 + 20 * n)).toNat (by omega)
      rw [show 60 * fi 94 126 + 20 * n + (((k - (60 * fi 94 126 + 20 * n)).toNat : Nat) : Int) = k by omega] at e
      have hlt : (k - (60 * fi 94 126 + 20 * n)).toNat < l.length := by omega
      have hm : l.getD (k - (60 * fi 94 126 + 20 * n)).toNat 0 ∈ l := by
        rw [List.getD_eq_getElem?_getD, List.getElem?_eq_getElem hlt]
        exact List.getElem_mem hlt
      have := hb _ hm
      rw [e]
      omega
theorem oth_r {D : DT} {x : MT} {r : Int} : ∀ (k : Nat) (o v : Int), o ≤ v → v < o + k → ce D x.2.2.2.2.1.1 v x.2.2.2.1.2.1 ≠ -1 ∧ jn D x r v → v ∈ oth D x r k o
  | 0, o, v, h1, h2, h => absurd h2 (by omega)
  | k + 1, o, v, h1, h2, h => by
    by_cases hq : ce D x.2.2.2.2.1.1 o x.2.2.2.1.2.1 ≠ -1 ∧ jn D x r o
    · rw [oth_y hq]
      by_cases e : v = o
      · rw [e]; exact List.mem_cons_self ..
      · exact List.mem_cons_of_mem _ (oth_r k (o + 1) v (by omega) (by omega) h)
    · rw [oth_n hq]
      by_cases e : v = o
      · rw [e] at h; exact absurd h hq
      · exact oth_r k (o + 1) v (by omega) (by omega) h
theorem rwO_1 {D : DT} {x : MT} {r o : Int} (hj : x.2.2.2.2.1.1 = -1) : o ∈ rwO D x r ↔ o = 0 ∧ (¬ x.2.2.2.1.1 = 2 ∨ nnP D x.1 r x.2.2.2.1) := by
  unfold rwO
  rw [if_pos hj]
  by_cases h : ¬ x.2.2.2.1.1 = 2 ∨ nnP D x.1 r x.2.2.2.1
  · rw [if_pos h]
    exact ⟨fun z => ⟨List.mem_singleton.mp z, h⟩, fun z => List.mem_singleton.mpr z.1⟩
  · rw [if_neg h]
    exact ⟨fun z => (by cases z), fun z => absurd z.2 h⟩
theorem rwO_2 {D : DT} {x : MT} {r o : Int} (hI : DI D) (hj : ¬ x.2.2.2.2.1.1 = -1) : o ∈ rwO D x r ↔ (0 ≤ o ∧ o < ro D x.2.2.2.2.1.1) ∧ ce D x.2.2.2.2.1.1 o x.2.2.2.1.2.1 ≠ -1 ∧ jn D x r o := by
  have hro := ro_in x.2.2.2.2.1.1 hI
  unfold rwO
  rw [if_neg hj]
  constructor
  · intro h
    have h1 := (oth_in _ _).2 o h
    exact ⟨by omega, oth_m _ _ _ h⟩
  · intro h
    exact oth_r _ _ _ h.1.1 (by omega) h.2
/-- a way gives a triple -/
def mks (D : DT) (x : MT) (r o : Int) : Prop := gvs D x r ∧ bdN D x r = -1 ∧ o ∈ rwO D x r
def jdo (x : MT) (o : Int) : Int := if x.2.2.2.2.1.1 = -1 then -1 else o
theorem tmx_pt {D : DT} (hI : DI D) {x : MT} (hw : wfM D x) {r o : Int} (ho : 0 ≤ o) (h : mks D x r o) : ptU D x x.2.1 r (jdo x o) (tmx D x r o 0).2 ∧ ptU D x x.2.2.1 r (jdo x o) (tmx D x r o 1).2 ∧ ptU D x x.2.2.2.1 r (jdo x o) (tmx D x r o 2).2 ∧ (tmx D x r o 0).1 = x.2.1.1 ∧ (tmx D x r o 1).1 = x.2.2.1.1 ∧ (tmx D x r o 2).1 = x.2.2.2.1.1 := by
  obtain ⟨g1, g2, g3⟩ := h
  obtain ⟨a1, a2, a3⟩ := g1.2.2
  obtain ⟨q1, q2, q3, q4, q5⟩ := wfM_q hI hw
  obtain ⟨-, -, -, hs3, k1, k2, k3⟩ := wfM_p hI hw
  refine ⟨⟨fun z => absurd z.1 (by omega), fun _ => ⟨q1, a1, rfl⟩⟩, ⟨fun z => absurd z.1 (by omega), fun _ => ⟨q2, a2, rfl⟩⟩, ⟨fun z => ?_, fun z => ?_⟩, rfl, rfl, ?_⟩
  · have hj : ¬ x.2.2.2.2.1.1 = -1 := fun e => z.2 (by unfold jdo; rw [if_pos e])
    have h := (rwO_2 hI hj).mp g3
    have e : jdo x o = o := by unfold jdo; rw [if_neg hj]
    have e2 : (tmx D x r o 2).2 = dgs (ce D x.2.2.2.2.1.1 o x.2.2.2.1.2.1) := by
      unfold tmx
      rw [if_neg (by decide), if_neg (by decide), if_neg hj]
    have hc : 0 ≤ x.2.2.2.1.2.1 ∧ x.2.2.2.1.2.1 < co D x.2.2.2.2.1.1 := by
      rcases hw.2.2.2.1 with w | w
      · exact absurd w.2 hj
      · rcases w.2.2.2 with w1 | w1
        · exact absurd w1.1 hj
        · exact ⟨w.2.2.1, w1.2.2.2.1⟩
    rw [e, e2]
    exact ⟨h.1, hc, h.2.1, rfl⟩
  · by_cases hj : x.2.2.2.2.1.1 = -1
    · have h := (rwO_1 hj).mp g3
      refine ⟨q4 hj, ?_, ?_⟩
      · rcases h.2 with h2 | h2
        · exact a3 h2
        · exact h2
      · unfold tmx
        rw [if_neg (by decide), if_neg (by decide), if_pos hj]
    · have e : jdo x o = o := by unfold jdo; rw [if_neg hj]
      exact absurd ⟨k3 hj, by omega⟩ z
  · unfold tmx
    rw [if_neg (by decide), if_neg (by decide)]
    split
    · rfl
    · next hj => exact (k3 hj).symm
def MkQ (L B1 B2 : Nat) (fi : Nat → Nat → Int) (ai aj : Nat → Int → Int) (P : Prop) (T : Int → Int × List Int) (g : Int) : Option am_V → am_H → Prop := fun w h' => (P ∧ w = some (.inl 1) ∧ ∃ a, h' = HH L B1 B2 fi a aj ∧ FS (fi 94 126) ai a ∧ slR a (fi 94 126) T g) ∨ (¬ P ∧ w = some (.inl 0) ∧ h' = HH L B1 B2 fi ai aj)
set_option maxHeartbeats 400000 in
set_option maxRecDepth 100000 in
theorem l_makes3 (d L B1 B2 : Nat) (fi : Nat → Nat → Int) (ai aj : Nat → Int → Int) (m row o : Int) (x : MT) (hm : 0 ≤ m ∧ m < 6) (hx : RefB ai m x) (hI : DI (DM fi ai)) (hw : wfM (DM fi ai) x) (hr : 0 ≤ row ∧ row < ro (DM fi ai) x.1) (ho : 0 ≤ o ∧ o < 16) (hG : 0 ≤ fi 94 126 ∧ fi 94 126 ≤ 1536) (hk : mks (DM fi ai) x row o) (l4 l5 l6 : Option am_V) : am_W (am_ev am_prog (d + 3)) T_Mo_makes (MkQ L B1 B2 fi ai aj (mks (DM fi ai) x row o) (tmx (DM fi ai) x row o) (grf x)) (207, [some (.inr (.inr 126)), some (.inl m), some (.inl row), some (.inl (jdo x o)), l4, l5, l6], [], HH L B1 B2 fi ai aj) := by
  obtain ⟨p1, p2, p3, e1, e2, e3⟩ := tmx_pt hI hw ho.1 hk
  have t1 := tmx_ok hI hw hk.1.2.2 hk.2.1 hk.2.2 (t := 0) (by omega)
  have t2 := tmx_ok hI hw hk.1.2.2 hk.2.1 hk.2.2 (t := 1) (by omega)
  have t3 := tmx_ok hI hw hk.1.2.2 hk.2.1 hk.2.2 (t := 2) (by omega)
  obtain ⟨-, -, -, hs3, k1, k2, k3⟩ := wfM_p hI hw
  obtain ⟨-, -, -, -, q5⟩ := wfM_q hI hw
  have hgr := hw.2.2.2.2.2
  have hjd : -1 ≤ jdo x o ∧ jdo x o < 16 := by
    unfold jdo
    split <;> omega
  have hstep : ∀ (n : Int) (y : PT) (a : Nat → Int → Int) (u : Int × List Int) (l4 l6 : Option am_V) (Q : Option am_V → am_H → Prop), 0 ≤ n ∧ n < 3 → (∀ b, b < 156 → a b = ai b) → RepQ (ai 133) (ai 134) (ai 135) (ai 136) (3 * m + n) y → (y.1 = 0 ∨ y.1 = 1 ∨ y.1 = 2) → ptU (DM fi ai) x y row (jdo x o) u.2 → u.1 = y.1 → tOK u → (∀ a', FTm (fi 94 126) n a a' → slT a' (fi 94 126) n u → ∀ l4 l6 : Option am_V, am_W (am_ev am_prog (d + 3)) T_Mo_makes Q (210, [some (.inr (.inr 126)), some (.inl m), some (.inl row), some (.inl (jdo x o)), l4, some (.inl (n + 1)), l6], [], HH L B1 B2 fi a' aj)) → am_W (am_ev am_prog (d + 3)) T_Mo_makes Q (210, [some (.inr (.inr 126)), some (.inl m), some (.inl row), some (.inl (jdo x o)), l4, some (.inl n), l6], [], HH L B1 B2 fi a aj) := by
    intro n y a u l4 l6 Q hn hA hy hyk hu hu1 hu2 w
    have hA2 : DM fi a = DM fi ai := DM_fr hA rfl
    have hx2 := RefB_fr hx hA
    have ok126 : am_ok (HH L B1 B2 fi a aj) 126 10 := okI rfl rfl rfl
    refine am_W.br rfl rfl ⟨trivial, ⟨by omega, by omega⟩, ⟨by omega, by omega⟩⟩ (fun c => absurd c (by omega)) (fun c => ?_)
    refine am_W.cv 10 m_Mo_putTerm rfl rfl rfl rfl ⟨trivial, ok126⟩ (c_putTerm d L B1 B2 fi a aj m n row (jdo x o) x y u.2 hm hn (hx2.1) (by rw [hA 133 (by omega), hA 134 (by omega), hA 135 (by omega), hA 136 (by omega)]; exact hy) hyk hx2.2.2.2.2.1 (by rw [hA2]; exact hu) (by rw [hA2]; exact hI) (by rw [hA2]; exact hr) hjd hG) ?_
    rintro r1 h1 ⟨rfl, g, rfl, hw2⟩
    obtain ⟨a', e, s1, f1⟩ := PTm_p (L := L) (B1 := B1) (B2 := B2) (aj := aj) (κ := y.1) hw2 hu2.2.2.2.2 hu2.2.1
    rw [e]
    refine am_W.gp 210 rfl trivial (w a' f1 ?_ _ _)
    rw [← hu1] at s1
    exact s1
  refine am_W.gp 210 rfl trivial ?_
  refine hstep 0 x.2.1 ai (tmx (DM fi ai) x row o 0) _ _ _ (by omega) (fun _ _ => rfl) (by rw [show 3 * m + 0 = 3 * m by omega]; exact hx.2.1) (by omega) p1 e1 t1 (fun a1 f1 s1 l4 l6 => ?_)
  refine hstep 1 x.2.2.1 a1 (tmx (DM fi ai) x row o 1) _ _ _ (by omega) (fun b hb => f1.1 b (by omega)) hx.2.2.1 (by omega) p2 e2 t2 (fun a2 f2 s2 l4 l6 => ?_)
  refine hstep 2 x.2.2.2.1 a2 (tmx (DM fi ai) x row o 2) _ _ _ (by omega) (fun b hb => (f2.1 b (by omega)).trans (f1.1 b (by omega))) hx.2.2.2.1 q5 p3 e3 t3 (fun a3 f3 s3 l4 l6 => ?_)
  have hA : ∀ b, b < 156 ∨ 158 < b → a3 b = ai b := fun b hb => ((f3.1 b (by omega)).trans (f2.1 b (by omega))).trans (f1.1 b (by omega))
  have ok126 : am_ok (HH L B1 B2 fi a3 aj) 126 10 := okI rfl rfl rfl
  have oG : am_okr (HH L B1 B2 fi a3 aj) (am_fr (HH L B1 B2 fi a3 aj) 70 126) 1000 m := ok6 fi _ aj rfl rfl rfl hm
  have eG : am_ai (HH L B1 B2 fi a3 aj) (am_fr (HH L B1 B2 fi a3 aj) 70 126) m = x.2.2.2.2.2.2 := by
    show a3 140 m = _
    rw [hA 140 (by omega)]
    exact hx.2.2.2.2.2.2.2.2.2
  have oH : am_oka (HH L B1 B2 fi a3 aj) (am_fr (HH L B1 B2 fi a3 aj) 98 126) 1000 (fi 94 126) := okaI rfl rfl (t := 1000) (N := 1600) rfl rfl (by omega) (by omega)
  refine am_W.br rfl rfl ⟨trivial, ⟨by omega, by omega⟩, ⟨by omega, by omega⟩⟩ (fun c => ?_) (fun c => absurd (by omega) c)
  have hend : ∀ g, g = grf x → MkQ L B1 B2 fi ai aj (mks (DM fi ai) x row o) (tmx (DM fi ai) x row o) (grf x) (some (.inl 1)) (HH L B1 B2 fi (am_u2 a3 159 (fi 94 126) g) aj) := by
    intro g hg
    refine Or.inl ⟨hk, rfl, _, rfl, ?_, ?_⟩
    · rw [u2_sa]
      refine ⟨fun b hb => ?_, fun k hk => ?_, fun k hk => ?_, fun k hk => ?_, fun h => f3.2.2.2 (f2.2.2.2 (f1.2.2.2 h))⟩
      · rw [san _ _ (by omega)]
        exact hA b (by omega)
      · rw [san _ _ (by decide)]
        rw [f3.2.1 k (by omega), f2.2.1 k (by omega), f1.2.1 k (by omega)]
      · rw [san _ _ (by decide), san _ _ (by decide)]
        have h3 := f3.2.2.1 k (by omega)
        have h2 := f2.2.2.1 k (by omega)
        have h1 := f1.2.2.1 k (by omega)
        exact ⟨(h3.1.trans h2.1).trans h1.1, (h3.2.trans h2.2).trans h1.2⟩
      · rw [sas, up_n _ _ hk, hA 159 (by omega)]
    · rw [u2_sa]
      refine ⟨?_, ?_, ?_, ?_⟩
      · have := slT_fr (slT_fr s1 f2 (by decide) t1.2.2.2.2) f3 (by decide) t1.2.2.2.2
        exact this
      · have := slT_fr s2 f3 (by decide) t2.2.2.2.2
        exact this
      · exact s3
      · rw [sas, up_s, hg]
  have hgx : grf x = if x.2.2.2.2.2.2 = -1 then 0 else x.2.2.2.2.2.2 := rfl
  refine am_W.br rfl rfl ⟨⟨⟨⟨⟨trivial, ok126⟩, ok126⟩, ok126⟩, oG⟩, by rw [eG]; exact ⟨by omega, by omega⟩, ⟨by omega, by omega⟩⟩ (fun c1 => ?_) (fun c1 => ?_)
  · rw [eG] at c1
    rw [if_neg c1] at hgx
    refine am_W.rt rfl rfl ⟨⟨⟨⟨trivial, ok126⟩, oG⟩, oH⟩, Or.inr rfl⟩ (hend _ ?_)
    rw [eG, hgx]
  · rw [eG] at c1
    rw [if_pos (by omega)] at hgx
    refine am_W.rt rfl rfl ⟨⟨trivial, oH⟩, Or.inr rfl⟩ (hend _ hgx.symm)
theorem bnR_n {D : DT} {x : MT} {r : Int} (h : bnR D x r ≠ -1) : bdN D x r ≠ -1 := fun e => by
  unfold bnR at h
  by_cases g : gvs D x r
  · rw [if_pos g] at h; exact h e
  · rw [if_neg g] at h; exact h rfl
theorem bnR_y {D : DT} {x : MT} {r : Int} (g : gvs D x r) : bnR D x r = bdN D x r := if_pos g
set_option maxHeartbeats 400000 in
set_option maxRecDepth 100000 in
theorem c_makes (d L B1 B2 : Nat) (fi : Nat → Nat → Int) (ai aj : Nat → Int → Int) (m row o : Int) (x : MT) (hm : 0 ≤ m ∧ m < 6) (hx : RefB ai m x) (hI : DI (DM fi ai)) (hw : wfM (DM fi ai) x) (hr : 0 ≤ row ∧ row < ro (DM fi ai) x.1) (ho : 0 ≤ o ∧ (x.2.2.2.2.1.1 = -1 → o = 0) ∧ (¬ x.2.2.2.2.1.1 = -1 → o < ro (DM fi ai) x.2.2.2.2.1.1)) (hG : 0 ≤ fi 94 126 ∧ fi 94 126 ≤ 1536) : am_M am_prog (d + 4) m_Mo_makes [.inr (.inr 126), .inl m, .inl row, .inl (jdo x o)] (HH L B1 B2 fi ai aj) (MkQ L B1 B2 fi ai aj (mks (DM fi ai) x row o) (tmx (DM fi ai) x row o) (grf x)) := by
  obtain ⟨q1, q2, q3, q4, q5⟩ := wfM_q hI hw
  obtain ⟨-, -, -, hs3, k1, k2, k3⟩ := wfM_p hI hw
  obtain ⟨r1, r2, r3, r4, r5, r6, -⟩ := id hx
  have hro := ro_in x.1 hI
  have hroj := ro_in x.2.2.2.2.1.1 hI
  have hs0 := hro.2.2 (by omega)
  have hjR : -1 ≤ x.2.2.2.2.1.1 ∧ x.2.2.2.2.1.1 < 4 := by
    by_cases hj : x.2.2.2.2.1.1 = -1
    · omega
    · have := ho.2.2 hj
      have := hroj.2.2 (by omega)
      omega
  have ho16 : 0 ≤ o ∧ o < 16 := by
    by_cases hj : x.2.2.2.2.1.1 = -1
    · have := ho.2.1 hj
      omega
    · have := ho.2.2 hj
      omega
  have ok126 : am_ok (HH L B1 B2 fi ai aj) 126 10 := okI rfl rfl rfl
  have oS : am_okr (HH L B1 B2 fi ai aj) (am_fr (HH L B1 B2 fi ai aj) 62 126) 1000 m := ok6 fi ai aj rfl rfl rfl hm
  have eS : am_ai (HH L B1 B2 fi ai aj) (am_fr (HH L B1 B2 fi ai aj) 62 126) m = x.1 := r1
  have oJ : am_okr (HH L B1 B2 fi ai aj) (am_fr (HH L B1 B2 fi ai aj) 67 126) 1000 m := ok6 fi ai aj rfl rfl rfl hm
  have eJ : am_ai (HH L B1 B2 fi ai aj) (am_fr (HH L B1 B2 fi ai aj) 67 126) m = x.2.2.2.2.1.1 := r5
  have oT : am_okr (HH L B1 B2 fi ai aj) (am_fr (HH L B1 B2 fi ai aj) 58 126) 1002 (16 * x.1 + row) := okrI rfl rfl (t := 1002) (N := 64) rfl rfl (by omega) (by omega)
  have eT : am_ai (HH L B1 B2 fi ai aj) (am_fr (HH L B1 B2 fi ai aj) 58 126) (16 * x.1 + row) = th (DM fi ai) x.1 row := by
    unfold th
    rw [if_pos hr, show x.1 * 16 + row = 16 * x.1 + row by omega]
    rfl
  have hno : ∀ (T : am_T) (k : Nat) (ls : am_L), ¬ mks (DM fi ai) x row o → MkQ L B1 B2 fi ai aj (mks (DM fi ai) x row o) (tmx (DM fi ai) x row o) (grf x) (some (.inl 0)) (HH L B1 B2 fi ai aj) := fun _ _ _ h => Or.inr ⟨h, rfl, rfl⟩
  have h42 : ∀ (s l5 l6 : Option am_V), ¬ mks (DM fi ai) x row o → am_W (am_ev am_prog (d + 3)) T_Mo_makes (MkQ L B1 B2 fi ai aj (mks (DM fi ai) x row o) (tmx (DM fi ai) x row o) (grf x)) (42, [some (.inr (.inr 126)), some (.inl m), some (.inl row), some (.inl (jdo x o)), s, l5, l6], [], HH L B1 B2 fi ai aj) := by
    intro s l5 l6 h
    exact am_W.rt rfl rfl ⟨trivial, Or.inl rfl⟩ (Or.inr ⟨h, rfl, rfl⟩)
  refine am_W.of rfl rfl ?_
  refine am_W.gp 8 rfl ⟨⟨trivial, ok126⟩, oS⟩ ?_
  rw [eS]
  rcases th_01 hI x.1 row with ht | ht
  · refine am_W.br rfl rfl ⟨⟨⟨trivial, ok126⟩, oT⟩, by rw [eT, ht]; exact ⟨by omega, by omega⟩⟩ (fun c => ?_) (fun c => absurd (by rw [eT]; exact ht) c)
    exact h42 _ _ _ (fun z => absurd (ht.symm.trans z.1.1) (by decide))
  · refine am_W.br rfl rfl ⟨⟨⟨trivial, ok126⟩, oT⟩, by rw [eT, ht]; exact ⟨by omega, by omega⟩⟩ (fun c => absurd c (by rw [eT, ht]; decide)) (fun c => ?_)
    refine am_W.cv 10 m_Mo_holds rfl rfl rfl rfl ⟨trivial, ok126⟩ (c_mholds (d + 1) L B1 B2 fi ai aj m row x hm hx hI hw hr) ?_
    rintro v1 h1 ⟨hq, rfl⟩
    rcases hq with ⟨n1, rfl⟩ | ⟨n1, rfl⟩
    · refine am_W.br rfl rfl ⟨trivial, ⟨by omega, by omega⟩⟩ (fun c2 => absurd c2 (by decide)) (fun c2 => ?_)
      refine am_W.cv 10 m_Mo_badName rfl rfl rfl rfl ⟨trivial, ok126⟩ (c_badName d L B1 B2 fi ai aj m row x hm hx hI hw hr) ?_
      rintro r1 h1 ⟨rfl, rfl⟩
      have hbR : -1 ≤ bnR (DM fi ai) x row ∧ bnR (DM fi ai) x row ≤ 2 := by
        unfold bnR bdN
        (repeat' split) <;> omega
      refine am_W.br rfl rfl ⟨trivial, ⟨by omega, by omega⟩, ⟨by omega, by omega⟩⟩ (fun c3 => ?_) (fun c3 => ?_)
      · refine am_W.gp 47 rfl trivial ?_
        have h74 : ∀ (n : Int) (y : PT) (l6 : Option am_V), 0 ≤ n ∧ n < 3 → RepQ (ai 133) (ai 134) (ai 135) (ai 136) (3 * m + n) y → prt (DM fi ai) x.1 y → (mks (DM fi ai) x row o → nnP (DM fi ai) x.1 row y) → (nnP (DM fi ai) x.1 row y → ∀ l6 : Option am_V, am_W (am_ev am_prog (d + 3)) T_Mo_makes (MkQ L B1 B2 fi ai aj (mks (DM fi ai) x row o) (tmx (DM fi ai) x row o) (grf x)) (47, [some (.inr (.inr 126)), some (.inl m), some (.inl row), some (.inl (jdo x o)), some (.inl x.1), some (.inl (n + 1)), l6], [], HH L B1 B2 fi ai aj)) → am_W (am_ev am_prog (d + 3)) T_Mo_makes (MkQ L B1 B2 fi ai aj (mks (DM fi ai) x row o) (tmx (DM fi ai) x row o) (grf x)) (74, [some (.inr (.inr 126)), some (.inl m), some (.inl row), some (.inl (jdo x o)), some (.inl x.1), some (.inl n), l6], [.inl 0], HH L B1 B2 fi ai aj) := by
          intro n y l6 hn hy hp hk w
          refine am_W.br rfl rfl ⟨trivial, ⟨by omega, by omega⟩⟩ (fun z => absurd rfl z) (fun z => ?_)
          refine am_W.cv 10 m_Mo_sizeOf rfl rfl rfl rfl ⟨trivial, ok126⟩ (c_sizeOf (d + 1) L B1 B2 fi ai aj m n row x y hm hn r1 hy hp hI hr) ?_
          rintro v1 h1 ⟨hq, rfl⟩
          rcases hq with ⟨n1, rfl⟩ | ⟨n1, rfl⟩
          · have hco := co_in x.1 hI
            have hb2 := (tbP_b hI hs0.1 (fun z => ⟨(hp.2.1 z).1, fun q hq => okC_mo hco.2.1 ((hp.2.1 z).2 q hq)⟩) n1).2.1
            refine am_W.br rfl rfl ⟨trivial, ⟨by omega, by omega⟩, ⟨by omega, by omega⟩⟩ (fun z => ?_) (fun z => absurd (by omega) z)
            exact am_W.gp 47 rfl trivial (w n1 _)
          · refine am_W.br rfl rfl ⟨trivial, ⟨by omega, by omega⟩, ⟨by omega, by omega⟩⟩ (fun z => absurd rfl z) (fun z => ?_)
            exact am_W.rt rfl rfl ⟨trivial, Or.inl rfl⟩ (Or.inr ⟨fun z => n1 (hk z), rfl, rfl⟩)
        refine am_W.br rfl rfl ⟨trivial, ⟨by omega, by omega⟩, ⟨by omega, by omega⟩⟩ (fun c4 => absurd c4 (by decide)) (fun c4 => ?_)
        refine am_W.br rfl rfl ⟨trivial, ⟨by omega, by omega⟩, ⟨by omega, by omega⟩⟩ (fun c5 => ?_) (fun c5 => absurd (by decide) c5)
        refine am_W.gp 74 rfl trivial ?_
        refine h74 0 x.2.1 _ (by omega) (by rw [show 3 * m + 0 = 3 * m by omega]; exact r2) q1 (fun z => z.1.2.2.1) (fun a1 l6 => ?_)
        refine am_W.br rfl rfl ⟨trivial, ⟨by omega, by omega⟩, ⟨by omega, by omega⟩⟩ (fun c6 => absurd c6 (by decide)) (fun c6 => ?_)
        refine am_W.br rfl rfl ⟨trivial, ⟨by omega, by omega⟩, ⟨by omega, by omega⟩⟩ (fun c7 => ?_) (fun c7 => absurd (by decide) c7)
        refine am_W.gp 74 rfl trivial ?_
        refine h74 1 x.2.2.1 _ (by omega) r3 q2 (fun z => z.1.2.2.2.1) (fun a2 l6 => ?_)
        refine am_W.br rfl rfl ⟨trivial, ⟨by omega, by omega⟩, ⟨by omega, by omega⟩⟩ (fun c8 => absurd c8 (by decide)) (fun c8 => ?_)
        refine am_W.br rfl rfl ⟨trivial, ⟨by omega, by omega⟩, ⟨by omega, by omega⟩⟩ (fun c9 => absurd rfl c9) (fun c9 => ?_)
        refine am_W.br rfl rfl ⟨⟨⟨trivial, ok126⟩, oJ⟩, by rw [eJ]; exact ⟨by omega, by omega⟩, ⟨by omega, by omega⟩⟩ (fun c10 => ?_) (fun c10 => ?_)
        · rw [eJ] at c10
          refine am_W.gp 74 rfl trivial ?_
          refine h74 2 x.2.2.2.1 _ (by omega) r4 (q4 c10) (fun z => ?_) (fun a3 l6 => ?_)
          · rcases ((rwO_1 c10).mp z.2.2).2 with h | h
            · exact z.1.2.2.2.2 h
            · exact h
          · have hgv : gvs (DM fi ai) x row := ⟨ht, n1, a1, a2, fun _ => a3⟩
            have hk : mks (DM fi ai) x row o := ⟨hgv, by rw [← bnR_y hgv]; exact c3, (rwO_1 c10).mpr ⟨ho.2.1 c10, Or.inr a3⟩⟩
            refine am_W.br rfl rfl ⟨trivial, ⟨by omega, by omega⟩, ⟨by omega, by omega⟩⟩ (fun c11 => ?_) (fun c11 => absurd (by decide) c11)
            have ej : jdo x o = -1 := if_pos c10
            refine am_W.br rfl rfl ⟨trivial, by rw [ej]; exact ⟨by omega, by omega⟩, ⟨by omega, by omega⟩⟩ (fun c12 => ?_) (fun c12 => absurd ej c12)
            exact l_makes3 d L B1 B2 fi ai aj m row o x hm hx hI hw hr ho16 hG hk _ _ _
        · rw [eJ] at c10
          have ej : jdo x o = o := if_neg c10
          have hoj := ho.2.2 c10
          have hsj := hroj.2.2 (by omega)
          obtain ⟨r61, r62⟩ := r6 c10
          obtain ⟨w1, w2, w3⟩ : (0 ≤ x.2.2.2.1.2.1 ∧ x.2.2.2.1.2.1 < co (DM fi ai) x.2.2.2.2.1.1) ∧ (0 ≤ x.2.2.2.2.1.2.1 ∧ x.2.2.2.2.1.2.1 < co (DM fi ai) x.1) ∧ (0 ≤ x.2.2.2.2.1.2.2 ∧ x.2.2.2.2.1.2.2 < co (DM fi ai) x.2.2.2.2.1.1) := by
            rcases hw.2.2.2.1 with w | w
            · exact absurd w.2 c10
            · rcases w.2.2.2 with w1 | w1
              · exact absurd w1.1 c10
              · exact ⟨⟨w.2.2.1, w1.2.2.2.1⟩, ⟨w1.2.2.2.2.1, w1.2.2.2.2.2.1⟩, w1.2.2.2.2.2.2⟩
          have b1 := ce_in x.1 row x.2.2.2.2.1.2.1 hI
          have b2 := ce_in x.2.2.2.2.1.1 o x.2.2.2.2.1.2.2 hI
          have b3 := ce_in x.2.2.2.2.1.1 o x.2.2.2.1.2.1 hI
          have oH : am_okr (HH L B1 B2 fi ai aj) (am_fr (HH L B1 B2 fi ai aj) 68 126) 1000 m := ok6 fi ai aj rfl rfl rfl hm
          have eH : am_ai (HH L B1 B2 fi ai aj) (am_fr (HH L B1 B2 fi ai aj) 68 126) m = x.2.2.2.2.1.2.1 := r61
          have oE : am_okr (HH L B1 B2 fi ai aj) (am_fr (HH L B1 B2 fi ai aj) 69 126) 1000 m := ok6 fi ai aj rfl rfl rfl hm
          have eE : am_ai (HH L B1 B2 fi ai aj) (am_fr (HH L B1 B2 fi ai aj) 69 126) m = x.2.2.2.2.1.2.2 := r62
          have oC : am_okr (HH L B1 B2 fi ai aj) (am_fr (HH L B1 B2 fi ai aj) 64 126) 1000 (3 * m + 2) := ok18 fi ai aj rfl rfl rfl ⟨by omega, by omega⟩
          have eC : am_ai (HH L B1 B2 fi ai aj) (am_fr (HH L B1 B2 fi ai aj) 64 126) (3 * m + 2) = x.2.2.2.1.2.1 := r4.2.1 (by have := k3 c10; omega)
          have oU : am_okr (HH L B1 B2 fi ai aj) (am_fr (HH L B1 B2 fi ai aj) 58 126) 1002 (16 * x.2.2.2.2.1.1 + o) := okrI rfl rfl (t := 1002) (N := 64) rfl rfl (by omega) (by omega)
          have eU : am_ai (HH L B1 B2 fi ai aj) (am_fr (HH L B1 B2 fi ai aj) 58 126) (16 * x.2.2.2.2.1.1 + o) = th (DM fi ai) x.2.2.2.2.1.1 o := by
            unfold th
            rw [if_pos ⟨ho.1, hoj⟩, show x.2.2.2.2.1.1 * 16 + o = 16 * x.2.2.2.2.1.1 + o by omega]
            rfl
          have h198 : ∀ (b key : Int) (l6 : Option am_V), ((b = 1 ∧ mks (DM fi ai) x row o) ∨ (b = 0 ∧ ¬ mks (DM fi ai) x row o)) → am_W (am_ev am_prog (d + 3)) T_Mo_makes (MkQ L B1 B2 fi ai aj (mks (DM fi ai) x row o) (tmx (DM fi ai) x row o) (grf x)) (198, [some (.inr (.inr 126)), some (.inl m), some (.inl row), some (.inl (jdo x o)), some (.inl x.1), some (.inl key), l6], [.inl b], HH L B1 B2 fi ai aj) := by
            intro b key l6 hb
            rcases hb with ⟨rfl, hk⟩ | ⟨rfl, hk⟩
            · refine am_W.br rfl rfl ⟨trivial, ⟨by omega, by omega⟩⟩ (fun z => ?_) (fun z => absurd (by decide) z)
              exact l_makes3 d L B1 B2 fi ai aj m row o x hm hx hI hw hr ho16 hG hk _ _ _
            · refine am_W.br rfl rfl ⟨trivial, ⟨by omega, by omega⟩⟩ (fun z => absurd rfl z) (fun z => ?_)
              exact am_W.rt rfl rfl ⟨trivial, Or.inl rfl⟩ (Or.inr ⟨hk, rfl, rfl⟩)
          have hm2 := rwO_2 (o := o) (r := row) hI c10
          refine am_W.br rfl rfl ⟨trivial, ⟨by omega, by omega⟩⟩ (fun c11 => ?_) (fun c11 => absurd c11 (by decide))
          refine am_W.br rfl rfl ⟨trivial, ⟨by omega, by omega⟩, ⟨by omega, by omega⟩⟩ (fun c12 => ?_) (fun c12 => absurd (by decide) c12)
          refine am_W.br rfl rfl ⟨trivial, by rw [ej]; exact ⟨by omega, by omega⟩, ⟨by omega, by omega⟩⟩ (fun c13 => absurd c13 (by rw [ej]; omega)) (fun c13 => ?_)
          refine am_W.cv 10 m_Mo_cell rfl rfl rfl rfl ⟨⟨⟨trivial, ok126⟩, oH⟩, ok126⟩ (by rw [eH]; exact c_mcell (d + 2) L B1 B2 fi ai aj x.1 row _ hI hr w2) ?_
          rintro r1 h1 ⟨rfl, rfl⟩
          rcases th_01 hI x.2.2.2.2.1.1 o with htj | htj
          · refine am_W.br rfl rfl ⟨⟨⟨⟨⟨trivial, ok126⟩, ok126⟩, oJ⟩, by rw [eJ, ej]; exact oU⟩, by rw [eJ, ej, eU]; exact ⟨by omega, by omega⟩⟩ (fun c14 => ?_) (fun c14 => absurd (by rw [eJ, ej, eU]; exact htj) c14)
            exact am_W.gp 198 rfl trivial (h198 0 _ _ (Or.inr ⟨rfl, fun z => absurd (htj.symm.trans (hm2.mp z.2.2).2.2.2.1) (by decide)⟩))
          · refine am_W.br rfl rfl ⟨⟨⟨⟨⟨trivial, ok126⟩, ok126⟩, oJ⟩, by rw [eJ, ej]; exact oU⟩, by rw [eJ, ej, eU]; exact ⟨by omega, by omega⟩⟩ (fun c14 => absurd c14 (by rw [eJ, ej, eU, htj]; decide)) (fun c14 => ?_)
            refine am_W.br rfl rfl ⟨trivial, ⟨by omega, by omega⟩, ⟨by omega, by omega⟩⟩ (fun c15 => ?_) (fun c15 => ?_)
            · exact am_W.gp 198 rfl trivial (h198 0 _ _ (Or.inr ⟨rfl, fun z => (hm2.mp z.2.2).2.2.1 c15⟩))
            · refine am_W.cv 10 m_Mo_cell rfl rfl rfl rfl ⟨⟨⟨⟨⟨trivial, ok126⟩, oJ⟩, ok126⟩, oE⟩, ok126⟩ (by rw [eE, eJ, ej]; exact c_mcell (d + 2) L B1 B2 fi ai aj _ o _ hI ⟨ho.1, hoj⟩ w3) ?_
              rintro r1 h1 ⟨rfl, rfl⟩
              refine am_W.br rfl rfl ⟨trivial, ⟨by omega, by omega⟩, ⟨by omega, by omega⟩⟩ (fun c16 => ?_) (fun c16 => ?_)
              · exact am_W.gp 198 rfl trivial (h198 0 _ _ (Or.inr ⟨rfl, fun z => c16 (hm2.mp z.2.2).2.2.2.2⟩))
              · refine am_W.cv 10 m_Mo_cell rfl rfl rfl rfl ⟨⟨⟨⟨⟨trivial, ok126⟩, oJ⟩, ok126⟩, oC⟩, ok126⟩ (by rw [eC, eJ, ej]; exact c_mcell (d + 2) L B1 B2 fi ai aj _ o _ hI ⟨ho.1, hoj⟩ w1) ?_
                rintro r1 h1 ⟨rfl, rfl⟩
                refine am_W.br rfl rfl ⟨trivial, ⟨by omega, by omega⟩, ⟨by omega, by omega⟩⟩ (fun c17 => ?_) (fun c17 => ?_)
                · exact am_W.gp 198 rfl trivial (h198 0 _ _ (Or.inr ⟨rfl, fun z => (hm2.mp z.2.2).2.1 c17⟩))
                · have hgv : gvs (DM fi ai) x row := ⟨ht, n1, a1, a2, fun z => absurd (k3 c10) z⟩
                  have hk : mks (DM fi ai) x row o := ⟨hgv, by rw [← bnR_y hgv]; exact c3, hm2.mpr ⟨⟨ho.1, hoj⟩, c17, c15, htj, by omega⟩⟩
                  exact am_W.gp 198 rfl trivial (h198 1 _ _ (Or.inl ⟨rfl, hk⟩))
      · exact h42 _ _ _ (fun z => bnR_n c3 z.2.1)
    · refine am_W.br rfl rfl ⟨trivial, ⟨by omega, by omega⟩⟩ (fun c2 => ?_) (fun c2 => absurd rfl c2)
      exact h42 _ _ _ (fun z => n1 z.1.2.1)
