-- the reference's row
theorem DI_row {n : Int} {c r t f g : Int → Int} {x : Int} (hI : DI (n, c, r, t, f)) (hx : 0 ≤ x ∧ x < n) (hy : r x < 16) (hg : ∀ j, 0 ≤ j → j < 256 → -1 ≤ g j ∧ g j ≤ 9999) : DI (n, c, up r x (r x + 1), up t (x * 16 + r x) 1, g) := by
  obtain ⟨i0, i1, i2, i3, i4, i5, i6⟩ := hI
  have hn : 0 ≤ n ∧ n ≤ 4 := i0
  have hr : 0 ≤ r x ∧ r x ≤ 16 := i2 x (by omega) (by omega)
  refine ⟨i0, i1, ?_, ?_, hg, i5, ?_⟩
  · intro i p0 p1
    show 0 ≤ up r x (r x + 1) i ∧ up r x (r x + 1) i ≤ 16
    unfold up
    split
    · omega
    · exact i2 i p0 p1
  · intro i p0 p1
    show up t (x * 16 + r x) 1 i = 0 ∨ up t (x * 16 + r x) 1 i = 1
    unfold up
    split
    · exact Or.inr rfl
    · exact i3 i p0 p1
  · intro i p0 p1
    show up r x (r x + 1) i = 0
    have p2 : n ≤ i := p0
    rw [up_n _ _ (by omega)]
    exact i6 i p0 p1
def mrQ (L B1 B2 : Nat) (fi : Nat → Nat → Int) (ai aj : Nat → Int → Int) (ms : List MT) (x k a b c e : Int) : Option am_V → am_H → Prop := fun v h' => (¬ rwK k a b c e ∧ v = some (.inl (-1)) ∧ h' = HH L B1 B2 fi ai aj) ∨ (rwK k a b c e ∧ 16 ≤ ai 128 x ∧ v = some (.inl (-2)) ∧ h' = HH L B1 B2 fi ai aj) ∨ (rwK k a b c e ∧ ai 128 x < 16 ∧ v = some (.inl (ai 128 x)) ∧ ∃ g f' a', rwP (ai 129) g x (ai 128 x) k a b c e ∧ h' = HH L B1 B2 f' a' aj ∧ GJ (DM fi (rwH ai 128 130 129 g x (ai 128 x))) ms fi f' (rwH ai 128 130 129 g x (ai 128 x)) a' (aW (DM fi (rwH ai 128 130 129 g x (ai 128 x))) ms 0))
def gdR (a b c e z : Int) : Prop := ∀ i, 0 ≤ i → i < z → rwV a b c e i ≤ 9999
theorem gdR_s {a b c e z : Int} (h0 : 0 ≤ z) : gdR a b c e (z + 1) ↔ gdR a b c e z ∧ rwV a b c e z ≤ 9999 := by
  constructor
  · intro h
    exact ⟨fun i i0 i1 => h i i0 (by omega), h z h0 (by omega)⟩
  · rintro ⟨h1, h2⟩ i i0 i1
    by_cases hz : i = z
    · rw [hz]
      exact h2
    · exact h1 i i0 (by omega)
theorem gdR_K {a b c e k : Int} (hk : 1 ≤ k ∧ k ≤ 4) : gdR a b c e k ↔ rwK k a b c e := by
  constructor
  · intro h
    have q0 : rwV a b c e 0 ≤ 9999 := h 0 (by omega) (by omega)
    refine ⟨by omega, q0, fun q => ?_, fun q => ?_, fun q => ?_⟩
    · exact h 1 (by omega) (by omega)
    · exact h 2 (by omega) (by omega)
    · exact h 3 (by omega) (by omega)
  · rintro ⟨-, h0, h1, h2, h3⟩ i i0 i1
    have hi : i = 0 ∨ i = 1 ∨ i = 2 ∨ i = 3 := by omega
    rcases hi with q | q | q | q
    · subst q
      exact h0
    · subst q
      exact h1 (by omega)
    · subst q
      exact h2 (by omega)
    · subst q
      exact h3 (by omega)
theorem rwV_R {a b c e z : Int} (ha : am_R a) (hb : am_R b) (hc : am_R c) (he : am_R e) : am_R (rwV a b c e z) := by
  unfold rwV
  split
  · exact ha
  · split
    · exact hb
    · split
      · exact hc
      · exact he
set_option maxHeartbeats 400000 in
set_option maxRecDepth 100000 in
theorem l_row1 (d L B1 B2 : Nat) (fi : Nat → Nat → Int) (ai aj : Nat → Int → Int) (x a b c e k : Int) (ha : am_R a) (hb : am_R b) (hc : am_R c) (he : am_R e) (hx : 0 ≤ x ∧ x < 4) (hk : 0 ≤ k ∧ k ≤ 4) (e127 : ai 127 x = k) (Q : Option am_V → am_H → Prop) (w : ∀ (gd z : Int), (gd = 1 ∧ gdR a b c e k) ∨ (gd = 0 ∧ ¬ gdR a b c e k) → am_W (am_ev am_prog d) T_Mo_row Q (89, [some (.inr (.inr 126)), some (.inl x), some (.inl a), some (.inl b), some (.inl c), some (.inl e), some (.inl gd), some (.inl z), none, none], [], HH L B1 B2 fi ai aj)) : ∀ (n : Nat) (z gd : Int), 0 ≤ z → z + n = k → (gd = 1 ∧ gdR a b c e z) ∨ (gd = 0 ∧ ¬ gdR a b c e z) → am_W (am_ev am_prog d) T_Mo_row Q (22, [some (.inr (.inr 126)), some (.inl x), some (.inl a), some (.inl b), some (.inl c), some (.inl e), some (.inl gd), some (.inl z), none, none], [], HH L B1 B2 fi ai aj) := by
  have ok126 : am_ok (HH L B1 B2 fi ai aj) 126 10 := okI rfl rfl rfl
  have oC : am_okr (HH L B1 B2 fi ai aj) (am_fr (HH L B1 B2 fi ai aj) 55 126) 1000 x := okrI rfl rfl (t := 1000) (N := 4) rfl rfl (by omega) (by omega)
  have eC : am_ai (HH L B1 B2 fi ai aj) (am_fr (HH L B1 B2 fi ai aj) 55 126) x = k := e127
  intro n
  induction n with
  | zero =>
    intro z gd h0 hn hg
    refine am_W.br rfl rfl ⟨⟨⟨trivial, ok126⟩, oC⟩, ⟨by omega, by omega⟩, by rw [eC]; exact ⟨by omega, by omega⟩⟩ (fun q => ?_) (fun q => absurd (by rw [eC]; omega) q)
    have hz : z = k := by omega
    subst hz
    exact w gd z hg
  | succ n ih =>
    intro z gd h0 hn hg
    have hno : (¬ gdR a b c e (z + 1)) → am_W (am_ev am_prog d) T_Mo_row Q (80, [some (.inr (.inr 126)), some (.inl x), some (.inl a), some (.inl b), some (.inl c), some (.inl e), some (.inl gd), some (.inl z), none, none], [], HH L B1 B2 fi ai aj) := fun h => am_W.gp 22 rfl trivial (ih (z + 1) 0 (by omega) (by omega) (Or.inr ⟨rfl, h⟩))
    refine am_W.br rfl rfl ⟨⟨⟨trivial, ok126⟩, oC⟩, ⟨by omega, by omega⟩, by rw [eC]; exact ⟨by omega, by omega⟩⟩ (fun q => absurd q (by rw [eC]; omega)) (fun q => ?_)
    rcases hg with ⟨g1, g2⟩ | ⟨g1, g2⟩
    · subst g1
      refine am_W.br rfl rfl ⟨trivial, ⟨by omega, by omega⟩⟩ (fun z => absurd z (by decide)) (fun z1 => ?_)
      have h70 : am_W (am_ev am_prog d) T_Mo_row Q (70, [some (.inr (.inr 126)), some (.inl x), some (.inl a), some (.inl b), some (.inl c), some (.inl e), some (.inl 1), some (.inl z), none, none], [.inl (rwV a b c e z)], HH L B1 B2 fi ai aj) := by
        have hv := rwV_R (z := z) ha hb hc he
        refine am_W.br rfl rfl ⟨trivial, hv, ⟨by omega, by omega⟩⟩ (fun z2 => ?_) (fun z2 => ?_)
        · exact hno (fun p => by have := ((gdR_s h0).mp p).2; omega)
        · exact am_W.gp 22 rfl trivial (ih (z + 1) 1 (by omega) (by omega) (Or.inl ⟨rfl, (gdR_s h0).mpr ⟨g2, by omega⟩⟩))
      have hz : z = 0 ∨ z = 1 ∨ z = 2 ∨ z = 3 := by omega
      rcases hz with p | p | p | p
      · subst p
        refine am_W.br rfl rfl ⟨trivial, ⟨by omega, by omega⟩⟩ (fun z => absurd rfl z) (fun z => ?_)
        exact am_W.gp 70 rfl trivial h70
      · subst p
        refine am_W.br rfl rfl ⟨trivial, ⟨by omega, by omega⟩⟩ (fun z => ?_) (fun z => absurd (by decide) z)
        refine am_W.br rfl rfl ⟨trivial, ⟨by omega, by omega⟩, ⟨by omega, by omega⟩⟩ (fun z => absurd rfl z) (fun z => ?_)
        exact am_W.gp 70 rfl trivial h70
      · subst p
        refine am_W.br rfl rfl ⟨trivial, ⟨by omega, by omega⟩⟩ (fun z => ?_) (fun z => absurd (by decide) z)
        refine am_W.br rfl rfl ⟨trivial, ⟨by omega, by omega⟩, ⟨by omega, by omega⟩⟩ (fun z => ?_) (fun z => absurd (by decide) z)
        refine am_W.br rfl rfl ⟨trivial, ⟨by omega, by omega⟩, ⟨by omega, by omega⟩⟩ (fun z => absurd rfl z) (fun z => ?_)
        exact am_W.gp 70 rfl trivial h70
      · subst p
        refine am_W.br rfl rfl ⟨trivial, ⟨by omega, by omega⟩⟩ (fun z => ?_) (fun z => absurd (by decide) z)
        refine am_W.br rfl rfl ⟨trivial, ⟨by omega, by omega⟩, ⟨by omega, by omega⟩⟩ (fun z => ?_) (fun z => absurd (by decide) z)
        refine am_W.br rfl rfl ⟨trivial, ⟨by omega, by omega⟩, ⟨by omega, by omega⟩⟩ (fun z => ?_) (fun z => absurd (by decide) z)
        exact am_W.gp 70 rfl trivial h70
    · subst g1
      refine am_W.br rfl rfl ⟨trivial, ⟨by omega, by omega⟩⟩ (fun z => ?_) (fun z => absurd rfl z)
      exact hno (fun p => g2 ((gdR_s h0).mp p).1)
def gI (f g : Int → Int) (B k a b c e z : Int) : Prop := (∀ i, 0 ≤ i → i < z → i < k → g (B + i) = nn (rwV a b c e i)) ∧ (∀ j, j < B ∨ B + 4 ≤ j → g j = f j) ∧ (∀ j, 0 ≤ j → j < 256 → -1 ≤ g j ∧ g j ≤ 9999)
theorem gI_s {f g : Int → Int} {B k a b c e z v : Int} (hz : 0 ≤ z ∧ z < 4) (h : gI f g B k a b c e z) (hv : z < k → v = nn (rwV a b c e z)) (hr : -1 ≤ v ∧ v ≤ 9999) : gI f (up g (B + z) v) B k a b c e (z + 1) := by
  refine ⟨fun i i0 i1 i2 => ?_, fun j hj => ?_, fun j j0 j1 => ?_⟩
  · by_cases q : i = z
    · subst q
      rw [up_s]
      exact hv i2
    · rw [up_n _ _ (by omega)]
      exact h.1 i i0 (by omega) i2
  · rw [up_n _ _ (by omega)]
    exact h.2.1 j hj
  · unfold up
    split
    · exact hr
    · exact h.2.2 j j0 j1
set_option maxHeartbeats 400000 in
set_option maxRecDepth 100000 in
theorem l_row2 (d L B1 B2 : Nat) (fi : Nat → Nat → Int) (ai aj : Nat → Int → Int) (x y a b c e k B : Int) (ha : am_R a) (hb : am_R b) (hc : am_R c) (he : am_R e) (hx : 0 ≤ x ∧ x < 4) (hy : 0 ≤ y ∧ y < 16) (hk : 0 ≤ k ∧ k ≤ 4) (hB : B = (x * 16 + y) * 4) (hG : rwK k a b c e) (e127 : ai 127 x = k) (l6 : Option am_V) (Q : Option am_V → am_H → Prop) (w : ∀ (g : Int → Int) (l8 l9 : Option am_V), gI (ai 129) g B k a b c e 4 → am_W (am_ev am_prog d) T_Mo_row Q (206, [some (.inr (.inr 126)), some (.inl x), some (.inl a), some (.inl b), some (.inl c), some (.inl e), l6, some (.inl (16 * x + y)), l8, l9], [], HH L B1 B2 fi (am_sa ai 129 g) aj)) : ∀ (n : Nat) (z : Int) (g : Int → Int) (l9 : Option am_V), 0 ≤ z → z + n = 4 → gI (ai 129) g B k a b c e z → am_W (am_ev am_prog d) T_Mo_row Q (126, [some (.inr (.inr 126)), some (.inl x), some (.inl a), some (.inl b), some (.inl c), some (.inl e), l6, some (.inl (16 * x + y)), some (.inl z), l9], [], HH L B1 B2 fi (am_sa ai 129 g) aj) := by
  intro n
  induction n with
  | zero =>
    intro z g l9 h0 hn hg
    refine am_W.br rfl rfl ⟨trivial, ⟨by omega, by omega⟩, ⟨by omega, by omega⟩⟩ (fun q => ?_) (fun q => absurd (by omega) q)
    have hz : z = 4 := by omega
    subst hz
    exact w g _ _ hg
  | succ n ih =>
    intro z g l9 h0 hn hg
    have ok126 : am_ok (HH L B1 B2 fi (am_sa ai 129 g) aj) 126 10 := okI rfl rfl rfl
    have oC : am_okr (HH L B1 B2 fi (am_sa ai 129 g) aj) (am_fr (HH L B1 B2 fi (am_sa ai 129 g) aj) 55 126) 1000 x := okrI rfl rfl (t := 1000) (N := 4) rfl rfl (by omega) (by omega)
    have eC : am_ai (HH L B1 B2 fi (am_sa ai 129 g) aj) (am_fr (HH L B1 B2 fi (am_sa ai 129 g) aj) 55 126) x = k := e127
    refine am_W.br rfl rfl ⟨trivial, ⟨by omega, by omega⟩, ⟨by omega, by omega⟩⟩ (fun q => absurd q (by omega)) (fun q => ?_)
    have hrv := rwV_R (z := z) ha hb hc he
    have hgd := (gdR_K (a := a) (b := b) (c := c) (e := e) (k := k) ⟨by have := hG.1; omega, hk.2⟩).mpr hG
    have h164 : am_W (am_ev am_prog d) T_Mo_row Q (164, [some (.inr (.inr 126)), some (.inl x), some (.inl a), some (.inl b), some (.inl c), some (.inl e), l6, some (.inl (16 * x + y)), some (.inl z), l9], [.inl (rwV a b c e z)], HH L B1 B2 fi (am_sa ai 129 g) aj) := by
      generalize hve : rwV a b c e z = v at hrv
      have h199 : ∀ u, (z < k → u = nn (rwV a b c e z)) → (-1 ≤ u ∧ u ≤ 9999) → am_W (am_ev am_prog d) T_Mo_row Q (199, [some (.inr (.inr 126)), some (.inl x), some (.inl a), some (.inl b), some (.inl c), some (.inl e), l6, some (.inl (16 * x + y)), some (.inl z), some (.inl v)], [.inl u, .inl (4 * (16 * x + y) + z), .inr (.inr 129)], HH L B1 B2 fi (am_sa ai 129 g) aj) := by
        intro u hu hur
        refine am_W.gp 126 rfl ⟨trivial, okaI rfl rfl (t := 1000) (N := 256) rfl rfl (by omega) (by omega)⟩ ?_
        simp only [HS, u2sa]
        have hI2 := ih (z + 1) (up g (B + z) u) (some (.inl v)) (by omega) (by omega) (gI_s ⟨h0, by omega⟩ hg hu hur)
        rw [show B + z = 4 * (16 * x + y) + z by omega] at hI2
        exact hI2
      have h193 : (¬ z < k ∨ v < 0) → am_W (am_ev am_prog d) T_Mo_row Q (193, [some (.inr (.inr 126)), some (.inl x), some (.inl a), some (.inl b), some (.inl c), some (.inl e), l6, some (.inl (16 * x + y)), some (.inl z), some (.inl v)], [.inl (4 * (16 * x + y) + z), .inr (.inr 129)], HH L B1 B2 fi (am_sa ai 129 g) aj) := by
        intro hh
        refine am_W.gp 199 rfl trivial (h199 (-1) (fun q => ?_) ⟨by omega, by omega⟩)
        rw [hve]
        unfold nn
        rw [if_pos (by omega)]
      refine am_W.br rfl rfl ⟨⟨trivial, ok126⟩, hrv⟩ (fun z1 => h193 (Or.inr z1)) (fun z1 => ?_)
      refine am_W.br rfl rfl ⟨⟨⟨trivial, ok126⟩, oC⟩, ⟨by omega, by omega⟩, by rw [eC]; exact ⟨by omega, by omega⟩⟩ (fun z2 => ?_) (fun z2 => ?_)
      · rw [eC] at z2
        refine am_W.gp 199 rfl trivial (h199 v (fun q => ?_) ⟨by omega, ?_⟩)
        · rw [hve]
          unfold nn
          rw [if_neg (by omega)]
        · have := hgd z h0 z2
          omega
      · rw [eC] at z2
        exact h193 (Or.inl (by omega))
    have hz : z = 0 ∨ z = 1 ∨ z = 2 ∨ z = 3 := by omega
    rcases hz with p | p | p | p
    · subst p
      refine am_W.br rfl rfl ⟨trivial, ⟨by omega, by omega⟩⟩ (fun z => absurd rfl z) (fun z => ?_)
      exact am_W.gp 164 rfl trivial h164
    · subst p
      refine am_W.br rfl rfl ⟨trivial, ⟨by omega, by omega⟩⟩ (fun z => ?_) (fun z => absurd (by decide) z)
      refine am_W.br rfl rfl ⟨trivial, ⟨by omega, by omega⟩, ⟨by omega, by omega⟩⟩ (fun z => absurd rfl z) (fun z => ?_)
      exact am_W.gp 164 rfl trivial h164
    · subst p
      refine am_W.br rfl rfl ⟨trivial, ⟨by omega, by omega⟩⟩ (fun z => ?_) (fun z => absurd (by decide) z)
      refine am_W.br rfl rfl ⟨trivial, ⟨by omega, by omega⟩, ⟨by omega, by omega⟩⟩ (fun z => ?_) (fun z => absurd (by decide) z)
      refine am_W.br rfl rfl ⟨trivial, ⟨by omega, by omega⟩, ⟨by omega, by omega⟩⟩ (fun z => absurd rfl z) (fun z => ?_)
      exact am_W.gp 164 rfl trivial h164
    · subst p
      refine am_W.br rfl rfl ⟨trivial, ⟨by omega, by omega⟩⟩ (fun z => ?_) (fun z => absurd (by decide) z)
      refine am_W.br rfl rfl ⟨trivial, ⟨by omega, by omega⟩, ⟨by omega, by omega⟩⟩ (fun z => ?_) (fun z => absurd (by decide) z)
      refine am_W.br rfl rfl ⟨trivial, ⟨by omega, by omega⟩, ⟨by omega, by omega⟩⟩ (fun z => ?_) (fun z => absurd (by decide) z)
      exact am_W.gp 164 rfl trivial h164
set_option maxHeartbeats 400000 in
set_option maxRecDepth 100000 in
theorem c_Mo_row (d L B1 B2 : Nat) (fi : Nat → Nat → Int) (ai aj : Nat → Int → Int) (ms : List MT) (x a b c e : Int) (hx : am_R x) (ha : am_R a) (hb : am_R b) (hc : am_R c) (he : am_R e) (hI : DI (DM fi ai)) (h6 : ms.length ≤ 6) (h61 : fi 61 126 = (ms.length : Int)) (hr : ∀ (i : Nat) (x : MT), ms[i]? = some x → RefB ai (i : Int) x) (hw : ∀ x ∈ ms, wfM (DM fi ai) x) : am_M am_prog (d + 6) m_Mo_row [.inr (.inr 126), .inl x, .inl a, .inl b, .inl c, .inl e] (HH L B1 B2 fi ai aj) (mrQ L B1 B2 fi ai aj ms x (co (DM fi ai) x) a b c e) := by
  have ok126 : am_ok (HH L B1 B2 fi ai aj) 126 10 := okI rfl rfl rfl
  have hn4 : 0 ≤ fi 54 126 ∧ fi 54 126 ≤ 4 := hI.1
  have e54 : am_fi (HH L B1 B2 fi ai aj) 54 126 = fi 54 126 := rfl
  have hco := co_in x hI
  refine am_W.of rfl rfl ?_
  refine am_W.cs rfl rfl rfl ⟨trivial, ok126⟩ (c_Mo_in (d + 4) x 0 (fi 54 126 - 1) _ hx ⟨by omega, by omega⟩ ⟨by omega, by omega⟩) ?_
  rintro r1 h1 ⟨rfl, rfl⟩
  by_cases h1 : 0 ≤ x ∧ x < fi 54 126
  · rw [if_pos (by omega)]
    have ek : co (DM fi ai) x = ai 127 x := co_v (D := DM fi ai) h1
    have er : ro (DM fi ai) x = ai 128 x := ro_v (D := DM fi ai) h1
    have hro := ro_in x hI
    have h1k : 1 ≤ co (DM fi ai) x := by
      rw [ek]
      exact hI.2.2.2.2.2.1 x h1.1 h1.2
    generalize hke : co (DM fi ai) x = k at hco ek h1k
    refine am_W.br rfl rfl ⟨trivial, ⟨by omega, by omega⟩⟩ (fun z => ?_) (fun z => absurd (by decide) z)
    refine am_W.gp 22 rfl trivial ?_
    refine l_row1 (d + 5) L B1 B2 fi ai aj x a b c e k ha hb hc he ⟨by omega, by omega⟩ ⟨by omega, by omega⟩ ek.symm _ ?_ k.toNat 0 1 (by omega) (by omega) (Or.inl ⟨rfl, fun i i0 i1 => absurd i1 (by omega)⟩)
    rintro gd z (⟨g1, g2⟩ | ⟨g1, g2⟩)
    · subst g1
      have hK := (gdR_K ⟨h1k, hco.2.1⟩).mp g2
      refine am_W.br rfl rfl ⟨trivial, ⟨by omega, by omega⟩⟩ (fun z => ?_) (fun z => absurd (by decide) z)
      have oR : am_okr (HH L B1 B2 fi ai aj) (am_fr (HH L B1 B2 fi ai aj) 56 126) 1000 x := okrI rfl rfl (t := 1000) (N := 4) rfl rfl (by omega) (by omega)
      have eR : am_ai (HH L B1 B2 fi ai aj) (am_fr (HH L B1 B2 fi ai aj) 56 126) x = ai 128 x := rfl
      by_cases h2 : ai 128 x = 16
      · refine am_W.br rfl rfl ⟨⟨⟨trivial, ok126⟩, oR⟩, by rw [eR]; exact ⟨by omega, by omega⟩, ⟨by omega, by omega⟩⟩ (fun z => absurd h2 z) (fun z => ?_)
        exact am_W.rt rfl rfl ⟨trivial, trivial⟩ (Or.inr (Or.inl ⟨hK, by omega, rfl, rfl⟩))
      · refine am_W.br rfl rfl ⟨⟨⟨trivial, ok126⟩, oR⟩, by rw [eR]; exact ⟨by omega, by omega⟩, ⟨by omega, by omega⟩⟩ (fun z => ?_) (fun z => absurd h2 z)
        have hy : 0 ≤ ai 128 x ∧ ai 128 x < 16 := ⟨by omega, by omega⟩
        refine am_W.gp 126 rfl ⟨⟨trivial, ok126⟩, oR⟩ ?_
        have hcell : ∀ j, 0 ≤ j → j < 256 → -1 ≤ ai 129 j ∧ ai 129 j ≤ 9999 := hI.2.2.2.2.1
        have hl := fun Q w => l_row2 (d + 5) L B1 B2 fi ai aj x (ai 128 x) a b c e k ((x * 16 + ai 128 x) * 4) ha hb hc he ⟨by omega, by omega⟩ hy ⟨by omega, by omega⟩ rfl hK ek.symm (some (.inl 1)) Q w 4 0 (ai 129) none (by omega) (by omega) ⟨fun i i0 i1 => absurd i1 (by omega), fun _ _ => rfl, hcell⟩
        rw [sa_id] at hl
        refine hl _ ?_
        intro g l8 l9 hg
        have hP : rwP (ai 129) g x (ai 128 x) k a b c e := ⟨fun z z0 z1 => hg.1 z z0 (by omega) z1, hg.2.1, hg.2.2⟩
        refine am_W.gp 225 rfl (by and_intros <;> first | trivial | exact okI rfl rfl rfl | (refine okrI rfl rfl rfl rfl ?_ ?_ <;> (first | omega | (simp only [HS, FRS, CCS, am_R] at *; omega))) | (refine okaI rfl rfl rfl rfl ?_ ?_ <;> (first | omega | (simp only [HS, FRS, CCS, am_R] at *; omega))) | (first | omega | (simp only [HS, FRS, CCS, am_R] at *; omega)) | (simp only [HS, FRS, CCS])) ?_
        simp only [HS, FRS]
        have eA : am_u2 (am_u2 (am_sa ai 129 g) 130 (16 * x + ai 128 x) 1) 128 x (am_u2 (am_sa ai 129 g) 130 (16 * x + ai 128 x) 1 128 x + 1) = rwH ai 128 130 129 g x (ai 128 x) := by
          have e1 : am_u2 (am_sa ai 129 g) 130 (16 * x + ai 128 x) 1 128 x = ai 128 x := rfl
          rw [e1, show 16 * x + ai 128 x = x * 16 + ai 128 x by omega, u2_sa, u2_sa]
          funext p
          unfold rwH am_sa
          by_cases p1 : p = 128
          · subst p1
            rfl
          · by_cases p2 : p = 130
            · subst p2
              rfl
            · by_cases p3 : p = 129
              · subst p3
                rfl
              · simp only [if_neg p1, if_neg p2, if_neg p3]
        rw [eA]
        have hD := DI_row (n := fi 54 126) (c := ai 127) (r := ai 128) (t := ai 130) (f := ai 129) (g := g) hI h1 hy.2 hg.2.2
        refine am_W.cv 10 m_Mo_give rfl rfl rfl rfl ⟨trivial, okI rfl rfl rfl⟩ (c_give d L B1 B2 fi (rwH ai 128 130 129 g x (ai 128 x)) aj (DM fi (rwH ai 128 130 129 g x (ai 128 x))) ms rfl hD h6 h61 hr hw) ?_
        rintro v2 h2 ⟨rfl, f', a', rfl, hJ⟩
        have e2 : a' 128 x = ai 128 x + 1 := by
          rw [hJ.1.2.1 128 (by omega)]
          show up (ai 128) x (ai 128 x + 1) x = _
          rw [up_s]
        have eR2 : am_ai (HH L B1 B2 f' a' aj) (am_fr (HH L B1 B2 f' a' aj) 56 126) x = ai 128 x + 1 := e2
        refine am_W.rt rfl rfl ⟨⟨⟨trivial, okI rfl rfl rfl⟩, okrI rfl rfl (t := 1000) (N := 4) rfl rfl (by omega) (by omega)⟩, trivial⟩ (Or.inr (Or.inr ⟨hK, by omega, ?_, g, f', a', hP, rfl, hJ⟩))
        rw [eR2, Int.add_sub_cancel]
    · subst g1
      refine am_W.br rfl rfl ⟨trivial, ⟨by omega, by omega⟩⟩ (fun z => absurd rfl z) (fun z => ?_)
      exact am_W.rt rfl rfl ⟨trivial, trivial⟩ (Or.inl ⟨fun q => g2 ((gdR_K ⟨h1k, hco.2.1⟩).mpr q), rfl, rfl⟩)
  · rw [if_neg (by omega)]
    have e0 : co (DM fi ai) x = 0 := if_pos (by show x < 0 ∨ fi 54 126 ≤ x; omega)
    refine am_W.br rfl rfl ⟨trivial, ⟨by omega, by omega⟩⟩ (fun z => absurd rfl z) (fun z => ?_)
    exact am_W.rt rfl rfl ⟨trivial, trivial⟩ (Or.inl ⟨fun q => q.1 e0, rfl, rfl⟩)
