-- the reference's reader: mappings
def RefM (S K C N P J H T G Si SC SN : Int → Int) (m : Int) (x : MT) : Prop := S m = x.1 ∧ RepQ K C N P (3 * m) x.2.1 ∧ RepQ K C N P (3 * m + 1) x.2.2.1 ∧ RepQ K C N P (3 * m + 2) x.2.2.2.1 ∧ J m = x.2.2.2.2.1.1 ∧ (x.2.2.2.2.1.1 ≠ -1 → H m = x.2.2.2.2.1.2.1 ∧ T m = x.2.2.2.2.1.2.2) ∧ Si m = sg x.2.2.2.2.2.1.1 ∧ (x.2.2.2.2.2.1.1 ≠ -1 → SC m = x.2.2.2.2.2.1.2.1) ∧ (x.2.2.2.2.2.1.1 ≠ -1 → x.2.2.2.2.2.1.1 ≠ 1853189228 → SN m = x.2.2.2.2.2.1.2.2) ∧ G m = x.2.2.2.2.2.2
abbrev RefA (a : Nat → Int → Int) (m : Int) (x : MT) : Prop := RefM (a 144) (a 145) (a 146) (a 147) (a 148) (a 149) (a 150) (a 151) (a 152) (a 153) (a 154) (a 155) m x
theorem RepQ.fr {K C N P K' C' N' P' : Int → Int} {n : Int} {x : PT} (h : RepQ K C N P n x) (h1 : K' n = K n) (h2 : C' n = C n) (h3 : N' n = N n) (h4 : ∀ k, 30 * n ≤ k → k < 30 * n + 30 → P' k = P k) (hl : x.1 = 0 → x.2.2.length ≤ 30) : RepQ K' C' N' P' n x := by
  obtain ⟨a1, a2, a3⟩ := h
  refine ⟨h1.trans a1, fun q => h2.trans (a2 q), fun q => ⟨h3.trans (a3 q).1, fun i hi => ?_⟩⟩
  have := hl q
  rw [h4 _ (by omega) (by omega)]
  exact (a3 q).2 i hi
def FM4 (fi fi' : Nat → Nat → Int) : Prop := ∀ j b, (b ≠ 126 ∨ (j ≠ 74 ∧ (j < 87 ∨ 93 < j))) → fi' j b = fi j b
theorem FM.m4 {fi fi' : Nat → Nat → Int} (h : FM fi fi') : FM4 fi fi' := fun j b q => h j b (by omega)
theorem FM4.tr {f1 f2 f3 : Nat → Nat → Int} (h1 : FM4 f1 f2) (h2 : FM4 f2 f3) : FM4 f1 f3 := fun j b q => (h2 j b q).trans (h1 j b q)
theorem FM4_u {fi : Nat → Nat → Int} {x : Int} : FM4 fi (am_u2 fi 74 126 x) := fun j b q => by
  rw [am_u2_e]
  split
  · next h2 =>
    subst h2
    rw [if_neg (by omega)]
  · rfl
theorem pcs_len {t : Int → Int} {m : Int} : ∀ (k : Nat) (b : Int) (l : List Int) (x : List Int × Int), l.length + k = 30 → pcs t m k b l = .inr x → x.1.length ≤ 30
  | 0, b, l, x, hk, h => by
    unfold pcs at h
    split at h
    · cases h
      show l.length ≤ 30
      omega
    · split at h <;> cases h
  | k + 1, b, l, x, hk, h => by
    unfold pcs at h
    split at h
    · cases h
      show l.length ≤ 30
      omega
    · split at h
      · cases h
      · cases hp : pPc t m b with
        | inl e =>
          rw [hp] at h
          cases h
        | inr y =>
          rw [hp, pb_r] at h
          exact pcs_len k y.2 (l ++ [y.1]) x (by rw [List.length_append, List.length_singleton]; omega) h
theorem pName_len {t : Int → Int} {m : Int} {σ : Tk} {x : PT × Int} (h : pName t m σ = .inr x) : x.1.2.2.length ≤ 30 := by
  unfold pName at h
  split at h
  · cases hp : pcs t m 30 σ.2.2.2 [] with
    | inl e =>
      rw [hp] at h
      cases h
    | inr y =>
      rw [hp, pb_r] at h
      cases h
      exact pcs_len 30 _ [] y rfl hp
  · split at h
    · cases hp : pNum t m σ.2.2.2 with
      | inl e =>
        rw [hp] at h
        cases h
      | inr y =>
        rw [hp, pb_r] at h
        cases h
        exact Nat.zero_le _
    · cases h
def MM (L B1 B2 : Nat) (aj : Nat → Int → Int) (fi : Nat → Nat → Int) (ai : Nat → Int → Int) (m : Int) (R : Int ⊕ (MT × Tk)) : am_H → Prop := fun h' => ∃ fi' ai', h' = HH L B1 B2 fi' ai' aj ∧ FM4 fi fi' ∧ FO m ai ai' ∧ (match R with
  | .inl e => FL fi' e
  | .inr x => fi' 91 126 = 0 ∧ LM fi' ai' ∧ RefA ai' m x.1 ∧ TM fi' x.2 ∧ fi' 74 126 = m + 1)
set_option maxHeartbeats 400000 in
set_option maxRecDepth 100000 in
theorem c_mmapping (d L B1 B2 : Nat) (fi : Nat → Nat → Int) (ai aj : Nat → Int → Int) (m : Int) (σ : Tk) (t : Int → Int) (hm : 0 ≤ m ∧ m < 6) (h74 : fi 74 126 = m) (h91 : fi 91 126 = 0) (hL : LM fi ai) (hT : TM fi σ) (et : tx (fi 60 126) (ai 131) = t) (hI : DI (DM fi ai)) (hσ : σ.2.1 = 7168368) : am_M am_prog (d + 6) m_Mo_mapping [.inr (.inr 126)] (HH L B1 B2 fi ai aj) (fun w h' => w = none ∧ MM L B1 B2 aj fi ai m (pMap t (DM fi ai) σ.2.2.2) h') := by
  have fl91 := h91
  have fl87 := h74
  obtain ⟨l1, l2, l3, l4, l5⟩ := id hL
  have hRmap : (fi 87 126 = 1 ∧ fi 88 126 = 0) ↔ σ.2.1 = 7168368 := hT.2.2.1.2.2.2.2.2.2.2.2.2.2.2.1
  have tb := hT.2.1
  have hn4 := hI.1
  simp only [] at hn4
  have h131 : ∀ {b : Nat → Int → Int}, FO m ai b → b 131 = ai 131 := fun h => h.1 131 (by omega)
  refine am_W.of rfl rfl ?_
  refine am_W.cv 10 m_Mo_isWord rfl rfl rfl rfl (by and_intros <;> first | trivial | exact okI rfl rfl rfl | (refine okrI rfl rfl rfl rfl ?_ ?_ <;> (first | omega | (simp only [HS, FRS, CCS, am_R, fl91, fl87] at *; omega))) | (refine okaI rfl rfl rfl rfl ?_ ?_ <;> (first | omega | (simp only [HS, FRS, CCS, am_R, fl91, fl87] at *; omega))) | (first | omega | (simp only [HS, FRS, CCS, am_R, fl91, fl87] at *; omega)) | (simp only [HS, FRS, CCS, fl91, fl87])) (c_misWord (d + 4) L B1 B2 fi ai aj 0 (by and_intros <;> first | trivial | exact okI rfl rfl rfl | (refine okrI rfl rfl rfl rfl ?_ ?_ <;> (first | omega | (simp only [HS, FRS, CCS, am_R, fl91, fl87] at *; omega))) | (refine okaI rfl rfl rfl rfl ?_ ?_ <;> (first | omega | (simp only [HS, FRS, CCS, am_R, fl91, fl87] at *; omega))) | (first | omega | (simp only [HS, FRS, CCS, am_R, fl91, fl87] at *; omega)) | (simp only [HS, FRS, CCS, fl91, fl87])) (Or.inl h91) ⟨by omega, by omega⟩ ⟨by omega, by omega⟩) ?_
  rintro r1 h1 ⟨rfl, rfl⟩
  rw [show (if fi 91 126 = 0 ∧ fi 87 126 = 1 ∧ fi 88 126 = 0 then (1 : Int) else 0) = 1 from if_pos ⟨h91, hRmap.mpr hσ⟩]
  refine am_W.br rfl rfl (by and_intros <;> first | trivial | exact okI rfl rfl rfl | (refine okrI rfl rfl rfl rfl ?_ ?_ <;> (first | omega | (simp only [HS, FRS, CCS, am_R, fl91, fl87] at *; omega))) | (refine okaI rfl rfl rfl rfl ?_ ?_ <;> (first | omega | (simp only [HS, FRS, CCS, am_R, fl91, fl87] at *; omega))) | (first | omega | (simp only [HS, FRS, CCS, am_R, fl91, fl87] at *; omega)) | (simp only [HS, FRS, CCS, fl91, fl87])) (fun c1 => ?_) (fun c1 => absurd c1 (by decide))
  refine am_W.br rfl rfl (by and_intros <;> first | trivial | exact okI rfl rfl rfl | (refine okrI rfl rfl rfl rfl ?_ ?_ <;> (first | omega | (simp only [HS, FRS, CCS, am_R, fl91, fl87] at *; omega))) | (refine okaI rfl rfl rfl rfl ?_ ?_ <;> (first | omega | (simp only [HS, FRS, CCS, am_R, fl91, fl87] at *; omega))) | (first | omega | (simp only [HS, FRS, CCS, am_R, fl91, fl87] at *; omega)) | (simp only [HS, FRS, CCS, fl91, fl87])) (fun c2 => ?_) (fun c2 => absurd c2 (by simp only [HS, FRS, fl91, fl87]; omega))
  refine am_W.cv 10 m_Mo_next rfl rfl rfl rfl (by and_intros <;> first | trivial | exact okI rfl rfl rfl | (refine okrI rfl rfl rfl rfl ?_ ?_ <;> (first | omega | (simp only [HS, FRS, CCS, am_R, fl91, fl87] at *; omega))) | (refine okaI rfl rfl rfl rfl ?_ ?_ <;> (first | omega | (simp only [HS, FRS, CCS, am_R, fl91, fl87] at *; omega))) | (first | omega | (simp only [HS, FRS, CCS, am_R, fl91, fl87] at *; omega)) | (simp only [HS, FRS, CCS, fl91, fl87])) (c_mnx (d + 3) L B1 B2 fi ai aj t σ.2.2.2 hL et tb) ?_
  rintro r1 h1 ⟨rfl, f2, rfl, g1, g2, g3, g4⟩
  simp only [HS, FRS, fl91, fl87]
  have g91 : f2 91 126 = 0 := g2.trans h91
  have e54 : ∀ {f : Nat → Nat → Int}, FM fi f → f 54 126 = fi 54 126 := fun h => h 54 126 (by omega)
  have e60 : ∀ {f : Nat → Nat → Int}, FM fi f → f 60 126 = fi 60 126 := fun h => h 60 126 (by omega)
  refine am_W.cv 10 m_Mo_wantNumber rfl rfl rfl rfl (by and_intros <;> first | trivial | exact okI rfl rfl rfl | (refine okrI rfl rfl rfl rfl ?_ ?_ <;> (first | omega | (simp only [HS, FRS, CCS, am_R, fl91, fl87] at *; omega))) | (refine okaI rfl rfl rfl rfl ?_ ?_ <;> (first | omega | (simp only [HS, FRS, CCS, am_R, fl91, fl87] at *; omega))) | (first | omega | (simp only [HS, FRS, CCS, am_R, fl91, fl87] at *; omega)) | (simp only [HS, FRS, CCS, fl91, fl87])) (by rw [show am_gf (HH L B1 B2 f2 ai aj) 54 126 0 = .inl (f2 54 126) from rfl, e54 g1]; exact c_mwantNum (d + 2) L B1 B2 f2 ai aj (fi 54 126) _ t ⟨by omega, by omega⟩ g91 g3 g4 (by rw [e60 g1]; exact et)) ?_
  rintro r1 h1 ⟨s, rfl, f3, a3, rfl, k1, rfl, k3⟩
  have hF3 : FM fi f3 := g1.tr k1
  have hA3 : FO m a3 (am_u2 a3 144 m s) := FO_u (by omega)
  have hR : pMap t (DM fi a3) σ.2.2.2 = pb (qNum (fi 54 126) (lx t σ.2.2.2 0)) fun y => pb (pIs t 58 y.2.2.2) fun z => pb (pName t (co (DM fi a3) y.2.2.1) (lx t z.2.2.2 0)) fun p => pb (pIs t 34 p.2) fun q => pb (pcs t (co (DM fi a3) y.2.2.1) 30 q.2.2.2 []) fun l => pb (pObj t (DM fi a3) y.2.2.1 (co (DM fi a3) y.2.2.1) (lx t l.2 0)) fun o => pb (if o.2.2.2.1 = 26982 then pCond t (co (DM fi a3) y.2.2.1) o.2.2 else .inr ((-1, 0, 0), o.2.2)) fun c => pb (if c.2.2.1 = 26990 then pGra t c.2 else .inr (-1, c.2)) fun g => if g.2.2.1 = 46 then .inr ((y.2.2.1, p.1, (0, 0, l.1), o.1, o.2.1, c.1, g.1), lx t g.2.2.2.2 0) else .inl (-10 - g.2.1) := rfl
  rw [hR]
  clear hR
  generalize lx t σ.2.2.2 0 = y0 at *
  cases hq3 : qNum (fi 54 126) y0 with
  | inl e =>
    rw [hq3] at k3
    have fz := k3.1
    refine am_W.br rfl rfl ?_ (fun c3 => absurd c3 ?_) (fun c3 => ?_)
    · simp only [HS, FRS, CCS, am_R, fz]
      exact (by and_intros <;> first | trivial | exact okI rfl rfl rfl | (refine okrI rfl rfl rfl rfl ?_ ?_ <;> (first | omega | (simp only [HS, FRS, CCS, am_R, fl91, fl87] at *; omega))) | (refine okaI rfl rfl rfl rfl ?_ ?_ <;> (first | omega | (simp only [HS, FRS, CCS, am_R, fl91, fl87] at *; omega))) | (first | omega | (simp only [HS, FRS, CCS, am_R, fl91, fl87] at *; omega)) | (simp only [HS, FRS, CCS, fl91, fl87]))
    · simp only [HS, fz]
      decide
    · exact am_W.rt rfl rfl (by and_intros <;> first | trivial | exact okI rfl rfl rfl | (refine okrI rfl rfl rfl rfl ?_ ?_ <;> (first | omega | (simp only [HS, FRS, CCS, am_R, fl91, fl87] at *; omega))) | (refine okaI rfl rfl rfl rfl ?_ ?_ <;> (first | omega | (simp only [HS, FRS, CCS, am_R, fl91, fl87] at *; omega))) | (first | omega | (simp only [HS, FRS, CCS, am_R, fl91, fl87] at *; omega)) | (simp only [HS, FRS, CCS, fl91, fl87])) ⟨rfl, f3, am_u2 a3 144 m s, rfl, hF3.m4, hA3, k3⟩
  | inr y =>
    rw [hq3] at k3
    obtain ⟨k4, k5, k6, k7, k8⟩ := k3
    have hlt := (qNum_i hq3).2.2
    have ey := (qNum_i hq3).1
    subst ey
    rw [pb_r]
    have hL3 : LM f3 (am_u2 a3 144 m s) := LM_a (am_u2_131 (by decide)) k5
    have e144 : am_u2 a3 144 m s 144 m = s := u2s
    have eb3 : ∀ b, b ≠ 144 → am_u2 a3 144 m s b = a3 b := fun b hb => funext fun j => u2n hb
    refine am_W.br rfl rfl ?_ (fun c3 => ?_) (fun c3 => absurd ?_ c3)
    · simp only [HS, FRS, CCS, am_R, k4]
      exact (by and_intros <;> first | trivial | exact okI rfl rfl rfl | (refine okrI rfl rfl rfl rfl ?_ ?_ <;> (first | omega | (simp only [HS, FRS, CCS, am_R, fl91, fl87] at *; omega))) | (refine okaI rfl rfl rfl rfl ?_ ?_ <;> (first | omega | (simp only [HS, FRS, CCS, am_R, fl91, fl87] at *; omega))) | (first | omega | (simp only [HS, FRS, CCS, am_R, fl91, fl87] at *; omega)) | (simp only [HS, FRS, CCS, fl91, fl87]))
    · have hco : co (DM fi a3) y.2.2.1 = a3 127 s := by
        rw [k6]
        exact if_neg (by show ¬ (y.2.2.1 < 0 ∨ fi 54 126 ≤ y.2.2.1); omega)
      have hcr := co_in y.2.2.1 hI
      have hs4 : 0 ≤ s ∧ s < 4 := by omega
      refine am_W.gp 80 rfl ?_ ?_
      · simp only [HS, FRS, CCS, e144, eb3 127 (by decide)]
        exact (by and_intros <;> first | trivial | exact okI rfl rfl rfl | (refine okrI rfl rfl rfl rfl ?_ ?_ <;> (first | omega | (simp only [HS, FRS, CCS, am_R, fl91, fl87] at *; omega))) | (refine okaI rfl rfl rfl rfl ?_ ?_ <;> (first | omega | (simp only [HS, FRS, CCS, am_R, fl91, fl87] at *; omega))) | (first | omega | (simp only [HS, FRS, CCS, am_R, fl91, fl87] at *; omega)) | (simp only [HS, FRS, CCS, fl91, fl87]))
      have ek : am_ai (am_uai (HH L B1 B2 f3 a3 aj) (am_fr (HH L B1 B2 f2 a3 aj) 75 126) m s) (am_fr (am_uai (HH L B1 B2 f3 a3 aj) (am_fr (HH L B1 B2 f2 a3 aj) 75 126) m s) 55 126) (am_ai (am_uai (HH L B1 B2 f3 a3 aj) (am_fr (HH L B1 B2 f2 a3 aj) 75 126) m s) (am_fr (am_uai (HH L B1 B2 f3 a3 aj) (am_fr (HH L B1 B2 f2 a3 aj) 75 126) m s) 75 126) m) = co (DM fi a3) y.2.2.1 := by
        simp only [HS, FRS, e144, eb3 127 (by decide)]
        exact hco.symm
      rw [ek]
      simp only [HS, FRS, fl91, fl87]
      generalize hkk : co (DM fi a3) y.2.2.1 = k at *
      have hk4 : 0 ≤ k ∧ k ≤ 4 := by omega
      generalize am_u2 a3 144 m s = a4 at *
      clear ek
      have hDM : ∀ {f : Nat → Nat → Int} {a : Nat → Int → Int}, FM fi f → FO m a3 a → DM f a = DM fi a3 := by
        intro f a h1 h2
        unfold DM
        rw [e54 h1, h2.1 127 (by omega), h2.1 128 (by omega), h2.1 130 (by omega), h2.1 129 (by omega)]
      -- behind a fault
      have h156F : ∀ (R : Int ⊕ (MT × Tk)) (f : Nat → Nat → Int) (a : Nat → Int → Int) (e : Int), FM fi f → FO m a3 a → FL f e → R = .inl e → am_W (am_ev am_prog (d + 5)) T_Mo_mapping (fun w h' => w = none ∧ MM L B1 B2 aj fi a3 m R h') (156, [some (.inr (.inr 126)), some (.inl m), some (.inl k)], [], HH L B1 B2 f a aj) := by
        intro R f a e x1 x2 x3 x4
        refine am_W.cv 10 m_Mo_wantSign rfl rfl rfl rfl (by and_intros <;> first | trivial | exact okI rfl rfl rfl | (refine okrI rfl rfl rfl rfl ?_ ?_ <;> (first | omega | (simp only [HS, FRS, CCS, am_R, fl91, fl87] at *; omega))) | (refine okaI rfl rfl rfl rfl ?_ ?_ <;> (first | omega | (simp only [HS, FRS, CCS, am_R, fl91, fl87] at *; omega))) | (first | omega | (simp only [HS, FRS, CCS, am_R, fl91, fl87] at *; omega)) | (simp only [HS, FRS, CCS, fl91, fl87])) (c_mwantSignF (d + 4) L B1 B2 f a aj 46 x3.1) ?_
        rintro r1 h1 ⟨rfl, rfl⟩
        refine am_W.rt rfl rfl (by and_intros <;> first | trivial | exact okI rfl rfl rfl | (refine okrI rfl rfl rfl rfl ?_ ?_ <;> (first | omega | (simp only [HS, FRS, CCS, am_R, fl91, fl87] at *; omega))) | (refine okaI rfl rfl rfl rfl ?_ ?_ <;> (first | omega | (simp only [HS, FRS, CCS, am_R, fl91, fl87] at *; omega))) | (first | omega | (simp only [HS, FRS, CCS, am_R, fl91, fl87] at *; omega)) | (simp only [HS, FRS, CCS, fl91, fl87])) ⟨rfl, am_u2 f 74 126 (f 74 126 + 1), a, rfl, x1.m4.tr FM4_u, x2, ?_⟩
        rw [x4]
        exact x3
      have h125F : ∀ (R : Int ⊕ (MT × Tk)) (f : Nat → Nat → Int) (a : Nat → Int → Int) (e : Int), FM fi f → FO m a3 a → FL f e → R = .inl e → am_W (am_ev am_prog (d + 5)) T_Mo_mapping (fun w h' => w = none ∧ MM L B1 B2 aj fi a3 m R h') (125, [some (.inr (.inr 126)), some (.inl m), some (.inl k)], [], HH L B1 B2 f a aj) := by
        intro R f a e x1 x2 x3 x4
        refine am_W.cv 10 m_Mo_isWord rfl rfl rfl rfl (by and_intros <;> first | trivial | exact okI rfl rfl rfl | (refine okrI rfl rfl rfl rfl ?_ ?_ <;> (first | omega | (simp only [HS, FRS, CCS, am_R, fl91, fl87] at *; omega))) | (refine okaI rfl rfl rfl rfl ?_ ?_ <;> (first | omega | (simp only [HS, FRS, CCS, am_R, fl91, fl87] at *; omega))) | (first | omega | (simp only [HS, FRS, CCS, am_R, fl91, fl87] at *; omega)) | (simp only [HS, FRS, CCS, fl91, fl87])) (c_misWordF (d + 4) L B1 B2 f (am_u2 a 152 m (-1)) aj 2 x3.1) ?_
        rintro r1 h1 ⟨rfl, rfl⟩
        exact am_W.br rfl rfl (by and_intros <;> first | trivial | exact okI rfl rfl rfl | (refine okrI rfl rfl rfl rfl ?_ ?_ <;> (first | omega | (simp only [HS, FRS, CCS, am_R, fl91, fl87] at *; omega))) | (refine okaI rfl rfl rfl rfl ?_ ?_ <;> (first | omega | (simp only [HS, FRS, CCS, am_R, fl91, fl87] at *; omega))) | (first | omega | (simp only [HS, FRS, CCS, am_R, fl91, fl87] at *; omega)) | (simp only [HS, FRS, CCS, fl91, fl87])) (fun c4 => h156F R f (am_u2 a 152 m (-1)) e x1 (x2.tr (FO_u (by omega))) x3 x4) (fun c4 => absurd rfl c4)
      have h119F : ∀ (R : Int ⊕ (MT × Tk)) (f : Nat → Nat → Int) (a : Nat → Int → Int) (e : Int), FM fi f → FO m a3 a → FL f e → R = .inl e → am_W (am_ev am_prog (d + 5)) T_Mo_mapping (fun w h' => w = none ∧ MM L B1 B2 aj fi a3 m R h') (119, [some (.inr (.inr 126)), some (.inl m), some (.inl k)], [], HH L B1 B2 f a aj) := by
        intro R f a e x1 x2 x3 x4
        refine am_W.cv 10 m_Mo_condition rfl rfl rfl rfl (by and_intros <;> first | trivial | exact okI rfl rfl rfl | (refine okrI rfl rfl rfl rfl ?_ ?_ <;> (first | omega | (simp only [HS, FRS, CCS, am_R, fl91, fl87] at *; omega))) | (refine okaI rfl rfl rfl rfl ?_ ?_ <;> (first | omega | (simp only [HS, FRS, CCS, am_R, fl91, fl87] at *; omega))) | (first | omega | (simp only [HS, FRS, CCS, am_R, fl91, fl87] at *; omega)) | (simp only [HS, FRS, CCS, fl91, fl87])) (c_mconditionF (d + 3) L B1 B2 f a aj m k e hm x3) ?_
        rintro r1 h1 ⟨rfl, rfl⟩
        exact h125F R f (am_u2 a 153 m 0) e x1 (x2.tr (FO_u (by omega))) x3 x4
      have h106F : ∀ (R : Int ⊕ (MT × Tk)) (f : Nat → Nat → Int) (a : Nat → Int → Int) (e : Int), FM fi f → FO m a3 a → FL f e → R = .inl e → am_W (am_ev am_prog (d + 5)) T_Mo_mapping (fun w h' => w = none ∧ MM L B1 B2 aj fi a3 m R h') (106, [some (.inr (.inr 126)), some (.inl m), some (.inl k)], [], HH L B1 B2 f a aj) := by
        intro R f a e x1 x2 x3 x4
        have fz := x3.1
        refine am_W.br rfl rfl ?_ (fun c4 => h119F R f a e x1 x2 x3 x4) (fun c4 => absurd c4 ?_)
        · simp only [HS, FRS, CCS, am_R, fz]
          exact (by and_intros <;> first | trivial | exact okI rfl rfl rfl | (refine okrI rfl rfl rfl rfl ?_ ?_ <;> (first | omega | (simp only [HS, FRS, CCS, am_R, fl91, fl87] at *; omega))) | (refine okaI rfl rfl rfl rfl ?_ ?_ <;> (first | omega | (simp only [HS, FRS, CCS, am_R, fl91, fl87] at *; omega))) | (first | omega | (simp only [HS, FRS, CCS, am_R, fl91, fl87] at *; omega)) | (simp only [HS, FRS, CCS, fl91, fl87]))
        · simp only [HS, fz]
          decide
      have h95F : ∀ (R : Int ⊕ (MT × Tk)) (f : Nat → Nat → Int) (a : Nat → Int → Int) (e : Int), FM fi f → FO m a3 a → FL f e → R = .inl e → am_W (am_ev am_prog (d + 5)) T_Mo_mapping (fun w h' => w = none ∧ MM L B1 B2 aj fi a3 m R h') (95, [some (.inr (.inr 126)), some (.inl m), some (.inl k)], [], HH L B1 B2 f a aj) := by
        intro R f a e x1 x2 x3 x4
        refine am_W.cv 10 m_Mo_readName rfl rfl rfl rfl (by and_intros <;> first | trivial | exact okI rfl rfl rfl | (refine okrI rfl rfl rfl rfl ?_ ?_ <;> (first | omega | (simp only [HS, FRS, CCS, am_R, fl91, fl87] at *; omega))) | (refine okaI rfl rfl rfl rfl ?_ ?_ <;> (first | omega | (simp only [HS, FRS, CCS, am_R, fl91, fl87] at *; omega))) | (first | omega | (simp only [HS, FRS, CCS, am_R, fl91, fl87] at *; omega)) | (simp only [HS, FRS, CCS, fl91, fl87])) (c_mreadNameF (d + 4) L B1 B2 f a aj _ k 0 x3.1) ?_
        rintro r1 h1 ⟨rfl, rfl⟩
        exact h106F R f a e x1 x2 x3 x4
      have h86F : ∀ (R : Int ⊕ (MT × Tk)) (f : Nat → Nat → Int) (a : Nat → Int → Int) (e : Int), FM fi f → FO m a3 a → FL f e → R = .inl e → am_W (am_ev am_prog (d + 5)) T_Mo_mapping (fun w h' => w = none ∧ MM L B1 B2 aj fi a3 m R h') (86, [some (.inr (.inr 126)), some (.inl m), some (.inl k)], [], HH L B1 B2 f a aj) := by
        intro R f a e x1 x2 x3 x4
        refine am_W.cv 10 m_Mo_readName rfl rfl rfl rfl (by and_intros <;> first | trivial | exact okI rfl rfl rfl | (refine okrI rfl rfl rfl rfl ?_ ?_ <;> (first | omega | (simp only [HS, FRS, CCS, am_R, fl91, fl87] at *; omega))) | (refine okaI rfl rfl rfl rfl ?_ ?_ <;> (first | omega | (simp only [HS, FRS, CCS, am_R, fl91, fl87] at *; omega))) | (first | omega | (simp only [HS, FRS, CCS, am_R, fl91, fl87] at *; omega)) | (simp only [HS, FRS, CCS, fl91, fl87])) (c_mreadNameF (d + 4) L B1 B2 f a aj _ k 1 x3.1) ?_
        rintro r1 h1 ⟨rfl, rfl⟩
        exact h95F R f a e x1 x2 x3 x4
      -- the colon
      have v58 : (f3 87 126 = 3 ∧ f3 88 126 = 58) ↔ (lx t y.2.2.2 0).2.1 = 58 := k8.2.2.1.2.2.2.2.1
      refine am_W.cv 10 m_Mo_wantSign rfl rfl rfl rfl (by and_intros <;> first | trivial | exact okI rfl rfl rfl | (refine okrI rfl rfl rfl rfl ?_ ?_ <;> (first | omega | (simp only [HS, FRS, CCS, am_R, fl91, fl87] at *; omega))) | (refine okaI rfl rfl rfl rfl ?_ ?_ <;> (first | omega | (simp only [HS, FRS, CCS, am_R, fl91, fl87] at *; omega))) | (first | omega | (simp only [HS, FRS, CCS, am_R, fl91, fl87] at *; omega)) | (simp only [HS, FRS, CCS, fl91, fl87])) (c_mwantSign (d + 2) L B1 B2 f3 a4 aj 58 58 _ t (by and_intros <;> first | trivial | exact okI rfl rfl rfl | (refine okrI rfl rfl rfl rfl ?_ ?_ <;> (first | omega | (simp only [HS, FRS, CCS, am_R, fl91, fl87] at *; omega))) | (refine okaI rfl rfl rfl rfl ?_ ?_ <;> (first | omega | (simp only [HS, FRS, CCS, am_R, fl91, fl87] at *; omega))) | (first | omega | (simp only [HS, FRS, CCS, am_R, fl91, fl87] at *; omega)) | (simp only [HS, FRS, CCS, fl91, fl87])) k4 hL3 k8 (by rw [h131 hA3, e60 hF3]; exact et) v58) ?_
      rintro r1 h1 ⟨rfl, f5, a5, rfl, x1, rfl, x3⟩
      have hF5 : FM fi f5 := hF3.tr x1
      rw [pIs_q]
      cases hq5 : qIs 58 (lx t y.2.2.2 0) with
      | inl e =>
        rw [hq5] at x3
        exact h86F _ f5 a5 e hF5 hA3 x3 rfl
      | inr z =>
        rw [hq5] at x3
        obtain ⟨x4, x5, x6⟩ := x3
        rw [pb_r]
        have hn := c_mreadName (d + 1) L B1 B2 f5 a5 aj (3 * m) k 1 _ t ⟨by omega, by omega⟩ hk4 (Or.inr rfl) x4 x5 x6 (by rw [h131 hA3, e60 hF5]; exact et)
        rw [pNm, if_pos rfl] at hn
        refine am_W.cv 10 m_Mo_readName rfl rfl rfl rfl (by and_intros <;> first | trivial | exact okI rfl rfl rfl | (refine okrI rfl rfl rfl rfl ?_ ?_ <;> (first | omega | (simp only [HS, FRS, CCS, am_R, fl91, fl87] at *; omega))) | (refine okaI rfl rfl rfl rfl ?_ ?_ <;> (first | omega | (simp only [HS, FRS, CCS, am_R, fl91, fl87] at *; omega))) | (first | omega | (simp only [HS, FRS, CCS, am_R, fl91, fl87] at *; omega)) | (simp only [HS, FRS, CCS, fl91, fl87])) hn ?_
        rintro r1 h1 ⟨rfl, f6, a6, rfl, y1, y2, y3⟩
        have hF6 : FM fi f6 := hF5.tr y1
        have hA6 : FO m a3 a6 := hA3.tr (FO_n y2 ⟨by omega, by omega⟩)
        cases hp6 : pName t k (lx t z.2.2.2 0) with
        | inl e =>
          rw [hp6] at y3
          exact h95F _ f6 a6 e hF6 hA6 y3 rfl
        | inr pp =>
          rw [hp6] at y3
          obtain ⟨y4, y5, y6, y7⟩ := y3
          have hlen1 := pName_len hp6
          rw [pb_r]
          have hn7 := c_mreadName (d + 1) L B1 B2 f6 a6 aj (3 * m + 1) k 0 _ t ⟨by omega, by omega⟩ hk4 (Or.inl rfl) y4 y5 y7 (by rw [h131 hA6, e60 hF6]; exact et)
          rw [pNm, if_neg (by decide)] at hn7
          refine am_W.cv 10 m_Mo_readName rfl rfl rfl rfl (by and_intros <;> first | trivial | exact okI rfl rfl rfl | (refine okrI rfl rfl rfl rfl ?_ ?_ <;> (first | omega | (simp only [HS, FRS, CCS, am_R, fl91, fl87] at *; omega))) | (refine okaI rfl rfl rfl rfl ?_ ?_ <;> (first | omega | (simp only [HS, FRS, CCS, am_R, fl91, fl87] at *; omega))) | (first | omega | (simp only [HS, FRS, CCS, am_R, fl91, fl87] at *; omega)) | (simp only [HS, FRS, CCS, fl91, fl87])) hn7 ?_
          rintro r1 h1 ⟨rfl, f7, a7, rfl, w1, w2, w3⟩
          have hF7 : FM fi f7 := hF6.tr w1
          have hA7 : FO m a3 a7 := hA6.tr (FO_n w2 ⟨by omega, by omega⟩)
          rw [pIs_q]
          cases hq7 : qIs 34 (lx t pp.2 0) with
          | inl e =>
            rw [hq7] at w3
            exact h106F _ f7 a7 e hF7 hA7 w3 rfl
          | inr q =>
            rw [hq7, pb_r] at w3
            rw [pb_r]
            cases hp7 : pcs t k 30 q.2.2.2 [] with
            | inl e =>
              rw [hp7] at w3
              exact h106F _ f7 a7 e hF7 hA7 w3 rfl
            | inr l =>
              rw [hp7] at w3
              obtain ⟨w4, w5, w6, w7⟩ := w3
              have hlen2 : l.1.length ≤ 30 := pcs_len 30 _ [] l rfl hp7
              rw [pb_r]
              have r71 : RepQ (a7 145) (a7 146) (a7 147) (a7 148) (3 * m) pp.1 := y6.fr (w2.2.1 145 _ (by omega) (by decide)) (w2.2.1 146 _ (by omega) (by decide)) (w2.2.1 147 _ (by omega) (by decide)) (fun k h1 h2 => w2.2.2 k (by omega)) (fun _ => hlen1)
              have e7 : a7 144 m = y.2.2.1 := by
                rw [w2.1 144 (by decide), y2.1 144 (by decide), e144]
                exact k6
              refine am_W.br rfl rfl ?_ (fun c4 => absurd c4 ?_) (fun c4 => ?_)
              · simp only [HS, FRS, CCS, am_R, w4]
                exact (by and_intros <;> first | trivial | exact okI rfl rfl rfl | (refine okrI rfl rfl rfl rfl ?_ ?_ <;> (first | omega | (simp only [HS, FRS, CCS, am_R, fl91, fl87] at *; omega))) | (refine okaI rfl rfl rfl rfl ?_ ?_ <;> (first | omega | (simp only [HS, FRS, CCS, am_R, fl91, fl87] at *; omega))) | (first | omega | (simp only [HS, FRS, CCS, am_R, fl91, fl87] at *; omega)) | (simp only [HS, FRS, CCS, fl91, fl87]))
              · simp only [HS, w4]
                decide
              have hD7 := hDM hF7 hA7
              have ho := c_mobject d L B1 B2 f7 a7 aj m k y.2.2.1 _ t hm hk4 w4 w5 w7 (by rw [h131 hA7, e60 hF7]; exact et) (by rw [hD7]; exact hI) ⟨e7, ⟨by omega, by omega⟩⟩
              rw [hD7] at ho
              refine am_W.cv 10 m_Mo_object rfl rfl rfl rfl (by and_intros <;> first | trivial | exact okI rfl rfl rfl | (refine okrI rfl rfl rfl rfl ?_ ?_ <;> (first | omega | (simp only [HS, FRS, CCS, am_R, fl91, fl87] at *; omega))) | (refine okaI rfl rfl rfl rfl ?_ ?_ <;> (first | omega | (simp only [HS, FRS, CCS, am_R, fl91, fl87] at *; omega))) | (first | omega | (simp only [HS, FRS, CCS, am_R, fl91, fl87] at *; omega)) | (simp only [HS, FRS, CCS, fl91, fl87])) ho ?_
              rintro r1 h1 ⟨rfl, f8, a8, rfl, u1, u2, u3⟩
              have hF8 : FM fi f8 := hF7.tr u1
              have hA8 : FO m a3 a8 := hA7.tr u2
              cases hp8 : pObj t (DM fi a3) y.2.2.1 k (lx t l.2 0) with
              | inl e =>
                rw [hp8] at u3
                exact h119F _ f8 a8 e hF8 hA8 u3 rfl
              | inr o =>
                rw [hp8] at u3
                obtain ⟨u4, u5, o1, o2, o3, o4, o5, o6, o7, o8⟩ := u3
                rw [pb_r]
                have hc := c_mcondition (d + 1) L B1 B2 f8 a8 aj m k o.2.2 t hm hk4 u4 u5 o4 (by rw [h131 hA8, e60 hF8]; exact et)
                refine am_W.cv 10 m_Mo_condition rfl rfl rfl rfl (by and_intros <;> first | trivial | exact okI rfl rfl rfl | (refine okrI rfl rfl rfl rfl ?_ ?_ <;> (first | omega | (simp only [HS, FRS, CCS, am_R, fl91, fl87] at *; omega))) | (refine okaI rfl rfl rfl rfl ?_ ?_ <;> (first | omega | (simp only [HS, FRS, CCS, am_R, fl91, fl87] at *; omega))) | (first | omega | (simp only [HS, FRS, CCS, am_R, fl91, fl87] at *; omega)) | (simp only [HS, FRS, CCS, fl91, fl87])) hc ?_
                rintro r1 h1 ⟨rfl, f9, a9, rfl, q1, q2, q3⟩
                have hF9 : FM fi f9 := hF8.tr q1
                have hA9 : FO m a3 a9 := hA8.tr q2
                unfold pCo at q3
                cases hp9 : (if o.2.2.2.1 = 26982 then pCond t k o.2.2 else .inr ((-1, 0, 0), o.2.2) : Int ⊕ (JT × Tk)) with
                | inl e =>
                  rw [hp9] at q3
                  exact h125F _ f9 a9 e hF9 hA9 q3 rfl
                | inr c =>
                  rw [hp9] at q3
                  obtain ⟨q4, q5, q6, q7, q8, q9, q10⟩ := q3
                  rw [pb_r]
                  have hr1 : RepQ (a9 145) (a9 146) (a9 147) (a9 148) (3 * m) pp.1 := by
                    rw [q10 145 (by decide) (by decide) (by decide), q10 146 (by decide) (by decide) (by decide), q10 147 (by decide) (by decide) (by decide), q10 148 (by decide) (by decide) (by decide)]
                    exact r71.fr (o7 145 _ (by omega) (by decide)) (o7 146 _ (by omega) (by decide)) (o7 147 _ (by omega) (by decide)) (fun k h1 h2 => o8 k (by omega)) (fun _ => hlen1)
                  have hr2 : RepQ (a9 145) (a9 146) (a9 147) (a9 148) (3 * m + 1) (0, 0, l.1) := by
                    rw [q10 145 (by decide) (by decide) (by decide), q10 146 (by decide) (by decide) (by decide), q10 147 (by decide) (by decide) (by decide), q10 148 (by decide) (by decide) (by decide)]
                    exact w6.fr (o7 145 _ (by omega) (by decide)) (o7 146 _ (by omega) (by decide)) (o7 147 _ (by omega) (by decide)) (fun k h1 h2 => o8 k (by omega)) (fun _ => hlen2)
                  have hr3 : RepQ (a9 145) (a9 146) (a9 147) (a9 148) (3 * m + 2) o.1 := by
                    rw [q10 145 (by decide) (by decide) (by decide), q10 146 (by decide) (by decide) (by decide), q10 147 (by decide) (by decide) (by decide), q10 148 (by decide) (by decide) (by decide)]
                    exact o1
                  have p144 : a9 144 m = y.2.2.1 := by rw [q10 144 (by decide) (by decide) (by decide), o5]; exact e7
                  have p149 : a9 149 m = o.2.1.1 := by rw [q10 149 (by decide) (by decide) (by decide)]; exact o2
                  have p150 : o.2.1.1 ≠ -1 → a9 150 m = o.2.1.2.1 ∧ a9 151 m = o.2.1.2.2 := by
                    rw [q10 150 (by decide) (by decide) (by decide), q10 151 (by decide) (by decide) (by decide)]
                    exact o3
                  -- the end: a dot
                  have hdot : ∀ (f : Nat → Nat → Int) (g : Int) (τ : Tk) (R : Int ⊕ (MT × Tk)), FM fi f → f 91 126 = 0 → LM f (am_u2 a9 152 m g) → TM f τ → R = (if τ.2.1 = 46 then .inr ((y.2.2.1, pp.1, (0, 0, l.1), o.1, o.2.1, c.1, g), lx t τ.2.2.2 0) else .inl (-10 - τ.1)) → am_W (am_ev am_prog (d + 5)) T_Mo_mapping (fun w h' => w = none ∧ MM L B1 B2 aj fi a3 m R h') (156, [some (.inr (.inr 126)), some (.inl m), some (.inl k)], [], HH L B1 B2 f (am_u2 a9 152 m g) aj) := by
                    intro f g τ R b1 b2 b3 b4 b5
                    have hAg : FO m a3 (am_u2 a9 152 m g) := hA9.tr (FO_u (by omega))
                    have v46 : (f 87 126 = 3 ∧ f 88 126 = 46) ↔ τ.2.1 = 46 := b4.2.2.1.2.2.2.2.2.1
                    refine am_W.cv 10 m_Mo_wantSign rfl rfl rfl rfl (by and_intros <;> first | trivial | exact okI rfl rfl rfl | (refine okrI rfl rfl rfl rfl ?_ ?_ <;> (first | omega | (simp only [HS, FRS, CCS, am_R, fl91, fl87] at *; omega))) | (refine okaI rfl rfl rfl rfl ?_ ?_ <;> (first | omega | (simp only [HS, FRS, CCS, am_R, fl91, fl87] at *; omega))) | (first | omega | (simp only [HS, FRS, CCS, am_R, fl91, fl87] at *; omega)) | (simp only [HS, FRS, CCS, fl91, fl87])) (c_mwantSign (d + 2) L B1 B2 f (am_u2 a9 152 m g) aj 46 46 τ t (by and_intros <;> first | trivial | exact okI rfl rfl rfl | (refine okrI rfl rfl rfl rfl ?_ ?_ <;> (first | omega | (simp only [HS, FRS, CCS, am_R, fl91, fl87] at *; omega))) | (refine okaI rfl rfl rfl rfl ?_ ?_ <;> (first | omega | (simp only [HS, FRS, CCS, am_R, fl91, fl87] at *; omega))) | (first | omega | (simp only [HS, FRS, CCS, am_R, fl91, fl87] at *; omega)) | (simp only [HS, FRS, CCS, fl91, fl87])) b2 b3 b4 (by rw [h131 hAg, e60 b1]; exact et) v46) ?_
                    rintro r1 h1 ⟨rfl, fz, az, rfl, z1, rfl, z3⟩
                    rw [qIs_e 46 τ (fun τ => .inr ((y.2.2.1, pp.1, (0, 0, l.1), o.1, o.2.1, c.1, g), lx t τ.2.2.2 0))] at b5
                    have e74 : fz 74 126 = m := by rw [z1 74 126 (by omega), b1 74 126 (by omega)]; exact h74
                    refine am_W.rt rfl rfl (by and_intros <;> first | trivial | exact okI rfl rfl rfl | (refine okrI rfl rfl rfl rfl ?_ ?_ <;> (first | omega | (simp only [HS, FRS, CCS, am_R, fl91, fl87] at *; omega))) | (refine okaI rfl rfl rfl rfl ?_ ?_ <;> (first | omega | (simp only [HS, FRS, CCS, am_R, fl91, fl87] at *; omega))) | (first | omega | (simp only [HS, FRS, CCS, am_R, fl91, fl87] at *; omega)) | (simp only [HS, FRS, CCS, fl91, fl87])) ⟨rfl, am_u2 fz 74 126 (fz 74 126 + 1), am_u2 a9 152 m g, rfl, (b1.tr z1).m4.tr FM4_u, hAg, ?_⟩
                    cases hqz : qIs 46 τ with
                    | inl e =>
                      rw [hqz] at z3 b5
                      rw [b5, pb_l]
                      exact z3
                    | inr τ' =>
                      rw [hqz] at z3 b5
                      obtain ⟨z4, z5, z6⟩ := z3
                      rw [b5, pb_r]
                      have hsd : ∀ b, b ≠ 152 → am_u2 a9 152 m g b = a9 b := fun b hb => funext fun j => u2n hb
                      refine ⟨z4, z5, ?_, z6, by rw [u2s, e74]⟩
                      unfold RefA
                      rw [hsd 144 (by decide), hsd 145 (by decide), hsd 146 (by decide), hsd 147 (by decide), hsd 148 (by decide), hsd 149 (by decide), hsd 150 (by decide), hsd 151 (by decide), hsd 153 (by decide), hsd 154 (by decide), hsd 155 (by decide)]
                      exact ⟨p144, hr1, hr2, hr3, p149, p150, q6, q7, q8, u2s⟩
                  have hA10 : FO m a3 (am_u2 a9 152 m (-1)) := hA9.tr (FO_u (by omega))
                  have hL10 : LM f9 (am_u2 a9 152 m (-1)) := LM_a (am_u2_131 (by decide)) q5
                  have vin : (f9 87 126 = 1 ∧ f9 88 126 = 2) ↔ c.2.2.1 = 26990 := q9.2.2.1.2.2.2.2.2.2.2.2.2.2.2.2.2.1
                  have o9 := q5.2.2
                  refine am_W.cv 10 m_Mo_isWord rfl rfl rfl rfl (by and_intros <;> first | trivial | exact okI rfl rfl rfl | (refine okrI rfl rfl rfl rfl ?_ ?_ <;> (first | omega | (simp only [HS, FRS, CCS, am_R, fl91, fl87] at *; omega))) | (refine okaI rfl rfl rfl rfl ?_ ?_ <;> (first | omega | (simp only [HS, FRS, CCS, am_R, fl91, fl87] at *; omega))) | (first | omega | (simp only [HS, FRS, CCS, am_R, fl91, fl87] at *; omega)) | (simp only [HS, FRS, CCS, fl91, fl87])) (c_misWord (d + 4) L B1 B2 f9 (am_u2 a9 152 m (-1)) aj 2 (by and_intros <;> first | trivial | exact okI rfl rfl rfl | (refine okrI rfl rfl rfl rfl ?_ ?_ <;> (first | omega | (simp only [HS, FRS, CCS, am_R, fl91, fl87] at *; omega))) | (refine okaI rfl rfl rfl rfl ?_ ?_ <;> (first | omega | (simp only [HS, FRS, CCS, am_R, fl91, fl87] at *; omega))) | (first | omega | (simp only [HS, FRS, CCS, am_R, fl91, fl87] at *; omega)) | (simp only [HS, FRS, CCS, fl91, fl87])) (Or.inl q4) ⟨by omega, by omega⟩ ⟨by omega, by omega⟩) ?_
                  rintro r1 h1 ⟨rfl, rfl⟩
                  by_cases hin : c.2.2.1 = 26990
                  · rw [if_pos hin, show (if f9 91 126 = 0 ∧ f9 87 126 = 1 ∧ f9 88 126 = 2 then (1 : Int) else 0) = 1 from if_pos ⟨q4, vin.mpr hin⟩]
                    refine am_W.br rfl rfl (by and_intros <;> first | trivial | exact okI rfl rfl rfl | (refine okrI rfl rfl rfl rfl ?_ ?_ <;> (first | omega | (simp only [HS, FRS, CCS, am_R, fl91, fl87] at *; omega))) | (refine okaI rfl rfl rfl rfl ?_ ?_ <;> (first | omega | (simp only [HS, FRS, CCS, am_R, fl91, fl87] at *; omega))) | (first | omega | (simp only [HS, FRS, CCS, am_R, fl91, fl87] at *; omega)) | (simp only [HS, FRS, CCS, fl91, fl87])) (fun c5 => absurd c5 (by decide)) (fun c5 => ?_)
                    refine am_W.cv 10 m_Mo_next rfl rfl rfl rfl (by and_intros <;> first | trivial | exact okI rfl rfl rfl | (refine okrI rfl rfl rfl rfl ?_ ?_ <;> (first | omega | (simp only [HS, FRS, CCS, am_R, fl91, fl87] at *; omega))) | (refine okaI rfl rfl rfl rfl ?_ ?_ <;> (first | omega | (simp only [HS, FRS, CCS, am_R, fl91, fl87] at *; omega))) | (first | omega | (simp only [HS, FRS, CCS, am_R, fl91, fl87] at *; omega)) | (simp only [HS, FRS, CCS, fl91, fl87])) (c_mnx (d + 3) L B1 B2 f9 (am_u2 a9 152 m (-1)) aj t c.2.2.2.2 hL10 (by rw [h131 hA10, e60 hF9]; exact et) q9.2.1) ?_
                    rintro r1 h1 ⟨rfl, fx, rfl, b1, b2, b3, b4⟩
                    have hFx : FM fi fx := hF9.tr b1
                    refine am_W.cv 10 m_Mo_wantNumber rfl rfl rfl rfl (by and_intros <;> first | trivial | exact okI rfl rfl rfl | (refine okrI rfl rfl rfl rfl ?_ ?_ <;> (first | omega | (simp only [HS, FRS, CCS, am_R, fl91, fl87] at *; omega))) | (refine okaI rfl rfl rfl rfl ?_ ?_ <;> (first | omega | (simp only [HS, FRS, CCS, am_R, fl91, fl87] at *; omega))) | (first | omega | (simp only [HS, FRS, CCS, am_R, fl91, fl87] at *; omega)) | (simp only [HS, FRS, CCS, fl91, fl87])) (c_mwantNum (d + 2) L B1 B2 fx (am_u2 a9 152 m (-1)) aj 10 _ t (by and_intros <;> first | trivial | exact okI rfl rfl rfl | (refine okrI rfl rfl rfl rfl ?_ ?_ <;> (first | omega | (simp only [HS, FRS, CCS, am_R, fl91, fl87] at *; omega))) | (refine okaI rfl rfl rfl rfl ?_ ?_ <;> (first | omega | (simp only [HS, FRS, CCS, am_R, fl91, fl87] at *; omega))) | (first | omega | (simp only [HS, FRS, CCS, am_R, fl91, fl87] at *; omega)) | (simp only [HS, FRS, CCS, fl91, fl87])) (b2.trans q4) b3 b4 (by rw [h131 hA10, e60 hFx]; exact et)) ?_
                    rintro r1 h1 ⟨v, rfl, fw, aw, rfl, d1, rfl, d3⟩
                    have hFw : FM fi fw := hFx.tr d1
                    unfold pGra
                    rw [pNum_q]
                    refine am_W.gp 156 rfl (by and_intros <;> first | trivial | exact okI rfl rfl rfl | (refine okrI rfl rfl rfl rfl ?_ ?_ <;> (first | omega | (simp only [HS, FRS, CCS, am_R, fl91, fl87] at *; omega))) | (refine okaI rfl rfl rfl rfl ?_ ?_ <;> (first | omega | (simp only [HS, FRS, CCS, am_R, fl91, fl87] at *; omega))) | (first | omega | (simp only [HS, FRS, CCS, am_R, fl91, fl87] at *; omega)) | (simp only [HS, FRS, CCS, fl91, fl87])) ?_
                    simp only [HS, FRS, fl91, fl87]
                    rw [u2u]
                    cases hqw : qNum 10 (lx t c.2.2.2.2 0) with
                    | inl e =>
                      rw [hqw] at d3
                      exact h156F _ fw _ e hFw (hA9.tr (FO_u (by omega))) d3 rfl
                    | inr g =>
                      rw [hqw] at d3
                      obtain ⟨d4, d5, d6, d7, d8⟩ := d3
                      rw [pb_r, pb_r]
                      have hLw : LM fw (am_u2 a9 152 m v) := LM_a (by rw [am_u2_131 (by decide), am_u2_131 (by decide)]) d5
                      subst d6
                      exact hdot fw g.2.2.1 _ _ hFw d4 hLw d8 rfl
                  · rw [if_neg hin, show (if f9 91 126 = 0 ∧ f9 87 126 = 1 ∧ f9 88 126 = 2 then (1 : Int) else 0) = 0 from if_neg (fun z => hin (vin.mp z.2)), pb_r]
                    refine am_W.br rfl rfl (by and_intros <;> first | trivial | exact okI rfl rfl rfl | (refine okrI rfl rfl rfl rfl ?_ ?_ <;> (first | omega | (simp only [HS, FRS, CCS, am_R, fl91, fl87] at *; omega))) | (refine okaI rfl rfl rfl rfl ?_ ?_ <;> (first | omega | (simp only [HS, FRS, CCS, am_R, fl91, fl87] at *; omega))) | (first | omega | (simp only [HS, FRS, CCS, am_R, fl91, fl87] at *; omega)) | (simp only [HS, FRS, CCS, fl91, fl87])) (fun c5 => ?_) (fun c5 => absurd rfl c5)
                    exact hdot f9 (-1) c.2 _ hF9 q4 hL10 q9 rfl
    · simp only [HS, k4]
