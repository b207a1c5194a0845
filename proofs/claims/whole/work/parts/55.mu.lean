-- the reference's reader: whole templates
def rp (x : Int) : Int := if x < 4 then 256 + x else x
def FT (n : Int) (ai ai' : Nat → Int → Int) : Prop := (∀ b, b ≠ 147 → b ≠ 148 → ai' b = ai b) ∧ (∀ k, k ≠ n → ai' 147 k = ai 147 k) ∧ (∀ k, k < 30 * n ∨ 30 * n + 30 ≤ k → ai' 148 k = ai 148 k)
theorem FT.rf {n : Int} {ai : Nat → Int → Int} : FT n ai ai := ⟨fun _ _ _ => rfl, fun _ _ => rfl, fun _ _ => rfl⟩
theorem FT.tr {n : Int} {a1 a2 a3 : Nat → Int → Int} (h1 : FT n a1 a2) (h2 : FT n a2 a3) : FT n a1 a3 := ⟨fun b p q => (h2.1 b p q).trans (h1.1 b p q), fun k p => (h2.2.1 k p).trans (h1.2.1 k p), fun k p => (h2.2.2 k p).trans (h1.2.2 k p)⟩
theorem FT_7 {n v : Int} {ai : Nat → Int → Int} : FT n ai (am_u2 ai 147 n v) := ⟨fun b p q => funext fun j => u2n p, fun k p => u2b p, fun k p => u2n (by decide)⟩
theorem FT_8 {n c v : Int} {ai : Nat → Int → Int} (h : 0 ≤ c ∧ c < 30) : FT n ai (am_u2 ai 148 (30 * n + c) v) := ⟨fun b p q => funext fun j => u2n q, fun k p => u2n (by decide), fun k p => u2b (by omega)⟩
theorem LM_a {fi : Nat → Nat → Int} {ai ai' : Nat → Int → Int} (h : ai' 131 = ai 131) (hL : LM fi ai) : LM fi ai' := by
  unfold LM
  rw [h]
  exact hL
def KT (n : Int) (t : Int → Int) : (Nat → Nat → Int) → (Nat → Int → Int) → List Int × Int → Prop := fun fi' ai' x => TM fi' (lx t x.2 0) ∧ ai' 147 n = (x.1.length : Int) ∧ ∀ i : Nat, i < x.1.length → ai' 148 (30 * n + (i : Int)) = rp (x.1.getD i 0)
theorem pPc_p {t : Int → Int} {m b : Int} (h1 : ¬ t b = 123) (h2 : ¬ t b = 92) : pPc t m b = .inr (t b, b + 1) := by rw [pPc, if_neg h1, if_neg h2]
theorem pPc_e {t : Int → Int} {m b : Int} (h2 : t b = 92) : pPc t m b = if esc (t (b + 1)) then .inr (t (b + 1), b + 2) else .inl (-10 - (b + 1)) := by rw [pPc, if_neg (by omega), if_pos h2]
theorem pPc_c {t : Int → Int} {m b : Int} (h2 : t b = 123) : pPc t m b = cIn t m (b + 1) := by rw [pPc, if_pos h2]; rfl
set_option maxHeartbeats 400000 in
set_option maxRecDepth 100000 in
theorem l_mtemplate (d L B1 B2 : Nat) (fi : Nat → Nat → Int) (ai aj : Nat → Int → Int) (n m : Int) (hn : 0 ≤ n ∧ n < 18) (hm : 0 ≤ m ∧ m ≤ 4) (t : Int → Int) (et : tx (fi 60 126) (ai 131) = t) (R : Int ⊕ (List Int × Int)) : ∀ (k : Nat) (l : List Int) (f1 : Nat → Nat → Int) (a1 : Nat → Int → Int) (c : Int) (l4 l5 l6 l7 : Option am_V), l.length + k = 30 → c = (l.length : Int) → FM fi f1 → FT n ai a1 → f1 91 126 = 0 → LM f1 a1 → (∀ i : Nat, i < l.length → a1 148 (30 * n + (i : Int)) = rp (l.getD i 0)) → R = pcs t m k (f1 90 126) l → am_W (am_ev am_prog (d + 2)) T_Mo_template (fun w h' => w = none ∧ MoQ L B1 B2 aj fi (FT n ai) R (KT n t) h') (2, [some (.inr (.inr 126)), some (.inl n), some (.inl m), some (.inl c), l4, l5, l6, l7], [], HH L B1 B2 f1 a1 aj) := by
  have hfail : ∀ (f2 : Nat → Nat → Int) (a2 : Nat → Int → Int) (c e : Int) (l4 l5 l6 l7 : Option am_V), FM fi f2 → FT n ai a2 → FL f2 e → R = .inl e → am_W (am_ev am_prog (d + 2)) T_Mo_template (fun w h' => w = none ∧ MoQ L B1 B2 aj fi (FT n ai) R (KT n t) h') (2, [some (.inr (.inr 126)), some (.inl n), some (.inl m), some (.inl c), l4, l5, l6, l7], [], HH L B1 B2 f2 a2 aj) := by
    intro f2 a2 c e l4 l5 l6 l7 hF hA he hR
    have fl91 := he.1
    have fl87 : True := trivial
    refine am_W.br rfl rfl (by and_intros <;> first | trivial | exact okI rfl rfl rfl | (refine okrI rfl rfl rfl rfl ?_ ?_ <;> (first | omega | (simp only [HS, FRS, CCS, am_R, fl91, fl87] at *; omega))) | (refine okaI rfl rfl rfl rfl ?_ ?_ <;> (first | omega | (simp only [HS, FRS, CCS, am_R, fl91, fl87] at *; omega))) | (first | omega | (simp only [HS, FRS, CCS, am_R, fl91, fl87] at *; omega)) | (simp only [HS, FRS, CCS, fl91, fl87])) (fun c1 => ?_) (fun c1 => absurd c1 (by simp only [HS, fl91]; decide))
    refine am_W.br rfl rfl (by and_intros <;> first | trivial | exact okI rfl rfl rfl | (refine okrI rfl rfl rfl rfl ?_ ?_ <;> (first | omega | (simp only [HS, FRS, CCS, am_R, fl91, fl87] at *; omega))) | (refine okaI rfl rfl rfl rfl ?_ ?_ <;> (first | omega | (simp only [HS, FRS, CCS, am_R, fl91, fl87] at *; omega))) | (first | omega | (simp only [HS, FRS, CCS, am_R, fl91, fl87] at *; omega)) | (simp only [HS, FRS, CCS, fl91, fl87])) (fun c1 => ?_) (fun c1 => absurd c1 (by simp only [HS, fl91]; decide))
    refine am_W.rt rfl rfl (by and_intros <;> first | trivial | exact okI rfl rfl rfl | (refine okrI rfl rfl rfl rfl ?_ ?_ <;> (first | omega | (simp only [HS, FRS, CCS, am_R, fl91, fl87] at *; omega))) | (refine okaI rfl rfl rfl rfl ?_ ?_ <;> (first | omega | (simp only [HS, FRS, CCS, am_R, fl91, fl87] at *; omega))) | (first | omega | (simp only [HS, FRS, CCS, am_R, fl91, fl87] at *; omega)) | (simp only [HS, FRS, CCS, fl91, fl87])) ⟨rfl, MoQ_f hR hF (hA.tr FT_7) he⟩
  have hbody : ∀ (k : Nat) (l : List Int) (f1 : Nat → Nat → Int) (a1 : Nat → Int → Int) (c : Int) (l4 l5 l6 l7 : Option am_V), l.length + k = 30 → c = (l.length : Int) → FM fi f1 → FT n ai a1 → f1 91 126 = 0 → LM f1 a1 → (∀ i : Nat, i < l.length → a1 148 (30 * n + (i : Int)) = rp (l.getD i 0)) → R = pcs t m k (f1 90 126) l → (∀ (b : Int) (g : Int), b = f1 90 126 → (b < f1 60 126) → ¬ t b = 34 → ¬ (t b < 32 ∨ 126 < t b ∨ t b = 125) → ((g = 1 ∧ ¬ t b = 92 ∧ ¬ t b = 123) ∨ (g = 0 ∧ (t b = 92 ∨ t b = 123))) → am_W (am_ev am_prog (d + 2)) T_Mo_template (fun w h' => w = none ∧ MoQ L B1 B2 aj fi (FT n ai) R (KT n t) h') (131, [some (.inr (.inr 126)), some (.inl n), some (.inl m), some (.inl c), some (.inl (t b)), some (.inl b), some (.inl g), l7], [], HH L B1 B2 f1 a1 aj)) → am_W (am_ev am_prog (d + 2)) T_Mo_template (fun w h' => w = none ∧ MoQ L B1 B2 aj fi (FT n ai) R (KT n t) h') (2, [some (.inr (.inr 126)), some (.inl n), some (.inl m), some (.inl c), l4, l5, l6, l7], [], HH L B1 B2 f1 a1 aj) := by
    intro k l f1 a1 c l4 l5 l6 l7 hk hc hF hA h91 hL hl hR w
    have e1 : tx (f1 60 126) (a1 131) = t := by rw [hF 60 126 (by omega), hA.1 131 (by decide) (by decide)]; exact et
    generalize hb : f1 90 126 = b at *
    have fl91 := h91
    have fl87 := hb
    obtain ⟨o1, o2, o3, o4, o5⟩ := id hL
    have n1 := o1.2.1
    rw [hb] at o2
    have hx := tx_R o1 b
    have hcR := ch_R o1 b
    have hch := c_Mo_charAt (d + 1) L B1 B2 f1 a1 aj b o1 o2.1 ⟨by omega, by omega⟩
    rw [e1] at hx hcR hch
    have egf : am_gf (HH L B1 B2 f1 a1 aj) 90 126 0 = .inl b := by rw [← hb]; rfl
    refine am_W.br rfl rfl (by and_intros <;> first | trivial | exact okI rfl rfl rfl | (refine okrI rfl rfl rfl rfl ?_ ?_ <;> (first | omega | (simp only [HS, FRS, CCS, am_R, fl91, fl87] at *; omega))) | (refine okaI rfl rfl rfl rfl ?_ ?_ <;> (first | omega | (simp only [HS, FRS, CCS, am_R, fl91, fl87] at *; omega))) | (first | omega | (simp only [HS, FRS, CCS, am_R, fl91, fl87] at *; omega)) | (simp only [HS, FRS, CCS, fl91, fl87])) (fun c1 => absurd c1 (by simp only [HS, fl91]; decide)) (fun c1 => ?_)
    refine am_W.cv 10 m_Mo_charAt rfl rfl rfl rfl (by and_intros <;> first | trivial | exact okI rfl rfl rfl | (refine okrI rfl rfl rfl rfl ?_ ?_ <;> (first | omega | (simp only [HS, FRS, CCS, am_R, fl91, fl87] at *; omega))) | (refine okaI rfl rfl rfl rfl ?_ ?_ <;> (first | omega | (simp only [HS, FRS, CCS, am_R, fl91, fl87] at *; omega))) | (first | omega | (simp only [HS, FRS, CCS, am_R, fl91, fl87] at *; omega)) | (simp only [HS, FRS, CCS, fl91, fl87])) (by rw [egf]; exact hch) ?_
    rintro r1 h1 ⟨rfl, rfl⟩
    refine am_W.br rfl rfl (by and_intros <;> first | trivial | exact okI rfl rfl rfl | (refine okrI rfl rfl rfl rfl ?_ ?_ <;> (first | omega | (simp only [HS, FRS, CCS, am_R, fl91, fl87] at *; omega))) | (refine okaI rfl rfl rfl rfl ?_ ?_ <;> (first | omega | (simp only [HS, FRS, CCS, am_R, fl91, fl87] at *; omega))) | (first | omega | (simp only [HS, FRS, CCS, am_R, fl91, fl87] at *; omega)) | (simp only [HS, FRS, CCS, fl91, fl87])) (fun c2 => ?_) (fun c2 => ?_)
    · have h34 : t b = 34 := by
        unfold ch at c2
        split at c2 <;> omega
      have hlt := (tx_lt (n := f1 60 126) (T := a1 131) (p := b) (by rw [e1]; omega)).2
      rw [pcs_q k h34] at hR
      refine am_W.br rfl rfl (by and_intros <;> first | trivial | exact okI rfl rfl rfl | (refine okrI rfl rfl rfl rfl ?_ ?_ <;> (first | omega | (simp only [HS, FRS, CCS, am_R, fl91, fl87] at *; omega))) | (refine okaI rfl rfl rfl rfl ?_ ?_ <;> (first | omega | (simp only [HS, FRS, CCS, am_R, fl91, fl87] at *; omega))) | (first | omega | (simp only [HS, FRS, CCS, am_R, fl91, fl87] at *; omega)) | (simp only [HS, FRS, CCS, fl91, fl87])) (fun c3 => absurd c3 (by simp only [HS, fl91]; decide)) (fun c3 => ?_)
      have a131 : am_u2 a1 147 n c 131 = a1 131 := funext fun j => u2n (by decide)
      have hL2 : LM (am_u2 f1 90 126 (b + 1)) (am_u2 a1 147 n c) := LM_a a131 (LM_90 hL ⟨by omega, by omega⟩)
      refine am_W.cv 10 m_Mo_next rfl rfl rfl rfl (by and_intros <;> first | trivial | exact okI rfl rfl rfl | (refine okrI rfl rfl rfl rfl ?_ ?_ <;> (first | omega | (simp only [HS, FRS, CCS, am_R, fl91, fl87] at *; omega))) | (refine okaI rfl rfl rfl rfl ?_ ?_ <;> (first | omega | (simp only [HS, FRS, CCS, am_R, fl91, fl87] at *; omega))) | (first | omega | (simp only [HS, FRS, CCS, am_R, fl91, fl87] at *; omega)) | (simp only [HS, FRS, CCS, fl91, fl87])) (by simp only [HS, FRS, fl91, fl87]; exact c_mnx d L B1 B2 (am_u2 f1 90 126 (b + 1)) (am_u2 a1 147 n c) aj t (b + 1) hL2 (by rw [u2n (by decide), a131]; exact e1) u2s) ?_
      rintro r1 h1 ⟨rfl, f2, rfl, g1, g2, g3, g4⟩
      refine am_W.rt rfl rfl (by and_intros <;> first | trivial | exact okI rfl rfl rfl | (refine okrI rfl rfl rfl rfl ?_ ?_ <;> (first | omega | (simp only [HS, FRS, CCS, am_R, fl91, fl87] at *; omega))) | (refine okaI rfl rfl rfl rfl ?_ ?_ <;> (first | omega | (simp only [HS, FRS, CCS, am_R, fl91, fl87] at *; omega))) | (first | omega | (simp only [HS, FRS, CCS, am_R, fl91, fl87] at *; omega)) | (simp only [HS, FRS, CCS, fl91, fl87])) ⟨rfl, MoQ_y hR (hF.tr ((FM_u (by omega)).tr g1)) (hA.tr FT_7) ?_ g3 ⟨g4, ?_, ?_⟩⟩
      · rw [g2, u2n (by decide)]
        exact h91
      · rw [u2s]
        exact hc
      · intro i hi
        rw [u2n (by decide)]
        exact hl i hi
    · have h34 : ¬ t b = 34 := by
        intro q
        rw [ch_n (by omega)] at c2
        exact c2 q
      refine am_W.cv 10 m_Mo_charAt rfl rfl rfl rfl (by and_intros <;> first | trivial | exact okI rfl rfl rfl | (refine okrI rfl rfl rfl rfl ?_ ?_ <;> (first | omega | (simp only [HS, FRS, CCS, am_R, fl91, fl87] at *; omega))) | (refine okaI rfl rfl rfl rfl ?_ ?_ <;> (first | omega | (simp only [HS, FRS, CCS, am_R, fl91, fl87] at *; omega))) | (first | omega | (simp only [HS, FRS, CCS, am_R, fl91, fl87] at *; omega)) | (simp only [HS, FRS, CCS, fl91, fl87])) (by rw [egf]; exact hch) ?_
      rintro r1 h1 ⟨rfl, rfl⟩
      have hbad : ∀ (l6 : Int) (bb : Int), bb = b → (t b < 32 ∨ 126 < t b ∨ t b = 125) → am_W (am_ev am_prog (d + 2)) T_Mo_template (fun w h' => w = none ∧ MoQ L B1 B2 aj fi (FT n ai) R (KT n t) h') (119, [some (.inr (.inr 126)), some (.inl n), some (.inl m), some (.inl c), some (.inl (ch t b)), some (.inl bb), some (.inl l6), l7], [], HH L B1 B2 f1 a1 aj) := by
        intro l6 bb hbb hq
        rw [pcs_w k h34 hq] at hR
        refine am_W.cv 10 m_Mo_fail rfl rfl rfl rfl (by and_intros <;> first | trivial | exact okI rfl rfl rfl | (refine okrI rfl rfl rfl rfl ?_ ?_ <;> (first | omega | (simp only [HS, FRS, CCS, am_R, fl91, fl87] at *; omega))) | (refine okaI rfl rfl rfl rfl ?_ ?_ <;> (first | omega | (simp only [HS, FRS, CCS, am_R, fl91, fl87] at *; omega))) | (first | omega | (simp only [HS, FRS, CCS, am_R, fl91, fl87] at *; omega)) | (simp only [HS, FRS, CCS, fl91, fl87])) (by rw [egf]; exact c_mfail (d + 1) L B1 B2 f1 a1 aj 0 b h91 (Or.inl rfl) ⟨by omega, by omega⟩) ?_
        rintro r1 h1 ⟨rfl, f2, rfl, g1, g2, g3⟩
        rw [if_neg (by decide)] at g2
        exact am_W.gp 2 rfl (by and_intros <;> first | trivial | exact okI rfl rfl rfl | (refine okrI rfl rfl rfl rfl ?_ ?_ <;> (first | omega | (simp only [HS, FRS, CCS, am_R, fl91, fl87] at *; omega))) | (refine okaI rfl rfl rfl rfl ?_ ?_ <;> (first | omega | (simp only [HS, FRS, CCS, am_R, fl91, fl87] at *; omega))) | (first | omega | (simp only [HS, FRS, CCS, am_R, fl91, fl87] at *; omega)) | (simp only [HS, FRS, CCS, fl91, fl87])) (hfail f2 a1 _ _ _ _ _ _ (hF.tr g1) hA g2 hR)
      have hplain : ∀ g : Int, g = 0 ∨ g = 1 → (g = 1 ↔ (b < f1 60 126 ∧ (32 ≤ ch t b ∧ ch t b ≤ 126) ∧ ¬ ch t b = 92 ∧ ¬ ch t b = 123 ∧ ¬ ch t b = 125)) → am_W (am_ev am_prog (d + 2)) T_Mo_template (fun w h' => w = none ∧ MoQ L B1 B2 aj fi (FT n ai) R (KT n t) h') (87, [some (.inr (.inr 126)), some (.inl n), some (.inl m), some (.inl c), some (.inl (ch t b)), some (.inl b), l6, l7], [.inl g], HH L B1 B2 f1 a1 aj) := by
        intro g hg hgi
        have hmid : b < f1 60 126 → (g = 1 ∨ ch t b = 92 ∨ ch t b = 123) → am_W (am_ev am_prog (d + 2)) T_Mo_template (fun w h' => w = none ∧ MoQ L B1 B2 aj fi (FT n ai) R (KT n t) h') (108, [some (.inr (.inr 126)), some (.inl n), some (.inl m), some (.inl c), some (.inl (ch t b)), some (.inl b), some (.inl g), l7], [], HH L B1 B2 f1 a1 aj) := by
          intro hlt hq
          have hne : t b ≠ -1 := by omega
          rw [ch_n hne] at *
          refine am_W.br rfl rfl (by and_intros <;> first | trivial | exact okI rfl rfl rfl | (refine okrI rfl rfl rfl rfl ?_ ?_ <;> (first | omega | (simp only [HS, FRS, CCS, am_R, fl91, fl87] at *; omega))) | (refine okaI rfl rfl rfl rfl ?_ ?_ <;> (first | omega | (simp only [HS, FRS, CCS, am_R, fl91, fl87] at *; omega))) | (first | omega | (simp only [HS, FRS, CCS, am_R, fl91, fl87] at *; omega)) | (simp only [HS, FRS, CCS, fl91, fl87])) (fun c3 => ?_) (fun c3 => absurd c3 (by simp only [HS, FRS, fl91, fl87]; omega))
          exact w b g rfl hlt h34 (by omega) (by omega)
        have hend : ¬ b < f1 60 126 → t b = -1 ∧ ch t b = 0 := by
          intro q
          have : t b = -1 := by omega
          exact ⟨this, ch_0 this⟩
        refine am_W.br rfl rfl (by and_intros <;> first | trivial | exact okI rfl rfl rfl | (refine okrI rfl rfl rfl rfl ?_ ?_ <;> (first | omega | (simp only [HS, FRS, CCS, am_R, fl91, fl87] at *; omega))) | (refine okaI rfl rfl rfl rfl ?_ ?_ <;> (first | omega | (simp only [HS, FRS, CCS, am_R, fl91, fl87] at *; omega))) | (first | omega | (simp only [HS, FRS, CCS, am_R, fl91, fl87] at *; omega)) | (simp only [HS, FRS, CCS, fl91, fl87])) (fun c3 => ?_) (fun c3 => ?_)
        · exact hmid (hgi.mp (by omega)).1 (Or.inl (by omega))
        · refine am_W.br rfl rfl (by and_intros <;> first | trivial | exact okI rfl rfl rfl | (refine okrI rfl rfl rfl rfl ?_ ?_ <;> (first | omega | (simp only [HS, FRS, CCS, am_R, fl91, fl87] at *; omega))) | (refine okaI rfl rfl rfl rfl ?_ ?_ <;> (first | omega | (simp only [HS, FRS, CCS, am_R, fl91, fl87] at *; omega))) | (first | omega | (simp only [HS, FRS, CCS, am_R, fl91, fl87] at *; omega)) | (simp only [HS, FRS, CCS, fl91, fl87])) (fun c4 => ?_) (fun c4 => ?_)
          · by_cases hlt : b < f1 60 126
            · exact hmid hlt (Or.inr (Or.inl c4))
            · exact absurd c4 (by rw [(hend hlt).2]; decide)
          · refine am_W.br rfl rfl (by and_intros <;> first | trivial | exact okI rfl rfl rfl | (refine okrI rfl rfl rfl rfl ?_ ?_ <;> (first | omega | (simp only [HS, FRS, CCS, am_R, fl91, fl87] at *; omega))) | (refine okaI rfl rfl rfl rfl ?_ ?_ <;> (first | omega | (simp only [HS, FRS, CCS, am_R, fl91, fl87] at *; omega))) | (first | omega | (simp only [HS, FRS, CCS, am_R, fl91, fl87] at *; omega)) | (simp only [HS, FRS, CCS, fl91, fl87])) (fun c5 => ?_) (fun c5 => ?_)
            · refine hbad g b rfl ?_
              by_cases hlt : b < f1 60 126
              · have hne : t b ≠ -1 := by omega
                rw [ch_n hne] at *
                omega
              · have := (hend hlt).1
                omega
            · by_cases hlt : b < f1 60 126
              · exact hmid hlt (Or.inr (Or.inr (by omega)))
              · exact absurd (hend hlt).2 (by omega)
      have hin := c_Mo_in (d + 1) (ch t b) 32 126 (HH L B1 B2 f1 a1 aj) hcR (by and_intros <;> first | trivial | exact okI rfl rfl rfl | (refine okrI rfl rfl rfl rfl ?_ ?_ <;> (first | omega | (simp only [HS, FRS, CCS, am_R, fl91, fl87] at *; omega))) | (refine okaI rfl rfl rfl rfl ?_ ?_ <;> (first | omega | (simp only [HS, FRS, CCS, am_R, fl91, fl87] at *; omega))) | (first | omega | (simp only [HS, FRS, CCS, am_R, fl91, fl87] at *; omega)) | (simp only [HS, FRS, CCS, fl91, fl87])) (by and_intros <;> first | trivial | exact okI rfl rfl rfl | (refine okrI rfl rfl rfl rfl ?_ ?_ <;> (first | omega | (simp only [HS, FRS, CCS, am_R, fl91, fl87] at *; omega))) | (refine okaI rfl rfl rfl rfl ?_ ?_ <;> (first | omega | (simp only [HS, FRS, CCS, am_R, fl91, fl87] at *; omega))) | (first | omega | (simp only [HS, FRS, CCS, am_R, fl91, fl87] at *; omega)) | (simp only [HS, FRS, CCS, fl91, fl87]))
      refine am_W.br rfl rfl (by and_intros <;> first | trivial | exact okI rfl rfl rfl | (refine okrI rfl rfl rfl rfl ?_ ?_ <;> (first | omega | (simp only [HS, FRS, CCS, am_R, fl91, fl87] at *; omega))) | (refine okaI rfl rfl rfl rfl ?_ ?_ <;> (first | omega | (simp only [HS, FRS, CCS, am_R, fl91, fl87] at *; omega))) | (first | omega | (simp only [HS, FRS, CCS, am_R, fl91, fl87] at *; omega)) | (simp only [HS, FRS, CCS, fl91, fl87])) (fun c3 => ?_) (fun c3 => ?_)
      · simp only [HS, FRS, fl91, fl87] at c3
        refine am_W.gp 87 rfl (by and_intros <;> first | trivial | exact okI rfl rfl rfl | (refine okrI rfl rfl rfl rfl ?_ ?_ <;> (first | omega | (simp only [HS, FRS, CCS, am_R, fl91, fl87] at *; omega))) | (refine okaI rfl rfl rfl rfl ?_ ?_ <;> (first | omega | (simp only [HS, FRS, CCS, am_R, fl91, fl87] at *; omega))) | (first | omega | (simp only [HS, FRS, CCS, am_R, fl91, fl87] at *; omega)) | (simp only [HS, FRS, CCS, fl91, fl87])) ?_
        simp only [HS, FRS, fl91, fl87]
        exact hplain 0 (Or.inl rfl) (by omega)
      · simp only [HS, FRS, fl91, fl87] at c3
        refine am_W.cs rfl rfl rfl (by and_intros <;> first | trivial | exact okI rfl rfl rfl | (refine okrI rfl rfl rfl rfl ?_ ?_ <;> (first | omega | (simp only [HS, FRS, CCS, am_R, fl91, fl87] at *; omega))) | (refine okaI rfl rfl rfl rfl ?_ ?_ <;> (first | omega | (simp only [HS, FRS, CCS, am_R, fl91, fl87] at *; omega))) | (first | omega | (simp only [HS, FRS, CCS, am_R, fl91, fl87] at *; omega)) | (simp only [HS, FRS, CCS, fl91, fl87])) hin ?_
        rintro r1 h1 ⟨rfl, rfl⟩
        by_cases hi2 : 32 ≤ ch t b ∧ ch t b ≤ 126
        · rw [if_pos hi2]
          refine am_W.br rfl rfl (by and_intros <;> first | trivial | exact okI rfl rfl rfl | (refine okrI rfl rfl rfl rfl ?_ ?_ <;> (first | omega | (simp only [HS, FRS, CCS, am_R, fl91, fl87] at *; omega))) | (refine okaI rfl rfl rfl rfl ?_ ?_ <;> (first | omega | (simp only [HS, FRS, CCS, am_R, fl91, fl87] at *; omega))) | (first | omega | (simp only [HS, FRS, CCS, am_R, fl91, fl87] at *; omega)) | (simp only [HS, FRS, CCS, fl91, fl87])) (fun c4 => absurd c4 (by decide)) (fun c4 => ?_)
          simp only [HS, FRS, fl91, fl87]
          refine am_W.br rfl rfl (by and_intros <;> first | trivial | exact okI rfl rfl rfl | (refine okrI rfl rfl rfl rfl ?_ ?_ <;> (first | omega | (simp only [HS, FRS, CCS, am_R, fl91, fl87] at *; omega))) | (refine okaI rfl rfl rfl rfl ?_ ?_ <;> (first | omega | (simp only [HS, FRS, CCS, am_R, fl91, fl87] at *; omega))) | (first | omega | (simp only [HS, FRS, CCS, am_R, fl91, fl87] at *; omega)) | (simp only [HS, FRS, CCS, fl91, fl87])) (fun c5 => ?_) (fun c5 => ?_)
          · exact am_W.gp 87 rfl (by and_intros <;> first | trivial | exact okI rfl rfl rfl | (refine okrI rfl rfl rfl rfl ?_ ?_ <;> (first | omega | (simp only [HS, FRS, CCS, am_R, fl91, fl87] at *; omega))) | (refine okaI rfl rfl rfl rfl ?_ ?_ <;> (first | omega | (simp only [HS, FRS, CCS, am_R, fl91, fl87] at *; omega))) | (first | omega | (simp only [HS, FRS, CCS, am_R, fl91, fl87] at *; omega)) | (simp only [HS, FRS, CCS, fl91, fl87])) (hplain 0 (Or.inl rfl) (by omega))
          · refine am_W.br rfl rfl (by and_intros <;> first | trivial | exact okI rfl rfl rfl | (refine okrI rfl rfl rfl rfl ?_ ?_ <;> (first | omega | (simp only [HS, FRS, CCS, am_R, fl91, fl87] at *; omega))) | (refine okaI rfl rfl rfl rfl ?_ ?_ <;> (first | omega | (simp only [HS, FRS, CCS, am_R, fl91, fl87] at *; omega))) | (first | omega | (simp only [HS, FRS, CCS, am_R, fl91, fl87] at *; omega)) | (simp only [HS, FRS, CCS, fl91, fl87])) (fun c6 => ?_) (fun c6 => ?_)
            · exact am_W.gp 87 rfl (by and_intros <;> first | trivial | exact okI rfl rfl rfl | (refine okrI rfl rfl rfl rfl ?_ ?_ <;> (first | omega | (simp only [HS, FRS, CCS, am_R, fl91, fl87] at *; omega))) | (refine okaI rfl rfl rfl rfl ?_ ?_ <;> (first | omega | (simp only [HS, FRS, CCS, am_R, fl91, fl87] at *; omega))) | (first | omega | (simp only [HS, FRS, CCS, am_R, fl91, fl87] at *; omega)) | (simp only [HS, FRS, CCS, fl91, fl87])) (hplain 0 (Or.inl rfl) (by omega))
            · refine am_W.br rfl rfl (by and_intros <;> first | trivial | exact okI rfl rfl rfl | (refine okrI rfl rfl rfl rfl ?_ ?_ <;> (first | omega | (simp only [HS, FRS, CCS, am_R, fl91, fl87] at *; omega))) | (refine okaI rfl rfl rfl rfl ?_ ?_ <;> (first | omega | (simp only [HS, FRS, CCS, am_R, fl91, fl87] at *; omega))) | (first | omega | (simp only [HS, FRS, CCS, am_R, fl91, fl87] at *; omega)) | (simp only [HS, FRS, CCS, fl91, fl87])) (fun c7 => ?_) (fun c7 => ?_)
              · exact am_W.gp 87 rfl (by and_intros <;> first | trivial | exact okI rfl rfl rfl | (refine okrI rfl rfl rfl rfl ?_ ?_ <;> (first | omega | (simp only [HS, FRS, CCS, am_R, fl91, fl87] at *; omega))) | (refine okaI rfl rfl rfl rfl ?_ ?_ <;> (first | omega | (simp only [HS, FRS, CCS, am_R, fl91, fl87] at *; omega))) | (first | omega | (simp only [HS, FRS, CCS, am_R, fl91, fl87] at *; omega)) | (simp only [HS, FRS, CCS, fl91, fl87])) (hplain 0 (Or.inl rfl) (by omega))
              · exact am_W.gp 87 rfl (by and_intros <;> first | trivial | exact okI rfl rfl rfl | (refine okrI rfl rfl rfl rfl ?_ ?_ <;> (first | omega | (simp only [HS, FRS, CCS, am_R, fl91, fl87] at *; omega))) | (refine okaI rfl rfl rfl rfl ?_ ?_ <;> (first | omega | (simp only [HS, FRS, CCS, am_R, fl91, fl87] at *; omega))) | (first | omega | (simp only [HS, FRS, CCS, am_R, fl91, fl87] at *; omega)) | (simp only [HS, FRS, CCS, fl91, fl87])) (hplain 1 (Or.inr rfl) (by omega))
        · rw [if_neg hi2]
          refine am_W.br rfl rfl (by and_intros <;> first | trivial | exact okI rfl rfl rfl | (refine okrI rfl rfl rfl rfl ?_ ?_ <;> (first | omega | (simp only [HS, FRS, CCS, am_R, fl91, fl87] at *; omega))) | (refine okaI rfl rfl rfl rfl ?_ ?_ <;> (first | omega | (simp only [HS, FRS, CCS, am_R, fl91, fl87] at *; omega))) | (first | omega | (simp only [HS, FRS, CCS, am_R, fl91, fl87] at *; omega)) | (simp only [HS, FRS, CCS, fl91, fl87])) (fun c4 => ?_) (fun c4 => absurd rfl c4)
          simp only [HS, FRS, fl91, fl87]
          exact am_W.gp 87 rfl (by and_intros <;> first | trivial | exact okI rfl rfl rfl | (refine okrI rfl rfl rfl rfl ?_ ?_ <;> (first | omega | (simp only [HS, FRS, CCS, am_R, fl91, fl87] at *; omega))) | (refine okaI rfl rfl rfl rfl ?_ ?_ <;> (first | omega | (simp only [HS, FRS, CCS, am_R, fl91, fl87] at *; omega))) | (first | omega | (simp only [HS, FRS, CCS, am_R, fl91, fl87] at *; omega)) | (simp only [HS, FRS, CCS, fl91, fl87])) (hplain 0 (Or.inl rfl) (by omega))
  intro k
  induction k with
  | zero =>
    intro l f1 a1 c l4 l5 l6 l7 hk hc hF hA h91 hL hl hR
    refine hbody 0 l f1 a1 c l4 l5 l6 l7 hk hc hF hA h91 hL hl hR ?_
    intro b g hb hlt h34 hnb hg
    have fl91 := h91
    have fl87 : True := trivial
    have o2 := hL.2.1
    have n1 := hL.1.2.1
    rw [← hb, pcs_0 h34 hnb] at hR
    have egf : am_gf (HH L B1 B2 f1 a1 aj) 90 126 0 = .inl b := by rw [hb]; rfl
    refine am_W.br rfl rfl (by and_intros <;> first | trivial | exact okI rfl rfl rfl | (refine okrI rfl rfl rfl rfl ?_ ?_ <;> (first | omega | (simp only [HS, FRS, CCS, am_R, fl91, fl87] at *; omega))) | (refine okaI rfl rfl rfl rfl ?_ ?_ <;> (first | omega | (simp only [HS, FRS, CCS, am_R, fl91, fl87] at *; omega))) | (first | omega | (simp only [HS, FRS, CCS, am_R, fl91, fl87] at *; omega)) | (simp only [HS, FRS, CCS, fl91, fl87])) (fun c1 => absurd c1 (by omega)) (fun c1 => ?_)
    refine am_W.cv 10 m_Mo_fail rfl rfl rfl rfl (by and_intros <;> first | trivial | exact okI rfl rfl rfl | (refine okrI rfl rfl rfl rfl ?_ ?_ <;> (first | omega | (simp only [HS, FRS, CCS, am_R, fl91, fl87] at *; omega))) | (refine okaI rfl rfl rfl rfl ?_ ?_ <;> (first | omega | (simp only [HS, FRS, CCS, am_R, fl91, fl87] at *; omega))) | (first | omega | (simp only [HS, FRS, CCS, am_R, fl91, fl87] at *; omega)) | (simp only [HS, FRS, CCS, fl91, fl87])) (by rw [egf]; exact c_mfail (d + 1) L B1 B2 f1 a1 aj 1 b h91 (Or.inr rfl) ⟨by omega, by omega⟩) ?_
    rintro r1 h1 ⟨rfl, f2, rfl, g1, g2, g3⟩
    rw [if_pos rfl] at g2
    exact am_W.gp 2 rfl (by and_intros <;> first | trivial | exact okI rfl rfl rfl | (refine okrI rfl rfl rfl rfl ?_ ?_ <;> (first | omega | (simp only [HS, FRS, CCS, am_R, fl91, fl87] at *; omega))) | (refine okaI rfl rfl rfl rfl ?_ ?_ <;> (first | omega | (simp only [HS, FRS, CCS, am_R, fl91, fl87] at *; omega))) | (first | omega | (simp only [HS, FRS, CCS, am_R, fl91, fl87] at *; omega)) | (simp only [HS, FRS, CCS, fl91, fl87])) (hfail f2 a1 _ _ _ _ _ _ (hF.tr g1) hA g2 hR)
  | succ k ih =>
    intro l f1 a1 c l4 l5 l6 l7 hk hc hF hA h91 hL hl hR
    refine hbody (k + 1) l f1 a1 c l4 l5 l6 l7 hk hc hF hA h91 hL hl hR ?_
    intro b g hb hlt h34 hnb hg
    have o2 := hL.2.1
    have n1 := hL.1.2.1
    have e1 : tx (f1 60 126) (a1 131) = t := by rw [hF 60 126 (by omega), hA.1 131 (by decide) (by decide)]; exact et
    rw [← hb, pcs_s k h34 hnb] at hR
    have fl91 : ∀ x, am_u2 f1 90 126 x 90 126 = x := fun x => u2s
    have fl87 := hb.symm
    -- a piece is put
    have hput : ∀ (f2 : Nat → Nat → Int) (y x b' : Int) (l6 l7 : Option am_V), FM fi f2 → f2 91 126 = 0 → LM f2 a1 → f2 90 126 = b' → y = rp x → pPc t m b = .inr (x, b') → am_W (am_ev am_prog (d + 2)) T_Mo_template (fun w h' => w = none ∧ MoQ L B1 B2 aj fi (FT n ai) R (KT n t) h') (188, [some (.inr (.inr 126)), some (.inl n), some (.inl m), some (.inl c), some (.inl (t b)), some (.inl b), l6, l7], [.inl y], HH L B1 B2 f2 a1 aj) := by
      intro f2 y x b' l6 l7 hF2 h2 hL2 hb' hy hp
      rw [hp, pb_r] at hR
      refine am_W.gp 2 rfl (by and_intros <;> first | trivial | exact okI rfl rfl rfl | (refine okrI rfl rfl rfl rfl ?_ ?_ <;> (first | omega | (simp only [HS, FRS, CCS, am_R, fl91, fl87] at *; omega))) | (refine okaI rfl rfl rfl rfl ?_ ?_ <;> (first | omega | (simp only [HS, FRS, CCS, am_R, fl91, fl87] at *; omega))) | (first | omega | (simp only [HS, FRS, CCS, am_R, fl91, fl87] at *; omega)) | (simp only [HS, FRS, CCS, fl91, fl87])) (ih (l ++ [x]) f2 (am_u2 a1 148 (30 * n + c) y) (c + 1) _ _ _ _ ?_ ?_ hF2 (hA.tr (FT_8 ⟨by omega, by omega⟩)) h2 (LM_a (funext fun j => u2n (by decide)) hL2) ?_ ?_)
      · rw [List.length_append, List.length_singleton]
        omega
      · rw [List.length_append, List.length_singleton]
        omega
      · intro i hi
        rw [List.length_append, List.length_singleton] at hi
        rw [getD_app]
        by_cases hil : i < l.length
        · rw [u2b (by omega), if_pos hil]
          exact hl i hil
        · rw [if_neg hil, if_pos (by omega), show (30 * n + (i : Int)) = 30 * n + c by omega, u2s]
          exact hy
      · rw [hb']
        exact hR
    have hputF : ∀ (f2 : Nat → Nat → Int) (y e : Int) (l6 l7 : Option am_V), FM fi f2 → FL f2 e → pPc t m b = .inl e → am_W (am_ev am_prog (d + 2)) T_Mo_template (fun w h' => w = none ∧ MoQ L B1 B2 aj fi (FT n ai) R (KT n t) h') (188, [some (.inr (.inr 126)), some (.inl n), some (.inl m), some (.inl c), some (.inl (t b)), some (.inl b), l6, l7], [.inl y], HH L B1 B2 f2 a1 aj) := by
      intro f2 y e l6 l7 hF2 he hp
      rw [hp, pb_l] at hR
      exact am_W.gp 2 rfl (by and_intros <;> first | trivial | exact okI rfl rfl rfl | (refine okrI rfl rfl rfl rfl ?_ ?_ <;> (first | omega | (simp only [HS, FRS, CCS, am_R, fl91, fl87] at *; omega))) | (refine okaI rfl rfl rfl rfl ?_ ?_ <;> (first | omega | (simp only [HS, FRS, CCS, am_R, fl91, fl87] at *; omega))) | (first | omega | (simp only [HS, FRS, CCS, am_R, fl91, fl87] at *; omega)) | (simp only [HS, FRS, CCS, fl91, fl87])) (hfail f2 (am_u2 a1 148 (30 * n + c) y) _ e _ _ _ _ hF2 (hA.tr (FT_8 ⟨by omega, by omega⟩)) he hR)
    have hF2 : FM fi (am_u2 f1 90 126 (b + 1)) := hF.tr (FM_u (by omega))
    have h2 : am_u2 f1 90 126 (b + 1) 91 126 = 0 := by rw [u2n (by decide)]; exact h91
    have hL2 : LM (am_u2 f1 90 126 (b + 1)) a1 := LM_90 hL ⟨by omega, by omega⟩
    have et2 : tx (am_u2 f1 90 126 (b + 1) 60 126) (a1 131) = t := by rw [u2n (by decide)]; exact e1
    refine am_W.br rfl rfl (by and_intros <;> first | trivial | exact okI rfl rfl rfl | (refine okrI rfl rfl rfl rfl ?_ ?_ <;> (first | omega | (simp only [HS, FRS, CCS, am_R, fl91, fl87] at *; omega))) | (refine okaI rfl rfl rfl rfl ?_ ?_ <;> (first | omega | (simp only [HS, FRS, CCS, am_R, fl91, fl87] at *; omega))) | (first | omega | (simp only [HS, FRS, CCS, am_R, fl91, fl87] at *; omega)) | (simp only [HS, FRS, CCS, fl91, fl87])) (fun c1 => ?_) (fun c1 => absurd c1 (by omega))
    refine am_W.br rfl rfl (by and_intros <;> first | trivial | exact okI rfl rfl rfl | (refine okrI rfl rfl rfl rfl ?_ ?_ <;> (first | omega | (simp only [HS, FRS, CCS, am_R, fl91, fl87] at *; omega))) | (refine okaI rfl rfl rfl rfl ?_ ?_ <;> (first | omega | (simp only [HS, FRS, CCS, am_R, fl91, fl87] at *; omega))) | (first | omega | (simp only [HS, FRS, CCS, am_R, fl91, fl87] at *; omega)) | (simp only [HS, FRS, CCS, fl91, fl87])) (fun c2 => ?_) (fun c2 => ?_)
    · refine am_W.br rfl rfl (by and_intros <;> first | trivial | exact okI rfl rfl rfl | (refine okrI rfl rfl rfl rfl ?_ ?_ <;> (first | omega | (simp only [HS, FRS, CCS, am_R, fl91, fl87] at *; omega))) | (refine okaI rfl rfl rfl rfl ?_ ?_ <;> (first | omega | (simp only [HS, FRS, CCS, am_R, fl91, fl87] at *; omega))) | (first | omega | (simp only [HS, FRS, CCS, am_R, fl91, fl87] at *; omega)) | (simp only [HS, FRS, CCS, fl91, fl87])) (fun c3 => ?_) (fun c3 => ?_)
      · have h123 : t b = 123 := by omega
        refine am_W.cv 10 m_Mo_column rfl rfl rfl rfl (by and_intros <;> first | trivial | exact okI rfl rfl rfl | (refine okrI rfl rfl rfl rfl ?_ ?_ <;> (first | omega | (simp only [HS, FRS, CCS, am_R, fl91, fl87] at *; omega))) | (refine okaI rfl rfl rfl rfl ?_ ?_ <;> (first | omega | (simp only [HS, FRS, CCS, am_R, fl91, fl87] at *; omega))) | (first | omega | (simp only [HS, FRS, CCS, am_R, fl91, fl87] at *; omega)) | (simp only [HS, FRS, CCS, fl91, fl87])) (by simp only [HS, FRS, fl91, fl87]; exact c_mcolumn d L B1 B2 (am_u2 f1 90 126 (b + 1)) a1 aj t m (b + 1) ⟨by omega, by omega⟩ h2 hL2 et2 u2s) ?_
        rintro r1 h1 ⟨rfl, f3, rfl, g1, g2⟩
        have hpp := pPc_c (t := t) (m := m) (b := b) h123
        cases hci : cIn t m (b + 1) with
        | inl e =>
          rw [hci] at g2 hpp
          exact hputF f3 _ e _ _ (hF2.tr g1) g2 hpp
        | inr x =>
          rw [hci] at g2 hpp
          have hxv : x.1 = (dge t 4 (b + 1) 0).2 ∧ x.1 < m := by
            unfold cIn at hci
            split at hci
            · cases hci
            · split at hci
              · cases hci
              · split at hci
                · cases hci
                  exact ⟨rfl, by dsimp only; omega⟩
                · cases hci
          refine hput f3 _ x.1 x.2 _ _ (hF2.tr g1) g2.1 g2.2.2 g2.2.1 ?_ hpp
          rw [rp, if_pos (by omega), hxv.1]
      · have h92 : t b = 92 := by omega
        refine am_W.cv 10 m_Mo_escaped rfl rfl rfl rfl (by and_intros <;> first | trivial | exact okI rfl rfl rfl | (refine okrI rfl rfl rfl rfl ?_ ?_ <;> (first | omega | (simp only [HS, FRS, CCS, am_R, fl91, fl87] at *; omega))) | (refine okaI rfl rfl rfl rfl ?_ ?_ <;> (first | omega | (simp only [HS, FRS, CCS, am_R, fl91, fl87] at *; omega))) | (first | omega | (simp only [HS, FRS, CCS, am_R, fl91, fl87] at *; omega)) | (simp only [HS, FRS, CCS, fl91, fl87])) (by simp only [HS, FRS, fl91, fl87]; exact c_mescaped d L B1 B2 (am_u2 f1 90 126 (b + 1)) a1 aj t (b + 1) h2 hL2 et2 u2s) ?_
        rintro r1 h1 ⟨rfl, f3, rfl, g1, g2, g3⟩
        have hpp := pPc_e (t := t) (m := m) (b := b) h92
        by_cases he : esc (t (b + 1))
        · rw [if_pos he] at hpp
          obtain ⟨q1, q2, q3⟩ := g2 he
          refine am_W.gp 188 rfl (by and_intros <;> first | trivial | exact okI rfl rfl rfl | (refine okrI rfl rfl rfl rfl ?_ ?_ <;> (first | omega | (simp only [HS, FRS, CCS, am_R, fl91, fl87] at *; omega))) | (refine okaI rfl rfl rfl rfl ?_ ?_ <;> (first | omega | (simp only [HS, FRS, CCS, am_R, fl91, fl87] at *; omega))) | (first | omega | (simp only [HS, FRS, CCS, am_R, fl91, fl87] at *; omega)) | (simp only [HS, FRS, CCS, fl91, fl87])) (hput f3 _ (t (b + 1)) (b + 2) _ _ (hF2.tr g1) q1 q3 (by omega) ?_ hpp)
          rw [ch_n (by omega), rp, if_neg (by omega)]
        · rw [if_neg he] at hpp
          exact am_W.gp 188 rfl (by and_intros <;> first | trivial | exact okI rfl rfl rfl | (refine okrI rfl rfl rfl rfl ?_ ?_ <;> (first | omega | (simp only [HS, FRS, CCS, am_R, fl91, fl87] at *; omega))) | (refine okaI rfl rfl rfl rfl ?_ ?_ <;> (first | omega | (simp only [HS, FRS, CCS, am_R, fl91, fl87] at *; omega))) | (first | omega | (simp only [HS, FRS, CCS, am_R, fl91, fl87] at *; omega)) | (simp only [HS, FRS, CCS, fl91, fl87])) (hputF f3 _ _ _ _ (hF2.tr g1) (g3 he) hpp)
    · have hp1 : ¬ t b = 92 ∧ ¬ t b = 123 := by omega
      refine am_W.gp 188 rfl (by and_intros <;> first | trivial | exact okI rfl rfl rfl | (refine okrI rfl rfl rfl rfl ?_ ?_ <;> (first | omega | (simp only [HS, FRS, CCS, am_R, fl91, fl87] at *; omega))) | (refine okaI rfl rfl rfl rfl ?_ ?_ <;> (first | omega | (simp only [HS, FRS, CCS, am_R, fl91, fl87] at *; omega))) | (first | omega | (simp only [HS, FRS, CCS, am_R, fl91, fl87] at *; omega)) | (simp only [HS, FRS, CCS, fl91, fl87])) ?_
      simp only [HS, FRS, fl91, fl87]
      refine hput (am_u2 f1 90 126 (b + 1)) (t b) (t b) (b + 1) _ _ hF2 h2 hL2 u2s ?_ (pPc_p hp1.2 hp1.1)
      rw [rp, if_neg (by omega)]
set_option maxHeartbeats 400000 in
set_option maxRecDepth 100000 in
theorem c_mtemplate (d L B1 B2 : Nat) (fi : Nat → Nat → Int) (ai aj : Nat → Int → Int) (n m : Int) (t : Int → Int) (hn : 0 ≤ n ∧ n < 18) (hm : 0 ≤ m ∧ m ≤ 4) (h91 : fi 91 126 = 0) (hL : LM fi ai) (et : tx (fi 60 126) (ai 131) = t) : am_M am_prog (d + 3) m_Mo_template [.inr (.inr 126), .inl n, .inl m] (HH L B1 B2 fi ai aj) (fun w h' => w = none ∧ MoQ L B1 B2 aj fi (FT n ai) (pcs t m 30 (fi 90 126) []) (KT n t) h') := by
  have fl91 : True := trivial
  have fl87 : True := trivial
  refine am_W.of rfl rfl ?_
  exact am_W.gp 2 rfl (by and_intros <;> first | trivial | exact okI rfl rfl rfl | (refine okrI rfl rfl rfl rfl ?_ ?_ <;> (first | omega | (simp only [HS, FRS, CCS, am_R, fl91, fl87] at *; omega))) | (refine okaI rfl rfl rfl rfl ?_ ?_ <;> (first | omega | (simp only [HS, FRS, CCS, am_R, fl91, fl87] at *; omega))) | (first | omega | (simp only [HS, FRS, CCS, am_R, fl91, fl87] at *; omega)) | (simp only [HS, FRS, CCS, fl91, fl87])) (l_mtemplate d L B1 B2 fi ai aj n m hn hm t et _ 30 [] fi ai 0 none none none none rfl rfl FM.rf FT.rf h91 hL (fun i hi => absurd hi (Nat.not_lt_zero i)) rfl)
