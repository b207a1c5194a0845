-- printing by the reference
def HQ (L B1 B2 : Nat) (fi : Nat → Nat → Int) (ai aj : Nat → Int → Int) (l : List Int) : am_H := HH L B1 B2 (am_u2 fi 109 126 (l.length : Int)) (am_sa ai 169 (wr (ai 169) l)) aj
theorem HQ_ok (L B1 B2 : Nat) (fi : Nat → Nat → Int) (ai aj : Nat → Int → Int) (l : List Int) : am_ok (HQ L B1 B2 fi ai aj l) 126 10 := okI rfl rfl rfl
set_option maxHeartbeats 400000 in
set_option maxRecDepth 100000 in
theorem c_say (d L B1 B2 : Nat) (fi : Nat → Nat → Int) (ai aj : Nat → Int → Int) (l : List Int) (b : Int) (hl : l.length < 6000) (hb : -128 ≤ b ∧ b < 128) : am_M am_prog (d + 1) m_Mo_say [.inr (.inr 126), .inl b] (HQ L B1 B2 fi ai aj l) (fun w h' => w = none ∧ h' = HQ L B1 B2 fi ai aj (l ++ [b])) := by
  unfold HQ
  generalize hn : (l.length : Int) = n
  generalize hT : wr (ai 169) l = T
  have hn2 : 0 ≤ n ∧ n < 6000 := by omega
  have u36 : am_u2 fi 109 126 n 109 126 = n := u2s
  refine am_W.of rfl rfl ?_
  refine am_W.rt rfl rfl (by simp only [HS, FRS, u36]; exact (by and_intros <;> first | trivial | exact okI rfl rfl rfl | (refine okrI rfl rfl rfl rfl ?_ ?_ <;> (first | omega | (simp only [HS, FRS, CCS, am_R] at *; omega))) | (refine okaI rfl rfl rfl rfl ?_ ?_ <;> (first | omega | (simp only [HS, FRS, CCS, am_R] at *; omega))) | (first | omega | (simp only [HS, FRS, CCS, am_R] at *; omega)) | (simp only [HS, FRS, CCS]))) ⟨rfl, ?_⟩
  simp only [HS, FRS, u2s, u2u, u2sa]
  rw [← hT, ← hn, wr_s, List.length_append, List.length_singleton]
  rfl
def wds (a b c e : Int) : List Int := [a] ++ ([b] ++ ((if 0 < c then [c] else []) ++ ((if 0 < e then [e] else []) ++ [32])))
set_option maxHeartbeats 400000 in
set_option maxRecDepth 100000 in
theorem c_sayWord (d L B1 B2 : Nat) (fi : Nat → Nat → Int) (ai aj : Nat → Int → Int) (l : List Int) (a b c e : Int) (hl : l.length + 5 ≤ 6000) (ha : -128 ≤ a ∧ a < 128) (hb : -128 ≤ b ∧ b < 128) (hc : -128 ≤ c ∧ c < 128) (he : -128 ≤ e ∧ e < 128) : am_M am_prog (d + 2) m_Mo_sayWord [.inr (.inr 126), .inl a, .inl b, .inl c, .inl e] (HQ L B1 B2 fi ai aj l) (fun w h' => w = none ∧ h' = HQ L B1 B2 fi ai aj (l ++ wds a b c e)) := by
  have h30 : ∀ l1 : List Int, l1.length + 1 ≤ 6000 → am_W (am_ev am_prog (d + 1)) T_Mo_sayWord (fun w h' => w = none ∧ h' = HQ L B1 B2 fi ai aj (l1 ++ [32])) (30, [some (.inr (.inr 126)), some (.inl a), some (.inl b), some (.inl c), some (.inl e)], [], HQ L B1 B2 fi ai aj l1) := by
    intro l1 h1
    refine am_W.cv 10 m_Mo_say rfl rfl rfl rfl ⟨trivial, HQ_ok _ _ _ _ _ _ _⟩ (c_say d L B1 B2 fi ai aj l1 32 (by omega) (by omega)) ?_
    rintro r1 h1 ⟨rfl, rfl⟩
    exact am_W.rt rfl rfl ⟨trivial, trivial⟩ ⟨rfl, rfl⟩
  have h19 : ∀ l1 : List Int, l1.length + 2 ≤ 6000 → am_W (am_ev am_prog (d + 1)) T_Mo_sayWord (fun w h' => w = none ∧ h' = HQ L B1 B2 fi ai aj (l1 ++ ((if 0 < e then [e] else []) ++ [32]))) (19, [some (.inr (.inr 126)), some (.inl a), some (.inl b), some (.inl c), some (.inl e)], [], HQ L B1 B2 fi ai aj l1) := by
    intro l1 h1
    by_cases hq : 0 < e
    · rw [if_pos hq]
      refine am_W.br rfl rfl ⟨trivial, ⟨by omega, by omega⟩⟩ (fun c1 => absurd c1 (by omega)) (fun c1 => ?_)
      refine am_W.cv 10 m_Mo_say rfl rfl rfl rfl ⟨trivial, HQ_ok _ _ _ _ _ _ _⟩ (c_say d L B1 B2 fi ai aj l1 e (by omega) he) ?_
      rintro r1 h1 ⟨rfl, rfl⟩
      rw [← List.append_assoc]
      exact h30 _ (by rw [List.length_append, List.length_singleton]; omega)
    · rw [if_neg hq, List.nil_append]
      exact am_W.br rfl rfl ⟨trivial, ⟨by omega, by omega⟩⟩ (fun c1 => h30 l1 (by omega)) (fun c1 => absurd c1 (by omega))
  refine am_W.of rfl rfl ?_
  unfold wds
  refine am_W.cv 10 m_Mo_say rfl rfl rfl rfl ⟨trivial, HQ_ok _ _ _ _ _ _ _⟩ (c_say d L B1 B2 fi ai aj l a (by omega) ha) ?_
  rintro r1 h1 ⟨rfl, rfl⟩
  refine am_W.cv 10 m_Mo_say rfl rfl rfl rfl ⟨trivial, HQ_ok _ _ _ _ _ _ _⟩ (c_say d L B1 B2 fi ai aj (l ++ [a]) b (by rw [List.length_append, List.length_singleton]; omega) hb) ?_
  rintro r1 h1 ⟨rfl, rfl⟩
  rw [← List.append_assoc, ← List.append_assoc]
  by_cases hq : 0 < c
  · rw [if_pos hq]
    refine am_W.br rfl rfl ⟨trivial, ⟨by omega, by omega⟩⟩ (fun c1 => absurd c1 (by omega)) (fun c1 => ?_)
    refine am_W.cv 10 m_Mo_say rfl rfl rfl rfl ⟨trivial, HQ_ok _ _ _ _ _ _ _⟩ (c_say d L B1 B2 fi ai aj (l ++ [a] ++ [b]) c (by simp only [List.length_append, List.length_cons, List.length_nil]; omega) hc) ?_
    rintro r1 h1 ⟨rfl, rfl⟩
    rw [← List.append_assoc]
    exact h19 _ (by simp only [List.length_append, List.length_cons, List.length_nil]; omega)
  · rw [if_neg hq, List.nil_append]
    exact am_W.br rfl rfl ⟨trivial, ⟨by omega, by omega⟩⟩ (fun c1 => h19 _ (by simp only [List.length_append, List.length_cons, List.length_nil]; omega)) (fun c1 => absurd c1 (by omega))
set_option maxHeartbeats 400000 in
set_option maxRecDepth 100000 in
theorem c_sayDigits (d L B1 B2 : Nat) (fi : Nat → Nat → Int) (ai aj : Nat → Int → Int) (l : List Int) (v : Int) (hv : 0 ≤ v ∧ v ≤ 9999) (hl : l.length + 4 ≤ 6000) : am_M am_prog (d + 2) m_Mo_sayDigits [.inr (.inr 126), .inl v] (HQ L B1 B2 fi ai aj l) (fun w h' => w = none ∧ h' = HQ L B1 B2 fi ai aj (l ++ dgs v)) := by
  have e1 : ∀ k : Int, v.tdiv k = v / k := fun k => Int.tdiv_eq_ediv_of_nonneg hv.1
  have e2 : ∀ x : Int, 0 ≤ x → x.tmod 10 = x % 10 := fun x hx => Int.tmod_eq_emod_of_nonneg hx
  have hstep : ∀ (k k2 : Int) (l1 rest : List Int), (k = 1000 ∧ k2 = 100) ∨ (k = 100 ∧ k2 = 10) ∨ (k = 10 ∧ k2 = 1) ∨ (k = 1 ∧ k2 = 0) → l1.length < 6000 → am_W (am_ev am_prog (d + 1)) T_Mo_sayDigits (fun w h' => w = none ∧ h' = HQ L B1 B2 fi ai aj (l1 ++ [48 + v / k % 10] ++ rest)) (37, [some (.inr (.inr 126)), some (.inl v), some (.inl k2)], [], HQ L B1 B2 fi ai aj (l1 ++ [48 + v / k % 10])) → am_W (am_ev am_prog (d + 1)) T_Mo_sayDigits (fun w h' => w = none ∧ h' = HQ L B1 B2 fi ai aj (l1 ++ ([48 + v / k % 10] ++ rest))) (37, [some (.inr (.inr 126)), some (.inl v), some (.inl k)], [], HQ L B1 B2 fi ai aj l1) := by
    intro k k2 l1 rest hk h1 w
    have hp := c_say d L B1 B2 fi ai aj l1 (48 + v / k % 10) h1 (by omega)
    have hd : 0 ≤ v / k ∧ v / k ≤ 9999 := by
      rcases hk with ⟨rfl, _⟩ | ⟨rfl, _⟩ | ⟨rfl, _⟩ | ⟨rfl, _⟩ <;> omega
    have hk2 : k.tdiv 10 = k2 := by
      rcases hk with ⟨rfl, rfl⟩ | ⟨rfl, rfl⟩ | ⟨rfl, rfl⟩ | ⟨rfl, rfl⟩ <;> decide
    rw [List.append_assoc] at w
    refine am_W.br rfl rfl ⟨trivial, ⟨by omega, by omega⟩⟩ (fun c1 => absurd c1 (by omega)) (fun c1 => ?_)
    rw [← e2 _ hd.1, ← e1 k] at hp w ⊢
    refine am_W.cv 10 m_Mo_say rfl rfl rfl rfl ⟨⟨⟨trivial, ⟨by omega, by omega⟩, ⟨by omega, by omega⟩, by omega⟩, by rw [e1]; exact ⟨by omega, by omega⟩, ⟨by omega, by omega⟩, by decide⟩, HQ_ok _ _ _ _ _ _ _⟩ hp ?_
    rintro r1 h1 ⟨rfl, rfl⟩
    refine am_W.gp 37 rfl ⟨trivial, ⟨by omega, by omega⟩, ⟨by omega, by omega⟩, by decide⟩ ?_
    rw [hk2]
    exact w
  have h0 : ∀ l1 : List Int, am_W (am_ev am_prog (d + 1)) T_Mo_sayDigits (fun w h' => w = none ∧ h' = HQ L B1 B2 fi ai aj (l1 ++ [])) (37, [some (.inr (.inr 126)), some (.inl v), some (.inl 0)], [], HQ L B1 B2 fi ai aj l1) := by
    intro l1
    rw [List.append_nil]
    refine am_W.br rfl rfl ⟨trivial, ⟨by omega, by omega⟩⟩ (fun c1 => ?_) (fun c1 => absurd (Int.le_refl 0) c1)
    exact am_W.rt rfl rfl ⟨trivial, trivial⟩ ⟨rfl, rfl⟩
  have h1 : ∀ l1 : List Int, l1.length < 6000 → am_W (am_ev am_prog (d + 1)) T_Mo_sayDigits (fun w h' => w = none ∧ h' = HQ L B1 B2 fi ai aj (l1 ++ ([48 + v / 1 % 10] ++ []))) (37, [some (.inr (.inr 126)), some (.inl v), some (.inl 1)], [], HQ L B1 B2 fi ai aj l1) := fun l1 hl1 => hstep 1 0 l1 [] (by omega) hl1 (h0 _)
  have h2 : ∀ l1 : List Int, l1.length + 1 < 6000 → am_W (am_ev am_prog (d + 1)) T_Mo_sayDigits (fun w h' => w = none ∧ h' = HQ L B1 B2 fi ai aj (l1 ++ ([48 + v / 10 % 10] ++ ([48 + v / 1 % 10] ++ [])))) (37, [some (.inr (.inr 126)), some (.inl v), some (.inl 10)], [], HQ L B1 B2 fi ai aj l1) := fun l1 hl1 => hstep 10 1 l1 _ (by omega) (by omega) (h1 _ (by rw [List.length_append, List.length_singleton]; omega))
  have h3 : ∀ l1 : List Int, l1.length + 2 < 6000 → am_W (am_ev am_prog (d + 1)) T_Mo_sayDigits (fun w h' => w = none ∧ h' = HQ L B1 B2 fi ai aj (l1 ++ ([48 + v / 100 % 10] ++ ([48 + v / 10 % 10] ++ ([48 + v / 1 % 10] ++ []))))) (37, [some (.inr (.inr 126)), some (.inl v), some (.inl 100)], [], HQ L B1 B2 fi ai aj l1) := fun l1 hl1 => hstep 100 10 l1 _ (by omega) (by omega) (h2 _ (by rw [List.length_append, List.length_singleton]; omega))
  have h4 : ∀ l1 : List Int, l1.length + 3 < 6000 → am_W (am_ev am_prog (d + 1)) T_Mo_sayDigits (fun w h' => w = none ∧ h' = HQ L B1 B2 fi ai aj (l1 ++ ([48 + v / 1000 % 10] ++ ([48 + v / 100 % 10] ++ ([48 + v / 10 % 10] ++ ([48 + v / 1 % 10] ++ [])))))) (37, [some (.inr (.inr 126)), some (.inl v), some (.inl 1000)], [], HQ L B1 B2 fi ai aj l1) := fun l1 hl1 => hstep 1000 100 l1 _ (by omega) (by omega) (h3 _ (by rw [List.length_append, List.length_singleton]; omega))
  rw [Int.ediv_one, List.append_nil] at h1 h2 h3 h4
  refine am_W.of rfl rfl ?_
  unfold dgs
  refine am_W.br rfl rfl ⟨trivial, ⟨by omega, by omega⟩, ⟨by omega, by omega⟩⟩ (fun c1 => ?_) (fun c1 => ?_)
  · refine am_W.br rfl rfl ⟨trivial, ⟨by omega, by omega⟩, ⟨by omega, by omega⟩⟩ (fun c2 => ?_) (fun c2 => ?_)
    · refine am_W.br rfl rfl ⟨trivial, ⟨by omega, by omega⟩, ⟨by omega, by omega⟩⟩ (fun c3 => ?_) (fun c3 => ?_)
      · rw [if_pos (by omega), if_pos (by omega), if_pos (by omega)]
        exact am_W.gp 37 rfl trivial (h4 l (by omega))
      · rw [if_neg (by omega), if_pos (by omega), if_pos (by omega), List.nil_append]
        exact am_W.gp 37 rfl trivial (h3 l (by omega))
    · rw [if_neg (by omega), if_neg (by omega), if_pos (by omega), List.nil_append, List.nil_append]
      exact am_W.gp 37 rfl trivial (h2 l (by omega))
  · rw [if_neg (by omega), if_neg (by omega), if_neg (by omega), List.nil_append, List.nil_append, List.nil_append]
    exact am_W.gp 37 rfl trivial (h1 l (by omega))
set_option maxHeartbeats 400000 in
set_option maxRecDepth 100000 in
theorem c_sayNumber (d L B1 B2 : Nat) (fi : Nat → Nat → Int) (ai aj : Nat → Int → Int) (l : List Int) (v : Int) (hv : 0 ≤ v ∧ v ≤ 9999) (hl : l.length + 5 ≤ 6000) : am_M am_prog (d + 3) m_Mo_sayNumber [.inr (.inr 126), .inl v] (HQ L B1 B2 fi ai aj l) (fun w h' => w = none ∧ h' = HQ L B1 B2 fi ai aj (l ++ (dgs v ++ [32]))) := by
  have h4 : (dgs v).length ≤ 4 := by
    unfold dgs
    simp only [List.length_append, List.length_cons, List.length_nil]
    (repeat' split) <;> simp only [List.length_cons, List.length_nil] <;> omega
  refine am_W.of rfl rfl ?_
  refine am_W.cv 10 m_Mo_sayDigits rfl rfl rfl rfl ⟨trivial, HQ_ok _ _ _ _ _ _ _⟩ (c_sayDigits d L B1 B2 fi ai aj l v hv (by omega)) ?_
  rintro r1 h1 ⟨rfl, rfl⟩
  refine am_W.cv 10 m_Mo_say rfl rfl rfl rfl ⟨trivial, HQ_ok _ _ _ _ _ _ _⟩ (c_say (d + 1) L B1 B2 fi ai aj (l ++ dgs v) 32 (by rw [List.length_append]; omega) (by omega)) ?_
  rintro r1 h1 ⟨rfl, rfl⟩
  rw [List.append_assoc]
  exact am_W.rt rfl rfl ⟨trivial, trivial⟩ ⟨rfl, rfl⟩
