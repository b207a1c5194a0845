-- printing by the class: tokens, parts, mappings
theorem am_W.c3 {P : am_P} {d : Nat} {T : am_T} {Q Q1 : Option am_V → am_H → Prop} {f f' : am_F} {P1 : Prop} {as : List am_V} {nx z md : Nat} {ls : am_L} {s : List am_V} {h : am_H} (hs : am_a64 T (some (True, f)) = some (P1, f')) (hb : am_ca T f' = some (3, [(z, md)], as, nx, ls, s, h)) (h8 : Nat.ble (am_w8 s) 8 = true) (hp : P1) (cc : am_M P d md as h Q1) (w : ∀ r1 h1, Q1 r1 h1 → am_W (am_ev P d) T Q (nx, ls, am_bk r1 s, h1)) : am_W (am_ev P d) T Q f := am_W.ca z md hs hb (List.mem_singleton.mpr rfl) (Nat.le_of_ble_eq_true h8) ⟨hp, trivial⟩ cc w
theorem am_slen {d a : Nat} {h : am_H} (ha : 2 ≤ a ∧ a < 9) : am_M am_prog (d + 2) 1001 [.inr (.inr a)] h (fun v h' => v = some (.inl ((am_str a).length : Int)) ∧ h' = h) := ⟨_, h, Or.inr ⟨ha.1, ha.2, by omega, rfl, rfl⟩, rfl, rfl⟩
theorem am_scha {d a : Nat} {i : Int} {h : am_H} (ha : 2 ≤ a ∧ a < 9) (h0 : 0 ≤ i) (h1 : i < ((am_str a).length : Int)) : am_M am_prog (d + 5) 1002 [.inr (.inr a), .inl i] h (fun v h' => v = some (.inl ((am_str a).getD i.toNat 0)) ∧ h' = h) := ⟨_, h, Or.inr ⟨ha.1, ha.2, by omega, h0, h1, rfl, rfl⟩, rfl, rfl⟩
theorem HP_ok (L B1 B2 : Nat) (fi : Nat → Nat → Int) (ai aj : Nat → Int → Int) (l : List Int) : am_ok (HP L B1 B2 fi ai aj l) 36 6 := okI rfl rfl rfl
theorem am_str_len {a : Nat} (ha : 2 ≤ a ∧ a < 9) : (am_str a).length ≤ 4 := by
  have : a = 2 ∨ a = 3 ∨ a = 4 ∨ a = 5 ∨ a = 6 ∨ a = 7 ∨ a = 8 := by omega
  rcases this with rfl | rfl | rfl | rfl | rfl | rfl | rfl <;> decide
set_option maxHeartbeats 400000 in
set_option maxRecDepth 100000 in
theorem l_putToken (d L B1 B2 : Nat) (fi : Nat → Nat → Int) (ai aj : Nat → Int → Int) (l : List Int) (a : Nat) (ha : 2 ≤ a ∧ a < 9) (hl : l.length + ((am_str a).length + 1) ≤ 626) : ∀ (rest pre : List Int) (i : Int), am_str a = pre ++ rest → i = (pre.length : Int) → am_W (am_ev am_prog (d + 5)) T_Pr_putToken (fun w h' => w = none ∧ h' = HP L B1 B2 fi ai aj (l ++ (am_str a ++ [32]))) (2, [some (.inr (.inr 36)), some (.inr (.inr a)), some (.inl i)], [], HP L B1 B2 fi ai aj (l ++ pre))
  | [], pre, i, hp, hi => by
    have h4 := am_str_len ha
    rw [List.append_nil] at hp
    rw [← hp] at hi ⊢
    refine am_W.c3 rfl rfl rfl trivial (am_slen (d := d + 3) ha) ?_
    rintro r1 h1 ⟨rfl, rfl⟩
    refine am_W.br rfl rfl ⟨trivial, ⟨by omega, by omega⟩, ⟨by omega, by omega⟩⟩ (fun c1 => ?_) (fun c1 => absurd c1 (by omega))
    refine am_W.cv 6 m_Pr_put rfl rfl rfl rfl ⟨trivial, HP_ok _ _ _ _ _ _ _⟩ (c_Pr_put (d + 4) L B1 B2 fi ai aj (l ++ am_str a) 32 (by rw [List.length_append]; omega)) ?_
    rintro r1 h1 ⟨rfl, rfl⟩
    rw [List.append_assoc]
    exact am_W.rt rfl rfl ⟨trivial, trivial⟩ ⟨rfl, rfl⟩
  | x :: rest, pre, i, hp, hi => by
    have h4 := am_str_len ha
    have hlen : (am_str a).length = pre.length + (rest.length + 1) := by rw [hp, List.length_append, List.length_cons]
    have hx : (am_str a).getD i.toNat 0 = x := by
      rw [hp, hi, Int.toNat_natCast, List.getD_eq_getElem?_getD, List.getElem?_append_right (Nat.le_refl _), Nat.sub_self]
      rfl
    refine am_W.c3 rfl rfl rfl trivial (am_slen (d := d + 3) ha) ?_
    rintro r1 h1 ⟨rfl, rfl⟩
    refine am_W.br rfl rfl ⟨trivial, ⟨by omega, by omega⟩, ⟨by omega, by omega⟩⟩ (fun c1 => absurd c1 (by omega)) (fun c1 => ?_)
    refine am_W.c3 rfl rfl rfl trivial (am_scha (d := d) ha (by omega) (by omega)) ?_
    rintro r1 h1 ⟨rfl, rfl⟩
    rw [hx]
    refine am_W.cv 6 m_Pr_put rfl rfl rfl rfl ⟨trivial, HP_ok _ _ _ _ _ _ _⟩ (c_Pr_put (d + 4) L B1 B2 fi ai aj (l ++ pre) x (by rw [List.length_append]; omega)) ?_
    rintro r1 h1 ⟨rfl, rfl⟩
    refine am_W.gp 2 rfl trivial ?_
    rw [List.append_assoc]
    exact l_putToken d L B1 B2 fi ai aj l a ha hl rest (pre ++ [x]) (i + 1) (by rw [hp, List.append_assoc]; rfl) (by rw [List.length_append, List.length_singleton]; omega)
set_option maxHeartbeats 400000 in
set_option maxRecDepth 100000 in
theorem c_putToken (d L B1 B2 : Nat) (fi : Nat → Nat → Int) (ai aj : Nat → Int → Int) (l : List Int) (a : Nat) (ha : 2 ≤ a ∧ a < 9) (hl : l.length + ((am_str a).length + 1) ≤ 626) : am_M am_prog (d + 6) m_Pr_putToken [.inr (.inr 36), .inr (.inr a)] (HP L B1 B2 fi ai aj l) (fun w h' => w = none ∧ h' = HP L B1 B2 fi ai aj (l ++ (am_str a ++ [32]))) := by
  refine am_W.of rfl rfl ?_
  have h := l_putToken d L B1 B2 fi ai aj l a ha hl (am_str a) [] 0 rfl rfl
  rw [List.append_nil] at h
  exact am_W.gp 2 rfl trivial h
theorem c_Pr_num (d L B1 B2 : Nat) (fi : Nat → Nat → Int) (ai aj : Nat → Int → Int) (l : List Int) (v : Int) (hv : 0 ≤ v ∧ v ≤ 9999) (hl : l.length + (dgs v).length ≤ 626) : am_M am_prog (d + 2) m_Si_putNumber [.inr (.inr 36), .inl v] (HP L B1 B2 fi ai aj l) (fun w h' => w = none ∧ h' = HP L B1 B2 fi ai aj (l ++ dgs v)) := c_putNumber d 36 6 m_Pr_put (fun l => HP L B1 B2 fi ai aj l) 626 (by decide) (fun l => HP_ok _ _ _ _ _ _ l) (Or.inr ⟨rfl, rfl⟩) (fun l b h1 _ _ => c_Pr_put d L B1 B2 fi ai aj l b h1) l v hv hl
set_option maxHeartbeats 400000 in
set_option maxRecDepth 100000 in
theorem c_putNumberToken (d L B1 B2 : Nat) (fi : Nat → Nat → Int) (ai aj : Nat → Int → Int) (l : List Int) (v : Int) (hv : 0 ≤ v ∧ v ≤ 9999) (hl : l.length + (dgs v ++ [32]).length ≤ 626) : am_M am_prog (d + 3) m_Pr_putNumberToken [.inr (.inr 36), .inl v] (HP L B1 B2 fi ai aj l) (fun w h' => w = none ∧ h' = HP L B1 B2 fi ai aj (l ++ (dgs v ++ [32]))) := by
  rw [List.length_append, List.length_singleton] at hl
  refine am_W.of rfl rfl ?_
  refine am_W.cv 6 m_Si_putNumber rfl rfl rfl rfl ⟨trivial, HP_ok _ _ _ _ _ _ _⟩ (c_Pr_num d L B1 B2 fi ai aj l v hv (by omega)) ?_
  rintro r1 h1 ⟨rfl, rfl⟩
  refine am_W.cv 6 m_Pr_put rfl rfl rfl rfl ⟨trivial, HP_ok _ _ _ _ _ _ _⟩ (c_Pr_put (d + 1) L B1 B2 fi ai aj (l ++ dgs v) 32 (by rw [List.length_append]; omega)) ?_
  rintro r1 h1 ⟨rfl, rfl⟩
  rw [List.append_assoc]
  exact am_W.rt rfl rfl ⟨trivial, trivial⟩ ⟨rfl, rfl⟩
set_option maxHeartbeats 400000 in
set_option maxRecDepth 100000 in
theorem c_isColumn (d : Nat) (x : Int) (h : am_H) (hx : am_R x) : am_M am_prog (d + 1) m_Pa_isColumn [.inl x] h (fun v h' => v = some (.inl (if x < 4 then 1 else 0)) ∧ h' = h) := by
  refine am_W.of rfl rfl ?_
  refine am_W.br rfl rfl ⟨trivial, hx, ⟨by omega, by omega⟩⟩ (fun c1 => ?_) (fun c1 => ?_)
  · rw [if_neg (by omega)]
    exact am_W.rt rfl rfl ⟨trivial, Or.inl rfl⟩ ⟨rfl, rfl⟩
  · rw [if_pos (by omega)]
    exact am_W.rt rfl rfl ⟨trivial, Or.inr rfl⟩ ⟨rfl, rfl⟩
theorem prL_app : ∀ (a b : List Int), prL (a ++ b) = prL a ++ prL b
  | [], b => rfl
  | x :: r, b => by
    show prC x ++ prL (r ++ b) = prC x ++ prL r ++ prL b
    rw [prL_app r b, List.append_assoc]
theorem HP_fi (L B1 B2 : Nat) (fi : Nat → Nat → Int) (ai aj : Nat → Int → Int) (l : List Int) {j b : Nat} (h : b ≠ 36) : am_fi (HP L B1 B2 fi ai aj l) j b = fi j b := u2a h
theorem HP_ai (L B1 B2 : Nat) (fi : Nat → Nat → Int) (ai aj : Nat → Int → Int) (l : List Int) {b : Nat} (h : b ≠ 37) : am_ai (HP L B1 B2 fi ai aj l) b = ai b := san _ _ h
theorem HP_fr (L B1 B2 : Nat) (fi : Nat → Nat → Int) (ai aj : Nat → Int → Int) (l : List Int) : am_fr (HP L B1 B2 fi ai aj l) = FRR B1 B2 := rfl
theorem HP_pa {L B1 B2 p : Nat} (fi : Nat → Nat → Int) (ai aj : Nat → Int → Int) (l : List Int) (hp : PartAt L B1 B2 p) : am_ok (HP L B1 B2 fi ai aj l) p 9 := ⟨by have := hp.1; omega, by have := hp.2.1; show p < 170; omega, hp.2.2.1⟩
theorem HP_ma {L B1 B2 p : Nat} (fi : Nat → Nat → Int) (ai aj : Nat → Int → Int) (l : List Int) (hp : MapAt L B1 B2 p) : am_ok (HP L B1 B2 fi ai aj l) p 8 := ⟨by have := hp.1; omega, by have := hp.2.1; show p < 170; omega, hp.2.2.1⟩
theorem HP_ar {L B1 B2 p : Nat} (fi : Nat → Nat → Int) (ai aj : Nat → Int → Int) (l : List Int) (hp : PartAt L B1 B2 p) {i : Int} (h0 : 0 ≤ i) (h1 : i < 30) : am_okr (HP L B1 B2 fi ai aj l) (am_fr (HP L B1 B2 fi ai aj l) 52 p) 1000 i := by
  obtain ⟨p0, p1, hC, hCq, hfr⟩ := hp
  rw [HP_fr, hfr]
  refine ⟨Or.inr ⟨by omega, by show p + 1 < 170; omega⟩, ?_, h0, ?_, by omega⟩
  · show (CC L (p + 1)).1 = 1000
    rw [hCq]
  · show i < ((CC L (p + 1)).2 : Int)
    rw [hCq]
    exact h1
theorem okC_R {k p : Int} (hk : k ≤ 4) (h : okC k p) : am_R p ∧ (p < 4 → 0 ≤ p ∧ p ≤ 9999) := by
  rcases h with h | h
  · exact ⟨⟨by omega, by omega⟩, fun _ => by omega⟩
  · exact ⟨⟨by omega, by omega⟩, fun _ => by omega⟩
theorem okC_mo {k k' p : Int} (hk : k ≤ k') (h : okC k p) : okC k' p := by
  rcases h with h | h
  · exact Or.inl (by omega)
  · exact Or.inr h
set_option maxHeartbeats 400000 in
set_option maxRecDepth 100000 in
theorem l_putTemplate (d L B1 B2 : Nat) (fi : Nat → Nat → Int) (ai aj : Nat → Int → Int) (p : Nat) (hp : PartAt L B1 B2 p) (L0 : List Int) (l1 : List Int) (h53 : fi 53 p = (L0.length : Int)) (h30 : L0.length ≤ 30) (hpc : ∀ i : Nat, i < L0.length → ai (p + 1) (i : Int) = L0.getD i 0) (hok : ∀ x ∈ L0, okC 4 x) (hl : l1.length + (prL L0 ++ [34, 32]).length ≤ 626) : ∀ (rest pre : List Int) (i : Int) (l3 : Option am_V), L0 = pre ++ rest → i = (pre.length : Int) → am_W (am_ev am_prog (d + 2)) T_Pr_putTemplate (fun w h' => w = none ∧ h' = HP L B1 B2 fi ai aj (l1 ++ (prL L0 ++ [34, 32]))) (8, [some (.inr (.inr 36)), some (.inr (.inr p)), some (.inl i), l3], [], HP L B1 B2 fi ai aj (l1 ++ prL pre)) := by
  have p0 := hp.1
  have p1 := hp.2.1
  have hfr := hp.2.2.2.2
  have e53 : ∀ l, am_fi (HP L B1 B2 fi ai aj l) 53 p = (L0.length : Int) := fun l => by rw [HP_fi _ _ _ _ _ _ _ (by omega)]; exact h53
  have epc : ∀ l (i : Nat), i < L0.length → am_ai (HP L B1 B2 fi ai aj l) (am_fr (HP L B1 B2 fi ai aj l) 52 p) (i : Int) = L0.getD i 0 := fun l i hi => by
    rw [HP_fr, hfr, HP_ai _ _ _ _ _ _ _ (by omega)]
    exact hpc i hi
  rw [List.length_append] at hl
  have hl2 : l1.length + ((prL L0).length + 2) ≤ 626 := hl
  intro rest
  induction rest with
  | nil =>
    intro pre i l3 hL hi
    rw [List.append_nil] at hL
    subst hL
    refine am_W.br rfl rfl ⟨⟨trivial, HP_pa _ _ _ _ hp⟩, ⟨by omega, by omega⟩, by rw [e53]; exact ⟨by omega, by omega⟩⟩ (fun c1 => ?_) (fun c1 => absurd c1 (by rw [e53]; omega))
    refine am_W.cv 6 m_Pr_put rfl rfl rfl rfl ⟨trivial, HP_ok _ _ _ _ _ _ _⟩ (c_Pr_put (d + 1) L B1 B2 fi ai aj (l1 ++ prL L0) 34 (by rw [List.length_append]; omega)) ?_
    rintro r1 h1 ⟨rfl, rfl⟩
    refine am_W.cv 6 m_Pr_put rfl rfl rfl rfl ⟨trivial, HP_ok _ _ _ _ _ _ _⟩ (c_Pr_put (d + 1) L B1 B2 fi ai aj (l1 ++ prL L0 ++ [34]) 32 (by rw [List.length_append, List.length_append, List.length_singleton]; omega)) ?_
    rintro r1 h1 ⟨rfl, rfl⟩
    rw [List.append_assoc, List.append_assoc]
    exact am_W.rt rfl rfl ⟨trivial, trivial⟩ ⟨rfl, rfl⟩
  | cons x rest ih =>
    intro pre i l3 hL hi
    have hlen : L0.length = pre.length + (rest.length + 1) := by rw [hL, List.length_append, List.length_cons]
    have hx : L0.getD pre.length 0 = x := by
      rw [hL, List.getD_eq_getElem?_getD, List.getElem?_append_right (Nat.le_refl _), Nat.sub_self]
      rfl
    have hxo : okC 4 x := hok x (by rw [hL]; exact List.mem_append_right _ (List.mem_cons_self ..))
    obtain ⟨hxR, hx4⟩ := okC_R (Int.le_refl 4) hxo
    have hpl : (prL L0).length = (prL pre).length + ((prC x).length + (prL rest).length) := by
      rw [hL, prL_app, List.length_append]
      show _ + (prC x ++ prL rest).length = _
      rw [List.length_append]
    have hgo : am_W (am_ev am_prog (d + 2)) T_Pr_putTemplate (fun w h' => w = none ∧ h' = HP L B1 B2 fi ai aj (l1 ++ (prL L0 ++ [34, 32]))) (68, [some (.inr (.inr 36)), some (.inr (.inr p)), some (.inl i), some (.inl x)], [], HP L B1 B2 fi ai aj (l1 ++ prL pre ++ prC x)) := by
      refine am_W.gp 8 rfl trivial ?_
      have e : l1 ++ prL pre ++ prC x = l1 ++ prL (pre ++ [x]) := by
        rw [prL_app, List.append_assoc]
        show _ = l1 ++ (prL pre ++ (prC x ++ []))
        rw [List.append_nil]
      rw [e]
      exact ih (pre ++ [x]) (i + 1) _ (by rw [hL, List.append_assoc]; rfl) (by rw [List.length_append, List.length_singleton]; omega)
    have hrd : am_ai (HP L B1 B2 fi ai aj (l1 ++ prL pre)) (am_fr (HP L B1 B2 fi ai aj (l1 ++ prL pre)) 52 p) i = x := by
      rw [hi, epc _ pre.length (by omega)]
      exact hx
    refine am_W.br rfl rfl ⟨⟨trivial, HP_pa _ _ _ _ hp⟩, ⟨by omega, by omega⟩, by rw [e53]; exact ⟨by omega, by omega⟩⟩ (fun c1 => absurd c1 (by rw [e53]; omega)) (fun c1 => ?_)
    refine am_W.cs rfl rfl rfl ⟨⟨trivial, HP_pa _ _ _ _ hp⟩, HP_ar _ _ _ _ hp (by omega) (by omega)⟩ (by rw [hrd]; exact c_isColumn (d + 1) x _ hxR) ?_
    rintro r1 h1 ⟨rfl, rfl⟩
    rw [hrd]
    unfold prC at hpl hgo
    by_cases h4 : x < 4
    · rw [if_pos h4] at hpl hgo ⊢
      rw [List.length_append, List.length_append, List.length_singleton] at hpl
      have hpl2 : (prL L0).length = (prL pre).length + (1 + ((dgs x).length + 1) + (prL rest).length) := hpl
      refine am_W.br rfl rfl ⟨trivial, ⟨by omega, by omega⟩⟩ (fun c2 => absurd c2 (by decide)) (fun c2 => ?_)
      refine am_W.cv 6 m_Pr_put rfl rfl rfl rfl ⟨trivial, HP_ok _ _ _ _ _ _ _⟩ (c_Pr_put (d + 1) L B1 B2 fi ai aj (l1 ++ prL pre) 123 (by rw [List.length_append]; omega)) ?_
      rintro r1 h1 ⟨rfl, rfl⟩
      refine am_W.cv 6 m_Si_putNumber rfl rfl rfl rfl ⟨trivial, HP_ok _ _ _ _ _ _ _⟩ (c_Pr_num d L B1 B2 fi ai aj (l1 ++ prL pre ++ [123]) x (hx4 h4) (by rw [List.length_append, List.length_append, List.length_singleton]; omega)) ?_
      rintro r1 h1 ⟨rfl, rfl⟩
      refine am_W.cv 6 m_Pr_put rfl rfl rfl rfl ⟨trivial, HP_ok _ _ _ _ _ _ _⟩ (c_Pr_put (d + 1) L B1 B2 fi ai aj (l1 ++ prL pre ++ [123] ++ dgs x) 125 (by rw [List.length_append, List.length_append, List.length_append, List.length_singleton]; omega)) ?_
      rintro r1 h1 ⟨rfl, rfl⟩
      refine am_W.gp 68 rfl trivial ?_
      rw [List.append_assoc (l1 ++ prL pre ++ [123]), List.append_assoc (l1 ++ prL pre)]
      exact hgo
    · rw [if_neg h4] at hpl hgo ⊢
      refine am_W.br rfl rfl ⟨trivial, ⟨by omega, by omega⟩⟩ (fun c2 => ?_) (fun c2 => absurd rfl c2)
      refine am_W.cs rfl rfl rfl trivial (c_needsEscape (d + 1) x _ hxR) ?_
      rintro r1 h1 ⟨rfl, rfl⟩
      by_cases he : esc x
      · rw [if_pos he] at hpl hgo ⊢
        have hpl2 : (prL L0).length = (prL pre).length + (2 + (prL rest).length) := hpl
        refine am_W.br rfl rfl ⟨trivial, ⟨by omega, by omega⟩⟩ (fun c3 => absurd c3 (by decide)) (fun c3 => ?_)
        refine am_W.cv 6 m_Pr_put rfl rfl rfl rfl ⟨trivial, HP_ok _ _ _ _ _ _ _⟩ (c_Pr_put (d + 1) L B1 B2 fi ai aj (l1 ++ prL pre) 92 (by rw [List.length_append]; omega)) ?_
        rintro r1 h1 ⟨rfl, rfl⟩
        refine am_W.cv 6 m_Pr_put rfl rfl rfl rfl ⟨trivial, HP_ok _ _ _ _ _ _ _⟩ (c_Pr_put (d + 1) L B1 B2 fi ai aj (l1 ++ prL pre ++ [92]) x (by rw [List.length_append, List.length_append, List.length_singleton]; omega)) ?_
        rintro r1 h1 ⟨rfl, rfl⟩
        rw [List.append_assoc (l1 ++ prL pre)]
        exact hgo
      · rw [if_neg he] at hpl hgo ⊢
        have hpl2 : (prL L0).length = (prL pre).length + (1 + (prL rest).length) := hpl
        refine am_W.br rfl rfl ⟨trivial, ⟨by omega, by omega⟩⟩ (fun c3 => ?_) (fun c3 => absurd rfl c3)
        refine am_W.cv 6 m_Pr_put rfl rfl rfl rfl ⟨trivial, HP_ok _ _ _ _ _ _ _⟩ (c_Pr_put (d + 1) L B1 B2 fi ai aj (l1 ++ prL pre) x (by rw [List.length_append]; omega)) ?_
        rintro r1 h1 ⟨rfl, rfl⟩
        exact hgo
