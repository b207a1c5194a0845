-- the reference: its two comparings (printed by wip/gen/cp.py)
set_option maxHeartbeats 400000 in
set_option maxRecDepth 100000 in
theorem l_compare (d L B1 B2 : Nat) (fi : Nat → Nat → Int) (ai aj : Nat → Int → Int) (a b n : Int) (u v : Int × List Int) (ha : 0 ≤ a ∧ a < 1600) (hb : 0 ≤ b ∧ b < 1600) (hn : 0 ≤ n ∧ n < 3) (hu : slA (ai 158) (ai 157) (ai 156) a n u) (hv : slA (ai 158) (ai 157) (ai 156) b n v) (tu : tOK u) (tv : tOK v) (Q : Option am_V → am_H → Prop) : ∀ (r s : List Int) (k : Nat), u.2.drop k = r → v.2.drop k = s → k ≤ u.2.length → k ≤ v.2.length → (∀ (y : Int) (l4 l7 : Option am_V), SG y (llc r s) → -300 ≤ y ∧ y ≤ 300 → am_W (am_ev am_prog d) T_Mo_compare Q (142, [some (.inr (.inr 126)), some (.inl a), some (.inl b), some (.inl n), l4, some (.inl (u.2.length : Int)), some (.inl (v.2.length : Int)), l7], [.inl y], HH L B1 B2 fi ai aj)) → am_W (am_ev am_prog d) T_Mo_compare Q (57, [some (.inr (.inr 126)), some (.inl a), some (.inl b), some (.inl n), some (.inl 0), some (.inl (u.2.length : Int)), some (.inl (v.2.length : Int)), some (.inl (k : Int))], [], HH L B1 B2 fi ai aj) := by
  obtain ⟨u1, u2, u3⟩ := hu
  obtain ⟨v1, v2, v3⟩ := hv
  have ul := tu.2.2.2
  have vl := tv.2.2.2
  have ok126 : am_ok (HH L B1 B2 fi ai aj) 126 10 := okI rfl rfl rfl
  have h127 : ∀ (y x1 x2 : Int) (k : Nat), -300 ≤ x1 - x2 ∧ x1 - x2 ≤ 300 → -300 ≤ y ∧ y ≤ 300 → (∀ (l4 l7 : Option am_V), am_W (am_ev am_prog d) T_Mo_compare Q (142, [some (.inr (.inr 126)), some (.inl a), some (.inl b), some (.inl n), l4, some (.inl x1), some (.inl x2), l7], [.inl (if y = 0 then x1 - x2 else y)], HH L B1 B2 fi ai aj)) → am_W (am_ev am_prog d) T_Mo_compare Q (127, [some (.inr (.inr 126)), some (.inl a), some (.inl b), some (.inl n), some (.inl y), some (.inl x1), some (.inl x2), some (.inl (k : Int))], [], HH L B1 B2 fi ai aj) := by
    intro y x1 x2 k hx hy w
    by_cases h0 : y = 0
    · rw [if_pos h0] at w
      refine am_W.br rfl rfl ⟨trivial, ⟨by omega, by omega⟩⟩ (fun c => absurd h0 c) (fun c => ?_)
      exact am_W.gp 142 rfl trivial (w _ _)
    · rw [if_neg h0] at w
      refine am_W.br rfl rfl ⟨trivial, ⟨by omega, by omega⟩⟩ (fun c => ?_) (fun c => absurd h0 c)
      exact am_W.gp 142 rfl trivial (w _ _)
  intro r
  induction r with
  | nil =>
    intro s k hr hs k1 k2 w
    have hk : u.2.length = k := by
      have := congrArg List.length hr
      rw [List.length_drop, List.length_nil] at this
      omega
    have hk2 : v.2.length = k + s.length := by
      have := congrArg List.length hs
      rw [List.length_drop] at this
      omega
    refine am_W.br rfl rfl ⟨trivial, ⟨by omega, by omega⟩, ⟨by omega, by omega⟩⟩ (fun c => ?_) (fun c => absurd (by omega) c)
    refine h127 0 _ _ k ⟨by omega, by omega⟩ ⟨by omega, by omega⟩ (fun l4 l7 => w _ l4 l7 ?_ ?_)
    · rw [if_pos rfl]
      cases s with
      | nil => exact Or.inr (Or.inl ⟨rfl, by rw [List.length_nil] at hk2; omega⟩)
      | cons q s => exact Or.inl ⟨rfl, by rw [List.length_cons] at hk2; omega⟩
    · rw [if_pos rfl]
      omega
  | cons p r ih =>
    intro s k hr hs k1 k2 w
    obtain ⟨p1, p2, p3⟩ := dropC hr
    refine am_W.br rfl rfl ⟨trivial, ⟨by omega, by omega⟩, ⟨by omega, by omega⟩⟩ (fun c => absurd c (by omega)) (fun c => ?_)
    cases s with
    | nil =>
      have hk2 : v.2.length = k := by
        have := congrArg List.length hs
        rw [List.length_drop, List.length_nil] at this
        omega
      refine am_W.br rfl rfl ⟨trivial, ⟨by omega, by omega⟩, ⟨by omega, by omega⟩⟩ (fun c1 => ?_) (fun c1 => absurd (by omega) c1)
      refine h127 0 _ _ k ⟨by omega, by omega⟩ ⟨by omega, by omega⟩ (fun l4 l7 => w _ l4 l7 ?_ ?_)
      · rw [if_pos rfl]
        exact Or.inr (Or.inr ⟨rfl, by omega⟩)
      · rw [if_pos rfl]
        omega
    | cons q s =>
      obtain ⟨q1, q2, q3⟩ := dropC hs
      have pb : 0 ≤ p ∧ p < 128 := tu.2.1 p (by rw [← List.take_append_drop k u.2, hr]; exact List.mem_append_right _ (List.mem_cons_self ..))
      have qb : 0 ≤ q ∧ q < 128 := tv.2.1 q (by rw [← List.take_append_drop k v.2, hs]; exact List.mem_append_right _ (List.mem_cons_self ..))
      have oA : am_okr (HH L B1 B2 fi ai aj) (am_fr (HH L B1 B2 fi ai aj) 95 126) 1003 (60 * a + 20 * n + (k : Int)) := okrI rfl rfl (t := 1003) (N := 96000) rfl rfl (by omega) (by omega)
      have eA : am_ai (HH L B1 B2 fi ai aj) (am_fr (HH L B1 B2 fi ai aj) 95 126) (60 * a + 20 * n + (k : Int)) = p := by
        rw [← p2]
        exact u3 k p1
      have oB : am_okr (HH L B1 B2 fi ai aj) (am_fr (HH L B1 B2 fi ai aj) 95 126) 1003 (60 * b + 20 * n + (k : Int)) := okrI rfl rfl (t := 1003) (N := 96000) rfl rfl (by omega) (by omega)
      have eB : am_ai (HH L B1 B2 fi ai aj) (am_fr (HH L B1 B2 fi ai aj) 95 126) (60 * b + 20 * n + (k : Int)) = q := by
        rw [← q2]
        exact v3 k q1
      refine am_W.br rfl rfl ⟨trivial, ⟨by omega, by omega⟩, ⟨by omega, by omega⟩⟩ (fun c1 => absurd c1 (by omega)) (fun c1 => ?_)
      refine am_W.br rfl rfl ⟨trivial, ⟨by omega, by omega⟩⟩ (fun c2 => absurd rfl c2) (fun c2 => ?_)
      refine am_W.gp 57 rfl ?_ ?_
      · repeat' first | assumption | trivial | refine And.intro ?_ ?_
      rw [eA, eB, and_id pb, and_id qb]
      have hl : llc (p :: r) (q :: s) = if cp3 p q = 0 then llc r s else cp3 p q := rfl
      by_cases hpq : p = q
      · have e0 : cp3 p q = 0 := by
          unfold cp3
          (repeat' split) <;> omega
        rw [hl, if_pos e0] at w
        rw [show p - q = 0 by omega]
        exact ih s (k + 1) p3 q3 (by omega) (by omega) w
      · have e0 : ¬ cp3 p q = 0 := by
          unfold cp3
          (repeat' split) <;> omega
        rw [hl, if_neg e0] at w
        have hw : ∀ (l4 l7 : Option am_V), am_W (am_ev am_prog d) T_Mo_compare Q (142, [some (.inr (.inr 126)), some (.inl a), some (.inl b), some (.inl n), l4, some (.inl (u.2.length : Int)), some (.inl (v.2.length : Int)), l7], [.inl (if p - q = 0 then (u.2.length : Int) - (v.2.length : Int) else p - q)], HH L B1 B2 fi ai aj) := by
          intro l4 l7
          rw [if_neg (by omega)]
          exact w _ l4 l7 (SG_cp3 p q) (by omega)
        have h9 := h127 (p - q) _ _ (k + 1) ⟨by omega, by omega⟩ ⟨by omega, by omega⟩ hw
        refine am_W.br rfl rfl ⟨trivial, ⟨by omega, by omega⟩, ⟨by omega, by omega⟩⟩ (fun c3 => h9) (fun c3 => ?_)
        refine am_W.br rfl rfl ⟨trivial, ⟨by omega, by omega⟩, ⟨by omega, by omega⟩⟩ (fun c4 => h9) (fun c4 => ?_)
        exact am_W.br rfl rfl ⟨trivial, ⟨by omega, by omega⟩⟩ (fun c5 => h9) (fun c5 => absurd (by omega) c5)
set_option maxHeartbeats 400000 in
set_option maxRecDepth 100000 in
theorem c_compare (d L B1 B2 : Nat) (fi : Nat → Nat → Int) (ai aj : Nat → Int → Int) (a b g g' : Int) (T T' : Int → Int × List Int) (ha : 0 ≤ a ∧ a < 1600) (hb : 0 ≤ b ∧ b < 1600) (hu : ∀ n, 0 ≤ n → n < 3 → slA (ai 158) (ai 157) (ai 156) a n (T n) ∧ slA (ai 158) (ai 157) (ai 156) b n (T' n) ∧ tOK (T n) ∧ tOK (T' n)) (hg : ai 159 a = g) (hg' : ai 159 b = g') (gR : 0 ≤ g ∧ g < 10) (gR' : 0 ≤ g' ∧ g' < 10) : am_M am_prog (d + 1) m_Mo_compare [.inr (.inr 126), .inl a, .inl b] (HH L B1 B2 fi ai aj) (fun w h' => ∃ y, w = some (.inl y) ∧ SG y (cmT T T' g g') ∧ (-300 ≤ y ∧ y ≤ 300) ∧ h' = HH L B1 B2 fi ai aj) := by
  have ok126 : am_ok (HH L B1 B2 fi ai aj) 126 10 := okI rfl rfl rfl
  have hstep : ∀ (n : Int) (Q : Option am_V → am_H → Prop) (l4 l5 l6 l7 : Option am_V), 0 ≤ n ∧ n < 3 → (∀ y, ¬ tc (T n) (T' n) = 0 → SG y (tc (T n) (T' n)) → -300 ≤ y ∧ y ≤ 300 → Q (some (.inl y)) (HH L B1 B2 fi ai aj)) → (tc (T n) (T' n) = 0 → ∀ l4 l5 l6 l7 : Option am_V, am_W (am_ev am_prog d) T_Mo_compare Q (2, [some (.inr (.inr 126)), some (.inl a), some (.inl b), some (.inl (n + 1)), l4, l5, l6, l7], [], HH L B1 B2 fi ai aj)) → am_W (am_ev am_prog d) T_Mo_compare Q (2, [some (.inr (.inr 126)), some (.inl a), some (.inl b), some (.inl n), l4, l5, l6, l7], [], HH L B1 B2 fi ai aj) := by
    intro n Q l4 l5 l6 l7 hn w1 w2
    obtain ⟨s1, s2, t1, t2⟩ := hu n hn.1 hn.2
    have oK : am_okr (HH L B1 B2 fi ai aj) (am_fr (HH L B1 B2 fi ai aj) 97 126) 1000 (3 * a + n) := okrI rfl rfl (t := 1000) (N := 4800) rfl rfl (by omega) (by omega)
    have oL : am_okr (HH L B1 B2 fi ai aj) (am_fr (HH L B1 B2 fi ai aj) 97 126) 1000 (3 * b + n) := okrI rfl rfl (t := 1000) (N := 4800) rfl rfl (by omega) (by omega)
    have oZ : am_okr (HH L B1 B2 fi ai aj) (am_fr (HH L B1 B2 fi ai aj) 96 126) 1000 (3 * a + n) := okrI rfl rfl (t := 1000) (N := 4800) rfl rfl (by omega) (by omega)
    have oX : am_okr (HH L B1 B2 fi ai aj) (am_fr (HH L B1 B2 fi ai aj) 96 126) 1000 (3 * b + n) := okrI rfl rfl (t := 1000) (N := 4800) rfl rfl (by omega) (by omega)
    have eK : am_ai (HH L B1 B2 fi ai aj) (am_fr (HH L B1 B2 fi ai aj) 97 126) (3 * a + n) = (T n).1 := s1.1
    have eL : am_ai (HH L B1 B2 fi ai aj) (am_fr (HH L B1 B2 fi ai aj) 97 126) (3 * b + n) = (T' n).1 := s2.1
    have eZ : am_ai (HH L B1 B2 fi ai aj) (am_fr (HH L B1 B2 fi ai aj) 96 126) (3 * a + n) = ((T n).2.length : Int) := s1.2.1
    have eX : am_ai (HH L B1 B2 fi ai aj) (am_fr (HH L B1 B2 fi ai aj) 96 126) (3 * b + n) = ((T' n).2.length : Int) := s2.2.1
    have b1 := t1.1
    have b2 := t2.1
    have l1 := t1.2.2.2
    have l2 := t2.2.2.2
    refine am_W.br rfl rfl ⟨trivial, ⟨by omega, by omega⟩, ⟨by omega, by omega⟩⟩ (fun c => absurd c (by omega)) (fun c => ?_)
    refine am_W.gp 57 rfl ?_ ?_
    · repeat' first | assumption | trivial | refine And.intro ?_ ?_
    rw [eK, eL, eZ, eX]
    have h142 : ∀ (y : Int) (l4 l7 : Option am_V), SG y (tc (T n) (T' n)) → -300 ≤ y ∧ y ≤ 300 → am_W (am_ev am_prog d) T_Mo_compare Q (142, [some (.inr (.inr 126)), some (.inl a), some (.inl b), some (.inl n), l4, some (.inl ((T n).2.length : Int)), some (.inl ((T' n).2.length : Int)), l7], [.inl y], HH L B1 B2 fi ai aj) := by
      intro y l4 l7 hs hy
      by_cases h0 : y = 0
      · have ht : tc (T n) (T' n) = 0 := by
          unfold SG at hs
          omega
        refine am_W.br rfl rfl ⟨trivial, ⟨by omega, by omega⟩⟩ (fun c1 => ?_) (fun c1 => absurd h0 c1)
        exact am_W.gp 2 rfl trivial (w2 ht _ _ _ _)
      · have ht : ¬ tc (T n) (T' n) = 0 := by
          unfold SG at hs
          omega
        refine am_W.br rfl rfl ⟨trivial, ⟨by omega, by omega⟩⟩ (fun c1 => absurd c1 h0) (fun c1 => ?_)
        exact am_W.rt rfl rfl ⟨trivial, trivial⟩ (w1 y ht hs hy)
    by_cases hc : (T n).1 = (T' n).1
    · have e0 : cp3 (T n).1 (T' n).1 = 0 := by
        unfold cp3
        (repeat' split) <;> omega
      have et : tc (T n) (T' n) = llc (T n).2 (T' n).2 := if_pos e0
      rw [show (T n).1 - (T' n).1 = 0 by omega]
      rw [et] at h142
      exact l_compare d L B1 B2 fi ai aj a b n (T n) (T' n) ha hb hn s1 s2 t1 t2 Q (T n).2 (T' n).2 0 rfl rfl (Nat.zero_le _) (Nat.zero_le _) h142
    · have e0 : ¬ cp3 (T n).1 (T' n).1 = 0 := by
        unfold cp3
        (repeat' split) <;> omega
      have et : tc (T n) (T' n) = cp3 (T n).1 (T' n).1 := if_neg e0
      have hs := SG_cp3 (T n).1 (T' n).1
      rw [← et] at hs
      refine am_W.br rfl rfl ⟨trivial, ⟨by omega, by omega⟩, ⟨by omega, by omega⟩⟩ (fun c1 => absurd c1 (by omega)) (fun c1 => ?_)
      refine am_W.br rfl rfl ⟨trivial, ⟨by omega, by omega⟩, ⟨by omega, by omega⟩⟩ (fun c1 => absurd c1 (by omega)) (fun c1 => ?_)
      refine am_W.br rfl rfl ⟨trivial, ⟨by omega, by omega⟩⟩ (fun c2 => ?_) (fun c2 => absurd (by omega) c2)
      refine am_W.br rfl rfl ⟨trivial, ⟨by omega, by omega⟩⟩ (fun c3 => ?_) (fun c3 => absurd (by omega) c3)
      exact am_W.gp 142 rfl trivial (h142 _ _ _ hs (by omega))
  refine am_W.of rfl rfl ?_
  refine am_W.gp 2 rfl trivial ?_
  unfold cmT
  refine hstep 0 _ _ _ _ _ (by omega) (fun y h0 hs hy => ⟨y, rfl, by rw [if_neg h0]; exact hs, hy, rfl⟩) (fun h0 l4 l5 l6 l7 => ?_)
  rw [if_pos h0]
  refine hstep 1 _ _ _ _ _ (by omega) (fun y h1 hs hy => ⟨y, rfl, by rw [if_neg h1]; exact hs, hy, rfl⟩) (fun h1 l4 l5 l6 l7 => ?_)
  rw [if_pos h1]
  refine hstep 2 _ _ _ _ _ (by omega) (fun y h2 hs hy => ⟨y, rfl, by rw [if_neg h2]; exact hs, hy, rfl⟩) (fun h2 l4 l5 l6 l7 => ?_)
  rw [if_pos h2]
  have oA : am_okr (HH L B1 B2 fi ai aj) (am_fr (HH L B1 B2 fi ai aj) 98 126) 1000 a := okrI rfl rfl (t := 1000) (N := 1600) rfl rfl (by omega) (by omega)
  have oB : am_okr (HH L B1 B2 fi ai aj) (am_fr (HH L B1 B2 fi ai aj) 98 126) 1000 b := okrI rfl rfl (t := 1000) (N := 1600) rfl rfl (by omega) (by omega)
  have eA : am_ai (HH L B1 B2 fi ai aj) (am_fr (HH L B1 B2 fi ai aj) 98 126) a = g := hg
  have eB : am_ai (HH L B1 B2 fi ai aj) (am_fr (HH L B1 B2 fi ai aj) 98 126) b = g' := hg'
  refine am_W.br rfl rfl ⟨trivial, ⟨by omega, by omega⟩, ⟨by omega, by omega⟩⟩ (fun c => ?_) (fun c => absurd (by decide) c)
  refine am_W.rt rfl rfl ⟨⟨⟨⟨⟨trivial, ok126⟩, oA⟩, ok126⟩, oB⟩, trivial⟩ ⟨g - g', ?_, SG_cp3 g g', by omega, rfl⟩
  rw [eA, eB]
