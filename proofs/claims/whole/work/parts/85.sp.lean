-- the sort sorts, and keeps what it sorts
def ordC (c : Int → Int → Int) : Prop := (∀ x y, c x y = -(c y x)) ∧ (∀ x y z, c x y ≤ 0 → c y z ≤ 0 → c x z ≤ 0 ∧ (c x z = 0 → c x y = 0 ∧ c y z = 0))
def ltW (c : Int → Int → Int) (x y : Int) : Prop := c x y < 0 ∨ (c x y = 0 ∧ x < y)
theorem ltW_tr {c : Int → Int → Int} (hc : ordC c) {x y z : Int} (h1 : ltW c x y) (h2 : ltW c y z) : ltW c x z := by
  have h := hc.2 x y z (by rcases h1 with h | h <;> omega) (by rcases h2 with h | h <;> omega)
  unfold ltW at *
  rcases h1 with h1 | h1
  · refine Or.inl ?_
    have : c x z ≠ 0 := fun q => by have := h.2 q; omega
    omega
  · rcases h2 with h2 | h2
    · refine Or.inl ?_
      have : c x z ≠ 0 := fun q => by have := h.2 q; omega
      omega
    · by_cases q : c x z = 0
      · exact Or.inr ⟨q, by omega⟩
      · exact Or.inl (by omega)
theorem mrgF_perm {c : Int → Int → Int} : ∀ (n : Nat) (a b : List Int), a.length + b.length ≤ n → (mrgF c n a b).Perm (a ++ b)
  | 0, a, b, h => by
    have ha : a = [] := List.eq_nil_of_length_eq_zero (by omega)
    have hb : b = [] := List.eq_nil_of_length_eq_zero (by omega)
    subst ha hb
    exact List.Perm.refl _
  | n + 1, [], [], h => List.Perm.refl _
  | n + 1, [], y :: s, h => (mrgF_perm n [] s (by simp only [List.length_cons, List.length_nil] at h ⊢; omega)).cons y
  | n + 1, x :: r, [], h => (mrgF_perm n r [] (by simp only [List.length_cons, List.length_nil] at h ⊢; omega)).cons x
  | n + 1, x :: r, y :: s, h => by
    simp only [List.length_cons] at h
    unfold mrgF
    split
    · exact (mrgF_perm n r (y :: s) (by simp only [List.length_cons]; omega)).cons x
    · exact ((mrgF_perm n (x :: r) s (by simp only [List.length_cons]; omega)).cons y).trans List.perm_middle.symm
theorem mrgF_sort {c : Int → Int → Int} (hc : ordC c) : ∀ (n : Nat) (a b : List Int), a.length + b.length ≤ n → a.Pairwise (ltW c) → b.Pairwise (ltW c) → (∀ x ∈ a, ∀ y ∈ b, x < y) → (mrgF c n a b).Pairwise (ltW c)
  | 0, a, b, h, ha, hb, hab => List.Pairwise.nil
  | n + 1, [], [], h, ha, hb, hab => List.Pairwise.nil
  | n + 1, [], y :: s, h, ha, hb, hab => by
    have hb' := List.pairwise_cons.mp hb
    refine List.pairwise_cons.mpr ⟨fun z hz => ?_, mrgF_sort hc n [] s (by simp only [List.length_cons, List.length_nil] at h ⊢; omega) ha hb'.2 (fun x hx => by cases hx)⟩
    rcases mrgF_mem n [] s z hz with h1 | h1
    · cases h1
    · exact hb'.1 z h1
  | n + 1, x :: r, [], h, ha, hb, hab => by
    have ha' := List.pairwise_cons.mp ha
    refine List.pairwise_cons.mpr ⟨fun z hz => ?_, mrgF_sort hc n r [] (by simp only [List.length_cons, List.length_nil] at h ⊢; omega) ha'.2 hb (fun x hx y hy => by cases hy)⟩
    rcases mrgF_mem n r [] z hz with h1 | h1
    · exact ha'.1 z h1
    · cases h1
  | n + 1, x :: r, y :: s, h, ha, hb, hab => by
    simp only [List.length_cons] at h
    have ha' := List.pairwise_cons.mp ha
    have hb' := List.pairwise_cons.mp hb
    have hxy := hab x (List.mem_cons_self ..) y (List.mem_cons_self ..)
    unfold mrgF
    split
    · next hq =>
      have hR : ltW c x y := by
        by_cases q : c x y = 0
        · exact Or.inr ⟨q, hxy⟩
        · exact Or.inl (by omega)
      refine List.pairwise_cons.mpr ⟨fun z hz => ?_, mrgF_sort hc n r (y :: s) (by simp only [List.length_cons]; omega) ha'.2 hb (fun u hu v hv => hab u (List.mem_cons_of_mem _ hu) v hv)⟩
      rcases mrgF_mem n r (y :: s) z hz with h1 | h1
      · exact ha'.1 z h1
      · rcases List.mem_cons.mp h1 with h2 | h2
        · rw [h2]
          exact hR
        · exact ltW_tr hc hR (hb'.1 z h2)
    · next hq =>
      have hR : ltW c y x := Or.inl (by have := hc.1 y x; omega)
      refine List.pairwise_cons.mpr ⟨fun z hz => ?_, mrgF_sort hc n (x :: r) s (by simp only [List.length_cons]; omega) ha hb'.2 (fun u hu v hv => hab u hu v (List.mem_cons_of_mem _ hv))⟩
      rcases mrgF_mem n (x :: r) s z hz with h1 | h1
      · rcases List.mem_cons.mp h1 with h2 | h2
        · rw [h2]
          exact hR
        · exact ltW_tr hc hR (ha'.1 z h2)
      · exact hb'.1 z h1
def BS (c : Int → Int → Int) (W : Nat) (l o : List Int) : Prop := ∀ b : Nat, ((l.drop (b * W)).take W).Pairwise (ltW c) ∧ ((l.drop (b * W)).take W).Perm ((o.drop (b * W)).take W)
theorem passF_nil {c : Int → Int → Int} {W : Nat} : ∀ k, passF c W k [] = []
  | 0 => rfl
  | k + 1 => by
    unfold passF
    rw [if_pos rfl]
theorem passF_blk {c : Int → Int → Int} {W : Nat} (hW : 1 ≤ W) : ∀ (k : Nat) (l : List Int) (b : Nat), l.length ≤ k → ((passF c W k l).drop (b * (2 * W))).take (2 * W) = mrgF c ((l.drop (b * (2 * W))).take (2 * W)).length ((l.drop (b * (2 * W))).take W) (((l.drop (b * (2 * W))).drop W).take W)
  | 0, l, b, h => by
    have hl : l = [] := List.eq_nil_of_length_eq_zero (by omega)
    subst hl
    show (([] : List Int).drop _).take _ = _
    rw [List.drop_nil, List.take_nil, List.take_nil, List.drop_nil, List.take_nil]
    rfl
  | k + 1, l, b, h => by
    unfold passF
    by_cases hl : l = []
    · subst hl
      rw [if_pos rfl, List.drop_nil, List.take_nil, List.take_nil, List.drop_nil, List.take_nil]
      rfl
    · rw [if_neg hl]
      have hpos : 0 < l.length := List.length_pos_iff.mpr hl
      have hlen : (mrgF c (l.take (2 * W)).length (l.take W) ((l.drop W).take W)).length = min (2 * W) l.length := by
        have hp := (mrgF_perm (c := c) (l.take (2 * W)).length (l.take W) ((l.drop W).take W) (by simp only [List.length_take, List.length_drop]; omega)).length_eq
        rw [hp]
        simp only [List.length_append, List.length_take, List.length_drop]
        omega
      cases b with
      | zero =>
        rw [Nat.zero_mul, List.drop_zero, List.drop_zero]
        by_cases h2 : 2 * W ≤ l.length
        · rw [List.take_append_of_le_length (by omega), List.take_of_length_le (by omega)]
        · rw [List.drop_eq_nil_of_le (by omega : l.length ≤ 2 * W), passF_nil, List.append_nil, List.take_of_length_le (by omega)]
      | succ b =>
        have e : (b + 1) * (2 * W) = 2 * W + b * (2 * W) := by rw [Nat.succ_mul]; omega
        rw [e, ← List.drop_drop, ← List.drop_drop]
        have h3 : (mrgF c (l.take (2 * W)).length (l.take W) ((l.drop W).take W) ++ passF c W k (l.drop (2 * W))).drop (2 * W) = passF c W k (l.drop (2 * W)) := by
          by_cases h2 : 2 * W ≤ l.length
          · rw [List.drop_append_of_le_length (by omega), List.drop_eq_nil_of_le (by omega), List.nil_append]
          · rw [List.drop_eq_nil_of_le (by omega : l.length ≤ 2 * W), passF_nil, List.append_nil, List.drop_eq_nil_of_le (by omega)]
        rw [h3]
        exact passF_blk hW k (l.drop (2 * W)) b (by rw [List.length_drop]; omega)
theorem BS_2 {c : Int → Int → Int} (hc : ordC c) {W : Nat} (hW : 1 ≤ W) {l o : List Int} (ho : o.Pairwise (· < ·)) (h : BS c W l o) : BS c (2 * W) (passF c W l.length l) o := by
  intro b
  rw [passF_blk hW l.length l b (Nat.le_refl _)]
  have hA := h (2 * b)
  have hB := h (2 * b + 1)
  have eb : b * (2 * W) = 2 * b * W := by rw [← Nat.mul_assoc, Nat.mul_comm b 2]
  have eb2 : (2 * b + 1) * W = 2 * b * W + W := by rw [Nat.add_mul, Nat.one_mul]
  rw [eb2, ← List.drop_drop, ← List.drop_drop] at hB
  rw [eb]
  generalize hl : l.drop (2 * b * W) = l1 at *
  generalize hoo : o.drop (2 * b * W) = o1 at *
  have ho1 : o1.Pairwise (· < ·) := by rw [← hoo]; exact ho.sublist (List.drop_sublist _ _)
  have eo : o1.take (2 * W) = o1.take W ++ (o1.drop W).take W := by
    rw [show 2 * W = W + W by omega, List.take_add]
  have hn : (l1.take W).length + ((l1.drop W).take W).length ≤ (l1.take (2 * W)).length := by
    simp only [List.length_take, List.length_drop]
    omega
  have hlt : ∀ x ∈ l1.take W, ∀ y ∈ (l1.drop W).take W, x < y := by
    intro x hx y hy
    have h1 : (o1.take (2 * W)).Pairwise (· < ·) := ho1.sublist (List.take_sublist _ _)
    rw [eo, List.pairwise_append] at h1
    exact h1.2.2 x (hA.2.mem_iff.mp hx) y (hB.2.mem_iff.mp hy)
  refine ⟨mrgF_sort hc _ _ _ hn hA.1 hB.1 hlt, ?_⟩
  rw [eo]
  exact (mrgF_perm _ _ _ hn).trans (hA.2.append hB.2)
theorem sortF_BS {c : Int → Int → Int} (hc : ordC c) {o : List Int} (ho : o.Pairwise (· < ·)) : ∀ (k W : Nat) (l : List Int), 1 ≤ W → l.length ≤ W * 2 ^ k → l.length = o.length → BS c W l o → (sortF c k W l).Pairwise (ltW c) ∧ (sortF c k W l).Perm o := by
  have hend : ∀ (W : Nat) (l : List Int), l.length ≤ W → l.length = o.length → BS c W l o → l.Pairwise (ltW c) ∧ l.Perm o := by
    intro W l h1 h2 h3
    have := h3 0
    rw [Nat.zero_mul, List.drop_zero, List.drop_zero, List.take_of_length_le h1, List.take_of_length_le (by omega)] at this
    exact this
  intro k
  induction k with
  | zero =>
    intro W l hW hl hlo hb
    exact hend W l (by rw [Nat.pow_zero, Nat.mul_one] at hl; exact hl) hlo hb
  | succ k ih =>
    intro W l hW hl hlo hb
    unfold sortF
    split
    · have hb2 := BS_2 hc hW ho hb
      have hlen : (passF c W l.length l).length = l.length := by
        have h : ∀ (k : Nat) (l : List Int), l.length ≤ k → (passF c W k l).length = l.length := by
          intro k
          induction k with
          | zero =>
            intro l h
            have : l.length = 0 := by omega
            rw [this]
            rfl
          | succ k ih2 =>
            intro l h
            unfold passF
            by_cases hl : l = []
            · rw [if_pos hl, hl]
            · rw [if_neg hl, List.length_append, ih2 _ (by have := List.length_pos_iff.mpr hl; rw [List.length_drop]; omega)]
              have hp := (mrgF_perm (c := c) (l.take (2 * W)).length (l.take W) ((l.drop W).take W) (by simp only [List.length_take, List.length_drop]; omega)).length_eq
              rw [hp]
              simp only [List.length_append, List.length_take, List.length_drop]
              omega
        exact h _ l (Nat.le_refl _)
      refine ih (2 * W) _ (by omega) ?_ (by rw [hlen]; exact hlo) hb2
      rw [hlen]
      rw [Nat.pow_succ] at hl
      have e : W * (2 ^ k * 2) = 2 * W * 2 ^ k := by rw [Nat.mul_comm (2 ^ k) 2, ← Nat.mul_assoc, Nat.mul_comm W 2]
      omega
    · exact hend W l (by omega) hlo hb
theorem sortF_ok {c : Int → Int → Int} (hc : ordC c) {o : List Int} (ho : o.Pairwise (· < ·)) (h : o.length ≤ 1536) : (sortF c 11 1 o).Pairwise (ltW c) ∧ (sortF c 11 1 o).Perm o := by
  refine sortF_BS hc ho 11 1 o (Nat.le_refl 1) (by show o.length ≤ 2048; omega) rfl ?_
  intro b
  refine ⟨?_, List.Perm.refl _⟩
  have hlen : ((o.drop (b * 1)).take 1).length ≤ 1 := by rw [List.length_take]; omega
  match hq : (o.drop (b * 1)).take 1, hlen with
  | [], _ => exact List.Pairwise.nil
  | [x], _ => exact List.pairwise_singleton _ _
  | x :: y :: r, hl => simp only [List.length_cons] at hl; omega
