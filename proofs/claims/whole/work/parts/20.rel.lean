-- what the small machine's values and cells are on the real one: ex: the cells that stand outside, B: where ours begin, tys: the array kinds
def am_ad (ex : Nat → Nat) (B r : Nat) : Nat := if r < 16 then ex r else B + (r - 16)
def am_cr (ex : Nat → Nat) (B r : Nat) : Option Nat := if r = 0 then none else some (am_ad ex B r)
def am_cv (ex : Nat → Nat) (B : Nat) : am_V → Value
  | .inl x => .int (Int32.ofInt x)
  | .inr (.inl x) => .long (Int64.ofInt x)
  | .inr (.inr r) => va_rf (am_cr ex B r)
def am_kd (de : String) : Int := if de = "I" then 0 else if de = "J" then 1 else if de = "Z" then 3 else 2
def am_fv (ex : Nat → Nat) (B : Nat) (h : am_H) (r id : Nat) (de : String) : Value := am_cv ex B (am_gf h id r (am_kd de))
def am_ci (tys : List (ClassId × FieldType)) (t : Nat) : ClassId := ((tys[t]?).map Prod.fst).getD 0
def am_ff (ex : Nat → Nat) (B : Nat) (h : am_H) (k r : Nat) : List Value := (List.range (am_fld k).length).map (fun j => am_fv ex B h r (am_off k + j) (am_ft k j).2.2.1)
def am_ce (ex : Nat → Nat) (B : Nat) (tys : List (ClassId × FieldType)) (h : am_H) (r : Nat) : va_E :=
  if (am_c h r).1 < 1000 then .inr ((am_c h r).1, am_ff ex B h (am_c h r).1 r)
  else if (am_c h r).1 = 1001 then .inl (am_ci tys 1, (am_c h r).2, .inr (.inl (fun j => Int64.ofInt (am_aj h r j))))
  else if (am_c h r).1 = 1004 then .inl (am_ci tys 4, (am_c h r).2, .inr (.inr (.inr (.inr (fun j => am_cr ex B (am_ar h r j))))))
  else .inl (am_ci tys ((am_c h r).1 - 1000), (am_c h r).2, .inl (fun j => Int32.ofInt (am_ai h r j)))
def am_ws (ex : Nat → Nat) (B : Nat) (tys : List (ClassId × FieldType)) (h : am_H) : va_W := (List.range (am_n h - 16)).map (fun j => (B + j, am_ce ex B tys h (j + 16)))
theorem am_ad_hi {ex : Nat → Nat} {B r : Nat} (h : 16 ≤ r) : am_ad ex B r = B + (r - 16) := by
  unfold am_ad
  rw [if_neg (by omega)]
theorem am_cr_hi {ex : Nat → Nat} {B r : Nat} (h : 16 ≤ r) : am_cr ex B r = some (B + (r - 16)) := by
  unfold am_cr
  rw [if_neg (by omega), am_ad_hi h]
theorem am_cv_hi {ex : Nat → Nat} {B r : Nat} (h : 16 ≤ r) : am_cv ex B (.inr (.inr r)) = .ref (B + (r - 16)) := by
  show va_rf (am_cr ex B r) = _
  rw [am_cr_hi h]
  rfl
theorem am_ws_len {ex : Nat → Nat} {B : Nat} {tys : List (ClassId × FieldType)} {h : am_H} : (am_ws ex B tys h).length = am_n h - 16 := by simp [am_ws]
theorem am_ws_at {ex : Nat → Nat} {B : Nat} {tys : List (ClassId × FieldType)} {h : am_H} {j : Nat} : (am_ws ex B tys h)[j]? = if j < am_n h - 16 then some (B + j, am_ce ex B tys h (j + 16)) else none := by
  unfold am_ws
  rw [List.getElem?_map]
  by_cases hj : j < am_n h - 16
  · rw [if_pos hj, List.getElem?_range hj]
    rfl
  · rw [if_neg hj, List.getElem?_eq_none (by simp; omega)]
    rfl
theorem am_ws_get {ex : Nat → Nat} {B : Nat} {tys : List (ClassId × FieldType)} {h : am_H} {r : Nat} (h1 : 16 ≤ r) (h2 : r < am_n h) : (am_ws ex B tys h)[r - 16]? = some (B + (r - 16), am_ce ex B tys h r) := by
  rw [am_ws_at, if_pos (by omega), Nat.sub_add_cancel h1]
theorem am_ws_set {ex : Nat → Nat} {B : Nat} {tys : List (ClassId × FieldType)} {h h' : am_H} {r : Nat} {e : va_E} (hn : am_n h' = am_n h) (h1 : 16 ≤ r) (h2 : r < am_n h) (he : am_ce ex B tys h' r = e) (ho : ∀ q, q ≠ r → am_ce ex B tys h' q = am_ce ex B tys h q) : (am_ws ex B tys h).set (r - 16) (B + (r - 16), e) = am_ws ex B tys h' := by
  apply List.ext_getElem?
  intro j
  rw [List.getElem?_set, am_ws_at, am_ws_at, hn, am_ws_len]
  by_cases hj : r - 16 = j
  · subst hj
    rw [if_pos rfl, if_pos (by omega), if_pos (by omega), Nat.sub_add_cancel h1, he]
  · rw [if_neg hj]
    by_cases hk : j < am_n h - 16
    · rw [if_pos hk, if_pos hk, ho (j + 16) (by omega)]
    · rw [if_neg hk, if_neg hk]
theorem am_ws_app {ex : Nat → Nat} {B : Nat} {tys : List (ClassId × FieldType)} {h h' : am_H} {e : va_E} (h16 : 16 ≤ am_n h) (hn : am_n h' = am_n h + 1) (he : am_ce ex B tys h' (am_n h) = e) (ho : ∀ q, q ≠ am_n h → am_ce ex B tys h' q = am_ce ex B tys h q) : am_ws ex B tys h ++ [(B + (am_n h - 16), e)] = am_ws ex B tys h' := by
  apply List.ext_getElem?
  intro j
  rw [List.getElem?_append, am_ws_at, am_ws_at, hn, am_ws_len]
  by_cases hj : j < am_n h - 16
  · rw [if_pos hj, if_pos hj, if_pos (by omega), ho (j + 16) (by omega)]
  · rw [if_neg hj]
    by_cases hk : j = am_n h - 16
    · subst hk
      rw [if_pos (by omega), Nat.sub_self, Nat.sub_add_cancel h16, he]
      rfl
    · rw [if_neg (by omega), List.getElem?_eq_none (by simp; omega)]
theorem am_ws_D {ex : Nat → Nat} {B : Nat} {tys : List (ClassId × FieldType)} {h : am_H} : va_D (fun q => B ≤ q) (am_ws ex B tys h) := by
  refine ⟨fun i j p q hi hj e => ?_, fun k q hk => ?_⟩
  · rw [am_ws_at] at hi hj
    split at hi
    · split at hj
      · cases hi
        cases hj
        have e' : B + i = B + j := e
        omega
      · cases hj
    · cases hi
  · rw [am_ws_at] at hk
    split at hk
    · cases hk
      exact Nat.le_add_right _ _
    · cases hk
/-- a cell is the same where all that it is made of is the same -/
theorem am_ce_eq {ex : Nat → Nat} {B : Nat} {tys : List (ClassId × FieldType)} {h h' : am_H} {q : Nat} (hc : am_c h' q = am_c h q) (h1 : ∀ i, am_fi h' i q = am_fi h i q) (h2 : ∀ i, am_fj h' i q = am_fj h i q) (h3 : ∀ i, am_fr h' i q = am_fr h i q) (h4 : am_ai h' q = am_ai h q) (h5 : am_aj h' q = am_aj h q) (h6 : am_ar h' q = am_ar h q) : am_ce ex B tys h' q = am_ce ex B tys h q := by
  unfold am_ce am_ff am_fv am_gf
  simp only [hc, h1, h2, h3, h4, h5, h6]
/-- an object whose one field is changed -/
theorem am_ff_set {ex : Nat → Nat} {B : Nat} {h h' : am_H} {k r j : Nat} {v : Value} (hj : j < (am_fld k).length) (he : am_fv ex B h' r (am_off k + j) (am_ft k j).2.2.1 = v) (ho : ∀ i, i ≠ j → ∀ de, am_fv ex B h' r (am_off k + i) de = am_fv ex B h r (am_off k + i) de) : (am_ff ex B h k r).set j v = am_ff ex B h' k r := by
  unfold am_ff
  apply List.ext_getElem?
  intro i
  rw [List.getElem?_set, List.getElem?_map, List.getElem?_map, List.length_map, List.length_range]
  by_cases hi : j = i
  · subst hi
    rw [if_pos rfl, if_pos hj, List.getElem?_range hj]
    show some v = some (am_fv ex B h' r (am_off k + j) (am_ft k j).2.2.1)
    rw [he]
  · rw [if_neg hi]
    by_cases hl : i < (am_fld k).length
    · rw [List.getElem?_range hl]
      show some (am_fv ex B h r (am_off k + i) (am_ft k i).2.2.1) = some (am_fv ex B h' r (am_off k + i) (am_ft k i).2.2.1)
      rw [ho i (Ne.symm hi)]
    · rw [List.getElem?_eq_none (by simp; omega)]
      rfl
theorem am_ff_get {ex : Nat → Nat} {B : Nat} {h : am_H} {k r j : Nat} (hj : j < (am_fld k).length) : (am_ff ex B h k r)[j]? = some (am_fv ex B h r (am_off k + j) (am_ft k j).2.2.1) := by
  unfold am_ff
  rw [List.getElem?_map, List.getElem?_range hj]
  rfl
theorem am_ff_len {ex : Nat → Nat} {B : Nat} {h : am_H} {k r : Nat} : (am_ff ex B h k r).length = (am_fld k).length := by simp [am_ff]
theorem am_cls_at {k : Nat} (h : k < 11) : am_cls[k]? = some (am_onm k, am_ft k, (am_fld k).length) := by
  unfold am_cls
  rw [List.getElem?_map, List.getElem?_range h]
  rfl
-- the variables
def am_as (ex : Nat → Nat) (B : Nat) : Nat → am_L → List (Nat × Value)
  | _, [] => []
  | i, none :: r => am_as ex B (i + 1) r
  | i, some v :: r => (i, am_cv ex B v) :: am_as ex B (i + 1) r
theorem am_as_in {ex : Nat → Nat} {B : Nat} : ∀ {ls : am_L} {i k : Nat} {v : am_V}, am_lk ls k = some v → (i + k, am_cv ex B v) ∈ am_as ex B i ls
  | [], _, _, _, h => by simp [am_lk] at h
  | none :: r, i, 0, v, h => by simp [am_lk] at h
  | some w :: r, i, 0, v, h => by
    simp only [am_lk, Option.some.injEq] at h
    subst h
    exact List.mem_cons_self
  | none :: r, i, k + 1, v, h => by
    have := am_as_in (ex := ex) (B := B) (i := i + 1) (k := k) (ls := r) (v := v) (by simpa [am_lk] using h)
    rw [show i + (k + 1) = i + 1 + k by omega]
    exact this
  | some w :: r, i, k + 1, v, h => by
    have := am_as_in (ex := ex) (B := B) (i := i + 1) (k := k) (ls := r) (v := v) (by simpa [am_lk] using h)
    rw [show i + (k + 1) = i + 1 + k by omega]
    exact List.mem_cons_of_mem _ this
theorem am_as_of {ex : Nat → Nat} {B : Nat} : ∀ {ls : am_L} {i : Nat} {q : Nat × Value}, q ∈ am_as ex B i ls → ∃ k v, q.1 = i + k ∧ am_lk ls k = some v ∧ q.2 = am_cv ex B v
  | [], _, _, h => by simp [am_as] at h
  | none :: r, i, q, h => by
    obtain ⟨k, v, a, b, c⟩ := am_as_of (ls := r) (i := i + 1) (q := q) (by simpa [am_as] using h)
    exact ⟨k + 1, v, by omega, by simpa [am_lk] using b, c⟩
  | some w :: r, i, q, h => by
    rcases List.mem_cons.mp (show q ∈ (i, am_cv ex B w) :: am_as ex B (i + 1) r from h) with rfl | h
    · exact ⟨0, w, rfl, rfl, rfl⟩
    · obtain ⟨k, v, a, b, c⟩ := am_as_of (ls := r) (i := i + 1) (q := q) h
      exact ⟨k + 1, v, by omega, by simpa [am_lk] using b, c⟩
theorem am_lk_s1 : ∀ {ls : am_L} {k j : Nat} {v w : am_V}, am_lk (am_s1 ls k v) j = some w → (j = k ∧ w = v) ∨ (j ≠ k ∧ am_lk ls j = some w ∧ (j + 1 = k → ∀ x, w ≠ .inr (.inl x)))
  | [], k, j, v, w, h => by simp [am_s1, am_lk] at h
  | a :: r, 0, 0, v, w, h => by
    simp only [am_s1, am_lk, Option.some.injEq] at h
    exact Or.inl ⟨rfl, h.symm⟩
  | a :: r, 0, j + 1, v, w, h => Or.inr ⟨by omega, by simpa [am_s1, am_lk] using h, by omega⟩
  | a :: r, 1, 0, v, w, h => by
    refine Or.inr ⟨by omega, ?_⟩
    simp only [am_s1, am_lk] at h ⊢
    match a, h with
    | none, h => simp [am_cl] at h
    | some (.inl x), h =>
      simp only [am_cl, Option.some.injEq] at h
      subst h
      exact ⟨rfl, fun _ _ q => by cases q⟩
    | some (.inr (.inl x)), h => simp [am_cl] at h
    | some (.inr (.inr x)), h =>
      simp only [am_cl, Option.some.injEq] at h
      subst h
      exact ⟨rfl, fun _ _ q => by cases q⟩
  | a :: r, 1, j + 1, v, w, h => by
    have := am_lk_s1 (ls := r) (k := 0) (j := j) (v := v) (w := w) (by simpa [am_s1, am_lk] using h)
    rcases this with ⟨a1, a2⟩ | ⟨a1, a2, a3⟩
    · exact Or.inl ⟨by omega, a2⟩
    · exact Or.inr ⟨by omega, by simpa [am_lk] using a2, by omega⟩
  | a :: r, k + 2, 0, v, w, h => Or.inr ⟨by omega, by simpa [am_s1, am_lk] using h, by omega⟩
  | a :: r, k + 2, j + 1, v, w, h => by
    have := am_lk_s1 (ls := r) (k := k + 1) (j := j) (v := v) (w := w) (by simpa [am_s1, am_lk] using h)
    rcases this with ⟨a1, a2⟩ | ⟨a1, a2, a3⟩
    · exact Or.inl ⟨by omega, a2⟩
    · exact Or.inr ⟨by omega, by simpa [am_lk] using a2, fun q => a3 (by omega)⟩
theorem am_lk_nx {ls : am_L} {j : Nat} {w : am_V} (h : am_lk (am_nx ls) j = some w) : 0 < j ∧ am_lk ls j = some w := by
  match ls, j, h with
  | [], j, h => simp [am_nx, am_lk] at h
  | a :: r, 0, h => simp [am_nx, am_lk] at h
  | a :: r, j + 1, h => exact ⟨by omega, by simpa [am_nx, am_lk] using h⟩
theorem am_lk_s2 : ∀ {ls : am_L} {k j : Nat} {v w : am_V}, am_lk (am_s2 ls k v) j = some w → (j = k ∧ w = v) ∨ (j ≠ k ∧ j ≠ k + 1 ∧ am_lk ls j = some w ∧ (j + 1 = k → ∀ x, w ≠ .inr (.inl x)))
  | [], k, j, v, w, h => by simp [am_s2, am_lk] at h
  | a :: r, 0, 0, v, w, h => by
    simp only [am_s2, am_lk, Option.some.injEq] at h
    exact Or.inl ⟨rfl, h.symm⟩
  | a :: r, 0, j + 1, v, w, h => by
    have := am_lk_nx (ls := r) (j := j) (w := w) (by simpa [am_s2, am_lk] using h)
    exact Or.inr ⟨by omega, by omega, by simpa [am_lk] using this.2, by omega⟩
  | a :: r, 1, 0, v, w, h => by
    refine Or.inr ⟨by omega, by omega, ?_⟩
    simp only [am_s2, am_lk] at h ⊢
    match a, h with
    | none, h => simp [am_cl] at h
    | some (.inl x), h =>
      simp only [am_cl, Option.some.injEq] at h
      subst h
      exact ⟨rfl, fun _ _ q => by cases q⟩
    | some (.inr (.inl x)), h => simp [am_cl] at h
    | some (.inr (.inr x)), h =>
      simp only [am_cl, Option.some.injEq] at h
      subst h
      exact ⟨rfl, fun _ _ q => by cases q⟩
  | a :: r, 1, j + 1, v, w, h => by
    have := am_lk_s2 (ls := r) (k := 0) (j := j) (v := v) (w := w) (by simpa [am_s2, am_lk] using h)
    rcases this with ⟨a1, a2⟩ | ⟨a1, a0, a2, a3⟩
    · exact Or.inl ⟨by omega, a2⟩
    · exact Or.inr ⟨by omega, by omega, by simpa [am_lk] using a2, by omega⟩
  | a :: r, k + 2, 0, v, w, h => Or.inr ⟨by omega, by omega, by simpa [am_s2, am_lk] using h, by omega⟩
  | a :: r, k + 2, j + 1, v, w, h => by
    have := am_lk_s2 (ls := r) (k := k + 1) (j := j) (v := v) (w := w) (by simpa [am_s2, am_lk] using h)
    rcases this with ⟨a1, a2⟩ | ⟨a1, a0, a2, a3⟩
    · exact Or.inl ⟨by omega, a2⟩
    · exact Or.inr ⟨by omega, by omega, by simpa [am_lk] using a2, fun q => a3 (by omega)⟩
theorem am_cat {ex : Nat → Nat} {B : Nat} {v : am_V} (h : ∀ x, v ≠ .inr (.inl x)) : (am_cv ex B v).category = 1 := by
  match v, h with
  | .inl x, _ => rfl
  | .inr (.inl x), h => exact absurd rfl (h x)
  | .inr (.inr r), _ =>
    show (va_rf (am_cr ex B r)).category = 1
    cases am_cr ex B r <;> rfl
theorem am_has1 {ex : Nat → Nat} {B nL : Nat} {ls : am_L} {ls' : Array Slot} {k : Nat} {v : am_V} (h : lv_has ls' nL ((k, am_cv ex B v) :: (am_as ex B 0 ls).filter (fun q => !(q.1 == k) && !(q.1 + 1 == k && q.2.category == 2)))) : lv_has ls' nL (am_as ex B 0 (am_s1 ls k v)) := by
  refine ⟨h.1, h.2.1, fun q hq => h.2.2 q ?_⟩
  obtain ⟨j, w, a, b, c⟩ := am_as_of hq
  rw [Nat.zero_add] at a
  rcases am_lk_s1 b with ⟨rfl, rfl⟩ | ⟨n1, n2, n3⟩
  · rw [show q = (j, am_cv ex B w) from Prod.ext a c]
    exact List.mem_cons_self
  · refine List.mem_cons_of_mem _ (List.mem_filter.mpr ⟨?_, ?_⟩)
    · have := am_as_in (ex := ex) (B := B) (i := 0) n2
      rw [Nat.zero_add] at this
      rw [show q = (j, am_cv ex B w) from Prod.ext a c]
      exact this
    · rw [a, c]
      simp only [Bool.and_eq_true, Bool.not_eq_true', beq_eq_false_iff_ne, Bool.and_eq_false_iff]
      refine ⟨n1, ?_⟩
      by_cases hk : j + 1 = k
      · exact Or.inr (by rw [am_cat (n3 hk)]; decide)
      · exact Or.inl hk
theorem am_has2 {ex : Nat → Nat} {B nL : Nat} {ls : am_L} {ls' : Array Slot} {k : Nat} {v : am_V} (h : lv_has ls' nL ((k, am_cv ex B v) :: (am_as ex B 0 ls).filter (fun q => !(q.1 == k) && (!(q.1 == k + 1) && !(q.1 + 1 == k && q.2.category == 2))))) : lv_has ls' nL (am_as ex B 0 (am_s2 ls k v)) := by
  refine ⟨h.1, h.2.1, fun q hq => h.2.2 q ?_⟩
  obtain ⟨j, w, a, b, c⟩ := am_as_of hq
  rw [Nat.zero_add] at a
  rcases am_lk_s2 b with ⟨rfl, rfl⟩ | ⟨n1, n0, n2, n3⟩
  · rw [show q = (j, am_cv ex B w) from Prod.ext a c]
    exact List.mem_cons_self
  · refine List.mem_cons_of_mem _ (List.mem_filter.mpr ⟨?_, ?_⟩)
    · have := am_as_in (ex := ex) (B := B) (i := 0) n2
      rw [Nat.zero_add] at this
      rw [show q = (j, am_cv ex B w) from Prod.ext a c]
      exact this
    · rw [a, c]
      simp only [Bool.and_eq_true, Bool.not_eq_true', beq_eq_false_iff_ne, Bool.and_eq_false_iff]
      refine ⟨n1, n0, ?_⟩
      by_cases hk : j + 1 = k
      · exact Or.inr (by rw [am_cat (n3 hk)]; decide)
      · exact Or.inl hk
theorem am_hasL {ex : Nat → Nat} {B nL : Nat} {ls : am_L} {lsR : Array Slot} {k : Nat} {v : am_V} (h : lv_has lsR nL (am_as ex B 0 ls)) (hk : am_lk ls k = some v) : lsR[k]? = some (.val (am_cv ex B v)) := by
  have := am_as_in (ex := ex) (B := B) (i := 0) hk
  rw [Nat.zero_add] at this
  exact h.2.2 _ this
