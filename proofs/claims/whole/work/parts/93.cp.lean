-- the reference: slots compared
theorem and_id {x : Int} (h : 0 ≤ x ∧ x < 128) : am_and x 255 = x := by
  have k : ∀ n : Fin 128, am_and ((n.val : Nat) : Int) 255 = ((n.val : Nat) : Int) := by decide
  have := k ⟨x.toNat, by omega⟩
  rw [show (((⟨x.toNat, by omega⟩ : Fin 128).val : Nat) : Int) = x by show ((x.toNat : Nat) : Int) = x; omega] at this
  exact this
def llc : List Int → List Int → Int
  | [], [] => 0
  | [], _ :: _ => -1
  | _ :: _, [] => 1
  | x :: r, y :: s => if cp3 x y = 0 then llc r s else cp3 x y
def tc (u v : Int × List Int) : Int := if cp3 u.1 v.1 = 0 then llc u.2 v.2 else cp3 u.1 v.1
def cmT (T T' : Int → Int × List Int) (g g' : Int) : Int := if tc (T 0) (T' 0) = 0 then (if tc (T 1) (T' 1) = 0 then (if tc (T 2) (T' 2) = 0 then cp3 g g' else tc (T 2) (T' 2)) else tc (T 1) (T' 1)) else tc (T 0) (T' 0)
def SG (v c : Int) : Prop := (c = -1 ∧ v < 0) ∨ (c = 0 ∧ v = 0) ∨ (c = 1 ∧ 0 < v)
theorem SG_cp3 (x y : Int) : SG (x - y) (cp3 x y) := by
  unfold SG cp3
  (repeat' split) <;> omega
def slA (K Z Y : Int → Int) (s n : Int) (u : Int × List Int) : Prop := K (3 * s + n) = u.1 ∧ Z (3 * s + n) = (u.2.length : Int) ∧ ∀ i : Nat, i < u.2.length → Y (60 * s + 20 * n + (i : Int)) = u.2.getD i 0
theorem dropC {l : List Int} {k : Nat} {x : Int} {r : List Int} (h : l.drop k = x :: r) : k < l.length ∧ l.getD k 0 = x ∧ l.drop (k + 1) = r := by
  have h1 : k < l.length := by
    rcases Nat.lt_or_ge k l.length with h1 | h1
    · exact h1
    · rw [List.drop_eq_nil_of_le h1] at h
      cases h
  refine ⟨h1, ?_, ?_⟩
  · rw [List.drop_eq_getElem_cons h1] at h
    rw [List.getD_eq_getElem?_getD, List.getElem?_eq_getElem h1]
    exact (List.cons.inj h).1
  · rw [List.drop_eq_getElem_cons h1] at h
    exact (List.cons.inj h).2
