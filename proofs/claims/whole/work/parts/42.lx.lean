-- tokens, as functions of a text (-1 outside of it)
def tx (n : Int) (T : Int → Int) : Int → Int := fun i => if 0 ≤ i ∧ i < n then T i else -1
def txI (n : Int) (T : Int → Int) : Prop := 0 ≤ n ∧ n ≤ 500 ∧ ∀ i, 0 ≤ i → i < n → 0 ≤ T i ∧ T i ≤ 255
theorem tx_i {n : Int} {T : Int → Int} {i : Int} (h0 : 0 ≤ i) (h1 : i < n) : tx n T i = T i := if_pos ⟨h0, h1⟩
theorem tx_o {n : Int} {T : Int → Int} {i : Int} (h : n ≤ i) : tx n T i = -1 := if_neg (by omega)
theorem tx_lt {n : Int} {T : Int → Int} {p : Int} (h : tx n T p ≠ -1) : 0 ≤ p ∧ p < n := by
  by_cases q : 0 ≤ p ∧ p < n
  · exact q
  · exact absurd (if_neg q) h
theorem tx_R {n : Int} {T : Int → Int} (hI : txI n T) (i : Int) : -1 ≤ tx n T i ∧ tx n T i ≤ 255 ∧ (tx n T i = -1 ↔ ¬ (0 ≤ i ∧ i < n)) := by
  unfold tx
  by_cases h : 0 ≤ i ∧ i < n
  · rw [if_pos h]
    have := hI.2.2 i h.1 h.2
    omega
  · rw [if_neg h]
    omega
def skp (t : Int → Int) : Nat → Int → Int
  | 0, p => p
  | k + 1, p => if t p = 32 ∨ t p = 10 then skp t k (p + 1) else p
def wde (t : Int → Int) : Nat → Int → Int
  | 0, p => p
  | k + 1, p => if 97 ≤ t p ∧ t p ≤ 122 then wde t k (p + 1) else p
def wdk (t : Int → Int) : Nat → Int → Int → Int
  | 0, _, q => q
  | k + 1, p, q => if 97 ≤ t p ∧ t p ≤ 122 then wdk t k (p + 1) (am_or (am_shl q 8) (t p)) else q
def dge (t : Int → Int) : Nat → Int → Int → Int × Int
  | 0, p, v => (p, v)
  | k + 1, p, v => if 48 ≤ t p ∧ t p ≤ 57 then dge t k (p + 1) (10 * v + t p - 48) else (p, v)
abbrev isg (c : Int) : Prop := c = 58 ∨ c = 46 ∨ c = 36 ∨ c = 95 ∨ c = 61 ∨ c = 60 ∨ c = 62 ∨ c = 34
theorem isg_em (c : Int) : isg c ∨ ¬ isg c := Classical.em _
/-- a token: where it starts, its kind, its number (that of the last number), what is behind it -/
abbrev Tk : Type := Int × Int × Int × Int
def lxs (t : Int → Int) (s v : Int) : Tk := if 97 ≤ t s ∧ t s ≤ 122 then (s, (if 4 < wde t 501 s - s then 0 else wdk t 501 s 0), v, wde t 501 s) else if 48 ≤ t s ∧ t s ≤ 57 then (s, 1, (dge t 4 s 0).2, (dge t 4 s 0).1) else if t s = -1 then (s, -1, v, s) else (s, (if isg (t s) then t s else 0), v, s + 1)
def lx (t : Int → Int) (p v : Int) : Tk := lxs t (skp t 500 p) v
theorem skp_in {n : Int} {T : Int → Int} : ∀ (k : Nat) (p : Int), 0 ≤ p → p ≤ n → p ≤ skp (tx n T) k p ∧ skp (tx n T) k p ≤ n
  | 0, p, h0, h1 => ⟨Int.le_refl p, h1⟩
  | k + 1, p, h0, h1 => by
    unfold skp
    by_cases q : tx n T p = 32 ∨ tx n T p = 10
    · rw [if_pos q]
      have hp : p < n := (tx_lt (T := T) (p := p) (by omega)).2
      have := skp_in (n := n) (T := T) k (p + 1) (by omega) (by omega)
      omega
    · rw [if_neg q]
      omega
theorem wde_in {n : Int} {T : Int → Int} : ∀ (k : Nat) (p : Int), 0 ≤ p → p ≤ n → p ≤ wde (tx n T) k p ∧ wde (tx n T) k p ≤ n
  | 0, p, h0, h1 => ⟨Int.le_refl p, h1⟩
  | k + 1, p, h0, h1 => by
    unfold wde
    by_cases q : 97 ≤ tx n T p ∧ tx n T p ≤ 122
    · rw [if_pos q]
      have hp : p < n := (tx_lt (T := T) (p := p) (by omega)).2
      have := wde_in (n := n) (T := T) k (p + 1) (by omega) (by omega)
      omega
    · rw [if_neg q]
      omega
theorem dge_in {n : Int} {T : Int → Int} : ∀ (k : Nat) (p v : Int), 0 ≤ p → p ≤ n → 0 ≤ v → p ≤ (dge (tx n T) k p v).1 ∧ (dge (tx n T) k p v).1 ≤ n ∧ (dge (tx n T) k p v).1 ≤ p + k ∧ 0 ≤ (dge (tx n T) k p v).2
  | 0, p, v, h0, h1, h2 => ⟨Int.le_refl p, h1, by show p ≤ p + ((0 : Nat) : Int); omega, h2⟩
  | k + 1, p, v, h0, h1, h2 => by
    unfold dge
    by_cases q : 48 ≤ tx n T p ∧ tx n T p ≤ 57
    · rw [if_pos q]
      have hp : p < n := (tx_lt (T := T) (p := p) (by omega)).2
      have := dge_in (n := n) (T := T) k (p + 1) (10 * v + tx n T p - 48) (by omega) (by omega) (by omega)
      omega
    · rw [if_neg q]
      refine ⟨Int.le_refl p, h1, ?_, h2⟩
      show p ≤ p + ((k + 1 : Nat) : Int)
      omega
theorem dge_lt (t : Int → Int) (p : Int) : (dge t 4 p 0).2 ≤ 9999 := by
  unfold dge
  split
  · unfold dge
    split
    · unfold dge
      split
      · unfold dge
        split
        · unfold dge
          show _ ≤ _
          dsimp only
          omega
        · dsimp only
          omega
      · dsimp only
        omega
    · dsimp only
      omega
  · dsimp only
    omega
theorem or_R (x y : Int) : am_R (am_or x y) := am_toI _
theorem wdk_R (t : Int → Int) : ∀ (k : Nat) (p q : Int), am_R q → am_R (wdk t k p q)
  | 0, _, q, h => h
  | k + 1, p, q, h => by
    unfold wdk
    split
    · exact wdk_R t k _ _ (or_R _ _)
    · exact h
theorem lxs_in {n : Int} {T : Int → Int} (hI : txI n T) (p v : Int) (h0 : 0 ≤ p) (h1 : p ≤ n) (hv : 0 ≤ v ∧ v ≤ 9999) : p = (lxs (tx n T) p v).1 ∧ am_R (lxs (tx n T) p v).2.1 ∧ (0 ≤ (lxs (tx n T) p v).2.2.1 ∧ (lxs (tx n T) p v).2.2.1 ≤ 9999) ∧ p ≤ (lxs (tx n T) p v).2.2.2 ∧ (lxs (tx n T) p v).2.2.2 ≤ n := by
  have hw := wde_in (n := n) (T := T) 501 p h0 h1
  have hd := dge_in (n := n) (T := T) 4 p 0 h0 h1 (Int.le_refl 0)
  have hd2 := dge_lt (tx n T) p
  have ht := tx_R hI p
  unfold lxs
  split
  · refine ⟨rfl, ?_, hv, hw.1, hw.2⟩
    dsimp only
    split
    · exact am_R0
    · exact wdk_R _ _ _ _ am_R0
  · split
    · exact ⟨rfl, ⟨by dsimp only; omega, by dsimp only; omega⟩, ⟨hd.2.2.2, hd2⟩, hd.1, hd.2.1⟩
    · split
      · exact ⟨rfl, ⟨by dsimp only; omega, by dsimp only; omega⟩, hv, Int.le_refl p, h1⟩
      · refine ⟨rfl, ?_, hv, by dsimp only; omega, by dsimp only; omega⟩
        dsimp only
        split
        · constructor <;> omega
        · exact am_R0
theorem lx_in {n : Int} {T : Int → Int} (hI : txI n T) (p v : Int) (h0 : 0 ≤ p) (h1 : p ≤ n) (hv : 0 ≤ v ∧ v ≤ 9999) : p ≤ (lx (tx n T) p v).1 ∧ (lx (tx n T) p v).1 ≤ n ∧ am_R (lx (tx n T) p v).2.1 ∧ (0 ≤ (lx (tx n T) p v).2.2.1 ∧ (lx (tx n T) p v).2.2.1 ≤ 9999) ∧ p ≤ (lx (tx n T) p v).2.2.2 ∧ (lx (tx n T) p v).1 ≤ (lx (tx n T) p v).2.2.2 ∧ (lx (tx n T) p v).2.2.2 ≤ n := by
  have hs := skp_in (n := n) (T := T) 500 p h0 h1
  have := lxs_in hI (skp (tx n T) 500 p) v (by omega) hs.2 hv
  unfold lx
  obtain ⟨a, b, c, e, f⟩ := this
  refine ⟨by omega, by omega, b, c, by omega, by omega, f⟩
