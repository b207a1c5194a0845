-- words of seven bytes
def hor (a : Int) : List Int → Int
  | [] => a
  | b :: r => hor (a * 256 + b) r
def pad (n : Nat) (l : List Int) : List Int := l ++ List.replicate (n - l.length) 0
theorem hor_app : ∀ (x y : List Int) (a : Int), hor a (x ++ y) = hor (hor a x) y
  | [], y, a => rfl
  | b :: r, y, a => hor_app r y (a * 256 + b)
theorem hor_rep : ∀ (n : Nat) (a : Int), hor a (List.replicate n 0) = a * 256 ^ n
  | 0, a => by
    show a = a * 256 ^ 0
    rw [Int.pow_zero, Int.mul_one]
  | n + 1, a => by
    rw [List.replicate_succ]
    show hor (a * 256 + 0) (List.replicate n 0) = a * 256 ^ (n + 1)
    rw [hor_rep n, Int.add_zero, Int.pow_succ, Int.mul_assoc, Int.mul_comm 256]
theorem hor_pad (n : Nat) (l : List Int) (a : Int) : hor a (pad n l) = hor a l * 256 ^ (n - l.length) := by
  unfold pad
  rw [hor_app, hor_rep]
theorem hor_0 : ∀ (l : List Int) (a : Int), 0 ≤ a → (∀ b ∈ l, 0 ≤ b ∧ b < 256) → 0 ≤ hor a l ∧ hor a l < (a + 1) * 256 ^ l.length
  | [], a, h, hl => by
    show 0 ≤ a ∧ a < (a + 1) * 256 ^ 0
    rw [Int.pow_zero, Int.mul_one]
    omega
  | b :: r, a, h, hl => by
    have hb := hl b (List.mem_cons_self ..)
    obtain ⟨h1, h2⟩ := hor_0 r (a * 256 + b) (by omega) (fun c hc => hl c (List.mem_cons_of_mem _ hc))
    refine ⟨h1, Int.lt_of_lt_of_le h2 ?_⟩
    rw [List.length_cons, Int.pow_succ, Int.mul_comm (256 ^ r.length) 256, ← Int.mul_assoc]
    exact Int.mul_le_mul_of_nonneg_right (by omega) (Int.le_of_lt (Int.pow_pos (by decide)))
/-- a byte or-ed below a multiple -/
theorem orJ (A b : Int) (j : Nat) (hj : j < 7) (hA : 0 ≤ A) (hA2 : A * 256 ^ (7 - j) < 4611686018427387904) (hb : 0 ≤ b ∧ b < 256) : am_orJ (A * 256 ^ (7 - j)) (am_shlJ b (8 * (6 - (j : Int)))) = A * 256 ^ (7 - j) + b * 256 ^ (6 - j) := by
  obtain ⟨a, rfl⟩ := Int.eq_ofNat_of_zero_le hA
  obtain ⟨c, rfl⟩ := Int.eq_ofNat_of_zero_le hb.1
  have hc : c < 256 := by omega
  have key : ∀ s : Nat, s ≤ 48 → ((Int32.ofInt (s : Int)).toInt64 &&& 63).toBitVec.smod 64 = BitVec.ofNat 64 s → a * 2 ^ (s + 8) < 4611686018427387904 → am_orJ ((a * 2 ^ (s + 8) : Nat) : Int) (am_shlJ (c : Int) (s : Int)) = ((a * 2 ^ (s + 8) + c * 2 ^ s : Nat) : Int) := by
    intro s hs hsm ha
    have hcs : c * 2 ^ s < 2 ^ (s + 8) := by
      rw [Nat.pow_add, Nat.mul_comm (2 ^ s)]
      exact Nat.mul_lt_mul_of_pos_right hc (Nat.two_pow_pos s)
    have h48 : 2 ^ (s + 8) ≤ 2 ^ 56 := Nat.pow_le_pow_right (by decide) (by omega)
    have h56 : (2 : Nat) ^ 56 = 72057594037927936 := rfl
    have e1 : am_shlJ (c : Int) (s : Int) = ((c * 2 ^ s : Nat) : Int) := by
      unfold am_shlJ
      rw [← Int64.toInt_toBitVec, Int64.toBitVec_shiftLeft, hsm, Int64.toBitVec_ofInt, BitVec.ofInt_natCast]
      have e3 : (BitVec.ofNat 64 c <<< (BitVec.ofNat 64 s)).toNat = c * 2 ^ s := by
        rw [BitVec.shiftLeft_eq', BitVec.toNat_shiftLeft, BitVec.toNat_ofNat, BitVec.toNat_ofNat, Nat.mod_eq_of_lt (show c < 2 ^ 64 by omega), Nat.mod_eq_of_lt (show s < 2 ^ 64 by omega), Nat.shiftLeft_eq, Nat.mod_eq_of_lt (show c * 2 ^ s < 2 ^ 64 by omega)]
      rw [BitVec.toInt_eq_toNat_of_lt (by rw [e3]; omega), e3]
    rw [e1]
    unfold am_orJ
    rw [← Int64.toInt_toBitVec, Int64.toBitVec_or, Int64.toBitVec_ofInt, Int64.toBitVec_ofInt, BitVec.ofInt_natCast, BitVec.ofInt_natCast]
    have e3 : (BitVec.ofNat 64 (a * 2 ^ (s + 8)) ||| BitVec.ofNat 64 (c * 2 ^ s)).toNat = a * 2 ^ (s + 8) + c * 2 ^ s := by
      rw [BitVec.toNat_or, BitVec.toNat_ofNat, BitVec.toNat_ofNat, Nat.mod_eq_of_lt (by omega), Nat.mod_eq_of_lt (by omega)]
      have := Nat.shiftLeft_add_eq_or_of_lt (i := s + 8) (b := c * 2 ^ s) hcs a
      rw [Nat.shiftLeft_eq] at this
      exact this.symm
    rw [BitVec.toInt_eq_toNat_of_lt (by rw [e3]; omega), e3]
  have h7 : j = 0 ∨ j = 1 ∨ j = 2 ∨ j = 3 ∨ j = 4 ∨ j = 5 ∨ j = 6 := by omega
  have fin : ∀ s : Nat, s ≤ 48 → 8 * (6 - (j : Int)) = (s : Int) → (256 : Int) ^ (7 - j) = ((2 ^ (s + 8) : Nat) : Int) → (256 : Int) ^ (6 - j) = ((2 ^ s : Nat) : Int) → ((Int32.ofInt (s : Int)).toInt64 &&& 63).toBitVec.smod 64 = BitVec.ofNat 64 s → am_orJ ((a : Int) * 256 ^ (7 - j)) (am_shlJ (c : Int) (8 * (6 - (j : Int)))) = (a : Int) * 256 ^ (7 - j) + (c : Int) * 256 ^ (6 - j) := by
    intro s hs h1 h2 h3 h4
    rw [h2] at hA2
    rw [h1, h2, h3]
    have := key s hs h4 (by
      have e : ((a * 2 ^ (s + 8) : Nat) : Int) = (a : Int) * ((2 ^ (s + 8) : Nat) : Int) := Int.natCast_mul ..
      omega)
    rw [← Int.natCast_mul, ← Int.natCast_mul, ← Int.natCast_add]
    exact this
  rcases h7 with rfl | rfl | rfl | rfl | rfl | rfl | rfl
  · exact fin 48 (by decide) (by decide) (by decide) (by decide) (by decide)
  · exact fin 40 (by decide) (by decide) (by decide) (by decide) (by decide)
  · exact fin 32 (by decide) (by decide) (by decide) (by decide) (by decide)
  · exact fin 24 (by decide) (by decide) (by decide) (by decide) (by decide)
  · exact fin 16 (by decide) (by decide) (by decide) (by decide) (by decide)
  · exact fin 8 (by decide) (by decide) (by decide) (by decide) (by decide)
  · exact fin 0 (by decide) (by decide) (by decide) (by decide) (by decide)
