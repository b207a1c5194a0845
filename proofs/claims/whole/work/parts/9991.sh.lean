-- bytes out of words
theorem shrJ_e (x : Int) (s : Nat) (hx : 0 ≤ x ∧ x < 4611686018427387904) (hs : s < 64) (hsm : ((Int32.ofInt (s : Int)).toInt64 &&& 63).toBitVec.smod 64 = BitVec.ofNat 64 s) : am_shrJ x (s : Int) = x / 2 ^ s := by
  unfold am_shrJ
  have e : (Int64.ofInt x >>> ((Int32.ofInt (s : Int)).toInt64 &&& 63)).toInt = ((Int64.ofInt x).toBitVec.sshiftRight s).toInt := by
    show ((Int64.ofInt x >>> ((Int32.ofInt (s : Int)).toInt64 &&& 63)).toBitVec).toInt = _
    rw [Int64.toBitVec_shiftRight, hsm, BitVec.sshiftRight_eq', BitVec.toNat_ofNat, Nat.mod_eq_of_lt (by omega)]
  rw [e, BitVec.toInt_sshiftRight]
  have e2 : (Int64.ofInt x).toBitVec.toInt = x := by
    show (Int64.ofInt x).toInt = x
    exact Int64.toInt_ofInt_of_le (by omega) (by omega)
  rw [e2, Int.shiftRight_eq_div_pow]
  norm_cast
theorem and256 (x : Int) (hx : 0 ≤ x) : am_and x 255 = x % 256 := by
  obtain ⟨n, rfl⟩ := Int.eq_ofNat_of_zero_le hx
  unfold am_and
  have e : (Int32.ofInt (n : Int) &&& Int32.ofInt 255).toInt = ((BitVec.ofNat 32 (n % 256)).toInt) := by
    show ((Int32.ofInt (n : Int) &&& Int32.ofInt 255).toBitVec).toInt = _
    congr 1
    apply BitVec.eq_of_toNat_eq
    rw [Int32.toBitVec_and, BitVec.toNat_and]
    show (BitVec.ofInt 32 (n : Int)).toNat &&& 255 = _
    rw [BitVec.ofInt_natCast, BitVec.toNat_ofNat, BitVec.toNat_ofNat, show (255 : Nat) = 2 ^ 8 - 1 from rfl, Nat.and_two_pow_sub_one_eq_mod]
    omega
  rw [e, BitVec.toInt_eq_toNat_of_lt, BitVec.toNat_ofNat, Nat.mod_eq_of_lt (by omega)]
  · omega
  · rw [BitVec.toNat_ofNat]
    omega
theorem hor_lo : ∀ (l : List Int) (a : Int), (∀ b ∈ l, 0 ≤ b ∧ b < 256) → a * 256 ^ l.length ≤ hor a l
  | [], a, hl => by
    show a * 256 ^ 0 ≤ a
    rw [Int.pow_zero, Int.mul_one]
    exact Int.le_refl _
  | b :: r, a, hl => by
    have hb := hl b (List.mem_cons_self ..)
    have h1 := hor_lo r (a * 256 + b) (fun c hc => hl c (List.mem_cons_of_mem _ hc))
    refine Int.le_trans ?_ h1
    rw [List.length_cons, Int.pow_succ, Int.mul_comm (256 ^ r.length) 256, ← Int.mul_assoc]
    exact Int.mul_le_mul_of_nonneg_right (by omega) (Int.le_of_lt (Int.pow_pos (by decide)))
theorem hor_div {l : List Int} {a : Int} (h0 : 0 ≤ a) (hl : ∀ b ∈ l, 0 ≤ b ∧ b < 256) : hor a l / 256 ^ l.length = a := by
  have h1 := hor_lo l a hl
  have h2 := (hor_0 l a h0 hl).2
  have hp : (0 : Int) < 256 ^ l.length := Int.pow_pos (by decide)
  have q1 := (Int.le_ediv_iff_mul_le hp).mpr h1
  have q2 := (Int.ediv_lt_iff_lt_mul hp).mpr h2
  omega
theorem getD_ap2 {l m : List Int} {j : Nat} (h : j < l.length) : (l ++ m).getD j 0 = l.getD j 0 := by
  rw [List.getD_eq_getElem?_getD, List.getElem?_append_left h, ← List.getD_eq_getElem?_getD]
theorem hor_dig {l : List Int} {a : Int} {j : Nat} (h0 : 0 ≤ a) (hl : ∀ b ∈ l, 0 ≤ b ∧ b < 256) (hj : j < l.length) : hor a l / 256 ^ (l.length - 1 - j) % 256 = l.getD j 0 := by
  have e : l = l.take j ++ ([l.getD j 0] ++ l.drop (j + 1)) := by
    have h1 : l.drop j = l.getD j 0 :: l.drop (j + 1) := by
      rw [List.drop_eq_getElem_cons hj, List.getD_eq_getElem?_getD, List.getElem?_eq_getElem hj]
      rfl
    rw [List.singleton_append, ← h1, List.take_append_drop]
  have hm : ∀ b ∈ l.drop (j + 1), 0 ≤ b ∧ b < 256 := fun b hb => hl b (List.mem_of_mem_drop hb)
  have ht : ∀ b ∈ l.take j, 0 ≤ b ∧ b < 256 := fun b hb => hl b (List.mem_of_mem_take hb)
  have hd : 0 ≤ l.getD j 0 ∧ l.getD j 0 < 256 := hl _ (by
    rw [List.getD_eq_getElem?_getD, List.getElem?_eq_getElem hj]
    exact List.getElem_mem hj)
  have h2 := (hor_0 (l.take j) a h0 ht).1
  have e2 : hor a l = hor (hor a (l.take j) * 256 + l.getD j 0) (l.drop (j + 1)) := by
    have := congrArg (hor a) e
    rw [hor_app, hor_app] at this
    exact this
  have e3 : l.length - 1 - j = (l.drop (j + 1)).length := by
    rw [List.length_drop]
    omega
  rw [e2, e3, hor_div (by omega) hm]
  omega
theorem pad_g {n : Nat} {l : List Int} {j : Nat} : (pad n l).getD j 0 = l.getD j 0 := by
  unfold pad
  by_cases h : j < l.length
  · exact getD_ap2 h
  · rw [List.getD_eq_getElem?_getD, List.getD_eq_getElem?_getD, List.getElem?_append_right (by omega), List.getElem?_eq_none (by omega : l.length ≤ j), List.getElem?_replicate]
    split <;> rfl
theorem tk_g {l : List Int} {m n j : Nat} (h : j < n) : ((l.drop m).take n).getD j 0 = l.getD (m + j) 0 := by
  rw [List.getD_eq_getElem?_getD, List.getElem?_take, if_pos h, List.getElem?_drop, ← List.getD_eq_getElem?_getD]
theorem pow256 (n : Nat) : (256 : Int) ^ n = 2 ^ (8 * n) := by
  rw [Int.pow_mul]
  rfl
theorem shr8 (x : Int) (j : Nat) (hj : j < 8) (hx : 0 ≤ x ∧ x < 4611686018427387904) : am_shrJ x (8 * (j : Int)) = x / 256 ^ j := by
  rw [pow256]
  have h := shrJ_e x (8 * j) hx (by omega)
  rw [show (((8 * j : Nat)) : Int) = 8 * (j : Int) by omega] at h
  refine h ?_
  have : j = 0 ∨ j = 1 ∨ j = 2 ∨ j = 3 ∨ j = 4 ∨ j = 5 ∨ j = 6 ∨ j = 7 := by omega
  rcases this with rfl | rfl | rfl | rfl | rfl | rfl | rfl | rfl <;> rfl
theorem byt_256 {l : List Int} (h : byt l) : ∀ b ∈ l, 0 ≤ b ∧ b < 256 := by
  intro b hb
  have := h b hb
  omega
theorem wd_kind {q : Int} {l : List Int} (hq : 0 ≤ q ∧ q ≤ 2) (hl : byt l) : am_shrJ (wd q l 0) 56 = q := by
  have h := wd_b q l 0 hq hl
  have e := shr8 (wd q l 0) 7 (by omega) ⟨h.1, by omega⟩
  rw [show (8 : Int) * ((7 : Nat) : Int) = 56 by omega] at e
  rw [e]
  have hb : byt (l.take 7) := fun b hb => hl b (List.mem_of_mem_take hb)
  have e7 : (pad 7 (l.take 7)).length = 7 := pad_l (by rw [List.length_take]; omega)
  have := hor_div (l := pad 7 (l.take 7)) (a := q) hq.1 (byt_256 (pad_b hb))
  rw [e7] at this
  exact this
theorem wd_byte {q : Int} {l : List Int} {k : Nat} (hq : 0 ≤ q ∧ q ≤ 2) (hl : byt l) (hk : k < 20) : am_and (am_shrJ (wd q l ((k / 7 : Nat) : Int)) (8 * (6 - ((k % 7 : Nat) : Int)))) 255 = l.getD k 0 := by
  have h := wd_b q l ((k / 7 : Nat) : Int) hq hl
  have e := shr8 (wd q l ((k / 7 : Nat) : Int)) (6 - k % 7) (by omega) ⟨h.1, by omega⟩
  rw [show ((6 - k % 7 : Nat) : Int) = 6 - ((k % 7 : Nat) : Int) by omega] at e
  rw [e, and256 _ (Int.ediv_nonneg h.1 (Int.le_of_lt (Int.pow_pos (by decide))))]
  have key : ∀ (a : Int) (m : List Int) (i : Nat), 0 ≤ a → byt m → m.length ≤ 7 → i < 7 → hor a (pad 7 m) / 256 ^ (6 - i) % 256 = m.getD i 0 := by
    intro a m i ha hm h7 hi
    have e7 : (pad 7 m).length = 7 := pad_l h7
    have := hor_dig (l := pad 7 m) (a := a) (j := i) ha (byt_256 (pad_b hm)) (by omega)
    rw [e7, pad_g] at this
    exact this
  have hdr : ∀ m n, byt ((l.drop m).take n) := fun m n b hb => hl b (List.mem_of_mem_drop (List.mem_of_mem_take hb))
  have hlen : ∀ m n, n ≤ 7 → ((l.drop m).take n).length ≤ 7 := by
    intro m n hn
    rw [List.length_take]
    omega
  by_cases k0 : k < 7
  · rw [Nat.div_eq_of_lt k0, Nat.mod_eq_of_lt k0]
    show hor q (pad 7 (l.take 7)) / _ % 256 = _
    have := key q ((l.drop 0).take 7) k hq.1 (hdr 0 7) (hlen 0 7 (by omega)) k0
    rw [tk_g k0, List.drop_zero, Nat.zero_add] at this
    exact this
  · by_cases k1 : k < 14
    · rw [show k / 7 = 1 by omega]
      show hor 0 (pad 7 ((l.drop 7).take 7)) / _ % 256 = _
      rw [key 0 _ _ (by omega) (hdr 7 7) (hlen 7 7 (by omega)) (by omega), tk_g (by omega), show 7 + k % 7 = k by omega]
    · rw [show k / 7 = 2 by omega]
      show hor 0 (pad 7 ((l.drop 14).take 6)) / _ % 256 = _
      rw [key 0 _ _ (by omega) (hdr 14 6) (hlen 14 6 (by omega)) (by omega), tk_g (by omega), show 14 + k % 7 = k by omega]
