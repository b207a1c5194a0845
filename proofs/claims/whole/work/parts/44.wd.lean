-- words: their kinds, and the reference's numbers of them
theorem orshl {x y : Int} (h0 : 0 ≤ x) (h1 : x < 8388608) (h2 : 0 ≤ y) (h3 : y < 256) : am_or (am_shl x 8) y = 256 * x + y := by
  obtain ⟨a, rfl⟩ := Int.eq_ofNat_of_zero_le h0
  obtain ⟨b, rfl⟩ := Int.eq_ofNat_of_zero_le h2
  have ha : a < 8388608 := by omega
  have hb : b < 256 := by omega
  have e1 : am_shl (a : Int) 8 = ((256 * a : Nat) : Int) := by
    unfold am_shl
    rw [← Int32.toInt_toBitVec, Int32.toBitVec_shiftLeft]
    have e0 : (Int32.ofInt 8 &&& 31).toBitVec.smod 32 = 8#32 := by decide
    rw [e0, Int32.toBitVec_ofInt]
    have e2 : BitVec.ofInt 32 (a : Int) = BitVec.ofNat 32 a := by
      rw [BitVec.ofInt_natCast]
    rw [e2]
    have e3 : (BitVec.ofNat 32 a <<< (8#32)).toNat = 256 * a := by
      rw [BitVec.shiftLeft_eq', BitVec.toNat_shiftLeft, BitVec.toNat_ofNat]
      rw [Nat.mod_eq_of_lt (by omega : a < 2 ^ 32), Nat.shiftLeft_eq]
      rw [show (8#32).toNat = 8 from rfl, Nat.mod_eq_of_lt (by omega)]
      omega
    rw [BitVec.toInt_eq_toNat_of_lt (by rw [e3]; omega), e3]
  rw [e1]
  unfold am_or
  rw [← Int32.toInt_toBitVec, Int32.toBitVec_or, Int32.toBitVec_ofInt, Int32.toBitVec_ofInt, BitVec.ofInt_natCast, BitVec.ofInt_natCast]
  have e3 : (BitVec.ofNat 32 (256 * a) ||| BitVec.ofNat 32 b).toNat = 256 * a + b := by
    rw [BitVec.toNat_or, BitVec.toNat_ofNat, BitVec.toNat_ofNat, Nat.mod_eq_of_lt (by omega), Nat.mod_eq_of_lt (by omega)]
    have := Nat.shiftLeft_add_eq_or_of_lt (i := 8) (b := b) (by omega) a
    rw [Nat.shiftLeft_eq, show (2 : Nat) ^ 8 = 256 from rfl, Nat.mul_comm] at this
    exact this.symm
  rw [BitVec.toInt_eq_toNat_of_lt (by rw [e3]; omega), e3]
  omega
theorem or0 {y : Int} (h2 : 0 ≤ y) (h3 : y < 256) : am_or (am_shl 0 8) y = y := by
  rw [orshl (Int.le_refl 0) (by decide) h2 h3]
  omega
abbrev ltr (c : Int) : Prop := 97 ≤ c ∧ c ≤ 122
theorem wde_ge {t : Int → Int} : ∀ (k : Nat) (p : Int), p ≤ wde t k p
  | 0, p => Int.le_refl p
  | k + 1, p => by
    by_cases q : ltr (t p)
    · rw [wde_s k q]
      have := wde_ge (t := t) k (p + 1)
      omega
    · rw [wde_z k q]
      exact Int.le_refl p
/-- the kind of a word of at most four letters -/
theorem wdk_e {t : Int → Int} {s : Int} (h : ltr (t s)) : (wde t 501 s = s + 1 ∧ wdk t 501 s 0 = t s) ∨ (ltr (t (s + 1)) ∧ ((wde t 501 s = s + 2 ∧ wdk t 501 s 0 = 256 * t s + t (s + 1)) ∨ (ltr (t (s + 2)) ∧ ((wde t 501 s = s + 3 ∧ wdk t 501 s 0 = 256 * (256 * t s + t (s + 1)) + t (s + 2)) ∨ (ltr (t (s + 3)) ∧ ((wde t 501 s = s + 4 ∧ wdk t 501 s 0 = 256 * (256 * (256 * t s + t (s + 1)) + t (s + 2)) + t (s + 3)) ∨ s + 5 ≤ wde t 501 s)))))) := by
  rw [wde_s 500 h, wdk_s 500 0 h, or0 (by omega) (by omega)]
  by_cases h1 : ltr (t (s + 1))
  · refine Or.inr ⟨h1, ?_⟩
    rw [wde_s 499 h1, wdk_s 499 _ h1, orshl (by omega) (by omega) (by omega) (by omega), show s + 1 + 1 = s + 2 by omega]
    by_cases h2 : ltr (t (s + 2))
    · refine Or.inr ⟨h2, ?_⟩
      rw [wde_s 498 h2, wdk_s 498 _ h2, orshl (by omega) (by omega) (by omega) (by omega), show s + 2 + 1 = s + 3 by omega]
      by_cases h3 : ltr (t (s + 3))
      · refine Or.inr ⟨h3, ?_⟩
        rw [wde_s 497 h3, wdk_s 497 _ h3, orshl (by omega) (by omega) (by omega) (by omega), show s + 3 + 1 = s + 4 by omega]
        by_cases h4 : ltr (t (s + 4))
        · rw [wde_s 496 h4]
          have := wde_ge (t := t) 496 (s + 4 + 1)
          exact Or.inr (by omega)
        · rw [wde_z 496 h4, wdk_z 496 _ h4]
          exact Or.inl ⟨rfl, rfl⟩
      · rw [wde_z 497 h3, wdk_z 497 _ h3]
        exact Or.inl ⟨rfl, rfl⟩
    · rw [wde_z 498 h2, wdk_z 498 _ h2]
      exact Or.inl ⟨rfl, rfl⟩
  · rw [wde_z 499 h1, wdk_z 499 _ h1]
    exact Or.inl ⟨rfl, rfl⟩
/-- how the reference's token and value stand to a kind and a number -/
def TR (q v tok val : Int) : Prop := (tok = 0 ↔ q = -1) ∧ (tok = 2 ↔ q = 1) ∧ (q = 1 → val = v) ∧ (tok = 4 ↔ q = 34) ∧ ((tok = 3 ∧ val = 58) ↔ q = 58) ∧ ((tok = 3 ∧ val = 46) ↔ q = 46) ∧ ((tok = 3 ∧ val = 36) ↔ q = 36) ∧ ((tok = 3 ∧ val = 95) ↔ q = 95) ∧ ((tok = 3 ∧ val = 61) ↔ q = 61) ∧ ((tok = 3 ∧ val = 60) ↔ q = 60) ∧ ((tok = 3 ∧ val = 62) ↔ q = 62) ∧ ((tok = 1 ∧ val = 0) ↔ q = 7168368) ∧ ((tok = 1 ∧ val = 1) ↔ q = 26982) ∧ ((tok = 1 ∧ val = 2) ↔ q = 26990) ∧ ((tok = 1 ∧ val = 3) ↔ q = 28518) ∧ ((tok = 1 ∧ val = 4) ↔ q = 25209) ∧ ((tok = 1 ∧ val = 5) ↔ q = 1853189228) ∧ (-1 ≤ val ∧ val ≤ 9999) ∧ (0 ≤ tok ∧ tok ≤ 5)
def wat (t : Int → Int) (s b a c e f : Int) : Prop := b - s = (if 0 < f then 4 else if 0 < e then 3 else 2) ∧ t s = a ∧ t (s + 1) = c ∧ (0 < e ∨ 0 < f → t (s + 2) = e) ∧ (0 < f → t (s + 3) = f)
theorem TR_word {t : Int → Int} {s v val : Int} (h : ltr (t s)) (hv : (wat t s (wde t 501 s) 109 97 112 0 ∧ val = 0) ∨ (¬ wat t s (wde t 501 s) 109 97 112 0 ∧ ((wat t s (wde t 501 s) 105 102 0 0 ∧ val = 1) ∨ (¬ wat t s (wde t 501 s) 105 102 0 0 ∧ ((wat t s (wde t 501 s) 105 110 0 0 ∧ val = 2) ∨ (¬ wat t s (wde t 501 s) 105 110 0 0 ∧ ((wat t s (wde t 501 s) 111 102 0 0 ∧ val = 3) ∨ (¬ wat t s (wde t 501 s) 111 102 0 0 ∧ ((wat t s (wde t 501 s) 98 121 0 0 ∧ val = 4) ∨ (¬ wat t s (wde t 501 s) 98 121 0 0 ∧ ((wat t s (wde t 501 s) 110 117 108 108 ∧ val = 5) ∨ (¬ wat t s (wde t 501 s) 110 117 108 108 ∧ val = -1)))))))))))) : TR (if 4 < wde t 501 s - s then 0 else wdk t 501 s 0) v (if val = -1 then 5 else 1) val := by
  have hw := wdk_e h
  have hge := wde_ge (t := t) 501 s
  have key : ∀ a c e f : Int, wat t s (wde t 501 s) a c e f ↔ (wde t 501 s - s = (if 0 < f then 4 else if 0 < e then 3 else 2) ∧ t s = a ∧ t (s + 1) = c ∧ (0 < e ∨ 0 < f → t (s + 2) = e) ∧ (0 < f → t (s + 3) = f)) := fun _ _ _ _ => Iff.rfl
  have w0 := key 109 97 112 0
  have w1 := key 105 102 0 0
  have w2 := key 105 110 0 0
  have w3 := key 111 102 0 0
  have w4 := key 98 121 0 0
  have w5 := key 110 117 108 108
  simp only [Int.reduceLT, if_true, if_false, or_false, false_imp_iff, true_or, or_true, true_imp_iff, and_true] at w0 w1 w2 w3 w4 w5
  generalize wat t s (wde t 501 s) 109 97 112 0 = W0 at *
  generalize wat t s (wde t 501 s) 105 102 0 0 = W1 at *
  generalize wat t s (wde t 501 s) 105 110 0 0 = W2 at *
  generalize wat t s (wde t 501 s) 111 102 0 0 = W3 at *
  generalize wat t s (wde t 501 s) 98 121 0 0 = W4 at *
  generalize wat t s (wde t 501 s) 110 117 108 108 = W5 at *
  generalize wde t 501 s = b at *
  generalize wdk t 501 s 0 = K at *
  generalize t (s + 3) = c3 at *
  generalize t (s + 2) = c2 at *
  generalize t (s + 1) = c1 at *
  generalize t s = c0 at *
  rcases hv with hv | ⟨hn0, hv⟩
  · obtain ⟨hq, rfl⟩ := hv
    have hq := w0.mp hq
    have hK : (if 4 < b - s then 0 else K) = 7168368 := by
      rw [if_neg (by omega)]
      omega
    rw [hK]
    unfold TR
    rw [if_neg (by decide)]
    omega
  rcases hv with hv | ⟨hn1, hv⟩
  · obtain ⟨hq, rfl⟩ := hv
    have hq := w1.mp hq
    have hK : (if 4 < b - s then 0 else K) = 26982 := by
      rw [if_neg (by omega)]
      omega
    rw [hK]
    unfold TR
    rw [if_neg (by decide)]
    omega
  rcases hv with hv | ⟨hn2, hv⟩
  · obtain ⟨hq, rfl⟩ := hv
    have hq := w2.mp hq
    have hK : (if 4 < b - s then 0 else K) = 26990 := by
      rw [if_neg (by omega)]
      omega
    rw [hK]
    unfold TR
    rw [if_neg (by decide)]
    omega
  rcases hv with hv | ⟨hn3, hv⟩
  · obtain ⟨hq, rfl⟩ := hv
    have hq := w3.mp hq
    have hK : (if 4 < b - s then 0 else K) = 28518 := by
      rw [if_neg (by omega)]
      omega
    rw [hK]
    unfold TR
    rw [if_neg (by decide)]
    omega
  rcases hv with hv | ⟨hn4, hv⟩
  · obtain ⟨hq, rfl⟩ := hv
    have hq := w4.mp hq
    have hK : (if 4 < b - s then 0 else K) = 25209 := by
      rw [if_neg (by omega)]
      omega
    rw [hK]
    unfold TR
    rw [if_neg (by decide)]
    omega
  rcases hv with hv | ⟨hn5, hv⟩
  · obtain ⟨hq, rfl⟩ := hv
    have hq := w5.mp hq
    have hK : (if 4 < b - s then 0 else K) = 1853189228 := by
      rw [if_neg (by omega)]
      omega
    rw [hK]
    unfold TR
    rw [if_neg (by decide)]
    omega
  subst hv
  have m0 := fun q => hn0 (w0.mpr q)
  have m1 := fun q => hn1 (w1.mpr q)
  have m2 := fun q => hn2 (w2.mpr q)
  have m3 := fun q => hn3 (w3.mpr q)
  have m4 := fun q => hn4 (w4.mpr q)
  have m5 := fun q => hn5 (w5.mpr q)
  clear w0 w1 w2 w3 w4 w5 key
  have hne : ∀ Z, Z = (if 4 < b - s then 0 else K) → (Z = 0 ∨ (97 ≤ Z ∧ Z ≤ 122) ∨ 24832 ≤ Z) ∧ Z ≠ 7168368 ∧ Z ≠ 26982 ∧ Z ≠ 26990 ∧ Z ≠ 28518 ∧ Z ≠ 25209 ∧ Z ≠ 1853189228 := by
    intro Z hZ
    rcases hw with ⟨e1, e2⟩ | ⟨l1, ⟨e1, e2⟩ | ⟨l2, ⟨e1, e2⟩ | ⟨l3, ⟨e1, e2⟩ | e1⟩⟩⟩
    · rw [if_neg (by omega)] at hZ
      omega
    · rw [if_neg (by omega)] at hZ
      clear m0 m5
      refine ⟨by omega, by omega, fun z => m1 ⟨by omega, by omega, by omega⟩, fun z => m2 ⟨by omega, by omega, by omega⟩, fun z => m3 ⟨by omega, by omega, by omega⟩, fun z => m4 ⟨by omega, by omega, by omega⟩, by omega⟩
    · rw [if_neg (by omega)] at hZ
      clear m1 m2 m3 m4 m5
      refine ⟨by omega, fun z => m0 ⟨by omega, by omega, by omega, by omega⟩, by omega, by omega, by omega, by omega, by omega⟩
    · rw [if_neg (by omega)] at hZ
      clear m0 m1 m2 m3 m4
      refine ⟨by omega, by omega, by omega, by omega, by omega, by omega, fun z => m5 ⟨by omega, by omega, by omega, by omega, by omega⟩⟩
    · rw [if_pos (by omega)] at hZ
      omega
  have hz := hne _ rfl
  generalize (if 4 < b - s then 0 else K) = Z at *
  clear m0 m1 m2 m3 m4 m5 hw hne
  rw [if_pos rfl]
  unfold TR
  omega
