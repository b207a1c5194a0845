-- the class's terms
def byt (l : List Int) : Prop := ∀ b ∈ l, 0 ≤ b ∧ b < 128
theorem byt_app {x y : List Int} (hx : byt x) (hy : byt y) : byt (x ++ y) := fun b hb => by
  rcases List.mem_append.mp hb with h | h
  · exact hx b h
  · exact hy b h
theorem byt_take {x : List Int} (n : Nat) (hx : byt x) : byt (x.take n) := fun b hb => hx b (List.mem_of_mem_take hb)
theorem byt_drop {x : List Int} (n : Nat) (hx : byt x) : byt (x.drop n) := fun b hb => hx b (List.mem_of_mem_drop hb)
theorem hor_b (l : List Int) (a : Int) (ha : 0 ≤ a ∧ a ≤ 2) (hl : byt l) (h7 : l.length ≤ 7) : 0 ≤ hor a (pad 7 l) ∧ hor a (pad 7 l) < 216172782113783808 ∧ hor a l * 256 ^ (7 - l.length) < 216172782113783808 := by
  obtain ⟨h1, h2⟩ := hor_0 l a ha.1 (fun b hb => by have := hl b hb; omega)
  have hp : (0 : Int) < 256 ^ (7 - l.length) := Int.pow_pos (by decide)
  have e : (a + 1) * 256 ^ l.length * 256 ^ (7 - l.length) = (a + 1) * 72057594037927936 := by
    rw [Int.mul_assoc, ← Int.pow_add, show l.length + (7 - l.length) = 7 by omega]
    rfl
  have h3 : hor a l * 256 ^ (7 - l.length) < (a + 1) * 256 ^ l.length * 256 ^ (7 - l.length) := Int.mul_lt_mul_of_pos_right h2 hp
  rw [e] at h3
  rw [hor_pad]
  have h4 : 0 ≤ hor a l * 256 ^ (7 - l.length) := Int.mul_nonneg h1 (Int.le_of_lt hp)
  exact ⟨h4, by omega, by omega⟩
theorem pp1 (l : List Int) (a b : Int) (ha : 0 ≤ a ∧ a ≤ 2) (hl : byt l) (h7 : l.length < 7) (hb : 0 ≤ b ∧ b < 128) : am_orJ (hor a (pad 7 l)) (am_shlJ b (8 * (6 - (l.length : Int)))) = hor a (pad 7 (l ++ [b])) := by
  have h1 := hor_b l a ha hl (by omega)
  have h2 := (hor_0 l a ha.1 (fun b hb => by have := hl b hb; omega)).1
  rw [hor_pad, orJ (hor a l) b l.length h7 h2 (by omega) (by omega), hor_pad, hor_app, List.length_append, List.length_singleton]
  show _ = (hor a l * 256 + b) * 256 ^ (7 - (l.length + 1))
  have e : (7 - l.length) = (6 - l.length) + 1 := by omega
  rw [show 7 - (l.length + 1) = 6 - l.length by omega, e, Int.pow_succ, Int.add_mul, Int.mul_comm (256 ^ (6 - l.length)) 256, Int.mul_assoc]
def wd (q : Int) (l : List Int) (k : Int) : Int := if k = 0 then hor q (pad 7 (l.take 7)) else if k = 1 then hor 0 (pad 7 ((l.drop 7).take 7)) else hor 0 (pad 7 ((l.drop 14).take 6))
theorem wd_b (q : Int) (l : List Int) (k : Int) (hq : 0 ≤ q ∧ q ≤ 2) (hl : byt l) : 0 ≤ wd q l k ∧ wd q l k < 216172782113783808 := by
  unfold wd
  split
  · have := hor_b (l.take 7) q hq (byt_take 7 hl) (by rw [List.length_take]; omega)
    exact ⟨this.1, this.2.1⟩
  · split
    · have := hor_b ((l.drop 7).take 7) 0 (by omega) (byt_take 7 (byt_drop 7 hl)) (by rw [List.length_take]; omega)
      exact ⟨this.1, this.2.1⟩
    · have := hor_b ((l.drop 14).take 6) 0 (by omega) (byt_take 6 (byt_drop 14 hl)) (by rw [List.length_take]; omega)
      exact ⟨this.1, this.2.1⟩
theorem wd_put (q : Int) (l : List Int) (b : Int) (hq : 0 ≤ q ∧ q ≤ 2) (hl : byt l) (hb : 0 ≤ b ∧ b < 128) (h20 : l.length < 20) : am_orJ (wd q l (l.length / 7 : Nat)) (am_shlJ b (8 * (6 - ((l.length % 7 : Nat) : Int)))) = wd q (l ++ [b]) (l.length / 7 : Nat) ∧ ∀ k : Int, 0 ≤ k → k < 3 → k ≠ (l.length / 7 : Nat) → wd q (l ++ [b]) k = wd q l k := by
  have h3 : l.length < 7 ∨ (7 ≤ l.length ∧ l.length < 14) ∨ 14 ≤ l.length := by omega
  rcases h3 with h | ⟨h, h'⟩ | h
  · have e1 : l.length / 7 = 0 := by omega
    have e2 : l.length % 7 = l.length := by omega
    have t1 : l.take 7 = l := List.take_of_length_le (by omega)
    have t2 : (l ++ [b]).take 7 = l ++ [b] := List.take_of_length_le (by rw [List.length_append, List.length_singleton]; omega)
    have d1 : l.drop 7 = [] := List.drop_eq_nil_of_le (by omega)
    have d2 : (l ++ [b]).drop 7 = [] := List.drop_eq_nil_of_le (by rw [List.length_append, List.length_singleton]; omega)
    have d3 : l.drop 14 = [] := List.drop_eq_nil_of_le (by omega)
    have d4 : (l ++ [b]).drop 14 = [] := List.drop_eq_nil_of_le (by rw [List.length_append, List.length_singleton]; omega)
    rw [e1, e2]
    refine ⟨?_, fun k k0 k1 k2 => ?_⟩
    · show am_orJ (hor q (pad 7 (l.take 7))) _ = hor q (pad 7 ((l ++ [b]).take 7))
      rw [t1, t2]
      exact pp1 l q b hq hl h hb
    · unfold wd
      have k2' : k ≠ 0 := k2
      rw [d1, d2, d3, d4, if_neg k2', if_neg k2']
  · have e1 : l.length / 7 = 1 := by omega
    have e2 : ((l.length % 7 : Nat) : Int) = ((l.drop 7).length : Int) := by rw [List.length_drop]; omega
    have t1 : (l ++ [b]).take 7 = l.take 7 := List.take_append_of_le_length h
    have d0 : (l ++ [b]).drop 7 = l.drop 7 ++ [b] := List.drop_append_of_le_length h
    have t2 : (l.drop 7).take 7 = l.drop 7 := List.take_of_length_le (by rw [List.length_drop]; omega)
    have t3 : (l.drop 7 ++ [b]).take 7 = l.drop 7 ++ [b] := List.take_of_length_le (by rw [List.length_append, List.length_singleton, List.length_drop]; omega)
    have d3 : l.drop 14 = [] := List.drop_eq_nil_of_le (by omega)
    have d4 : (l ++ [b]).drop 14 = [] := List.drop_eq_nil_of_le (by rw [List.length_append, List.length_singleton]; omega)
    rw [e1, e2]
    refine ⟨?_, fun k k0 k1 k2 => ?_⟩
    · show am_orJ (hor 0 (pad 7 ((l.drop 7).take 7))) _ = hor 0 (pad 7 (((l ++ [b]).drop 7).take 7))
      rw [d0, t2, t3]
      exact pp1 (l.drop 7) 0 b (by omega) (byt_drop 7 hl) (by rw [List.length_drop]; omega) hb
    · unfold wd
      have k2' : k ≠ 1 := k2
      rw [t1, d3, d4, if_neg k2', if_neg k2']
  · have e1 : l.length / 7 = 2 := by omega
    have e2 : ((l.length % 7 : Nat) : Int) = ((l.drop 14).length : Int) := by rw [List.length_drop]; omega
    have t1 : (l ++ [b]).take 7 = l.take 7 := List.take_append_of_le_length (by omega)
    have d0 : (l ++ [b]).drop 7 = l.drop 7 ++ [b] := List.drop_append_of_le_length (by omega)
    have t2 : (l.drop 7 ++ [b]).take 7 = (l.drop 7).take 7 := List.take_append_of_le_length (by rw [List.length_drop]; omega)
    have d1 : (l ++ [b]).drop 14 = l.drop 14 ++ [b] := List.drop_append_of_le_length h
    have t3 : (l.drop 14).take 6 = l.drop 14 := List.take_of_length_le (by rw [List.length_drop]; omega)
    have t4 : (l.drop 14 ++ [b]).take 6 = l.drop 14 ++ [b] := List.take_of_length_le (by rw [List.length_append, List.length_singleton, List.length_drop]; omega)
    rw [e1, e2]
    refine ⟨?_, fun k k0 k1 k2 => ?_⟩
    · show am_orJ (hor 0 (pad 7 ((l.drop 14).take 6))) _ = hor 0 (pad 7 (((l ++ [b]).drop 14).take 6))
      rw [d1, t3, t4]
      exact pp1 (l.drop 14) 0 b (by omega) (byt_drop 14 hl) (by rw [List.length_drop]; omega) hb
    · have k2' : k ≠ 2 := k2
      unfold wd
      rw [t1, d0, t2]
      by_cases h0 : k = 0
      · rw [if_pos h0, if_pos h0]
      · rw [if_neg h0, if_neg h0, if_pos (by omega), if_pos (by omega)]
theorem wd_20 (q : Int) (l : List Int) (b : Int) (h20 : 20 ≤ l.length) (k : Int) : wd q (l ++ [b]) k = wd q l k := by
  unfold wd
  rw [List.take_append_of_le_length (by omega), List.drop_append_of_le_length (by omega), List.drop_append_of_le_length (by omega), List.take_append_of_le_length (by rw [List.length_drop]; omega), List.take_append_of_le_length (by rw [List.length_drop]; omega)]
def tw (W : Int → Int) (τ q : Int) (l : List Int) : Int → Int := fun i => if 3 * τ ≤ i ∧ i < 3 * τ + 3 then wd q l (i - 3 * τ) else W i
/-- the class's heap while a term is put -/
def HT (L B1 B2 : Nat) (fi : Nat → Nat → Int) (ai aj : Nat → Int → Int) (τ q : Int) (l : List Int) : am_H := HH L B1 B2 (am_u2 (am_u2 fi 33 26 (3 * τ)) 34 26 (l.length : Int)) ai (am_sa aj 27 (tw (aj 27) τ q l))
theorem HT_ok (L B1 B2 : Nat) (fi : Nat → Nat → Int) (ai aj : Nat → Int → Int) (τ q : Int) (l : List Int) : am_ok (HT L B1 B2 fi ai aj τ q l) 26 5 := okI rfl rfl rfl
theorem shl56 (q : Int) (hq : q = 0 ∨ q = 1 ∨ q = 2) : am_shlJ q 56 = q * 72057594037927936 := by
  rcases hq with rfl | rfl | rfl <;> decide
theorem wd_nil (q k : Int) : wd q [] k = if k = 0 then q * 72057594037927936 else 0 := by
  have e : ∀ a : Int, hor a (pad 7 []) = a * 72057594037927936 := fun a => by
    rw [hor_pad]
    rfl
  unfold wd
  rw [List.take_nil, List.drop_nil, List.drop_nil, List.take_nil, List.take_nil, e, e]
  split
  · rfl
  · split <;> rfl
set_option maxHeartbeats 400000 in
set_option maxRecDepth 100000 in
theorem c_Te_begin (d L B1 B2 : Nat) (fi : Nat → Nat → Int) (ai aj : Nat → Int → Int) (τ q : Int) (hτ : 0 ≤ τ ∧ τ ≤ 288) (hq : q = 0 ∨ q = 1 ∨ q = 2) : am_M am_prog (d + 1) m_Te_begin [.inr (.inr 26), .inl τ, .inl q] (HH L B1 B2 fi ai aj) (fun w h' => w = none ∧ h' = HT L B1 B2 fi ai aj τ q []) := by
  have e33 : ∀ x, am_u2 fi 33 26 x 33 26 = x := fun x => u2s
  refine am_W.of rfl rfl ?_
  refine am_W.br rfl rfl ⟨trivial, ⟨by omega, by omega⟩⟩ (fun c1 => absurd c1 (by omega)) (fun c1 => ?_)
  refine am_W.br rfl rfl ⟨trivial, ⟨by omega, by omega⟩, ⟨by omega, by omega⟩⟩ (fun c2 => ?_) (fun c2 => absurd (by omega) c2)
  refine am_W.gp 24 rfl ⟨trivial, okI rfl rfl rfl⟩ ?_
  simp only [HS]
  refine am_W.rt rfl rfl (by simp only [HS, FRS, e33]; exact (by and_intros <;> first | trivial | exact okI rfl rfl rfl | (refine okrI rfl rfl rfl rfl ?_ ?_ <;> (first | omega | (simp only [HS, FRS, CCS, am_R] at *; omega))) | (refine okaI rfl rfl rfl rfl ?_ ?_ <;> (first | omega | (simp only [HS, FRS, CCS, am_R] at *; omega))) | (first | omega | (simp only [HS, FRS, CCS, am_R] at *; omega)) | (simp only [HS, FRS, CCS]))) ⟨rfl, ?_⟩
  unfold HT
  simp only [HS, FRS, e33, u2_sa, u2sa, sasa, sas]
  rw [shl56 q hq, Int.mul_comm τ 3]
  congr 1
  congr 1
  funext i
  unfold up tw
  by_cases h : 3 * τ ≤ i ∧ i < 3 * τ + 3
  · rw [if_pos h, wd_nil]
    by_cases h2 : i = 3 * τ + 2
    · rw [if_pos h2, if_neg (by omega)]
      rfl
    · rw [if_neg h2]
      by_cases h1 : i = 3 * τ + 1
      · rw [if_pos h1, if_neg (by omega)]
        rfl
      · rw [if_neg h1, if_pos (by omega), if_pos (by omega)]
  · rw [if_neg h, if_neg (by omega), if_neg (by omega), if_neg (by omega)]
set_option maxHeartbeats 400000 in
set_option maxRecDepth 100000 in
theorem c_Te_put (d L B1 B2 : Nat) (fi : Nat → Nat → Int) (ai aj : Nat → Int → Int) (τ q : Int) (l : List Int) (b : Int) (hτ : 0 ≤ τ ∧ τ ≤ 288) (hq : 0 ≤ q ∧ q ≤ 2) (hl : byt l) (hb : 0 ≤ b ∧ b < 128) (hn : l.length < 1000) : am_M am_prog (d + 1) m_Te_put [.inr (.inr 26), .inl b] (HT L B1 B2 fi ai aj τ q l) (fun w h' => w = none ∧ h' = HT L B1 B2 fi ai aj τ q (l ++ [b])) := by
  unfold HT
  generalize hN : (l.length : Int) = n
  generalize hF : am_u2 fi 33 26 (3 * τ) = F
  have e33 : ∀ x, am_u2 F 34 26 x 33 26 = 3 * τ := fun x => by rw [u2n (by decide), ← hF, u2s]
  have e34 : ∀ x, am_u2 F 34 26 x 34 26 = x := fun x => u2s
  have hn2 : 0 ≤ n ∧ n < 1000 := by omega
  refine am_W.of rfl rfl ?_
  refine am_W.br rfl rfl (by simp only [HS, e34]; exact (by and_intros <;> first | trivial | exact okI rfl rfl rfl | (refine okrI rfl rfl rfl rfl ?_ ?_ <;> (first | omega | (simp only [HS, FRS, CCS, am_R] at *; omega))) | (refine okaI rfl rfl rfl rfl ?_ ?_ <;> (first | omega | (simp only [HS, FRS, CCS, am_R] at *; omega))) | (first | omega | (simp only [HS, FRS, CCS, am_R] at *; omega)) | (simp only [HS, FRS, CCS]))) (fun c1 => ?_) (fun c1 => ?_)
  · simp only [HS, e34] at c1
    refine am_W.rt rfl rfl (by and_intros <;> first | trivial | exact okI rfl rfl rfl | (refine okrI rfl rfl rfl rfl ?_ ?_ <;> (first | omega | (simp only [HS, FRS, CCS, am_R] at *; omega))) | (refine okaI rfl rfl rfl rfl ?_ ?_ <;> (first | omega | (simp only [HS, FRS, CCS, am_R] at *; omega))) | (first | omega | (simp only [HS, FRS, CCS, am_R] at *; omega)) | (simp only [HS, FRS, CCS])) ⟨rfl, ?_⟩
    simp only [HS, e34, u2u]
    rw [List.length_append, List.length_singleton, ← hN]
    congr 1
    congr 1
    funext i
    unfold tw
    rw [wd_20 q l b (by omega)]
  · simp only [HS, e34] at c1
    have et : n.tdiv 7 = ((l.length / 7 : Nat) : Int) := by rw [Int.tdiv_eq_ediv_of_nonneg hn2.1]; omega
    have em : n.tmod 7 = ((l.length % 7 : Nat) : Int) := by rw [Int.tmod_eq_emod_of_nonneg hn2.1]; omega
    refine am_W.rt rfl rfl (by simp only [HS, FRS, e33, e34, et, em]; exact (by and_intros <;> first | trivial | exact okI rfl rfl rfl | (refine okrI rfl rfl rfl rfl ?_ ?_ <;> (first | omega | (simp only [HS, FRS, CCS, am_R] at *; omega))) | (refine okaI rfl rfl rfl rfl ?_ ?_ <;> (first | omega | (simp only [HS, FRS, CCS, am_R] at *; omega))) | (first | omega | (simp only [HS, FRS, CCS, am_R] at *; omega)) | (simp only [HS, FRS, CCS]))) ⟨rfl, ?_⟩
    simp only [HS, FRS, e33, e34, u2u, u2sa, sas, et, em]
    rw [List.length_append, List.length_singleton, ← hN]
    congr 1
    congr 1
    obtain ⟨h1, h2⟩ := wd_put q l b hq hl hb (by omega)
    funext i
    unfold up
    by_cases hi : i = 3 * τ + ((l.length / 7 : Nat) : Int)
    · rw [if_pos hi]
      unfold tw
      rw [if_pos (by omega), if_pos (by omega), show 3 * τ + ((l.length / 7 : Nat) : Int) - 3 * τ = ((l.length / 7 : Nat) : Int) by omega, show i - 3 * τ = ((l.length / 7 : Nat) : Int) by omega]
      exact h1
    · rw [if_neg hi]
      unfold tw
      by_cases h : 3 * τ ≤ i ∧ i < 3 * τ + 3
      · rw [if_pos h, if_pos h, h2 _ (by omega) (by omega) (by omega)]
      · rw [if_neg h, if_neg h]
