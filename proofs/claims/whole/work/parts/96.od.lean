-- the order by words is the order by bytes
theorem cp3_m {a b x y : Int} (hx : 0 ≤ x ∧ x < 256) (hy : 0 ≤ y ∧ y < 256) : cp3 (a * 256 + x) (b * 256 + y) = if cp3 a b = 0 then cp3 x y else cp3 a b := by
  unfold cp3
  (repeat' split) <;> omega
theorem hor_c : ∀ (x y : List Int) (a b : Int), x.length = y.length → byt x → byt y → cp3 (hor a x) (hor b y) = if cp3 a b = 0 then lexc x y else cp3 a b
  | [], [], a, b, _, _, _ => by
    show cp3 a b = if cp3 a b = 0 then 0 else cp3 a b
    split
    · assumption
    · rfl
  | x :: r, y :: s, a, b, h, hx, hy => by
    have h1 := hx x (List.mem_cons_self ..)
    have h2 := hy y (List.mem_cons_self ..)
    show cp3 (hor (a * 256 + x) r) (hor (b * 256 + y) s) = _
    rw [hor_c r s _ _ (by simpa using h) (fun q hq => hx q (List.mem_cons_of_mem _ hq)) (fun q hq => hy q (List.mem_cons_of_mem _ hq)), cp3_m (by omega) (by omega), lexc_c]
    by_cases h3 : cp3 a b = 0
    · rw [if_pos h3, if_pos h3]
    · rw [if_neg h3, if_neg h3, if_neg h3]
theorem pad_b {n : Nat} : ∀ {l : List Int}, byt l → byt (pad n l) := by
  intro l h b hb
  unfold pad at hb
  rcases List.mem_append.mp hb with h1 | h1
  · exact h b h1
  · rw [List.eq_of_mem_replicate h1]
    omega
theorem pad_l {n : Nat} {l : List Int} (h : l.length ≤ n) : (pad n l).length = n := by
  unfold pad
  rw [List.length_append, List.length_replicate]
  omega
theorem pad_n (n : Nat) : pad (n + 1) [] = 0 :: pad n [] := rfl
theorem pad_c (n : Nat) (x : Int) (l : List Int) : pad (n + 1) (x :: l) = x :: pad n l := by
  unfold pad
  rw [List.length_cons, Nat.add_sub_add_right]
  rfl
theorem llc_p : ∀ (n : Nat) (l m : List Int), bn l → bn m → llc l m = if lexc (pad n (l.take n)) (pad n (m.take n)) = 0 then llc (l.drop n) (m.drop n) else lexc (pad n (l.take n)) (pad n (m.take n))
  | 0, l, m, _, _ => (if_pos rfl).symm
  | n + 1, [], [], h1, h2 => by
    have ih := llc_p n [] [] h1 h2
    rw [List.take_nil, List.drop_nil] at ih ⊢
    rw [pad_n, lexc_c, if_pos (show cp3 0 0 = 0 from rfl)]
    exact ih
  | n + 1, [], y :: s, h1, h2 => by
    have := h2 y (List.mem_cons_self ..)
    have e : cp3 0 y = -1 := by
      unfold cp3
      rw [if_pos (by omega)]
    rw [List.take_nil, List.take_succ_cons, pad_n, pad_c, lexc_c, e]
    rfl
  | n + 1, x :: r, [], h1, h2 => by
    have := h1 x (List.mem_cons_self ..)
    have e : cp3 x 0 = 1 := by
      unfold cp3
      rw [if_neg (by omega), if_neg (by omega)]
    rw [List.take_nil, List.take_succ_cons, pad_n, pad_c, lexc_c, e]
    rfl
  | n + 1, x :: r, y :: s, h1, h2 => by
    have ih := llc_p n r s (fun q hq => h1 q (List.mem_cons_of_mem _ hq)) (fun q hq => h2 q (List.mem_cons_of_mem _ hq))
    rw [List.take_succ_cons, List.take_succ_cons, pad_c, pad_c, lexc_c, List.drop_succ_cons, List.drop_succ_cons]
    show (if cp3 x y = 0 then llc r s else cp3 x y) = _
    by_cases h : cp3 x y = 0
    · rw [if_pos h, if_pos h]
      exact ih
    · rw [if_neg h, if_neg h, if_neg h]
theorem bn_drop {n : Nat} {l : List Int} (h : bn l) : bn (l.drop n) := fun b hb => h b (List.mem_of_mem_drop hb)
def wl3 (u : Int × List Int) : List Int := [wd u.1 u.2 0, wd u.1 u.2 1, wd u.1 u.2 2]
theorem tc_w {u v : Int × List Int} (hu : tOK u) (hv : tOK v) : tc u v = lexc (wl3 u) (wl3 v) := by
  obtain ⟨u1, u2, u3, u4, u5⟩ := hu
  obtain ⟨v1, v2, v3, v4, v5⟩ := hv
  have tk : ∀ {l : List Int}, l.length ≤ 20 → (l.drop 14).take 6 = (l.drop 14).take 7 := fun {l} h => by
    rw [List.take_of_length_le (by rw [List.length_drop]; omega), List.take_of_length_le (by rw [List.length_drop]; omega)]
  have d21 : ∀ {l : List Int}, l.length ≤ 20 → ((l.drop 7).drop 7).drop 7 = [] := fun {l} h => by
    rw [List.drop_drop, List.drop_drop]
    exact List.drop_eq_nil_of_le (by omega)
  have t7 : ∀ {l : List Int}, (l.take 7).length ≤ 7 := fun {l} => by rw [List.length_take]; omega
  have w0 : cp3 (wd u.1 u.2 0) (wd v.1 v.2 0) = if cp3 u.1 v.1 = 0 then lexc (pad 7 (u.2.take 7)) (pad 7 (v.2.take 7)) else cp3 u.1 v.1 := hor_c _ _ _ _ (by rw [pad_l t7, pad_l t7]) (pad_b (byt_take 7 u2)) (pad_b (byt_take 7 v2))
  have w1 : cp3 (wd u.1 u.2 1) (wd v.1 v.2 1) = lexc (pad 7 ((u.2.drop 7).take 7)) (pad 7 ((v.2.drop 7).take 7)) := hor_c _ _ 0 0 (by rw [pad_l t7, pad_l t7]) (pad_b (byt_take 7 (byt_drop 7 u2))) (pad_b (byt_take 7 (byt_drop 7 v2)))
  have w2 : cp3 (wd u.1 u.2 2) (wd v.1 v.2 2) = lexc (pad 7 (((u.2.drop 7).drop 7).take 7)) (pad 7 (((v.2.drop 7).drop 7).take 7)) := by
    rw [List.drop_drop, List.drop_drop, ← tk u5, ← tk v5]
    have t6 : ∀ {l : List Int}, (l.take 6).length ≤ 7 := fun {l} => by rw [List.length_take]; omega
    exact hor_c _ _ 0 0 (by rw [pad_l t6, pad_l t6]) (pad_b (byt_take 6 (byt_drop 14 u2))) (pad_b (byt_take 6 (byt_drop 14 v2)))
  have p0 := llc_p 7 u.2 v.2 u3 v3
  have p1 := llc_p 7 (u.2.drop 7) (v.2.drop 7) (bn_drop u3) (bn_drop v3)
  have p2 := llc_p 7 ((u.2.drop 7).drop 7) ((v.2.drop 7).drop 7) (bn_drop (bn_drop u3)) (bn_drop (bn_drop v3))
  rw [d21 u5, d21 v5] at p2
  have e : lexc (wl3 u) (wl3 v) = if cp3 (wd u.1 u.2 0) (wd v.1 v.2 0) = 0 then (if cp3 (wd u.1 u.2 1) (wd v.1 v.2 1) = 0 then (if cp3 (wd u.1 u.2 2) (wd v.1 v.2 2) = 0 then 0 else cp3 (wd u.1 u.2 2) (wd v.1 v.2 2)) else cp3 (wd u.1 u.2 1) (wd v.1 v.2 1)) else cp3 (wd u.1 u.2 0) (wd v.1 v.2 0) := rfl
  rw [e, w0, w1, w2]
  unfold tc
  by_cases h : cp3 u.1 v.1 = 0
  · rw [if_pos h, if_pos h, p0, p1, p2]
    rfl
  · rw [if_neg h, if_neg h, if_neg h]
theorem lexc_ap : ∀ (x y x' y' : List Int), x.length = y.length → lexc (x ++ x') (y ++ y') = if lexc x y = 0 then lexc x' y' else lexc x y
  | [], [], _, _, _ => (if_pos rfl).symm
  | a :: r, b :: s, x', y', h => by
    show lexc (a :: (r ++ x')) (b :: (s ++ y')) = _
    rw [lexc_c, lexc_c, lexc_ap r s x' y' (by simpa using h)]
    by_cases h0 : cp3 a b = 0
    · rw [if_pos h0, if_pos h0]
    · rw [if_neg h0, if_neg h0, if_neg h0]
def kyT (T : Int → Int × List Int) (g : Int) : List Int := wl3 (T 0) ++ (wl3 (T 1) ++ (wl3 (T 2) ++ [g]))
theorem cmT_k {T T' : Int → Int × List Int} {g g' : Int} (h : ∀ n, 0 ≤ n → n < 3 → tOK (T n) ∧ tOK (T' n)) : cmT T T' g g' = lexc (kyT T g) (kyT T' g') := by
  have h0 := h 0 (by decide) (by decide)
  have h1 := h 1 (by decide) (by decide)
  have h2 := h 2 (by decide) (by decide)
  unfold kyT cmT
  rw [lexc_ap (wl3 (T 0)) (wl3 (T' 0)) _ _ rfl, lexc_ap (wl3 (T 1)) (wl3 (T' 1)) _ _ rfl, lexc_ap (wl3 (T 2)) (wl3 (T' 2)) _ _ rfl, ← tc_w h0.1 h0.2, ← tc_w h1.1 h1.2, ← tc_w h2.1 h2.2]
  have e : lexc [g] [g'] = cp3 g g' := by
    show (if cp3 g g' = 0 then 0 else cp3 g g') = cp3 g g'
    split
    · next h => exact h.symm
    · rfl
  rw [e]
/-- the order of ways -/
def cD (D : DT) (ms : List MT) (w w' : Int) : Int := lexc (kyT (TMf D ms w) (grf (ms.getD (w / 256).toNat dMT))) (kyT (TMf D ms w') (grf (ms.getD (w' / 256).toNat dMT)))
theorem cD_ord (D : DT) (ms : List MT) : ordC (cD D ms) := ⟨fun x y => lexc_a _ _, fun x y z h1 h2 => lexc_t _ _ _ rfl rfl h1 h2⟩
