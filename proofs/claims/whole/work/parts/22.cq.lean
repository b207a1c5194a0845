-- the steps that ask something, on the real machine
def am_tyl : List FieldType := [.int, .long, .boolean, .byte, .object "MappingText$Mapping"]
/-- the kinds of cells that the tables know -/
def am_Kx (D : va_G) (tys : List (ClassId × FieldType)) (s : State) : Prop := va_K D am_cls tys s ∧ tys.map Prod.snd = am_tyl ∧ va_AO "MappingText$Mapping" s
/-- the world: our cells, nothing else changed, the script -/
def am_Wd (D : va_G) (tys : List (ClassId × FieldType)) (ex : Nat → Nat) (B : Nat) (s : State) (h : am_H) (H : Heap) (locs : List Loc) : Prop := va_P D am_cls (am_ws ex B tys h) H ∧ 16 ≤ am_n h ∧ va_S (fun q => B ≤ q) s.heap H locs ∧ (am_c h 1).1 = 1000 ∧ va_X (ex 1) (am_c h 1).2 (fun j => Int32.ofInt (am_ai h 1 j)) s s.heap ∧ ex 1 < s.heap.size ∧ ex 1 < B
theorem am_ty {D : va_G} {tys : List (ClassId × FieldType)} {s : State} (hK : am_Kx D tys s) {t : Nat} {ty : FieldType} (ht : am_tyl[t]? = some ty) : tys[t]? = some (am_ci tys t, ty) := by
  have h1 : (tys.map Prod.snd)[t]? = some ty := by rw [hK.2.1]; exact ht
  rw [List.getElem?_map] at h1
  unfold am_ci
  cases hq : tys[t]? with
  | none => rw [hq] at h1; cases h1
  | some q =>
    rw [hq] at h1
    cases h1
    rfl
theorem am_kF_ok : ∀ q ∈ am_kF, q.2.2.1 < 11 ∧ am_off q.2.2.1 ≤ q.2.2.2.1 ∧ q.2.2.2.1 - am_off q.2.2.1 < (am_fld q.2.2.1).length ∧ q.2.2.2.2 = am_kd (am_ft q.2.2.1 (q.2.2.2.1 - am_off q.2.2.1)).2.2.1 := by decide +kernel
theorem am_kN_ok : ∀ q ∈ am_kN, q.2.2.1 < 11 ∧ q.2.2.2 = (am_fld q.2.2.1).length := by decide +kernel
def am_t0 (a k : Nat) : FieldType := (parseFieldDescriptor (am_ft a k).2.2.1).getD .int
def am_tk2 (t : FieldType) : Bool := match t with
  | .object _ => true
  | .array _ => true
  | _ => false
theorem am_t0_ok : ∀ a, a < 11 → ∀ k, k < (am_fld a).length → parseFieldDescriptor (am_ft a k).2.2.1 = some (am_t0 a k) := by decide +kernel
theorem am_t0_kd : ∀ a, a < 11 → ∀ k, k < (am_fld a).length → (am_kd (am_ft a k).2.2.1 = 0 → am_t0 a k = .int) ∧ (am_kd (am_ft a k).2.2.1 = 3 → am_t0 a k = .boolean) ∧ (am_kd (am_ft a k).2.2.1 = 1 → am_t0 a k = .long) ∧ (am_kd (am_ft a k).2.2.1 = 2 → am_tk2 (am_t0 a k) = true) := by decide +kernel
theorem am_nm_ok : ∀ z, z < 11 → ∀ a, a < (am_fld z).length → ∀ b, b < (am_fld z).length → a ≠ b → (am_ft z a).2.1 ≠ (am_ft z b).2.1 := by decide +kernel
theorem am_fd1 : ∀ z, z < 11 → ∀ a, a < (am_fld z).length → (am_ft z a).1 = am_onm z := by decide +kernel
theorem am_lay_good {C : String} {T : u_T} {N : Nat} : ∀ w ∈ u_ws C T N, goodWord w = true := by
  intro w hw
  obtain ⟨k, -, rfl⟩ := List.mem_map.mp hw
  unfold u_lay
  split <;> rfl
theorem am_iL {ci : Nat} (h : ci < 11) : ∀ w ∈ u_ws (am_onm ci) (am_ft ci) (am_fld ci).length, w ∈ am_tb := by
  intro w hw
  refine am_tb_in ?_ (am_lay_good w hw)
  match ci, h, hw with
  | 0, _, hw => exact am_iL_0 w hw
  | 1, _, hw => exact am_iL_1 w hw
  | 2, _, hw => exact am_iL_2 w hw
  | 3, _, hw => exact am_iL_3 w hw
  | 4, _, hw => exact am_iL_4 w hw
  | 5, _, hw => exact am_iL_5 w hw
  | 6, _, hw => exact am_iL_6 w hw
  | 7, _, hw => exact am_iL_7 w hw
  | 8, _, hw => exact am_iL_8 w hw
  | 9, _, hw => exact am_iL_9 w hw
  | 10, _, hw => exact am_iL_10 w hw
theorem am_ini : ∀ a, a < 11 → a ∈ [0, 1, 2, 3, 4, 5, 6, 7, 8, 9, 10, 11, 12, 13, 14, 15, 16] := by decide
theorem am_nar2 {t : FieldType} {o : Option Nat} (h : am_tk2 t = true) : narrow t (va_rf o) = va_rf o ∧ fits t (va_rf o) = true := by
  cases t <;> first | (cases o <;> exact ⟨rfl, rfl⟩) | cases h
theorem am_z1 {v : Int} (h : v = 0 ∨ v = 1) : narrow .boolean (.int (Int32.ofInt v)) = .int (Int32.ofInt v) ∧ fits .boolean (.int (Int32.ofInt v)) = true ∧ vp_nar .boolean (Int32.ofInt v) = Int32.ofInt v := by
  rcases h with rfl | rfl <;> exact ⟨by decide, by decide, by decide⟩
theorem am_b2b {x : Int} (h1 : -128 ≤ x) (h2 : x < 128) : (Int32.ofInt x).toInt8.toInt32 = Int32.ofInt x := by
  apply Int32.toInt_inj.mp
  rw [Int8.toInt_toInt32, Int32.toInt_toInt8, am_t ⟨by omega, by omega⟩]
  rw [Int.bmod_eq_of_le (by omega) (by omega)]
theorem am_cmpJ {x y : Int} (hx : am_RJ x) (hy : am_RJ y) : lg_cmp (Int64.ofInt x) (Int64.ofInt y) = Int32.ofInt (if x < y then -1 else if x = y then 0 else 1) := by
  unfold lg_cmp
  by_cases h1 : y < x
  · rw [if_pos ((am_lt64 hy hx).mpr h1), if_neg (by omega), if_neg (by omega)]
    rfl
  · rw [if_neg (fun q => h1 ((am_lt64 hy hx).mp q))]
    by_cases h2 : x = y
    · rw [if_pos ((am_eq64 hx hy).mpr h2), if_neg (by omega), if_pos h2]
      rfl
    · rw [if_neg (fun q => h2 ((am_eq64 hx hy).mp q)), if_pos (by omega)]
      rfl
theorem am_nat (n : Nat) : Int32.ofInt (n : Int) = Int32.ofNat n := Int32.ofInt_eq_ofNat
theorem am_ce_o {ex : Nat → Nat} {B : Nat} {tys : List (ClassId × FieldType)} {h : am_H} {r a : Nat} (hc : am_c h r = (a, 0)) (ha : a < 11) : am_ce ex B tys h r = .inr (a, am_ff ex B h a r) := by
  unfold am_ce
  rw [hc, if_pos (show a < 1000 by omega)]
theorem am_ce_j {ex : Nat → Nat} {B : Nat} {tys : List (ClassId × FieldType)} {h : am_H} {r : Nat} (hc : (am_c h r).1 = 1001) : am_ce ex B tys h r = .inl (am_ci tys 1, (am_c h r).2, .inr (.inl (fun j => Int64.ofInt (am_aj h r j)))) := by
  unfold am_ce
  rw [hc, if_neg (by decide), if_pos rfl]
theorem am_ce_q {ex : Nat → Nat} {B : Nat} {tys : List (ClassId × FieldType)} {h : am_H} {r : Nat} (hc : (am_c h r).1 = 1004) : am_ce ex B tys h r = .inl (am_ci tys 4, (am_c h r).2, .inr (.inr (.inr (.inr (fun j => am_cr ex B (am_ar h r j)))))) := by
  unfold am_ce
  rw [hc, if_neg (by decide), if_neg (by decide), if_pos rfl]
theorem am_ce_i {ex : Nat → Nat} {B : Nat} {tys : List (ClassId × FieldType)} {h : am_H} {r t : Nat} (hc : (am_c h r).1 = 1000 + t) (ht : t = 0 ∨ t = 2 ∨ t = 3) : am_ce ex B tys h r = .inl (am_ci tys t, (am_c h r).2, .inl (fun j => Int32.ofInt (am_ai h r j))) := by
  unfold am_ce
  rw [hc, if_neg (by omega), if_neg (by omega), if_neg (by omega), Nat.add_sub_cancel_left]
theorem am_cz {i : Int} (h0 : 0 ≤ i) (h : i ≤ 2147483647) : (((Int32.ofInt i).toNatClampNeg : Nat) : Int) = i := by rw [am_cl32 h0 h, Int.toNat_of_nonneg h0]
theorem am_at {f : Int → Int} {i : Int} (h0 : 0 ≤ i) (h : i ≤ 2147483647) : (fun j : Nat => Int32.ofInt (f j)) (Int32.ofInt i).toNatClampNeg = Int32.ofInt (f i) := by
  show Int32.ofInt (f ((Int32.ofInt i).toNatClampNeg : Nat)) = _
  rw [am_cl32 h0 h, Int.toNat_of_nonneg h0]
theorem am_atJ {f : Int → Int} {i : Int} (h0 : 0 ≤ i) (h : i ≤ 2147483647) : (fun j : Nat => Int64.ofInt (f j)) (Int32.ofInt i).toNatClampNeg = Int64.ofInt (f i) := by
  show Int64.ofInt (f ((Int32.ofInt i).toNatClampNeg : Nat)) = _
  rw [am_cl32 h0 h, Int.toNat_of_nonneg h0]
theorem am_up {f : Int → Int} {i v : Int} (h0 : 0 ≤ i) (h : i ≤ 2147483647) : (fun j : Nat => Int32.ofInt (if (j : Int) = i then v else f j)) = upd (fun j : Nat => Int32.ofInt (f j)) (Int32.ofInt i).toNatClampNeg (Int32.ofInt v) := by
  funext j
  rw [am_cl32 h0 h]
  unfold upd
  by_cases hj : j = i.toNat
  · rw [if_pos hj, if_pos (by omega)]
  · rw [if_neg hj, if_neg (by omega)]
theorem am_upJ {f : Int → Int} {i v : Int} (h0 : 0 ≤ i) (h : i ≤ 2147483647) : (fun j : Nat => Int64.ofInt (if (j : Int) = i then v else f j)) = vp_updL (fun j : Nat => Int64.ofInt (f j)) (Int32.ofInt i).toNatClampNeg (Int64.ofInt v) := by
  funext j
  rw [am_cl32 h0 h]
  unfold vp_updL
  by_cases hj : j = i.toNat
  · rw [if_pos hj, if_pos (by omega)]
  · rw [if_neg hj, if_neg (by omega)]
theorem am_upQ {ex : Nat → Nat} {B : Nat} {f : Int → Nat} {i : Int} {v : Nat} (h0 : 0 ≤ i) (h : i ≤ 2147483647) : (fun j : Nat => am_cr ex B (if (j : Int) = i then v else f j)) = va_up (fun j : Nat => am_cr ex B (f j)) (Int32.ofInt i).toNatClampNeg (am_cr ex B v) := by
  funext j
  rw [am_cl32 h0 h]
  unfold va_up
  by_cases hj : j = i.toNat
  · rw [if_pos hj, if_pos (by omega)]
  · rw [if_neg hj, if_neg (by omega)]
theorem am_u2s {β γ : Type} [DecidableEq β] (f : Nat → β → γ) (i : Nat) (a b : β) (v : γ) : am_u2 f i a v i b = if b = a then v else f i b := by unfold am_u2; rw [if_pos rfl]
theorem am_u2n {β γ : Type} [DecidableEq β] (f : Nat → β → γ) {i j : Nat} (a b : β) (v : γ) (h : j ≠ i) : am_u2 f i a v j b = f j b := by unfold am_u2; rw [if_neg h]
theorem am_u2m {β γ : Type} [DecidableEq β] (f : Nat → β → γ) (i j : Nat) {a b : β} (v : γ) (h : b ≠ a) : am_u2 f i a v j b = f j b := by
  unfold am_u2
  by_cases hj : j = i
  · rw [if_pos hj, if_neg h]
  · rw [if_neg hj]
theorem am_addr {D : va_G} {ex : Nat → Nat} {B : Nat} {tys : List (ClassId × FieldType)} {h : am_H} {H1 : Heap} {q : Nat} {e : va_E} (hP : va_P D am_cls (am_ws ex B tys h ++ [(q, e)]) H1) (hD : va_D (fun q => B ≤ q) (am_ws ex B tys h ++ [(q, e)])) (hsz : H1.size ≤ B + (am_n h - 16) + 1) : q = B + (am_n h - 16) := by
  have hl : (am_ws ex B tys h ++ [(q, e)])[am_n h - 16]? = some (q, e) := by
    rw [List.getElem?_append_right (by rw [am_ws_len]; exact Nat.le_refl _), am_ws_len, Nat.sub_self]
    rfl
  have h1 : q < H1.size := (hP _ _ hl).lt
  have h2 : B ≤ q := hD.2 _ _ hl
  by_cases hq : q < B + (am_n h - 16)
  · have hj : (am_ws ex B tys h ++ [(q, e)])[q - B]? = some (B + (q - B), am_ce ex B tys h (q - B + 16)) := by
      rw [List.getElem?_append_left (by rw [am_ws_len]; omega), am_ws_at, if_pos (by omega)]
    have := hD.1 _ _ _ _ hj hl (show B + (q - B) = q by omega)
    omega
  · omega
theorem am_df {ex : Nat → Nat} {B : Nat} {h : am_H} {a b j : Nat} (ha : a < 11) (hj : j < (am_fld a).length) : defaultValue (am_t0 a j) = vp_V (am_ff ex B (am_nwo h a b) a (am_n h)) j := by
  unfold vp_V
  rw [List.getD_eq_getElem?_getD, am_ff_get hj]
  show _ = am_fv ex B (am_nwo h a b) (am_n h) (am_off a + j) (am_ft a j).2.2.1
  have hk := am_t0_kd a ha j hj
  have hq : am_kd (am_ft a j).2.2.1 = 0 ∨ am_kd (am_ft a j).2.2.1 = 3 ∨ am_kd (am_ft a j).2.2.1 = 1 ∨ am_kd (am_ft a j).2.2.1 = 2 := by
    unfold am_kd
    split
    · exact Or.inl rfl
    · split
      · exact Or.inr (Or.inr (Or.inl rfl))
      · split
        · exact Or.inr (Or.inl rfl)
        · exact Or.inr (Or.inr (Or.inr rfl))
  have z1 : ∀ id, am_fi (am_nwo h a b) id (am_n h) = 0 := fun id => if_pos rfl
  have z2 : ∀ id, am_fj (am_nwo h a b) id (am_n h) = 0 := fun id => if_pos rfl
  have z3 : ∀ id, am_fr (am_nwo h a b) id (am_n h) = 0 := fun id => if_pos rfl
  unfold am_fv
  rcases hq with q | q | q | q
  · rw [q, hk.1 q]
    simp only [am_gf, z1]
    rfl
  · rw [q, hk.2.1 q]
    simp only [am_gf, z1]
    rfl
  · rw [q, hk.2.2.1 q]
    simp only [am_gf, z2]
    rfl
  · rw [q]
    have := hk.2.2.2 q
    simp only [am_gf, z3]
    generalize am_t0 a j = t at this ⊢
    cases t <;> first | rfl | cases this
section AMC
variable {p : Program} {l : Launch} {e : Env} {R : Room} {s : State} {m : MethodId} {args : Array Value} {below : List Frame} {meth : Method} {c : Code} {H : Heap} {locs : List Loc} {cells slots : Nat} {Q : State → Prop} {lsR : Array Slot} {ex : Nat → Nat} {B : Nat} {D : va_G} {tys : List (ClassId × FieldType)}
theorem am_size {g : JFrame} (w : H.size ≤ s.heap.size + cells → W p l e R s m args below meth c H locs cells slots Q g) : W p l e R s m args below meth c H locs cells slots Q g := fun T hT X => w (by rw [← hT]; exact X.heapSize) T hT X
set_option maxHeartbeats 4000000 in
theorem am_cq_snd {md nL pc nx a b n0 s0 : Nat} {ini : Bool} {ret : Option FieldType} {i : Instr} {k : Int} {al : List (Nat × Nat)} {ls ls' : am_L} {st st' : List am_V} {h h' : am_H} {pc' : Nat} {P : Prop} (hE : am_E p s m args c md) (hK : am_Kx D tys s) (hini : ini = true → meth.name = "<init>") (hd : decode (am_mb md) pc = .ok (i, nx - pc)) (he : am_ek (am_mo md) nL ini ret pc i nx a b k al = true) (ho : am_cq i nx a b k ls st h = some (P, pc', ls', st', h')) (hp : P) (hW : am_Wd D tys ex B s h H locs) (hn0 : 16 ≤ n0 ∧ n0 ≤ am_n h) (hs0 : s0 ≤ am_sl h) (hB : s.heap.size = B + (n0 - 16)) (hR : am_n h' - n0 ≤ R.cells ∧ am_sl h' - s0 ≤ R.slots)
    (kk : ∀ H' locs', am_Wd D tys ex B s h' H' locs' → W p l e R s m args below meth c H' locs' (am_n h' - n0) (am_sl h' - s0) Q (F0 m pc' lsR (st'.map (am_cv ex B)))) : ls' = ls ∧ W p l e R s m args below meth c H locs (am_n h - n0) (am_sl h - s0) Q (F0 m pc lsR (st.map (am_cv ex B))) := by
  obtain ⟨hx, hb, hml, hown, hts⟩ := hE
  obtain ⟨hP, h16, hS, hs1, hs2, hs3, hs4⟩ := id hW
  have hA : ∀ q : Nat, s.heap.size ≤ q → (fun q : Nat => B ≤ q) q := fun q hq => Nat.le_trans (by omega) hq
  cases i
  case i2l =>
    simp only [am_ek, beq_iff_eq] at he
    obtain ⟨x, r, rfl, ho1⟩ := am_pi_e ho
    cases ho1
    exact ⟨rfl, lv_i2l hx hb (am_ld hd he) (am_i2l hp) (by subst he; exact kk _ _ hW)⟩
  case i2b =>
    simp only [am_ek, beq_iff_eq] at he
    obtain ⟨x, r, rfl, ho1⟩ := am_pi_e ho
    cases ho1
    exact ⟨rfl, lv_i2b hx hb (am_ld hd he) (am_b2b hp.1 hp.2) (by subst he; exact kk _ _ hW)⟩
  case idiv =>
    simp only [am_ek, beq_iff_eq] at he
    obtain ⟨y, r, rfl, ho1⟩ := am_pi_e ho
    obtain ⟨x, r, rfl, ho2⟩ := am_pi_e ho1
    cases ho2
    refine ⟨rfl, lv_idiv hx hb (am_ld hd he) (am_ne0 hp.2.1 hp.2.2) ?_⟩
    rw [am_div32 hp.1 hp.2.1]
    subst he
    exact kk _ _ hW
  case irem =>
    simp only [am_ek, beq_iff_eq] at he
    obtain ⟨y, r, rfl, ho1⟩ := am_pi_e ho
    obtain ⟨x, r, rfl, ho2⟩ := am_pi_e ho1
    cases ho2
    refine ⟨rfl, lv_irem hx hb (am_ld hd he) (am_ne0 hp.2.1 hp.2.2) ?_⟩
    rw [am_rem32 hp.1 hp.2.1]
    subst he
    exact kk _ _ hW
  case lcmp =>
    simp only [am_ek, beq_iff_eq] at he
    obtain ⟨y, r, rfl, ho1⟩ := am_pj_e ho
    obtain ⟨x, r, rfl, ho2⟩ := am_pj_e ho1
    cases ho2
    refine ⟨rfl, W.lcmp hx hb (am_ld hd he) ?_⟩
    rw [am_cmpJ hp.1 hp.2]
    subst he
    exact kk _ _ hW
  case getfield n =>
    simp only [am_ek, beq_iff_eq, Bool.and_eq_true, decide_eq_true_eq] at he
    obtain ⟨he, hm⟩ := he
    obtain ⟨r, rest, rfl, ho1⟩ := am_pr_e ho
    cases ho1
    obtain ⟨r1, r2, r3⟩ := hp
    obtain ⟨q1, q2, q3, q4⟩ := am_kF_ok _ hm
    dsimp only at q1 q2 q3 q4
    have hlk := am_tb_in (am_iF _ (List.mem_map.mpr ⟨_, hm, rfl⟩)) rfl
    have hg : am_cv ex B (am_gf h b r k) = am_fv ex B h r (am_off a + (b - am_off a)) (am_ft a (b - am_off a)).2.2.1 := by
      unfold am_fv
      rw [← q4, Nat.add_sub_cancel' q2]
    refine ⟨rfl, ?_⟩
    rw [List.map_cons, am_cv_hi r1]
    refine va_get (D := D) (ci := a) (v := am_cv ex B (am_gf h b r k)) (C := am_onm a) (T := am_ft a) (N := (am_fld a).length) hx hb hts (am_iL q1) hown hK.1 hP (r - 16) ((am_ws_get r1 r2).trans (by rw [am_ce_o r3 q1])) (am_cls_at q1) (b - am_off a) q3 (hts _ hlk) (fun _ h9 => h9) (by rw [hg]; exact am_ff_get q3) (am_ld hd he) ?_
    subst he
    exact kk _ _ hW
  case putfield n =>
    simp only [am_ek, beq_iff_eq, Bool.and_eq_true, decide_eq_true_eq, Bool.or_eq_true, Bool.not_eq_true'] at he
    obtain ⟨⟨he, hm⟩, hfin⟩ := he
    obtain ⟨q1, q2, q3, q4⟩ := am_kF_ok _ hm
    dsimp only at q1 q2 q3 q4
    have hlk := hts _ (am_tb_in (am_iF _ (List.mem_map.mpr ⟨_, hm, rfl⟩)) rfl)
    have hk := am_t0_kd a q1 _ q3
    have hbk : am_off a + (b - am_off a) = b := Nat.add_sub_cancel' q2
    -- what all kinds share
    have main : ∀ (r : Nat) (rest : List am_V) (v : am_V), am_ok h r a → (∀ x, am_n h' = am_n h ∧ am_sl h' = am_sl h ∧ am_c h' = am_c h ∧ am_ai h' = am_ai h ∧ am_aj h' = am_aj h ∧ am_ar h' = am_ar h ∧ (∀ q, q ≠ r → am_fi h' x q = am_fi h x q ∧ am_fj h' x q = am_fj h x q ∧ am_fr h' x q = am_fr h x q) ∧ (x ≠ b → am_fi h' x r = am_fi h x r ∧ am_fj h' x r = am_fj h x r ∧ am_fr h' x r = am_fr h x r)) → am_gf h' b r k = v → narrow (am_t0 a (b - am_off a)) (am_cv ex B v) = am_cv ex B v → fits (am_t0 a (b - am_off a)) (am_cv ex B v) = true → pc' = nx → st' = rest → W p l e R s m args below meth c H locs (am_n h - n0) (am_sl h - s0) Q (F0 m pc lsR ((v :: .inr (.inr r) :: rest).map (am_cv ex B))) := by
      intro r rest v ⟨r1, r2, r3⟩ hsame hv hnr hft e1 e2
      subst e1; subst e2
      have hws : (am_ws ex B tys h).set (r - 16) (B + (r - 16), .inr (a, (am_ff ex B h a r).set (b - am_off a) (am_cv ex B v))) = am_ws ex B tys h' := by
        refine am_ws_set (hsame 0).1 r1 r2 ?_ (fun q hq => ?_)
        · rw [am_ce_o (a := a) (by rw [(hsame 0).2.2.1]; exact r3) q1]
          congr 2
          refine (am_ff_set q3 ?_ (fun j hj de => ?_)).symm
          · unfold am_fv
            rw [hbk, ← q4, hv]
          · have hz := (hsame (am_off a + j)).2.2.2.2.2.2.2 (by omega)
            unfold am_fv am_gf
            rw [hz.1, hz.2.1, hz.2.2]
        · exact am_ce_eq (by rw [(hsame 0).2.2.1]) (fun x => ((hsame x).2.2.2.2.2.2.1 q hq).1) (fun x => ((hsame x).2.2.2.2.2.2.1 q hq).2.1) (fun x => ((hsame x).2.2.2.2.2.2.1 q hq).2.2) (by rw [(hsame 0).2.2.2.1]) (by rw [(hsame 0).2.2.2.2.1]) (by rw [(hsame 0).2.2.2.2.2.1])
      have fin : ∀ (H1 : Heap) (locs1 : List Loc), va_P D am_cls ((am_ws ex B tys h).set (r - 16) (B + (r - 16), .inr (a, (am_ff ex B h a r).set (b - am_off a) (am_cv ex B v)))) H1 → va_S (fun q => B ≤ q) s.heap H1 locs1 → W p l e R s m args below meth c H1 locs1 (am_n h - n0) (am_sl h - s0) Q (F0 m (pc + 3) lsR (st'.map (am_cv ex B))) := by
        intro H1 locs1 hP1 hS1
        rw [hws] at hP1
        have := kk H1 locs1 ⟨hP1, by rw [(hsame 0).1]; exact h16, hS1, by rw [(hsame 0).2.2.1]; exact hs1, by rw [(hsame 0).2.2.1, (hsame 0).2.2.2.1]; exact hs2, hs3, hs4⟩
        rw [(hsame 0).1, (hsame 0).2.1, he] at this
        exact this
      rw [List.map_cons, List.map_cons, am_cv_hi r1]
      cases hf : (am_ft a (b - am_off a)).2.2.2 with
      | false => exact va_put (D := D) (ci := a) (C := am_onm a) (T := am_ft a) (N := (am_fld a).length) hx hb hts (am_iL q1) (am_t0 a) (am_t0_ok a q1) (am_nm_ok a q1) hown hK.1 hP am_ws_D hS (r - 16) ((am_ws_get r1 r2).trans (by rw [am_ce_o r3 q1])) (am_cls_at q1) (b - am_off a) q3 hlk (fun _ h9 => h9) hf (am_t0_ok a q1 _ q3) hnr hft (by rw [am_ff_len]; exact q3) (am_ld hd he) (fun H1 locs1 hP1 _ hS1 => fin H1 locs1 hP1 hS1)
      | true =>
        rcases hfin with hfin | ⟨hi, ho1⟩
        · rw [hf] at hfin; cases hfin
        · exact va_putF (D := D) (ci := a) (C := am_onm a) (T := am_ft a) (N := (am_fld a).length) hx hb hts (am_iL q1) (am_t0 a) (am_t0_ok a q1) (am_nm_ok a q1) hown hK.1 hP am_ws_D hS (r - 16) ((am_ws_get r1 r2).trans (by rw [am_ce_o r3 q1])) (am_cls_at q1) (b - am_off a) q3 hlk (fun _ h9 => h9) hf (hini hi) (by rw [am_fd1 a q1 _ q3, ho1]) (am_t0_ok a q1 _ q3) hnr hft (by rw [am_ff_len]; exact q3) (am_ld hd he) (fun H1 locs1 hP1 _ hS1 => fin H1 locs1 hP1 hS1)
    have hkc : k = 0 ∨ k = 3 ∨ k = 1 ∨ k = 2 := by
      rw [q4]
      unfold am_kd
      split
      · exact Or.inl rfl
      · split
        · exact Or.inr (Or.inr (Or.inl rfl))
        · split
          · exact Or.inr (Or.inl rfl)
          · exact Or.inr (Or.inr (Or.inr rfl))
    rcases hkc with rfl | rfl | rfl | rfl
    · obtain ⟨v, r0, rfl, ho1⟩ := am_pi_e ho
      obtain ⟨r, rest, rfl, ho2⟩ := am_pr_e ho1
      cases ho2
      refine ⟨rfl, main r _ (.inl v) hp (fun x => ⟨rfl, rfl, rfl, rfl, rfl, rfl, fun q hq => ⟨am_u2m _ _ _ _ hq, rfl, rfl⟩, fun hxb => ⟨am_u2n _ _ _ _ hxb, rfl, rfl⟩⟩) ?_ ?_ ?_ rfl rfl⟩
      · show Sum.inl (am_u2 (am_fi h) b r v b r) = _
        rw [am_u2s, if_pos rfl]
      · rw [hk.1 q4.symm]; rfl
      · rw [hk.1 q4.symm]; rfl
    · obtain ⟨v, r0, rfl, ho1⟩ := am_pi_e ho
      obtain ⟨r, rest, rfl, ho2⟩ := am_pr_e ho1
      cases ho2
      refine ⟨rfl, main r _ (.inl v) hp.1 (fun x => ⟨rfl, rfl, rfl, rfl, rfl, rfl, fun q hq => ⟨am_u2m _ _ _ _ hq, rfl, rfl⟩, fun hxb => ⟨am_u2n _ _ _ _ hxb, rfl, rfl⟩⟩) ?_ ?_ ?_ rfl rfl⟩
      · show Sum.inl (am_u2 (am_fi h) b r v b r) = _
        rw [am_u2s, if_pos rfl]
      · rw [hk.2.1 q4.symm]; exact (am_z1 hp.2).1
      · rw [hk.2.1 q4.symm]; exact (am_z1 hp.2).2.1
    · obtain ⟨v, r0, rfl, ho1⟩ := am_pj_e ho
      obtain ⟨r, rest, rfl, ho2⟩ := am_pr_e ho1
      cases ho2
      refine ⟨rfl, main r _ (.inr (.inl v)) hp (fun x => ⟨rfl, rfl, rfl, rfl, rfl, rfl, fun q hq => ⟨rfl, am_u2m _ _ _ _ hq, rfl⟩, fun hxb => ⟨rfl, am_u2n _ _ _ _ hxb, rfl⟩⟩) ?_ ?_ ?_ rfl rfl⟩
      · show Sum.inr (Sum.inl (am_u2 (am_fj h) b r v b r)) = _
        rw [am_u2s, if_pos rfl]
      · rw [hk.2.2.1 q4.symm]; rfl
      · rw [hk.2.2.1 q4.symm]; rfl
    · obtain ⟨v, r0, rfl, ho1⟩ := am_pr_e ho
      obtain ⟨r, rest, rfl, ho2⟩ := am_pr_e ho1
      cases ho2
      refine ⟨rfl, main r _ (.inr (.inr v)) hp (fun x => ⟨rfl, rfl, rfl, rfl, rfl, rfl, fun q hq => ⟨rfl, rfl, am_u2m _ _ _ _ hq⟩, fun hxb => ⟨rfl, rfl, am_u2n _ _ _ _ hxb⟩⟩) ?_ ?_ ?_ rfl rfl⟩
      · show Sum.inr (Sum.inr (am_u2 (am_fr h) b r v b r)) = _
        rw [am_u2s, if_pos rfl]
      · exact (am_nar2 (hk.2.2.2 q4.symm)).1
      · exact (am_nar2 (hk.2.2.2 q4.symm)).2
  case iaload =>
    simp only [am_ek, beq_iff_eq, Bool.and_eq_true, decide_eq_true_eq] at he
    obtain ⟨he, rfl⟩ := he
    obtain ⟨j, r0, rfl, ho1⟩ := am_pi_e ho
    obtain ⟨r, rest, rfl, ho2⟩ := am_pr_e ho1
    cases ho2
    obtain ⟨hr, ht, h0, hlt, hmx⟩ := hp
    refine ⟨rfl, ?_⟩
    have kq := kk _ _ hW
    rw [List.map_cons, List.map_cons]
    rcases hr with rfl | ⟨r1, r2⟩
    · rw [am_cv_lo ⟨by omega, by omega⟩]
      refine va_sld (A := fun q => B ≤ q) (H0 := s.heap) hx hb hs2 hs3 (by omega) hS (am_in h0 hlt hmx) (am_ld hd he) ?_
      rw [am_cz h0 hmx]
      subst he
      exact kq
    · rw [am_cv_hi r1]
      refine va_iald hx hb hK.1 hP (r - 16) 0 ((am_ws_get r1 r2).trans (by rw [am_ce_i (t := 0) ht (Or.inl rfl)])) (am_ty hK rfl) (am_in h0 hlt hmx) (am_ld hd he) ?_
      rw [am_cz h0 hmx]
      subst he
      exact kq
  case baload =>
    simp only [am_ek, beq_iff_eq, Bool.and_eq_true, Bool.or_eq_true] at he
    obtain ⟨he, ha⟩ := he
    obtain ⟨j, r0, rfl, ho1⟩ := am_pi_e ho
    obtain ⟨r, rest, rfl, ho2⟩ := am_pr_e ho1
    cases ho2
    obtain ⟨hr, ht, h0, hlt, hmx⟩ := hp
    refine ⟨rfl, ?_⟩
    have kq := kk _ _ hW
    rw [List.map_cons, List.map_cons]
    rcases hr with rfl | ⟨r1, r2⟩
    · rw [hs1] at ht
      omega
    · rw [am_cv_hi r1]
      rcases ha with rfl | rfl
      · refine va_zald hx hb hK.1 hP (r - 16) 2 ((am_ws_get r1 r2).trans (by rw [am_ce_i (t := 2) ht (Or.inr (Or.inl rfl))])) (am_ty hK rfl) (am_in h0 hlt hmx) (am_ld hd he) ?_
        rw [am_cz h0 hmx]
        subst he
        exact kq
      · refine va_bald hx hb hK.1 hP (r - 16) 3 ((am_ws_get r1 r2).trans (by rw [am_ce_i (t := 3) ht (Or.inr (Or.inr rfl))])) (am_ty hK rfl) (am_in h0 hlt hmx) (am_ld hd he) ?_
        rw [am_cz h0 hmx]
        subst he
        exact kq
  case laload =>
    simp only [am_ek, beq_iff_eq, Bool.and_eq_true, decide_eq_true_eq] at he
    obtain ⟨he, rfl⟩ := he
    obtain ⟨j, r0, rfl, ho1⟩ := am_pi_e ho
    obtain ⟨r, rest, rfl, ho2⟩ := am_pr_e ho1
    cases ho2
    obtain ⟨hr, ht, h0, hlt, hmx⟩ := hp
    refine ⟨rfl, ?_⟩
    have kq := kk _ _ hW
    rw [List.map_cons, List.map_cons]
    rcases hr with rfl | ⟨r1, r2⟩
    · rw [hs1] at ht
      omega
    · rw [am_cv_hi r1]
      refine va_lald hx hb hK.1 hP (r - 16) 1 ((am_ws_get r1 r2).trans (by rw [am_ce_j ht])) (am_ty hK rfl) (am_in h0 hlt hmx) (am_ld hd he) ?_
      rw [am_cz h0 hmx]
      subst he
      exact kq
  case aaload =>
    simp only [am_ek, beq_iff_eq, Bool.and_eq_true, decide_eq_true_eq] at he
    obtain ⟨he, rfl⟩ := he
    obtain ⟨j, r0, rfl, ho1⟩ := am_pi_e ho
    obtain ⟨r, rest, rfl, ho2⟩ := am_pr_e ho1
    cases ho2
    obtain ⟨hr, ht, h0, hlt, hmx⟩ := hp
    refine ⟨rfl, ?_⟩
    have kq := kk _ _ hW
    rw [List.map_cons, List.map_cons]
    rcases hr with rfl | ⟨r1, r2⟩
    · rw [hs1] at ht
      omega
    · rw [am_cv_hi r1]
      refine va_aldq hx hb hK.1 hP (r - 16) 4 ((am_ws_get r1 r2).trans (by rw [am_ce_q ht])) (am_ty hK rfl) (am_in h0 hlt hmx) (am_ld hd he) ?_
      rw [am_cz h0 hmx]
      subst he
      exact kq
  case iastore =>
    simp only [am_ek, beq_iff_eq, Bool.and_eq_true, decide_eq_true_eq] at he
    obtain ⟨he, rfl⟩ := he
    obtain ⟨v, r0, rfl, ho1⟩ := am_pi_e ho
    obtain ⟨j, r0, rfl, ho2⟩ := am_pi_e ho1
    obtain ⟨r, rest, rfl, ho3⟩ := am_pr_e ho2
    cases ho3
    obtain ⟨r1, r2, ht, h0, hlt, hmx⟩ := hp
    refine ⟨rfl, ?_⟩
    rw [List.map_cons, List.map_cons, List.map_cons, am_cv_hi r1]
    refine va_iast hx hb hK.1 hP am_ws_D hS (r - 16) 0 ((am_ws_get r1 r2).trans (by rw [am_ce_i (t := 0) ht (Or.inl rfl)])) (am_ty hK rfl) (am_in h0 hlt hmx) (am_ld hd he) (fun H1 locs1 hP1 _ hS1 => ?_)
    have hws := am_ws_set (ex := ex) (B := B) (tys := tys) (h := h) (h' := am_uai h r j v) (r := r) rfl r1 r2 rfl (fun q hq => am_ce_eq rfl (fun _ => rfl) (fun _ => rfl) (fun _ => rfl) (funext fun z => am_u2n _ _ _ _ hq) rfl rfl)
    rw [am_ce_i (t := 0) (h := am_uai h r j v) ht (Or.inl rfl)] at hws
    simp only [am_S4, am_u2s] at hws
    rw [am_up (f := am_ai h r) h0 hmx] at hws
    rw [hws] at hP1
    subst he
    exact kk H1 locs1 ⟨hP1, h16, hS1, hs1, by rw [show am_ai (am_uai h r j v) 1 = am_ai h 1 from funext fun z => am_u2n _ _ _ _ (by omega)]; exact hs2, hs3, hs4⟩
  case bastore =>
    simp only [am_ek, beq_iff_eq, Bool.and_eq_true, Bool.or_eq_true] at he
    obtain ⟨he, ha⟩ := he
    rcases ha with ⟨rfl, rfl⟩ | ⟨rfl, rfl⟩
    · obtain ⟨v, r0, rfl, ho1⟩ := am_pi_e ho
      obtain ⟨j, r0, rfl, ho2⟩ := am_pi_e ho1
      obtain ⟨r, rest, rfl, ho3⟩ := am_pr_e ho2
      cases ho3
      obtain ⟨⟨r1, r2, ht, h0, hlt, hmx⟩, hv⟩ := hp
      refine ⟨rfl, ?_⟩
      rw [List.map_cons, List.map_cons, List.map_cons, am_cv_hi r1]
      refine va_zast hx hb hK.1 hP am_ws_D hS (r - 16) 2 ((am_ws_get r1 r2).trans (by rw [am_ce_i (t := 2) ht (Or.inr (Or.inl rfl))])) (am_ty hK rfl) (am_in h0 hlt hmx) (am_ld hd he) (fun H1 locs1 hP1 _ hS1 => ?_)
      have hws := am_ws_set (ex := ex) (B := B) (tys := tys) (h := h) (h' := am_uai h r j v) (r := r) rfl r1 r2 rfl (fun q hq => am_ce_eq rfl (fun _ => rfl) (fun _ => rfl) (fun _ => rfl) (funext fun z => am_u2n _ _ _ _ hq) rfl rfl)
      rw [am_ce_i (t := 2) (h := am_uai h r j v) ht (Or.inr (Or.inl rfl))] at hws
      simp only [am_S4, am_u2s] at hws
      rw [am_up (f := am_ai h r) h0 hmx] at hws
      rw [(am_z1 hv).2.2, hws] at hP1
      subst he
      exact kk H1 locs1 ⟨hP1, h16, hS1, hs1, by rw [show am_ai (am_uai h r j v) 1 = am_ai h 1 from funext fun z => am_u2n _ _ _ _ (by omega)]; exact hs2, hs3, hs4⟩
    · obtain ⟨v, r0, rfl, ho1⟩ := am_pi_e ho
      obtain ⟨j, r0, rfl, ho2⟩ := am_pi_e ho1
      obtain ⟨r, rest, rfl, ho3⟩ := am_pr_e ho2
      cases ho3
      obtain ⟨⟨r1, r2, ht, h0, hlt, hmx⟩, hv⟩ := hp
      refine ⟨rfl, ?_⟩
      rw [List.map_cons, List.map_cons, List.map_cons, am_cv_hi r1]
      refine va_bast hx hb hK.1 hP am_ws_D hS (r - 16) 3 ((am_ws_get r1 r2).trans (by rw [am_ce_i (t := 3) ht (Or.inr (Or.inr rfl))])) (am_ty hK rfl) (am_in h0 hlt hmx) (am_ld hd he) (fun H1 locs1 hP1 _ hS1 => ?_)
      have hws := am_ws_set (ex := ex) (B := B) (tys := tys) (h := h) (h' := am_uai h r j v) (r := r) rfl r1 r2 rfl (fun q hq => am_ce_eq rfl (fun _ => rfl) (fun _ => rfl) (fun _ => rfl) (funext fun z => am_u2n _ _ _ _ hq) rfl rfl)
      rw [am_ce_i (t := 3) (h := am_uai h r j v) ht (Or.inr (Or.inr rfl))] at hws
      simp only [am_S4, am_u2s] at hws
      rw [am_up (f := am_ai h r) h0 hmx] at hws
      rw [vp_nar_byte, am_b2b hv.1 hv.2, hws] at hP1
      subst he
      exact kk H1 locs1 ⟨hP1, h16, hS1, hs1, by rw [show am_ai (am_uai h r j v) 1 = am_ai h 1 from funext fun z => am_u2n _ _ _ _ (by omega)]; exact hs2, hs3, hs4⟩
  case lastore =>
    simp only [am_ek, beq_iff_eq, Bool.and_eq_true, decide_eq_true_eq] at he
    obtain ⟨he, rfl⟩ := he
    obtain ⟨v, r0, rfl, ho1⟩ := am_pj_e ho
    obtain ⟨j, r0, rfl, ho2⟩ := am_pi_e ho1
    obtain ⟨r, rest, rfl, ho3⟩ := am_pr_e ho2
    cases ho3
    obtain ⟨r1, r2, ht, h0, hlt, hmx⟩ := hp
    refine ⟨rfl, ?_⟩
    rw [List.map_cons, List.map_cons, List.map_cons, am_cv_hi r1]
    refine va_last hx hb hK.1 hP am_ws_D hS (r - 16) 1 ((am_ws_get r1 r2).trans (by rw [am_ce_j ht])) (am_ty hK rfl) (am_in h0 hlt hmx) (am_ld hd he) (fun H1 locs1 hP1 _ hS1 => ?_)
    have hws := am_ws_set (ex := ex) (B := B) (tys := tys) (h := h) (h' := am_uaj h r j v) (r := r) rfl r1 r2 rfl (fun q hq => am_ce_eq rfl (fun _ => rfl) (fun _ => rfl) (fun _ => rfl) rfl (funext fun z => am_u2n _ _ _ _ hq) rfl)
    rw [am_ce_j (h := am_uaj h r j v) ht] at hws
    simp only [am_S5, am_u2s] at hws
    rw [am_upJ (f := am_aj h r) h0 hmx] at hws
    rw [hws] at hP1
    subst he
    exact kk H1 locs1 ⟨hP1, h16, hS1, hs1, hs2, hs3, hs4⟩
  case aastore =>
    simp only [am_ek, beq_iff_eq, Bool.and_eq_true, decide_eq_true_eq] at he
    obtain ⟨⟨he, rfl⟩, rfl⟩ := he
    obtain ⟨v, r0, rfl, ho1⟩ := am_pr_e ho
    obtain ⟨j, r0, rfl, ho2⟩ := am_pi_e ho1
    obtain ⟨r, rest, rfl, ho3⟩ := am_pr_e ho2
    cases ho3
    obtain ⟨⟨r1, r2, ht, h0, hlt, hmx⟩, v1, v2, v3⟩ := hp
    refine ⟨rfl, ?_⟩
    rw [List.map_cons, List.map_cons, List.map_cons, am_cv_hi r1, am_cv_hi v1]
    refine va_astq hx hb hK.1 hP am_ws_D hS (r - 16) 4 (v - 16) 8 ((am_ws_get r1 r2).trans (by rw [am_ce_q ht])) (am_ty hK rfl) ((am_ws_get v1 v2).trans (by rw [am_ce_o v3 (by omega)])) (am_cls_at (k := 8) (by omega)) (am_in h0 hlt hmx) (am_ld hd he) (fun H1 locs1 hP1 _ hS1 => ?_)
    have hws := am_ws_set (ex := ex) (B := B) (tys := tys) (h := h) (h' := am_uar h r j v) (r := r) rfl r1 r2 rfl (fun q hq => am_ce_eq rfl (fun _ => rfl) (fun _ => rfl) (fun _ => rfl) rfl rfl (funext fun z => am_u2n _ _ _ _ hq))
    rw [am_ce_q (h := am_uar h r j v) ht] at hws
    simp only [am_S6, am_u2s] at hws
    rw [am_upQ (f := am_ar h r) h0 hmx] at hws
    rw [← am_cr_hi (ex := ex) v1, hws] at hP1
    subst he
    exact kk H1 locs1 ⟨hP1, h16, hS1, hs1, hs2, hs3, hs4⟩
  case arraylength =>
    simp only [am_ek, beq_iff_eq, Bool.and_eq_true, Bool.or_eq_true] at he
    obtain ⟨he, ha⟩ := he
    obtain ⟨r, rest, rfl, ho1⟩ := am_pr_e ho
    cases ho1
    obtain ⟨hr, ht⟩ := hp
    refine ⟨rfl, ?_⟩
    have kq := kk _ _ hW
    rw [List.map_cons] at kq ⊢
    rw [show am_cv ex B (.inl ((am_c h r).2 : Int)) = .int (Int32.ofNat (am_c h r).2) from congrArg Value.int (am_nat _)] at kq
    rcases hr with rfl | ⟨r1, r2⟩
    · rw [am_cv_lo ⟨by omega, by omega⟩]
      refine va_slen (A := fun q => B ≤ q) (H0 := s.heap) hx hb hs2 hs3 (by omega) hS (am_ld hd he) ?_
      subst he
      exact kq
    · rw [am_cv_hi r1]
      rcases ha with (((rfl | rfl) | rfl) | rfl) | rfl
      · exact va_alen hx hb hK.1 hP (r - 16) 0 ((am_ws_get r1 r2).trans (by rw [am_ce_i (t := 0) ht (Or.inl rfl)])) (am_ty hK rfl) rfl (am_ld hd he) (by subst he; exact kq)
      · exact va_alen hx hb hK.1 hP (r - 16) 1 ((am_ws_get r1 r2).trans (by rw [am_ce_j ht])) (am_ty hK rfl) rfl (am_ld hd he) (by subst he; exact kq)
      · exact va_alen hx hb hK.1 hP (r - 16) 2 ((am_ws_get r1 r2).trans (by rw [am_ce_i (t := 2) ht (Or.inr (Or.inl rfl))])) (am_ty hK rfl) rfl (am_ld hd he) (by subst he; exact kq)
      · exact va_alen hx hb hK.1 hP (r - 16) 3 ((am_ws_get r1 r2).trans (by rw [am_ce_i (t := 3) ht (Or.inr (Or.inr rfl))])) (am_ty hK rfl) rfl (am_ld hd he) (by subst he; exact kq)
      · exact va_alen hx hb hK.1 hP (r - 16) 4 ((am_ws_get r1 r2).trans (by rw [am_ce_q ht])) (am_ty hK rfl) rfl (am_ld hd he) (by subst he; exact kq)
  case new n =>
    simp only [am_ek, beq_iff_eq, Bool.and_eq_true, decide_eq_true_eq] at he
    obtain ⟨he, hm⟩ := he
    cases ho
    obtain ⟨q1, q2⟩ := am_kN_ok _ hm
    dsimp only at q1 q2
    subst q2
    have w1 := hts _ (am_tb_in (am_iN _ (List.mem_map.mpr ⟨_, hm, rfl⟩)) rfl)
    have w2 := hts _ (am_tb_in (am_iY _ (List.mem_map.mpr ⟨a, List.mem_range.mpr q1, rfl⟩)) rfl)
    have w3 := hts _ (am_tb_in (am_iZ _ (List.mem_map.mpr ⟨a, am_ini a q1, rfl⟩)) rfl)
    have hr1 : am_n h + 1 - n0 ≤ R.cells := hR.1
    have hr2 : am_sl h + (am_fld a).length - s0 ≤ R.slots := hR.2
    refine ⟨rfl, va_new (D := D) (ci := a) (fs := am_ff ex B (am_nwo h a (am_fld a).length) a (am_n h)) (C := am_onm a) (T := am_ft a) (N := (am_fld a).length) hx hb hts (am_iL q1) (am_t0 a) (am_t0_ok a q1) hown w1 w2 w3 hK.1 hP am_ws_D hS hA (am_cls_at q1) (fun j hj => am_df q1 hj) (by omega) (by omega) (am_ld hd he) (fun q H1 hP1 hD1 hS1 => am_size (fun hsz => ?_))⟩
    have hq := am_addr hP1 hD1 (by omega)
    subst hq
    rw [am_ws_app (h' := am_nwo h a (am_fld a).length) h16 rfl (am_ce_o (if_pos rfl) q1) (fun q hq => am_ce_eq (if_neg hq) (fun _ => if_neg hq) (fun _ => if_neg hq) (fun _ => if_neg hq) rfl rfl rfl)] at hP1
    have hc1 : am_c (am_nwo h a (am_fld a).length) 1 = am_c h 1 := if_neg (by omega)
    have := kk H1 _ ⟨hP1, Nat.le_succ_of_le h16, hS1, by rw [hc1]; exact hs1, by rw [hc1]; exact hs2, hs3, hs4⟩
    rw [List.map_cons, am_cv_hi h16, he] at this
    rw [show am_n h - n0 + 1 = am_n (am_nwo h a (am_fld a).length) - n0 from (Nat.sub_add_comm hn0.2).symm, show am_sl h - s0 + (am_fld a).length = am_sl (am_nwo h a (am_fld a).length) - s0 from (Nat.sub_add_comm hs0).symm]
    exact this
  case newarray t =>
    obtain ⟨x, rest, rfl, ho1⟩ := am_pi_e ho
    cases ho1
    simp only [am_ek, beq_iff_eq, Bool.and_eq_true] at he
    obtain ⟨he, ha⟩ := he
    have hr1 : am_n h + 1 - n0 ≤ R.cells := hR.1
    have hr2 : am_sl h + x.toNat - s0 ≤ R.slots := hR.2
    have hc1 : am_c (am_nwa h a x.toNat) 1 = am_c h 1 := if_neg (by omega)
    have hcn : am_c (am_nwa h a x.toNat) (am_n h) = (a, x.toNat) := if_pos rfl
    have ha1 : am_ai (am_nwa h a x.toNat) 1 = am_ai h 1 := funext fun z => if_neg (by omega)
    have fin : ∀ (H1 : Heap), va_P D am_cls (am_ws ex B tys (am_nwa h a x.toNat)) H1 → va_S (fun q => B ≤ q) s.heap H1 locs → W p l e R s m args below meth c H1 locs (am_n h - n0 + 1) (am_sl h - s0 + x.toNat) Q (F0 m (pc + 2) lsR (.ref (B + (am_n h - 16)) :: rest.map (am_cv ex B))) := by
      intro H1 hP1 hS1
      have := kk H1 _ ⟨hP1, Nat.le_succ_of_le h16, hS1, by rw [hc1]; exact hs1, by rw [hc1, ha1]; exact hs2, hs3, hs4⟩
      rw [List.map_cons, am_cv_hi h16, he] at this
      rw [show am_n h - n0 + 1 = am_n (am_nwa h a x.toNat) - n0 from (Nat.sub_add_comm hn0.2).symm, show am_sl h - s0 + x.toNat = am_sl (am_nwa h a x.toNat) - s0 from (Nat.sub_add_comm hs0).symm]
      exact this
    have h5 : a = 1000 ∧ t = .int ∨ a = 1001 ∧ t = .long ∨ a = 1002 ∧ t = .boolean ∨ a = 1003 ∧ t = .byte := by cases t <;> simp_all
    rcases h5 with ⟨rfl, rfl⟩ | ⟨rfl, rfl⟩ | ⟨rfl, rfl⟩ | ⟨rfl, rfl⟩
    · have w1 := hts _ (am_tb_in (am_iB (Cond.arrayClass .int) (by decide)) rfl)
      refine ⟨rfl, va_newa (atype := .int) hx hb w1 rfl hK.1 hP am_ws_D hS hA (a0 := (x.toNat, .inl (fun j => Int32.ofInt (am_ai (am_nwa h 1000 x.toNat) (am_n h) j)))) (fun cA => ?_) (fun q => ?_) (am_cl32 hp.1 (by omega)) (show x.toNat * 4 ≤ 536870912 by omega) (by omega) (by omega) (am_ld hd he) (fun q cA H1 hK1 hP1 hD1 hS1 => am_size (fun hsz => ?_))⟩
      · rw [vp_cell_i]
        congr 1
        funext z
        exact (congrArg (fun w => Value.int (Int32.ofInt w)) (if_pos rfl)).trans rfl
      · exact absurd ((am_lt32 (x := x) (y := 0) ⟨by omega, by omega⟩ am_R0).mp q) (by omega)
      · have hq := am_addr hP1 hD1 (by omega)
        subst hq
        have hcA : am_ci tys 0 = cA := by
          have g1 : va_RA s (am_ci tys 0) .int := (hK.1.2 0 _ (am_ty hK rfl)).2
          have g2 : va_RA s cA .int := (hK1.2 tys.length (cA, .int) (by rw [List.getElem?_append_right (Nat.le_refl _), Nat.sub_self]; rfl)).2
          exact Option.some.inj (g1.symm.trans g2)
        subst hcA
        rw [am_ws_app (h' := am_nwa h 1000 x.toNat) h16 rfl (am_ce_i (t := 0) (by rw [hcn]) (Or.inl rfl) |>.trans (by rw [hcn])) (fun q hq => am_ce_eq (if_neg hq) (fun _ => rfl) (fun _ => rfl) (fun _ => rfl) (funext fun z => if_neg hq) (funext fun z => if_neg hq) (funext fun z => if_neg hq))] at hP1
        exact fin H1 hP1 hS1
    · have w1 := hts _ (am_tb_in (am_iB (Cond.arrayClass .long) (by decide)) rfl)
      refine ⟨rfl, va_newa (atype := .long) hx hb w1 rfl hK.1 hP am_ws_D hS hA (a0 := (x.toNat, .inr (.inl (fun j => Int64.ofInt (am_aj (am_nwa h 1001 x.toNat) (am_n h) j))))) (fun cA => ?_) (fun q => ?_) (am_cl32 hp.1 (by omega)) (show x.toNat * 8 ≤ 536870912 by omega) (by omega) (by omega) (am_ld hd he) (fun q cA H1 hK1 hP1 hD1 hS1 => am_size (fun hsz => ?_))⟩
      · rw [vp_cell_l]
        congr 1
        funext z
        exact (congrArg (fun w => Value.long (Int64.ofInt w)) (if_pos rfl)).trans rfl
      · exact absurd ((am_lt32 (x := x) (y := 0) ⟨by omega, by omega⟩ am_R0).mp q) (by omega)
      · have hq := am_addr hP1 hD1 (by omega)
        subst hq
        have hcA : am_ci tys 1 = cA := by
          have g1 : va_RA s (am_ci tys 1) .long := (hK.1.2 1 _ (am_ty hK rfl)).2
          have g2 : va_RA s cA .long := (hK1.2 tys.length (cA, .long) (by rw [List.getElem?_append_right (Nat.le_refl _), Nat.sub_self]; rfl)).2
          exact Option.some.inj (g1.symm.trans g2)
        subst hcA
        rw [am_ws_app (h' := am_nwa h 1001 x.toNat) h16 rfl (am_ce_j (by rw [hcn]) |>.trans (by rw [hcn])) (fun q hq => am_ce_eq (if_neg hq) (fun _ => rfl) (fun _ => rfl) (fun _ => rfl) (funext fun z => if_neg hq) (funext fun z => if_neg hq) (funext fun z => if_neg hq))] at hP1
        exact fin H1 hP1 hS1
    · have w1 := hts _ (am_tb_in (am_iB (Cond.arrayClass .boolean) (by decide)) rfl)
      refine ⟨rfl, va_newa (atype := .boolean) hx hb w1 rfl hK.1 hP am_ws_D hS hA (a0 := (x.toNat, .inl (fun j => Int32.ofInt (am_ai (am_nwa h 1002 x.toNat) (am_n h) j)))) (fun cA => ?_) (fun q => ?_) (am_cl32 hp.1 (by omega)) (show x.toNat * 1 ≤ 536870912 by omega) (by omega) (by omega) (am_ld hd he) (fun q cA H1 hK1 hP1 hD1 hS1 => am_size (fun hsz => ?_))⟩
      · rw [vp_cell_i]
        congr 1
        funext z
        exact (congrArg (fun w => Value.int (Int32.ofInt w)) (if_pos rfl)).trans rfl
      · exact absurd ((am_lt32 (x := x) (y := 0) ⟨by omega, by omega⟩ am_R0).mp q) (by omega)
      · have hq := am_addr hP1 hD1 (by omega)
        subst hq
        have hcA : am_ci tys 2 = cA := by
          have g1 : va_RA s (am_ci tys 2) .boolean := (hK.1.2 2 _ (am_ty hK rfl)).2
          have g2 : va_RA s cA .boolean := (hK1.2 tys.length (cA, .boolean) (by rw [List.getElem?_append_right (Nat.le_refl _), Nat.sub_self]; rfl)).2
          exact Option.some.inj (g1.symm.trans g2)
        subst hcA
        rw [am_ws_app (h' := am_nwa h 1002 x.toNat) h16 rfl (am_ce_i (t := 2) (by rw [hcn]) (Or.inr (Or.inl rfl)) |>.trans (by rw [hcn])) (fun q hq => am_ce_eq (if_neg hq) (fun _ => rfl) (fun _ => rfl) (fun _ => rfl) (funext fun z => if_neg hq) (funext fun z => if_neg hq) (funext fun z => if_neg hq))] at hP1
        exact fin H1 hP1 hS1
    · have w1 := hts _ (am_tb_in (am_iB (Cond.arrayClass .byte) (by decide)) rfl)
      refine ⟨rfl, va_newa (atype := .byte) hx hb w1 rfl hK.1 hP am_ws_D hS hA (a0 := (x.toNat, .inl (fun j => Int32.ofInt (am_ai (am_nwa h 1003 x.toNat) (am_n h) j)))) (fun cA => ?_) (fun q => ?_) (am_cl32 hp.1 (by omega)) (show x.toNat * 1 ≤ 536870912 by omega) (by omega) (by omega) (am_ld hd he) (fun q cA H1 hK1 hP1 hD1 hS1 => am_size (fun hsz => ?_))⟩
      · rw [vp_cell_i]
        congr 1
        funext z
        exact (congrArg (fun w => Value.int (Int32.ofInt w)) (if_pos rfl)).trans rfl
      · exact absurd ((am_lt32 (x := x) (y := 0) ⟨by omega, by omega⟩ am_R0).mp q) (by omega)
      · have hq := am_addr hP1 hD1 (by omega)
        subst hq
        have hcA : am_ci tys 3 = cA := by
          have g1 : va_RA s (am_ci tys 3) .byte := (hK.1.2 3 _ (am_ty hK rfl)).2
          have g2 : va_RA s cA .byte := (hK1.2 tys.length (cA, .byte) (by rw [List.getElem?_append_right (Nat.le_refl _), Nat.sub_self]; rfl)).2
          exact Option.some.inj (g1.symm.trans g2)
        subst hcA
        rw [am_ws_app (h' := am_nwa h 1003 x.toNat) h16 rfl (am_ce_i (t := 3) (by rw [hcn]) (Or.inr (Or.inr rfl)) |>.trans (by rw [hcn])) (fun q hq => am_ce_eq (if_neg hq) (fun _ => rfl) (fun _ => rfl) (fun _ => rfl) (funext fun z => if_neg hq) (funext fun z => if_neg hq) (funext fun z => if_neg hq))] at hP1
        exact fin H1 hP1 hS1
  case anewarray n =>
    simp only [am_ek, beq_iff_eq, Bool.and_eq_true, decide_eq_true_eq] at he
    obtain ⟨⟨he, rfl⟩, hm⟩ := he
    obtain ⟨x, rest, rfl, ho1⟩ := am_pi_e ho
    cases ho1
    have hr1 : am_n h + 1 - n0 ≤ R.cells := hR.1
    have hr2 : am_sl h + x.toNat - s0 ≤ R.slots := hR.2
    have hc1 : am_c (am_nwa h 1004 x.toNat) 1 = am_c h 1 := if_neg (by omega)
    have hcn : am_c (am_nwa h 1004 x.toNat) (am_n h) = (1004, x.toNat) := if_pos rfl
    have ha1 : am_ai (am_nwa h 1004 x.toNat) 1 = am_ai h 1 := funext fun z => if_neg (by omega)
    have w1 := hts _ (am_tb_in (am_iA _ (List.mem_map.mpr ⟨_, hm, rfl⟩)) rfl)
    refine ⟨rfl, va_newq hx hb hown w1 hK.2.2 hK.1 hP am_ws_D hS hA (fun q => ?_) (am_cl32 hp.1 (by omega)) (by omega) (by omega) (by omega) (am_ld hd he) (fun q cA H1 hK1 hP1 hD1 hS1 => am_size (fun hsz => ?_))⟩
    · exact absurd ((am_lt32 (x := x) (y := 0) ⟨by omega, by omega⟩ am_R0).mp q) (by omega)
    · have hq := am_addr hP1 hD1 (by omega)
      subst hq
      have hcA : am_ci tys 4 = cA := by
        obtain ⟨_, _, _, _, _, g1⟩ := (hK.1.2 4 _ (am_ty hK rfl)).2
        obtain ⟨_, _, _, _, _, g2⟩ := (hK1.2 tys.length (cA, .object "MappingText$Mapping") (by rw [List.getElem?_append_right (Nat.le_refl _), Nat.sub_self]; rfl)).2
        exact Option.some.inj (g1.symm.trans g2)
      subst hcA
      rw [am_ws_app (h' := am_nwa h 1004 x.toNat) h16 rfl ((am_ce_q (by rw [hcn])).trans (by rw [hcn]; exact congrArg (fun f => (Sum.inl (am_ci tys 4, x.toNat, Sum.inr (Sum.inr (Sum.inr (Sum.inr f)))) : va_E)) (funext fun z => (congrArg (am_cr ex B) (if_pos rfl)).trans rfl))) (fun q hq => am_ce_eq (if_neg hq) (fun _ => rfl) (fun _ => rfl) (fun _ => rfl) (funext fun z => if_neg hq) (funext fun z => if_neg hq) (funext fun z => if_neg hq))] at hP1
      have := kk H1 _ ⟨hP1, Nat.le_succ_of_le h16, hS1, by rw [hc1]; exact hs1, by rw [hc1, ha1]; exact hs2, hs3, hs4⟩
      rw [List.map_cons, am_cv_hi h16, he] at this
      rw [show am_n h - n0 + 1 = am_n (am_nwa h 1004 x.toNat) - n0 from (Nat.sub_add_comm hn0.2).symm, show am_sl h - s0 + x.toNat = am_sl (am_nwa h 1004 x.toNat) - s0 from (Nat.sub_add_comm hs0).symm]
      exact this
  all_goals cases ho
end AMC
