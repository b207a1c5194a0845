-- the law's start out of a run of the small machine
def am_h0 (L : Nat) (xs : Nat → Int32) : am_H := (16, 0, (fun r => if r = 1 then (1000, L) else (0, 0)), (fun _ _ => 0), (fun _ _ => 0), (fun _ _ => 0), (fun r j => if r = 1 then (xs j.toNat).toInt else 0), (fun _ _ => 0), (fun _ _ => 0))
theorem am_Kx_start {s : State} {args : Array Value} (hts : ∀ w ∈ lw_tbl, w.before args s = true) : ∃ (D : va_G) (tys : List (ClassId × FieldType)), am_Kx D tys s := by
  have htb : ∀ w ∈ am_tb, w.before args s = true := fun w hw => hts w (List.mem_filter.mp hw).1
  have h1 : ∀ k : Nat, ∃ q : ClassId × (Nat → Nat), k < 11 → u_Kn s (am_onm k) (am_ft k) (am_fld k).length q.1 q.2 := by
    intro k
    by_cases hk : k < 11
    · obtain ⟨c, i, hq⟩ := u_known htb (am_iL hk) (htb _ (am_tb_in (am_iY _ (List.mem_map.mpr ⟨k, List.mem_range.mpr hk, rfl⟩)) rfl))
      exact ⟨(c, i), fun _ => hq⟩
    · exact ⟨(0, fun _ => 0), fun h => absurd h hk⟩
  obtain ⟨f, hf⟩ := Classical.axiomOfChoice h1
  have prim : ∀ ty : FieldType, (Cond.arrayClass ty).before args s = true → ∃ cA : ClassId, ArrOfT s cA ty ∧ s.vm.findClass ("[" ++ ty.toString) = some cA := by
    intro ty h
    obtain ⟨cA, kA, comp, g1, g2, g3⟩ := Cond.arrayClass_spec h
    exact ⟨cA, fun n z => ⟨fun k h => (by cases h), kA, g2, comp, g3⟩, g1⟩
  obtain ⟨c0, a0, b0⟩ := prim .int (hts _ (am_iB (Cond.arrayClass .int) (by decide)))
  obtain ⟨c1, a1, b1⟩ := prim .long (hts _ (am_iB (Cond.arrayClass .long) (by decide)))
  obtain ⟨c2, a2, b2⟩ := prim .boolean (hts _ (am_iB (Cond.arrayClass .boolean) (by decide)))
  obtain ⟨c3, a3, b3⟩ := prim .byte (hts _ (am_iB (Cond.arrayClass .byte) (by decide)))
  have hao : va_AO "MappingText$Mapping" s := va_AO.of (hts _ (am_iO _ (List.mem_singleton.mpr rfl)))
  obtain ⟨comp, c4, k4, g1, g2, g3, g4, g5⟩ := Cond.arrayOver_spec hao
  refine ⟨(fun k => (f k).1, fun k => (f k).2), [(c0, .int), (c1, .long), (c2, .boolean), (c3, .byte), (c4, .object "MappingText$Mapping")], ⟨fun k q hq => ?_, fun k q hq => ?_⟩, rfl, hao⟩
  · have hk : k < 11 := by
      have := (List.getElem?_eq_some_iff.mp hq).1
      simpa [am_cls] using this
    rw [am_cls_at hk] at hq
    cases hq
    exact hf k hk
  · match k, hq with
    | 0, hq => cases hq; exact ⟨a0, b0⟩
    | 1, hq => cases hq; exact ⟨a1, b1⟩
    | 2, hq => cases hq; exact ⟨a2, b2⟩
    | 3, hq => cases hq; exact ⟨a3, b3⟩
    | 4, hq => cases hq; exact ⟨fun n z => ⟨fun k h => (by cases h), k4, g3, comp, g4⟩, k4, comp, g3, g4, g1, g5⟩
    | k + 5, hq => simp at hq
theorem am_Nx_start {s : State} {args : Array Value} (hts : ∀ w ∈ lw_tbl, w.before args s = true) : am_Nx s := by
  intro w hw
  unfold am_nst at hw
  rcases List.mem_append.mp hw with hw | hw
  · have h1 := am_i0c w hw
    obtain ⟨q, -, rfl⟩ := List.mem_map.mp hw
    exact va_Nw.of rfl (hts _ h1)
  · rcases List.mem_append.mp hw with hw | hw
    · have h1 := am_i1e w hw
      obtain ⟨q, -, rfl⟩ := List.mem_map.mp hw
      exact va_Nw.of rfl (hts _ h1)
    · have h1 := am_iVe w hw
      rw [List.mem_singleton] at hw
      subst hw
      exact va_Nw.of rfl (hts _ h1)
set_option maxHeartbeats 4000000 in
/-- the law from its entry, out of a run of the small machine that ends with 1 in its room -/
theorem am_whole {p : Program} {e : Env} {s : State} {m : MethodId} {below : List Frame} {meth : Method} {c : Code} (l : Launch) {b L : Nat} {xs : Nat → Int32} {ex : Nat → Nat} {S : State → Prop} {D : va_G} {tys : List (ClassId × FieldType)} (hex : ex 1 = b) (C0 : lw_At p s m meth c b L xs) (hK : am_Kx D tys s) (hSS : am_SS S s.heap.size) (hs : S s) (hTx : am_Txts l S D tys ex s.heap.size)
    (hrun : am_W (am_ev am_prog 11) T_Law_law (fun r h' => r = some (.inl 1) ∧ am_n h' ≤ 600016 ∧ am_sl h' ≤ 7302250) (0, am_pd 4 (am_en [.inr (.inr 1)]), [], am_h0 L xs)) : W p l e room_1 s m #[Value.ref b] below meth c s.heap [] 0 0 (lw_Z below #[Value.ref b] s) (entryFrame m ([Value.ref b] : List Value).toArray 4) := by
  obtain ⟨hx, hb, hr, hml, hown, hts, hX, hbl, hlocks, hgv⟩ := id C0
  obtain ⟨k, r, h', hrn, rfl, hn1, hn2⟩ := hrun
  have htb : ∀ w ∈ am_tb, w.before #[Value.ref b] s = true := fun w hw => hts w (List.mem_filter.mp hw).1
  have hE : am_E p s m #[Value.ref b] c am_LAW := ⟨hx, hb, hml, hown, htb⟩
  have hN : am_Nx s := am_Nx_start hts
  have hP : am_prog am_LAW = some (4, T_Law_law) := rfl
  have hcv : ([Value.ref b] : List Value) = ([.inr (.inr 1)] : List am_V).map (am_cv ex s.heap.size) := by
    rw [List.map_cons, am_cv_lo ⟨by omega, by omega⟩, hex]
    rfl
  have hl0 := lv_entry (([.inr (.inr 1)] : List am_V).map (am_cv ex s.heap.size)) (n := 4) (by rw [am_sl_en]; decide)
  rw [lg_entry_eq, hcv]
  generalize (lg_sl (([.inr (.inr 1)] : List am_V).map (am_cv ex s.heap.size)) ++ List.replicate (4 - (lg_sl (([.inr (.inr 1)] : List am_V).map (am_cv ex s.heap.size))).length) Slot.unset).toArray = lsR at hl0 ⊢
  have hl : lv_has lsR 4 (am_as ex s.heap.size 0 (am_pd 4 (am_en [.inr (.inr 1)]))) := ⟨hl0.1, hl0.2.1, fun q hq => hl0.2.2 q (am_as_en _ 0 q (am_as_pd _ 0 _ q hq))⟩
  have hW : am_Wd D tys ex s.heap.size s (am_h0 L xs) s.heap [] := by
    refine ⟨fun k q hk => ?_, Nat.le_refl 16, va_S.rf, rfl, ?_, by rw [hex]; exact hbl, by rw [hex]; exact hbl⟩
    · have hz : (am_ws ex s.heap.size tys (am_h0 L xs))[k]? = none := by
        rw [am_ws_at, if_neg (by show ¬ k < 16 - 16; omega)]
      rw [hz] at hk
      cases hk
    · rw [hex]
      have : (fun j : Nat => Int32.ofInt (am_ai (am_h0 L xs) 1 j)) = xs := by
        funext j
        show Int32.ofInt ((xs ((j : Int)).toNat).toInt) = xs j
        rw [Int.toNat_natCast, Int32.ofInt_toInt]
      rw [this]
      exact hX
  have hfin := am_run_snd (p := p) (l := l) (e := e) (R := room_1) (s := s) (m := m) (below := below) (meth := meth) (c := c) (Q := lw_Z below #[Value.ref b] s) (n0 := 16) (s0 := 0) (h' := h') (r := some (.inl 1)) hP hE hK hN hSS hs (fun d' _ => am_Snd_all hSS hTx d') ⟨by decide, by decide⟩ (hTx p e room_1 s m _ below meth c _ 11 am_LAW hE hK hs (by decide) (by decide)) (fun q => absurd q (by decide)) (Nat.le_refl 16) (by omega) ⟨by show am_n h' - 16 ≤ 600000; omega, by show am_sl h' - 0 ≤ 7302250; omega⟩ ?_ k 0 _ [] (am_h0 L xs) s.heap [] lsR hrn hW hl (Nat.le_refl 16) (Nat.zero_le _)
  · rw [← hcv]
    exact hfin
  · intro pc ls st P H locs lsR e1 hp hWf
    obtain ⟨i, nx, a, b2, kc, al, hT, hcase⟩ := am_rt_inv e1
    obtain ⟨g1, g2, g3⟩ := am_gd_ml hP
    have hpc : pc < (am_mb am_LAW).size := by
      rcases Nat.lt_or_ge pc (am_mb am_LAW).size with q | q
      · exact q
      · rw [am_tz (by decide) hP q] at hT
        cases hT
    obtain ⟨hd, he⟩ := g3 pc _ hT hpc
    dsimp only at hd he
    obtain ⟨w1, w2, w3, -⟩ := hWf
    rcases hcase with ⟨rfl, x, rfl, hr1, hc⟩ | ⟨rfl, x, rfl, hr1⟩ | ⟨rfl, rfl, hr1⟩
    · cases hr1
      simp only [am_ek, beq_iff_eq, Bool.and_eq_true] at he
      refine va_forget (fun q hq => w3.2.2 q hq) ?_
      refine W.widen (k := 600000) (n := 7302250) (by omega) (by omega) ?_
      exact lw_ret hx hb hr hlocks (am_ld hd he.1)
    · cases hr1
    · cases hr1
