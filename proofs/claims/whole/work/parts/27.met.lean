-- every run of the small machine is a contract of the real one
theorem am_rt_inv {T : am_T} {pc : Nat} {ls : am_L} {st : List am_V} {h h' : am_H} {P : Prop} {r : Option am_V} (ho : am_rt T (pc, ls, st, h) = some (P, r, h')) : ∃ i nx a b c al, T pc = some (i, nx, a, b, c, al) ∧ ((i = .ireturn ∧ ∃ x, st = [.inl x] ∧ r = some (.inl x) ∧ (c = 0 ∨ c ≠ 0 ∧ (P → x = 0 ∨ x = 1))) ∨ (i = .lreturn ∧ ∃ x, st = [.inr (.inl x)] ∧ r = some (.inr (.inl x))) ∨ (i = .return_ ∧ st = [] ∧ r = none)) := by
  unfold am_rt at ho
  dsimp only at ho
  split at ho
  · next nx a b c al hT =>
    split at ho
    · next x =>
      split at ho
      · cases ho
        exact ⟨_, nx, a, b, _, al, hT, Or.inl ⟨rfl, x, rfl, rfl, Or.inl rfl⟩⟩
      · next hc =>
        cases ho
        exact ⟨_, nx, a, b, _, al, hT, Or.inl ⟨rfl, x, rfl, rfl, Or.inr ⟨fun q => hc q, id⟩⟩⟩
    · cases ho
  · next nx a b c al hT =>
    split at ho
    · next x =>
      cases ho
      exact ⟨_, nx, a, b, _, al, hT, Or.inr (Or.inl ⟨rfl, x, rfl, rfl⟩)⟩
    · cases ho
  · next nx a b c al hT =>
    split at ho
    · cases ho
      exact ⟨_, nx, a, b, _, al, hT, Or.inr (Or.inr ⟨rfl, rfl, rfl⟩)⟩
    · cases ho
  · cases ho
/-- what is owed of the texts: at every method of ours that is reached -/
def am_Txts (l : Launch) (S : State → Prop) (D : va_G) (tys : List (ClassId × FieldType)) (ex : Nat → Nat) (B : Nat) : Prop := ∀ (p : Program) (e : Env) (R : Room) (s : State) (m : MethodId) (args : Array Value) (below : List Frame) (meth : Method) (c : Code) (Q : State → Prop) (d md : Nat), am_E p s m args c md → am_Kx D tys s → S s → d ≤ R.frames → 34 * d ≤ R.locals → am_Txt p l e R s m args below meth c Q ex B d md
set_option maxHeartbeats 4000000 in
theorem am_Snd_step {l : Launch} {S : State → Prop} {D : va_G} {tys : List (ClassId × FieldType)} {ex : Nat → Nat} {B : Nat} (hSS : am_SS S B) (hTx : am_Txts l S D tys ex B) (d : Nat) (hI : ∀ d', d = d' + 1 → am_Snd l S D tys ex B d') : am_Snd l S D tys ex B d := by
  intro md as h r h' h16 hne ⟨nL, T, k, hP, hble, hrun⟩
  have hlt := am_prog_lt hP
  obtain ⟨g1, g2, g3⟩ := am_gd_ml hP
  have hlt2 : ∀ pc e, T pc = some e → pc < (am_mb md).size := fun pc e he => by
    rcases Nat.lt_or_ge pc (am_mb md).size with q | q
    · exact q
    · rw [am_tz hlt hP q] at he
      cases he
  obtain ⟨q1, q2, q3, q4, q5⟩ := am_mf md hlt hne (by omega)
  unfold am_Met
  refine Met.ofW (cc := am_mb md) (maxL := am_ml md) (ret := am_mr md) q5 rfl ?_
  intro p e s m args below meth c s₁ Bd hml hv
  obtain ⟨rfl, hK, hN, hW, hsz, hs⟩ := hv
  have hx := Bd.exec
  have hb := Bd.bytes
  have hr := Bd.returns
  have hlocks := Bd.notSynchronized
  have hts : ∀ w ∈ am_tb, w.before (as.map (am_cv ex B)).toArray s = true := fun w hw => atoms_spec (ws := am_wd md) Bd.pre w (List.mem_cons_of_mem _ hw)
  have hown : s.vm.findClass (am_onm (am_mo md)) = some m.cls := by
    rw [← q1]
    exact findClass_of_methodNamed Bd.named
  have hE : am_E p s m (as.map (am_cv ex B)).toArray c md := ⟨hx, hb, hml, hown, hts⟩
  have hl0 := lv_entry (as.map (am_cv ex B)) (n := am_ml md) (by rw [am_sl_en]; have := Nat.le_of_ble_eq_true hble; omega)
  rw [lg_entry_eq]
  generalize (lg_sl (as.map (am_cv ex B)) ++ List.replicate (am_ml md - (lg_sl (as.map (am_cv ex B))).length) Slot.unset).toArray = lsR at hl0 ⊢
  have hl : lv_has lsR nL (am_as ex B 0 (am_pd nL (am_en as))) := by
    rw [g1]
    exact ⟨hl0.1, hl0.2.1, fun q hq => hl0.2.2 q (am_as_en as 0 q (am_as_pd _ 0 _ q hq))⟩
  have hrn := am_run_snd (p := p) (l := l) (e := e) (R := am_rm d h h') (s := s) (m := m) (below := below) (meth := meth) (c := c) (Q := MQ below (am_Qcd D tys ex B r h') (as.map (am_cv ex B)).toArray s (am_n h' - am_n h) (am_sl h' - am_sl h) (fun q => B ≤ q)) (n0 := am_n h) (s0 := am_sl h) (h' := h') (r := r) hP hE hK hN hSS hs hI ⟨Nat.le_refl _, Nat.le_refl _⟩ (hTx p e (am_rm d h h') s m _ below meth c _ d md hE hK hs (Nat.le_refl _) (Nat.le_refl _)) (fun q => (name_of_methodNamed Bd.named Bd.method).1.trans q) h16 hsz ⟨Nat.le_refl _, Nat.le_refl _⟩ ?_ k 0 _ [] h s.heap [] lsR hrun hW hl (Nat.le_refl _) (Nat.le_refl _)
  · rw [Nat.sub_self, Nat.sub_self] at hrn
    exact hrn
  · intro pc ls st P H locs lsR e1 hp hWf
    obtain ⟨i, nx, a, b, kc, al, hT, hcase⟩ := am_rt_inv e1
    obtain ⟨hd, he⟩ := g3 pc _ hT (hlt2 pc _ hT)
    dsimp only at hd he
    obtain ⟨w1, w2, w3, w4, w5, w6, w7⟩ := hWf
    have hq : ∀ t : State, t.heap = H → ∀ o, o = Outcome.returned (r.map (am_cv ex B)) → am_Qcd D tys ex B r h' (as.map (am_cv ex B)).toArray s o t := fun t ht o ho => ⟨ho, by rw [ht]; exact w1, fun q hq => by rw [ht]; exact w3.2.1 q (by omega) (by omega), by rw [ht]; exact w3.1⟩
    rcases hcase with ⟨rfl, x, rfl, rfl, hc⟩ | ⟨rfl, x, rfl, rfl⟩ | ⟨rfl, rfl, rfl⟩
    · simp only [am_ek, beq_iff_eq, Bool.and_eq_true, Bool.or_eq_true, decide_eq_true_eq] at he
      obtain ⟨he, h2⟩ := he
      rcases h2 with ⟨h3, h4⟩ | ⟨h3, h4⟩
      · exact W.iret (v := Int32.ofInt x) hx hb (hr.trans h4) (fun t ht _ => hq t ht _ rfl) w3.2.2 (am_ld hd he)
      · rcases hc with hc | ⟨-, hc⟩
        · omega
        · exact W.zret (v := Int32.ofInt x) (ty := .boolean) hx hb (hr.trans h4) (am_z1 (hc hp)).1 (fun t ht _ => hq t ht _ rfl) w3.2.2 (am_ld hd he)
    · simp only [am_ek, beq_iff_eq, Bool.and_eq_true, decide_eq_true_eq] at he
      exact W.lret (v := Int64.ofInt x) hx hb (hr.trans he.2) (fun t ht _ => hq t ht _ rfl) w3.2.2 (am_ld hd he.1)
    · simp only [am_ek, beq_iff_eq, Bool.and_eq_true, decide_eq_true_eq] at he
      exact W.vret hx hb (hr.trans he.2) (fun t ht _ => hq t ht _ rfl) w3.2.2 (am_ld hd he.1)
set_option maxHeartbeats 4000000 in
theorem am_Snd_all {l : Launch} {S : State → Prop} {D : va_G} {tys : List (ClassId × FieldType)} {ex : Nat → Nat} {B : Nat} (hSS : am_SS S B) (hTx : am_Txts l S D tys ex B) : ∀ d, am_Snd l S D tys ex B d := by
  intro d
  induction d with
  | zero => exact am_Snd_step hSS hTx 0 (fun d' h => by omega)
  | succ d ih => exact am_Snd_step hSS hTx (d + 1) (fun d' h => by cases h; exact ih)
