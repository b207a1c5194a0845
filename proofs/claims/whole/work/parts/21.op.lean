-- the steps that ask nothing, on the real machine
theorem am_pi_e {β : Type} {s : List am_V} {k : Int → List am_V → Option β} {f : β} (h : am_pi s k = some f) : ∃ x r, s = .inl x :: r ∧ k x r = some f := by
  unfold am_pi at h
  split at h
  · exact ⟨_, _, rfl, h⟩
  · cases h
theorem am_pj_e {β : Type} {s : List am_V} {k : Int → List am_V → Option β} {f : β} (h : am_pj s k = some f) : ∃ x r, s = .inr (.inl x) :: r ∧ k x r = some f := by
  unfold am_pj at h
  split at h
  · exact ⟨_, _, rfl, h⟩
  · cases h
theorem am_pr_e {β : Type} {s : List am_V} {k : Nat → List am_V → Option β} {f : β} (h : am_pr s k = some f) : ∃ x r, s = .inr (.inr x) :: r ∧ k x r = some f := by
  unfold am_pr at h
  split at h
  · exact ⟨_, _, rfl, h⟩
  · cases h
theorem am_p1_e {β : Type} {s : List am_V} {k : am_V → List am_V → Option β} {f : β} (h : am_p1 s k = some f) : ∃ v r, s = v :: r ∧ (∀ x, v ≠ .inr (.inl x)) ∧ k v r = some f := by
  unfold am_p1 at h
  split at h
  · exact ⟨_, _, rfl, (fun x q => by cases q), h⟩
  · exact ⟨_, _, rfl, (fun x q => by cases q), h⟩
  · cases h
theorem am_li_e {nx k : Nat} {ls : am_L} {s : List am_V} {h : am_H} {f : am_F} (q : am_li nx ls s h k = some f) : ∃ x, am_lk ls k = some (.inl x) ∧ f = (nx, ls, .inl x :: s, h) := by
  unfold am_li at q
  split at q
  · next x e => exact ⟨x, e, (Option.some.inj q).symm⟩
  · cases q
theorem am_lj_e {nx k : Nat} {ls : am_L} {s : List am_V} {h : am_H} {f : am_F} (q : am_lj nx ls s h k = some f) : ∃ x, am_lk ls k = some (.inr (.inl x)) ∧ f = (nx, ls, .inr (.inl x) :: s, h) := by
  unfold am_lj at q
  split at q
  · next x e => exact ⟨x, e, (Option.some.inj q).symm⟩
  · cases q
theorem am_lr_e {nx k : Nat} {ls : am_L} {s : List am_V} {h : am_H} {f : am_F} (q : am_lr nx ls s h k = some f) : ∃ x, am_lk ls k = some (.inr (.inr x)) ∧ f = (nx, ls, .inr (.inr x) :: s, h) := by
  unfold am_lr at q
  split at q
  · next x e => exact ⟨x, e, (Option.some.inj q).symm⟩
  · cases q
theorem am_bi_e {nx : Nat} {ls : am_L} {s : List am_V} {h : am_H} {g : Int → Int → Int} {f : am_F} (q : am_bi nx ls s h g = some f) : ∃ x y r, s = .inl y :: .inl x :: r ∧ f = (nx, ls, .inl (g x y) :: r, h) := by
  obtain ⟨y, r1, rfl, q1⟩ := am_pi_e q
  obtain ⟨x, r, rfl, q2⟩ := am_pi_e q1
  exact ⟨x, y, r, rfl, (Option.some.inj q2).symm⟩
theorem am_bj_e {nx : Nat} {ls : am_L} {s : List am_V} {h : am_H} {g : Int → Int → Int} {f : am_F} (q : am_bj nx ls s h g = some f) : ∃ x y r, s = .inr (.inl y) :: .inr (.inl x) :: r ∧ f = (nx, ls, .inr (.inl (g x y)) :: r, h) := by
  obtain ⟨y, r1, rfl, q1⟩ := am_pj_e q
  obtain ⟨x, r, rfl, q2⟩ := am_pj_e q1
  exact ⟨x, y, r, rfl, (Option.some.inj q2).symm⟩
theorem am_sj_e {nx : Nat} {ls : am_L} {s : List am_V} {h : am_H} {g : Int → Int → Int} {f : am_F} (q : am_sj nx ls s h g = some f) : ∃ x y r, s = .inl y :: .inr (.inl x) :: r ∧ f = (nx, ls, .inr (.inl (g x y)) :: r, h) := by
  obtain ⟨y, r1, rfl, q1⟩ := am_pi_e q
  obtain ⟨x, r, rfl, q2⟩ := am_pj_e q1
  exact ⟨x, y, r, rfl, (Option.some.inj q2).symm⟩
theorem am_b8 {n : Int} (h1 : -128 ≤ n) (h2 : n < 128) : (Int8.ofInt n).toInt32 = Int32.ofInt n := by
  apply Int32.toInt_inj.mp
  rw [Int8.toInt_toInt32, Int8.toInt_ofInt_of_le (by omega) (by omega), am_t ⟨by omega, by omega⟩]
theorem am_b16 {n : Int} (h1 : -32768 ≤ n) (h2 : n < 32768) : (Int16.ofInt n).toInt32 = Int32.ofInt n := by
  apply Int32.toInt_inj.mp
  rw [Int16.toInt_toInt32, Int16.toInt_ofInt_of_le (by omega) (by omega), am_t ⟨by omega, by omega⟩]
theorem am_ld {pc nx n : Nat} {bs : ByteArray} {i : Instr} (hd : decode bs pc = .ok (i, nx - pc)) (hn : nx = pc + n) : decode bs pc = .ok (i, n) := by
  rw [hd, hn, Nat.add_sub_cancel_left]
/-- the machine at a method of ours -/
def am_E (p : Program) (s : State) (m : MethodId) (args : Array Value) (c : Code) (md : Nat) : Prop := p.tables.exec = Jvm.exec ∧ c.code = am_mb md ∧ c.maxLocals = am_ml md ∧ s.vm.findClass (am_onm (am_mo md)) = some m.cls ∧ ∀ w ∈ am_tb, w.before args s = true
theorem am_cv_lo {ex : Nat → Nat} {B a : Nat} (h : 0 < a ∧ a < 16) : am_cv ex B (.inr (.inr a)) = .ref (ex a) := by
  show va_rf (am_cr ex B a) = _
  unfold am_cr am_ad
  rw [if_neg (by omega), if_pos h.2]
  rfl
theorem am_kS_lo {o k a : Nat} (h : (o, k, a) ∈ am_kS) : 0 < a ∧ a < 16 := by
  have : ∀ q ∈ am_kS, 0 < q.2.2 ∧ q.2.2 < 16 := by decide
  exact this _ h
section AMO
variable {p : Program} {l : Launch} {e : Env} {R : Room} {s : State} {m : MethodId} {args : Array Value} {below : List Frame} {meth : Method} {c : Code} {H : Heap} {locs : List Loc} {cells slots : Nat} {Q : State → Prop} {lsR : Array Slot} {ex : Nat → Nat} {B : Nat}
set_option maxHeartbeats 4000000 in
theorem am_op_snd {md nL pc nx a b : Nat} {ini : Bool} {ret : Option FieldType} {i : Instr} {k : Int} {al : List (Nat × Nat)} {ls ls' : am_L} {st st' : List am_V} {h h' : am_H} {pc' : Nat} (hE : am_E p s m args c md) (hd : decode (am_mb md) pc = .ok (i, nx - pc)) (he : am_ek (am_mo md) nL ini ret pc i nx a b k al = true) (ho : am_op i nx a b k ls st h = some (pc', ls', st', h')) (hl : lv_has lsR nL (am_as ex B 0 ls))
    (hstr : ∀ (k a : Nat) (rest : List Value), (am_mo md, k, a) ∈ am_kS → decode (am_mb md) pc = .ok (.ldc k, 2) → W p l e R s m args below meth c H locs cells slots Q (F0 m (pc + 2) lsR (.ref (ex a) :: rest)) → W p l e R s m args below meth c H locs cells slots Q (F0 m pc lsR rest))
    (kk : ∀ lsR', lv_has lsR' nL (am_as ex B 0 ls') → W p l e R s m args below meth c H locs cells slots Q (F0 m pc' lsR' (st'.map (am_cv ex B)))) : h' = h ∧ W p l e R s m args below meth c H locs cells slots Q (F0 m pc lsR (st.map (am_cv ex B))) := by
  obtain ⟨hx, hb, hml, hown, hts⟩ := hE
  cases i
  case iconst n =>
    simp only [am_ek, beq_iff_eq] at he
    cases ho
    exact ⟨rfl, lv_iconst hx hb (am_ld hd he) rfl (by subst he; exact kk _ hl)⟩
  case bipush n =>
    simp only [am_ek, beq_iff_eq, Bool.and_eq_true, decide_eq_true_eq] at he
    obtain ⟨⟨he, h1⟩, h2⟩ := he
    cases ho
    exact ⟨rfl, lv_bipush hx hb (am_ld hd he) (am_b8 h1 h2) (by subst he; exact kk _ hl)⟩
  case sipush n =>
    simp only [am_ek, beq_iff_eq, Bool.and_eq_true, decide_eq_true_eq] at he
    obtain ⟨⟨he, h1⟩, h2⟩ := he
    cases ho
    exact ⟨rfl, lv_sipush hx hb (am_ld hd he) (am_b16 h1 h2) (by subst he; exact kk _ hl)⟩
  case lconst n =>
    simp only [am_ek, beq_iff_eq] at he
    cases ho
    exact ⟨rfl, lv_lconst (v := Int64.ofInt ((n.val : Nat) : Int)) hx hb (am_ld hd he) Int64.ofInt_eq_ofNat.symm (by subst he; exact kk _ hl)⟩
  case ldc n =>
    simp only [am_ek, beq_iff_eq, Bool.and_eq_true] at he
    obtain ⟨he, h1⟩ := he
    match b, h1, ho with
    | 0, h1, ho =>
      cases ho
      have hm := am_iI _ (List.mem_map.mpr ⟨_, of_decide_eq_true h1, rfl⟩)
      exact ⟨rfl, lv_ldc hx hb hown (hts _ (am_tb_in hm rfl)) (am_ld hd he) (by subst he; exact kk _ hl)⟩
    | b + 1, h1, ho =>
      have h2 := of_decide_eq_true h1
      simp only [am_op, Option.some.injEq, Prod.mk.injEq] at ho
      obtain ⟨rfl, rfl, rfl, rfl⟩ := ho
      have ha : am_cv ex B (.inr (.inr a)) = .ref (ex a) := am_cv_lo (am_kS_lo h2)
      refine ⟨rfl, hstr n a _ h2 (am_ld hd he) ?_⟩
      have := kk _ hl
      rw [List.map_cons, ha, he] at this
      exact this
  case ldc2_w n =>
    simp only [am_ek, beq_iff_eq, Bool.and_eq_true] at he
    obtain ⟨he, h1⟩ := he
    cases ho
    have hm := am_iJ _ (List.mem_map.mpr ⟨_, of_decide_eq_true h1, rfl⟩)
    exact ⟨rfl, lv_ldc2 hx hb hown (hts _ (am_tb_in hm rfl)) (am_ld hd he) (by subst he; exact kk _ hl)⟩
  case iload k =>
    simp only [am_ek, beq_iff_eq] at he
    obtain ⟨x, e1, e2⟩ := am_li_e ho
    cases e2
    exact ⟨rfl, lv_iload hx hb (am_ld hd he) (am_hasL hl e1) (by subst he; exact kk _ hl)⟩
  case iload_n k =>
    simp only [am_ek, beq_iff_eq] at he
    obtain ⟨x, e1, e2⟩ := am_li_e ho
    cases e2
    exact ⟨rfl, lv_iload_n hx hb (am_ld hd he) rfl (am_hasL hl e1) (by subst he; exact kk _ hl)⟩
  case lload k =>
    simp only [am_ek, beq_iff_eq] at he
    obtain ⟨x, e1, e2⟩ := am_lj_e ho
    cases e2
    exact ⟨rfl, lv_lload hx hb (am_ld hd he) (am_hasL hl e1) (by subst he; exact kk _ hl)⟩
  case lload_n k =>
    simp only [am_ek, beq_iff_eq] at he
    obtain ⟨x, e1, e2⟩ := am_lj_e ho
    cases e2
    exact ⟨rfl, lv_lload_n hx hb (am_ld hd he) rfl (am_hasL hl e1) (by subst he; exact kk _ hl)⟩
  case aload k =>
    simp only [am_ek, beq_iff_eq] at he
    obtain ⟨x, e1, e2⟩ := am_lr_e ho
    cases e2
    have e3 := am_hasL hl e1
    refine ⟨rfl, ?_⟩
    have kq := kk _ hl
    subst he
    simp only [List.map_cons, am_cv] at kq e3 ⊢
    cases hq : am_cr ex B x with
    | none =>
      rw [hq] at kq e3
      exact lv_aloadN hx hb (am_ld hd rfl) e3 kq
    | some y =>
      rw [hq] at kq e3
      exact lv_aload hx hb (am_ld hd rfl) e3 kq
  case aload_n k =>
    simp only [am_ek, beq_iff_eq] at he
    obtain ⟨x, e1, e2⟩ := am_lr_e ho
    cases e2
    have e3 := am_hasL hl e1
    refine ⟨rfl, ?_⟩
    have kq := kk _ hl
    subst he
    simp only [List.map_cons, am_cv] at kq e3 ⊢
    cases hq : am_cr ex B x with
    | none =>
      rw [hq] at kq e3
      exact lv_aload_nN hx hb (am_ld hd rfl) rfl e3 kq
    | some y =>
      rw [hq] at kq e3
      exact lv_aload_n hx hb (am_ld hd rfl) rfl e3 kq
  case istore k =>
    simp only [am_ek, beq_iff_eq, Bool.and_eq_true, decide_eq_true_eq] at he
    obtain ⟨he, hk⟩ := he
    obtain ⟨x, r, rfl, ho1⟩ := am_pi_e ho
    cases ho1
    exact ⟨rfl, lv_istore hx hb (am_ld hd he) hl hk rfl (fun ls' hl' => by subst he; exact kk _ (am_has1 (v := .inl x) hl'))⟩
  case istore_n k =>
    simp only [am_ek, beq_iff_eq, Bool.and_eq_true, decide_eq_true_eq] at he
    obtain ⟨he, hk⟩ := he
    obtain ⟨x, r, rfl, ho1⟩ := am_pi_e ho
    cases ho1
    exact ⟨rfl, lv_istore_n hx hb (am_ld hd he) rfl hl hk rfl (fun ls' hl' => by subst he; exact kk _ (am_has1 (v := .inl x) hl'))⟩
  case lstore k =>
    simp only [am_ek, beq_iff_eq, Bool.and_eq_true, decide_eq_true_eq] at he
    obtain ⟨he, hk⟩ := he
    obtain ⟨x, r, rfl, ho1⟩ := am_pj_e ho
    cases ho1
    exact ⟨rfl, lv_lstore hx hb (am_ld hd he) hl hk rfl (fun ls' hl' => by subst he; exact kk _ (am_has2 (v := .inr (.inl x)) hl'))⟩
  case lstore_n k =>
    simp only [am_ek, beq_iff_eq, Bool.and_eq_true, decide_eq_true_eq] at he
    obtain ⟨he, hk⟩ := he
    obtain ⟨x, r, rfl, ho1⟩ := am_pj_e ho
    cases ho1
    exact ⟨rfl, lv_lstore_n hx hb (am_ld hd he) rfl hl hk rfl (fun ls' hl' => by subst he; exact kk _ (am_has2 (v := .inr (.inl x)) hl'))⟩
  case astore k =>
    simp only [am_ek, beq_iff_eq, Bool.and_eq_true, decide_eq_true_eq] at he
    obtain ⟨he, hk⟩ := he
    obtain ⟨x, r, rfl, ho1⟩ := am_pr_e ho
    cases ho1
    refine ⟨rfl, ?_⟩
    subst he
    simp only [List.map_cons, am_cv]
    cases hq : am_cr ex B x with
    | none => exact lv_astoreN hx hb (am_ld hd rfl) hl hk rfl (fun ls' hl' => kk _ (am_has1 (v := .inr (.inr x)) (by simp only [am_cv, hq]; exact hl')))
    | some y => exact lv_astore hx hb (am_ld hd rfl) hl hk rfl (fun ls' hl' => kk _ (am_has1 (v := .inr (.inr x)) (by simp only [am_cv, hq]; exact hl')))
  case astore_n k =>
    simp only [am_ek, beq_iff_eq, Bool.and_eq_true, decide_eq_true_eq] at he
    obtain ⟨he, hk⟩ := he
    obtain ⟨x, r, rfl, ho1⟩ := am_pr_e ho
    cases ho1
    refine ⟨rfl, ?_⟩
    subst he
    simp only [List.map_cons, am_cv]
    cases hq : am_cr ex B x with
    | none => exact lv_astore_nN hx hb (am_ld hd rfl) rfl hl hk rfl (fun ls' hl' => kk _ (am_has1 (v := .inr (.inr x)) (by simp only [am_cv, hq]; exact hl')))
    | some y => exact lv_astore_n hx hb (am_ld hd rfl) rfl hl hk rfl (fun ls' hl' => kk _ (am_has1 (v := .inr (.inr x)) (by simp only [am_cv, hq]; exact hl')))
  case iinc k n =>
    simp only [am_ek, beq_iff_eq, Bool.and_eq_true, decide_eq_true_eq] at he
    obtain ⟨he, hk⟩ := he
    have ho' : am_inc nx ls st h k n = some (pc', ls', st', h') := ho
    unfold am_inc at ho'
    split at ho'
    · next x e1 =>
      cases ho'
      have h0 := am_as_in (ex := ex) (B := B) (i := 0) e1
      rw [Nat.zero_add] at h0
      obtain ⟨q, hq⟩ := List.getElem?_of_mem h0
      exact ⟨rfl, lv_iinc hx hb (am_ld hd he) hl hq (v := Int32.ofInt (x + n)) (by rw [Int32.ofInt_add]) hk rfl (fun ls' hl' => by subst he; exact kk _ (am_has1 (v := .inl (x + n)) hl'))⟩
    · cases ho'
  case iadd =>
    simp only [am_ek, beq_iff_eq] at he
    obtain ⟨x, y, r, rfl, e2⟩ := am_bi_e (g := fun x y => x + y) ho
    cases e2
    refine ⟨rfl, lv_iadd hx hb (am_ld hd he) ?_⟩
    have kq := kk _ hl
    subst he
    simp only [List.map_cons, am_cv, Int32.ofInt_add] at kq
    exact kq
  case isub =>
    simp only [am_ek, beq_iff_eq] at he
    obtain ⟨x, y, r, rfl, e2⟩ := am_bi_e (g := fun x y => x - y) ho
    cases e2
    refine ⟨rfl, lv_isub hx hb (am_ld hd he) ?_⟩
    have kq := kk _ hl
    subst he
    simp only [List.map_cons, am_cv, Int32.ofInt_sub] at kq
    exact kq
  case imul =>
    simp only [am_ek, beq_iff_eq] at he
    obtain ⟨x, y, r, rfl, e2⟩ := am_bi_e (g := fun x y => x * y) ho
    cases e2
    refine ⟨rfl, lv_imul hx hb (am_ld hd he) ?_⟩
    have kq := kk _ hl
    subst he
    simp only [List.map_cons, am_cv, Int32.ofInt_mul] at kq
    exact kq
  case iand =>
    simp only [am_ek, beq_iff_eq] at he
    obtain ⟨x, y, r, rfl, e2⟩ := am_bi_e ho
    cases e2
    refine ⟨rfl, lv_iand hx hb (am_ld hd he) ?_⟩
    have kq := kk _ hl
    subst he
    simp only [List.map_cons, am_cv, am_and, Int32.ofInt_toInt] at kq
    exact kq
  case ior =>
    simp only [am_ek, beq_iff_eq] at he
    obtain ⟨x, y, r, rfl, e2⟩ := am_bi_e ho
    cases e2
    refine ⟨rfl, lv_ior hx hb (am_ld hd he) ?_⟩
    have kq := kk _ hl
    subst he
    simp only [List.map_cons, am_cv, am_or, Int32.ofInt_toInt] at kq
    exact kq
  case ishl =>
    simp only [am_ek, beq_iff_eq] at he
    obtain ⟨x, y, r, rfl, e2⟩ := am_bi_e ho
    cases e2
    refine ⟨rfl, lv_ishl hx hb (am_ld hd he) ?_⟩
    have kq := kk _ hl
    subst he
    simp only [List.map_cons, am_cv, am_shl, Int32.ofInt_toInt] at kq
    exact kq
  case ishr =>
    simp only [am_ek, beq_iff_eq] at he
    obtain ⟨x, y, r, rfl, e2⟩ := am_bi_e ho
    cases e2
    refine ⟨rfl, lv_ishr hx hb (am_ld hd he) ?_⟩
    have kq := kk _ hl
    subst he
    simp only [List.map_cons, am_cv, am_shr, Int32.ofInt_toInt] at kq
    exact kq
  case land =>
    simp only [am_ek, beq_iff_eq] at he
    obtain ⟨x, y, r, rfl, e2⟩ := am_bj_e ho
    cases e2
    refine ⟨rfl, lv_land hx hb (am_ld hd he) ?_⟩
    have kq := kk _ hl
    subst he
    simp only [List.map_cons, am_cv, am_andJ, Int64.ofInt_toInt] at kq
    exact kq
  case lor =>
    simp only [am_ek, beq_iff_eq] at he
    obtain ⟨x, y, r, rfl, e2⟩ := am_bj_e ho
    cases e2
    refine ⟨rfl, lv_lor hx hb (am_ld hd he) ?_⟩
    have kq := kk _ hl
    subst he
    simp only [List.map_cons, am_cv, am_orJ, Int64.ofInt_toInt] at kq
    exact kq
  case lshl =>
    simp only [am_ek, beq_iff_eq] at he
    obtain ⟨x, y, r, rfl, e2⟩ := am_sj_e ho
    cases e2
    refine ⟨rfl, lv_lshl hx hb (am_ld hd he) rfl ?_⟩
    have kq := kk _ hl
    subst he
    simp only [List.map_cons, am_cv, am_shlJ, Int64.ofInt_toInt] at kq
    exact kq
  case lshr =>
    simp only [am_ek, beq_iff_eq] at he
    obtain ⟨x, y, r, rfl, e2⟩ := am_sj_e ho
    cases e2
    refine ⟨rfl, lv_lshr hx hb (am_ld hd he) rfl ?_⟩
    have kq := kk _ hl
    subst he
    simp only [List.map_cons, am_cv, am_shrJ, Int64.ofInt_toInt] at kq
    exact kq
  case ineg =>
    simp only [am_ek, beq_iff_eq] at he
    obtain ⟨x, r, rfl, ho1⟩ := am_pi_e ho
    cases ho1
    refine ⟨rfl, lv_ineg hx hb (am_ld hd he) ?_⟩
    have kq := kk _ hl
    subst he
    simp only [List.map_cons, am_cv, Int32.ofInt_neg] at kq
    exact kq
  case l2i =>
    simp only [am_ek, beq_iff_eq] at he
    obtain ⟨x, r, rfl, ho1⟩ := am_pj_e ho
    cases ho1
    exact ⟨rfl, lv_l2i hx hb (am_ld hd he) (am_l2i x) (by subst he; exact kk _ hl)⟩
  case dup =>
    simp only [am_ek, beq_iff_eq] at he
    have ho0 : am_p1 st (fun v s => some (nx, ls, v :: v :: s, h)) = some (pc', ls', st', h') := ho
    obtain ⟨v, r, rfl, hv, ho1⟩ := am_p1_e ho0
    cases ho1
    exact ⟨rfl, lv_dup hx hb (am_ld hd he) (am_cat hv) (by subst he; exact kk _ hl)⟩
  case pop =>
    simp only [am_ek, beq_iff_eq] at he
    have ho0 : am_p1 st (fun _ s => some (nx, ls, s, h)) = some (pc', ls', st', h') := ho
    obtain ⟨v, r, rfl, hv, ho1⟩ := am_p1_e ho0
    cases ho1
    exact ⟨rfl, lv_pop hx hb (am_ld hd he) (am_cat hv) (by subst he; exact kk _ hl)⟩
  case dup2 =>
    simp only [am_ek, beq_iff_eq] at he
    have ho0 : am_p1 st (fun v s => am_p1 s fun w s => some (nx, ls, v :: w :: v :: w :: s, h)) = some (pc', ls', st', h') := ho
    obtain ⟨v, r1, rfl, hv, ho1⟩ := am_p1_e ho0
    obtain ⟨w, r, rfl, hw, ho2⟩ := am_p1_e ho1
    cases ho2
    exact ⟨rfl, lv_dup2_11 hx hb (am_ld hd he) (am_cat hv) (am_cat hw) (by subst he; exact kk _ hl)⟩
  case goto off =>
    simp only [am_ek, beq_iff_eq, Bool.and_eq_true, decide_eq_true_eq] at he
    obtain ⟨he, h1⟩ := he
    cases ho
    exact ⟨rfl, lv_goto hx hb (am_ld hd he) h1 (kk _ hl)⟩
  all_goals cases ho
end AMO
