-- forks, switches, returns, and whole runs on the real machine
section AMR
variable {p : Program} {l : Launch} {e : Env} {R : Room} {s : State} {m : MethodId} {args : Array Value} {below : List Frame} {meth : Method} {c : Code} {H : Heap} {locs : List Loc} {cells slots : Nat} {Q : State → Prop} {lsR : Array Slot} {ex : Nat → Nat} {B : Nat} {D : va_G} {tys : List (ClassId × FieldType)} {S : State → Prop}
set_option maxHeartbeats 4000000 in
theorem am_fk_snd {md nL pc nx a b : Nat} {ini : Bool} {ret : Option FieldType} {i : Instr} {k : Int} {al : List (Nat × Nat)} {ls : am_L} {st : List am_V} {h : am_H} {P q : Prop} {fa fb : am_F} (hE : am_E p s m args c md) (hd : decode (am_mb md) pc = .ok (i, nx - pc)) (he : am_ek (am_mo md) nL ini ret pc i nx a b k al = true) (ho : am_fk i nx a ls st h = some (P, q, fa, fb)) (hp : P) (ka : q → W p l e R s m args below meth c H locs cells slots Q (F0 m fa.1 lsR (fa.2.2.1.map (am_cv ex B)))) (kb : ¬ q → W p l e R s m args below meth c H locs cells slots Q (F0 m fb.1 lsR (fb.2.2.1.map (am_cv ex B)))) : fa.2.1 = ls ∧ fb.2.1 = ls ∧ W p l e R s m args below meth c H locs cells slots Q (F0 m pc lsR (st.map (am_cv ex B))) := by
  obtain ⟨hx, hb, hml, hown, hts⟩ := hE
  cases i
  case if_icmp cc off =>
    simp only [am_ek, beq_iff_eq, Bool.and_eq_true, decide_eq_true_eq] at he
    obtain ⟨he, ht⟩ := he
    subst he
    obtain ⟨y, r0, rfl, ho1⟩ := am_pi_e ho
    obtain ⟨x, r, rfl, ho2⟩ := am_pi_e ho1
    have hd3 := am_ld hd rfl
    cases cc
    case eq =>
      cases ho2
      exact ⟨rfl, rfl, lv_icmp_eq hx hb hd3 ht (fun z => ka ((am_eq32 hp.1 hp.2).mp z)) (fun z => kb (fun w => z ((am_eq32 hp.1 hp.2).mpr w)))⟩
    case ne =>
      cases ho2
      exact ⟨rfl, rfl, lv_icmp_ne hx hb hd3 ht (fun z => ka (fun w => z ((am_eq32 hp.1 hp.2).mpr w))) (fun z => kb (fun w => w ((am_eq32 hp.1 hp.2).mp z)))⟩
    case lt =>
      cases ho2
      exact ⟨rfl, rfl, lv_icmp_lt hx hb hd3 ht (fun z => ka ((am_lt32 hp.1 hp.2).mp z)) (fun z => kb (fun w => z ((am_lt32 hp.1 hp.2).mpr w)))⟩
    case ge =>
      cases ho2
      exact ⟨rfl, rfl, lv_icmp_ge hx hb hd3 ht (fun z => ka ((am_le32 hp.2 hp.1).mp z)) (fun z => kb (fun w => z ((am_le32 hp.2 hp.1).mpr w)))⟩
    case gt =>
      cases ho2
      exact ⟨rfl, rfl, lv_icmp_gt hx hb hd3 ht (fun z => ka ((am_lt32 hp.2 hp.1).mp z)) (fun z => kb (fun w => z ((am_lt32 hp.2 hp.1).mpr w)))⟩
    case le =>
      cases ho2
      exact ⟨rfl, rfl, lv_icmp_le hx hb hd3 ht (fun z => ka ((am_le32 hp.1 hp.2).mp z)) (fun z => kb (fun w => z ((am_le32 hp.1 hp.2).mpr w)))⟩
  case ifCond cc off =>
    simp only [am_ek, beq_iff_eq, Bool.and_eq_true, decide_eq_true_eq] at he
    obtain ⟨he, ht⟩ := he
    subst he
    obtain ⟨x, r, rfl, ho2⟩ := am_pi_e ho
    have hd3 := am_ld hd rfl
    cases cc
    case eq =>
      cases ho2
      exact ⟨rfl, rfl, lv_if_eq hx hb hd3 ht (fun z => ka ((am_eq32 hp am_R0).mp z)) (fun z => kb (fun w => z ((am_eq32 hp am_R0).mpr w)))⟩
    case ne =>
      cases ho2
      exact ⟨rfl, rfl, lv_if_ne hx hb hd3 ht (fun z => ka (fun w => z ((am_eq32 hp am_R0).mpr w))) (fun z => kb (fun w => w ((am_eq32 hp am_R0).mp z)))⟩
    case lt =>
      cases ho2
      exact ⟨rfl, rfl, lv_if_lt hx hb hd3 ht (fun z => ka ((am_lt32 hp am_R0).mp z)) (fun z => kb (fun w => z ((am_lt32 hp am_R0).mpr w)))⟩
    case ge =>
      cases ho2
      exact ⟨rfl, rfl, lv_if_ge hx hb hd3 ht (fun z => ka ((am_le32 am_R0 hp).mp z)) (fun z => kb (fun w => z ((am_le32 am_R0 hp).mpr w)))⟩
    case gt =>
      cases ho2
      exact ⟨rfl, rfl, lv_if_gt hx hb hd3 ht (fun z => ka ((am_lt32 am_R0 hp).mp z)) (fun z => kb (fun w => z ((am_lt32 am_R0 hp).mpr w)))⟩
    case le =>
      cases ho2
      exact ⟨rfl, rfl, lv_if_le hx hb hd3 ht (fun z => ka ((am_le32 hp am_R0).mp z)) (fun z => kb (fun w => z ((am_le32 hp am_R0).mpr w)))⟩
  all_goals cases ho
theorem am_sw_snd {md nL pc nx a b tg : Nat} {ini : Bool} {ret : Option FieldType} {dflt lo hi : Int} {offs : Array Int} {k x : Int} {al : List (Nat × Nat)} {st : List am_V} (hE : am_E p s m args c md) (hd : decode (am_mb md) pc = .ok (.tableswitch dflt lo hi offs, nx - pc)) (he : am_ek (am_mo md) nL ini ret pc (.tableswitch dflt lo hi offs) nx a b k al = true) (hp : am_R x) (hc : (∃ q : Nat, (q, tg) ∈ al ∧ x = q) ∨ (∀ q ∈ al, x ≠ ((q.1 : Nat) : Int)) ∧ tg = a) (kk : W p l e R s m args below meth c H locs cells slots Q (F0 m tg lsR (st.map (am_cv ex B)))) : W p l e R s m args below meth c H locs cells slots Q (F0 m pc lsR ((.inl x :: st).map (am_cv ex B))) := by
  obtain ⟨hx, hb, hml, hown, hts⟩ := hE
  simp only [am_ek, Bool.and_eq_true, decide_eq_true_eq] at he
  obtain ⟨⟨⟨h1, h2⟩, h3⟩, h4⟩ := he
  have hlen : al.length = offs.size := by
    have := congrArg List.length h2
    simpa using this
  have hkey : ∀ j : Nat, (hj : j < al.length) → ((al[j].1 : Nat) : Int) = lo + (j : Int) := by
    intro j hj
    have := congrArg (fun z => z[j]?) h2
    simp only [List.getElem?_map, List.getElem?_eq_getElem hj, Option.map_some] at this
    rw [List.getElem?_range (by omega)] at this
    simpa using this
  have htg : ∀ j : Nat, (hj : j < al.length) → ∃ o, offs[j]? = some o ∧ (pc : Int) + o = ((al[j].2 : Nat) : Int) := by
    intro j hj
    have := congrArg (fun z => z[j]?) h3
    simp only [List.getElem?_map, List.getElem?_eq_getElem hj, Option.map_some] at this
    have hj2 : j < offs.size := by omega
    refine ⟨offs[j], by simp [hj2], ?_⟩
    rw [List.getElem?_eq_getElem (by simpa using hj2)] at this
    simpa using this.symm
  show W p l e R s m args below meth c H locs cells slots Q (F0 m pc lsR (.int (Int32.ofInt x) :: st.map (am_cv ex B)))
  rcases hc with ⟨q, hq, rfl⟩ | ⟨hn, rfl⟩
  · obtain ⟨j, hj, hjq⟩ := List.getElem_of_mem hq
    have e1 := hkey j hj
    obtain ⟨o, e2, e3⟩ := htg j hj
    rw [hjq] at e1 e3
    dsimp only at e1 e3
    exact lv_tableIn hx hb hd (by rw [am_t hp]; omega) (by rw [am_t hp]; omega) (off := o) (by rw [am_t hp, show (((q : Nat) : Int) - lo).toNat = j by omega]; exact e2) e3 kk
  · refine lv_tableOut hx hb hd ?_ h1 kk
    rw [am_t hp]
    by_cases hz : x < lo ∨ hi < x
    · exact hz
    · exfalso
      have hj : (x - lo).toNat < al.length := by omega
      refine hn _ (List.getElem_mem hj) ?_
      rw [hkey _ hj]
      omega
end AMR
