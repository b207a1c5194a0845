-- whole runs on the real machine
theorem am_as_pd {ex : Nat → Nat} {B : Nat} : ∀ (n i : Nat) (l : am_L), ∀ q ∈ am_as ex B i (am_pd n l), q ∈ am_as ex B i l
  | 0, i, l, q, hq => hq
  | n + 1, i, [], q, hq => by
    have := am_as_pd n (i + 1) [] q (by simpa [am_pd, am_as] using hq)
    simp [am_as] at this
  | n + 1, i, none :: r, q, hq => am_as_pd n (i + 1) r q (by simpa [am_pd, am_as] using hq)
  | n + 1, i, some v :: r, q, hq => by
    rcases List.mem_cons.mp (show q ∈ (i, am_cv ex B v) :: am_as ex B (i + 1) (am_pd n r) from hq) with h | h
    · rw [h]
      exact List.mem_cons_self
    · exact List.mem_cons_of_mem _ (am_as_pd n (i + 1) r q h)
theorem am_as_en {ex : Nat → Nat} {B : Nat} : ∀ (as : List am_V) (i : Nat), ∀ q ∈ am_as ex B i (am_en as), q ∈ lv_args i (as.map (am_cv ex B))
  | [], i, q, hq => by simp [am_en, am_as] at hq
  | .inl x :: r, i, q, hq => by
    rcases List.mem_cons.mp (show q ∈ (i, am_cv ex B (.inl x)) :: am_as ex B (i + 1) (am_en r) from hq) with h | h
    · rw [h]
      exact List.mem_cons_self
    · exact List.mem_cons_of_mem _ (am_as_en r (i + 1) q h)
  | .inr (.inl x) :: r, i, q, hq => by
    rcases List.mem_cons.mp (show q ∈ (i, am_cv ex B (.inr (.inl x))) :: am_as ex B (i + 1 + 1) (am_en r) from hq) with h | h
    · rw [h]
      exact List.mem_cons_self
    · exact List.mem_cons_of_mem _ (am_as_en r (i + 2) q h)
  | .inr (.inr x) :: r, i, q, hq => by
    rcases List.mem_cons.mp (show q ∈ (i, am_cv ex B (.inr (.inr x))) :: am_as ex B (i + 1) (am_en r) from hq) with h | h
    · rw [h]
      exact List.mem_cons_self
    · have hc : (am_cv ex B (.inr (.inr x))).category = 1 := am_cat (fun y q => by cases q)
      show q ∈ (i, am_cv ex B (.inr (.inr x))) :: lv_args (if (am_cv ex B (.inr (.inr x))).category = 2 then i + 2 else i + 1) (r.map (am_cv ex B))
      rw [hc]
      exact List.mem_cons_of_mem _ (am_as_en r (i + 1) q h)
theorem am_sl_en {ex : Nat → Nat} {B : Nat} : ∀ (as : List am_V), (lg_sl (as.map (am_cv ex B))).length = (am_en as).length
  | [] => rfl
  | .inl x :: r => by
    have := am_sl_en (ex := ex) (B := B) r
    simp only [lg_sl, List.map_cons, List.flatMap_cons, List.length_append] at this ⊢
    rw [this]
    show 1 + (am_en r).length = (am_en r).length + 1
    omega
  | .inr (.inl x) :: r => by
    have := am_sl_en (ex := ex) (B := B) r
    simp only [lg_sl, List.map_cons, List.flatMap_cons, List.length_append] at this ⊢
    rw [this]
    show 2 + (am_en r).length = (am_en r).length + 1 + 1
    omega
  | .inr (.inr x) :: r => by
    have := am_sl_en (ex := ex) (B := B) r
    have hc : (am_cv ex B (.inr (.inr x))).category = 1 := am_cat (fun y q => by cases q)
    simp only [lg_sl, List.map_cons, List.flatMap_cons, List.length_append] at this ⊢
    rw [this, hc]
    show 1 + (am_en r).length = (am_en r).length + 1
    omega
theorem am_ca_inv {T : am_T} {pc kd nx : Nat} {ls ls2 : am_L} {st as rest : List am_V} {h h2 : am_H} {al : List (Nat × Nat)} (ho : am_ca T (pc, ls, st, h) = some (kd, al, as, nx, ls2, rest, h2)) : ∃ i a b c, T pc = some (i, nx, a, b, c, al) ∧ ls2 = ls ∧ h2 = h ∧ st = as.reverse ++ rest ∧ as.length = b ∧ ((∃ idx, i = .invokestatic idx ∧ kd = 0) ∨ (∃ idx, i = .invokespecial idx ∧ kd = 1) ∨ (∃ idx, i = .invokevirtual idx ∧ (kd = 2 ∧ c = 0 ∨ kd = 3 ∧ c ≠ 0))) := by
  unfold am_ca at ho
  dsimp only at ho
  split at ho
  · next idx nx' a b c al' hT =>
    split at ho
    · next as' r' hk =>
      cases ho
      obtain ⟨xs, e1, e2, e3⟩ := am_tk_e hk
      rw [List.append_nil] at e1
      subst e1
      exact ⟨_, a, b, c, hT, rfl, rfl, e2, e3, Or.inl ⟨idx, rfl, rfl⟩⟩
    · cases ho
  · next idx nx' a b c al' hT =>
    split at ho
    · next as' r' hk =>
      cases ho
      obtain ⟨xs, e1, e2, e3⟩ := am_tk_e hk
      rw [List.append_nil] at e1
      subst e1
      exact ⟨_, a, b, c, hT, rfl, rfl, e2, e3, Or.inr (Or.inl ⟨idx, rfl, rfl⟩)⟩
    · cases ho
  · next idx nx' a b c al' hT =>
    split at ho
    · next as' r' hk =>
      split at ho
      · cases ho
        obtain ⟨xs, e1, e2, e3⟩ := am_tk_e hk
        rw [List.append_nil] at e1
        subst e1
        exact ⟨_, a, b, _, hT, rfl, rfl, e2, e3, Or.inr (Or.inr ⟨idx, rfl, Or.inl ⟨rfl, rfl⟩⟩)⟩
      · next hc =>
        cases ho
        obtain ⟨xs, e1, e2, e3⟩ := am_tk_e hk
        rw [List.append_nil] at e1
        subst e1
        exact ⟨_, a, b, _, hT, rfl, rfl, e2, e3, Or.inr (Or.inr ⟨idx, rfl, Or.inr ⟨rfl, fun q => hc q⟩⟩)⟩
    · cases ho
  · cases ho
theorem am_sw_inv {T : am_T} {pc d : Nat} {x : Int} {ls ls2 : am_L} {st s2 : List am_V} {h h2 : am_H} {al : List (Nat × Nat)} (ho : am_sw T (pc, ls, st, h) = some (x, al, d, ls2, s2, h2)) : ∃ q1 q2 q3 q4 nx b c, T pc = some (.tableswitch q1 q2 q3 q4, nx, d, b, c, al) ∧ ls2 = ls ∧ h2 = h ∧ st = .inl x :: s2 := by
  unfold am_sw at ho
  dsimp only at ho
  split at ho
  · next q1 q2 q3 q4 nx a b c al' hT =>
    obtain ⟨y, r, rfl, ho1⟩ := am_pi_e ho
    cases ho1
    exact ⟨q1, q2, q3, q4, nx, b, c, hT, rfl, rfl, rfl⟩
  · cases ho
theorem am_cq_ls {i : Instr} {nx a b pc' : Nat} {k : Int} {ls ls' : am_L} {st st' : List am_V} {h h' : am_H} {P : Prop} (ho : am_cq i nx a b k ls st h = some (P, pc', ls', st', h')) : ls' = ls := by
  unfold am_cq at ho
  split at ho
  all_goals first
    | (obtain ⟨x, r, e1, e2⟩ := am_pi_e ho; cases e2; rfl)
    | (obtain ⟨x, r, e1, e2⟩ := am_pi_e ho; obtain ⟨y, r2, f1, f2⟩ := am_pi_e e2; cases f2; rfl)
    | (obtain ⟨x, r, e1, e2⟩ := am_pj_e ho; obtain ⟨y, r2, f1, f2⟩ := am_pj_e e2; cases f2; rfl)
    | (obtain ⟨x, r, e1, e2⟩ := am_pr_e ho; cases e2; rfl)
    | (obtain ⟨x, r, e1, e2⟩ := am_pi_e ho; obtain ⟨y, r2, f1, f2⟩ := am_pr_e e2; cases f2; rfl)
    | (split at ho
       · obtain ⟨x, r, e1, e2⟩ := am_pi_e ho
         obtain ⟨y, r2, f1, f2⟩ := am_pr_e e2
         cases f2
         rfl
       · obtain ⟨x, r, e1, e2⟩ := am_pi_e ho
         obtain ⟨y, r2, f1, f2⟩ := am_pr_e e2
         cases f2
         rfl
       · obtain ⟨x, r, e1, e2⟩ := am_pj_e ho
         obtain ⟨y, r2, f1, f2⟩ := am_pr_e e2
         cases f2
         rfl
       · obtain ⟨x, r, e1, e2⟩ := am_pr_e ho
         obtain ⟨y, r2, f1, f2⟩ := am_pr_e e2
         cases f2
         rfl
       · cases ho)
    | (obtain ⟨x, r, e1, e2⟩ := am_pi_e ho; obtain ⟨y, r2, f1, f2⟩ := am_pi_e e2; obtain ⟨z, r3, g1, g2⟩ := am_pr_e f2; cases g2; rfl)
    | (obtain ⟨x, r, e1, e2⟩ := am_pj_e ho; obtain ⟨y, r2, f1, f2⟩ := am_pi_e e2; obtain ⟨z, r3, g1, g2⟩ := am_pr_e f2; cases g2; rfl)
    | (obtain ⟨x, r, e1, e2⟩ := am_pr_e ho; obtain ⟨y, r2, f1, f2⟩ := am_pi_e e2; obtain ⟨z, r3, g1, g2⟩ := am_pr_e f2; cases g2; rfl)
    | (split at ho
       · obtain ⟨x, r, e1, e2⟩ := am_pi_e ho
         obtain ⟨y, r2, f1, f2⟩ := am_pi_e e2
         obtain ⟨z, r3, g1, g2⟩ := am_pr_e f2
         cases g2
         rfl
       · obtain ⟨x, r, e1, e2⟩ := am_pi_e ho
         obtain ⟨y, r2, f1, f2⟩ := am_pi_e e2
         obtain ⟨z, r3, g1, g2⟩ := am_pr_e f2
         cases g2
         rfl)
    | (cases ho; rfl)
    | cases ho
theorem am_fk_ls {i : Instr} {nx a : Nat} {ls : am_L} {st : List am_V} {h : am_H} {P q : Prop} {fa fb : am_F} (ho : am_fk i nx a ls st h = some (P, q, fa, fb)) : fa.2.1 = ls ∧ fb.2.1 = ls := by
  unfold am_fk at ho
  split at ho
  · obtain ⟨x, r, e1, e2⟩ := am_pi_e ho
    obtain ⟨y, r2, f1, f2⟩ := am_pi_e e2
    unfold am_cmp at f2
    split at f2 <;> cases f2 <;> exact ⟨rfl, rfl⟩
  · obtain ⟨x, r, e1, e2⟩ := am_pi_e ho
    unfold am_cmp at e2
    split at e2 <;> cases e2 <;> exact ⟨rfl, rfl⟩
  · cases ho
theorem am_ek0 {own nL pc nx a b idx : Nat} {ini : Bool} {ret : Option FieldType} {k : Int} {al : List (Nat × Nat)} (he : am_ek own nL ini ret pc (.invokestatic idx) nx a b k al = true) : ∃ z md, al = [(z, md)] := by
  match al, he with
  | [], he => simp [am_ek] at he
  | [(z, md)], _ => exact ⟨z, md, rfl⟩
  | _ :: _ :: _, he => simp [am_ek] at he
theorem am_ek1 {own nL pc nx a b idx : Nat} {ini : Bool} {ret : Option FieldType} {k : Int} {al : List (Nat × Nat)} (he : am_ek own nL ini ret pc (.invokespecial idx) nx a b k al = true) : ∃ z md, al = [(z, md)] := by
  match al, he with
  | [], he => simp [am_ek] at he
  | [(z, md)], _ => exact ⟨z, md, rfl⟩
  | _ :: _ :: _, he => simp [am_ek] at he
def am_kt (own idx : Nat) (al : List (Nat × Nat)) : Bool := match al with
  | [(_, md)] => decide ((own, idx, ((md : Nat) : Int)) ∈ am_kT)
  | _ => false
theorem am_ek2 {own nL pc nx a b idx : Nat} {ini : Bool} {ret : Option FieldType} {k : Int} {al : List (Nat × Nat)} (hk : k ≠ 0) (he : am_ek own nL ini ret pc (.invokevirtual idx) nx a b k al = true) : ∃ z md, al = [(z, md)] ∧ nx = pc + 3 ∧ (own, idx, ((md : Nat) : Int)) ∈ am_kT := by
  have key : (nx == pc + 3 && decide (1 ≤ b) && am_kt own idx al) = true := by
    match k, hk, he with
    | .ofNat 0, hk, _ => exact absurd rfl hk
    | .ofNat (n + 1), _, he => exact he
    | .negSucc n, _, he => exact he
  rw [Bool.and_eq_true, Bool.and_eq_true] at key
  obtain ⟨⟨e1, -⟩, e3⟩ := key
  unfold am_kt at e3
  split at e3
  · next z md => exact ⟨z, md, rfl, by simpa using e1, of_decide_eq_true e3⟩
  · cases e3
theorem am_kT_f : ∀ q ∈ am_kT, q.2.2 = 1001 ∨ q.2.2 = 1002 := by decide
theorem am_bt_h {d md : Nat} {as : List am_V} {h h' : am_H} {r : Option am_V} (hm : 1001 ≤ md) (ho : am_bt d md as h r h') : h' = h := by
  unfold am_bt at ho
  split at ho
  · omega
  · exact ho.2.2.2.2
  · exact ho.2.2.2.2.2.2
  · exact ho.2.2.2
  · exact ho.2.2
  · exact ho.2.2
  · exact ho.elim
section AMZ
variable {p : Program} {l : Launch} {e : Env} {R : Room} {s : State} {m : MethodId} {args : Array Value} {below : List Frame} {meth : Method} {c : Code} {Q : State → Prop} {ex : Nat → Nat} {B : Nat} {D : va_G} {tys : List (ClassId × FieldType)} {S : State → Prop}
set_option maxHeartbeats 4000000 in
theorem am_run_snd {d md nL n0 s0 : Nat} {T : am_T} {r : Option am_V} {h' : am_H} (hPg : am_prog md = some (nL, T)) (hE : am_E p s m args c md) (hK : am_Kx D tys s) (hN : am_Nx s) (hSS : am_SS S B) (hs : S s) (hI : ∀ d', d = d' + 1 → am_Snd l S D tys ex B d') (hR : d ≤ R.frames ∧ 34 * d ≤ R.locals) (hTx : am_Txt p l e R s m args below meth c Q ex B d md) (hini : (am_my md).name = "<init>" → meth.name = "<init>") (hn16 : 16 ≤ n0) (hB : s.heap.size = B + (n0 - 16)) (hC : am_n h' - n0 ≤ R.cells ∧ am_sl h' - s0 ≤ R.slots)
    (hret : ∀ (pc : Nat) (ls : am_L) (st : List am_V) (P : Prop) (H : Heap) (locs : List Loc) (lsR : Array Slot), am_rt T (pc, ls, st, h') = some (P, r, h') → P → am_Wd D tys ex B s h' H locs → W p l e R s m args below meth c H locs (am_n h' - n0) (am_sl h' - s0) Q (F0 m pc lsR (st.map (am_cv ex B)))) :
    ∀ (k pc : Nat) (ls : am_L) (st : List am_V) (h : am_H) (H : Heap) (locs : List Loc) (lsR : Array Slot), am_run (am_ev am_prog d) T k (pc, ls, st, h) r h' → am_Wd D tys ex B s h H locs → lv_has lsR nL (am_as ex B 0 ls) → n0 ≤ am_n h → s0 ≤ am_sl h → W p l e R s m args below meth c H locs (am_n h - n0) (am_sl h - s0) Q (F0 m pc lsR (st.map (am_cv ex B))) := by
  obtain ⟨g1, g2, g3⟩ := am_gd_ml hPg
  have hlt : ∀ pc e, T pc = some e → pc < (am_mb md).size := fun pc e he => by
    rcases Nat.lt_or_ge pc (am_mb md).size with q | q
    · exact q
    · rw [am_tz (am_prog_lt hPg) hPg q] at he
      cases he
  have hfact : ∀ pc i nx a b k al, T pc = some (i, nx, a, b, k, al) → decode (am_mb md) pc = .ok (i, nx - pc) ∧ am_ek (am_mo md) nL ((am_my md).name == "<init>") (am_mr md) pc i nx a b k al = true := fun pc i nx a b k al hT => g3 pc _ hT (hlt pc _ hT)
  have hml : c.maxLocals = nL := by rw [g1]; exact hE.2.2.1
  intro k
  induction k with
  | zero =>
    intro pc ls st h H locs lsR hr
    exact hr.elim
  | succ k ih =>
    intro pc ls st h H locs lsR hr hW hl hn0 hs0
    rcases hr with ⟨f', e1, hr⟩ | ⟨P, f', e1, hp, hr⟩ | ⟨P, q, fa, fb, e1, hp, hr⟩ | ⟨kd, al, as, nx, ls2, rest, h2, ci, md2, r1, h1, e1, hmem, h8, hrc, hcl, hr⟩ | ⟨x, al, dd, ls2, s2, h2, tg, e1, hp, hc, hr⟩ | ⟨P, e1, hp⟩ | ⟨pc2, ls2, x, y, s2, h2, e1, exy, hr⟩
    · obtain ⟨pc', ls', st', h2⟩ := f'
      unfold am_st at e1
      dsimp only at e1
      split at e1
      · next i nx a b kk2 al hT =>
        obtain ⟨hd, he⟩ := hfact _ _ _ _ _ _ _ hT
        have e2 := am_op_h e1
        subst e2
        exact (am_op_snd hE hd he e1 hl (fun k2 a2 rest hm hdd w => hTx.1 H locs _ _ lsR pc k2 a2 rest hW.2.2.1 hm hdd w) (fun lsR' hl' => ih pc' ls' st' h2 H locs lsR' hr hW hl' hn0 hs0)).2
      · cases e1
    · obtain ⟨pc', ls', st', h2⟩ := f'
      have hk2 := am_ck_h hW.2.1 e1 hp
      have hk3 := am_run_keep (am_ev_keep d) k _ r h' (Nat.le_trans hW.2.1 hk2.1) hr
      have q1 : am_n h ≤ am_n h2 := hk2.1
      have q2 : am_sl h ≤ am_sl h2 := hk2.2.1
      have q3 : am_n h2 ≤ am_n h' := hk3.1
      have q4 : am_sl h2 ≤ am_sl h' := hk3.2.1
      unfold am_ck at e1
      dsimp only at e1
      split at e1
      · next i nx a b kk2 al hT =>
        obtain ⟨hd, he⟩ := hfact _ _ _ _ _ _ _ hT
        have hz := am_cq_snd (lsR := lsR) (l := l) (e := e) (below := below) (meth := meth) (Q := Q) (R := R) hE hK (fun q => hini (by simpa using q)) hd he e1 hp hW ⟨hn16, hn0⟩ hs0 hB ⟨by omega, by omega⟩
        by_cases hls : ls' = ls
        · subst hls
          exact (hz (fun H' locs' hW' => ih pc' ls' st' h2 H' locs' lsR hr hW' hl (by omega) (by omega))).2
        · exact absurd (am_cq_ls e1) hls
      · cases e1
    · obtain ⟨pa, la, sa, ha⟩ := fa
      obtain ⟨pb, lb, sb, hbb⟩ := fb
      obtain ⟨z1, z2⟩ := am_br_h e1
      dsimp only at z1 z2
      subst z1
      subst z2
      unfold am_br at e1
      dsimp only at e1
      split at e1
      · next i nx a b kk2 al hT =>
        obtain ⟨hd, he⟩ := hfact _ _ _ _ _ _ _ hT
        obtain ⟨y1, y2⟩ := am_fk_ls e1
        dsimp only at y1 y2
        subst y1
        subst y2
        refine (am_fk_snd hE hd he e1 hp (fun hq => ?_) (fun hq => ?_)).2.2
        · rcases hr with ⟨-, hr⟩ | ⟨hq2, -⟩
          · exact ih pa _ sa hbb H locs lsR hr hW hl hn0 hs0
          · exact absurd hq hq2
        · rcases hr with ⟨hq2, -⟩ | ⟨-, hr⟩
          · exact absurd hq2 hq
          · exact ih pb _ sb hbb H locs lsR hr hW hl hn0 hs0
      · cases e1
    · obtain ⟨i, a, b, kc, hT, rfl, rfl, rfl, hlen, hkind⟩ := am_ca_inv e1
      obtain ⟨hd, he⟩ := hfact _ _ _ _ _ _ _ hT
      have hk2 := am_ev_keep _ _ _ _ _ _ hW.2.1 hcl
      have hk3 := am_run_keep (am_ev_keep d) k _ r h' (Nat.le_trans hW.2.1 hk2.1) hr
      have q1 := hk2.1
      have q2 := hk2.2.1
      have q3 : am_n h1 ≤ am_n h' := hk3.1
      have q4 : am_sl h1 ≤ am_sl h' := hk3.2.1
      match d, hcl, hI, hR, hTx, hr, ih with
      | 0, hcl, _, _, _, _, _ => exact hcl.elim
      | d + 1, hcl, hI, hR, hTx, hr, ih =>
        have kk : ∀ H' locs', am_Wd D tys ex B s h1 H' locs' → W p l e R s m args below meth c H' locs' (am_n h1 - n0) (am_sl h1 - s0) Q (F0 m nx lsR ((am_bk r1 rest).map (am_cv ex B))) := fun H' locs' hW' => ih nx ls2 (am_bk r1 rest) h1 H' locs' lsR hr hW' hl (by omega) (by omega)
        have hls : lsR.size = c.maxLocals := hl.1.trans hml.symm
        rcases hkind with ⟨idx, rfl, rfl⟩ | ⟨idx, rfl, rfl⟩ | ⟨idx, rfl, hkind⟩
        · obtain ⟨z, md3, rfl⟩ := am_ek0 he
          cases List.mem_singleton.mp hmem
          exact am_call0 hE hK hN hSS hs (hI d rfl) hd he hlen h8 hcl hls hW ⟨hn16, hn0⟩ hs0 hB hR ⟨by omega, by omega⟩ kk
        · obtain ⟨z, md3, rfl⟩ := am_ek1 he
          cases List.mem_singleton.mp hmem
          obtain ⟨rr, as', has, hr16⟩ := hrc
          exact am_call1 has hr16 hE hK hN hSS hs (hI d rfl) hd he hlen h8 hcl hls hW ⟨hn16, hn0⟩ hs0 hB hR ⟨by omega, by omega⟩ kk
        · rcases hkind with ⟨rfl, rfl⟩ | ⟨rfl, hc0⟩
          · obtain ⟨rr, as', has, hok⟩ := hrc
            exact am_call2 has hok hmem hE hK hN hSS hs (hI d rfl) hd he hlen h8 hcl hls hW ⟨hn16, hn0⟩ hs0 hB hR ⟨by omega, by omega⟩ kk
          · obtain ⟨z, md3, rfl, e3, hm3⟩ := am_ek2 hc0 he
            cases List.mem_singleton.mp hmem
            have hm4 := am_kT_f _ hm3
            dsimp only at hm4
            rcases hcl with ⟨_, _, _, hP9, -, -⟩ | hbt
            · rw [am_prog_none md2 (by omega)] at hP9
              cases hP9
            · have hh : h1 = h2 := am_bt_h (by omega) hbt
              subst hh
              subst e3
              exact hTx.2 H locs _ _ lsR pc idx md2 as rest h1 r1 d rfl hW.2.2.1 hls (by omega) (by omega) hm3 hbt h8 (am_ld hd rfl) (kk H locs hW)
    · obtain ⟨o1, o2, o3, o4, nx, b, kc, hT, rfl, rfl, rfl⟩ := am_sw_inv e1
      obtain ⟨hd, he⟩ := hfact _ _ _ _ _ _ _ hT
      exact am_sw_snd hE hd he hp hc (ih tg ls2 s2 h2 H locs lsR hr hW hl hn0 hs0)
    · have e2 := am_rt_h e1
      dsimp only at e2
      subst e2
      exact hret pc ls st P H locs lsR e1 hp hW
    · simp only [Prod.mk.injEq] at e1
      obtain ⟨rfl, rfl, rfl, rfl⟩ := e1
      have ec : ((Sum.inl x :: s2 : List am_V).map (am_cv ex B)) = ((Sum.inl y :: s2 : List am_V).map (am_cv ex B)) := by
        show am_cv ex B (.inl x) :: s2.map (am_cv ex B) = am_cv ex B (.inl y) :: s2.map (am_cv ex B)
        congr 1
        exact congrArg Value.int exy
      rw [ec]
      exact ih pc ls (.inl y :: s2) h H locs lsR hr hW hl hn0 hs0
end AMZ
