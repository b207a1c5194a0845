-- what a run keeps
def am_keep (h h' : am_H) : Prop := am_n h ≤ am_n h' ∧ am_sl h ≤ am_sl h' ∧ am_c h' 1 = am_c h 1 ∧ am_ai h' 1 = am_ai h 1
theorem am_keep.rf (h : am_H) : am_keep h h := ⟨Nat.le_refl _, Nat.le_refl _, rfl, rfl⟩
theorem am_keep.tr {a b c : am_H} (x : am_keep a b) (y : am_keep b c) : am_keep a c := ⟨Nat.le_trans x.1 y.1, Nat.le_trans x.2.1 y.2.1, y.2.2.1.trans x.2.2.1, y.2.2.2.trans x.2.2.2⟩
theorem am_op_h {i : Instr} {nx a b pc' : Nat} {k : Int} {ls ls' : am_L} {st st' : List am_V} {h h' : am_H} (ho : am_op i nx a b k ls st h = some (pc', ls', st', h')) : h' = h := by
  unfold am_op at ho
  split at ho
  all_goals first
    | (cases ho; rfl)
    | (obtain ⟨x, e1, e2⟩ := am_li_e ho; cases e2; rfl)
    | (obtain ⟨x, e1, e2⟩ := am_lj_e ho; cases e2; rfl)
    | (obtain ⟨x, e1, e2⟩ := am_lr_e ho; cases e2; rfl)
    | (obtain ⟨x, y, r, e1, e2⟩ := am_bi_e ho; cases e2; rfl)
    | (obtain ⟨x, y, r, e1, e2⟩ := am_bj_e ho; cases e2; rfl)
    | (obtain ⟨x, y, r, e1, e2⟩ := am_sj_e ho; cases e2; rfl)
    | (obtain ⟨x, r, e1, e2⟩ := am_pi_e ho; cases e2; rfl)
    | (obtain ⟨x, r, e1, e2⟩ := am_pi_e ho; obtain ⟨y, r2, f1, f2⟩ := am_pi_e e2; cases f2; rfl)
    | (obtain ⟨x, r, e1, e2⟩ := am_pj_e ho; cases e2; rfl)
    | (obtain ⟨x, r, e1, e2⟩ := am_pr_e ho; cases e2; rfl)
    | (obtain ⟨x, r, e1, e0, e2⟩ := am_p1_e ho; cases e2; rfl)
    | (obtain ⟨x, r, e1, e0, e2⟩ := am_p1_e ho; obtain ⟨y, r2, f1, f0, f2⟩ := am_p1_e e2; cases f2; rfl)
    | (split at ho <;> cases ho <;> rfl)
    | (have ho' : am_inc nx ls st h _ _ = some (pc', ls', st', h') := ho; unfold am_inc at ho'; split at ho' <;> cases ho' <;> rfl)
    | cases ho
theorem am_cq_keep {i : Instr} {nx a b pc' : Nat} {k : Int} {ls ls' : am_L} {st st' : List am_V} {h h' : am_H} {P : Prop} (h16 : 16 ≤ am_n h) (ho : am_cq i nx a b k ls st h = some (P, pc', ls', st', h')) (hp : P) : am_keep h h' := by
  have nw : ∀ ci N, am_keep h (am_nwo h ci N) := fun ci N => ⟨Nat.le_succ _, Nat.le_add_right _ _, if_neg (by omega), rfl⟩
  have na : ∀ t N, am_keep h (am_nwa h t N) := fun t N => ⟨Nat.le_succ _, Nat.le_add_right _ _, if_neg (by omega), funext fun z => if_neg (by omega)⟩
  have ai : ∀ r j v, 16 ≤ r → am_keep h (am_uai h r j v) := fun r j v hr => ⟨Nat.le_refl _, Nat.le_refl _, rfl, funext fun z => am_u2n _ _ _ _ (by omega)⟩
  unfold am_cq at ho
  split at ho
  all_goals first
    | (obtain ⟨x, r, e1, e2⟩ := am_pi_e ho; cases e2; exact am_keep.rf _)
    | (obtain ⟨x, r, e1, e2⟩ := am_pi_e ho; obtain ⟨y, r2, f1, f2⟩ := am_pi_e e2; cases f2; exact am_keep.rf _)
    | (obtain ⟨x, r, e1, e2⟩ := am_pj_e ho; obtain ⟨y, r2, f1, f2⟩ := am_pj_e e2; cases f2; exact am_keep.rf _)
    | (obtain ⟨x, r, e1, e2⟩ := am_pr_e ho; cases e2; exact am_keep.rf _)
    | (obtain ⟨x, r, e1, e2⟩ := am_pi_e ho; obtain ⟨y, r2, f1, f2⟩ := am_pr_e e2; cases f2; exact am_keep.rf _)
    | (split at ho
       · obtain ⟨x, r, e1, e2⟩ := am_pi_e ho
         obtain ⟨y, r2, f1, f2⟩ := am_pr_e e2
         cases f2
         exact am_keep.rf _
       · obtain ⟨x, r, e1, e2⟩ := am_pi_e ho
         obtain ⟨y, r2, f1, f2⟩ := am_pr_e e2
         cases f2
         exact am_keep.rf _
       · obtain ⟨x, r, e1, e2⟩ := am_pj_e ho
         obtain ⟨y, r2, f1, f2⟩ := am_pr_e e2
         cases f2
         exact am_keep.rf _
       · obtain ⟨x, r, e1, e2⟩ := am_pr_e ho
         obtain ⟨y, r2, f1, f2⟩ := am_pr_e e2
         cases f2
         exact am_keep.rf _
       · cases ho)
    | (obtain ⟨x, r, e1, e2⟩ := am_pi_e ho; obtain ⟨y, r2, f1, f2⟩ := am_pi_e e2; obtain ⟨z, r3, g1, g2⟩ := am_pr_e f2; cases g2; exact ai _ _ _ hp.1)
    | (obtain ⟨x, r, e1, e2⟩ := am_pj_e ho; obtain ⟨y, r2, f1, f2⟩ := am_pi_e e2; obtain ⟨z, r3, g1, g2⟩ := am_pr_e f2; cases g2; exact am_keep.rf _)
    | (obtain ⟨x, r, e1, e2⟩ := am_pr_e ho; obtain ⟨y, r2, f1, f2⟩ := am_pi_e e2; obtain ⟨z, r3, g1, g2⟩ := am_pr_e f2; cases g2; exact am_keep.rf _)
    | (split at ho
       · obtain ⟨x, r, e1, e2⟩ := am_pi_e ho
         obtain ⟨y, r2, f1, f2⟩ := am_pi_e e2
         obtain ⟨z, r3, g1, g2⟩ := am_pr_e f2
         cases g2
         exact ai _ _ _ hp.1.1
       · obtain ⟨x, r, e1, e2⟩ := am_pi_e ho
         obtain ⟨y, r2, f1, f2⟩ := am_pi_e e2
         obtain ⟨z, r3, g1, g2⟩ := am_pr_e f2
         cases g2
         exact ai _ _ _ hp.1.1)
    | (cases ho; exact nw _ _)
    | (obtain ⟨x, r, e1, e2⟩ := am_pi_e ho; cases e2; exact na _ _)
    | cases ho
theorem am_bt_keep {d md : Nat} {as : List am_V} {h h' : am_H} {r : Option am_V} (h16 : 16 ≤ am_n h) (ho : am_bt d md as h r h') : am_keep h h' := by
  unfold am_bt at ho
  split at ho
  · obtain ⟨⟨-, hq, -⟩, -, rfl⟩ := ho
    exact ⟨Nat.le_refl _, Nat.le_refl _, rfl, funext fun z => if_neg (by omega)⟩
  · obtain ⟨-, -, -, -, rfl⟩ := ho
    exact am_keep.rf _
  · obtain ⟨-, -, -, -, -, -, rfl⟩ := ho
    exact am_keep.rf _
  · obtain ⟨-, -, -, rfl⟩ := ho
    exact am_keep.rf _
  · obtain ⟨-, -, rfl⟩ := ho
    exact am_keep.rf _
  · obtain ⟨-, -, rfl⟩ := ho
    exact am_keep.rf _
  · exact ho.elim
theorem am_fk_h {i : Instr} {nx a : Nat} {ls : am_L} {st : List am_V} {h : am_H} {P q : Prop} {fa fb : am_F} (ho : am_fk i nx a ls st h = some (P, q, fa, fb)) : fa.2.2.2 = h ∧ fb.2.2.2 = h := by
  unfold am_fk at ho
  split at ho
  · obtain ⟨x, r, e1, e2⟩ := am_pi_e ho
    obtain ⟨y, r2, f1, f2⟩ := am_pi_e e2
    unfold am_cmp at f2
    split at f2 <;> cases f2 <;> exact ⟨rfl, rfl⟩
  · obtain ⟨x, r, e1, e2⟩ := am_pi_e ho
    unfold am_cmp at e2
    split at e2 <;> cases e2 <;> exact ⟨rfl, rfl⟩
  · cases ho
theorem am_st_h {T : am_T} {f f' : am_F} (ho : am_st T f = some f') : f'.2.2.2 = f.2.2.2 := by
  obtain ⟨pc, ls, st, h⟩ := f
  obtain ⟨pc', ls', st', h'⟩ := f'
  unfold am_st at ho
  dsimp only at ho
  split at ho
  · exact am_op_h ho
  · cases ho
theorem am_ck_h {T : am_T} {f f' : am_F} {P : Prop} (h16 : 16 ≤ am_n f.2.2.2) (ho : am_ck T f = some (P, f')) (hp : P) : am_keep f.2.2.2 f'.2.2.2 := by
  obtain ⟨pc, ls, st, h⟩ := f
  obtain ⟨pc', ls', st', h'⟩ := f'
  unfold am_ck at ho
  dsimp only at ho
  split at ho
  · exact am_cq_keep h16 ho hp
  · cases ho
theorem am_br_h {T : am_T} {f fa fb : am_F} {P q : Prop} (ho : am_br T f = some (P, q, fa, fb)) : fa.2.2.2 = f.2.2.2 ∧ fb.2.2.2 = f.2.2.2 := by
  obtain ⟨pc, ls, st, h⟩ := f
  unfold am_br at ho
  dsimp only at ho
  split at ho
  · exact am_fk_h ho
  · cases ho
theorem am_ca_h {T : am_T} {f : am_F} {kd nx : Nat} {al : List (Nat × Nat)} {as st : List am_V} {ls : am_L} {h : am_H} (ho : am_ca T f = some (kd, al, as, nx, ls, st, h)) : h = f.2.2.2 := by
  obtain ⟨pc, ls', st', h'⟩ := f
  unfold am_ca at ho
  dsimp only at ho
  split at ho
  · split at ho <;> cases ho <;> rfl
  · split at ho <;> cases ho <;> rfl
  · split at ho
    · split at ho <;> cases ho <;> rfl
    · cases ho
  · cases ho
theorem am_sw_h {T : am_T} {f : am_F} {x : Int} {al : List (Nat × Nat)} {d : Nat} {ls : am_L} {st : List am_V} {h : am_H} (ho : am_sw T f = some (x, al, d, ls, st, h)) : h = f.2.2.2 := by
  obtain ⟨pc, ls', st', h'⟩ := f
  unfold am_sw at ho
  dsimp only at ho
  split at ho
  · obtain ⟨y, r, e1, e2⟩ := am_pi_e ho
    cases e2
    rfl
  · cases ho
theorem am_rt_h {T : am_T} {f : am_F} {P : Prop} {r : Option am_V} {h : am_H} (ho : am_rt T f = some (P, r, h)) : h = f.2.2.2 := by
  obtain ⟨pc, ls', st', h'⟩ := f
  unfold am_rt at ho
  dsimp only at ho
  split at ho
  · split at ho
    · split at ho <;> cases ho <;> rfl
    · cases ho
  · split at ho <;> cases ho <;> rfl
  · split at ho <;> cases ho <;> rfl
  · cases ho
theorem am_run_keep {C : am_C} {T : am_T} (hC : ∀ md as h r h', 16 ≤ am_n h → C md as h r h' → am_keep h h') : ∀ (k : Nat) (f : am_F) (r : Option am_V) (h' : am_H), 16 ≤ am_n f.2.2.2 → am_run C T k f r h' → am_keep f.2.2.2 h'
  | 0, _, _, _, _, hr => hr.elim
  | k + 1, f, r, h', h16, hr => by
    rcases hr with ⟨f', e, hr⟩ | ⟨P, f', e, hp, hr⟩ | ⟨P, c, fa, fb, e, hp, hr⟩ | ⟨kd, al, as, nx, ls, s, h, ci, md, r1, h1, e, -, -, -, hc, hr⟩ | ⟨x, al, d, ls, s, h, tg, e, -, -, hr⟩ | ⟨P, e, -⟩ | ⟨pc, ls, x, y, s, h, rfl, -, hr⟩
    · have h1 := am_st_h e
      have := am_run_keep hC k f' r h' (by rw [h1]; exact h16) hr
      rw [h1] at this
      exact this
    · have h1 := am_ck_h h16 e hp
      exact h1.tr (am_run_keep hC k f' r h' (Nat.le_trans h16 h1.1) hr)
    · obtain ⟨h1, h2⟩ := am_br_h e
      rcases hr with ⟨-, hr⟩ | ⟨-, hr⟩
      · have := am_run_keep hC k fa r h' (by rw [h1]; exact h16) hr
        rw [h1] at this
        exact this
      · have := am_run_keep hC k fb r h' (by rw [h2]; exact h16) hr
        rw [h2] at this
        exact this
    · have h2 := am_ca_h e
      subst h2
      have h3 := hC md as _ r1 h1 h16 hc
      exact h3.tr (am_run_keep hC k (nx, ls, am_bk r1 s, h1) r h' (Nat.le_trans h16 h3.1) hr)
    · have h2 := am_sw_h e
      subst h2
      exact am_run_keep hC k (tg, ls, s, f.2.2.2) r h' h16 hr
    · rw [am_rt_h e]
      exact am_keep.rf _
    · exact am_run_keep hC k (pc, ls, .inl y :: s, h) r h' h16 hr
theorem am_ev_keep : ∀ (d md : Nat) (as : List am_V) (h : am_H) (r : Option am_V) (h' : am_H), 16 ≤ am_n h → am_ev am_prog d md as h r h' → am_keep h h'
  | 0, _, _, _, _, _, _, hr => hr.elim
  | d + 1, md, as, h, r, h', h16, hr => by
    rcases hr with ⟨nL, T, k, -, -, hr⟩ | hr
    · exact am_run_keep (am_ev_keep d) k (0, am_pd nL (am_en as), [], h) r h' h16 hr
    · exact am_bt_keep h16 hr
theorem am_tk_e : ∀ {k : Nat} {s acc as r : List am_V}, am_tk k s acc = some (as, r) → ∃ xs, as = xs ++ acc ∧ s = xs.reverse ++ r ∧ xs.length = k
  | 0, s, acc, as, r, h => by
    simp only [am_tk, Option.some.injEq, Prod.mk.injEq] at h
    obtain ⟨rfl, rfl⟩ := h
    exact ⟨[], rfl, rfl, rfl⟩
  | k + 1, [], acc, as, r, h => by simp [am_tk] at h
  | k + 1, v :: s, acc, as, r, h => by
    obtain ⟨xs, e1, e2, e3⟩ := am_tk_e (k := k) (s := s) (acc := v :: acc) (as := as) (r := r) (by simpa [am_tk] using h)
    exact ⟨xs ++ [v], by rw [e1]; simp, by rw [e2]; simp, by simp [e3]⟩
-- the contracts of our methods
def am_nst : List Cond := am_k0n.map (fun q => Cond.methodLinkNest (am_onm q.1) q.2.1 (am_my q.2.2) "MappingText") ++ (am_k1n.map (fun q => Cond.methodLinkNest (am_onm q.1) q.2.1 (am_my q.2.2) "MappingText") ++ [Cond.declares ⟨"MappingText$Sink", "put", "(I)V"⟩])
def am_Nx (U : State) : Prop := ∀ w ∈ am_nst, va_Nw w U
theorem am_Nx.warm {s U : State} (hW : s.WarmedH U.vm) (h : am_Nx s) : am_Nx U := by
  intro w hw
  have h0 := h w hw
  unfold am_nst at hw
  rcases List.mem_append.mp hw with hw | hw
  · obtain ⟨q, -, rfl⟩ := List.mem_map.mp hw
    exact va_Nw.warmM hW h0
  · rcases List.mem_append.mp hw with hw | hw
    · obtain ⟨q, -, rfl⟩ := List.mem_map.mp hw
      exact va_Nw.warmM hW h0
    · rw [List.mem_singleton] at hw
      subst hw
      exact va_Nw.warmD hW h0
theorem am_Nx.same {u U : State} (hv : u.vm = U.vm) (h : am_Nx u) : am_Nx U := by
  intro w hw
  have h0 := h w hw
  unfold am_nst at hw
  rcases List.mem_append.mp hw with hw | hw
  · obtain ⟨q, -, rfl⟩ := List.mem_map.mp hw
    exact va_Nw.same rfl hv h0
  · rcases List.mem_append.mp hw with hw | hw
    · obtain ⟨q, -, rfl⟩ := List.mem_map.mp hw
      exact va_Nw.same rfl hv h0
    · rw [List.mem_singleton] at hw
      subst hw
      exact va_Nw.same rfl hv h0
theorem am_Kx.moved {D : va_G} {tys : List (ClassId × FieldType)} {u U : State} (hvm : u.vm.Alike U.vm) (h : am_Kx D tys u) : am_Kx D tys U := ⟨va_K.moved hvm h.1, h.2.1, va_AO.moved hvm h.2.2⟩
theorem am_X_moved {b L : Nat} {xs : Nat → Int32} {s U : State} {H H1 : Heap} (hvm : s.vm.Alike U.vm) (hH : H1[b]? = H[b]?) (h : va_X b L xs s H) : va_X b L xs U H1 := by
  obtain ⟨scr, h1, h2, h3⟩ := h
  exact ⟨scr, by rw [hH]; exact h1, State.isArrayOf_alike hvm h2, h3⟩
/-- what a method of ours finds: the kinds, the links, the world, its size; S: what stands of the texts -/
def am_Pu (S : State → Prop) (D : va_G) (tys : List (ClassId × FieldType)) (ex : Nat → Nat) (B : Nat) (h : am_H) (U : State) : Prop := am_Kx D tys U ∧ am_Nx U ∧ am_Wd D tys ex B U h U.heap [] ∧ U.heap.size = B + (am_n h - 16) ∧ S U
def am_Pcd (S : State → Prop) (D : va_G) (tys : List (ClassId × FieldType)) (ex : Nat → Nat) (B : Nat) (as : List am_V) (h : am_H) : Array Value → State → Prop := fun v U => v = (as.map (am_cv ex B)).toArray ∧ am_Pu S D tys ex B h U
def am_Qcd (D : va_G) (tys : List (ClassId × FieldType)) (ex : Nat → Nat) (B : Nat) (r : Option am_V) (h' : am_H) : Array Value → State → Outcome → State → Prop := fun _ st o t => o = .returned (r.map (am_cv ex B)) ∧ va_P D am_cls (am_ws ex B tys h') t.heap ∧ (∀ q, q < B → t.heap[q]? = st.heap[q]?) ∧ st.heap.size ≤ t.heap.size
def am_rm (d : Nat) (h h' : am_H) : Room := { frames := d, cells := am_n h' - am_n h, slots := am_sl h' - am_sl h, locals := 34 * d }
abbrev am_wd (md : Nat) : List Cond := Cond.code (am_my md) (am_mb md) (am_ml md) (am_mr md) :: am_tb
def am_Met (l : Launch) (S : State → Prop) (D : va_G) (tys : List (ClassId × FieldType)) (ex : Nat → Nat) (B d md : Nat) (as : List am_V) (h : am_H) (r : Option am_V) (h' : am_H) : Prop := Met l (am_my md) (am_wd md) (am_rm d h h') (am_Pcd S D tys ex B as h) (am_Qcd D tys ex B r h') (am_n h' - am_n h) (am_sl h' - am_sl h) (fun q => B ≤ q)
/-- what is said of the texts holds as long as nothing below B changes -/
def am_SS (S : State → Prop) (B : Nat) : Prop := (∀ s U : State, s.WarmedH U.vm → (∀ q, q < B → U.heap[q]? = s.heap[q]?) → S s → S U) ∧ ∀ (U : State) (g : JFrame) (mk : MethodId) (a : Array Value), S U → S (U.calling g mk a)
theorem am_Pu.blind {S : State → Prop} {D : va_G} {tys : List (ClassId × FieldType)} {ex : Nat → Nat} {B : Nat} {as : List am_V} {h : am_H} (hS : am_SS S B) : FrameBlind (am_Pcd S D tys ex B as h) := by
  intro a U g mk q
  obtain ⟨q0, qK, qN, ⟨w1, w2, w3, w4, w5, w6, w7⟩, qs, qS⟩ := q
  exact ⟨q0, am_Kx.moved (u := U) (U := U.calling g mk a) (Vm.Alike.refl U.vm) qK, am_Nx.same (u := U) (U := U.calling g mk a) rfl qN, ⟨w1, w2, w3, w4, am_X_moved (s := U) (U := U.calling g mk a) (Vm.Alike.refl U.vm) rfl w5, w6, w7⟩, qs, hS.2 U g mk a qS⟩
section AMK
variable {p : Program} {l : Launch} {e : Env} {R : Room} {s : State} {m : MethodId} {args : Array Value} {below : List Frame} {meth : Method} {c : Code} {H : Heap} {locs : List Loc} {cells slots : Nat} {Q : State → Prop} {lsR : Array Slot} {ex : Nat → Nat} {B : Nat} {D : va_G} {tys : List (ClassId × FieldType)} {S : State → Prop}
/-- the caller's world, as the callee finds it -/
theorem am_pre {as : List am_V} {h : am_H} (hBs : B ≤ s.heap.size) (hS : am_SS S B) (hs : S s) (hK : am_Kx D tys s) (hN : am_Nx s) (hW : am_Wd D tys ex B s h H locs) (hsz : H.size = B + (am_n h - 16)) : ∀ U : State, U.heap = H → s.WarmedH U.vm → am_Pcd S D tys ex B as h (as.map (am_cv ex B)).toArray U := by
  intro U hU hv
  obtain ⟨w1, w2, w3, w4, w5, w6, w7⟩ := hW
  have hlow : ∀ q, q < B → U.heap[q]? = s.heap[q]? := fun q hq => by
    rw [hU]
    exact w3.2.1 q (by omega) (by omega)
  refine ⟨rfl, am_Kx.moved hv.alike hK, hN.warm hv, ⟨by rw [hU]; exact w1, w2, va_S.rf, w4, am_X_moved hv.alike (hlow _ w7) w5, by rw [hU]; exact Nat.lt_of_lt_of_le w6 w3.1, w7⟩, by rw [hU]; exact hsz, hS.1 s U hv hlow hs⟩
theorem am_callY {mc ms pc : Nat} {st0 rest : List Value} {Qa : State → Outcome → State → Prop} {free : Addr → Prop} (hr : va_Run p l e R s m args below meth c H locs cells slots mc ms (F0 m pc lsR st0) rest Qa free) (kk : ∀ (v : Option Value) (st₀ t : State) (L : List Loc), st₀.heap = H → Qa st₀ (.returned v) t → (∀ q ∈ L, free q.base) → W p l e R s m args below meth c t.heap (locs ++ L) (cells + mc) (slots + ms) Q (F0 m (pc + 3) lsR (v.toList ++ rest))) : W p l e R s m args below meth c H locs cells slots Q (F0 m pc lsR st0) := by
  intro T hT X
  obtain ⟨v, st₀, t, T', L, h0, X', hL, e1, -, hq, st⟩ := hr T hT X
  obtain ⟨t2, a1, b1⟩ := kk v st₀ t L h0 hq hL T' e1 X'
  exact ⟨t2, st t2 a1, b1⟩
theorem am_call_fin {pc n0 s0 : Nat} {st0 : List Value} {rest : List am_V} {r : Option am_V} {h h' : am_H} {a : Array Value} (hr : va_Run p l e R s m args below meth c H locs (am_n h - n0) (am_sl h - s0) (am_n h' - am_n h) (am_sl h' - am_sl h) (F0 m pc lsR st0) (rest.map (am_cv ex B)) (am_Qcd D tys ex B r h' a) (fun q => B ≤ q)) (hW : am_Wd D tys ex B s h H locs) (hk : am_keep h h') (hn0 : n0 ≤ am_n h) (hs0 : s0 ≤ am_sl h)
    (kk : ∀ H' locs', am_Wd D tys ex B s h' H' locs' → W p l e R s m args below meth c H' locs' (am_n h' - n0) (am_sl h' - s0) Q (F0 m (pc + 3) lsR ((am_bk r rest).map (am_cv ex B)))) : W p l e R s m args below meth c H locs (am_n h - n0) (am_sl h - s0) Q (F0 m pc lsR st0) := by
  refine am_callY hr (fun v st₀ t L h0 hq hL => ?_)
  obtain ⟨q1, q2, q3, q4⟩ := hq
  obtain ⟨w1, w2, w3, w4, w5, w6, w7⟩ := hW
  have hv : v = r.map (am_cv ex B) := Outcome.returned.inj q1
  rw [h0] at q3 q4
  have := kk t.heap (locs ++ L) ⟨q2, Nat.le_trans w2 hk.1, ⟨Nat.le_trans w3.1 q4, fun q hq hb => (q3 q (by omega)).trans (w3.2.1 q hq hb), fun x hx => (List.mem_append.mp hx).elim (w3.2.2 x) (hL x)⟩, by rw [hk.2.2.1]; exact w4, by rw [hk.2.2.1, hk.2.2.2]; exact w5, w6, w7⟩
  rw [show am_n h - n0 + (am_n h' - am_n h) = am_n h' - n0 by have := hk.1; omega, show am_sl h - s0 + (am_sl h' - am_sl h) = am_sl h' - s0 by have := hk.2.1; omega, hv]
  cases r with
  | none => exact this
  | some x => exact this
end AMK
