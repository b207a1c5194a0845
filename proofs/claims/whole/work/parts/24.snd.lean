-- calls on the real machine
theorem am_w8_e {ex : Nat → Nat} {B : Nat} : ∀ (r : List am_V), ((r.map (am_cv ex B)).map fun v => v.category).sum = am_w8 r
  | [] => rfl
  | .inl x :: r => by
    show 1 + ((r.map (am_cv ex B)).map fun v => v.category).sum = am_w8 r + 1
    rw [am_w8_e r]
    omega
  | .inr (.inl x) :: r => by
    show 2 + ((r.map (am_cv ex B)).map fun v => v.category).sum = am_w8 r + 2
    rw [am_w8_e r]
    omega
  | .inr (.inr x) :: r => by
    have h1 : (am_cv ex B (.inr (.inr x))).category = 1 := am_cat (fun y q => by cases q)
    show (am_cv ex B (.inr (.inr x))).category + ((r.map (am_cv ex B)).map fun v => v.category).sum = am_w8 r + 1
    rw [am_w8_e r, h1]
    omega
theorem am_gd_ml {md nL : Nat} {T : am_T} (h : am_prog md = some (nL, T)) : nL = am_ml md ∧ am_ml md ≤ 15 ∧ ∀ pc e, T pc = some e → pc < (am_mb md).size → decode (am_mb md) pc = .ok (e.1, e.2.1 - pc) ∧ am_ek (am_mo md) nL ((am_my md).name == "<init>") (am_mr md) pc e.1 e.2.1 e.2.2.1 e.2.2.2.1 e.2.2.2.2.1 e.2.2.2.2.2 = true := by
  have h1 := am_gd_all md (am_prog_lt h)
  unfold am_gd at h1
  rw [h] at h1
  simp only [Bool.and_eq_true, beq_iff_eq, decide_eq_true_eq] at h1
  obtain ⟨⟨h2, h3⟩, h4⟩ := h1
  refine ⟨h2, by omega, fun pc e hT hpc => ?_⟩
  have h5 := List.all_eq_true.mp h4 pc (List.mem_range.mpr hpc)
  unfold am_e1 at h5
  rw [hT] at h5
  obtain ⟨i, nx, a, b, c, al⟩ := e
  simp only [Bool.and_eq_true, decide_eq_true_eq] at h5
  exact h5
theorem am_bt_ge {d md : Nat} {as : List am_V} {h h' : am_H} {r : Option am_V} (ho : am_bt d md as h r h') : 1000 ≤ md := by
  unfold am_bt at ho
  split at ho
  all_goals first | omega | exact ho.elim
theorem am_cpy_e {f g : Int → Int} {i j n : Int} (hi : 0 ≤ i) (hj : 0 ≤ j) (hn : 0 ≤ n) (h1 : i ≤ 2147483647) (h2 : j ≤ 2147483647) (h3 : n ≤ 2147483647) : (fun z : Nat => Int32.ofInt (if j ≤ (z : Int) ∧ (z : Int) < j + n then f (i + (z - j)) else g z)) = va_cpy (fun z : Nat => Int32.ofInt (f z)) (fun z : Nat => Int32.ofInt (g z)) (Int32.ofInt i).toNatClampNeg (Int32.ofInt j).toNatClampNeg (Int32.ofInt n).toNatClampNeg := by
  funext z
  rw [am_cl32 hi h1, am_cl32 hj h2, am_cl32 hn h3]
  unfold va_cpy
  by_cases hz : j ≤ (z : Int) ∧ (z : Int) < j + n
  · rw [if_pos hz, if_pos ⟨by omega, by omega⟩]
    congr 2
    omega
  · rw [if_neg hz, if_neg (by omega)]
section AMJ
variable {p : Program} {l : Launch} {e : Env} {R : Room} {s : State} {m : MethodId} {args : Array Value} {below : List Frame} {meth : Method} {c : Code} {H : Heap} {locs : List Loc} {cells slots : Nat} {Q : State → Prop} {lsR : Array Slot} {ex : Nat → Nat} {B : Nat} {D : va_G} {tys : List (ClassId × FieldType)} {S : State → Prop}
theorem am_wgood {md : Nat} (hts : ∀ w ∈ am_tb, w.before args s = true) (hc : Cond.code (am_my md) (am_mb md) (am_ml md) (am_mr md) ∈ am_tb) : ∀ w ∈ am_wd md, ∀ (a' : Array Value) (U : State), s.WarmedH U.vm → w.before a' U = true := by
  intro w hw a' U hv
  have hw2 : w ∈ am_tb := (List.mem_cons.mp hw).elim (fun q => q ▸ hc) id
  exact word_at hv (good_of_word (List.mem_filter.mp hw2).2) (hts w hw2)
theorem am_ini_at {md : Nat} (hts : ∀ w ∈ am_tb, w.before args s = true) (h : md < am_NM) (h1 : md ≠ am_LAW) : (Cond.initialized (am_my md).cls).before args s = true := by
  obtain ⟨q1, q2, -⟩ := am_mf md h h1 (by simp only [am_NM] at h; omega)
  rw [q1]
  exact hts _ (am_tb_in (am_iZ _ (List.mem_map.mpr ⟨_, q2, rfl⟩)) rfl)
theorem am_nar_e {md n : Nat} (h : am_nar md n = true) : ∀ sig, parseMethodDescriptor (am_my md).desc = some sig → n = sig.parameters.length := by
  intro sig hs
  have h1 := of_decide_eq_true h
  rw [hs] at h1
  exact (Option.some.inj h1).symm
theorem am_CB {own : String} {idx md n d : Nat} {h h' : am_H} (hts : ∀ w ∈ am_tb, w.before args s = true) (h0 : md < am_NM) (h1 : md ≠ am_LAW) (hl : (Cond.methodLink own idx (am_my md)).before args s = true) (hn : am_nar md n = true) (h15 : am_ml md ≤ 15) (hR : d + 1 ≤ R.frames ∧ 34 * (d + 1) ≤ R.locals) : CallB R s args own idx (am_my md) (am_mb md) (am_ml md) (am_mr md) (am_wd md) (am_rm d h h') (am_n h' - am_n h) (am_sl h' - am_sl h) n := by
  obtain ⟨q1, q2, q3, q4, -⟩ := am_mf md h0 h1 (by simp only [am_NM] at h0; omega)
  have hc := am_codeIn md h0 h1
  exact ⟨rfl, rfl, hR.1, by show 8 + (am_ml md + 11) + 34 * d ≤ R.locals; omega, am_wgood hts hc, List.mem_cons_self, hts _ hc, am_ini_at hts h0 h1, ⟨q3, q4⟩, am_nar_e hn, hl⟩
theorem am_CNt {own host : String} {idx md n d : Nat} {h h' : am_H} (hts : ∀ w ∈ am_tb, w.before args s = true) (h0 : md < am_NM) (h1 : md ≠ am_LAW) (hl : (Cond.methodLinkNest own idx (am_my md) host).before args s = true) (hn : am_nar md n = true) (h15 : am_ml md ≤ 15) (hR : d + 1 ≤ R.frames ∧ 34 * (d + 1) ≤ R.locals) : va_CN R s args own idx (am_my md) host (am_mb md) (am_ml md) (am_mr md) (am_wd md) (am_rm d h h') (am_n h' - am_n h) (am_sl h' - am_sl h) n := by
  obtain ⟨q1, q2, q3, q4, -⟩ := am_mf md h0 h1 (by simp only [am_NM] at h0; omega)
  have hc := am_codeIn md h0 h1
  exact ⟨⟨rfl, rfl, hR.1, by show 8 + (am_ml md + 11) + 34 * d ≤ R.locals; omega, am_wgood hts hc, List.mem_cons_self⟩, hts _ hc, am_ini_at hts h0 h1, ⟨q3, q4⟩, am_nar_e hn, hl⟩
theorem am_sz {h : am_H} {n0 : Nat} (hW : am_Wd D tys ex B s h H locs) (hn0 : 16 ≤ n0 ∧ n0 ≤ am_n h) (hB : s.heap.size = B + (n0 - 16)) (hle : H.size ≤ s.heap.size + (am_n h - n0)) : H.size = B + (am_n h - 16) := by
  obtain ⟨w1, w2, w3, -⟩ := hW
  by_cases hn : am_n h = n0
  · have := w3.1
    omega
  · have := (w1 _ _ (am_ws_get (r := am_n h - 1) (by omega) (by omega))).lt
    dsimp only at this
    omega
/-- what the runs at level d give -/
def am_Snd (l : Launch) (S : State → Prop) (D : va_G) (tys : List (ClassId × FieldType)) (ex : Nat → Nat) (B d : Nat) : Prop := ∀ md as h r h', 16 ≤ am_n h → md ≠ am_LAW → (∃ nL T k, am_prog md = some (nL, T) ∧ Nat.ble (am_en as).length nL = true ∧ am_run (am_ev am_prog d) T k (0, am_pd nL (am_en as), [], h) r h') → am_Met l S D tys ex B d md as h r h'
/-- the texts: what ldc, length() and charAt() do (shown elsewhere) -/
def am_Txt (p : Program) (l : Launch) (e : Env) (R : Room) (s : State) (m : MethodId) (args : Array Value) (below : List Frame) (meth : Method) (c : Code) (Q : State → Prop) (ex : Nat → Nat) (B d md : Nat) : Prop :=
  (∀ (H : Heap) (locs : List Loc) (cells slots : Nat) (lsR : Array Slot) (pc k a : Nat) (rest : List Value), va_S (fun q => B ≤ q) s.heap H locs → (am_mo md, k, a) ∈ am_kS → decode (am_mb md) pc = .ok (.ldc k, 2) → W p l e R s m args below meth c H locs cells slots Q (F0 m (pc + 2) lsR (.ref (ex a) :: rest)) → W p l e R s m args below meth c H locs cells slots Q (F0 m pc lsR rest)) ∧
  (∀ (H : Heap) (locs : List Loc) (cells slots : Nat) (lsR : Array Slot) (pc k md2 : Nat) (as rest : List am_V) (h : am_H) (r : Option am_V) (d' : Nat), d = d' + 1 → va_S (fun q => B ≤ q) s.heap H locs → lsR.size = c.maxLocals → cells ≤ R.cells → slots ≤ R.slots → (am_mo md, k, (md2 : Int)) ∈ am_kT → am_bt d' md2 as h r h → am_w8 rest ≤ 8 → decode (am_mb md) pc = .ok (.invokevirtual k, 3) → W p l e R s m args below meth c H locs cells slots Q (F0 m (pc + 3) lsR ((am_bk r rest).map (am_cv ex B))) → W p l e R s m args below meth c H locs cells slots Q (F0 m pc lsR ((as.reverse ++ rest).map (am_cv ex B))))
theorem am_stk {as rest : List am_V} : (as.reverse ++ rest).map (am_cv ex B) = (as.map (am_cv ex B)).reverse ++ rest.map (am_cv ex B) := by
  rw [List.map_append, List.map_reverse]
set_option maxHeartbeats 4000000 in
/-- a call of a static method -/
theorem am_call0 {d md pc nx a b md2 z n0 s0 nL : Nat} {k : Int} {ini : Bool} {ret : Option FieldType} {idx : Nat} {as rest : List am_V} {h h1 : am_H} {r1 : Option am_V} (hE : am_E p s m args c md) (hK : am_Kx D tys s) (hN : am_Nx s) (hSS : am_SS S B) (hs : S s) (hI : am_Snd l S D tys ex B d) (hd : decode (am_mb md) pc = .ok (.invokestatic idx, nx - pc)) (he : am_ek (am_mo md) nL ini ret pc (.invokestatic idx) nx a b k [(z, md2)] = true) (hlen : as.length = b) (h8 : am_w8 rest ≤ 8) (hev : am_ev am_prog (d + 1) md2 as h r1 h1) (hls : lsR.size = c.maxLocals) (hW : am_Wd D tys ex B s h H locs) (hn0 : 16 ≤ n0 ∧ n0 ≤ am_n h) (hs0 : s0 ≤ am_sl h) (hB : s.heap.size = B + (n0 - 16)) (hR : d + 1 ≤ R.frames ∧ 34 * (d + 1) ≤ R.locals) (hC : am_n h1 - n0 ≤ R.cells ∧ am_sl h1 - s0 ≤ R.slots)
    (kk : ∀ H' locs', am_Wd D tys ex B s h1 H' locs' → W p l e R s m args below meth c H' locs' (am_n h1 - n0) (am_sl h1 - s0) Q (F0 m nx lsR ((am_bk r1 rest).map (am_cv ex B)))) : W p l e R s m args below meth c H locs (am_n h - n0) (am_sl h - s0) Q (F0 m pc lsR ((as.reverse ++ rest).map (am_cv ex B))) := by
  obtain ⟨hx, hb, hml, hown, hts⟩ := hE
  simp only [am_ek, beq_iff_eq, Bool.and_eq_true, Bool.or_eq_true, decide_eq_true_eq] at he
  obtain ⟨he, ha⟩ := he
  subst he
  have hk := am_ev_keep _ _ _ _ _ _ hW.2.1 hev
  have hk1 := hk.1
  have hk2 := hk.2.1
  have hd3 : decode (am_mb md) pc = .ok (.invokestatic idx, 3) := am_ld hd rfl
  refine am_size (fun hle => ?_)
  have hsz := am_sz hW hn0 hB hle
  rcases ha with (⟨rfl, hm⟩ | hm) | ⟨hm, hnar⟩
  · -- arraycopy
    rcases hev with ⟨nL', T', k', hP', -⟩ | hev
    · rw [am_prog_none 1000 (by decide)] at hP'
      cases hP'
    · unfold am_bt at hev
      split at hev
      · next x i y j n _ =>
        obtain ⟨⟨⟨x1, x2, x3, x4, x5, x6⟩, ⟨y1, y2, y3, y4, y5, y6⟩, n1, n2⟩, rfl, rfl⟩ := hev
        obtain ⟨hP, h16, hS, hs1, hs2, hs3, hs4⟩ := id hW
        have w1 := hts _ (am_tb_in (am_iP _ (List.mem_map.mpr ⟨_, hm, rfl⟩)) rfl)
        have w2 := hts _ (am_tb_in (am_iPb (Cond.native arraycopyName) (by simp)) rfl)
        have w3 := hts _ (am_tb_in (am_iPb (Cond.static arraycopyName) (by simp)) rfl)
        have w4 := hts _ (am_tb_in (am_iPb (Cond.initialized "java/lang/System") (by simp)) rfl)
        show W p l e R s m args below meth c H locs (am_n h - n0) (am_sl h - s0) Q (F0 m pc lsR (am_cv ex B (.inl n) :: am_cv ex B (.inl j) :: am_cv ex B (.inr (.inr y)) :: am_cv ex B (.inl i) :: am_cv ex B (.inr (.inr x)) :: rest.map (am_cv ex B)))
        rw [am_cv_hi x1, am_cv_hi y1]
        refine va_copyi hx hb hls.symm hown w1 w2 w3 w4 hK.1 hP am_ws_D hS (x - 16) (y - 16) 0 0 ((am_ws_get x1 x2).trans (by rw [am_ce_i (t := 0) x3 (Or.inl rfl)])) ((am_ws_get y1 y2).trans (by rw [am_ce_i (t := 0) y3 (Or.inl rfl)])) (am_ty hK rfl) (am_ty hK rfl) rfl (fun q => absurd ((am_lt32 (x := i) (y := 0) ⟨by omega, by omega⟩ am_R0).mp q) (by omega)) (fun q => absurd ((am_lt32 (x := j) (y := 0) ⟨by omega, by omega⟩ am_R0).mp q) (by omega)) (fun q => absurd ((am_lt32 (x := n) (y := 0) ⟨by omega, by omega⟩ am_R0).mp q) (by omega)) (by rw [am_cl32 x4 x6, am_cl32 n1 n2]; omega) (by rw [am_cl32 y4 y6, am_cl32 n1 n2]; omega) (fun _ _ => rfl) (by omega) (by rw [am_w8_e, show nativeFrameWords "java/lang/System" "arraycopy" 5 = 7 from by decide]; omega) hd3 (fun H1 locs1 hP1 _ hS1 => ?_)
        have hws := am_ws_set (ex := ex) (B := B) (tys := tys) (h := h) (h' := am_cpi h x i y j n) (r := y) rfl y1 y2 rfl (fun q hq => am_ce_eq rfl (fun _ => rfl) (fun _ => rfl) (fun _ => rfl) (funext fun z => if_neg hq) rfl rfl)
        rw [am_ce_i (t := 0) (h := am_cpi h x i y j n) y3 (Or.inl rfl), show (fun z : Nat => Int32.ofInt (am_ai (am_cpi h x i y j n) y z)) = (fun z : Nat => Int32.ofInt (if j ≤ (z : Int) ∧ (z : Int) < j + n then am_ai h x (i + (z - j)) else am_ai h y z)) from funext fun z => congrArg Int32.ofInt (if_pos rfl), am_cpy_e (f := am_ai h x) (g := am_ai h y) x4 y4 n1 x6 y6 n2] at hws
        have hws2 : (am_ws ex B tys h).set (y - 16) (B + (y - 16), .inl (am_ci tys 0, (am_c h y).2, .inl (va_cpy (fun z : Nat => Int32.ofInt (am_ai h x z)) (fun z : Nat => Int32.ofInt (am_ai h y z)) (Int32.ofInt i).toNatClampNeg (Int32.ofInt j).toNatClampNeg (Int32.ofInt n).toNatClampNeg))) = am_ws ex B tys (am_cpi h x i y j n) := hws
        rw [hws2] at hP1
        exact kk H1 locs1 ⟨hP1, h16, hS1, hs1, by rw [show am_ai (am_cpi h x i y j n) 1 = am_ai h 1 from funext fun z => if_neg (by omega)]; exact hs2, hs3, hs4⟩
      all_goals first | omega | exact hev.elim
  · have hm3 := am_kM_f _ hm
    dsimp only at hm3
    rcases hev with ⟨nL', T', k', hP', -⟩ | hev
    · rw [am_prog_none md2 (by omega)] at hP'
      cases hP'
    · have w4 := hts _ (am_tb_in (am_iMb (Cond.initialized "java/lang/Math") (by simp)) rfl)
      have w1 := hts _ (am_tb_in (am_iMa _ (List.mem_map.mpr ⟨_, hm, rfl⟩)) rfl)
      unfold am_bt at hev
      split at hev
      all_goals first | omega | skip
      · next x y =>
        obtain ⟨q1, q2, rfl, rfl⟩ := hev
        have w2 := hts _ (am_tb_in (am_iMb (Cond.static Lib.Math.min.name) (by simp)) rfl)
        have w3 := hts _ (am_tb_in (am_iMc (Cond.code Lib.Math.min.name Lib.Math.min.code 2 (some .int)) (by simp)) rfl)
        show W p l e R s m args below meth c H locs _ _ Q (F0 m pc lsR (.int (Int32.ofInt y) :: .int (Int32.ofInt x) :: rest.map (am_cv ex B)))
        refine va_mmin hx hb hls.symm hown w1 w2 w4 w3 (by omega) (by rw [am_w8_e]; omega) (by omega) (by omega) hd3 ?_
        have hz : (if Int32.ofInt y < Int32.ofInt x then Int32.ofInt y else Int32.ofInt x) = Int32.ofInt (if y < x then y else x) := by
          by_cases q : y < x
          · rw [if_pos q, if_pos ((am_lt32 q2 q1).mpr q)]
          · rw [if_neg q, if_neg (fun z => q ((am_lt32 q2 q1).mp z))]
        rw [hz]
        exact kk H locs hW
      · next x =>
        obtain ⟨q1, rfl, rfl⟩ := hev
        have w2 := hts _ (am_tb_in (am_iMb (Cond.static Lib.Math.abs.name) (by simp)) rfl)
        have w3 := hts _ (am_tb_in (am_iMc (Cond.code Lib.Math.abs.name Lib.Math.abs.code 1 (some .int)) (by simp)) rfl)
        show W p l e R s m args below meth c H locs _ _ Q (F0 m pc lsR (.int (Int32.ofInt x) :: rest.map (am_cv ex B)))
        refine va_mabs hx hb hls.symm hown w1 w2 w4 w3 (by omega) (by rw [am_w8_e]; omega) (by omega) (by omega) hd3 ?_
        have hz : (if 0 ≤ Int32.ofInt x then Int32.ofInt x else 0 - Int32.ofInt x) = Int32.ofInt (if 0 ≤ x then x else 0 - x) := by
          show (if Int32.ofInt 0 ≤ Int32.ofInt x then Int32.ofInt x else Int32.ofInt 0 - Int32.ofInt x) = _
          by_cases q : 0 ≤ x
          · rw [if_pos q, if_pos ((am_le32 am_R0 q1).mpr q)]
          · rw [if_neg q, if_neg (fun z => q ((am_le32 am_R0 q1).mp z)), Int32.ofInt_sub]
        rw [hz]
        exact kk H locs hW
      · exact hev.elim
  · rcases hev with hev | hev
    · obtain ⟨nL', T', k', hP', -, hrun⟩ := id hev
      obtain ⟨g1, g2, -⟩ := am_gd_ml hP'
      rcases hm with hm | hm
      · obtain ⟨f1, f2, -⟩ := am_k0_f _ hm
        have hM := hI md2 as h r1 h1 hW.2.1 f2 hev
        have w1 := hts _ (am_tb_in (am_i0a _ (List.mem_map.mpr ⟨_, hm, rfl⟩)) rfl)
        have w2 := hts _ (am_tb_in (am_i0b _ (List.mem_map.mpr ⟨_, hm, rfl⟩)) rfl)
        have hrn := va_runS (H := H) (locs := locs) (cells := am_n h - n0) (slots := am_sl h - s0) (g := F0 m pc lsR ((as.reverse ++ rest).map (am_cv ex B))) (below := below) (e := e) (meth := meth) (As := as.map (am_cv ex B)) (rest := rest.map (am_cv ex B)) ⟨hx, hb, hml, hown, hts⟩ hM ⟨am_CB (R := R) hts f1 f2 w1 hnar g2 hR, w2⟩ ⟨am_Pu.blind hSS, am_pre (by omega) hSS hs hK hN hW hsz⟩ rfl (by rw [List.length_map]; exact hlen) (hls.trans hml) am_stk (lv_room (by rw [am_w8_e]; exact h8)) hd3 ⟨by omega, by omega⟩
        exact am_call_fin hrn hW hk hn0.2 hs0 kk
      · obtain ⟨f1, f2, -⟩ := am_k0n_f _ hm
        have hM := hI md2 as h r1 h1 hW.2.1 f2 hev
        have w1 := va_Nw.use (A := args) rfl (hN _ (List.mem_append_left _ (List.mem_map.mpr ⟨_, hm, rfl⟩)))
        have w2 := hts _ (am_tb_in (am_i0d _ (List.mem_map.mpr ⟨_, hm, rfl⟩)) rfl)
        have hrn := va_runSN (H := H) (locs := locs) (cells := am_n h - n0) (slots := am_sl h - s0) (g := F0 m pc lsR ((as.reverse ++ rest).map (am_cv ex B))) (below := below) (e := e) (meth := meth) (As := as.map (am_cv ex B)) (rest := rest.map (am_cv ex B)) ⟨hx, hb, hml, hown, hts⟩ hM ⟨am_CNt (R := R) hts f1 f2 w1 hnar g2 hR, w2, trivial⟩ ⟨am_Pu.blind hSS, am_pre (by omega) hSS hs hK hN hW hsz⟩ rfl (by rw [List.length_map]; exact hlen) (hls.trans hml) am_stk (lv_room (by rw [am_w8_e]; exact h8)) hd3 ⟨by omega, by omega⟩
        exact am_call_fin hrn hW hk hn0.2 hs0 kk
    · have := am_bt_ge hev
      rcases hm with hm | hm
      · have := (am_k0_f _ hm).1
        dsimp only at this
        omega
      · have := (am_k0n_f _ hm).1
        dsimp only at this
        omega
theorem am_stk2 {r : Nat} {as' rest : List am_V} (hr : 16 ≤ r) : ((.inr (.inr r) :: as').reverse ++ rest).map (am_cv ex B) = (as'.map (am_cv ex B)).reverse ++ .ref (B + (r - 16)) :: rest.map (am_cv ex B) := by
  rw [List.reverse_cons, List.append_assoc, List.map_append, List.map_reverse]
  show (as'.map (am_cv ex B)).reverse ++ am_cv ex B (.inr (.inr r)) :: rest.map (am_cv ex B) = _
  rw [am_cv_hi hr]
theorem am_stk3 {r : Nat} {as' : List am_V} (hr : 16 ≤ r) : (.inr (.inr r) :: as' : List am_V).map (am_cv ex B) = .ref (B + (r - 16)) :: as'.map (am_cv ex B) := by rw [List.map_cons, am_cv_hi hr]
set_option maxHeartbeats 4000000 in
/-- a call of a constructor -/
theorem am_call1 {d md pc nx a b md2 z n0 s0 nL : Nat} {k : Int} {ini : Bool} {ret : Option FieldType} {idx r : Nat} {as as' rest : List am_V} {h h1 : am_H} {r1 : Option am_V} (has : as = .inr (.inr r) :: as') (hr : 16 ≤ r) (hE : am_E p s m args c md) (hK : am_Kx D tys s) (hN : am_Nx s) (hSS : am_SS S B) (hs : S s) (hI : am_Snd l S D tys ex B d) (hd : decode (am_mb md) pc = .ok (.invokespecial idx, nx - pc)) (he : am_ek (am_mo md) nL ini ret pc (.invokespecial idx) nx a b k [(z, md2)] = true) (hlen : as.length = b) (h8 : am_w8 rest ≤ 8) (hev : am_ev am_prog (d + 1) md2 as h r1 h1) (hls : lsR.size = c.maxLocals) (hW : am_Wd D tys ex B s h H locs) (hn0 : 16 ≤ n0 ∧ n0 ≤ am_n h) (hs0 : s0 ≤ am_sl h) (hB : s.heap.size = B + (n0 - 16)) (hR : d + 1 ≤ R.frames ∧ 34 * (d + 1) ≤ R.locals) (hC : am_n h1 - n0 ≤ R.cells ∧ am_sl h1 - s0 ≤ R.slots)
    (kk : ∀ H' locs', am_Wd D tys ex B s h1 H' locs' → W p l e R s m args below meth c H' locs' (am_n h1 - n0) (am_sl h1 - s0) Q (F0 m nx lsR ((am_bk r1 rest).map (am_cv ex B)))) : W p l e R s m args below meth c H locs (am_n h - n0) (am_sl h - s0) Q (F0 m pc lsR ((as.reverse ++ rest).map (am_cv ex B))) := by
  subst has
  obtain ⟨hx, hb, hml, hown, hts⟩ := hE
  simp only [am_ek, beq_iff_eq, Bool.and_eq_true, Bool.or_eq_true, decide_eq_true_eq] at he
  obtain ⟨he, ha⟩ := he
  subst he
  have hk := am_ev_keep _ _ _ _ _ _ hW.2.1 hev
  have hk1 := hk.1
  have hk2 := hk.2.1
  have hd3 : decode (am_mb md) pc = .ok (.invokespecial idx, 3) := am_ld hd rfl
  have hst := am_stk2 (ex := ex) (B := B) (as' := as') (rest := rest) hr
  refine am_size (fun hle => ?_)
  have hsz := am_sz hW hn0 hB hle
  rcases ha with ⟨rfl, hm⟩ | ⟨⟨hm, hb1⟩, hnar⟩
  · rcases hev with ⟨nL', T', k', hP', -⟩ | hev
    · rw [am_prog_none 1005 (by decide)] at hP'
      cases hP'
    · have w1 := hts _ (am_tb_in (am_i1c _ (List.mem_map.mpr ⟨_, hm, rfl⟩)) rfl)
      have w2 := hts _ (am_tb_in (am_i1d (Cond.instanceMethod objectInit) (by simp)) rfl)
      have w3 := hts _ (am_tb_in (am_i1d (Cond.code objectInit ⟨#[0xb1]⟩ 1 none) (by simp)) rfl)
      unfold am_bt at hev
      split at hev
      all_goals first | omega | (exact absurd ‹_› (by decide)) | skip
      · next x heq =>
        obtain ⟨-, rfl, rfl⟩ := hev
        simp only [List.cons.injEq, Sum.inr.injEq] at heq
        obtain ⟨rfl, rfl⟩ := heq
        rw [hst]
        refine W.objInit hx hb hown w1 w2 w3 rfl hls rfl hd3 (by omega) (by show 2 * 0 + _ + 12 ≤ _; rw [am_w8_e]; omega) ?_
        exact kk H locs hW
  · have hlen' : as'.length = b - 1 := by rw [List.length_cons] at hlen; omega
    rcases hev with hev | hev
    · obtain ⟨nL', T', k', hP', -, hrun⟩ := id hev
      obtain ⟨g1, g2, -⟩ := am_gd_ml hP'
      rcases hm with hm | hm
      · obtain ⟨f1, f2, -, f4, f5⟩ := am_k1_f _ hm
        dsimp only at f1 f2 f4 f5
        have hM := hI md2 _ h r1 h1 hW.2.1 f2 hev
        have w1 := hts _ (am_tb_in (am_i1a _ (List.mem_map.mpr ⟨_, hm, rfl⟩)) rfl)
        have w2 := hts _ (am_tb_in (am_i1b _ (List.mem_map.mpr ⟨_, hm, rfl⟩)) rfl)
        have cb := am_CB (R := R) (h := h) (h' := h1) hts f1 f2 w1 hnar g2 hR
        rw [f4] at cb
        have pre := am_pre (as := .inr (.inr r) :: as') (by omega) hSS hs hK hN hW hsz
        rw [am_stk3 hr] at pre
        have hrn := va_runI (H := H) (locs := locs) (cells := am_n h - n0) (slots := am_sl h - s0) (g := F0 m pc lsR (((.inr (.inr r) :: as').reverse ++ rest).map (am_cv ex B))) (below := below) (e := e) (meth := meth) (b := B + (r - 16)) (As := as'.map (am_cv ex B)) (rest := rest.map (am_cv ex B)) ⟨hx, hb, hml, hown, hts⟩ hM ⟨cb, f5, w2⟩ ⟨am_Pu.blind hSS, pre⟩ rfl (by rw [List.length_map]; exact hlen') (hls.trans hml) hst (lv_room (by rw [am_w8_e]; exact h8)) hd3 ⟨by omega, by omega⟩
        exact am_call_fin hrn hW hk hn0.2 hs0 kk
      · obtain ⟨f1, f2, -, f4, f5⟩ := am_k1n_f _ hm
        dsimp only at f1 f2 f4 f5
        have hM := hI md2 _ h r1 h1 hW.2.1 f2 hev
        have w1 := va_Nw.use (A := args) rfl (hN _ (List.mem_append_right _ (List.mem_append_left _ (List.mem_map.mpr ⟨_, hm, rfl⟩))))
        have w2 := hts _ (am_tb_in (am_i1f _ (List.mem_map.mpr ⟨_, hm, rfl⟩)) rfl)
        have cb := am_CNt (R := R) (h := h) (h' := h1) hts f1 f2 w1 hnar g2 hR
        rw [f4] at cb
        have pre := am_pre (as := .inr (.inr r) :: as') (by omega) hSS hs hK hN hW hsz
        rw [am_stk3 hr] at pre
        have hrn := va_runIN (H := H) (locs := locs) (cells := am_n h - n0) (slots := am_sl h - s0) (g := F0 m pc lsR (((.inr (.inr r) :: as').reverse ++ rest).map (am_cv ex B))) (below := below) (e := e) (meth := meth) (b := B + (r - 16)) (As := as'.map (am_cv ex B)) (rest := rest.map (am_cv ex B)) ⟨hx, hb, hml, hown, hts⟩ hM ⟨cb, f5, w2⟩ ⟨am_Pu.blind hSS, pre⟩ rfl (by rw [List.length_map]; exact hlen') (hls.trans hml) hst (lv_room (by rw [am_w8_e]; exact h8)) hd3 ⟨by omega, by omega⟩
        exact am_call_fin hrn hW hk hn0.2 hs0 kk
    · have := am_bt_ge hev
      rcases hm with hm | hm
      · have := (am_k1_f _ hm).1
        dsimp only at this
        omega
      · have := (am_k1n_f _ hm).1
        dsimp only at this
        omega
set_option maxHeartbeats 4000000 in
/-- a call by the receiver -/
theorem am_call2 {d md pc nx a b md2 ci n0 s0 nL : Nat} {ini : Bool} {ret : Option FieldType} {idx r : Nat} {al : List (Nat × Nat)} {as as' rest : List am_V} {h h1 : am_H} {r1 : Option am_V} (has : as = .inr (.inr r) :: as') (hok : am_ok h r ci) (hmem : (ci, md2) ∈ al) (hE : am_E p s m args c md) (hK : am_Kx D tys s) (hN : am_Nx s) (hSS : am_SS S B) (hs : S s) (hI : am_Snd l S D tys ex B d) (hd : decode (am_mb md) pc = .ok (.invokevirtual idx, nx - pc)) (he : am_ek (am_mo md) nL ini ret pc (.invokevirtual idx) nx a b 0 al = true) (hlen : as.length = b) (h8 : am_w8 rest ≤ 8) (hev : am_ev am_prog (d + 1) md2 as h r1 h1) (hls : lsR.size = c.maxLocals) (hW : am_Wd D tys ex B s h H locs) (hn0 : 16 ≤ n0 ∧ n0 ≤ am_n h) (hs0 : s0 ≤ am_sl h) (hB : s.heap.size = B + (n0 - 16)) (hR : d + 1 ≤ R.frames ∧ 34 * (d + 1) ≤ R.locals) (hC : am_n h1 - n0 ≤ R.cells ∧ am_sl h1 - s0 ≤ R.slots)
    (kk : ∀ H' locs', am_Wd D tys ex B s h1 H' locs' → W p l e R s m args below meth c H' locs' (am_n h1 - n0) (am_sl h1 - s0) Q (F0 m nx lsR ((am_bk r1 rest).map (am_cv ex B)))) : W p l e R s m args below meth c H locs (am_n h - n0) (am_sl h - s0) Q (F0 m pc lsR ((as.reverse ++ rest).map (am_cv ex B))) := by
  subst has
  obtain ⟨hx, hb, hml, hown, hts⟩ := hE
  obtain ⟨hr, hr2, hr3⟩ := hok
  simp only [am_ek, beq_iff_eq, Bool.and_eq_true, decide_eq_true_eq, List.all_eq_true, Bool.or_eq_true] at he
  obtain ⟨⟨he, hb1⟩, ha⟩ := he
  subst he
  obtain ⟨hm, hnar⟩ := ha _ hmem
  dsimp only at hm hnar
  have hk := am_ev_keep _ _ _ _ _ _ hW.2.1 hev
  have hk1 := hk.1
  have hk2 := hk.2.1
  have hd3 : decode (am_mb md) pc = .ok (.invokevirtual idx, 3) := am_ld hd rfl
  have hst := am_stk2 (ex := ex) (B := B) (as' := as') (rest := rest) hr
  have hlen' : as'.length = b - 1 := by rw [List.length_cons] at hlen; omega
  refine am_size (fun hle => ?_)
  have hsz := am_sz hW hn0 hB hle
  have pre := am_pre (as := .inr (.inr r) :: as') (by omega) hSS hs hK hN hW hsz
  rw [am_stk3 hr] at pre
  have hlt : ci < 11 → am_cls[ci]? = some (am_onm ci, am_ft ci, (am_fld ci).length) := am_cls_at
  have hrv : ∀ hc : ci < 11, ∃ cell : Cell, H[B + (r - 16)]? = some cell ∧ cell.vm.isStatics = false ∧ s.vm.findClass (am_onm ci) = some cell.cls := fun hc => va_recv hK.1 hW.1 (ci := ci) (q := (am_onm ci, am_ft ci, (am_fld ci).length)) (q0 := r - 16) (am_cls_at hc) ((am_ws_get hr hr2).trans (by rw [am_ce_o hr3 hc]))
  rcases hev with hev | hev
  · obtain ⟨nL', T', k', hP', -, hrun⟩ := id hev
    obtain ⟨g1, g2, -⟩ := am_gd_ml hP'
    rcases hm with (hm | hm) | hm
    · obtain ⟨f1, f2, -, f4, f5⟩ := am_k2_f _ hm
      dsimp only at f1 f2 f4 f5
      have hM := hI md2 _ h r1 h1 hW.2.1 f2 hev
      have w1 := hts _ (am_tb_in (am_i2a _ (List.mem_map.mpr ⟨_, hm, rfl⟩)) rfl)
      have w2 := hts _ (am_tb_in (am_i2b _ (List.mem_map.mpr ⟨_, hm, rfl⟩)) rfl)
      have w3 := hts _ (am_tb_in (am_i2c _ (List.mem_map.mpr ⟨_, hm, rfl⟩)) rfl)
      dsimp only at w1 w2 w3
      have cb := am_CB (R := R) (h := h) (h' := h1) hts f1 f2 w1 hnar g2 hR
      have hrn := va_runV (H := H) (locs := locs) (cells := am_n h - n0) (slots := am_sl h - s0) (g := F0 m pc lsR (((.inr (.inr r) :: as').reverse ++ rest).map (am_cv ex B))) (below := below) (e := e) (meth := meth) (b := B + (r - 16)) (As := as'.map (am_cv ex B)) (rest := rest.map (am_cv ex B)) ⟨hx, hb, hml, hown, hts⟩ hM ⟨cb, w2, w3⟩ ⟨am_Pu.blind hSS, hrv f4, pre⟩ rfl (by rw [List.length_map]; exact hlen') (hls.trans hml) hst (lv_room (by rw [am_w8_e]; exact h8)) hd3 ⟨by omega, by omega⟩
      exact am_call_fin hrn hW hk hn0.2 hs0 kk
    · obtain ⟨f1, f2, -, f4, f5⟩ := am_kU_f _ hm
      dsimp only at f1 f2 f4 f5
      obtain ⟨q1, q2, q3, q4, -⟩ := am_mf md2 f1 f2 (by omega)
      have hM := hI md2 _ h r1 h1 hW.2.1 f2 hev
      have hc := am_codeIn md2 f1 f2
      have w1 := hts _ (am_tb_in (am_iUa _ (List.mem_map.mpr ⟨_, hm, rfl⟩)) rfl)
      have w2 := hts _ (am_tb_in (am_iUb _ (List.mem_map.mpr ⟨_, hm, rfl⟩)) rfl)
      have w3 := hts _ (am_tb_in (am_iUc _ (List.mem_map.mpr ⟨_, hm, rfl⟩)) rfl)
      have w4 := hts _ (am_tb_in (am_iUd _ (List.mem_map.mpr ⟨_, hm, rfl⟩)) rfl)
      dsimp only at w1 w2 w3 w4
      have w5 := hts _ hc
      have hde : va_Decl s ⟨"MappingText$Sink", "putNumber", "(I)V"⟩ := by
        rw [← f5]
        exact va_Decl.of w4 w5
      have cb : va_CU R s args (am_onm (am_mo md)) (am_onm ci) "MappingText$Sink" idx ⟨am_onm ci, "putNumber", "(I)V"⟩ (am_my md2) (am_mb md2) (am_ml md2) (am_mr md2) (am_wd md2) (am_rm d h h1) (am_n h1 - am_n h) (am_sl h1 - am_sl h) (b - 1) := ⟨⟨rfl, rfl, hR.1, by show 8 + (am_ml md2 + 11) + 34 * d ≤ R.locals; omega, am_wgood hts hc, List.mem_cons_self⟩, w5, am_ini_at hts f1 f2, ⟨by decide, by decide⟩, fun sig hsig => am_nar_e hnar sig (by rw [f5]; exact hsig), w1, w2, hde, w3, w4⟩
      have hrn := va_runU (H := H) (locs := locs) (cells := am_n h - n0) (slots := am_sl h - s0) (g := F0 m pc lsR (((.inr (.inr r) :: as').reverse ++ rest).map (am_cv ex B))) (below := below) (e := e) (meth := meth) (b := B + (r - 16)) (As := as'.map (am_cv ex B)) (rest := rest.map (am_cv ex B)) ⟨hx, hb, hml, hown, hts⟩ hM cb ⟨am_Pu.blind hSS, hrv f4, pre⟩ rfl (by rw [List.length_map]; exact hlen') (hls.trans hml) hst (lv_room (by rw [am_w8_e]; exact h8)) hd3 ⟨by omega, by omega⟩
      exact am_call_fin hrn hW hk hn0.2 hs0 kk
    · obtain ⟨f1, f2, -, f4, f5⟩ := am_kV_f _ hm
      dsimp only at f1 f2 f4 f5
      have hM := hI md2 _ h r1 h1 hW.2.1 f2 hev
      have hc := am_codeIn md2 f1 f2
      have w1 := hts _ (am_tb_in (am_iVa _ (List.mem_map.mpr ⟨_, hm, rfl⟩)) rfl)
      have w2 := hts _ (am_tb_in (am_iVb _ (List.mem_map.mpr ⟨_, hm, rfl⟩)) rfl)
      have w3 := hts _ (am_tb_in (am_iVc _ (List.mem_map.mpr ⟨_, hm, rfl⟩)) rfl)
      have w4 := hts _ (am_tb_in (am_iVd _ (List.mem_map.mpr ⟨_, hm, rfl⟩)) rfl)
      dsimp only at w1 w2 w3 w4
      have w5 := hts _ hc
      have hde : va_Decl s ⟨"MappingText$Sink", "put", "(I)V"⟩ := va_Decl.abs (hN _ (List.mem_append_right _ (List.mem_append_right _ (List.mem_singleton.mpr rfl))))
      have cb : va_CU R s args (am_onm (am_mo md)) (am_onm ci) "MappingText$Sink" idx ⟨"MappingText$Sink", "put", "(I)V"⟩ (am_my md2) (am_mb md2) (am_ml md2) (am_mr md2) (am_wd md2) (am_rm d h h1) (am_n h1 - am_n h) (am_sl h1 - am_sl h) (b - 1) := ⟨⟨rfl, rfl, hR.1, by show 8 + (am_ml md2 + 11) + 34 * d ≤ R.locals; omega, am_wgood hts hc, List.mem_cons_self⟩, w5, am_ini_at hts f1 f2, ⟨by decide, by decide⟩, fun sig hsig => am_nar_e hnar sig (by rw [f5]; exact hsig), w1, w2, hde, w3, w4⟩
      have hrn := va_runU (H := H) (locs := locs) (cells := am_n h - n0) (slots := am_sl h - s0) (g := F0 m pc lsR (((.inr (.inr r) :: as').reverse ++ rest).map (am_cv ex B))) (below := below) (e := e) (meth := meth) (b := B + (r - 16)) (As := as'.map (am_cv ex B)) (rest := rest.map (am_cv ex B)) ⟨hx, hb, hml, hown, hts⟩ hM cb ⟨am_Pu.blind hSS, hrv f4, pre⟩ rfl (by rw [List.length_map]; exact hlen') (hls.trans hml) hst (lv_room (by rw [am_w8_e]; exact h8)) hd3 ⟨by omega, by omega⟩
      exact am_call_fin hrn hW hk hn0.2 hs0 kk
  · have := am_bt_ge hev
    rcases hm with (hm | hm) | hm
    · have := (am_k2_f _ hm).1
      dsimp only at this
      omega
    · have := (am_kU_f _ hm).1
      dsimp only at this
      omega
    · have := (am_kV_f _ hm).1
      dsimp only at this
      omega
end AMJ
