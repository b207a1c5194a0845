-- the texts: String constants, length() and charAt()
abbrev sx_ln : MethodName := ⟨"java/lang/String", "length", "()I"⟩
abbrev sx_co : MethodName := ⟨"java/lang/String", "coder", "()B"⟩
abbrev sx_ch : MethodName := ⟨"java/lang/String", "charAt", "(I)C"⟩
abbrev sx_la : MethodName := ⟨"java/lang/String", "isLatin1", "()Z"⟩
abbrev sx_l1 : MethodName := ⟨"java/lang/StringLatin1", "charAt", "([BI)C"⟩
abbrev sx_ci : MethodName := ⟨"java/lang/String", "checkIndex", "(II)V"⟩
abbrev sx_pc : MethodName := ⟨"jdk/internal/util/Preconditions", "checkIndex", "(IILjava/util/function/BiFunction;)I"⟩
def sx_w : List Cond := [Cond.code sx_ln prog_17_method_54_code 1 (some .int), Cond.methodLink "MappingText$Printed" 82 sx_ln, Cond.instanceMethod sx_ln, Cond.selects "java/lang/String" sx_ln sx_ln,
  Cond.code sx_co prog_17_method_152_code 1 (some .byte), Cond.methodLink "java/lang/String" 335 sx_co, Cond.instanceMethod sx_co, Cond.selects "java/lang/String" sx_co sx_co,
  Cond.code sx_ch prog_17_method_56_code 2 (some .char), Cond.methodLink "MappingText$Printed" 87 sx_ch, Cond.instanceMethod sx_ch, Cond.selects "java/lang/String" sx_ch sx_ch,
  Cond.code sx_la prog_17_method_154_code 1 (some .boolean), Cond.methodLink "java/lang/String" 492 sx_la, Cond.instanceMethod sx_la, Cond.selects "java/lang/String" sx_la sx_la,
  Cond.code sx_l1 prog_18_method_2_code 2 (some .char), Cond.methodLink "java/lang/String" 495 sx_l1, Cond.static sx_l1,
  Cond.code sx_ci prog_17_method_155_code 2 none, Cond.methodLink "java/lang/StringLatin1" 9 sx_ci, Cond.static sx_ci,
  Cond.code sx_pc prog_22_method_11_code 3 (some .int), Cond.methodLink "java/lang/String" 1059 sx_pc, Cond.static sx_pc,
  Cond.fieldLink "java/lang/String" 38 "java/lang/String" "COMPACT_STRINGS" "Z", Cond.laysStatic "java/lang/String" "COMPACT_STRINGS" "Z",
  Cond.fieldLink "java/lang/String" 1053 "jdk/internal/util/Preconditions" "SIOOBE_FORMATTER" "Ljava/util/function/BiFunction;", Cond.laysStatic "jdk/internal/util/Preconditions" "SIOOBE_FORMATTER" "Ljava/util/function/BiFunction;",
  Cond.fieldLink "java/lang/String" 9 "java/lang/String" "value" "[B", Cond.fieldLink "java/lang/String" 15 "java/lang/String" "coder" "B",
  Cond.initialized "java/lang/String", Cond.initialized "java/lang/StringLatin1", Cond.initialized "jdk/internal/util/Preconditions",
  Cond.stringRef "MappingText$Printed" 19 "map", Cond.stringRef "MappingText$Printed" 34 ":", Cond.stringRef "MappingText$Printed" 54 "of", Cond.stringRef "MappingText$Printed" 59 "by", Cond.stringRef "MappingText$Printed" 118 "if", Cond.stringRef "MappingText$Printed" 121 "null", Cond.stringRef "MappingText$Printed" 77 "in"]
set_option maxRecDepth 100000 in
theorem sx_in : ∀ w ∈ sx_w, w ∈ lw_tbl := am_pos [774, 771, 772, 773, 778, 775, 776, 777, 784, 781, 782, 783, 788, 785, 786, 787, 791, 789, 790, 794, 792, 793, 799, 797, 798, 779, 780, 795, 796, 1248, 1249, 87, 88, 89, 766, 827, 839, 840, 845, 847, 848] (by decide +kernel)
theorem sx_l {w : Cond} (n : Nat) (h : sx_w[n]? = some w) : w ∈ lw_tbl := sx_in w (List.mem_of_getElem? h)
theorem sx_at {w : Cond} (n : Nat) (h : sx_w[n]? = some w) (hg : goodWord w = true) : w ∈ am_tb := am_tb_in (sx_l n h) hg
def sx_len : List Nat := [3, 1, 2, 2, 2, 4, 2]
def sx_byt : List (List Int32) := [[109, 97, 112], [58], [111, 102], [98, 121], [105, 102], [110, 117, 108, 108], [105, 110]]
def sx_k : List Nat := [19, 34, 54, 59, 118, 121, 77]
def sx_t : List String := ["map", ":", "of", "by", "if", "null", "in"]
def sx_S (ex adV : Nat → Nat) (fm : Value) (B : Nat) (U : State) : Prop := (∀ i : Nat, i < 7 → vk_R "MappingText$Printed" (sx_k.getD i 0) (sx_t.getD i "") (ex (i + 2)) U) ∧ vk_S 7 sx_len sx_byt (fun i => ex (i + 2)) adV (fun q => B ≤ q) U U.heap ∧ va_Z "java/lang/String" "COMPACT_STRINGS" "Z" (.int 1) (fun q => B ≤ q) U U.heap ∧ va_Z "jdk/internal/util/Preconditions" "SIOOBE_FORMATTER" "Ljava/util/function/BiFunction;" fm (fun q => B ≤ q) U U.heap
theorem sx_SS {ex adV : Nat → Nat} {fm : Value} {B : Nat} : am_SS (sx_S ex adV fm B) B := by
  refine ⟨fun s U hW hq h => ?_, fun U g mk a h => ?_⟩
  · obtain ⟨h1, h2, h3, h4⟩ := h
    have hk : ∀ a : Nat, a < s.heap.size → ¬ B ≤ a → U.heap[a]? = s.heap[a]? := fun a _ hb => hq a (by omega)
    exact ⟨fun i hi => (h1 i hi).warm hW, (h2.moved hW.alike).kept hk, (h3.moved hW.alike).kept hk, (h4.moved hW.alike).kept hk⟩
  · obtain ⟨h1, h2, h3, h4⟩ := h
    exact ⟨fun i hi => vk_R.same (u := U) (U := U.calling g mk a) rfl (h1 i hi), vk_S.moved (u := U) (U := U.calling g mk a) (Vm.Alike.refl U.vm) h2, va_Z.moved (u := U) (U := U.calling g mk a) (Vm.Alike.refl U.vm) h3, va_Z.moved (u := U) (U := U.calling g mk a) (Vm.Alike.refl U.vm) h4⟩
def sx_rm (k : Nat) : Room := { frames := k, cells := 0, slots := 0, locals := 34 * k }
def sx_P (S : State → Prop) (as : List Value) : Array Value → State → Prop := fun v U => v = as.toArray ∧ S U
def sx_Q (r : Option Value) : Array Value → State → Outcome → State → Prop := fun _ st o t => o = .returned r ∧ t.heap = st.heap
theorem sx_bl {S : State → Prop} {B : Nat} (hS : am_SS S B) {as : List Value} : FrameBlind (sx_P S as) := fun a U g mk h => ⟨h.1, hS.2 U g mk a h.2⟩
section SXT
variable {p : Program} {l : Launch} {e : Env} {R : Room} {s : State} {m : MethodId} {args : Array Value} {below : List Frame} {meth : Method} {c : Code} {H : Heap} {locs : List Loc} {cells slots : Nat} {Q : State → Prop} {lsR : Array Slot} {ex adV : Nat → Nat} {B : Nat} {fm : Value} {S : State → Prop}
theorem sx_Y {pc : Nat} {st0 rest : List Value} {r : Option Value} {a : Array Value} (hr : va_Run p l e R s m args below meth c H locs cells slots 0 0 (F0 m pc lsR st0) rest (sx_Q r a) (fun _ => False)) (kk : W p l e R s m args below meth c H locs cells slots Q (F0 m (pc + 3) lsR (r.toList ++ rest))) : W p l e R s m args below meth c H locs cells slots Q (F0 m pc lsR st0) := by
  refine am_callY hr (fun v st t L h0 hq hL => ?_)
  have hLn : L = [] := by
    cases L with
    | nil => rfl
    | cons x w => exact (hL x (List.mem_cons_self ..)).elim
  subst hLn
  obtain ⟨q1, q2⟩ := hq
  have hv : v = r := Outcome.returned.inj q1
  subst hv
  rw [q2, h0, List.append_nil]
  exact kk
theorem sx_good {w : Cond} (hts : ∀ w ∈ am_tb, w.before args s = true) (hc : w ∈ am_tb) : ∀ x ∈ w :: am_tb, ∀ (a' : Array Value) (U : State), s.WarmedH U.vm → x.before a' U = true := by
  intro x hx a' U hv
  have hw2 : x ∈ am_tb := (List.mem_cons.mp hx).elim (fun q => q ▸ hc) id
  exact word_at hv (good_of_word (List.mem_filter.mp hw2).2) (hts x hw2)
/-- what a call of such a method asks of its words -/
theorem sx_CB {y : MethodName} {bytes : ByteArray} {maxL k n idx : Nat} {ret : Option FieldType} {own : String} (hts : ∀ w ∈ am_tb, w.before args s = true) (hc : Cond.code y bytes maxL ret ∈ am_tb) (hi : Cond.initialized y.cls ∈ am_tb) (hl : Cond.methodLink own idx y ∈ am_tb) (hn : (parseMethodDescriptor y.desc).map (fun d => d.parameters.length) = some n) (hy : y.cls ≠ "java/lang/invoke/MethodHandle" ∧ y.cls ≠ "java/lang/invoke/VarHandle") (h15 : maxL ≤ 15) (hR : k + 1 ≤ R.frames ∧ 34 * (k + 1) ≤ R.locals) : CallB R s args own idx y bytes maxL ret (Cond.code y bytes maxL ret :: am_tb) (sx_rm k) 0 0 n := by
  refine ⟨rfl, rfl, hR.1, by show 8 + (maxL + 11) + 34 * k ≤ R.locals; omega, sx_good hts hc, List.mem_cons_self, hts _ hc, hts _ hi, hy, fun sig h => ?_, hts _ hl⟩
  rw [h] at hn
  exact (Option.some.inj hn).symm
theorem sx_pre {as : List Value} (hs : sx_S ex adV fm B s) (hW : va_S (fun q => B ≤ q) s.heap H locs) : ∀ U : State, U.heap = H → s.WarmedH U.vm → sx_P (sx_S ex adV fm B) as as.toArray U := by
  intro U hU hv
  obtain ⟨h1, h2, h3, h4⟩ := hs
  have hk : ∀ a : Nat, a < s.heap.size → ¬ B ≤ a → U.heap[a]? = s.heap[a]? := fun a h0 hb => by
    rw [hU]
    exact hW.2.1 a h0 hb
  exact ⟨rfl, fun i hi => (h1 i hi).warm hv, (h2.moved hv.alike).kept hk, (h3.moved hv.alike).kept hk, (h4.moved hv.alike).kept hk⟩
set_option maxHeartbeats 4000000 in
theorem sx_mPc {k n : Int32} (h0 : ¬ k < 0) (h1 : k < n) (hf : fm.isRef = true) : Met l sx_pc (Cond.code sx_pc prog_22_method_11_code 3 (some .int) :: am_tb) (sx_rm 0) (sx_P S [.int k, .int n, fm]) (sx_Q (some (.int k))) 0 0 (fun _ => False) := by
  refine Met.ofW (cc := prog_22_method_11_code) (maxL := 3) (ret := some .int) (by decide) rfl ?_
  intro p e s m args below meth c s₁ Bd hml hv
  obtain ⟨rfl, hS⟩ := hv
  have hx := Bd.exec
  have hb := Bd.bytes
  have hr := Bd.returns
  have hlocks := Bd.notSynchronized
  have hlen : (lg_sl [Value.int k, Value.int n, fm]).length ≤ 3 := by cases fm <;> first | exact Nat.le_refl _ | cases hf
  have hl0 := lv_entry [Value.int k, Value.int n, fm] (n := 3) hlen
  rw [lg_entry_eq]
  generalize (lg_sl [Value.int k, Value.int n, fm] ++ List.replicate (3 - (lg_sl [Value.int k, Value.int n, fm]).length) Slot.unset).toArray = lsR at hl0 ⊢
  have g0 : lsR[0]? = some (.val (.int k)) := lv_at hl0 0 rfl
  have g1 : lsR[1]? = some (.val (.int n)) := lv_at hl0 1 rfl
  refine lv_iload_n (k := 0) hx hb (by decide +kernel) rfl g0 ?_
  refine lv_if_lt hx hb (off := 8) (tgt := 9) (by decide +kernel) rfl (fun z => absurd z h0) (fun _ => ?_)
  refine lv_iload_n (k := 0) hx hb (by decide +kernel) rfl g0 ?_
  refine lv_iload_n (k := 1) hx hb (by decide +kernel) rfl g1 ?_
  refine lv_icmp_lt hx hb (off := 10) (tgt := 16) (by decide +kernel) rfl (fun _ => ?_) (fun z => absurd h1 z)
  refine lv_iload_n (k := 0) hx hb (by decide +kernel) rfl g0 ?_
  exact W.iret (v := k) hx hb hr (fun t ht _ => ⟨rfl, ht⟩) (fun q hq => by cases hq) (by decide +kernel)
set_option maxHeartbeats 4000000 in
theorem sx_mCi {k n : Int32} (h0 : ¬ k < 0) (h1 : k < n) (hf : fm.isRef = true) : Met l sx_ci (Cond.code sx_ci prog_17_method_155_code 2 none :: am_tb) (sx_rm 1) (sx_P (sx_S ex adV fm B) [.int k, .int n]) (sx_Q none) 0 0 (fun _ => False) := by
  refine Met.ofW (cc := prog_17_method_155_code) (maxL := 2) (ret := none) (by decide) rfl ?_
  intro p e s m args below meth c s₁ Bd hml hv
  obtain ⟨rfl, hS⟩ := hv
  have hx := Bd.exec
  have hb := Bd.bytes
  have hr := Bd.returns
  have hlocks := Bd.notSynchronized
  have hts : ∀ w ∈ am_tb, w.before [Value.int k, Value.int n].toArray s = true := fun w hw => atoms_spec (ws := Cond.code sx_ci prog_17_method_155_code 2 none :: am_tb) Bd.pre w (List.mem_cons_of_mem _ hw)
  have hown : s.vm.findClass "java/lang/String" = some m.cls := findClass_of_methodNamed Bd.named
  have hl0 := lv_entry [Value.int k, Value.int n] (n := 2) (Nat.le_refl 2)
  rw [lg_entry_eq]
  generalize (lg_sl [Value.int k, Value.int n] ++ List.replicate (2 - (lg_sl [Value.int k, Value.int n]).length) Slot.unset).toArray = lsR at hl0 ⊢
  have g0 : lsR[0]? = some (.val (.int k)) := lv_at hl0 0 rfl
  have g1 : lsR[1]? = some (.val (.int n)) := lv_at hl0 1 rfl
  refine lv_iload_n (k := 0) hx hb (by decide +kernel) rfl g0 ?_
  refine lv_iload_n (k := 1) hx hb (by decide +kernel) rfl g1 ?_
  refine va_gets hx hb hS.2.2.2 va_S.rf hown (hts _ (sx_at 27 rfl rfl)) (fun _ h => h) (by decide +kernel) ?_
  have hrn := va_runS (H := s.heap) (locs := []) (cells := 0) (slots := 0) (g := F0 m 5 lsR [fm, .int n, .int k]) (below := below) (e := e) (meth := meth) (As := [.int k, .int n, fm]) (rest := []) ⟨hx, hb, hml, hown, hts⟩ (sx_mPc (l := l) (S := sx_S ex adV fm B) h0 h1 hf) ⟨sx_CB (R := sx_rm 1) (k := 0) (n := 3) hts (sx_at 22 rfl rfl) (sx_at 33 rfl rfl) (sx_at 23 rfl rfl) (by decide) ⟨by decide, by decide⟩ (by decide) ⟨Nat.le_refl _, Nat.le_refl _⟩, hts _ (sx_at 24 rfl rfl)⟩ ⟨sx_bl sx_SS, sx_pre hS va_S.rf⟩ rfl rfl hl0.1 rfl (lv_room (by decide)) (show decode prog_17_method_155_code 5 = .ok (.invokestatic 1059, 3) from by decide +kernel) ⟨Nat.le_refl _, Nat.le_refl _⟩
  refine sx_Y hrn ?_
  refine lv_pop hx hb (by decide +kernel) rfl ?_
  exact W.vret hx hb hr (fun t ht _ => ⟨rfl, ht⟩) (fun q hq => by cases hq) (by decide +kernel)
theorem sx_bs : ∀ i, i < 7 → ∀ j, j < sx_len.getD i 0 → ((((sx_byt.getD i []).getD j 0 &&& 255).toUInt32 % 65536).toInt32 = (sx_byt.getD i []).getD j 0 ∧ Int32.ofInt ((am_str (i + 2)).getD j 0) = (sx_byt.getD i []).getD j 0) ∧ 0 ≤ (sx_byt.getD i []).getD j 0 ∧ (sx_byt.getD i []).getD j 0 < 128 := by decide
theorem sx_ls : ∀ i, i < 7 → (am_str (i + 2)).length = sx_len.getD i 0 ∧ sx_len.getD i 0 < 5 ∧ Int32.ofNat (sx_len.getD i 0) >>> ((0 : Int32) &&& 31) = Int32.ofInt ((am_str (i + 2)).length : Int) := by decide
theorem sx_nc : ∀ i, i < 7 → ∀ j, j < sx_len.getD i 0 → narrow .char (.int ((sx_byt.getD i []).getD j 0)) = .int ((sx_byt.getD i []).getD j 0) := by decide
set_option maxHeartbeats 4000000 in
theorem sx_mL1 {i j : Nat} (hi : i < 7) (hj : j < sx_len.getD i 0) (hf : fm.isRef = true) : Met l sx_l1 (Cond.code sx_l1 prog_18_method_2_code 2 (some .char) :: am_tb) (sx_rm 2) (sx_P (sx_S ex adV fm B) [.ref (adV i), .int (Int32.ofNat j)]) (sx_Q (some (.int ((sx_byt.getD i []).getD j 0)))) 0 0 (fun _ => False) := by
  obtain ⟨e1, e2, -⟩ := sx_ls i hi
  obtain ⟨⟨b1, -⟩, -⟩ := sx_bs i hi j hj
  refine Met.ofW (cc := prog_18_method_2_code) (maxL := 2) (ret := some .char) (by decide) rfl ?_
  intro p e s m args below meth c s₁ Bd hml hv
  obtain ⟨rfl, hS⟩ := hv
  have hx := Bd.exec
  have hb := Bd.bytes
  have hr := Bd.returns
  have hlocks := Bd.notSynchronized
  have hts : ∀ w ∈ am_tb, w.before [Value.ref (adV i), Value.int (Int32.ofNat j)].toArray s = true := fun w hw => atoms_spec (ws := Cond.code sx_l1 prog_18_method_2_code 2 (some .char) :: am_tb) Bd.pre w (List.mem_cons_of_mem _ hw)
  have hown : s.vm.findClass "java/lang/StringLatin1" = some m.cls := findClass_of_methodNamed Bd.named
  have hl0 := lv_entry [Value.ref (adV i), Value.int (Int32.ofNat j)] (n := 2) (Nat.le_refl 2)
  rw [lg_entry_eq]
  generalize (lg_sl [Value.ref (adV i), Value.int (Int32.ofNat j)] ++ List.replicate (2 - (lg_sl [Value.ref (adV i), Value.int (Int32.ofNat j)]).length) Slot.unset).toArray = lsR at hl0 ⊢
  have g0 : lsR[0]? = some (.val (.ref (adV i))) := lv_at hl0 0 rfl
  have g1 : lsR[1]? = some (.val (.int (Int32.ofNat j))) := lv_at hl0 1 rfl
  have hT := (hS.2.1.1 i hi).2.2.2
  refine lv_iload_n (k := 1) hx hb (by decide +kernel) rfl g1 ?_
  refine lv_aload_n (k := 0) hx hb (by decide +kernel) rfl g0 ?_
  refine va_tlen hx hb hT va_S.rf rfl (by decide +kernel) ?_
  have hrn := va_runS (H := s.heap) (locs := []) (cells := 0) (slots := 0) (g := F0 m 3 lsR [.int (Int32.ofNat (sx_len.getD i 0)), .int (Int32.ofNat j)]) (below := below) (e := e) (meth := meth) (As := [.int (Int32.ofNat j), .int (Int32.ofNat (sx_len.getD i 0))]) (rest := []) ⟨hx, hb, hml, hown, hts⟩ (sx_mCi (l := l) (ex := ex) (adV := adV) (B := B) (nI_pos (n := j) (by omega)) (nI_lt hj (by omega)) hf) ⟨sx_CB (R := sx_rm 2) (k := 1) (n := 2) hts (sx_at 19 rfl rfl) (sx_at 31 rfl rfl) (sx_at 20 rfl rfl) (by decide) ⟨by decide, by decide⟩ (by decide) ⟨Nat.le_refl _, Nat.le_refl _⟩, hts _ (sx_at 21 rfl rfl)⟩ ⟨sx_bl sx_SS, sx_pre hS va_S.rf⟩ rfl rfl hl0.1 rfl (lv_room (by decide)) (show decode prog_18_method_2_code 3 = .ok (.invokestatic 9, 3) from by decide +kernel) ⟨Nat.le_refl _, Nat.le_refl _⟩
  refine sx_Y hrn ?_
  refine lv_aload_n (k := 0) hx hb (by decide +kernel) rfl g0 ?_
  refine lv_iload_n (k := 1) hx hb (by decide +kernel) rfl g1 ?_
  have hv : (fun q : Nat => Value.int ((sx_byt.getD i []).getD q 0)) (Int32.ofNat j).toNatClampNeg = .int ((sx_byt.getD i []).getD j 0) := by
    dsimp only
    rw [show (Int32.ofNat j).toNatClampNeg = j from nI_clamp (n := j) (by omega)]
  refine va_tb hx hb hT va_S.rf (vp_in_nI (n := j) hj (by omega)) hv (by decide +kernel) ?_
  refine lv_sipush hx hb (n := 255) (v := 255) (by decide +kernel) (by decide) ?_
  refine lv_iand hx hb (by decide +kernel) ?_
  refine lv_i2c hx hb (v := (sx_byt.getD i []).getD j 0) (by decide +kernel) b1 ?_
  exact W.zret (ty := .char) hx hb hr (sx_nc i hi j hj) (fun t ht _ => ⟨rfl, ht⟩) (fun q hq => by cases hq) (by decide +kernel)
set_option maxHeartbeats 4000000 in
theorem sx_mLa {i : Nat} (hi : i < 7) : Met l sx_la (Cond.code sx_la prog_17_method_154_code 1 (some .boolean) :: am_tb) (sx_rm 0) (sx_P (sx_S ex adV fm B) [.ref (ex (i + 2))]) (sx_Q (some (.int 1))) 0 0 (fun _ => False) := by
  refine Met.ofW (cc := prog_17_method_154_code) (maxL := 1) (ret := some .boolean) (by decide) rfl ?_
  intro p e s m args below meth c s₁ Bd hml hv
  obtain ⟨rfl, hS⟩ := hv
  have hx := Bd.exec
  have hb := Bd.bytes
  have hr := Bd.returns
  have hlocks := Bd.notSynchronized
  have hts : ∀ w ∈ am_tb, w.before [Value.ref (ex (i + 2))].toArray s = true := fun w hw => atoms_spec (ws := Cond.code sx_la prog_17_method_154_code 1 (some .boolean) :: am_tb) Bd.pre w (List.mem_cons_of_mem _ hw)
  have hown : s.vm.findClass "java/lang/String" = some m.cls := findClass_of_methodNamed Bd.named
  have hl0 := lv_entry [Value.ref (ex (i + 2))] (n := 1) (Nat.le_refl 1)
  rw [lg_entry_eq]
  generalize (lg_sl [Value.ref (ex (i + 2))] ++ List.replicate (1 - (lg_sl [Value.ref (ex (i + 2))]).length) Slot.unset).toArray = lsR at hl0 ⊢
  have g0 : lsR[0]? = some (.val (.ref (ex (i + 2)))) := lv_at hl0 0 rfl
  refine va_gets hx hb hS.2.2.1 va_S.rf hown (hts _ (sx_at 25 rfl rfl)) (fun _ h => h) (by decide +kernel) ?_
  refine lv_if_eq hx hb (off := 14) (tgt := 17) (by decide +kernel) rfl (fun z => absurd z (by decide)) (fun _ => ?_)
  refine lv_aload_n (k := 0) hx hb (by decide +kernel) rfl g0 ?_
  refine vk_getf hx hb (hS.2.1.1 i hi).2.1 va_S.rf hown (hts _ (sx_at 30 rfl rfl)) (fun _ h => h) (by decide +kernel) ?_
  refine lv_if_ne hx hb (off := 7) (tgt := 17) (by decide +kernel) rfl (fun z => absurd rfl z) (fun _ => ?_)
  refine lv_iconst hx hb (n := 1) (v := 1) (by decide +kernel) (by decide) ?_
  refine lv_goto hx hb (off := 4) (tgt := 18) (by decide +kernel) rfl ?_
  exact W.zret (ty := .boolean) hx hb hr (by decide) (fun t ht _ => ⟨rfl, ht⟩) (fun q hq => by cases hq) (by decide +kernel)
set_option maxHeartbeats 4000000 in
theorem sx_mCo {i : Nat} (hi : i < 7) : Met l sx_co (Cond.code sx_co prog_17_method_152_code 1 (some .byte) :: am_tb) (sx_rm 0) (sx_P (sx_S ex adV fm B) [.ref (ex (i + 2))]) (sx_Q (some (.int 0))) 0 0 (fun _ => False) := by
  refine Met.ofW (cc := prog_17_method_152_code) (maxL := 1) (ret := some .byte) (by decide) rfl ?_
  intro p e s m args below meth c s₁ Bd hml hv
  obtain ⟨rfl, hS⟩ := hv
  have hx := Bd.exec
  have hb := Bd.bytes
  have hr := Bd.returns
  have hlocks := Bd.notSynchronized
  have hts : ∀ w ∈ am_tb, w.before [Value.ref (ex (i + 2))].toArray s = true := fun w hw => atoms_spec (ws := Cond.code sx_co prog_17_method_152_code 1 (some .byte) :: am_tb) Bd.pre w (List.mem_cons_of_mem _ hw)
  have hown : s.vm.findClass "java/lang/String" = some m.cls := findClass_of_methodNamed Bd.named
  have hl0 := lv_entry [Value.ref (ex (i + 2))] (n := 1) (Nat.le_refl 1)
  rw [lg_entry_eq]
  generalize (lg_sl [Value.ref (ex (i + 2))] ++ List.replicate (1 - (lg_sl [Value.ref (ex (i + 2))]).length) Slot.unset).toArray = lsR at hl0 ⊢
  have g0 : lsR[0]? = some (.val (.ref (ex (i + 2)))) := lv_at hl0 0 rfl
  refine va_gets hx hb hS.2.2.1 va_S.rf hown (hts _ (sx_at 25 rfl rfl)) (fun _ h => h) (by decide +kernel) ?_
  refine lv_if_eq hx hb (off := 10) (tgt := 13) (by decide +kernel) rfl (fun z => absurd z (by decide)) (fun _ => ?_)
  refine lv_aload_n (k := 0) hx hb (by decide +kernel) rfl g0 ?_
  refine vk_getf hx hb (hS.2.1.1 i hi).2.1 va_S.rf hown (hts _ (sx_at 30 rfl rfl)) (fun _ h => h) (by decide +kernel) ?_
  refine lv_goto hx hb (off := 4) (tgt := 14) (by decide +kernel) rfl ?_
  exact W.zret (ty := .byte) hx hb hr (by decide) (fun t ht _ => ⟨rfl, ht⟩) (fun q hq => by cases hq) (by decide +kernel)
set_option maxHeartbeats 4000000 in
theorem sx_mLn {i : Nat} (hi : i < 7) : Met l sx_ln (Cond.code sx_ln prog_17_method_54_code 1 (some .int) :: am_tb) (sx_rm 1) (sx_P (sx_S ex adV fm B) [.ref (ex (i + 2))]) (sx_Q (some (.int (Int32.ofInt ((am_str (i + 2)).length : Int))))) 0 0 (fun _ => False) := by
  obtain ⟨e1, e2, e3⟩ := sx_ls i hi
  refine Met.ofW (cc := prog_17_method_54_code) (maxL := 1) (ret := some .int) (by decide) rfl ?_
  intro p e s m args below meth c s₁ Bd hml hv
  obtain ⟨rfl, hS⟩ := hv
  have hx := Bd.exec
  have hb := Bd.bytes
  have hr := Bd.returns
  have hlocks := Bd.notSynchronized
  have hts : ∀ w ∈ am_tb, w.before [Value.ref (ex (i + 2))].toArray s = true := fun w hw => atoms_spec (ws := Cond.code sx_ln prog_17_method_54_code 1 (some .int) :: am_tb) Bd.pre w (List.mem_cons_of_mem _ hw)
  have hown : s.vm.findClass "java/lang/String" = some m.cls := findClass_of_methodNamed Bd.named
  have hl0 := lv_entry [Value.ref (ex (i + 2))] (n := 1) (Nat.le_refl 1)
  rw [lg_entry_eq]
  generalize (lg_sl [Value.ref (ex (i + 2))] ++ List.replicate (1 - (lg_sl [Value.ref (ex (i + 2))]).length) Slot.unset).toArray = lsR at hl0 ⊢
  have g0 : lsR[0]? = some (.val (.ref (ex (i + 2)))) := lv_at hl0 0 rfl
  have hT := (hS.2.1.1 i hi).2.2.2
  refine lv_aload_n (k := 0) hx hb (by decide +kernel) rfl g0 ?_
  refine vk_getf hx hb (hS.2.1.1 i hi).2.2.1 va_S.rf hown (hts _ (sx_at 29 rfl rfl)) (fun _ h => h) (by decide +kernel) ?_
  refine va_tlen hx hb hT va_S.rf rfl (by decide +kernel) ?_
  refine lv_aload_n (k := 0) hx hb (by decide +kernel) rfl g0 ?_
  have hrn := va_runV (C := "java/lang/String") (H := s.heap) (locs := []) (cells := 0) (slots := 0) (g := F0 m 6 lsR [.ref (ex (i + 2)), .int (Int32.ofNat (sx_len.getD i 0))]) (below := below) (e := e) (meth := meth) (b := ex (i + 2)) (As := []) (rest := [.int (Int32.ofNat (sx_len.getD i 0))]) ⟨hx, hb, hml, hown, hts⟩ (sx_mCo (l := l) (ex := ex) (adV := adV) (B := B) (fm := fm) hi) ⟨sx_CB (R := sx_rm 1) (k := 0) (n := 0) hts (sx_at 4 rfl rfl) (sx_at 31 rfl rfl) (sx_at 5 rfl rfl) (by decide) ⟨by decide, by decide⟩ (by decide) ⟨Nat.le_refl _, Nat.le_refl _⟩, hts _ (sx_at 6 rfl rfl), hts _ (sx_at 7 rfl rfl)⟩ ⟨sx_bl sx_SS, vk_recv (adK := fun i => ex (i + 2)) (i := i) hS.2.1 hi va_S.rf, sx_pre hS va_S.rf⟩ rfl rfl hl0.1 rfl (lv_room (by show 1 + 0 ≤ 8; decide)) (show decode prog_17_method_54_code 6 = .ok (.invokevirtual 335, 3) from by decide +kernel) ⟨Nat.le_refl _, Nat.le_refl _⟩
  refine sx_Y hrn ?_
  refine lv_ishr hx hb (by decide +kernel) ?_
  rw [← e3]
  exact W.iret hx hb hr (fun t ht _ => ⟨rfl, ht⟩) (fun q hq => by cases hq) (by decide +kernel)
set_option maxHeartbeats 4000000 in
theorem sx_mCh {i j : Nat} (hi : i < 7) (hj : j < sx_len.getD i 0) (hf : fm.isRef = true) : Met l sx_ch (Cond.code sx_ch prog_17_method_56_code 2 (some .char) :: am_tb) (sx_rm 3) (sx_P (sx_S ex adV fm B) [.ref (ex (i + 2)), .int (Int32.ofNat j)]) (sx_Q (some (.int ((sx_byt.getD i []).getD j 0)))) 0 0 (fun _ => False) := by
  refine Met.ofW (cc := prog_17_method_56_code) (maxL := 2) (ret := some .char) (by decide) rfl ?_
  intro p e s m args below meth c s₁ Bd hml hv
  obtain ⟨rfl, hS⟩ := hv
  have hx := Bd.exec
  have hb := Bd.bytes
  have hr := Bd.returns
  have hlocks := Bd.notSynchronized
  have hts : ∀ w ∈ am_tb, w.before [Value.ref (ex (i + 2)), Value.int (Int32.ofNat j)].toArray s = true := fun w hw => atoms_spec (ws := Cond.code sx_ch prog_17_method_56_code 2 (some .char) :: am_tb) Bd.pre w (List.mem_cons_of_mem _ hw)
  have hown : s.vm.findClass "java/lang/String" = some m.cls := findClass_of_methodNamed Bd.named
  have hl0 := lv_entry [Value.ref (ex (i + 2)), Value.int (Int32.ofNat j)] (n := 2) (Nat.le_refl 2)
  rw [lg_entry_eq]
  generalize (lg_sl [Value.ref (ex (i + 2)), Value.int (Int32.ofNat j)] ++ List.replicate (2 - (lg_sl [Value.ref (ex (i + 2)), Value.int (Int32.ofNat j)]).length) Slot.unset).toArray = lsR at hl0 ⊢
  have g0 : lsR[0]? = some (.val (.ref (ex (i + 2)))) := lv_at hl0 0 rfl
  have g1 : lsR[1]? = some (.val (.int (Int32.ofNat j))) := lv_at hl0 1 rfl
  refine lv_aload_n (k := 0) hx hb (by decide +kernel) rfl g0 ?_
  have hrn := va_runV (C := "java/lang/String") (H := s.heap) (locs := []) (cells := 0) (slots := 0) (g := F0 m 1 lsR [.ref (ex (i + 2))]) (below := below) (e := e) (meth := meth) (b := ex (i + 2)) (As := []) (rest := []) ⟨hx, hb, hml, hown, hts⟩ (sx_mLa (l := l) (ex := ex) (adV := adV) (B := B) (fm := fm) hi) ⟨sx_CB (R := sx_rm 3) (k := 0) (n := 0) hts (sx_at 12 rfl rfl) (sx_at 31 rfl rfl) (sx_at 13 rfl rfl) (by decide) ⟨by decide, by decide⟩ (by decide) ⟨by decide, by decide⟩, hts _ (sx_at 14 rfl rfl), hts _ (sx_at 15 rfl rfl)⟩ ⟨sx_bl sx_SS, vk_recv (adK := fun i => ex (i + 2)) (i := i) hS.2.1 hi va_S.rf, sx_pre hS va_S.rf⟩ rfl rfl hl0.1 rfl (lv_room (by decide)) (show decode prog_17_method_56_code 1 = .ok (.invokevirtual 492, 3) from by decide +kernel) ⟨Nat.le_refl _, Nat.le_refl _⟩
  refine sx_Y hrn ?_
  refine lv_if_eq hx hb (off := 12) (tgt := 16) (by decide +kernel) rfl (fun z => absurd z (by decide)) (fun _ => ?_)
  refine lv_aload_n (k := 0) hx hb (by decide +kernel) rfl g0 ?_
  refine vk_getf hx hb (hS.2.1.1 i hi).2.2.1 va_S.rf hown (hts _ (sx_at 29 rfl rfl)) (fun _ h => h) (by decide +kernel) ?_
  refine lv_iload_n (k := 1) hx hb (by decide +kernel) rfl g1 ?_
  have hrn2 := va_runS (H := s.heap) (locs := []) (cells := 0) (slots := 0) (g := F0 m 12 lsR [.int (Int32.ofNat j), .ref (adV i)]) (below := below) (e := e) (meth := meth) (As := [.ref (adV i), .int (Int32.ofNat j)]) (rest := []) ⟨hx, hb, hml, hown, hts⟩ (sx_mL1 (l := l) (ex := ex) (adV := adV) (B := B) hi hj hf) ⟨sx_CB (R := sx_rm 3) (k := 2) (n := 2) hts (sx_at 16 rfl rfl) (sx_at 32 rfl rfl) (sx_at 17 rfl rfl) (by decide) ⟨by decide, by decide⟩ (by decide) ⟨Nat.le_refl _, Nat.le_refl _⟩, hts _ (sx_at 18 rfl rfl)⟩ ⟨sx_bl sx_SS, sx_pre hS va_S.rf⟩ rfl rfl hl0.1 rfl (lv_room (by decide)) (show decode prog_17_method_56_code 12 = .ok (.invokestatic 495, 3) from by decide +kernel) ⟨Nat.le_refl _, Nat.le_refl _⟩
  refine sx_Y hrn2 ?_
  exact W.zret (ty := .char) hx hb hr (sx_nc i hi j hj) (fun t ht _ => ⟨rfl, ht⟩) (fun q hq => by cases hq) (by decide +kernel)
end SXT
