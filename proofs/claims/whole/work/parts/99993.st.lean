-- the texts as they are owed, and the law's start
set_option maxHeartbeats 4000000 in
theorem sx_Tx {l : Launch} {D : va_G} {tys : List (ClassId × FieldType)} {ex adV : Nat → Nat} {fm : Value} {B : Nat} (hf : fm.isRef = true) : am_Txts l (sx_S ex adV fm B) D tys ex B := by
  intro p e R s m args below meth c Q d md hE hK hs hd1 hd2
  obtain ⟨hx, hb, hml, hown, hts⟩ := hE
  refine ⟨fun H locs cells slots lsR pc k a rest hW hm hd kk => ?_, fun H locs cells slots lsR pc k md2 as rest h r d' hdd hW hls hc1 hc2 hm hbt h8 hd kk => ?_⟩
  · have hq : ∀ q ∈ am_kS, q.1 = 6 ∧ (q.2.2 - 2 < 7 ∧ sx_k.getD (q.2.2 - 2) 0 = q.2.1 ∧ q.2.2 - 2 + 2 = q.2.2) := by decide
    obtain ⟨q1, q2, q3, q4⟩ := hq _ hm
    dsimp only at q1 q2 q3 q4
    have hz := hs.1 (a - 2) q2
    rw [q3, q4] at hz
    rw [q1] at hown
    exact va_ldcS hx hb hown hz hd kk
  · subst hdd
    have hq : ∀ q ∈ am_kT, q.1 = 6 ∧ ((q.2.1 = 82 ∧ q.2.2 = 1001) ∨ (q.2.1 = 87 ∧ q.2.2 = 1002)) := by decide
    obtain ⟨q1, q2⟩ := hq _ hm
    dsimp only at q1 q2
    rw [q1] at hown
    have hown2 : s.vm.findClass "MappingText$Printed" = some m.cls := hown
    rcases q2 with ⟨rfl, q3⟩ | ⟨rfl, q3⟩
    · have hmd : md2 = 1001 := by omega
      subst hmd
      unfold am_bt at hbt
      split at hbt
      all_goals first | omega | exact hbt.elim | skip
      next a _ =>
        obtain ⟨a1, a2, a3, rfl, -⟩ := hbt
        obtain ⟨i, rfl⟩ : ∃ i, a = i + 2 := ⟨a - 2, by omega⟩
        have hi : i < 7 := by omega
        have hst : (([.inr (.inr (i + 2))] : List am_V).reverse ++ rest).map (am_cv ex B) = .ref (ex (i + 2)) :: rest.map (am_cv ex B) := by
          show am_cv ex B (.inr (.inr (i + 2))) :: rest.map (am_cv ex B) = _
          rw [am_cv_lo ⟨by omega, by omega⟩]
        rw [hst]
        have hrn := va_runV (C := "java/lang/String") (H := H) (locs := locs) (cells := cells) (slots := slots) (g := F0 m pc lsR (.ref (ex (i + 2)) :: rest.map (am_cv ex B))) (below := below) (e := e) (meth := meth) (b := ex (i + 2)) (As := []) (rest := rest.map (am_cv ex B)) ⟨hx, hb, hml, hown2, hts⟩ (sx_mLn (l := l) (ex := ex) (adV := adV) (B := B) (fm := fm) hi) ⟨sx_CB (R := R) (k := 1) (n := 0) hts (sx_at 0 rfl rfl) (sx_at 31 rfl rfl) (sx_at 1 rfl rfl) (by decide) ⟨by decide, by decide⟩ (by decide) ⟨by omega, by omega⟩, hts _ (sx_at 2 rfl rfl), hts _ (sx_at 3 rfl rfl)⟩ ⟨sx_bl sx_SS, vk_recv (adK := fun i => ex (i + 2)) (i := i) hs.2.1 hi hW, sx_pre hs hW⟩ rfl rfl (hls.trans hml) rfl (lv_room (by rw [am_w8_e]; exact h8)) hd ⟨by omega, by omega⟩
        exact sx_Y hrn kk
    · have hmd : md2 = 1002 := by omega
      subst hmd
      unfold am_bt at hbt
      split at hbt
      all_goals first | omega | exact hbt.elim | skip
      next a j _ =>
        obtain ⟨a1, a2, a3, j0, j1, rfl, -⟩ := hbt
        obtain ⟨i, rfl⟩ : ∃ i, a = i + 2 := ⟨a - 2, by omega⟩
        have hi : i < 7 := by omega
        obtain ⟨z1, z2, -⟩ := sx_ls i hi
        obtain ⟨n, rfl⟩ := Int.eq_ofNat_of_zero_le j0
        have hj : n < sx_len.getD i 0 := by omega
        obtain ⟨⟨-, b2⟩, -⟩ := sx_bs i hi n hj
        have hst : (([.inr (.inr (i + 2)), .inl (n : Int)] : List am_V).reverse ++ rest).map (am_cv ex B) = .int (Int32.ofNat n) :: .ref (ex (i + 2)) :: rest.map (am_cv ex B) := by
          show am_cv ex B (.inl (n : Int)) :: am_cv ex B (.inr (.inr (i + 2))) :: rest.map (am_cv ex B) = _
          rw [am_cv_lo ⟨by omega, by omega⟩]
          rfl
        rw [hst]
        have hrn := va_runV (C := "java/lang/String") (H := H) (locs := locs) (cells := cells) (slots := slots) (g := F0 m pc lsR (.int (Int32.ofNat n) :: .ref (ex (i + 2)) :: rest.map (am_cv ex B))) (below := below) (e := e) (meth := meth) (b := ex (i + 2)) (As := [.int (Int32.ofNat n)]) (rest := rest.map (am_cv ex B)) ⟨hx, hb, hml, hown2, hts⟩ (sx_mCh (l := l) (ex := ex) (adV := adV) (B := B) (fm := fm) hi hj hf) ⟨sx_CB (R := R) (k := 3) (n := 1) hts (sx_at 8 rfl rfl) (sx_at 31 rfl rfl) (sx_at 9 rfl rfl) (by decide) ⟨by decide, by decide⟩ (by decide) ⟨by omega, by omega⟩, hts _ (sx_at 10 rfl rfl), hts _ (sx_at 11 rfl rfl)⟩ ⟨sx_bl sx_SS, vk_recv (adK := fun i => ex (i + 2)) (i := i) hs.2.1 hi hW, sx_pre hs hW⟩ rfl rfl (hls.trans hml) rfl (lv_room (by rw [am_w8_e]; exact h8)) hd ⟨by omega, by omega⟩
        refine sx_Y hrn ?_
        rw [← b2]
        exact kk
def sx_tm (i : Nat) : Term := Term.string "MappingText$Printed" (sx_k.getD i 0)
set_option maxRecDepth 100000 in
theorem sx_fx : (∀ i, i < 7 → Cond.exactly (sx_tm i) "java/lang/String" ∈ flatC (Jvm.Cond.and given_1 narrow_1)) ∧ (∀ i, i < 7 → Cond.eq (.field (sx_tm i) "java/lang/String" "coder" "B") (.int 0) ∈ flatC (Jvm.Cond.and given_1 narrow_1)) ∧ (∀ i, i < 7 → Cond.arrayOf (.field (sx_tm i) "java/lang/String" "value" "[B") .byte ∈ flatC (Jvm.Cond.and given_1 narrow_1)) ∧ (∀ i, i < 7 → Cond.eq (.length (.field (sx_tm i) "java/lang/String" "value" "[B")) (.int (Int32.ofNat (sx_len.getD i 0))) ∈ flatC (Jvm.Cond.and given_1 narrow_1)) := by decide +kernel
set_option maxRecDepth 100000 in
theorem sx_fe : ∀ i, i < 7 → ∀ j, j < sx_len.getD i 0 → Cond.eq (.elem (.field (sx_tm i) "java/lang/String" "value" "[B") (.int (Int32.ofNat j))) (.int ((sx_byt.getD i []).getD j 0)) ∈ flatC (Jvm.Cond.and given_1 narrow_1) := by decide +kernel
set_option maxRecDepth 100000 in
theorem sx_fn : ∀ i, i < 7 → ∀ j, j < 7 → i ≠ j → (Cond.not (Cond.eq (sx_tm i) (sx_tm j)) ∈ flatC (Jvm.Cond.and given_1 narrow_1) ∨ Cond.not (Cond.eq (sx_tm j) (sx_tm i)) ∈ flatC (Jvm.Cond.and given_1 narrow_1)) := by decide +kernel
set_option maxRecDepth 100000 in
theorem sx_fz : Cond.eq (.static "java/lang/String" "COMPACT_STRINGS" "Z") (.int 1) ∈ flatC (Jvm.Cond.and given_1 narrow_1) ∧ Cond.isRef (.static "jdk/internal/util/Preconditions" "SIOOBE_FORMATTER" "Ljava/util/function/BiFunction;") ∈ flatC (Jvm.Cond.and given_1 narrow_1) := by decide +kernel
theorem sx_wr : ∀ i, i < 7 → sx_w[34 + i]? = some (Cond.stringRef "MappingText$Printed" (sx_k.getD i 0) (sx_t.getD i "")) := by decide +kernel
set_option maxHeartbeats 4000000 in
theorem whole_start {p : Program} {e : Env} {s : State} {m : MethodId} {below : List Frame} {meth : Method} {c : Code} (l : Launch) {b L : Nat} {xs : Nat → Int32} (hL : L ≤ 3072) (C0 : lw_At p s m meth c b L xs) : W p l e room_1 s m #[Value.ref b] below meth c s.heap [] 0 0 (lw_Z below #[Value.ref b] s) (entryFrame m ([Value.ref b] : List Value).toArray 4) := by
  obtain ⟨hx, hb, hr, hml, hown, hts, hX, hbl, hlocks, hgv⟩ := id C0
  obtain ⟨D, tys, hK⟩ := am_Kx_start hts
  have hfl := flat_of_before _ hgv
  have hA : ∀ a : Nat, a < s.heap.size → ¬ (fun q : Nat => s.heap.size ≤ q) a := fun a h1 h2 => Nat.lt_irrefl _ (Nat.lt_of_lt_of_le h1 h2)
  obtain ⟨f1, f2, f3, f4⟩ := sx_fx
  obtain ⟨adK, adV, hSK, hev⟩ := vk_Sof (args := #[Value.ref b]) (s := s) (N := 7) (tm := sx_tm) (len := sx_len) (byt := sx_byt) (A := fun q => s.heap.size ≤ q) (by decide) (fun i hi => hfl _ (f1 i hi)) (fun i hi => hfl _ (f2 i hi)) (fun i hi => hfl _ (f3 i hi)) (fun i hi => hfl _ (f4 i hi)) (fun i hi j hj => hfl _ (sx_fe i hi j hj)) (fun i j hi hj hij => (sx_fn i hi j hj hij).elim (fun q => Or.inl (hfl _ q)) (fun q => Or.inr (hfl _ q))) hA
  obtain ⟨fm, hfv, hf⟩ := Cond.isRef_spec (hfl _ sx_fz.2)
  have z1 : va_Z "java/lang/String" "COMPACT_STRINGS" "Z" (.int 1) (fun q => s.heap.size ≤ q) s s.heap := va_Zof (hts _ (sx_l 26 rfl)) (hts _ (sx_l 31 rfl)) (va_eqi (hfl _ sx_fz.1)) hA
  have z2 : va_Z "jdk/internal/util/Preconditions" "SIOOBE_FORMATTER" "Ljava/util/function/BiFunction;" fm (fun q => s.heap.size ≤ q) s s.heap := va_Zof (hts _ (sx_l 28 rfl)) (hts _ (sx_l 33 rfl)) hfv hA
  refine am_whole l (ex := fun a => if a = 1 then b else adK (a - 2)) (S := sx_S (fun a => if a = 1 then b else adK (a - 2)) adV fm s.heap.size) (if_pos rfl) C0 hK sx_SS ⟨fun i hi => ?_, ?_, z1, z2⟩ (sx_Tx hf) (law_run L xs hL)
  · have e1 : (if i + 2 = 1 then b else adK (i + 2 - 2)) = adK i := by rw [if_neg (by omega), Nat.add_sub_cancel]
    show vk_R "MappingText$Printed" (sx_k.getD i 0) (sx_t.getD i "") (if i + 2 = 1 then b else adK (i + 2 - 2)) s
    rw [e1]
    exact vk_R.of (hts _ (sx_l (34 + i) (sx_wr i hi))) (hev i hi)
  · have e1 : (fun i : Nat => if i + 2 = 1 then b else adK (i + 2 - 2)) = adK := by
      funext i
      rw [if_neg (by omega), Nat.add_sub_cancel]
    show vk_S 7 sx_len sx_byt (fun i => if i + 2 = 1 then b else adK (i + 2 - 2)) adV (fun q => s.heap.size ≤ q) s s.heap
    rw [e1]
    exact hSK
