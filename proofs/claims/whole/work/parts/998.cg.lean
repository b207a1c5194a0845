-- what two tables of sources that look alike have in common
def EqC (D E : DT) : Prop := ∀ x y z, ce D x y z = ce E x y z
def EqD (D E : DT) : Prop := EqC D E ∧ (∀ x, ro D x = ro E x) ∧ (∀ x y, th D x y = th E x y)
theorem EqD.sy {D E : DT} (h : EqD D E) : EqD E D := ⟨fun x y z => (h.1 x y z).symm, fun x => (h.2.1 x).symm, fun x y => (h.2.2 x y).symm⟩
theorem EqD.tr {D E F : DT} (h : EqD D E) (g : EqD E F) : EqD D F := ⟨fun x y z => (h.1 x y z).trans (g.1 x y z), fun x => (h.2.1 x).trans (g.2.1 x), fun x y => (h.2.2 x y).trans (g.2.2 x y)⟩
theorem EqD.rf {D : DT} : EqD D D := ⟨fun _ _ _ => rfl, fun _ => rfl, fun _ _ => rfl⟩
theorem tpC_q {D E : DT} (h : EqC D E) (s r p : Int) : tpC D s r p = tpC E s r p := by
  unfold tpC
  rw [h s r p]
theorem tpL_q {D E : DT} (h : EqC D E) (s r : Int) : ∀ l : List Int, tpL D s r l = tpL E s r l
  | [] => rfl
  | p :: w => by
    show tpC D s r p ++ tpL D s r w = tpC E s r p ++ tpL E s r w
    rw [tpC_q h, tpL_q h s r w]
theorem tbP_q {D E : DT} (h : EqC D E) (s r : Int) (x : PT) : tbP D s r x = tbP E s r x := by
  unfold tbP
  rw [tpL_q h, h s r x.2.1]
theorem tmx_q {D E : DT} (h : EqC D E) (x : MT) (r o t : Int) : tmx D x r o t = tmx E x r o t := by
  unfold tmx
  rw [tbP_q h, tbP_q h, tbP_q h, h]
theorem TMf_q {D E : DT} (h : EqC D E) (ms : List MT) : TMf D ms = TMf E ms := by
  funext w t
  exact tmx_q h _ _ _ _
theorem cD_q {D E : DT} (h : EqC D E) (ms : List MT) : cD D ms = cD E ms := by
  funext w w'
  unfold cD
  rw [TMf_q h]
theorem nnP_q {D E : DT} (h : EqC D E) (s r : Int) (x : PT) : nnP D s r x = nnP E s r x := by
  unfold nnP
  rw [h s r x.2.1]
  split
  · refine propext ⟨fun g p hp q => ?_, fun g p hp q => ?_⟩
    · rw [← h s r p]
      exact g p hp q
    · rw [h s r p]
      exact g p hp q
  · rfl
theorem nmN_q {D E : DT} (h : EqC D E) (x : MT) (r : Int) : nmN D x r = nmN E x r := by
  unfold nmN
  rw [nnP_q h, nnP_q h, nnP_q h]
theorem hld_q {D E : DT} (h : EqC D E) (x : MT) (r : Int) : hld D x r = hld E x r := by
  unfold hld
  rw [h x.1 r x.2.2.2.2.2.1.2.1]
theorem bdN_q {D E : DT} (h : EqC D E) (x : MT) (r : Int) : bdN D x r = bdN E x r := by
  unfold bdN
  simp only [tbP_q h]
theorem jn_q {D E : DT} (h : EqD D E) (x : MT) (r o : Int) : jn D x r o = jn E x r o := by
  unfold jn
  rw [h.1 x.1 r x.2.2.2.2.1.2.1, h.1 x.2.2.2.2.1.1 o x.2.2.2.2.1.2.2, h.2.2]
theorem gvs_q {D E : DT} (h : EqD D E) (x : MT) (r : Int) : gvs D x r = gvs E x r := by
  unfold gvs
  rw [h.2.2, hld_q h.1, nmN_q h.1]
theorem oth_q {D E : DT} (h : EqD D E) (x : MT) (r : Int) : ∀ (k : Nat) (o : Int), oth D x r k o = oth E x r k o
  | 0, _ => rfl
  | k + 1, o => by
    by_cases q : ce D x.2.2.2.2.1.1 o x.2.2.2.1.2.1 ≠ -1 ∧ jn D x r o
    · have q2 : ce E x.2.2.2.2.1.1 o x.2.2.2.1.2.1 ≠ -1 ∧ jn E x r o := by
        rw [← h.1, ← jn_q h]
        exact q
      rw [oth_y q, oth_y q2, oth_q h x r k (o + 1)]
    · have q2 : ¬ (ce E x.2.2.2.2.1.1 o x.2.2.2.1.2.1 ≠ -1 ∧ jn E x r o) := by
        rw [← h.1, ← jn_q h]
        exact q
      rw [oth_n q, oth_n q2, oth_q h x r k (o + 1)]
theorem rwO_q {D E : DT} (h : EqD D E) (x : MT) (r : Int) : rwO D x r = rwO E x r := by
  unfold rwO
  rw [h.2.1, oth_q h, nnP_q h.1]
theorem rwB_q {D E : DT} (h : EqD D E) (x : MT) (r p : Int) : rwB D x r p = rwB E x r p := by
  unfold rwB
  rw [bdN_q h.1]
theorem rwW_q {D E : DT} (h : EqD D E) (x : MT) (r p : Int) : rwW D x r p = rwW E x r p := by
  unfold rwW
  rw [bdN_q h.1, rwO_q h]
theorem mB_q {D E : DT} (h : EqD D E) (x : MT) (i : Int) : ∀ (k : Nat) (r : Int), mB D x i k r = mB E x i k r
  | 0, _ => rfl
  | k + 1, r => by
    show @ite _ (gvs D x r) (Classical.propDecidable _) (rwB D x r (i * 16 + r)) [] ++ mB D x i k (r + 1) = @ite _ (gvs E x r) (Classical.propDecidable _) (rwB E x r (i * 16 + r)) [] ++ mB E x i k (r + 1)
    rw [gvs_q h, rwB_q h, mB_q h x i k (r + 1)]
theorem mW_q {D E : DT} (h : EqD D E) (x : MT) (i : Int) : ∀ (k : Nat) (r : Int), mW D x i k r = mW E x i k r
  | 0, _ => rfl
  | k + 1, r => by
    show @ite _ (gvs D x r) (Classical.propDecidable _) (rwW D x r (i * 16 + r)) [] ++ mW D x i k (r + 1) = @ite _ (gvs E x r) (Classical.propDecidable _) (rwW E x r (i * 16 + r)) [] ++ mW E x i k (r + 1)
    rw [gvs_q h, rwW_q h, mW_q h x i k (r + 1)]
theorem aB_q {D E : DT} (h : EqD D E) : ∀ (ms : List MT) (i : Int), aB D ms i = aB E ms i
  | [], _ => rfl
  | x :: w, i => by
    show mB D x i (ro D x.1).toNat 0 ++ aB D w (i + 1) = mB E x i (ro E x.1).toNat 0 ++ aB E w (i + 1)
    rw [h.2.1, mB_q h, aB_q h w (i + 1)]
theorem aW_q {D E : DT} (h : EqD D E) : ∀ (ms : List MT) (i : Int), aW D ms i = aW E ms i
  | [], _ => rfl
  | x :: w, i => by
    show mW D x i (ro D x.1).toNat 0 ++ aW D w (i + 1) = mW E x i (ro E x.1).toNat 0 ++ aW E w (i + 1)
    rw [h.2.1, mW_q h, aW_q h w (i + 1)]
theorem GS_q {D E : DT} (h : EqD D E) {ms : List MT} {a : Nat → Int → Int} {P : List Int} (g : GS (cD D ms) (TMf D ms) (gF ms) a P (aW D ms 0)) : GS (cD E ms) (TMf E ms) (gF ms) a P (aW E ms 0) := by
  rw [← cD_q h.1, ← TMf_q h.1, ← aW_q h]
  exact g
