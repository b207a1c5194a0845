-- print of the class
def prA : List MT → List Int
  | [] => []
  | x :: r => prM x ++ prA r
theorem prA_app : ∀ (a b : List MT), prA (a ++ b) = prA a ++ prA b
  | [], b => rfl
  | x :: r, b => by
    show prM x ++ prA (r ++ b) = prM x ++ prA r ++ prA b
    rw [prA_app r b, List.append_assoc]
theorem HP_nil (L B1 B2 : Nat) (fi : Nat → Nat → Int) (ai aj : Nat → Int → Int) : HP L B1 B2 fi ai aj [] = HH L B1 B2 (am_u2 fi 36 36 0) ai aj := by
  unfold HP
  rw [wr_n, sa_id]
  rfl
set_option maxHeartbeats 400000 in
set_option maxRecDepth 100000 in
theorem c_Pr_clear (d L B1 B2 : Nat) (fi : Nat → Nat → Int) (ai aj : Nat → Int → Int) : am_M am_prog (d + 1) m_Pr_clear [.inr (.inr 36)] (HH L B1 B2 fi ai aj) (fun w h' => w = none ∧ h' = HP L B1 B2 fi ai aj []) := by
  refine am_W.of rfl rfl ?_
  rw [HP_nil]
  exact am_W.rt rfl rfl ⟨⟨trivial, okI rfl rfl rfl⟩, trivial⟩ ⟨rfl, rfl⟩
set_option maxHeartbeats 400000 in
set_option maxRecDepth 100000 in
theorem l_MT_print (d L B1 B2 : Nat) (fi : Nat → Nat → Int) (ai aj : Nat → Int → Int) (hB : B1 = 38 ∨ B1 = 82) (D : DT) (hI : DI D) (ms : List MT) (h6 : ms.length ≤ 6) (hr : RepL fi ai B1 ms) (hw : ∀ x ∈ ms, wfM D x) (hl : (prA ms).length ≤ 626) : ∀ (rest pre : List MT) (i : Int), ms = pre ++ rest → i = (pre.length : Int) → am_W (am_ev am_prog (d + 8)) T_MT_print (fun w h' => w = some (.inl ((prA ms).length : Int)) ∧ h' = HP L B1 B2 fi ai aj (prA ms)) (9, [some (.inr (.inr 16)), some (.inl i)], [], HP L B1 B2 fi ai aj (prA pre)) := by
  obtain ⟨-, -, hCB, hCl, hfl⟩ := MapAt_all L B1 B2 B1 0 hB (by decide)
  have hB0 : 37 < B1 ∧ B1 < 100 := by omega
  have e4 : ∀ l, am_fr (HP L B1 B2 fi ai aj l) 4 16 = B1 := fun l => rfl
  have e38 : ∀ l, am_fi (HP L B1 B2 fi ai aj l) 38 B1 = (ms.length : Int) := fun l => (HP_fi _ _ _ _ _ _ _ (by omega)).trans hr.1
  have okB : ∀ l, am_ok (HP L B1 B2 fi ai aj l) (am_fr (HP L B1 B2 fi ai aj l) 4 16) 7 := fun l => ⟨by rw [e4]; omega, by rw [e4]; show B1 < 170; omega, by rw [e4]; exact hCB⟩
  intro rest
  induction rest with
  | nil =>
    intro pre i hL hi
    rw [List.append_nil] at hL
    subst hL
    refine am_W.br rfl rfl ⟨⟨⟨trivial, okI rfl rfl rfl⟩, okB _⟩, ⟨by omega, by omega⟩, by rw [e4, e38]; exact ⟨by omega, by omega⟩⟩ (fun c1 => ?_) (fun c1 => absurd c1 (by rw [e4, e38]; omega))
    exact am_W.rt rfl rfl ⟨⟨⟨trivial, okI rfl rfl rfl⟩, okI rfl rfl rfl⟩, trivial⟩ ⟨rfl, rfl⟩
  | cons x rest ih =>
    intro pre i hL hi
    have hlen : ms.length = pre.length + (rest.length + 1) := by rw [hL, List.length_append, List.length_cons]
    obtain ⟨hMi, hAi, -, -, -⟩ := MapAt_all L B1 B2 B1 pre.length hB (by omega)
    have hx : ms[pre.length]? = some x := by
      rw [hL, List.getElem?_append_right (Nat.le_refl _), Nat.sub_self]
      rfl
    have hpl : (prA ms).length = (prA pre).length + ((prM x).length + (prA rest).length) := by
      rw [hL, prA_app, List.length_append]
      show _ + (prM x ++ prA rest).length = _
      rw [List.length_append]
    have ear : ∀ l, am_ar (HP L B1 B2 fi ai aj l) (am_fr (HP L B1 B2 fi ai aj l) 37 (am_fr (HP L B1 B2 fi ai aj l) 4 16)) i = B1 + 2 + 7 * pre.length := fun l => by
      rw [e4, hi]
      show ARR (FRR B1 B2 37 B1) _ = _
      rw [hfl]
      exact hAi
    have hli : ∀ l, am_okr (HP L B1 B2 fi ai aj l) (am_fr (HP L B1 B2 fi ai aj l) 37 (am_fr (HP L B1 B2 fi ai aj l) 4 16)) 1004 i := fun l => by
      rw [e4]
      show am_okr (HP L B1 B2 fi ai aj l) (FRR B1 B2 37 B1) 1004 i
      rw [hfl]
      refine ⟨Or.inr ⟨by omega, by show B1 + 1 < 170; omega⟩, ?_, by omega, ?_, by omega⟩
      · show (CC L (B1 + 1)).1 = 1004
        rw [hCl]
      · show i < ((CC L (B1 + 1)).2 : Int)
        rw [hCl]
        show i < 6
        omega
    refine am_W.br rfl rfl ⟨⟨⟨trivial, okI rfl rfl rfl⟩, okB _⟩, ⟨by omega, by omega⟩, by rw [e4, e38]; exact ⟨by omega, by omega⟩⟩ (fun c1 => absurd c1 (by rw [e4, e38]; omega)) (fun c1 => ?_)
    refine am_W.cv 6 m_Pr_putMapping rfl rfl rfl rfl ⟨⟨⟨⟨⟨trivial, okI rfl rfl rfl⟩, okI rfl rfl rfl⟩, okB _⟩, hli _⟩, okI rfl rfl rfl⟩ (by rw [ear]; exact c_putMapping d L B1 B2 fi ai aj _ x D (prA pre) hMi (hr.2 _ x hx) hI (hw x (by rw [hL]; exact List.mem_append_right _ (List.mem_cons_self ..))) (by omega)) ?_
    rintro r1 h1 ⟨rfl, rfl⟩
    refine am_W.gp 9 rfl trivial ?_
    have e : prA pre ++ prM x = prA (pre ++ [x]) := by
      rw [prA_app]
      show _ = prA pre ++ (prM x ++ [])
      rw [List.append_nil]
    rw [e]
    exact ih (pre ++ [x]) (i + 1) (by rw [hL, List.append_assoc]; rfl) (by rw [List.length_append, List.length_singleton]; omega)
set_option maxHeartbeats 400000 in
set_option maxRecDepth 100000 in
theorem c_MT_print (d L B1 B2 : Nat) (fi : Nat → Nat → Int) (ai aj : Nat → Int → Int) (hB : B1 = 38 ∨ B1 = 82) (D : DT) (hI : DI D) (ms : List MT) (h6 : ms.length ≤ 6) (hr : RepL fi ai B1 ms) (hw : ∀ x ∈ ms, wfM D x) (hl : (prA ms).length ≤ 626) : am_M am_prog (d + 9) m_MT_print [.inr (.inr 16)] (HH L B1 B2 fi ai aj) (fun w h' => w = some (.inl ((prA ms).length : Int)) ∧ h' = HP L B1 B2 fi ai aj (prA ms)) := by
  refine am_W.of rfl rfl ?_
  refine am_W.cv 6 m_Pr_clear rfl rfl rfl rfl ⟨⟨trivial, okI rfl rfl rfl⟩, okI rfl rfl rfl⟩ (c_Pr_clear (d + 7) L B1 B2 fi ai aj) ?_
  rintro r1 h1 ⟨rfl, rfl⟩
  exact am_W.gp 9 rfl trivial (l_MT_print d L B1 B2 fi ai aj hB D hI ms h6 hr hw hl ms [] 0 rfl rfl)
