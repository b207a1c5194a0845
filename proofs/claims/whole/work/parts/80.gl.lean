-- all mappings given
def dMT : MT := (0, (0, 0, []), (0, 0, []), (0, 0, []), (0, 0, 0), (0, 0, 0), 0)
def TMf (D : DT) (ms : List MT) (w t : Int) : Int × List Int := tmx D (ms.getD (w / 256).toNat dMT) (w / 16 % 16) (w % 16) t
def grf (x : MT) : Int := if x.2.2.2.2.2.2 = -1 then 0 else x.2.2.2.2.2.2
theorem mW_in {D : DT} (hI : DI D) {x : MT} {i : Int} : ∀ (k : Nat) (r : Int), ((mW D x i k r).length : Int) ≤ 16 * k ∧ ((mB D x i k r).length : Int) ≤ k ∧ ∀ v ∈ mW D x i k r, (i * 16 + r) * 16 ≤ v ∧ v < (i * 16 + r + k) * 16
  | 0, r => ⟨by show ((0 : Nat) : Int) ≤ _; omega, by show ((0 : Nat) : Int) ≤ _; omega, fun v hv => (by cases hv)⟩
  | k + 1, r => by
    obtain ⟨h1, h2, h3⟩ := mW_in (x := x) (i := i) hI k (r + 1)
    obtain ⟨r1, r2⟩ := rwW_in (x := x) (r := r) (pair := i * 16 + r) hI
    have r3 := rwB_in (D := D) (x := x) (r := r) (pair := i * 16 + r)
    unfold mW mB
    rw [List.length_append, List.length_append]
    by_cases hg : gvs D x r
    · rw [if_pos hg, if_pos hg]
      refine ⟨by omega, by omega, fun v hv => ?_⟩
      rcases List.mem_append.mp hv with g | g
      · have := r2 v g
        omega
      · have := h3 v g
        omega
    · rw [if_neg hg, if_neg hg, List.length_nil, List.length_nil]
      refine ⟨by omega, by omega, fun v hv => ?_⟩
      rw [List.nil_append] at hv
      have := h3 v hv
      omega
set_option maxHeartbeats 400000 in
set_option maxRecDepth 100000 in
theorem l_makeMaps (d L B1 B2 : Nat) (fi : Nat → Nat → Int) (ai aj : Nat → Int → Int) (B : Nat) (hB : B = 38 ∨ B = 82) (Q : Option am_V → am_H → Prop) (hI : DI (DD fi ai)) (ms : List MT) (h6 : ms.length ≤ 6) (hr : RepL fi ai B ms) (hw : ∀ x ∈ ms, wfM (DD fi ai) x) (a33 : Int → Int) (w : ∀ f a j l4 l5, FK fi f ai a aj j → f 31 25 = 0 → a 33 = a33 → (∀ (i : Nat) (x : MT), ms[i]? = some x → a 29 (i : Int) = grf x) → GI f a j (aB (DD fi ai) ms 0) (aW (DD fi ai) ms 0) (TMf (DD fi ai) ms) → am_W (am_ev am_prog (d + 6)) T_Gi_make Q (154, [some (.inr (.inr 25)), some (.inr (.inr B)), some (.inr (.inr 17)), some (.inl (ms.length : Int)), l4, l5], [], HH L B1 B2 f a j)) : ∀ (rest pre : List MT) (i : Int) (f : Nat → Nat → Int) (a j : Nat → Int → Int) (bads : List (Int × Int)) (ways : List Int) (l4 l5 : Option am_V), ms = pre ++ rest → i = (pre.length : Int) → FK fi f ai a aj j → f 31 25 = 0 → a 33 = a33 → (∀ (i : Nat) (x : MT), pre[i]? = some x → a 29 (i : Int) = grf x) → GI f a j bads ways (TMf (DD fi ai) ms) → (∀ v ∈ ways, 0 ≤ v ∧ v < i * 256) → (ways.length : Int) ≤ i * 256 → (bads.length : Int) ≤ i * 16 → aB (DD fi ai) ms 0 = bads ++ aB (DD fi ai) rest i → aW (DD fi ai) ms 0 = ways ++ aW (DD fi ai) rest i → am_W (am_ev am_prog (d + 6)) T_Gi_make Q (33, [some (.inr (.inr 25)), some (.inr (.inr B)), some (.inr (.inr 17)), some (.inl i), l4, l5], [], HH L B1 B2 f a j) := by
  obtain ⟨-, -, hCB, hCl, hfl⟩ := MapAt_all L B1 B2 B 0 hB (by decide)
  have hB0 : 37 < B ∧ B < 100 := by omega
  have okB : ∀ f a b, am_ok (HH L B1 B2 f a b) B 7 := fun f a b => ⟨by omega, by show B < 170; omega, hCB⟩
  intro rest
  induction rest with
  | nil =>
    intro pre i f a j bads ways l4 l5 hL hi hF h31 h33 hg hG hv hl hb eB eW
    rw [List.append_nil] at hL
    subst hL
    have e38 : am_fi (HH L B1 B2 f a j) 38 B = (ms.length : Int) := (hF.1 38 B (by omega) (by omega)).trans hr.1
    refine am_W.br rfl rfl ⟨⟨trivial, okB _ _ _⟩, ⟨by omega, by omega⟩, by rw [e38]; exact ⟨by omega, by omega⟩⟩ (fun c1 => ?_) (fun c1 => absurd c1 (by rw [e38]; omega))
    rw [hi]
    refine w f a j l4 l5 hF h31 h33 hg ?_
    rw [eB, eW]
    show GI f a j (bads ++ []) (ways ++ []) _
    rw [List.append_nil, List.append_nil]
    exact hG
  | cons x rest ih =>
    intro pre i f a j bads ways l4 l5 hL hi hF h31 h33 hg hG hv hl hb eB eW
    have hlen : ms.length = pre.length + (rest.length + 1) := by rw [hL, List.length_append, List.length_cons]
    have e38 : am_fi (HH L B1 B2 f a j) 38 B = (ms.length : Int) := (hF.1 38 B (by omega) (by omega)).trans hr.1
    obtain ⟨hMi, hAi, -, -, -⟩ := MapAt_all L B1 B2 B pre.length hB (by omega)
    have hx : ms[pre.length]? = some x := by
      rw [hL, List.getElem?_append_right (Nat.le_refl _), Nat.sub_self]
      rfl
    have hxr := hr.2 _ x hx
    have hxw := hw x (by rw [hL]; exact List.mem_append_right _ (List.mem_cons_self ..))
    have hM0 := hMi.1
    have hM1 := hMi.2.1
    have hx1 : RepM f a (B + 2 + 7 * pre.length) x := hF.M hM0 hxr
    have ear : am_ar (HH L B1 B2 f a j) (am_fr (HH L B1 B2 f a j) 37 B) i = B + 2 + 7 * pre.length := by
      rw [show am_fr (HH L B1 B2 f a j) 37 B = B + 1 from hfl, hi]
      exact hAi
    have hli : am_okr (HH L B1 B2 f a j) (am_fr (HH L B1 B2 f a j) 37 B) 1004 i := by
      rw [show am_fr (HH L B1 B2 f a j) 37 B = B + 1 from hfl]
      refine ⟨Or.inr ⟨by omega, by show B + 1 < 170; omega⟩, ?_, by omega, ?_, by omega⟩
      · show (CC L (B + 1)).1 = 1004
        rw [hCl]
      · show i < ((CC L (B + 1)).2 : Int)
        rw [hCl]
        show i < 6
        omega
    have hgR := hxw.2.2.2.2.2
    have e49 : am_fi (HH L B1 B2 f a j) 49 (B + 2 + 7 * pre.length) = x.2.2.2.2.2.2 := hx1.2.2.2.2.2.2.2.2.2
    have hro := ro_in x.1 hI
    -- behind the graph
    have hgo : ∀ g : Int, g = grf x → am_W (am_ev am_prog (d + 6)) T_Gi_make Q (72, [some (.inr (.inr 25)), some (.inr (.inr B)), some (.inr (.inr 17)), some (.inl i), some (.inr (.inr (B + 2 + 7 * pre.length))), l5], [.inl g, .inl i, .inr (.inr 29)], HH L B1 B2 f a j) := by
      intro g hgg
      have oka29 : am_oka (HH L B1 B2 f a j) 29 1000 i := okaI rfl rfl (t := 1000) (N := 6) rfl rfl (by omega) (by omega)
      refine am_W.gp 76 rfl ⟨trivial, oka29⟩ ?_
      simp only [HS, u2_sa]
      have hF2 : FK fi f ai (am_sa a 29 (up (a 29) i g)) aj j := ⟨hF.1, fun b p => by rw [san _ _ (by omega)]; exact hF.2.1 b p, hF.2.2⟩
      have hG2 : GI f (am_sa a 29 (up (a 29) i g)) j bads ways (TMf (DD fi ai) ms) := by
        obtain ⟨g1, g2, g3, g4, g5⟩ := hG
        refine ⟨g1, fun q p hq => ?_, g3, fun q p hq => ?_, g5⟩
        · rw [san _ _ (by decide), san _ _ (by decide)]
          exact g2 q p hq
        · rw [san _ _ (by decide)]
          exact g4 q p hq
      have hTM : ∀ row o t, 0 ≤ row → row < 16 → 0 ≤ o → o < 16 → TMf (DD fi ai) ms ((i * 16 + row) * 16 + o) t = tmx (DD fi ai) x row o t := by
        intro row o t r0 r1 o0 o1
        unfold TMf
        rw [show ((i * 16 + row) * 16 + o) / 256 = i by omega, show ((i * 16 + row) * 16 + o) / 16 % 16 = row by omega, show ((i * 16 + row) * 16 + o) % 16 = o by omega, hi, Int.toNat_natCast, List.getD_eq_getElem?_getD, hx]
        rfl
      obtain ⟨m1, m2, m3⟩ := mW_in (x := x) (i := i) hI (ro (DD fi ai) x.1).toNat 0
      refine l_makeRows d L B1 B2 fi ai aj B (B + 2 + 7 * pre.length) x i Q hMi hxr hI hxw ⟨by omega, by omega⟩ _ hTM [] [] (ro (DD fi ai) x.1).toNat 0 f _ j bads ways (by omega) (by omega) hF2 h31 hG2 (fun v hv2 => by have := hv v hv2; omega) (by omega) (by omega) ?_
      intro f' a' j' k1 k2 k3 k4 k5
      refine am_W.gp 33 rfl trivial (ih (pre ++ [x]) (i + 1) f' a' j' _ _ _ _ (by rw [hL, List.append_assoc]; rfl) (by rw [List.length_append, List.length_singleton]; omega) k1 k2 (k4.trans ((san _ _ (by decide)).trans h33)) ?_ k5 ?_ ?_ ?_ ?_ ?_)
      · intro q z hz
        rw [k3, sas]
        rcases getE_app hz with ⟨z1, z2⟩ | ⟨z1, z2⟩
        · rw [up_n _ _ (by omega)]
          exact hg q z z2
        · rw [z1, ← hi, up_s, z2]
          exact hgg
      · intro v hv2
        rcases List.mem_append.mp hv2 with z | z
        · have := hv v z
          omega
        · have := m3 v z
          omega
      · rw [List.length_append]
        omega
      · rw [List.length_append]
        omega
      · rw [eB, List.append_assoc]
        rfl
      · rw [eW, List.append_assoc]
        rfl
    refine am_W.br rfl rfl ⟨⟨trivial, okB _ _ _⟩, ⟨by omega, by omega⟩, by rw [e38]; exact ⟨by omega, by omega⟩⟩ (fun c1 => absurd c1 (by rw [e38]; omega)) (fun c1 => ?_)
    refine am_W.gp 49 rfl ⟨⟨trivial, okB _ _ _⟩, hli⟩ ?_
    rw [ear]
    refine am_W.br rfl rfl ⟨⟨⟨trivial, okI rfl rfl rfl⟩, HH_ma _ _ _ hMi⟩, by rw [e49]; exact ⟨by omega, by omega⟩, ⟨by omega, by omega⟩⟩ (fun c2 => ?_) (fun c2 => ?_)
    · rw [e49] at c2
      refine am_W.gp 72 rfl ⟨trivial, HH_ma _ _ _ hMi⟩ ?_
      rw [show am_gf (HH L B1 B2 f a j) 49 (B + 2 + 7 * pre.length) 0 = .inl x.2.2.2.2.2.2 from congrArg Sum.inl e49]
      exact hgo _ (if_neg c2).symm
    · rw [e49] at c2
      exact am_W.gp 72 rfl trivial (hgo 0 (if_pos (by omega)).symm)
