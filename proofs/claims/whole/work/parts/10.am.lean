-- the small machine: ints as Int (no wrapping in the number itself), references as Nat (0: none; below 16: cells that stand outside), a heap by fields
abbrev am_V : Type := Int ⊕ (Int ⊕ Nat)
abbrev am_H : Type := Nat × Nat × (Nat → Nat × Nat) × (Nat → Nat → Int) × (Nat → Nat → Int) × (Nat → Nat → Nat) × (Nat → Int → Int) × (Nat → Int → Int) × (Nat → Int → Nat)
def am_n (h : am_H) : Nat := h.1
def am_sl (h : am_H) : Nat := h.2.1
def am_c (h : am_H) : Nat → Nat × Nat := h.2.2.1
def am_fi (h : am_H) : Nat → Nat → Int := h.2.2.2.1
def am_fj (h : am_H) : Nat → Nat → Int := h.2.2.2.2.1
def am_fr (h : am_H) : Nat → Nat → Nat := h.2.2.2.2.2.1
def am_ai (h : am_H) : Nat → Int → Int := h.2.2.2.2.2.2.1
def am_aj (h : am_H) : Nat → Int → Int := h.2.2.2.2.2.2.2.1
def am_ar (h : am_H) : Nat → Int → Nat := h.2.2.2.2.2.2.2.2
def am_u2 {β γ : Type} [DecidableEq β] (f : Nat → β → γ) (i : Nat) (a : β) (v : γ) : Nat → β → γ := fun j b => if j = i then (if b = a then v else f j b) else f j b
def am_ufi (h : am_H) (i a : Nat) (v : Int) : am_H := (am_n h, am_sl h, am_c h, am_u2 (am_fi h) i a v, am_fj h, am_fr h, am_ai h, am_aj h, am_ar h)
def am_ufj (h : am_H) (i a : Nat) (v : Int) : am_H := (am_n h, am_sl h, am_c h, am_fi h, am_u2 (am_fj h) i a v, am_fr h, am_ai h, am_aj h, am_ar h)
def am_ufr (h : am_H) (i a : Nat) (v : Nat) : am_H := (am_n h, am_sl h, am_c h, am_fi h, am_fj h, am_u2 (am_fr h) i a v, am_ai h, am_aj h, am_ar h)
def am_uai (h : am_H) (a : Nat) (i v : Int) : am_H := (am_n h, am_sl h, am_c h, am_fi h, am_fj h, am_fr h, am_u2 (am_ai h) a i v, am_aj h, am_ar h)
def am_uaj (h : am_H) (a : Nat) (i v : Int) : am_H := (am_n h, am_sl h, am_c h, am_fi h, am_fj h, am_fr h, am_ai h, am_u2 (am_aj h) a i v, am_ar h)
def am_uar (h : am_H) (a : Nat) (i : Int) (v : Nat) : am_H := (am_n h, am_sl h, am_c h, am_fi h, am_fj h, am_fr h, am_ai h, am_aj h, am_u2 (am_ar h) a i v)
/-- an object of kind ci with N slots, all fields at their defaults -/
def am_nwo (h : am_H) (ci N : Nat) : am_H := (am_n h + 1, am_sl h + N, (fun b => if b = am_n h then (ci, 0) else am_c h b), (fun j b => if b = am_n h then 0 else am_fi h j b), (fun j b => if b = am_n h then 0 else am_fj h j b), (fun j b => if b = am_n h then 0 else am_fr h j b), am_ai h, am_aj h, am_ar h)
/-- an array of kind t -/
def am_nwa (h : am_H) (t N : Nat) : am_H := (am_n h + 1, am_sl h + N, (fun b => if b = am_n h then (t, N) else am_c h b), am_fi h, am_fj h, am_fr h, (fun b j => if b = am_n h then 0 else am_ai h b j), (fun b j => if b = am_n h then 0 else am_aj h b j), (fun b j => if b = am_n h then 0 else am_ar h b j))
/-- System.arraycopy between arrays of ints -/
def am_cpi (h : am_H) (a : Nat) (i : Int) (b : Nat) (j n : Int) : am_H := (am_n h, am_sl h, am_c h, am_fi h, am_fj h, am_fr h, (fun q k => if q = b then (if j ≤ k ∧ k < j + n then am_ai h a (i + (k - j)) else am_ai h q k) else am_ai h q k), am_aj h, am_ar h)
theorem am_u2_e {β γ : Type} [DecidableEq β] (f : Nat → β → γ) (i j : Nat) (a b : β) (v : γ) : am_u2 f i a v j b = if j = i then (if b = a then v else f j b) else f j b := rfl
-- what each part of a heap is behind each change: one bundle for simp
theorem am_S1 : (∀ h i a v, am_n (am_ufi h i a v) = am_n h) ∧ (∀ h i a v, am_sl (am_ufi h i a v) = am_sl h) ∧ (∀ h i a v, am_c (am_ufi h i a v) = am_c h) ∧ (∀ h i a v, am_fi (am_ufi h i a v) = am_u2 (am_fi h) i a v) ∧ (∀ h i a v, am_fj (am_ufi h i a v) = am_fj h) ∧ (∀ h i a v, am_fr (am_ufi h i a v) = am_fr h) ∧ (∀ h i a v, am_ai (am_ufi h i a v) = am_ai h) ∧ (∀ h i a v, am_aj (am_ufi h i a v) = am_aj h) ∧ (∀ h i a v, am_ar (am_ufi h i a v) = am_ar h) := ⟨fun _ _ _ _ => rfl, fun _ _ _ _ => rfl, fun _ _ _ _ => rfl, fun _ _ _ _ => rfl, fun _ _ _ _ => rfl, fun _ _ _ _ => rfl, fun _ _ _ _ => rfl, fun _ _ _ _ => rfl, fun _ _ _ _ => rfl⟩
theorem am_S2 : (∀ h i a v, am_n (am_ufj h i a v) = am_n h) ∧ (∀ h i a v, am_sl (am_ufj h i a v) = am_sl h) ∧ (∀ h i a v, am_c (am_ufj h i a v) = am_c h) ∧ (∀ h i a v, am_fi (am_ufj h i a v) = am_fi h) ∧ (∀ h i a v, am_fj (am_ufj h i a v) = am_u2 (am_fj h) i a v) ∧ (∀ h i a v, am_fr (am_ufj h i a v) = am_fr h) ∧ (∀ h i a v, am_ai (am_ufj h i a v) = am_ai h) ∧ (∀ h i a v, am_aj (am_ufj h i a v) = am_aj h) ∧ (∀ h i a v, am_ar (am_ufj h i a v) = am_ar h) := ⟨fun _ _ _ _ => rfl, fun _ _ _ _ => rfl, fun _ _ _ _ => rfl, fun _ _ _ _ => rfl, fun _ _ _ _ => rfl, fun _ _ _ _ => rfl, fun _ _ _ _ => rfl, fun _ _ _ _ => rfl, fun _ _ _ _ => rfl⟩
theorem am_S3 : (∀ h i a v, am_n (am_ufr h i a v) = am_n h) ∧ (∀ h i a v, am_sl (am_ufr h i a v) = am_sl h) ∧ (∀ h i a v, am_c (am_ufr h i a v) = am_c h) ∧ (∀ h i a v, am_fi (am_ufr h i a v) = am_fi h) ∧ (∀ h i a v, am_fj (am_ufr h i a v) = am_fj h) ∧ (∀ h i a v, am_fr (am_ufr h i a v) = am_u2 (am_fr h) i a v) ∧ (∀ h i a v, am_ai (am_ufr h i a v) = am_ai h) ∧ (∀ h i a v, am_aj (am_ufr h i a v) = am_aj h) ∧ (∀ h i a v, am_ar (am_ufr h i a v) = am_ar h) := ⟨fun _ _ _ _ => rfl, fun _ _ _ _ => rfl, fun _ _ _ _ => rfl, fun _ _ _ _ => rfl, fun _ _ _ _ => rfl, fun _ _ _ _ => rfl, fun _ _ _ _ => rfl, fun _ _ _ _ => rfl, fun _ _ _ _ => rfl⟩
theorem am_S4 : (∀ h a i v, am_n (am_uai h a i v) = am_n h) ∧ (∀ h a i v, am_sl (am_uai h a i v) = am_sl h) ∧ (∀ h a i v, am_c (am_uai h a i v) = am_c h) ∧ (∀ h a i v, am_fi (am_uai h a i v) = am_fi h) ∧ (∀ h a i v, am_fj (am_uai h a i v) = am_fj h) ∧ (∀ h a i v, am_fr (am_uai h a i v) = am_fr h) ∧ (∀ h a i v, am_ai (am_uai h a i v) = am_u2 (am_ai h) a i v) ∧ (∀ h a i v, am_aj (am_uai h a i v) = am_aj h) ∧ (∀ h a i v, am_ar (am_uai h a i v) = am_ar h) := ⟨fun _ _ _ _ => rfl, fun _ _ _ _ => rfl, fun _ _ _ _ => rfl, fun _ _ _ _ => rfl, fun _ _ _ _ => rfl, fun _ _ _ _ => rfl, fun _ _ _ _ => rfl, fun _ _ _ _ => rfl, fun _ _ _ _ => rfl⟩
theorem am_S5 : (∀ h a i v, am_n (am_uaj h a i v) = am_n h) ∧ (∀ h a i v, am_sl (am_uaj h a i v) = am_sl h) ∧ (∀ h a i v, am_c (am_uaj h a i v) = am_c h) ∧ (∀ h a i v, am_fi (am_uaj h a i v) = am_fi h) ∧ (∀ h a i v, am_fj (am_uaj h a i v) = am_fj h) ∧ (∀ h a i v, am_fr (am_uaj h a i v) = am_fr h) ∧ (∀ h a i v, am_ai (am_uaj h a i v) = am_ai h) ∧ (∀ h a i v, am_aj (am_uaj h a i v) = am_u2 (am_aj h) a i v) ∧ (∀ h a i v, am_ar (am_uaj h a i v) = am_ar h) := ⟨fun _ _ _ _ => rfl, fun _ _ _ _ => rfl, fun _ _ _ _ => rfl, fun _ _ _ _ => rfl, fun _ _ _ _ => rfl, fun _ _ _ _ => rfl, fun _ _ _ _ => rfl, fun _ _ _ _ => rfl, fun _ _ _ _ => rfl⟩
theorem am_S6 : (∀ h a i v, am_n (am_uar h a i v) = am_n h) ∧ (∀ h a i v, am_sl (am_uar h a i v) = am_sl h) ∧ (∀ h a i v, am_c (am_uar h a i v) = am_c h) ∧ (∀ h a i v, am_fi (am_uar h a i v) = am_fi h) ∧ (∀ h a i v, am_fj (am_uar h a i v) = am_fj h) ∧ (∀ h a i v, am_fr (am_uar h a i v) = am_fr h) ∧ (∀ h a i v, am_ai (am_uar h a i v) = am_ai h) ∧ (∀ h a i v, am_aj (am_uar h a i v) = am_aj h) ∧ (∀ h a i v, am_ar (am_uar h a i v) = am_u2 (am_ar h) a i v) := ⟨fun _ _ _ _ => rfl, fun _ _ _ _ => rfl, fun _ _ _ _ => rfl, fun _ _ _ _ => rfl, fun _ _ _ _ => rfl, fun _ _ _ _ => rfl, fun _ _ _ _ => rfl, fun _ _ _ _ => rfl, fun _ _ _ _ => rfl⟩
-- values in range
abbrev am_R (x : Int) : Prop := -2147483648 ≤ x ∧ x ≤ 2147483647
abbrev am_RJ (x : Int) : Prop := -9223372036854775808 ≤ x ∧ x ≤ 9223372036854775807
def am_and (x y : Int) : Int := (Int32.ofInt x &&& Int32.ofInt y).toInt
def am_or (x y : Int) : Int := (Int32.ofInt x ||| Int32.ofInt y).toInt
def am_shl (x y : Int) : Int := (Int32.ofInt x <<< (Int32.ofInt y &&& 31)).toInt
def am_shr (x y : Int) : Int := (Int32.ofInt x >>> (Int32.ofInt y &&& 31)).toInt
def am_andJ (x y : Int) : Int := (Int64.ofInt x &&& Int64.ofInt y).toInt
def am_orJ (x y : Int) : Int := (Int64.ofInt x ||| Int64.ofInt y).toInt
def am_shlJ (x y : Int) : Int := (Int64.ofInt x <<< ((Int32.ofInt y).toInt64 &&& 63)).toInt
def am_shrJ (x y : Int) : Int := (Int64.ofInt x >>> ((Int32.ofInt y).toInt64 &&& 63)).toInt
-- a frame: its place, its variables, its operands, the heap
abbrev am_L : Type := List (Option am_V)
abbrev am_F : Type := Nat × am_L × List am_V × am_H
/-- an entry: the instruction, the next place, two numbers, a number, and for a call its targets -/
abbrev am_N : Type := Instr × Nat × Nat × Nat × Int × List (Nat × Nat)
abbrev am_T : Type := Nat → Option am_N
def am_lk : am_L → Nat → Option am_V
  | [], _ => none
  | a :: _, 0 => a
  | _ :: r, n + 1 => am_lk r n
def am_cl : Option am_V → Option am_V
  | some (.inr (.inl _)) => none
  | a => a
def am_s1 : am_L → Nat → am_V → am_L
  | [], _, _ => []
  | _ :: r, 0, v => some v :: r
  | a :: r, 1, v => am_cl a :: am_s1 r 0 v
  | a :: r, n + 2, v => a :: am_s1 r (n + 1) v
def am_nx : am_L → am_L
  | [] => []
  | _ :: r => none :: r
def am_s2 : am_L → Nat → am_V → am_L
  | [], _, _ => []
  | _ :: r, 0, v => some v :: am_nx r
  | a :: r, 1, v => am_cl a :: am_s2 r 0 v
  | a :: r, n + 2, v => a :: am_s2 r (n + 1) v
def am_pi {β : Type} (s : List am_V) (k : Int → List am_V → Option β) : Option β := match s with
  | .inl x :: r => k x r
  | _ => none
def am_pj {β : Type} (s : List am_V) (k : Int → List am_V → Option β) : Option β := match s with
  | .inr (.inl x) :: r => k x r
  | _ => none
def am_pr {β : Type} (s : List am_V) (k : Nat → List am_V → Option β) : Option β := match s with
  | .inr (.inr x) :: r => k x r
  | _ => none
/-- a value of one slot -/
def am_p1 {β : Type} (s : List am_V) (k : am_V → List am_V → Option β) : Option β := match s with
  | .inl x :: r => k (.inl x) r
  | .inr (.inr x) :: r => k (.inr (.inr x)) r
  | _ => none
def am_bi (nx : Nat) (ls : am_L) (s : List am_V) (h : am_H) (f : Int → Int → Int) : Option am_F := am_pi s fun y s => am_pi s fun x s => some (nx, ls, .inl (f x y) :: s, h)
def am_bj (nx : Nat) (ls : am_L) (s : List am_V) (h : am_H) (f : Int → Int → Int) : Option am_F := am_pj s fun y s => am_pj s fun x s => some (nx, ls, .inr (.inl (f x y)) :: s, h)
def am_sj (nx : Nat) (ls : am_L) (s : List am_V) (h : am_H) (f : Int → Int → Int) : Option am_F := am_pi s fun y s => am_pj s fun x s => some (nx, ls, .inr (.inl (f x y)) :: s, h)
def am_li (nx : Nat) (ls : am_L) (s : List am_V) (h : am_H) (k : Nat) : Option am_F := match am_lk ls k with
  | some (.inl x) => some (nx, ls, .inl x :: s, h)
  | _ => none
def am_lj (nx : Nat) (ls : am_L) (s : List am_V) (h : am_H) (k : Nat) : Option am_F := match am_lk ls k with
  | some (.inr (.inl x)) => some (nx, ls, .inr (.inl x) :: s, h)
  | _ => none
def am_lr (nx : Nat) (ls : am_L) (s : List am_V) (h : am_H) (k : Nat) : Option am_F := match am_lk ls k with
  | some (.inr (.inr x)) => some (nx, ls, .inr (.inr x) :: s, h)
  | _ => none
def am_inc (nx : Nat) (ls : am_L) (s : List am_V) (h : am_H) (k : Nat) (n : Int) : Option am_F := match am_lk ls k with
  | some (.inl x) => some (nx, am_s1 ls k (.inl (x + n)), s, h)
  | _ => none
/-- steps that ask nothing -/
def am_op (i : Instr) (nx a b : Nat) (c : Int) (ls : am_L) (s : List am_V) (h : am_H) : Option am_F := match i with
  | .iconst n => some (nx, ls, .inl n :: s, h)
  | .bipush n => some (nx, ls, .inl n :: s, h)
  | .sipush n => some (nx, ls, .inl n :: s, h)
  | .lconst n => some (nx, ls, .inr (.inl n.val) :: s, h)
  | .ldc _ => match b with
    | 0 => some (nx, ls, .inl c :: s, h)
    | _ => some (nx, ls, .inr (.inr a) :: s, h)
  | .ldc2_w _ => some (nx, ls, .inr (.inl c) :: s, h)
  | .iload k => am_li nx ls s h k
  | .iload_n k => am_li nx ls s h k.val
  | .lload k => am_lj nx ls s h k
  | .lload_n k => am_lj nx ls s h k.val
  | .aload k => am_lr nx ls s h k
  | .aload_n k => am_lr nx ls s h k.val
  | .istore k => am_pi s fun x s => some (nx, am_s1 ls k (.inl x), s, h)
  | .istore_n k => am_pi s fun x s => some (nx, am_s1 ls k.val (.inl x), s, h)
  | .lstore k => am_pj s fun x s => some (nx, am_s2 ls k (.inr (.inl x)), s, h)
  | .lstore_n k => am_pj s fun x s => some (nx, am_s2 ls k.val (.inr (.inl x)), s, h)
  | .astore k => am_pr s fun x s => some (nx, am_s1 ls k (.inr (.inr x)), s, h)
  | .astore_n k => am_pr s fun x s => some (nx, am_s1 ls k.val (.inr (.inr x)), s, h)
  | .iinc k n => am_inc nx ls s h k n
  | .iadd => am_pi s fun y s => am_pi s fun x s => some (nx, ls, .inl (x + y) :: s, h)
  | .isub => am_pi s fun y s => am_pi s fun x s => some (nx, ls, .inl (x - y) :: s, h)
  | .imul => am_pi s fun y s => am_pi s fun x s => some (nx, ls, .inl (x * y) :: s, h)
  | .iand => am_bi nx ls s h am_and
  | .ior => am_bi nx ls s h am_or
  | .ishl => am_bi nx ls s h am_shl
  | .ishr => am_bi nx ls s h am_shr
  | .ineg => am_pi s fun x s => some (nx, ls, .inl (-x) :: s, h)
  | .land => am_bj nx ls s h am_andJ
  | .lor => am_bj nx ls s h am_orJ
  | .lshl => am_sj nx ls s h am_shlJ
  | .lshr => am_sj nx ls s h am_shrJ
  | .l2i => am_pj s fun x s => some (nx, ls, .inl x :: s, h)
  | .dup => am_p1 s fun v s => some (nx, ls, v :: v :: s, h)
  | .pop => am_p1 s fun _ s => some (nx, ls, s, h)
  | .dup2 => am_p1 s fun v s => am_p1 s fun w s => some (nx, ls, v :: w :: v :: w :: s, h)
  | .goto _ => some (a, ls, s, h)
  | _ => none
abbrev am_ok (h : am_H) (r ci : Nat) : Prop := 16 ≤ r ∧ r < am_n h ∧ am_c h r = (ci, 0)
/-- an array that may be written -/
abbrev am_oka (h : am_H) (r t : Nat) (i : Int) : Prop := 16 ≤ r ∧ r < am_n h ∧ (am_c h r).1 = t ∧ 0 ≤ i ∧ i < ((am_c h r).2 : Int) ∧ i ≤ 2147483647
/-- an array that may be read -/
abbrev am_okr (h : am_H) (r t : Nat) (i : Int) : Prop := (r = 1 ∨ 16 ≤ r ∧ r < am_n h) ∧ (am_c h r).1 = t ∧ 0 ≤ i ∧ i < ((am_c h r).2 : Int) ∧ i ≤ 2147483647
abbrev am_cp (h : am_H) (r : Nat) (i : Int) (q : Nat) (j n : Int) : Prop := (16 ≤ r ∧ r < am_n h ∧ (am_c h r).1 = 1000 ∧ 0 ≤ i ∧ i + n ≤ ((am_c h r).2 : Int) ∧ i ≤ 2147483647) ∧ (16 ≤ q ∧ q < am_n h ∧ (am_c h q).1 = 1000 ∧ 0 ≤ j ∧ j + n ≤ ((am_c h q).2 : Int) ∧ j ≤ 2147483647) ∧ 0 ≤ n ∧ n ≤ 2147483647
/-- the texts that stand outside -/
def am_str : Nat → List Int
  | 2 => [109, 97, 112]
  | 3 => [58]
  | 4 => [111, 102]
  | 5 => [98, 121]
  | 6 => [105, 102]
  | 7 => [110, 117, 108, 108]
  | 8 => [105, 110]
  | _ => []
def am_gf (h : am_H) (b r : Nat) (c : Int) : am_V := match c with
  | 1 => .inr (.inl (am_fj h b r))
  | 2 => .inr (.inr (am_fr h b r))
  | _ => .inl (am_fi h b r)
/-- steps that ask something -/
def am_cq (i : Instr) (nx a b : Nat) (c : Int) (ls : am_L) (s : List am_V) (h : am_H) : Option (Prop × am_F) := match i with
  | .i2l => am_pi s fun x s => some (am_R x, nx, ls, .inr (.inl x) :: s, h)
  | .i2b => am_pi s fun x s => some (-128 ≤ x ∧ x < 128, nx, ls, .inl x :: s, h)
  | .idiv => am_pi s fun y s => am_pi s fun x s => some (am_R x ∧ am_R y ∧ y ≠ 0, nx, ls, .inl (x.tdiv y) :: s, h)
  | .irem => am_pi s fun y s => am_pi s fun x s => some (am_R x ∧ am_R y ∧ y ≠ 0, nx, ls, .inl (x.tmod y) :: s, h)
  | .lcmp => am_pj s fun y s => am_pj s fun x s => some (am_RJ x ∧ am_RJ y, nx, ls, .inl (if x < y then -1 else if x = y then 0 else 1) :: s, h)
  | .getfield _ => am_pr s fun r s => some (am_ok h r a, nx, ls, am_gf h b r c :: s, h)
  | .putfield _ => match c with
    | 0 => am_pi s fun v s => am_pr s fun r s => some (am_ok h r a, nx, ls, s, am_ufi h b r v)
    | 3 => am_pi s fun v s => am_pr s fun r s => some (am_ok h r a ∧ (v = 0 ∨ v = 1), nx, ls, s, am_ufi h b r v)
    | 1 => am_pj s fun v s => am_pr s fun r s => some (am_ok h r a, nx, ls, s, am_ufj h b r v)
    | 2 => am_pr s fun v s => am_pr s fun r s => some (am_ok h r a, nx, ls, s, am_ufr h b r v)
    | _ => none
  | .iaload => am_pi s fun i s => am_pr s fun r s => some (am_okr h r a i, nx, ls, .inl (am_ai h r i) :: s, h)
  | .baload => am_pi s fun i s => am_pr s fun r s => some (am_okr h r a i, nx, ls, .inl (am_ai h r i) :: s, h)
  | .laload => am_pi s fun i s => am_pr s fun r s => some (am_okr h r a i, nx, ls, .inr (.inl (am_aj h r i)) :: s, h)
  | .aaload => am_pi s fun i s => am_pr s fun r s => some (am_okr h r a i, nx, ls, .inr (.inr (am_ar h r i)) :: s, h)
  | .iastore => am_pi s fun v s => am_pi s fun i s => am_pr s fun r s => some (am_oka h r a i, nx, ls, s, am_uai h r i v)
  | .bastore => match c with
    | 0 => am_pi s fun v s => am_pi s fun i s => am_pr s fun r s => some (am_oka h r a i ∧ (v = 0 ∨ v = 1), nx, ls, s, am_uai h r i v)
    | _ => am_pi s fun v s => am_pi s fun i s => am_pr s fun r s => some (am_oka h r a i ∧ -128 ≤ v ∧ v < 128, nx, ls, s, am_uai h r i v)
  | .lastore => am_pj s fun v s => am_pi s fun i s => am_pr s fun r s => some (am_oka h r a i, nx, ls, s, am_uaj h r i v)
  | .aastore => am_pr s fun v s => am_pi s fun i s => am_pr s fun r s => some (am_oka h r a i ∧ am_ok h v b, nx, ls, s, am_uar h r i v)
  | .arraylength => am_pr s fun r s => some ((r = 1 ∨ 16 ≤ r ∧ r < am_n h) ∧ (am_c h r).1 = a, nx, ls, .inl (am_c h r).2 :: s, h)
  | .new _ => some (True, nx, ls, .inr (.inr (am_n h)) :: s, am_nwo h a b)
  | .newarray _ => am_pi s fun x s => some (0 ≤ x ∧ x ≤ 100000, nx, ls, .inr (.inr (am_n h)) :: s, am_nwa h a x.toNat)
  | .anewarray _ => am_pi s fun x s => some (0 ≤ x ∧ x ≤ 100000, nx, ls, .inr (.inr (am_n h)) :: s, am_nwa h a x.toNat)
  | _ => none
def am_cmp {β : Type} (c : ClassFile.Cond) (x y : Int) (k : Prop → β) : β := match c with
  | .eq => k (x = y)
  | .ne => k (¬ x = y)
  | .lt => k (x < y)
  | .ge => k (y ≤ x)
  | .gt => k (y < x)
  | .le => k (x ≤ y)
/-- forks -/
def am_fk (i : Instr) (nx a : Nat) (ls : am_L) (s : List am_V) (h : am_H) : Option (Prop × Prop × am_F × am_F) := match i with
  | .if_icmp c _ => am_pi s fun y s => am_pi s fun x s => am_cmp c x y fun q => some (am_R x ∧ am_R y, q, (a, ls, s, h), (nx, ls, s, h))
  | .ifCond c _ => am_pi s fun x s => am_cmp c x 0 fun q => some (am_R x, q, (a, ls, s, h), (nx, ls, s, h))
  | _ => none
def am_tk : Nat → List am_V → List am_V → Option (List am_V × List am_V)
  | 0, s, acc => some (acc, s)
  | k + 1, v :: s, acc => am_tk k s (v :: acc)
  | _ + 1, [], _ => none
def am_w8 : List am_V → Nat
  | [] => 0
  | .inr (.inl _) :: r => am_w8 r + 2
  | _ :: r => am_w8 r + 1
def am_st (T : am_T) (f : am_F) : Option am_F := match f with
  | (pc, ls, s, h) => match T pc with
    | some (i, nx, a, b, c, _) => am_op i nx a b c ls s h
    | none => none
def am_ck (T : am_T) (f : am_F) : Option (Prop × am_F) := match f with
  | (pc, ls, s, h) => match T pc with
    | some (i, nx, a, b, c, _) => am_cq i nx a b c ls s h
    | none => none
def am_br (T : am_T) (f : am_F) : Option (Prop × Prop × am_F × am_F) := match f with
  | (pc, ls, s, h) => match T pc with
    | some (i, nx, a, _, _, _) => am_fk i nx a ls s h
    | none => none
/-- a call: its kind (0 static, 1 special, 2 by the receiver), its targets (kind of the receiver, method), the arguments, what it comes back to -/
def am_ca (T : am_T) (f : am_F) : Option (Nat × List (Nat × Nat) × List am_V × Nat × am_L × List am_V × am_H) := match f with
  | (pc, ls, s, h) => match T pc with
    | some (.invokestatic _, nx, _, b, _, al) => match am_tk b s [] with
      | some (as, r) => some (0, al, as, nx, ls, r, h)
      | none => none
    | some (.invokespecial _, nx, _, b, _, al) => match am_tk b s [] with
      | some (as, r) => some (1, al, as, nx, ls, r, h)
      | none => none
    | some (.invokevirtual _, nx, _, b, c, al) => match am_tk b s [] with
      | some (as, r) => match c with
        | 0 => some (2, al, as, nx, ls, r, h)
        | _ => some (3, al, as, nx, ls, r, h)
      | none => none
    | _ => none
def am_rt (T : am_T) (f : am_F) : Option (Prop × Option am_V × am_H) := match f with
  | (pc, _, s, h) => match T pc with
    | some (.ireturn, _, _, _, c, _) => match s with
      | [.inl x] => match c with
        | 0 => some (True, some (.inl x), h)
        | _ => some (x = 0 ∨ x = 1, some (.inl x), h)
      | _ => none
    | some (.lreturn, _, _, _, _, _) => match s with
      | [.inr (.inl x)] => some (True, some (.inr (.inl x)), h)
      | _ => none
    | some (.return_, _, _, _, _, _) => match s with
      | [] => some (True, none, h)
      | _ => none
    | _ => none
def am_sw (T : am_T) (f : am_F) : Option (Int × List (Nat × Nat) × Nat × am_L × List am_V × am_H) := match f with
  | (pc, ls, s, h) => match T pc with
    | some (.tableswitch _ _ _ _, _, a, _, _, al) => am_pi s fun x s => some (x, al, a, ls, s, h)
    | _ => none
def am_rc (kd ci : Nat) (as : List am_V) (h : am_H) : Prop := match kd with
  | 1 => ∃ r rest, as = .inr (.inr r) :: rest ∧ 16 ≤ r
  | 2 => ∃ r rest, as = .inr (.inr r) :: rest ∧ am_ok h r ci
  | _ => True
def am_bk (r : Option am_V) (s : List am_V) : List am_V := match r with
  | some v => v :: s
  | none => s
abbrev am_C : Type := Nat → List am_V → am_H → Option am_V → am_H → Prop
def am_run (C : am_C) (T : am_T) : Nat → am_F → Option am_V → am_H → Prop
  | 0, _, _, _ => False
  | k + 1, f, r, h' =>
    (∃ f', am_st T f = some f' ∧ am_run C T k f' r h') ∨
    (∃ P f', am_ck T f = some (P, f') ∧ P ∧ am_run C T k f' r h') ∨
    (∃ P c fa fb, am_br T f = some (P, c, fa, fb) ∧ P ∧ (c ∧ am_run C T k fa r h' ∨ ¬ c ∧ am_run C T k fb r h')) ∨
    (∃ kd al as nx ls s h ci md r1 h1, am_ca T f = some (kd, al, as, nx, ls, s, h) ∧ (ci, md) ∈ al ∧ am_w8 s ≤ 8 ∧ am_rc kd ci as h ∧ C md as h r1 h1 ∧ am_run C T k (nx, ls, am_bk r1 s, h1) r h') ∨
    (∃ x al d ls s h tg, am_sw T f = some (x, al, d, ls, s, h) ∧ am_R x ∧ ((∃ k : Nat, (k, tg) ∈ al ∧ x = k) ∨ (∀ q ∈ al, x ≠ ((q.1 : Nat) : Int)) ∧ tg = d) ∧ am_run C T k (tg, ls, s, h) r h') ∨
    (∃ P, am_rt T f = some (P, r, h') ∧ P) ∨
    (∃ pc ls x y s h, f = (pc, ls, .inl x :: s, h) ∧ Int32.ofInt x = Int32.ofInt y ∧ am_run C T k (pc, ls, .inl y :: s, h) r h')
def am_en : List am_V → am_L
  | [] => []
  | .inr (.inl x) :: r => some (.inr (.inl x)) :: none :: am_en r
  | v :: r => some v :: am_en r
def am_pd : Nat → am_L → am_L
  | 0, l => l
  | n + 1, [] => none :: am_pd n []
  | n + 1, a :: r => a :: am_pd n r
/-- the methods: how many variables, the table -/
abbrev am_P : Type := Nat → Option (Nat × am_T)
/-- the methods of the library that are not walked here, with d frames left -/
def am_bt (d : Nat) : am_C := fun md as h r h' => match md, as with
  | 1000, [.inr (.inr a), .inl i, .inr (.inr b), .inl j, .inl n] => am_cp h a i b j n ∧ r = none ∧ h' = am_cpi h a i b j n
  | 1001, [.inr (.inr a)] => 2 ≤ a ∧ a < 9 ∧ 1 ≤ d ∧ r = some (.inl (am_str a).length) ∧ h' = h
  | 1002, [.inr (.inr a), .inl i] => 2 ≤ a ∧ a < 9 ∧ 4 ≤ d ∧ 0 ≤ i ∧ i < ((am_str a).length : Int) ∧ r = some (.inl ((am_str a).getD i.toNat 0)) ∧ h' = h
  | 1003, [.inl x, .inl y] => am_R x ∧ am_R y ∧ r = some (.inl (if y < x then y else x)) ∧ h' = h
  | 1004, [.inl x] => am_R x ∧ r = some (.inl (if 0 ≤ x then x else 0 - x)) ∧ h' = h
  | 1005, [.inr (.inr a)] => 16 ≤ a ∧ r = none ∧ h' = h
  | _, _ => False
def am_ev (P : am_P) : Nat → am_C
  | 0, _, _, _, _, _ => False
  | d + 1, md, as, h, r, h' => (∃ nL T k, P md = some (nL, T) ∧ Nat.ble (am_en as).length nL = true ∧ am_run (am_ev P d) T k (0, am_pd nL (am_en as), [], h) r h') ∨ am_bt d md as h r h'
-- the rules of a walk
def am_W (C : am_C) (T : am_T) (Q : Option am_V → am_H → Prop) (f : am_F) : Prop := ∃ k r h', am_run C T k f r h' ∧ Q r h'
def am_M (P : am_P) (d md : Nat) (as : List am_V) (h : am_H) (Q : Option am_V → am_H → Prop) : Prop := ∃ r h', am_ev P d md as h r h' ∧ Q r h'
theorem am_W.mono {C : am_C} {T : am_T} {Q Q' : Option am_V → am_H → Prop} {f : am_F} (h : am_W C T Q f) (hq : ∀ r h', Q r h' → Q' r h') : am_W C T Q' f := by
  obtain ⟨k, r, h', a, b⟩ := h
  exact ⟨k, r, h', a, hq r h' b⟩
theorem am_M.mono {P : am_P} {d md : Nat} {as : List am_V} {h : am_H} {Q Q' : Option am_V → am_H → Prop} (hm : am_M P d md as h Q) (hq : ∀ r h', Q r h' → Q' r h') : am_M P d md as h Q' := by
  obtain ⟨r, h', a, b⟩ := hm
  exact ⟨r, h', a, hq r h' b⟩
theorem am_W.of {P : am_P} {d md nL : Nat} {T : am_T} {as : List am_V} {h : am_H} {Q : Option am_V → am_H → Prop} (hP : P md = some (nL, T)) (hle : Nat.ble (am_en as).length nL = true) (hw : am_W (am_ev P d) T Q (0, am_pd nL (am_en as), [], h)) : am_M P (d + 1) md as h Q := by
  obtain ⟨k, r, h', a, b⟩ := hw
  exact ⟨r, h', Or.inl ⟨nL, T, k, hP, hle, a⟩, b⟩
theorem am_W.st {C : am_C} {T : am_T} {Q : Option am_V → am_H → Prop} {f f' : am_F} (hs : am_st T f = some f') (w : am_W C T Q f') : am_W C T Q f := by
  obtain ⟨k, r, h', a, b⟩ := w
  exact ⟨k + 1, r, h', Or.inl ⟨f', hs, a⟩, b⟩
theorem am_W.ck {C : am_C} {T : am_T} {Q : Option am_V → am_H → Prop} {f f' : am_F} {P : Prop} (hs : am_ck T f = some (P, f')) (hp : P) (w : am_W C T Q f') : am_W C T Q f := by
  obtain ⟨k, r, h', a, b⟩ := w
  exact ⟨k + 1, r, h', Or.inr (Or.inl ⟨P, f', hs, hp, a⟩), b⟩
theorem am_W.br1 {C : am_C} {T : am_T} {Q : Option am_V → am_H → Prop} {f fa fb : am_F} {P c : Prop} (hs : am_br T f = some (P, c, fa, fb)) (hp : P) (wa : c → am_W C T Q fa) (wb : ¬ c → am_W C T Q fb) : am_W C T Q f := by
  by_cases hc : c
  · obtain ⟨k, r, h', a, b⟩ := wa hc
    exact ⟨k + 1, r, h', Or.inr (Or.inr (Or.inl ⟨P, c, fa, fb, hs, hp, Or.inl ⟨hc, a⟩⟩)), b⟩
  · obtain ⟨k, r, h', a, b⟩ := wb hc
    exact ⟨k + 1, r, h', Or.inr (Or.inr (Or.inl ⟨P, c, fa, fb, hs, hp, Or.inr ⟨hc, a⟩⟩)), b⟩
theorem am_W.rt1 {C : am_C} {T : am_T} {Q : Option am_V → am_H → Prop} {f : am_F} {r : Option am_V} {h : am_H} {P : Prop} (hs : am_rt T f = some (P, r, h)) (hp : P) (hq : Q r h) : am_W C T Q f := ⟨1, r, h, Or.inr (Or.inr (Or.inr (Or.inr (Or.inr (Or.inl ⟨P, hs, hp⟩))))), hq⟩
theorem am_W.ca1 {P : am_P} {d : Nat} {T : am_T} {Q Q1 : Option am_V → am_H → Prop} {f : am_F} {kd : Nat} {al : List (Nat × Nat)} {as : List am_V} {nx : Nat} {ls : am_L} {s : List am_V} {h : am_H} (ci md : Nat) (hs : am_ca T f = some (kd, al, as, nx, ls, s, h)) (hm : (ci, md) ∈ al) (h8 : am_w8 s ≤ 8) (hc : am_rc kd ci as h) (cc : am_M P d md as h Q1) (w : ∀ r1 h1, Q1 r1 h1 → am_W (am_ev P d) T Q (nx, ls, am_bk r1 s, h1)) : am_W (am_ev P d) T Q f := by
  obtain ⟨r1, h1, e1, q1⟩ := cc
  obtain ⟨k, r, h', a, b⟩ := w r1 h1 q1
  exact ⟨k + 1, r, h', Or.inr (Or.inr (Or.inr (Or.inl ⟨kd, al, as, nx, ls, s, h, ci, md, r1, h1, hs, hm, h8, hc, e1, a⟩))), b⟩
theorem am_W.sw1 {C : am_C} {T : am_T} {Q : Option am_V → am_H → Prop} {f : am_F} {x : Int} {al : List (Nat × Nat)} {d : Nat} {ls : am_L} {s : List am_V} {h : am_H} (hs : am_sw T f = some (x, al, d, ls, s, h)) (hp : am_R x) (wa : ∀ k tg, (k, tg) ∈ al → x = ((k : Nat) : Int) → am_W C T Q (tg, ls, s, h)) (wb : (∀ q ∈ al, x ≠ ((q.1 : Nat) : Int)) → am_W C T Q (d, ls, s, h)) : am_W C T Q f := by
  by_cases hc : ∃ q ∈ al, x = ((q.1 : Nat) : Int)
  · obtain ⟨⟨k, tg⟩, hq, hx⟩ := hc
    obtain ⟨n, r, h', a, b⟩ := wa k tg hq hx
    exact ⟨n + 1, r, h', Or.inr (Or.inr (Or.inr (Or.inr (Or.inl ⟨x, al, d, ls, s, h, tg, hs, hp, Or.inl ⟨k, hq, hx⟩, a⟩)))), b⟩
  · have hn : ∀ q ∈ al, x ≠ ((q.1 : Nat) : Int) := fun q hq hx => hc ⟨q, hq, hx⟩
    obtain ⟨n, r, h', a, b⟩ := wb hn
    exact ⟨n + 1, r, h', Or.inr (Or.inr (Or.inr (Or.inr (Or.inl ⟨x, al, d, ls, s, h, d, hs, hp, Or.inr ⟨hn, rfl⟩, a⟩)))), b⟩
/-- the topmost number by another of the same 32 bits -/
theorem am_W.rn {C : am_C} {T : am_T} {Q : Option am_V → am_H → Prop} {pc : Nat} {ls : am_L} {x : Int} {s : List am_V} {h : am_H} (y : Int) (e : Int32.ofInt x = Int32.ofInt y) (w : am_W C T Q (pc, ls, .inl y :: s, h)) : am_W C T Q (pc, ls, .inl x :: s, h) := by
  obtain ⟨k, r, h', a, b⟩ := w
  exact ⟨k + 1, r, h', Or.inr (Or.inr (Or.inr (Or.inr (Or.inr (Or.inr ⟨pc, ls, x, y, s, h, rfl, e, a⟩))))), b⟩
/-- as far as nothing is asked or only what is gathered -/
def am_a1 (T : am_T) (x : Option (Prop × am_F)) : Option (Prop × am_F) := match x with
  | none => none
  | some (P, pc, ls, s, h) => match am_st T (pc, ls, s, h) with
    | some f' => some (P, f')
    | none => match am_ck T (pc, ls, s, h) with
      | some (p, f') => some (P ∧ p, f')
      | none => some (P, pc, ls, s, h)
def am_a4 (T : am_T) (x : Option (Prop × am_F)) : Option (Prop × am_F) := am_a1 T (am_a1 T (am_a1 T (am_a1 T x)))
def am_a16 (T : am_T) (x : Option (Prop × am_F)) : Option (Prop × am_F) := am_a4 T (am_a4 T (am_a4 T (am_a4 T x)))
def am_a64 (T : am_T) (x : Option (Prop × am_F)) : Option (Prop × am_F) := am_a16 T (am_a16 T (am_a16 T (am_a16 T x)))
/-- what is gathered holds, and from there the rest goes well -/
def am_G (C : am_C) (T : am_T) (Q : Option am_V → am_H → Prop) (x : Option (Prop × am_F)) : Prop := ∃ P f, x = some (P, f) ∧ P ∧ am_W C T Q f
theorem am_a1_W {C : am_C} {T : am_T} {Q : Option am_V → am_H → Prop} {x : Option (Prop × am_F)} (h : am_G C T Q (am_a1 T x)) : am_G C T Q x := by
  obtain ⟨P, f, e, hp, w⟩ := h
  match x, e with
  | some (P0, pc, ls, s, hh), e =>
    refine ⟨P0, (pc, ls, s, hh), rfl, ?_⟩
    unfold am_a1 at e
    dsimp only at e
    split at e
    · next f' e1 =>
      simp only [Option.some.injEq, Prod.mk.injEq] at e
      obtain ⟨rfl, rfl⟩ := e
      exact ⟨hp, am_W.st e1 w⟩
    · next e1 =>
      split at e
      · next p f' e2 =>
        simp only [Option.some.injEq, Prod.mk.injEq] at e
        obtain ⟨rfl, rfl⟩ := e
        exact ⟨hp.1, am_W.ck e2 hp.2 w⟩
      · next e2 =>
        simp only [Option.some.injEq, Prod.mk.injEq] at e
        obtain ⟨rfl, rfl⟩ := e
        exact ⟨hp, w⟩
theorem am_a4_W {C : am_C} {T : am_T} {Q : Option am_V → am_H → Prop} {x : Option (Prop × am_F)} (h : am_G C T Q (am_a4 T x)) : am_G C T Q x := am_a1_W (am_a1_W (am_a1_W (am_a1_W h)))
theorem am_a16_W {C : am_C} {T : am_T} {Q : Option am_V → am_H → Prop} {x : Option (Prop × am_F)} (h : am_G C T Q (am_a16 T x)) : am_G C T Q x := am_a4_W (am_a4_W (am_a4_W (am_a4_W h)))
theorem am_a64_W {C : am_C} {T : am_T} {Q : Option am_V → am_H → Prop} {x : Option (Prop × am_F)} (h : am_G C T Q (am_a64 T x)) : am_G C T Q x := am_a16_W (am_a16_W (am_a16_W (am_a16_W h)))
/-- a stretch -/
theorem am_W.go {C : am_C} {T : am_T} {Q : Option am_V → am_H → Prop} {f f' : am_F} {P : Prop} (hs : am_a64 T (some (True, f)) = some (P, f')) (hp : P) (w : am_W C T Q f') : am_W C T Q f := by
  obtain ⟨P1, f1, e, -, w1⟩ := am_a64_W (C := C) (T := T) (Q := Q) (x := some (True, f)) ⟨P, f', hs, hp, w⟩
  simp only [Option.some.injEq, Prod.mk.injEq] at e
  obtain ⟨-, rfl⟩ := e
  exact w1
theorem am_W.br {C : am_C} {T : am_T} {Q : Option am_V → am_H → Prop} {f f' fa fb : am_F} {P P2 c : Prop} (hs : am_a64 T (some (True, f)) = some (P, f')) (hb : am_br T f' = some (P2, c, fa, fb)) (hp : P ∧ P2) (wa : c → am_W C T Q fa) (wb : ¬ c → am_W C T Q fb) : am_W C T Q f := am_W.go hs hp.1 (am_W.br1 hb hp.2 wa wb)
theorem am_W.rt {C : am_C} {T : am_T} {Q : Option am_V → am_H → Prop} {f f' : am_F} {P P2 : Prop} {r : Option am_V} {h : am_H} (hs : am_a64 T (some (True, f)) = some (P, f')) (hb : am_rt T f' = some (P2, r, h)) (hp : P ∧ P2) (hq : Q r h) : am_W C T Q f := am_W.go hs hp.1 (am_W.rt1 hb hp.2 hq)
theorem am_W.ca {P : am_P} {d : Nat} {T : am_T} {Q Q1 : Option am_V → am_H → Prop} {f f' : am_F} {P1 : Prop} {kd : Nat} {al : List (Nat × Nat)} {as : List am_V} {nx : Nat} {ls : am_L} {s : List am_V} {h : am_H} (ci md : Nat) (hs : am_a64 T (some (True, f)) = some (P1, f')) (hb : am_ca T f' = some (kd, al, as, nx, ls, s, h)) (hm : (ci, md) ∈ al) (h8 : am_w8 s ≤ 8) (hp : P1 ∧ am_rc kd ci as h) (cc : am_M P d md as h Q1) (w : ∀ r1 h1, Q1 r1 h1 → am_W (am_ev P d) T Q (nx, ls, am_bk r1 s, h1)) : am_W (am_ev P d) T Q f := am_W.go hs hp.1 (am_W.ca1 ci md hb hm h8 hp.2 cc w)
theorem am_W.sw {C : am_C} {T : am_T} {Q : Option am_V → am_H → Prop} {f f' : am_F} {P : Prop} {x : Int} {al : List (Nat × Nat)} {d : Nat} {ls : am_L} {s : List am_V} {h : am_H} (hs : am_a64 T (some (True, f)) = some (P, f')) (hb : am_sw T f' = some (x, al, d, ls, s, h)) (hp : P ∧ am_R x) (wa : ∀ k tg, (k, tg) ∈ al → x = ((k : Nat) : Int) → am_W C T Q (tg, ls, s, h)) (wb : (∀ q ∈ al, x ≠ ((q.1 : Nat) : Int)) → am_W C T Q (d, ls, s, h)) : am_W C T Q f := am_W.go hs hp.1 (am_W.sw1 hb hp.2 wa wb)
