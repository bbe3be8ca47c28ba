/-! ways behind an evening: lists of ways, what a list of them comes to; windows of numbers, told or not -/
section WYA
/-- how many, the least code, the bits of all -/
abbrev wy_T : Type := Nat × Nat × Nat
def wy_ne : wy_T := (0, 1099511627776, 1048575)
def wy_mo (x y : wy_T) : wy_T := (x.1 + y.1, min x.2.1 y.2.1, x.2.2 &&& y.2.2)
def wy_gd (x : wy_T) : Prop := x.2.1 ≤ 1099511627776 ∧ x.2.2 &&& 1048575 = x.2.2
theorem wy_mo_c (x y : wy_T) : wy_mo x y = wy_mo y x := by unfold wy_mo; rw [Nat.add_comm, Nat.min_comm, Nat.and_comm]
theorem wy_mo_a (x y z : wy_T) : wy_mo (wy_mo x y) z = wy_mo x (wy_mo y z) := by simp only [wy_mo, Nat.add_assoc, Nat.min_assoc, Nat.and_assoc]
theorem wy_mo_4 (a b c d : wy_T) : wy_mo (wy_mo a b) (wy_mo c d) = wy_mo (wy_mo a c) (wy_mo b d) := by
  rw [wy_mo_a, ← wy_mo_a b c d, wy_mo_c b c, wy_mo_a c b d, ← wy_mo_a]
theorem wy_mo_r (a b c : wy_T) : wy_mo (wy_mo a b) c = wy_mo (wy_mo a c) b := by rw [wy_mo_a, wy_mo_c b c, ← wy_mo_a]
theorem wy_ne_l {x : wy_T} (h : wy_gd x) : wy_mo wy_ne x = x := by
  obtain ⟨a, b, c⟩ := x
  obtain ⟨h1, h2⟩ := h
  refine Prod.ext (Nat.zero_add a) (Prod.ext (Nat.min_eq_right h1) ?_)
  show 1048575 &&& c = c
  rw [Nat.and_comm]; exact h2
theorem wy_ne_r {x : wy_T} (h : wy_gd x) : wy_mo x wy_ne = x := by rw [wy_mo_c]; exact wy_ne_l h
theorem wy_gd_ne : wy_gd wy_ne := ⟨Nat.le_refl _, by decide⟩
theorem wy_gd_mo {x y : wy_T} (_h : wy_gd x) (g : wy_gd y) : wy_gd (wy_mo x y) := by
  refine ⟨Nat.le_trans (Nat.min_le_right _ _) g.1, ?_⟩
  show (x.2.2 &&& y.2.2) &&& 1048575 = x.2.2 &&& y.2.2
  rw [Nat.and_assoc, g.2]
/-- one way, behind those that led to it -/
def wy_e1 (e : wy_T) (s : Nat × Nat) : wy_T := (e.1, min (e.2.1 + s.1) 1099511627776, (e.2.2 ||| s.2) &&& 1048575)
theorem wy_gd_e1 (e : wy_T) (s : Nat × Nat) : wy_gd (wy_e1 e s) := by
  refine ⟨Nat.min_le_right _ _, ?_⟩
  show ((e.2.2 ||| s.2) &&& 1048575) &&& 1048575 = (e.2.2 ||| s.2) &&& 1048575
  rw [Nat.and_assoc, Nat.and_self]
def wy_ph : List (Nat × Nat) → wy_T → wy_T
  | [], _ => wy_ne
  | s :: L, e => wy_mo (wy_e1 e s) (wy_ph L e)
theorem wy_gd_ph (e : wy_T) : ∀ L : List (Nat × Nat), wy_gd (wy_ph L e)
  | [] => wy_gd_ne
  | _ :: L => wy_gd_mo (wy_gd_e1 _ _) (wy_gd_ph e L)
theorem wy_ph_app (e : wy_T) (L2 : List (Nat × Nat)) : ∀ L1 : List (Nat × Nat), wy_ph (L1 ++ L2) e = wy_mo (wy_ph L1 e) (wy_ph L2 e)
  | [] => (wy_ne_l (wy_gd_ph e L2)).symm
  | s :: L => by
    show wy_mo (wy_e1 e s) (wy_ph (L ++ L2) e) = wy_mo (wy_mo (wy_e1 e s) (wy_ph L e)) (wy_ph L2 e)
    rw [wy_ph_app e L2 L, wy_mo_a]
/-- a way with one more refused at place l -/
def wy_no (l : Nat) (s : Nat × Nat) : Nat × Nat := (s.1 + (1048576 + 2 ^ l), s.2 ||| 2 ^ l)
def wy_en (l : Nat) (e : wy_T) : wy_T := (e.1, e.2.1 + (1048576 + 2 ^ l), e.2.2 ||| 2 ^ l)
theorem wy_ph_no (l : Nat) (e : wy_T) : ∀ L : List (Nat × Nat), wy_ph (L.map (wy_no l)) e = wy_ph L (wy_en l e)
  | [] => rfl
  | s :: L => by
    show wy_mo (wy_e1 e (wy_no l s)) (wy_ph (L.map (wy_no l)) e) = wy_mo (wy_e1 (wy_en l e) s) (wy_ph L (wy_en l e))
    rw [wy_ph_no l e L]
    congr 1
    unfold wy_e1 wy_no wy_en
    refine Prod.ext rfl (Prod.ext ?_ ?_)
    · show min (e.2.1 + (s.1 + (1048576 + 2 ^ l))) _ = min (e.2.1 + (1048576 + 2 ^ l) + s.1) _
      congr 1; omega
    · show (e.2.2 ||| (s.2 ||| 2 ^ l)) &&& _ = ((e.2.2 ||| 2 ^ l) ||| s.2) &&& _
      rw [Nat.or_comm s.2, Nat.or_assoc]
/-- two that go on as one -/
def wy_mg (x y : wy_T) : wy_T := (x.1 + y.1, min x.2.1 y.2.1, x.2.2 &&& y.2.2)
theorem wy_e1_mg (x y : wy_T) (s : Nat × Nat) : wy_e1 (wy_mg x y) s = wy_mo (wy_e1 x s) (wy_e1 y s) := by
  unfold wy_e1 wy_mg wy_mo
  refine Prod.ext rfl (Prod.ext ?_ ?_)
  · show min (min x.2.1 y.2.1 + s.1) 1099511627776 = min (min (x.2.1 + s.1) 1099511627776) (min (y.2.1 + s.1) 1099511627776)
    omega
  · show ((x.2.2 &&& y.2.2) ||| s.2) &&& 1048575 = ((x.2.2 ||| s.2) &&& 1048575) &&& ((y.2.2 ||| s.2) &&& 1048575)
    rw [Nat.or_and_distrib_right]
    apply Nat.eq_of_testBit_eq
    intro i
    simp only [Nat.testBit_and, Nat.testBit_or]
    cases x.2.2.testBit i <;> cases y.2.2.testBit i <;> cases s.2.testBit i <;> cases Nat.testBit 1048575 i <;> rfl
theorem wy_ph_mg (x y : wy_T) : ∀ L : List (Nat × Nat), wy_ph L (wy_mg x y) = wy_mo (wy_ph L x) (wy_ph L y)
  | [] => (wy_ne_l wy_gd_ne).symm
  | s :: L => by
    show wy_mo (wy_e1 (wy_mg x y) s) (wy_ph L (wy_mg x y)) = wy_mo (wy_mo (wy_e1 x s) (wy_ph L x)) (wy_mo (wy_e1 y s) (wy_ph L y))
    rw [wy_e1_mg, wy_ph_mg x y L, wy_mo_4]
/-- a table's -/
def wy_pf (g : Nat → wy_T) : Nat → wy_T
  | 0 => wy_ne
  | s + 1 => wy_mo (wy_pf g s) (g s)
theorem wy_pf_c {g h : Nat → wy_T} : ∀ s, (∀ j, j < s → g j = h j) → wy_pf g s = wy_pf h s
  | 0, _ => rfl
  | s + 1, e => by
    show wy_mo (wy_pf g s) (g s) = wy_mo (wy_pf h s) (h s)
    rw [wy_pf_c s (fun j hj => e j (Nat.lt_succ_of_lt hj)), e s (Nat.lt_succ_self s)]
theorem wy_pf_gd {g : Nat → wy_T} : ∀ s, (∀ j, j < s → wy_gd (g j)) → wy_gd (wy_pf g s)
  | 0, _ => wy_gd_ne
  | s + 1, e => wy_gd_mo (wy_pf_gd s (fun j hj => e j (Nat.lt_succ_of_lt hj))) (e s (Nat.lt_succ_self s))
theorem wy_pf_set {g h : Nat → wy_T} {x : wy_T} {i : Nat} : ∀ s, i < s → h i = wy_mo (g i) x → (∀ j, j < s → j ≠ i → h j = g j) → wy_pf h s = wy_mo (wy_pf g s) x
  | 0, hi, _, _ => absurd hi (Nat.not_lt_zero _)
  | s + 1, hi, e1, e2 => by
    show wy_mo (wy_pf h s) (h s) = wy_mo (wy_mo (wy_pf g s) (g s)) x
    by_cases e : i = s
    · subst e
      rw [wy_pf_c i (fun j hj => e2 j (Nat.lt_succ_of_lt hj) (Nat.ne_of_lt hj)), e1, wy_mo_a]
    · rw [wy_pf_set s (by omega) e1 (fun j hj => e2 j (Nat.lt_succ_of_lt hj)), e2 s (Nat.lt_succ_self s) (fun q => e q.symm), wy_mo_r]
/-- the ways from a key on, as the class goes -/
def wy_G (wh : Nat → Bool) (ys ns cs : Nat → Int64 → Int64) : Nat → Nat → Int64 → List (Nat × Nat)
  | 0, _, _ => [(0, 0)]
  | d + 1, l, k => if wh l = true then (if ys l k < 0 then [] else wy_G wh ys ns cs d (l + 1) (ys l k)) ++ (if ns l k < 0 then [] else (wy_G wh ys ns cs d (l + 1) (ns l k)).map (wy_no l)) else (if cs l k < 0 then [] else wy_G wh ys ns cs d (l + 1) (cs l k))
/-- the ways from purses on, as the reference goes -/
def wy_R (wh : Nat → Bool) (a b : Nat → Nat) (td : pu_T → Bool) : Nat → Nat → pu_T → List (Nat × Nat)
  | 0, _, S => if td S = true then [(0, 0)] else []
  | d + 1, l, S => if wh l = true then (if pu_mw S (a l) (b l) = true then wy_R wh a b td d (l + 1) (pu_gw S (a l) (b l)) ++ (wy_R wh a b td d (l + 1) (pu_rf S (a l))).map (wy_no l) else []) else (if pu_mc S (a l) (b l) = true then wy_R wh a b td d (l + 1) (pu_gc S (a l) (b l)) else [])
theorem wy_R_len (wh : Nat → Bool) (a b : Nat → Nat) (td : pu_T → Bool) : ∀ (d l : Nat) (S : pu_T), (wy_R wh a b td d l S).length ≤ 2 ^ d
  | 0, l, S => by
    unfold wy_R
    split
    · exact Nat.le_refl 1
    · exact Nat.zero_le _
  | d + 1, l, S => by
    have e : 2 ^ (d + 1) = 2 ^ d + 2 ^ d := by rw [Nat.pow_succ]; omega
    have h := wy_R_len wh a b td d (l + 1)
    unfold wy_R
    split
    · split
      · rw [List.length_append, List.length_map, e]
        exact Nat.add_le_add (h _) (h _)
      · exact Nat.zero_le _
    · split
      · rw [e]; exact Nat.le_trans (h _) (Nat.le_add_left _ _)
      · exact Nat.zero_le _
/-! windows -/
abbrev wy_W : Type := (Int × Int) × (Int × Int)
abbrev wy_in (x : Int) (w : Int × Int) : Prop := w.1 ≤ x ∧ x ≤ w.2
def wy_bd (bl bh mo : Int) (w : Int × Int) : Int × Int := if max 0 (w.1 + bl) ≤ min mo (w.2 + bh) then (max 0 (w.1 + bl), min mo (w.2 + bh)) else (99, -99)
theorem wy_in_bd {bl bh mo x : Int} {w : Int × Int} : wy_in x (wy_bd bl bh mo w) ↔ 0 ≤ x ∧ w.1 + bl ≤ x ∧ x ≤ mo ∧ x ≤ w.2 + bh := by
  unfold wy_bd
  split
  · show max 0 (w.1 + bl) ≤ x ∧ x ≤ min mo (w.2 + bh) ↔ _
    omega
  · show (99 : Int) ≤ x ∧ x ≤ -99 ↔ _
    omega
def wy_bw (o : Nat) (W : wy_W) : wy_W := match o with
  | 1 => (wy_bd 1 1 20 W.1, wy_bd 1 1 20 W.2)
  | 2 => (wy_bd (-1) (-1) 19 W.1, wy_bd (-1) (-1) 19 W.2)
  | 3 => (wy_bd (-1) 0 19 W.1, wy_bd 0 (-1) 19 W.2)
  | _ => W
def wy_op (wh : Nat → Bool) (a b : Nat → Nat) (l n : Nat) : Nat := if wh l = true then (if n = a l then 1 else if n = b l ∨ n = 6 + a l then 3 else 0) else (if n = 6 + a l then 1 else if n = 6 + b l then 2 else 0)
/-- d offers before the end -/
def wy_w (wh : Nat → Bool) (a b : Nat → Nat) (T : Nat → wy_W) : Nat → Nat → Nat → wy_W
  | 0, _, n => T n
  | d + 1, l, n => wy_bw (wy_op wh a b l n) (wy_w wh a b T d (l + 1) n)
/-- the number's value -/
def wy_v (S : pu_T) (n : Nat) : Int := if n < 6 then (S.1 n).toInt else (S.2 (n - 6)).toInt
def wy_z (W : wy_W) : Prop := (0 ≤ W.1.1 ∧ W.1.2 ≤ 20 ∧ W.1.1 ≤ W.1.2 ∨ W.1 = (99, -99)) ∧ (0 ≤ W.2.1 ∧ W.2.2 ≤ 20 ∧ W.2.1 ≤ W.2.2 ∨ W.2 = (99, -99)) ∧ ∀ x, wy_in x W.2 → wy_in x W.1
theorem wy_bd_z {bl bh mo : Int} {w : Int × Int} (hm : mo ≤ 20) : 0 ≤ (wy_bd bl bh mo w).1 ∧ (wy_bd bl bh mo w).2 ≤ 20 ∧ (wy_bd bl bh mo w).1 ≤ (wy_bd bl bh mo w).2 ∨ wy_bd bl bh mo w = (99, -99) := by
  unfold wy_bd
  split
  · refine Or.inl ⟨?_, ?_, ?_⟩
    · show 0 ≤ max 0 (w.1 + bl)
      omega
    · show min mo (w.2 + bh) ≤ 20
      omega
    · assumption
  · exact Or.inr rfl
theorem wy_bw_z {o : Nat} {W : wy_W} (h : wy_z W) : wy_z (wy_bw o W) := by
  obtain ⟨h1, h2, h3⟩ := h
  unfold wy_bw
  split
  · refine ⟨wy_bd_z (by decide), wy_bd_z (by decide), fun x hx => ?_⟩
    obtain ⟨a, b, c, d⟩ := wy_in_bd.mp hx
    have := h3 (x - 1) ⟨by omega, by omega⟩
    exact wy_in_bd.mpr ⟨a, by have := this.1; omega, c, by have := this.2; omega⟩
  · refine ⟨wy_bd_z (by decide), wy_bd_z (by decide), fun x hx => ?_⟩
    obtain ⟨a, b, c, d⟩ := wy_in_bd.mp hx
    have := h3 (x + 1) ⟨by omega, by omega⟩
    exact wy_in_bd.mpr ⟨a, by have := this.1; omega, c, by have := this.2; omega⟩
  · refine ⟨wy_bd_z (by decide), wy_bd_z (by decide), fun x hx => ?_⟩
    obtain ⟨a, b, c, d⟩ := wy_in_bd.mp hx
    have := h3 x ⟨by omega, by omega⟩
    exact wy_in_bd.mpr ⟨a, by have := this.1; omega, c, by have := this.2; omega⟩
  · exact ⟨h1, h2, h3⟩
theorem wy_w_z {wh : Nat → Bool} {a b : Nat → Nat} {T : Nat → wy_W} {n : Nat} (h : wy_z (T n)) : ∀ d l : Nat, wy_z (wy_w wh a b T d l n)
  | 0, _ => h
  | d + 1, l => wy_bw_z (wy_w_z h d (l + 1))
end WYA

