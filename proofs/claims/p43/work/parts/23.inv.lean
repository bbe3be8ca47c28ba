/-! what holds between calls: the class's cells and the reference's say the same -/
theorem ro_clt {v : Int32} {n : Nat} (h0 : 0 ≤ v) (hn : v < Int32.ofNat n) (hb : n < 2 ^ 31) : v.toNatClampNeg < n := by
  have e : (Int32.ofNat n).toInt = n := nI_toInt hb
  have h1 := Int32.lt_iff_toInt_lt.mp hn
  have h2 := Int32.le_iff_toInt_le.mp h0
  rw [e] at h1
  have h3 : (0 : Int32).toInt = 0 := by decide
  rw [h3] at h2
  show v.toInt.toNat < n
  omega
theorem ro_vin {v : Int32} {n : Nat} (h0 : 0 ≤ v) (hn : v < Int32.ofNat n) (hb : n < 2 ^ 31) : vp_in v n := by
  have h := ro_clt h0 hn hb
  unfold vp_in
  intro h1
  rcases h1 with h1 | h1
  · have h2 := Int32.le_iff_toInt_le.mp h0
    have h3 := Int32.lt_iff_toInt_lt.mp h1
    omega
  · omega
theorem ro_sI_u {M : ro_Mm} {c j : Nat} {v : Int32} : (ro_sI M c j v).2.1 = ro_up2 M.2.1 c j v := rfl
theorem ro_sJ_I {M : ro_Mm} {c j : Nat} {v : Int64} : (ro_sJ M c j v).2.1 = M.2.1 := rfl
theorem ro_sI_J {M : ro_Mm} {c j : Nat} {v : Int32} : (ro_sI M c j v).2.2.1 = M.2.2.1 := rfl
theorem ro_sJ_u {M : ro_Mm} {c j : Nat} {v : Int64} : (ro_sJ M c j v).2.2.1 = ro_up2 M.2.2.1 c j v := rfl
/-- the most that may be told -/
def ro_mst (w : Int32) : Int32 := if w = 2 then 12 else if w = 4 then 4 else if w = 5 then 11 else if w = 6 then 12 else 20
/-- people, what is told of all -/
def iv_a (I : Nat → Nat → Int32) : Prop := I 163 1 = I 5 4 ∧ 0 ≤ I 5 4 ∧ I 5 4 ≤ 6 ∧ I 168 0 = I 5 5 ∧ 0 ≤ I 5 5 ∧ I 5 5 ≤ 4 ∧ I 168 1 = I 5 6 ∧ 0 ≤ I 5 6 ∧ I 5 6 ≤ 11 ∧ I 168 2 = I 5 7 ∧ 0 ≤ I 5 7 ∧ I 5 7 ≤ 12
/-- what is told of each -/
def iv_b (I : Nat → Nat → Int32) : Prop := ∀ i, i < 6 → (I 164 i = I 7 i ∧ 0 ≤ I 7 i ∧ I 7 i ≤ 20) ∧ (I 165 i = I 8 i ∧ 0 ≤ I 8 i ∧ I 8 i ≤ 20) ∧ (I 166 i = I 9 i ∧ 0 ≤ I 9 i ∧ I 9 i ≤ 12) ∧ (I 167 i = I 10 i ∧ 0 ≤ I 10 i ∧ I 10 i ≤ 20)
/-- what has been led -/
def iv_c (I : Nat → Nat → Int32) : Prop := ∀ j, j < 4 → I 184 j = I 11 j
/-- the image -/
def iv_d (I : Nat → Nat → Int32) : Prop := (I 163 43 = I 5 10 ∧ (I 5 10 = 0 ∨ I 5 10 = 1)) ∧ (I 163 44 = I 5 11 ∧ 0 ≤ I 5 11 ∧ I 5 11 ≤ 6) ∧ (I 163 45 = I 5 12 ∧ 0 ≤ I 5 12 ∧ I 5 12 ≤ 11) ∧ (∀ i, i < 6 → (I 185 i = I 13 i ∧ 0 ≤ I 13 i ∧ I 13 i ≤ 20) ∧ (I 186 i = I 14 i ∧ 0 ≤ I 14 i ∧ I 14 i ≤ 20)) ∧ (∀ j, j < 4 → I 187 j = I 15 j)
/-- the tape -/
def iv_e (I : Nat → Nat → Int32) : Prop := (I 163 14 = I 16 5 ∧ 0 ≤ I 16 5 ∧ I 16 5 ≤ 120) ∧ (∀ i, i < 120 → I 173 i = vp_nar .byte ((I 17 i).toInt8.toInt32) ∧ 0 ≤ I 17 i ∧ I 17 i ≤ 255)
/-- a word of the law: what a name stands for; two values -/
def lw_nm (w : Int32) : Option Nat := if w = -112 then some 0 else if w = -98 then some 1 else if w = -119 then some 2 else if w = -99 then some 3 else if w = -104 then some 4 else if w = -110 then some 5 else none
def lw_two (w a b : Int32) : Option Int32 :=
  if w = -124 then some (if ¬ a = 0 ∨ ¬ b = 0 then 1 else 0) else if w = -38 then some (if ¬ a = 0 ∧ ¬ b = 0 then 1 else 0)
  else if w = -60 then some (if a < b then 1 else 0) else if w = -61 then some (if a = b then 1 else 0) else if w = -62 then some (if b < a then 1 else 0)
  else if w = -43 then some (a + b) else if w = -45 then some (a - b) else if w = -42 then some (a * b)
  else if w = -47 then some (if b = 0 then 0 else a / b) else if w = -37 then some (if b = 0 then 0 else ro_irem a b) else none
/-- one word over a pile (its top first) -/
def lw_one (f : Nat → Int32) (w : Int32) (s : List Int32) : Option (List Int32) :=
  if 0 ≤ w then some (w :: s) else match lw_nm w with
  | some k => some (f k :: s)
  | none => match s with
    | [] => none
    | b :: r => if w = -33 then some ((if b = 0 then 1 else 0) :: r) else if w = -126 then some ((-b) :: r) else match r with
      | [] => none
      | a :: q => (lw_two w a b).map (fun v => v :: q)
def lw_run (f : Nat → Int32) : List Int32 → List Int32 → Option (List Int32)
  | [], s => some s
  | w :: ws, s => (lw_one f w s).bind (lw_run f ws)
/-- words that come to one value -/
def lw_wf (ws : List Int32) : Prop := ∀ f, ∃ v, lw_run f ws [] = some [v]
/-- a law: lines of a test (none: it is alone) and a value -/
def lw_line (q : List Int32 × List Int32) : Prop := (q.1 = [] ∨ lw_wf q.1) ∧ lw_wf q.2
def lw_codes (L : List (List Int32 × List Int32)) : List Int32 := L.flatMap fun q => q.1 ++ q.2 ++ [if q.1 = [] then -59 else -63]
def lw_steps (L : List (List Int32 × List Int32)) : List Int32 := L.flatMap fun q => q.1 ++ q.2
/-- the reference's two rows for a word -/
def lw_act (w : Int32) : Int32 := if 0 ≤ w then 1 else if (lw_nm w).isSome then 2 else if w = -33 then 3 else if w = -126 then 4 else -w
def lw_with (w : Int32) : Int32 := if 0 ≤ w then w else match lw_nm w with
  | some k => nI k
  | none => 0
/-- the law, as both keep it -/
def iv_f (I : Nat → Nat → Int32) : Prop := ∃ L : List (List Int32 × List Int32), (∀ q, q ∈ L → lw_line q) ∧
  (lw_codes L).length ≤ 121 ∧ I 16 8 = nI (lw_codes L).length ∧ (∀ k, k < (lw_codes L).length → I 19 k = (lw_codes L).getD k 0) ∧
  (∀ k, k < (lw_steps L).length → I 174 k = lw_act ((lw_steps L).getD k 0) ∧ I 175 k = lw_with ((lw_steps L).getD k 0)) ∧
  L.length ≤ 61 ∧ I 176 0 = nI L.length ∧ (∀ l, l < L.length → I 177 l = nI ((lw_steps (L.take l)).length + (L.getD l ([], [])).1.length) ∧ I 178 l = nI (lw_steps (L.take (l + 1))).length) ∧
  I 163 26 = (if L = [] then 0 else 1)
/-- changes -/
def iv_g (I : Nat → Nat → Int32) : Prop := (I 163 7 = I 54 4 ∧ I 163 8 = I 54 5 ∧ 0 ≤ I 54 4 ∧ I 54 4 ≤ 40 ∧ 0 ≤ I 54 5 ∧ I 54 4 + I 54 5 ≤ 40 ∧ I 54 5 ≤ 40) ∧ (∀ i, i < 40 → (I 170 i = I 55 i ∧ 0 ≤ I 55 i ∧ I 55 i < 6) ∧ (I 169 i = I 56 i ∧ 0 ≤ I 56 i ∧ I 56 i ≤ 6) ∧ (I 171 i = I 57 i ∧ 0 ≤ I 57 i ∧ I 57 i ≤ ro_mst (I 56 i)) ∧ (I 172 i = I 58 i ∧ 0 ≤ I 58 i ∧ I 58 i ≤ ro_mst (I 56 i)))
/-- bodies -/
def iv_h (I : Nat → Nat → Int32) : Prop := (I 163 49 = I 59 2 ∧ 0 ≤ I 59 2 ∧ I 59 2 ≤ 50) ∧ (I 163 51 = I 59 3 ∧ 0 ≤ I 59 3) ∧ (∀ i, i < 50 → I 188 i = I 60 i ∧ 0 ≤ I 60 i ∧ I 60 i ≤ 7) ∧ (∀ i, i < 24 → I 189 i = I 61 i)
/-- a shelf -/
def iv_sh (I : Nat → Nat → Int32) (J : Nat → Nat → Int64) (s : Nat) : Prop :=
  (I (23 + 2 * s) 1 = -2 ∧ I 190 s = -1) ∨ (I (23 + 2 * s) 1 = -1 ∧ I 190 s = I (23 + 2 * s) 3 ∧ 0 ≤ I 190 s ∧ I 190 s < I 59 2) ∨
  (0 ≤ I (23 + 2 * s) 1 ∧ I (23 + 2 * s) 1 ≤ 4 ∧ I 190 s = -2 - I (23 + 2 * s) 1 ∧ I 191 s = I (23 + 2 * s) 2 ∧ 0 ≤ I (23 + 2 * s) 2 ∧ I (23 + 2 * s) 2 ≤ 60 ∧ ∀ i, i < (I (23 + 2 * s) 2).toNatClampNeg → J 192 (60 * s + i) = J (24 + 2 * s) i)
def iv_s (I : Nat → Nat → Int32) (J : Nat → Nat → Int64) : Prop := ∀ s, s < 6 → iv_sh I J s
def iv_r (I : Nat → Nat → Int32) : Prop := iv_a I ∧ iv_b I ∧ iv_c I ∧ iv_d I ∧ iv_e I ∧ iv_f I ∧ iv_g I ∧ iv_h I
def ro_Inv (M : ro_Mm) : Prop := ro_lay M ∧ iv_r M.2.1 ∧ iv_s M.2.1 M.2.2.1
/-- what it speaks of, of the ints (but for the shelves) -/
def ro_lr (c j : Nat) : Bool := match c with
  | 5 => true
  | 7 | 8 | 9 | 10 | 11 | 13 | 14 | 15 => true
  | 16 => j == 5 || j == 8
  | 17 | 19 => true
  | 54 | 55 | 56 | 57 | 58 | 60 | 61 => true
  | 59 => j == 2 || j == 3
  | 163 => j == 1 || j == 7 || j == 8 || j == 14 || j == 26 || j == 43 || j == 44 || j == 45 || j == 49 || j == 51
  | 164 | 165 | 166 | 167 | 168 | 169 | 170 | 171 | 172 | 173 => true
  | 174 | 175 => decide (j < 130)
  | 176 => j == 0
  | 177 | 178 => decide (j < 61)
  | 184 | 185 | 186 | 187 | 188 | 189 => true
  | _ => false
section CONGR
variable {I I' : Nat → Nat → Int32} {J J' : Nat → Nat → Int64}
theorem iv_a_c (h : ∀ c j, ro_lr c j = true → I' c j = I c j) (g : iv_a I) : iv_a I' := by
  unfold iv_a
  rw [h 163 1 rfl, h 5 4 rfl, h 168 0 rfl, h 5 5 rfl, h 168 1 rfl, h 5 6 rfl, h 168 2 rfl, h 5 7 rfl]
  exact g
theorem iv_b_c (h : ∀ c j, ro_lr c j = true → I' c j = I c j) (g : iv_b I) : iv_b I' := by
  intro i hi
  rw [h 164 i rfl, h 7 i rfl, h 165 i rfl, h 8 i rfl, h 166 i rfl, h 9 i rfl, h 167 i rfl, h 10 i rfl]
  exact g i hi
theorem iv_c_c (h : ∀ c j, ro_lr c j = true → I' c j = I c j) (g : iv_c I) : iv_c I' := by
  intro i hi
  rw [h 184 i rfl, h 11 i rfl]
  exact g i hi
theorem iv_d_c (h : ∀ c j, ro_lr c j = true → I' c j = I c j) (g : iv_d I) : iv_d I' := by
  obtain ⟨g1, g2, g3, g4, g5⟩ := g
  refine ⟨?_, ?_, ?_, ?_, ?_⟩
  · rw [h 163 43 rfl, h 5 10 rfl]; exact g1
  · rw [h 163 44 rfl, h 5 11 rfl]; exact g2
  · rw [h 163 45 rfl, h 5 12 rfl]; exact g3
  · intro i hi
    rw [h 185 i rfl, h 13 i rfl, h 186 i rfl, h 14 i rfl]
    exact g4 i hi
  · intro i hi
    rw [h 187 i rfl, h 15 i rfl]
    exact g5 i hi
theorem iv_e_c (h : ∀ c j, ro_lr c j = true → I' c j = I c j) (g : iv_e I) : iv_e I' := by
  obtain ⟨g1, g2⟩ := g
  refine ⟨?_, ?_⟩
  · rw [h 163 14 rfl, h 16 5 rfl]; exact g1
  · intro i hi
    rw [h 173 i rfl, h 17 i rfl]
    exact g2 i hi
theorem lw_len (L : List (List Int32 × List Int32)) : (lw_steps L).length ≤ (lw_codes L).length := by
  unfold lw_steps lw_codes
  induction L with
  | nil => exact Nat.le_refl _
  | cons q L ih => simp only [List.flatMap_cons, List.length_append, List.length_cons, List.length_nil]; omega
theorem iv_f_c (h : ∀ c j, ro_lr c j = true → I' c j = I c j) (g : iv_f I) : iv_f I' := by
  obtain ⟨L, g1, g2, g3, g4, g5, g6, g7, g8, g9⟩ := g
  have hl := lw_len L
  refine ⟨L, g1, g2, ?_, ?_, ?_, g6, ?_, ?_, ?_⟩
  · rw [h 16 8 rfl]; exact g3
  · intro k hk
    rw [h 19 k rfl]; exact g4 k hk
  · intro k hk
    rw [h 174 k (decide_eq_true (by omega)), h 175 k (decide_eq_true (by omega))]; exact g5 k hk
  · rw [h 176 0 rfl]; exact g7
  · intro l hl
    rw [h 177 l (decide_eq_true (by omega)), h 178 l (decide_eq_true (by omega))]; exact g8 l hl
  · rw [h 163 26 rfl]; exact g9
theorem iv_g_c (h : ∀ c j, ro_lr c j = true → I' c j = I c j) (g : iv_g I) : iv_g I' := by
  obtain ⟨g1, g2⟩ := g
  refine ⟨?_, ?_⟩
  · rw [h 163 7 rfl, h 163 8 rfl, h 54 4 rfl, h 54 5 rfl]; exact g1
  · intro i hi
    rw [h 170 i rfl, h 55 i rfl, h 169 i rfl, h 56 i rfl, h 171 i rfl, h 57 i rfl, h 172 i rfl, h 58 i rfl]
    exact g2 i hi
theorem iv_h_c (h : ∀ c j, ro_lr c j = true → I' c j = I c j) (g : iv_h I) : iv_h I' := by
  obtain ⟨g1, g2, g3, g4⟩ := g
  refine ⟨?_, ?_, ?_, ?_⟩
  · rw [h 163 49 rfl, h 59 2 rfl]; exact g1
  · rw [h 163 51 rfl, h 59 3 rfl]; exact g2
  · intro i hi
    rw [h 188 i rfl, h 60 i rfl]; exact g3 i hi
  · intro i hi
    rw [h 189 i rfl, h 61 i rfl]; exact g4 i hi
theorem iv_r_c (h : ∀ c j, ro_lr c j = true → I' c j = I c j) (g : iv_r I) : iv_r I' := by
  obtain ⟨a, b, c, d, e, f, g, i⟩ := g
  exact ⟨iv_a_c h a, iv_b_c h b, iv_c_c h c, iv_d_c h d, iv_e_c h e, iv_f_c h f, iv_g_c h g, iv_h_c h i⟩
/-- what the shelves stand in -/
def ro_ls (c j : Nat) : Bool := c == 23 || c == 25 || c == 27 || c == 29 || c == 31 || c == 33 || c == 190 || c == 191 || (c == 59 && j == 2)
def ro_lj (c : Nat) : Bool := c == 24 || c == 26 || c == 28 || c == 30 || c == 32 || c == 34 || c == 192
theorem ro_ls_i {s : Nat} (hs : s < 6) (j : Nat) : ro_ls (23 + 2 * s) j = true := by
  have : s = 0 ∨ s = 1 ∨ s = 2 ∨ s = 3 ∨ s = 4 ∨ s = 5 := by omega
  rcases this with rfl | rfl | rfl | rfl | rfl | rfl <;> rfl
theorem ro_lj_i {s : Nat} (hs : s < 6) : ro_lj (24 + 2 * s) = true := by
  have : s = 0 ∨ s = 1 ∨ s = 2 ∨ s = 3 ∨ s = 4 ∨ s = 5 := by omega
  rcases this with rfl | rfl | rfl | rfl | rfl | rfl <;> rfl
theorem iv_s_c (h : ∀ c j, ro_ls c j = true → I' c j = I c j) (hj : ∀ c j, ro_lj c = true → J' c j = J c j) (g : iv_s I J) : iv_s I' J' := by
  intro s hs
  have g := g s hs
  unfold iv_sh at g ⊢
  rw [h 190 s rfl, h 191 s rfl, h 59 2 rfl, h _ 1 (ro_ls_i hs 1), h _ 2 (ro_ls_i hs 2), h _ 3 (ro_ls_i hs 3)]
  rcases g with g | g | g
  · exact Or.inl g
  · exact Or.inr (Or.inl g)
  · refine Or.inr (Or.inr ⟨g.1, g.2.1, g.2.2.1, g.2.2.2.1, g.2.2.2.2.1, g.2.2.2.2.2.1, fun i hi => ?_⟩)
    rw [hj 192 _ rfl, hj _ i (ro_lj_i hs)]
    exact g.2.2.2.2.2.2 i hi
end CONGR
/-- of the cells alone that it speaks of -/
def ro_lv (c j : Nat) : Bool := ro_lr c j || ro_ls c j
theorem ro_Inv_c {M M' : ro_Mm} (hL : ro_lay M') (h : ∀ c j, ro_lv c j = true → M'.2.1 c j = M.2.1 c j) (hj : ∀ c j, ro_lj c = true → M'.2.2.1 c j = M.2.2.1 c j) (g : ro_Inv M) : ro_Inv M' :=
  ⟨hL, iv_r_c (fun c j e => h c j (by unfold ro_lv; rw [e]; rfl)) g.2.1, iv_s_c (fun c j e => h c j (by unfold ro_lv; rw [e]; exact Bool.or_true _)) hj g.2.2⟩
theorem ro_w13 {M : ro_Mm} {v a b : Int32} : (xf_13 M v a b = true) = (a ≤ v ∧ v ≤ b) := by grind [xf_13]
theorem ro_w195 {M : ro_Mm} {v a b : Int32} : (xf_195 M v a b = true) = (a ≤ v ∧ v ≤ b) := by grind [xf_195]
theorem ro_w15_0 {M : ro_Mm} {v : Int32} : (xf_15 M 0 v = true) = (0 ≤ v ∧ v ≤ 20) := by
  have e : ro_xv (0, fun _ => 0) 1 (0 : Int32).toNatClampNeg = 20 := by decide
  grind [xf_15]
theorem ro_w15_1 {M : ro_Mm} {v : Int32} : (xf_15 M 1 v = true) = (0 ≤ v ∧ v ≤ 20) := by
  have e : ro_xv (0, fun _ => 0) 1 (1 : Int32).toNatClampNeg = 20 := by decide
  grind [xf_15]
theorem ro_w15_2 {M : ro_Mm} {v : Int32} : (xf_15 M 2 v = true) = (0 ≤ v ∧ v ≤ 12) := by
  have e : ro_xv (0, fun _ => 0) 1 (2 : Int32).toNatClampNeg = 12 := by decide
  grind [xf_15]
theorem ro_w15_3 {M : ro_Mm} {v : Int32} : (xf_15 M 3 v = true) = (0 ≤ v ∧ v ≤ 20) := by
  have e : ro_xv (0, fun _ => 0) 1 (3 : Int32).toNatClampNeg = 20 := by decide
  grind [xf_15]
theorem ro_w15_4 {M : ro_Mm} {v : Int32} : (xf_15 M 4 v = true) = (0 ≤ v ∧ v ≤ 4) := by
  have e : ro_xv (0, fun _ => 0) 1 (4 : Int32).toNatClampNeg = 4 := by decide
  grind [xf_15]
theorem ro_w15_5 {M : ro_Mm} {v : Int32} : (xf_15 M 5 v = true) = (0 ≤ v ∧ v ≤ 11) := by
  have e : ro_xv (0, fun _ => 0) 1 (5 : Int32).toNatClampNeg = 11 := by decide
  grind [xf_15]
theorem ro_w15_6 {M : ro_Mm} {v : Int32} : (xf_15 M 6 v = true) = (0 ≤ v ∧ v ≤ 12) := by
  have e : ro_xv (0, fun _ => 0) 1 (6 : Int32).toNatClampNeg = 12 := by decide
  grind [xf_15]
theorem ro_w29 {M : ro_Mm} {v : Int32} (h : M.2.1 5 4 ≤ 6) : (xf_29 M v = true) = (0 ≤ v ∧ v < M.2.1 5 4) := by grind [xf_29]
theorem ro_w204 {M : ro_Mm} {v : Int32} (h0 : 0 ≤ M.2.1 163 1) : (xf_204 M v = true) = (0 ≤ v ∧ v < M.2.1 163 1) := by grind [xf_204, xf_195]
/-- one more comes, in the class -/
theorem ro_in14 {M : ro_Mm} {w c p : Int32} (h0 : 0 ≤ M.2.1 5 4) (h6 : M.2.1 5 4 < 6) (hw : 0 ≤ w ∧ w ≤ 20) (hc : 0 ≤ c ∧ c ≤ 20) (hp : 0 ≤ p ∧ p ≤ 12) : xf_14 M w c p = true ∧ xm_14 M w c p = ro_sI (ro_sI (ro_sI (ro_sI (ro_sI M 7 (M.2.1 5 4).toNatClampNeg w) 8 (M.2.1 5 4).toNatClampNeg c) 9 (M.2.1 5 4).toNatClampNeg p) 10 (M.2.1 5 4).toNatClampNeg 0) 5 4 (M.2.1 5 4 + 1) := by
  have g0 : ¬ M.2.1 5 4 < 0 := by grind
  have g6 : ¬ 6 ≤ M.2.1 5 4 := by grind
  unfold xf_14 xm_14 xm_17 xm_16
  simp only [ro_w15_0, ro_w15_1, ro_w15_2, if_pos hw, if_pos hc, if_pos hp, if_neg g0, if_neg g6, if_pos h6]
  exact ⟨trivial, trivial⟩
theorem ro_no14 {M : ro_Mm} {w c p : Int32} (h : ¬ (0 ≤ w ∧ w ≤ 20) ∨ ¬ (0 ≤ c ∧ c ≤ 20) ∨ ¬ (0 ≤ p ∧ p ≤ 12) ∨ 6 ≤ M.2.1 5 4) : xf_14 M w c p = false ∧ xm_14 M w c p = M := by
  unfold xf_14 xm_14
  simp only [ro_w15_0, ro_w15_1, ro_w15_2]
  grind
