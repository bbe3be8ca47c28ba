/-! ways behind an evening: how many keys there are at most, ahead of six offers or fewer -/
section WYD
theorem wy_bd_f (bl bh mo : Int) (w : Int × Int) : (max 0 (w.1 + bl) ≤ min mo (w.2 + bh) ∧ (wy_bd bl bh mo w).1 = max 0 (w.1 + bl) ∧ (wy_bd bl bh mo w).2 = min mo (w.2 + bh)) ∨ (¬ max 0 (w.1 + bl) ≤ min mo (w.2 + bh) ∧ (wy_bd bl bh mo w).1 = 99 ∧ (wy_bd bl bh mo w).2 = -99) := by
  unfold wy_bd
  by_cases h : max 0 (w.1 + bl) ≤ min mo (w.2 + bh)
  · rw [if_pos h]; exact Or.inl ⟨h, rfl, rfl⟩
  · rw [if_neg h]; exact Or.inr ⟨h, rfl, rfl⟩
/-- a told number -/
def wy_A (W : wy_W) (j : Int) : Prop := W.1.2 - W.1.1 ≤ j ∧ 0 ≤ j ∧ (W.2.2 < W.2.1 ∨ (j = 0 ∧ W.1.1 = W.2.1 ∧ W.1.2 = W.2.2))
/-- one of whole coins that isn't told -/
def wy_B (W : wy_W) (j d : Int) : Prop := 0 ≤ W.1.1 ∧ W.1.1 ≤ W.2.1 ∧ W.2.2 ≤ W.1.2 ∧ W.1.2 ≤ 20 ∧ W.2.1 - W.1.1 ≤ j ∧ 20 - d ≤ W.2.2 - W.2.1 ∧ ((j = 0 ∧ W.1.2 = 20 ∧ W.2.2 = 20) ∨ (1 ≤ j ∧ W.1.2 - W.2.2 ≤ j - 1))
/-- one of notched coins that isn't told -/
def wy_C (W : wy_W) (j u d : Int) : Prop := 0 ≤ W.1.1 ∧ W.1.1 ≤ W.2.1 ∧ W.2.2 ≤ W.1.2 ∧ W.1.2 ≤ 20 ∧ W.2.1 - W.1.1 ≤ j ∧ W.1.2 - W.2.2 ≤ j ∧ 20 - d ≤ W.2.2 - W.2.1 ∧ 0 ≤ j ∧ 0 ≤ u ∧
  (u = 0 → W.1.1 = 0 ∧ W.2.1 = 0 ∧ ((j = 0 ∧ W.1.2 = 20 ∧ W.2.2 = 20) ∨ (1 ≤ j ∧ W.1.2 - W.2.2 ≤ j - 1))) ∧
  (u = 1 → (W.2.1 ≤ 1 ∧ ((j = 0 ∧ W.1.2 = 20 ∧ W.2.2 = 20) ∨ (1 ≤ j ∧ W.1.2 - W.2.2 ≤ j - 1))) ∨ (W.1.1 = 0 ∧ W.2.1 = 0))
theorem wy_A_1 {W : wy_W} {j : Int} (h : wy_A W j) : wy_A (wy_bw 1 W) j := by
  have f1 := wy_bd_f 1 1 20 W.1
  have f2 := wy_bd_f 1 1 20 W.2
  unfold wy_A at h ⊢
  show (wy_bd 1 1 20 W.1).2 - (wy_bd 1 1 20 W.1).1 ≤ j ∧ 0 ≤ j ∧ ((wy_bd 1 1 20 W.2).2 < (wy_bd 1 1 20 W.2).1 ∨ (j = 0 ∧ (wy_bd 1 1 20 W.1).1 = (wy_bd 1 1 20 W.2).1 ∧ (wy_bd 1 1 20 W.1).2 = (wy_bd 1 1 20 W.2).2))
  omega
theorem wy_A_2 {W : wy_W} {j : Int} (h : wy_A W j) : wy_A (wy_bw 2 W) j := by
  have f1 := wy_bd_f (-1) (-1) 19 W.1
  have f2 := wy_bd_f (-1) (-1) 19 W.2
  unfold wy_A at h ⊢
  show (wy_bd (-1) (-1) 19 W.1).2 - (wy_bd (-1) (-1) 19 W.1).1 ≤ j ∧ 0 ≤ j ∧ ((wy_bd (-1) (-1) 19 W.2).2 < (wy_bd (-1) (-1) 19 W.2).1 ∨ (j = 0 ∧ (wy_bd (-1) (-1) 19 W.1).1 = (wy_bd (-1) (-1) 19 W.2).1 ∧ (wy_bd (-1) (-1) 19 W.1).2 = (wy_bd (-1) (-1) 19 W.2).2))
  omega
theorem wy_A_3 {W : wy_W} {j : Int} (h : wy_A W j) : wy_A (wy_bw 3 W) (j + 1) := by
  have f1 := wy_bd_f (-1) 0 19 W.1
  have f2 := wy_bd_f 0 (-1) 19 W.2
  unfold wy_A at h ⊢
  show (wy_bd (-1) 0 19 W.1).2 - (wy_bd (-1) 0 19 W.1).1 ≤ j + 1 ∧ 0 ≤ j + 1 ∧ ((wy_bd 0 (-1) 19 W.2).2 < (wy_bd 0 (-1) 19 W.2).1 ∨ (j + 1 = 0 ∧ (wy_bd (-1) 0 19 W.1).1 = (wy_bd 0 (-1) 19 W.2).1 ∧ (wy_bd (-1) 0 19 W.1).2 = (wy_bd 0 (-1) 19 W.2).2))
  omega
theorem wy_B_0 {W : wy_W} {j d : Int} (h : wy_B W j d) : wy_B W j (d + 1) := by
  unfold wy_B at h ⊢
  omega
theorem wy_B_1 {W : wy_W} {j d : Int} (hd : d ≤ 5) (h : wy_B W j d) : wy_B (wy_bw 1 W) j (d + 1) := by
  have f1 := wy_bd_f 1 1 20 W.1
  have f2 := wy_bd_f 1 1 20 W.2
  unfold wy_B at h ⊢
  have e : wy_bw 1 W = (wy_bd 1 1 20 W.1, wy_bd 1 1 20 W.2) := rfl
  rw [e]
  simp only
  omega
theorem wy_B_3 {W : wy_W} {j d : Int} (hd : d ≤ 5) (h : wy_B W j d) : wy_B (wy_bw 3 W) (j + 1) (d + 1) := by
  have f1 := wy_bd_f (-1) 0 19 W.1
  have f2 := wy_bd_f 0 (-1) 19 W.2
  unfold wy_B at h ⊢
  have e : wy_bw 3 W = (wy_bd (-1) 0 19 W.1, wy_bd 0 (-1) 19 W.2) := rfl
  rw [e]
  simp only
  omega
theorem wy_C_0 {W : wy_W} {j u d : Int} (h : wy_C W j u d) : wy_C W j u (d + 1) := by
  unfold wy_C at h ⊢
  omega
theorem wy_C_1 {W : wy_W} {j u d : Int} (hd : d ≤ 5) (h : wy_C W j u d) : wy_C (wy_bw 1 W) j (u + 1) (d + 1) := by
  have f1 := wy_bd_f 1 1 20 W.1
  have f2 := wy_bd_f 1 1 20 W.2
  unfold wy_C at h ⊢
  have e : wy_bw 1 W = (wy_bd 1 1 20 W.1, wy_bd 1 1 20 W.2) := rfl
  rw [e]
  simp only
  omega
theorem wy_C_2 {W : wy_W} {j u d : Int} (hd : d ≤ 5) (h : wy_C W j u d) : wy_C (wy_bw 2 W) j (u + 1) (d + 1) := by
  have f1 := wy_bd_f (-1) (-1) 19 W.1
  have f2 := wy_bd_f (-1) (-1) 19 W.2
  unfold wy_C at h ⊢
  have e : wy_bw 2 W = (wy_bd (-1) (-1) 19 W.1, wy_bd (-1) (-1) 19 W.2) := rfl
  rw [e]
  simp only
  omega
theorem wy_C_3 {W : wy_W} {j u d : Int} (hd : d ≤ 5) (h : wy_C W j u d) : wy_C (wy_bw 3 W) (j + 1) u (d + 1) := by
  have f1 := wy_bd_f (-1) 0 19 W.1
  have f2 := wy_bd_f 0 (-1) 19 W.2
  unfold wy_C at h ⊢
  have e : wy_bw 3 W = (wy_bd (-1) 0 19 W.1, wy_bd 0 (-1) 19 W.2) := rfl
  rw [e]
  simp only
  omega
/-- how often a number is widened, how often it is moved as a whole, whole ones offered -/
def wy_j (wh : Nat → Bool) (a b : Nat → Nat) : Nat → Nat → Nat → Nat
  | 0, _, _ => 0
  | d + 1, l, n => (if wy_op wh a b l n = 3 then 1 else 0) + wy_j wh a b d (l + 1) n
def wy_u (wh : Nat → Bool) (a b : Nat → Nat) : Nat → Nat → Nat → Nat
  | 0, _, _ => 0
  | d + 1, l, n => (if wy_op wh a b l n = 1 ∨ wy_op wh a b l n = 2 then 1 else 0) + wy_u wh a b d (l + 1) n
def wy_t (wh : Nat → Bool) : Nat → Nat → Nat
  | 0, _ => 0
  | d + 1, l => (if wh l = true then 1 else 0) + wy_t wh d (l + 1)
def wy_su (c : Nat → Nat) : Nat → Nat
  | 0 => 0
  | n + 1 => wy_su c n + c n
theorem wy_su_a (c e : Nat → Nat) : ∀ n, wy_su (fun m => c m + e m) n = wy_su c n + wy_su e n
  | 0 => rfl
  | n + 1 => by
    show wy_su (fun m => c m + e m) n + (c n + e n) = (wy_su c n + c n) + (wy_su e n + e n)
    rw [wy_su_a c e n]; omega
theorem wy_su_c {c e : Nat → Nat} : ∀ n, (∀ m, m < n → c m = e m) → wy_su c n = wy_su e n
  | 0, _ => rfl
  | n + 1, h => by
    show wy_su c n + c n = wy_su e n + e n
    rw [wy_su_c n (fun m hm => h m (by omega)), h n (by omega)]
theorem wy_su_w : ∀ a, a < 6 → ∀ b, b < 6 → a ≠ b → wy_su (fun m => if (if m = a then 1 else if m = b ∨ m = 6 + a then 3 else 0) = 3 then 1 else 0) 12 = 2 := by decide
theorem wy_su_k : ∀ a, a < 6 → ∀ b, b < 6 → wy_su (fun m => if (if m = 6 + a then 1 else if m = 6 + b then 2 else 0) = 3 then 1 else 0) 12 = 0 := by decide
section CAP
variable {M : ro_Mm} {wh : Nat → Bool} {a b : Nat → Nat} {T : Nat → wy_W} {K : Nat}
theorem wy_su_j (hE : wy_ev M wh a b T K) : ∀ d l, l + d = K → wy_su (wy_j wh a b d l) 12 = 2 * wy_t wh d l
  | 0, _, _ => rfl
  | d + 1, l, hl => by
    obtain ⟨h1, h2, h3⟩ := hE.2.1 l (by omega)
    have e : wy_su (wy_j wh a b (d + 1) l) 12 = wy_su (fun m => if wy_op wh a b l m = 3 then 1 else 0) 12 + wy_su (wy_j wh a b d (l + 1)) 12 := wy_su_a _ _ 12
    rw [e, wy_su_j hE d (l + 1) (by omega)]
    show _ = 2 * ((if wh l = true then 1 else 0) + wy_t wh d (l + 1))
    by_cases hw : wh l = true
    · rw [wy_su_c (c := fun m => if wy_op wh a b l m = 3 then 1 else 0) 12 (fun m _ => by rw [wy_op_w hw]), wy_su_w _ h1 _ h2 h3, if_pos hw]
      omega
    · rw [wy_su_c (c := fun m => if wy_op wh a b l m = 3 then 1 else 0) 12 (fun m _ => by rw [wy_op_c hw]), wy_su_k _ h1 _ h2, if_neg hw]
      omega
theorem wy_t_d : ∀ d l, wy_t wh d l ≤ d
  | 0, _ => Nat.le_refl _
  | d + 1, l => by
    have h := wy_t_d d (l + 1)
    show (if wh l = true then 1 else 0) + wy_t wh d (l + 1) ≤ d + 1
    split <;> omega
theorem wy_j_d {n : Nat} : ∀ d l, wy_j wh a b d l n ≤ d
  | 0, _ => Nat.le_refl _
  | d + 1, l => by
    have h := wy_j_d (n := n) d (l + 1)
    show (if wy_op wh a b l n = 3 then 1 else 0) + wy_j wh a b d (l + 1) n ≤ d + 1
    split <;> omega
theorem wy_u_d {n : Nat} (hn : 6 ≤ n) (hE : wy_ev M wh a b T K) : ∀ d l, l + d = K → wy_u wh a b d l n + wy_t wh d l ≤ d
  | 0, _, _ => Nat.le_refl _
  | d + 1, l, hl => by
    obtain ⟨h1, h2, h3⟩ := hE.2.1 l (by omega)
    have h := wy_u_d hn hE d (l + 1) (by omega)
    show ((if wy_op wh a b l n = 1 ∨ wy_op wh a b l n = 2 then 1 else 0) + wy_u wh a b d (l + 1) n) + ((if wh l = true then 1 else 0) + wy_t wh d (l + 1)) ≤ d + 1
    by_cases hw : wh l = true
    · have c : ¬ (wy_op wh a b l n = 1 ∨ wy_op wh a b l n = 2) := by
        rw [wy_op_w hw, if_neg (by omega)]
        split <;> omega
      rw [if_neg c, if_pos hw]
      omega
    · rw [if_neg hw]
      split <;> omega
/-- told, or not -/
def wy_tu (T : Nat → wy_W) : Prop := ∀ n, n < 12 → (∃ t : Int, 0 ≤ t ∧ t ≤ 20 ∧ T n = ((t, t), (t, t))) ∨ T n = ((0, 20), (0, 20))
theorem wy_op_v (hE : wy_ev M wh a b T K) {l n : Nat} (hl : l < K) : wy_op wh a b l n = 0 ∨ wy_op wh a b l n = 1 ∨ (wy_op wh a b l n = 2 ∧ 6 ≤ n) ∨ wy_op wh a b l n = 3 := by
  obtain ⟨h1, h2, h3⟩ := hE.2.1 l hl
  by_cases hw : wh l = true
  · rw [wy_op_w hw]
    repeat' split
    all_goals omega
  · rw [wy_op_c hw]
    repeat' split
    all_goals omega
theorem wy_inv (hE : wy_ev M wh a b T K) (hT : wy_tu T) {n : Nat} (hn : n < 12) : ∀ d l, l + d = K → d ≤ 6 →
    (wy_A (wy_w wh a b T d l n) (wy_j wh a b d l n)) ∨ (n < 6 ∧ wy_B (wy_w wh a b T d l n) (wy_j wh a b d l n) d) ∨ wy_C (wy_w wh a b T d l n) (wy_j wh a b d l n) (wy_u wh a b d l n) d ∧ 6 ≤ n
  | 0, l, _, _ => by
    show (wy_A (T n) ((0 : Nat) : Int)) ∨ (n < 6 ∧ wy_B (T n) ((0 : Nat) : Int) ((0 : Nat) : Int)) ∨ wy_C (T n) ((0 : Nat) : Int) ((0 : Nat) : Int) ((0 : Nat) : Int) ∧ 6 ≤ n
    rcases hT n hn with ⟨t, t1, t2, e⟩ | e
    · rw [e]
      refine Or.inl ⟨?_, by decide, Or.inr ⟨rfl, rfl, rfl⟩⟩
      show t - t ≤ 0
      omega
    · rw [e]
      by_cases q : n < 6
      · exact Or.inr (Or.inl ⟨q, by decide, by decide, by decide, by decide, by decide, by decide, Or.inl ⟨rfl, rfl, rfl⟩⟩)
      · exact Or.inr (Or.inr ⟨⟨by decide, by decide, by decide, by decide, by decide, by decide, by decide, by decide, by decide, fun _ => ⟨rfl, rfl, Or.inl ⟨rfl, rfl, rfl⟩⟩, fun h => absurd h (by decide)⟩, by omega⟩)
  | d + 1, l, hl, hd => by
    have h := wy_inv hE hT hn d (l + 1) (by omega) (by omega)
    have ov := wy_op_v hE (n := n) (show l < K by omega)
    have d5 : ((d : Nat) : Int) ≤ 5 := by omega
    have ed : (((d + 1 : Nat)) : Int) = (d : Int) + 1 := by omega
    rw [ed]
    show (wy_A (wy_bw (wy_op wh a b l n) (wy_w wh a b T d (l + 1) n)) (((if wy_op wh a b l n = 3 then 1 else 0) + wy_j wh a b d (l + 1) n : Nat) : Int)) ∨ (n < 6 ∧ wy_B (wy_bw (wy_op wh a b l n) (wy_w wh a b T d (l + 1) n)) (((if wy_op wh a b l n = 3 then 1 else 0) + wy_j wh a b d (l + 1) n : Nat) : Int) ((d : Int) + 1)) ∨ wy_C (wy_bw (wy_op wh a b l n) (wy_w wh a b T d (l + 1) n)) (((if wy_op wh a b l n = 3 then 1 else 0) + wy_j wh a b d (l + 1) n : Nat) : Int) (((if wy_op wh a b l n = 1 ∨ wy_op wh a b l n = 2 then 1 else 0) + wy_u wh a b d (l + 1) n : Nat) : Int) ((d : Int) + 1) ∧ 6 ≤ n
    generalize wy_op wh a b l n = o at ov
    generalize wy_w wh a b T d (l + 1) n = W at h
    generalize wy_j wh a b d (l + 1) n = j at h
    generalize wy_u wh a b d (l + 1) n = u at h
    have j0 : ((0 + j : Nat) : Int) = (j : Int) := by omega
    have j1 : ((1 + j : Nat) : Int) = (j : Int) + 1 := by omega
    have u0 : ((0 + u : Nat) : Int) = (u : Int) := by omega
    have u1 : ((1 + u : Nat) : Int) = (u : Int) + 1 := by omega
    rcases ov with q | q | ⟨q, q6⟩ | q <;> subst q
    · rw [if_neg (by decide), if_neg (by decide), j0, u0]
      rcases h with h | ⟨h0, h⟩ | ⟨h, h0⟩
      · exact Or.inl h
      · exact Or.inr (Or.inl ⟨h0, wy_B_0 h⟩)
      · exact Or.inr (Or.inr ⟨wy_C_0 h, h0⟩)
    · rw [if_neg (by decide), if_pos (by decide), j0, u1]
      rcases h with h | ⟨h0, h⟩ | ⟨h, h0⟩
      · exact Or.inl (wy_A_1 h)
      · exact Or.inr (Or.inl ⟨h0, wy_B_1 d5 h⟩)
      · exact Or.inr (Or.inr ⟨wy_C_1 d5 h, h0⟩)
    · rw [if_neg (by decide), if_pos (by decide), j0, u1]
      rcases h with h | ⟨h0, h⟩ | ⟨h, h0⟩
      · exact Or.inl (wy_A_2 h)
      · omega
      · exact Or.inr (Or.inr ⟨wy_C_2 d5 h, h0⟩)
    · rw [if_pos rfl, if_neg (by decide), j1, u0]
      rcases h with h | ⟨h0, h⟩ | ⟨h, h0⟩
      · exact Or.inl (wy_A_3 h)
      · exact Or.inr (Or.inl ⟨h0, wy_B_3 d5 h⟩)
      · exact Or.inr (Or.inr ⟨wy_C_3 d5 h, h0⟩)
/-- how many digits a number has at most -/
def wy_kd (W : wy_W) : Nat := if W.2.1 ≤ W.2.2 then ((W.2.1 - W.1.1) + (W.1.2 - W.2.2) + 1).toNat else (W.1.2 - W.1.1 + 1).toNat
theorem wy_p36 : ∀ j, j < 7 → j + 1 ≤ 2 ^ j ∧ 2 * j ≤ 2 ^ j ∧ 1 ≤ 2 ^ j ∧ 2 * j + 1 ≤ 3 ^ j ∧ j + 1 ≤ 3 ^ j ∧ 1 ≤ 3 ^ j := by decide
theorem wy_kd_3 (hE : wy_ev M wh a b T K) (hT : wy_tu T) {n : Nat} (hn : n < 12) {d l : Nat} (hl : l + d = K) (hd : d ≤ 6) : wy_kd (wy_w wh a b T d l n) ≤ 3 ^ (wy_j wh a b d l n) := by
  have h := wy_inv hE hT hn d l hl hd
  have hj := wy_j_d (wh := wh) (a := a) (b := b) (n := n) d l
  obtain ⟨p1, p2, p3, p4, p5, p6⟩ := wy_p36 (wy_j wh a b d l n) (by omega)
  generalize wy_w wh a b T d l n = W at *
  generalize wy_u wh a b d l n = u at *
  generalize hq : 3 ^ (wy_j wh a b d l n) = q at *
  generalize wy_j wh a b d l n = j at *
  unfold wy_kd
  rcases h with h | ⟨_, h⟩ | ⟨h, _⟩
  · unfold wy_A at h
    split <;> omega
  · unfold wy_B at h
    split <;> omega
  · unfold wy_C at h
    split <;> omega
theorem wy_kd_2 (hE : wy_ev M wh a b T K) (hT : wy_tu T) {n : Nat} (hn : n < 12) {d l : Nat} (hl : l + d = K) (hd : d ≤ 6) (hu : 6 ≤ n → wy_u wh a b d l n ≤ 1) : wy_kd (wy_w wh a b T d l n) ≤ 2 ^ (wy_j wh a b d l n) := by
  have h := wy_inv hE hT hn d l hl hd
  have hj := wy_j_d (wh := wh) (a := a) (b := b) (n := n) d l
  obtain ⟨p1, p2, p3, p4, p5, p6⟩ := wy_p36 (wy_j wh a b d l n) (by omega)
  generalize wy_w wh a b T d l n = W at *
  generalize wy_u wh a b d l n = u at *
  generalize hq : 2 ^ (wy_j wh a b d l n) = q at *
  generalize wy_j wh a b d l n = j at *
  unfold wy_kd
  rcases h with h | ⟨_, h⟩ | ⟨h, h6⟩
  · unfold wy_A at h
    split <;> omega
  · unfold wy_B at h
    split <;> omega
  · have hu := hu h6
    unfold wy_C at h
    split <;> omega
def wy_P (c : Nat → Nat) : Nat → Nat
  | 0 => 1
  | n + 1 => wy_P c n * c n
theorem wy_P_le {c e : Nat → Nat} {B : Nat} : ∀ n, (∀ m, m < n → c m ≤ B ^ e m) → wy_P c n ≤ B ^ wy_su e n
  | 0, _ => Nat.le_refl _
  | n + 1, h => by
    show wy_P c n * c n ≤ B ^ (wy_su e n + e n)
    rw [Nat.pow_add]
    exact Nat.mul_le_mul (wy_P_le n (fun m hm => h m (by omega))) (h n (by omega))
def wy_mr (c x : Nat → Nat) : Nat → Nat
  | 0 => 0
  | n + 1 => wy_mr c x n + wy_P c n * x n
theorem wy_mr_lt {c x : Nat → Nat} : ∀ n, (∀ m, m < n → x m < c m) → wy_mr c x n < wy_P c n
  | 0, _ => Nat.zero_lt_one
  | n + 1, h => by
    have h1 := wy_mr_lt n (fun m hm => h m (by omega))
    have h2 : wy_P c n * (x n + 1) ≤ wy_P c n * c n := Nat.mul_le_mul_left _ (h n (by omega))
    show wy_mr c x n + wy_P c n * x n < wy_P c n * c n
    rw [Nat.mul_add, Nat.mul_one] at h2
    omega
theorem wy_mr_i {c x y : Nat → Nat} : ∀ n, (∀ m, m < n → x m < c m ∧ y m < c m) → wy_mr c x n = wy_mr c y n → ∀ m, m < n → x m = y m
  | 0, _, _ => fun m hm => absurd hm (Nat.not_lt_zero _)
  | n + 1, h, e => by
    have hx := wy_mr_lt n (fun m hm => (h m (by omega)).1)
    have hy := wy_mr_lt n (fun m hm => (h m (by omega)).2)
    have e2 : wy_mr c x n + wy_P c n * x n = wy_mr c y n + wy_P c n * y n := e
    have p : 0 < wy_P c n := by omega
    have d1 : (wy_mr c x n + wy_P c n * x n) / wy_P c n = x n := by rw [Nat.add_mul_div_left _ _ p, Nat.div_eq_of_lt hx, Nat.zero_add]
    have d2 : (wy_mr c y n + wy_P c n * y n) / wy_P c n = y n := by rw [Nat.add_mul_div_left _ _ p, Nat.div_eq_of_lt hy, Nat.zero_add]
    have exy : x n = y n := by rw [← d1, ← d2, e2]
    have e3 : wy_mr c x n = wy_mr c y n := by rw [exy] at e2; omega
    intro m hm
    by_cases q : m = n
    · rw [q]; exact exy
    · exact wy_mr_i n (fun m hm => h m (by omega)) e3 m (by omega)
theorem wy_pig : ∀ (B s : Nat) (f : Nat → Nat), (∀ i, i < s → f i < B) → (∀ i j, i < s → j < s → f i = f j → i = j) → s ≤ B
  | 0, s, f, h, _ => by
    by_cases q : s = 0
    · omega
    · exact absurd (h 0 (by omega)) (Nat.not_lt_zero _)
  | B + 1, s, f, h, g => by
    by_cases q : ∃ i, i < s ∧ f i = B
    · obtain ⟨i, hi, ei⟩ := q
      have := wy_pig B (s - 1) (fun j => if j = i then f (s - 1) else f j) (fun j hj => by
        show (if j = i then f (s - 1) else f j) < B
        by_cases z : j = i
        · rw [if_pos z]
          have h1 := h (s - 1) (by omega)
          have h2 : f (s - 1) ≠ B := fun e => by
            have := g (s - 1) i (by omega) hi (e.trans ei.symm)
            omega
          omega
        · rw [if_neg z]
          have h1 := h j (by omega)
          have h2 : f j ≠ B := fun e => z (g j i (by omega) hi (e.trans ei.symm))
          omega) (fun j k hj hk e => by
        have e2 : (if j = i then f (s - 1) else f j) = (if k = i then f (s - 1) else f k) := e
        by_cases z : j = i
        · by_cases y : k = i
          · omega
          · rw [if_pos z, if_neg y] at e2
            have := g (s - 1) k (by omega) (by omega) e2
            omega
        · by_cases y : k = i
          · rw [if_neg z, if_pos y] at e2
            have := g j (s - 1) (by omega) (by omega) e2
            omega
          · rw [if_neg z, if_neg y] at e2
            exact g j k (by omega) (by omega) e2)
      omega
    · have := wy_pig B s f (fun j hj => by
        have h1 := h j hj
        have h2 : f j ≠ B := fun e => q ⟨j, hj, e⟩
        omega) g
      omega
/-- a value's place among the digits -/
def wy_ix (W : wy_W) (x : Int) : Nat := if wy_in x W.2 then (W.2.1 - W.1.1).toNat else if x < W.2.1 then (x - W.1.1).toNat else (x - W.2.2 + (W.2.1 - W.1.1)).toNat
theorem wy_z_n {W : wy_W} (h : wy_z W) (g : W.2.1 ≤ W.2.2) : W.1.1 ≤ W.2.1 ∧ W.2.2 ≤ W.1.2 := by
  have h1 := h.2.2 W.2.1 ⟨Int.le_refl _, g⟩
  have h2 := h.2.2 W.2.2 ⟨g, Int.le_refl _⟩
  exact ⟨h1.1, h2.2⟩
theorem wy_z_e {W : wy_W} (h : wy_z W) (g : ¬ W.2.1 ≤ W.2.2) : W.2.1 = 99 := by
  rcases h.2.1 with q | q
  · exact absurd q.2.2 g
  · rw [q]
theorem wy_ix_lt {W : wy_W} (h : wy_z W) {x : Int} (hx : wy_in x W.1) : wy_ix W x < wy_kd W := by
  obtain ⟨x1, x2⟩ := hx
  have b := wy_z_i h ⟨x1, x2⟩
  unfold wy_ix wy_kd
  by_cases g : W.2.1 ≤ W.2.2
  · obtain ⟨g1, g2⟩ := wy_z_n h g
    rw [if_pos g]
    by_cases s : wy_in x W.2
    · rw [if_pos s]; omega
    · rw [if_neg s]
      by_cases y : x < W.2.1
      · rw [if_pos y]; omega
      · rw [if_neg y]; omega
  · have e := wy_z_e h g
    rw [if_neg g, if_neg (fun s => g (Int.le_trans s.1 s.2)), if_pos (by omega)]
    omega
theorem wy_ix_i {U : Nat → wy_W} {f g : Nat → Int} {n : Nat} (h : wy_z (U n)) (hf : wy_in (f n) (U n).1) (hg : wy_in (g n) (U n).1) (e : wy_ix (U n) (f n) = wy_ix (U n) (g n)) : wy_dd U f n = wy_dd U g n := by
  have bf := wy_z_i h hf
  have bg := wy_z_i h hg
  obtain ⟨f1, f2⟩ := hf
  obtain ⟨g1, g2⟩ := hg
  unfold wy_ix at e
  unfold wy_dd
  by_cases q : (U n).2.1 ≤ (U n).2.2
  · obtain ⟨q1, q2⟩ := wy_z_n h q
    by_cases s : wy_in (f n) (U n).2
    · by_cases t : wy_in (g n) (U n).2
      · rw [if_pos s, if_pos t]
      · rw [if_pos s, if_neg t] at e
        by_cases y : g n < (U n).2.1
        · rw [if_pos y] at e; omega
        · rw [if_neg y] at e
          have : (U n).2.2 < g n := by
            by_cases w : g n ≤ (U n).2.2
            · exact absurd ⟨by omega, w⟩ t
            · omega
          omega
    · by_cases t : wy_in (g n) (U n).2
      · rw [if_neg s, if_pos t] at e
        by_cases y : f n < (U n).2.1
        · rw [if_pos y] at e; omega
        · rw [if_neg y] at e
          have : (U n).2.2 < f n := by
            by_cases w : f n ≤ (U n).2.2
            · exact absurd ⟨by omega, w⟩ s
            · omega
          omega
      · rw [if_neg s, if_neg t] at e ⊢
        by_cases y : f n < (U n).2.1
        · by_cases z : g n < (U n).2.1
          · rw [if_pos y, if_pos z] at e; omega
          · rw [if_pos y, if_neg z] at e
            have : (U n).2.2 < g n := by
              by_cases w : g n ≤ (U n).2.2
              · exact absurd ⟨by omega, w⟩ t
              · omega
            omega
        · have y2 : (U n).2.2 < f n := by
            by_cases w : f n ≤ (U n).2.2
            · exact absurd ⟨by omega, w⟩ s
            · omega
          by_cases z : g n < (U n).2.1
          · rw [if_neg y, if_pos z] at e; omega
          · rw [if_neg y, if_neg z] at e; omega
  · have e99 := wy_z_e h q
    have s : ¬ wy_in (f n) (U n).2 := fun s => q (Int.le_trans s.1 s.2)
    have t : ¬ wy_in (g n) (U n).2 := fun s => q (Int.le_trans s.1 s.2)
    rw [if_neg s, if_neg t] at e ⊢
    rw [if_pos (by omega), if_pos (by omega)] at e
    omega
theorem wy_cap (hE : wy_ev M wh a b T K) (hT : wy_tu T) {d l : Nat} (hl : l + d = K) (hd : d ≤ 6) {s : Nat} {k : Nat → Int64} (hk : ∀ i, i < s → ∃ f, wy_kr (wy_w wh a b T d l) (k i) f) (hi : ∀ i j, i < s → j < s → k i = k j → i = j) : s ≤ 8192 := by
  have hF : ∃ F : Nat → Nat → Int, ∀ i, i < s → wy_kr (wy_w wh a b T d l) (k i) (F i) := by
    have h : ∀ i, ∃ f : Nat → Int, i < s → wy_kr (wy_w wh a b T d l) (k i) f := fun i => by
      by_cases h : i < s
      · obtain ⟨f, hf⟩ := hk i h
        exact ⟨f, fun _ => hf⟩
      · exact ⟨fun _ => 0, fun q => absurd q h⟩
    exact ⟨fun i => Classical.choose (h i), fun i => Classical.choose_spec (h i)⟩
  obtain ⟨F, hF⟩ := hF
  have hz : ∀ n, n < 12 → wy_z (wy_w wh a b T d l n) := fun n hn => by
    have := (hE.2.2 l (by omega) n hn).2.2.2.2
    rw [show K - l = d by omega] at this
    exact this
  have hc : wy_P (fun n => wy_kd (wy_w wh a b T d l n)) 12 ≤ 8192 := by
    have hs := wy_su_j hE d l hl
    have ht := wy_t_d (wh := wh) d l
    by_cases q : wy_t wh d l ≤ 4
    · refine Nat.le_trans (wy_P_le (e := wy_j wh a b d l) (B := 3) 12 (fun m hm => wy_kd_3 hE hT hm hl hd)) ?_
      rw [hs]
      exact Nat.le_trans (Nat.pow_le_pow_right (by decide) (show 2 * wy_t wh d l ≤ 8 by omega)) (by decide)
    · refine Nat.le_trans (wy_P_le (e := wy_j wh a b d l) (B := 2) 12 (fun m hm => wy_kd_2 hE hT hm hl hd (fun h6 => by have := wy_u_d h6 hE d l hl; omega))) ?_
      rw [hs]
      exact Nat.le_trans (Nat.pow_le_pow_right (by decide) (show 2 * wy_t wh d l ≤ 12 by omega)) (by decide)
  refine Nat.le_trans (wy_pig (wy_P (fun n => wy_kd (wy_w wh a b T d l n)) 12) s (fun i => wy_mr (fun n => wy_kd (wy_w wh a b T d l n)) (fun n => wy_ix (wy_w wh a b T d l n) (F i n)) 12) (fun i h => wy_mr_lt 12 (fun m hm => wy_ix_lt (hz m hm) ((hF i h).1 m hm).1)) (fun i j h1 h2 e => ?_)) hc
  refine hi i j h1 h2 ?_
  have g := wy_mr_i 12 (fun m hm => ⟨wy_ix_lt (hz m hm) ((hF i h1).1 m hm).1, wy_ix_lt (hz m hm) ((hF j h2).1 m hm).1⟩) e
  rw [(hF i h1).2, (hF j h2).2]
  refine congrArg lN ?_
  exact wy_he_c 12 0 (fun m _ hm => wy_ix_i (hz m (by omega)) ((hF i h1).1 m (by omega)).1 ((hF j h2).1 m (by omega)).1 (g m (by omega)))
end CAP
end WYD

