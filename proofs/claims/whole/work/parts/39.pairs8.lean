/-! pairs of calls, on: shift (by program, wip/whole/gen39.py) -/
section PAIRS8
variable {X : ro_Sx}
/-- a stretch of row a, from place f on, k to m: out of row b, from place g on -/
def ro_ct (J : Nat → Nat → Int64) (a f b g k m : Nat) : Nat → Nat → Int64 := fun x y => if x = a ∧ f + k ≤ y ∧ y < f + m then J b (g + (y - f)) else J x y
theorem ro_ct_end {J : Nat → Nat → Int64} {a f b g k m : Nat} (h : m ≤ k) : ro_ct J a f b g k m = J := by
  funext x y
  unfold ro_ct
  rw [if_neg (by omega)]
theorem ro_ct_step {J : Nat → Nat → Int64} {a f b g k m : Nat} (h : k < m) (hab : b ≠ a) : ro_ct (ro_up2 J a (f + k) (J b (g + k))) a f b g (k + 1) m = ro_ct J a f b g k m := by
  funext x y
  unfold ro_ct
  rw [ro_up_o hab]
  by_cases e1 : x = a ∧ y = f + k
  · have z1 : ¬ (x = a ∧ f + (k + 1) ≤ y ∧ y < f + m) := by omega
    have z2 : x = a ∧ f + k ≤ y ∧ y < f + m := by omega
    rw [if_neg z1, if_pos z2, e1.1, e1.2, ro_up_s, show f + k - f = k by omega]
  · have z3 : ro_up2 J a (f + k) (J b (g + k)) x y = J x y := by unfold ro_up2; rw [if_neg e1]
    rw [z3]
    by_cases e2 : x = a ∧ f + (k + 1) ≤ y ∧ y < f + m
    · have z2 : x = a ∧ f + k ≤ y ∧ y < f + m := by omega
      rw [if_pos e2, if_pos z2]
    · have z2 : ¬ (x = a ∧ f + k ≤ y ∧ y < f + m) := by omega
      rw [if_neg e2, if_neg z2]
theorem ro_60k {i a k : Nat} (hi : i < 6) : (60 : Int32) * nI i + nI a + nI k = nI (60 * i + a + k) := by
  rw [(ro_60n hi).2, nI_add, nI_add]
theorem cl_113 {i a m o b : Nat} (hi : i < 6) (hm : m ≤ 60) (ha : a + m ≤ 60) : ∀ (d k n : Nat) (M : ro_Mm), k + d = m → d < n →
    (xg_305_113 n M (nI k) (nI i) (nI a) (nI o) (nI b) (nI m)).2 = (M.1, M.2.1, ro_ct M.2.2.1 193 0 192 (60 * i + a) k m, M.2.2.2) ∧ xq_305_113 n M (nI k) (nI i) (nI a) (nI o) (nI b) (nI m) := by
  intro d
  induction d with
  | zero =>
    intro k n M hk hn
    cases n with
    | zero => omega
    | succ n =>
      have e : k = m := by omega
      have q := ro_nle (show m < 1000 by omega)
      rw [e, xg_305_113, xq_305_113, if_pos q, ro_ct_end (Nat.le_refl _)]
      exact ⟨rfl, fun _ => trivial, fun y => absurd q y⟩
  | succ d ih =>
    intro k n M hk hn
    cases n with
    | zero => omega
    | succ n =>
      have q1 : ¬ nI m ≤ nI k := nI_ge (by omega) (by omega)
      have q3 : (nI k).toNatClampNeg = k := nI_clamp (by omega)
      have q4 : (nI (60 * i + a + k)).toNatClampNeg = 60 * i + a + k := nI_clamp (by omega)
      rw [xg_305_113, xq_305_113, if_neg q1, ro_60k hi, q3, q4, ← nI_succ]
      obtain ⟨i1, i2⟩ := ih (k + 1) n (ro_sJ M 193 k (M.2.2.1 192 (60 * i + a + k))) (by omega) (by omega)
      rw [i1]
      refine ⟨?_, fun _ => trivial, fun _ => ⟨ro_vn (by omega) (by omega), ro_vn (by omega) (by omega), i2⟩⟩
      have e5 := ro_ct_step (J := M.2.2.1) (a := 193) (f := 0) (b := 192) (g := 60 * i + a) (show k < m by omega) (by decide)
      rw [Nat.zero_add] at e5
      rw [← e5]
      rfl
theorem cl_150 {i a m o b : Nat} (ho : o < 6) (hm : m ≤ 60) (hb : b + m ≤ 60) : ∀ (d k n : Nat) (M : ro_Mm), k + d = m → d < n →
    (xg_305_150 n M (nI k) (nI i) (nI a) (nI o) (nI b) (nI m)).2 = (M.1, M.2.1, ro_ct M.2.2.1 192 (60 * o + b) 193 0 k m, M.2.2.2) ∧ xq_305_150 n M (nI k) (nI i) (nI a) (nI o) (nI b) (nI m) := by
  intro d
  induction d with
  | zero =>
    intro k n M hk hn
    cases n with
    | zero => omega
    | succ n =>
      have e : k = m := by omega
      have q := ro_nle (show m < 1000 by omega)
      rw [e, xg_305_150, xq_305_150, if_pos q, ro_ct_end (Nat.le_refl _)]
      exact ⟨rfl, fun _ => trivial, fun y => absurd q y⟩
  | succ d ih =>
    intro k n M hk hn
    cases n with
    | zero => omega
    | succ n =>
      have q1 : ¬ nI m ≤ nI k := nI_ge (by omega) (by omega)
      have q3 : (nI k).toNatClampNeg = k := nI_clamp (by omega)
      have q4 : (nI (60 * o + b + k)).toNatClampNeg = 60 * o + b + k := nI_clamp (by omega)
      rw [xg_305_150, xq_305_150, if_neg q1, ro_60k ho, q3, q4, ← nI_succ]
      obtain ⟨i1, i2⟩ := ih (k + 1) n (ro_sJ M 192 (60 * o + b + k) (M.2.2.1 193 k)) (by omega) (by omega)
      rw [i1]
      refine ⟨?_, fun _ => trivial, fun _ => ⟨ro_vn (by omega) (by omega), ro_vn (by omega) (by omega), i2⟩⟩
      have e5 := ro_ct_step (J := M.2.2.1) (a := 192) (f := 60 * o + b) (b := 193) (g := 0) (show k < m by omega) (by decide)
      rw [Nat.zero_add] at e5
      rw [← e5]
      rfl
/-- both of them -/
theorem x305 {M : ro_Mm} {i a m o b : Nat} (hi : i < 6) (ho : o < 6) (hm : m ≤ 60) (ha : a + m ≤ 60) (hb : b + m ≤ 60) :
    (xg_305_150 lp_N (xg_305_113 lp_N M 0 (nI i) (nI a) (nI o) (nI b) (nI m)).2 0 (nI i) (nI a) (nI o) (nI b) (nI m)).2 = (M.1, M.2.1, ro_ct (ro_ct M.2.2.1 193 0 192 (60 * i + a) 0 m) 192 (60 * o + b) 193 0 0 m, M.2.2.2) ∧
    xq_305_113 lp_N M 0 (nI i) (nI a) (nI o) (nI b) (nI m) ∧ xq_305_150 lp_N (xg_305_113 lp_N M 0 (nI i) (nI a) (nI o) (nI b) (nI m)).2 0 (nI i) (nI a) (nI o) (nI b) (nI m) := by
  have g := cl_113 (o := o) (b := b) hi hm ha m 0 lp_N M (by omega) (lp_hug (by omega))
  rw [nI_0] at g
  have g2 := cl_150 (i := i) (a := a) ho hm hb m 0 lp_N (M.1, M.2.1, ro_ct M.2.2.1 193 0 192 (60 * i + a) 0 m, M.2.2.2) (by omega) (lp_hug (by omega))
  rw [nI_0] at g2
  rw [g.1]
  exact ⟨g2.1, g.2, g2.2⟩
end PAIRS8
