/-! pairs of calls, on: shift (by program, wip/whole/gen39.py) -/
section PAIRS8
variable {X : ro_Sx}
/-- a stretch of row a, from place f on, k to m: out of row b, from place g on -/
def ro_ct (J : Nat → Nat → Int64) (a f b g k m : Nat) : Nat → Nat → Int64 := fun x y => if x = a ∧ f + k ≤ y ∧ y < f + m then J b (g + (y - f)) else J x y
theorem ro_ct_end {J : Nat → Nat → Int64} {a f b g k m : Nat} (h : m ≤ k) : ro_ct J a f b g k m = J := by
  funext x y
  unfold ro_ct
  rw [if_neg (by omega)]
theorem ro_ct_step {J : Nat → Nat → Int64} {a f b g k m : Nat} (h : k < m) (hab : b ≠ a) : ro_ct (ro_up2 J a (f + k) (J b (g + k))) a f b g (k + 1) m = ro_ct J a f b g k m := by
  funext x y
  unfold ro_ct
  rw [ro_up_o hab]
  by_cases e1 : x = a ∧ y = f + k
  · have z1 : ¬ (x = a ∧ f + (k + 1) ≤ y ∧ y < f + m) := by omega
    have z2 : x = a ∧ f + k ≤ y ∧ y < f + m := by omega
    rw [if_neg z1, if_pos z2, e1.1, e1.2, ro_up_s, show f + k - f = k by omega]
  · have z3 : ro_up2 J a (f + k) (J b (g + k)) x y = J x y := by unfold ro_up2; rw [if_neg e1]
    rw [z3]
    by_cases e2 : x = a ∧ f + (k + 1) ≤ y ∧ y < f + m
    · have z2 : x = a ∧ f + k ≤ y ∧ y < f + m := by omega
      rw [if_pos e2, if_pos z2]
    · have z2 : ¬ (x = a ∧ f + k ≤ y ∧ y < f + m) := by omega
      rw [if_neg e2, if_neg z2]
theorem ro_60k {i a k : Nat} (hi : i < 6) : (60 : Int32) * nI i + nI a + nI k = nI (60 * i + a + k) := by
  rw [(ro_60n hi).2, nI_add, nI_add]
theorem cl_113 {i a m o b : Nat} (hi : i < 6) (hm : m ≤ 60) (ha : a + m ≤ 60) : ∀ (d k n : Nat) (M : ro_Mm), k + d = m → d < n →
    (xg_305_113 n M (nI k) (nI i) (nI a) (nI o) (nI b) (nI m)).2 = (M.1, M.2.1, ro_ct M.2.2.1 193 0 192 (60 * i + a) k m, M.2.2.2) ∧ xq_305_113 n M (nI k) (nI i) (nI a) (nI o) (nI b) (nI m) := by
  intro d
  induction d with
  | zero =>
    intro k n M hk hn
    cases n with
    | zero => omega
    | succ n =>
      have e : k = m := by omega
      have q := ro_nle (show m < 1000 by omega)
      rw [e, xg_305_113, xq_305_113, if_pos q, ro_ct_end (Nat.le_refl _)]
      exact ⟨rfl, fun _ => trivial, fun y => absurd q y⟩
  | succ d ih =>
    intro k n M hk hn
    cases n with
    | zero => omega
    | succ n =>
      have q1 : ¬ nI m ≤ nI k := nI_ge (by omega) (by omega)
      have q3 : (nI k).toNatClampNeg = k := nI_clamp (by omega)
      have q4 : (nI (60 * i + a + k)).toNatClampNeg = 60 * i + a + k := nI_clamp (by omega)
      rw [xg_305_113, xq_305_113, if_neg q1, ro_60k hi, q3, q4, ← nI_succ]
      obtain ⟨i1, i2⟩ := ih (k + 1) n (ro_sJ M 193 k (M.2.2.1 192 (60 * i + a + k))) (by omega) (by omega)
      rw [i1]
      refine ⟨?_, fun _ => trivial, fun _ => ⟨ro_vn (by omega) (by omega), ro_vn (by omega) (by omega), i2⟩⟩
      have e5 := ro_ct_step (J := M.2.2.1) (a := 193) (f := 0) (b := 192) (g := 60 * i + a) (show k < m by omega) (by decide)
      rw [Nat.zero_add] at e5
      rw [← e5]
      rfl
theorem cl_150 {i a m o b : Nat} (ho : o < 6) (hm : m ≤ 60) (hb : b + m ≤ 60) : ∀ (d k n : Nat) (M : ro_Mm), k + d = m → d < n →
    (xg_305_150 n M (nI k) (nI i) (nI a) (nI o) (nI b) (nI m)).2 = (M.1, M.2.1, ro_ct M.2.2.1 192 (60 * o + b) 193 0 k m, M.2.2.2) ∧ xq_305_150 n M (nI k) (nI i) (nI a) (nI o) (nI b) (nI m) := by
  intro d
  induction d with
  | zero =>
    intro k n M hk hn
    cases n with
    | zero => omega
    | succ n =>
      have e : k = m := by omega
      have q := ro_nle (show m < 1000 by omega)
      rw [e, xg_305_150, xq_305_150, if_pos q, ro_ct_end (Nat.le_refl _)]
      exact ⟨rfl, fun _ => trivial, fun y => absurd q y⟩
  | succ d ih =>
    intro k n M hk hn
    cases n with
    | zero => omega
    | succ n =>
      have q1 : ¬ nI m ≤ nI k := nI_ge (by omega) (by omega)
      have q3 : (nI k).toNatClampNeg = k := nI_clamp (by omega)
      have q4 : (nI (60 * o + b + k)).toNatClampNeg = 60 * o + b + k := nI_clamp (by omega)
      rw [xg_305_150, xq_305_150, if_neg q1, ro_60k ho, q3, q4, ← nI_succ]
      obtain ⟨i1, i2⟩ := ih (k + 1) n (ro_sJ M 192 (60 * o + b + k) (M.2.2.1 193 k)) (by omega) (by omega)
      rw [i1]
      refine ⟨?_, fun _ => trivial, fun _ => ⟨ro_vn (by omega) (by omega), ro_vn (by omega) (by omega), i2⟩⟩
      have e5 := ro_ct_step (J := M.2.2.1) (a := 192) (f := 60 * o + b) (b := 193) (g := 0) (show k < m by omega) (by decide)
      rw [Nat.zero_add] at e5
      rw [← e5]
      rfl
/-- both of them -/
theorem x305 {M : ro_Mm} {i a m o b : Nat} (hi : i < 6) (ho : o < 6) (hm : m ≤ 60) (ha : a + m ≤ 60) (hb : b + m ≤ 60) :
    (xg_305_150 lp_N (xg_305_113 lp_N M 0 (nI i) (nI a) (nI o) (nI b) (nI m)).2 0 (nI i) (nI a) (nI o) (nI b) (nI m)).2 = (M.1, M.2.1, ro_ct (ro_ct M.2.2.1 193 0 192 (60 * i + a) 0 m) 192 (60 * o + b) 193 0 0 m, M.2.2.2) ∧
    xq_305_113 lp_N M 0 (nI i) (nI a) (nI o) (nI b) (nI m) ∧ xq_305_150 lp_N (xg_305_113 lp_N M 0 (nI i) (nI a) (nI o) (nI b) (nI m)).2 0 (nI i) (nI a) (nI o) (nI b) (nI m) := by
  have g := cl_113 (o := o) (b := b) hi hm ha m 0 lp_N M (by omega) (lp_hug (by omega))
  rw [nI_0] at g
  have g2 := cl_150 (i := i) (a := a) ho hm hb m 0 lp_N (M.1, M.2.1, ro_ct M.2.2.1 193 0 192 (60 * i + a) 0 m, M.2.2.2) (by omega) (lp_hug (by omega))
  rw [nI_0] at g2
  rw [g.1]
  exact ⟨g2.1, g.2, g2.2⟩
theorem ro_sums {a n s : Int32} (ha : 0 ≤ a) (hn : 0 ≤ n) (hs0 : 0 ≤ s) (hs : s ≤ 60) (h : ¬ s - n < a) : a.toNatClampNeg + n.toNatClampNeg ≤ s.toNatClampNeg ∧ a.toNatClampNeg ≤ 60 ∧ n.toNatClampNeg ≤ 60 ∧ s.toNatClampNeg ≤ 60 := by
  have k : a + n ≤ s ∧ n ≤ 60 ∧ a ≤ 60 := by grind
  have a1 := ro_cle (n := 60) ha k.2.2 (by decide)
  have n1 := ro_cle (n := 60) hn k.2.1 (by decide)
  have s1 := ro_cle (n := 60) hs0 hs (by decide)
  refine ⟨?_, a1, n1, s1⟩
  have k1 := k.1
  rw [ro_nI_of ha, ro_nI_of hn, ro_nI_of hs0, nI_add] at k1
  by_cases z : a.toNatClampNeg + n.toNatClampNeg ≤ s.toNatClampNeg
  · exact z
  · exact absurd k1 (nI_ge (by omega) (by omega))
/-- a shelf, as both see it -/
theorem sh_of {M : ro_Mm} (h : ro_Inv M) {v : Int32} (hv : ro_bs v = true) :
    (M.2.1 (ro_sc v) 1 = -2 ∧ M.2.1 190 v.toNatClampNeg = -1) ∨ (M.2.1 (ro_sc v) 1 = -1 ∧ 0 ≤ M.2.1 190 v.toNatClampNeg) ∨
    (0 ≤ M.2.1 (ro_sc v) 1 ∧ M.2.1 (ro_sc v) 1 ≤ 4 ∧ M.2.1 190 v.toNatClampNeg = -2 - M.2.1 (ro_sc v) 1 ∧ M.2.1 191 v.toNatClampNeg = M.2.1 (ro_sc v) 2 ∧ 0 ≤ M.2.1 (ro_sc v) 2 ∧ M.2.1 (ro_sc v) 2 ≤ 60 ∧ ∀ i, i < (M.2.1 (ro_sc v) 2).toNatClampNeg → M.2.2.1 192 (60 * v.toNatClampNeg + i) = M.2.2.1 (ro_sc v + 1) i) := by
  obtain ⟨s1, s2, s3⟩ := ro_sx hv
  have g := h.2.2 _ s2
  unfold iv_sh at g
  rw [← s3, show 24 + 2 * v.toNatClampNeg = ro_sc v + 1 by omega] at g
  rcases g with g | g | g
  · exact Or.inl g
  · exact Or.inr (Or.inl ⟨g.1, g.2.2.1⟩)
  · exact Or.inr (Or.inr g)
theorem pc_37 {M : ro_Mm} (_h : ro_Inv M) {v1 v2 v3 v4 v5 : Int32} : xp_184 M v1 v2 v3 v4 v5 := by
  refine ⟨fun _ => ⟨fun _ => ⟨fun _ => trivial, fun _ => ⟨fun _ => trivial, fun _ => ⟨fun _ => ⟨?_, trivial⟩, fun _ => trivial⟩⟩⟩, fun _ => trivial⟩, fun _ => trivial⟩
  refine ⟨fun _ => trivial, fun q5 => ⟨fun _ => trivial, fun q2 => ⟨fun _ => trivial, fun q4 => ⟨fun _ => trivial, fun _ => ⟨fun _ => ⟨fun _ => trivial, fun q6 => ⟨fun q7 => ⟨?_, trivial⟩, fun _ => trivial⟩⟩, fun _ => trivial⟩⟩⟩⟩⟩
  have k1 := ro_sums (a := v2) (n := v5) (s := 60) (by grind) (by grind) (by decide) (by decide) q6
  have k2 := ro_sums (a := v4) (n := v5) (s := 60) (by grind) (by grind) (by decide) (by decide) (by grind)
  have e6 : (60 : Int32).toNatClampNeg = 60 := by decide
  rw [e6] at k1 k2
  exact ⟨q2, q4, q5, k1.1, k2.1⟩
/-- when it is refused, and how -/
theorem mm_37 {M : ro_Mm} (h : ro_Inv M) {v1 v2 v3 v4 v5 : Int32} :
    (xm_184 M v1 v2 v3 v4 v5 = M ∧ xm_305 M v1 v2 v3 v4 v5 = M ∧ xf_305 M v1 v2 v3 v4 v5 = xf_184 M v1 v2 v3 v4 v5 ∧ xp_305 M v1 v2 v3 v4 v5) ∨
    (ro_bs v1 = true ∧ ro_bs v3 = true ∧ 0 ≤ v2 ∧ 0 ≤ v4 ∧ 0 ≤ v5 ∧ 0 ≤ M.2.1 (ro_sc v1) 1 ∧ 0 ≤ M.2.1 (ro_sc v3) 1 ∧ M.2.1 (ro_sc v1) 1 = M.2.1 (ro_sc v3) 1 ∧
      v2.toNatClampNeg + v5.toNatClampNeg ≤ (M.2.1 (ro_sc v1) 2).toNatClampNeg ∧ v4.toNatClampNeg + v5.toNatClampNeg ≤ (M.2.1 (ro_sc v3) 2).toNatClampNeg ∧ (M.2.1 (ro_sc v1) 2).toNatClampNeg ≤ 60 ∧ (M.2.1 (ro_sc v3) 2).toNatClampNeg ≤ 60 ∧
      xf_184 M v1 v2 v3 v4 v5 = v5 ∧ xm_184 M v1 v2 v3 v4 v5 = ro_cpJ M (ro_sc v1 + 1) v2 (ro_sc v3 + 1) v4 v5 ∧
      ∀ A : ro_Mm, A.2.1 = M.2.1 → xf_305 A v1 v2 v3 v4 v5 = v5 ∧ xp_305 A v1 v2 v3 v4 v5 ∧ xm_305 A v1 v2 v3 v4 v5 = (xg_305_150 lp_N (xg_305_113 lp_N A 0 v1 v2 v3 v4 v5).2 0 v1 v2 v3 v4 v5).2) := by
  by_cases b1 : ro_bs v1 = true
  · by_cases b3 : ro_bs v3 = true
    · obtain ⟨s1, s2, s3⟩ := ro_sx b1
      obtain ⟨r1, r2, r3⟩ := ro_sx b3
      have f1 : xf_198 M v1 = true := by rw [ro_w198]; exact b1
      have f3 : xf_198 M v3 = true := by rw [ro_w198]; exact b3
      have S := sh_of h b1
      have O := sh_of h b3
      by_cases a1 : M.2.1 (ro_sc v1) 1 = -2
      · have hA : M.2.1 190 v1.toNatClampNeg = -1 := by grind
        have w21 : xf_21 M (ro_sc v1) = true := by unfold xf_21; rw [if_pos a1]
        refine Or.inl ⟨?_, ?_, ?_, fun _ => ⟨fun _ => ⟨s1, fun _ => trivial, fun y => absurd hA y⟩, fun _ => trivial⟩, fun _ => trivial⟩
        · unfold xm_184; rw [if_pos b1, if_pos b3, if_pos w21]
        · unfold xm_305; rw [if_pos f1, if_pos f3, if_pos hA]
        · unfold xf_305 xf_184; rw [if_pos f1, if_pos f3, if_pos hA, if_pos b1, if_pos b3, if_pos w21]
      have nA : ¬ M.2.1 190 v1.toNatClampNeg = -1 := by grind
      have w21 : ¬ xf_21 M (ro_sc v1) = true := by unfold xf_21; rw [if_neg a1]; decide
      by_cases a3 : M.2.1 (ro_sc v3) 1 = -2
      · have hB : M.2.1 190 v3.toNatClampNeg = -1 := by grind
        have w23 : xf_21 M (ro_sc v3) = true := by unfold xf_21; rw [if_pos a3]
        refine Or.inl ⟨?_, ?_, ?_, fun _ => ⟨fun _ => ⟨s1, fun _ => trivial, fun _ => ⟨r1, fun _ => trivial, fun y => absurd hB y⟩⟩, fun _ => trivial⟩, fun _ => trivial⟩
        · unfold xm_184; rw [if_pos b1, if_pos b3, if_neg w21, if_pos w23]
        · unfold xm_305; rw [if_pos f1, if_pos f3, if_neg nA, if_pos hB]
        · unfold xf_305 xf_184; rw [if_pos f1, if_pos f3, if_neg nA, if_pos hB, if_pos b1, if_pos b3, if_neg w21, if_pos w23]
      have nB : ¬ M.2.1 190 v3.toNatClampNeg = -1 := by grind
      have w23 : ¬ xf_21 M (ro_sc v3) = true := by unfold xf_21; rw [if_neg a3]; decide
      by_cases a4 : 0 ≤ M.2.1 (ro_sc v1) 1
      case neg =>
        have hC : 0 ≤ M.2.1 190 v1.toNatClampNeg := by grind
        have w185 : ¬ xf_185 M (ro_sc v1) (ro_sc v3) = true := by grind [xf_185, xf_180]
        refine Or.inl ⟨?_, ?_, ?_, fun _ => ⟨fun _ => ⟨s1, fun _ => trivial, fun _ => ⟨r1, fun _ => trivial, fun _ => ⟨s1, fun _ => trivial, fun y => absurd hC y⟩⟩⟩, fun _ => trivial⟩, fun _ => trivial⟩
        · unfold xm_184; rw [if_pos b1, if_pos b3, if_neg w21, if_neg w23, if_neg w185]
        · unfold xm_305; rw [if_pos f1, if_pos f3, if_neg nA, if_neg nB, if_pos hC]
        · unfold xf_305 xf_184; rw [if_pos f1, if_pos f3, if_neg nA, if_neg nB, if_pos hC, if_pos b1, if_pos b3, if_neg w21, if_neg w23, if_neg w185]
      case pos =>
      have S2 : M.2.1 190 v1.toNatClampNeg = -2 - M.2.1 (ro_sc v1) 1 ∧ M.2.1 191 v1.toNatClampNeg = M.2.1 (ro_sc v1) 2 ∧ 0 ≤ M.2.1 (ro_sc v1) 2 ∧ M.2.1 (ro_sc v1) 2 ≤ 60 ∧ M.2.1 (ro_sc v1) 1 ≤ 4 := by
        rcases S with q | q | q
        · exact absurd q.1 a1
        · exact absurd a4 (by rw [q.1]; decide)
        · exact ⟨q.2.2.1, q.2.2.2.1, q.2.2.2.2.1, q.2.2.2.2.2.1, q.2.1⟩
      have nC : ¬ 0 ≤ M.2.1 190 v1.toNatClampNeg := by grind
      by_cases a5 : M.2.1 (ro_sc v1) 1 = M.2.1 (ro_sc v3) 1
      case neg =>
        have nD : ¬ M.2.1 190 v1.toNatClampNeg = M.2.1 190 v3.toNatClampNeg := by
          rcases O with q | q | q
          · exact absurd q.1 a3
          · have := q.2; grind
          · have := q.2.2.1; have := q.1; have := q.2.1; grind
        have w185 : ¬ xf_185 M (ro_sc v1) (ro_sc v3) = true := by grind [xf_185, xf_180]
        refine Or.inl ⟨?_, ?_, ?_, fun _ => ⟨fun _ => ⟨s1, fun _ => trivial, fun _ => ⟨r1, fun _ => trivial, fun _ => ⟨s1, fun _ => trivial, fun _ => ⟨s1, r1, fun y => absurd y nD, fun _ => trivial⟩⟩⟩⟩, fun _ => trivial⟩, fun _ => trivial⟩
        · unfold xm_184; rw [if_pos b1, if_pos b3, if_neg w21, if_neg w23, if_neg w185]
        · unfold xm_305; rw [if_pos f1, if_pos f3, if_neg nA, if_neg nB, if_neg nC, if_neg nD]
        · unfold xf_305 xf_184; rw [if_pos f1, if_pos f3, if_neg nA, if_neg nB, if_neg nC, if_neg nD, if_pos b1, if_pos b3, if_neg w21, if_neg w23, if_neg w185]
      case pos =>
      have O2 : M.2.1 190 v3.toNatClampNeg = -2 - M.2.1 (ro_sc v3) 1 ∧ M.2.1 191 v3.toNatClampNeg = M.2.1 (ro_sc v3) 2 ∧ 0 ≤ M.2.1 (ro_sc v3) 2 ∧ M.2.1 (ro_sc v3) 2 ≤ 60 := by
        rcases O with q | q | q
        · exact absurd q.1 a3
        · exact absurd a4 (by rw [a5, q.1]; decide)
        · exact ⟨q.2.2.1, q.2.2.2.1, q.2.2.2.2.1, q.2.2.2.2.2.1⟩
      have hD : M.2.1 190 v1.toNatClampNeg = M.2.1 190 v3.toNatClampNeg := by rw [S2.1, O2.1, a5]
      have w185 : xf_185 M (ro_sc v1) (ro_sc v3) = true := by grind [xf_185, xf_180]
      by_cases z1 : v5 < 0
      · have x6 : xm_186 M (ro_sc v1) v2 (ro_sc v3) v4 v5 = M ∧ xf_186 M (ro_sc v1) v2 (ro_sc v3) v4 v5 = false := by unfold xm_186 xf_186; rw [if_pos z1, if_pos z1]; exact ⟨rfl, rfl⟩
        refine Or.inl ⟨?_, ?_, ?_, fun _ => ⟨fun _ => ⟨s1, fun _ => trivial, fun _ => ⟨r1, fun _ => trivial, fun _ => ⟨s1, fun _ => trivial, fun _ => ⟨s1, r1, fun _ => ⟨fun _ => trivial, fun y => absurd z1 y⟩, fun _ => trivial⟩⟩⟩⟩, fun _ => trivial⟩, fun _ => trivial⟩
        · unfold xm_184; rw [if_pos b1, if_pos b3, if_neg w21, if_neg w23, if_pos w185, x6.1]
        · unfold xm_305; rw [if_pos f1, if_pos f3, if_neg nA, if_neg nB, if_neg nC, if_pos hD, if_pos z1]
        · unfold xf_305 xf_184; rw [if_pos f1, if_pos f3, if_neg nA, if_neg nB, if_neg nC, if_pos hD, if_pos z1, if_pos b1, if_pos b3, if_neg w21, if_neg w23, if_pos w185, x6.2, if_neg (by decide)]
      by_cases z2 : v2 < 0
      · have x6 : xm_186 M (ro_sc v1) v2 (ro_sc v3) v4 v5 = M ∧ xf_186 M (ro_sc v1) v2 (ro_sc v3) v4 v5 = false := by unfold xm_186 xf_186; rw [if_neg z1, if_pos z2, if_neg z1, if_pos z2]; exact ⟨rfl, rfl⟩
        refine Or.inl ⟨?_, ?_, ?_, fun _ => ⟨fun _ => ⟨s1, fun _ => trivial, fun _ => ⟨r1, fun _ => trivial, fun _ => ⟨s1, fun _ => trivial, fun _ => ⟨s1, r1, fun _ => ⟨fun _ => trivial, fun _ => ⟨fun _ => trivial, fun y => absurd z2 y⟩⟩, fun _ => trivial⟩⟩⟩⟩, fun _ => trivial⟩, fun _ => trivial⟩
        · unfold xm_184; rw [if_pos b1, if_pos b3, if_neg w21, if_neg w23, if_pos w185, x6.1]
        · unfold xm_305; rw [if_pos f1, if_pos f3, if_neg nA, if_neg nB, if_neg nC, if_pos hD, if_neg z1, if_pos z2]
        · unfold xf_305 xf_184; rw [if_pos f1, if_pos f3, if_neg nA, if_neg nB, if_neg nC, if_pos hD, if_neg z1, if_pos z2, if_pos b1, if_pos b3, if_neg w21, if_neg w23, if_pos w185, x6.2, if_neg (by decide)]
      by_cases z3 : v4 < 0
      · have x6 : xm_186 M (ro_sc v1) v2 (ro_sc v3) v4 v5 = M ∧ xf_186 M (ro_sc v1) v2 (ro_sc v3) v4 v5 = false := by unfold xm_186 xf_186; rw [if_neg z1, if_neg z2, if_pos z3, if_neg z1, if_neg z2, if_pos z3]; exact ⟨rfl, rfl⟩
        refine Or.inl ⟨?_, ?_, ?_, fun _ => ⟨fun _ => ⟨s1, fun _ => trivial, fun _ => ⟨r1, fun _ => trivial, fun _ => ⟨s1, fun _ => trivial, fun _ => ⟨s1, r1, fun _ => ⟨fun _ => trivial, fun _ => ⟨fun _ => trivial, fun _ => ⟨fun _ => trivial, fun y => absurd z3 y⟩⟩⟩, fun _ => trivial⟩⟩⟩⟩, fun _ => trivial⟩, fun _ => trivial⟩
        · unfold xm_184; rw [if_pos b1, if_pos b3, if_neg w21, if_neg w23, if_pos w185, x6.1]
        · unfold xm_305; rw [if_pos f1, if_pos f3, if_neg nA, if_neg nB, if_neg nC, if_pos hD, if_neg z1, if_neg z2, if_pos z3]
        · unfold xf_305 xf_184; rw [if_pos f1, if_pos f3, if_neg nA, if_neg nB, if_neg nC, if_pos hD, if_neg z1, if_neg z2, if_pos z3, if_pos b1, if_pos b3, if_neg w21, if_neg w23, if_pos w185, x6.2, if_neg (by decide)]
      by_cases z4 : M.2.1 191 v1.toNatClampNeg - v5 < v2
      · have x6 : xm_186 M (ro_sc v1) v2 (ro_sc v3) v4 v5 = M ∧ xf_186 M (ro_sc v1) v2 (ro_sc v3) v4 v5 = false := by unfold xm_186 xf_186; rw [if_neg z1, if_neg z2, if_neg z3, if_pos (by rw [← S2.2.1]; exact z4), if_neg z1, if_neg z2, if_neg z3, if_pos (by rw [← S2.2.1]; exact z4)]; exact ⟨rfl, rfl⟩
        refine Or.inl ⟨?_, ?_, ?_, fun _ => ⟨fun _ => ⟨s1, fun _ => trivial, fun _ => ⟨r1, fun _ => trivial, fun _ => ⟨s1, fun _ => trivial, fun _ => ⟨s1, r1, fun _ => ⟨fun _ => trivial, fun _ => ⟨fun _ => trivial, fun _ => ⟨fun _ => trivial, fun _ => ⟨s1, fun _ => trivial, fun y => absurd z4 y⟩⟩⟩⟩, fun _ => trivial⟩⟩⟩⟩, fun _ => trivial⟩, fun _ => trivial⟩
        · unfold xm_184; rw [if_pos b1, if_pos b3, if_neg w21, if_neg w23, if_pos w185, x6.1]
        · unfold xm_305; rw [if_pos f1, if_pos f3, if_neg nA, if_neg nB, if_neg nC, if_pos hD, if_neg z1, if_neg z2, if_neg z3, if_pos z4]
        · unfold xf_305 xf_184; rw [if_pos f1, if_pos f3, if_neg nA, if_neg nB, if_neg nC, if_pos hD, if_neg z1, if_neg z2, if_neg z3, if_pos z4, if_pos b1, if_pos b3, if_neg w21, if_neg w23, if_pos w185, x6.2, if_neg (by decide)]
      by_cases z5 : ¬ v4 ≤ M.2.1 191 v3.toNatClampNeg - v5
      · have x6 : xm_186 M (ro_sc v1) v2 (ro_sc v3) v4 v5 = M ∧ xf_186 M (ro_sc v1) v2 (ro_sc v3) v4 v5 = false := by unfold xm_186 xf_186; rw [if_neg z1, if_neg z2, if_neg z3, if_neg (by rw [← S2.2.1]; exact z4), if_neg (by rw [← O2.2.1]; exact z5), if_neg z1, if_neg z2, if_neg z3, if_neg (by rw [← S2.2.1]; exact z4), if_neg (by rw [← O2.2.1]; exact z5)]; exact ⟨rfl, rfl⟩
        refine Or.inl ⟨?_, ?_, ?_, fun _ => ⟨fun _ => ⟨s1, fun _ => trivial, fun _ => ⟨r1, fun _ => trivial, fun _ => ⟨s1, fun _ => trivial, fun _ => ⟨s1, r1, fun _ => ⟨fun _ => trivial, fun _ => ⟨fun _ => trivial, fun _ => ⟨fun _ => trivial, fun _ => ⟨s1, fun _ => trivial, fun _ => ⟨r1, fun y => absurd y z5, fun _ => trivial⟩⟩⟩⟩⟩, fun _ => trivial⟩⟩⟩⟩, fun _ => trivial⟩, fun _ => trivial⟩
        · unfold xm_184; rw [if_pos b1, if_pos b3, if_neg w21, if_neg w23, if_pos w185, x6.1]
        · unfold xm_305; rw [if_pos f1, if_pos f3, if_neg nA, if_neg nB, if_neg nC, if_pos hD, if_neg z1, if_neg z2, if_neg z3, if_neg z4, if_neg z5]
        · unfold xf_305 xf_184; rw [if_pos f1, if_pos f3, if_neg nA, if_neg nB, if_neg nC, if_pos hD, if_neg z1, if_neg z2, if_neg z3, if_neg z4, if_neg z5, if_pos b1, if_pos b3, if_neg w21, if_neg w23, if_pos w185, x6.2, if_neg (by decide)]
      have z6 : v4 ≤ M.2.1 191 v3.toNatClampNeg - v5 := Classical.not_not.mp z5
      have y4 : ¬ M.2.1 (ro_sc v1) 2 - v5 < v2 := by rw [← S2.2.1]; exact z4
      have y6 : v4 ≤ M.2.1 (ro_sc v3) 2 - v5 := by rw [← O2.2.1]; exact z6
      have p2 : 0 ≤ v2 := by grind
      have p4 : 0 ≤ v4 := by grind
      have p5 : 0 ≤ v5 := by grind
      have k1 := ro_sums p2 p5 S2.2.2.1 S2.2.2.2.1 y4
      have k2 := ro_sums p4 p5 O2.2.2.1 O2.2.2.2 (by grind)
      have y7 : ¬ 60 - v5 < v2 := by grind
      have y8 : v4 ≤ 60 - v5 := by grind
      have x6 : xm_186 M (ro_sc v1) v2 (ro_sc v3) v4 v5 = ro_cpJ M (ro_sc v1 + 1) v2 (ro_sc v3 + 1) v4 v5 ∧ xf_186 M (ro_sc v1) v2 (ro_sc v3) v4 v5 = true := by
        unfold xm_186 xf_186
        rw [if_neg z1, if_neg z2, if_neg z3, if_neg y4, if_pos y6, if_neg y7, if_pos y8, if_neg z1, if_neg z2, if_neg z3, if_neg y4, if_pos y6, if_neg y7, if_pos y8]
        exact ⟨rfl, rfl⟩
      refine Or.inr ⟨b1, b3, p2, p4, p5, a4, by rw [← a5]; exact a4, a5, k1.1, k2.1, k1.2.2.2, k2.2.2.2, ?_, ?_, fun A hAM => ?_⟩
      · unfold xf_184; rw [if_pos b1, if_pos b3, if_neg w21, if_neg w23, if_pos w185, x6.2, if_pos rfl]
      · unfold xm_184; rw [if_pos b1, if_pos b3, if_neg w21, if_neg w23, if_pos w185, x6.1]
      · have c1 : xf_198 A v1 = true := by rw [ro_w198]; exact b1
        have c3 : xf_198 A v3 = true := by rw [ro_w198]; exact b3
        have G := x305 (M := A) (i := v1.toNatClampNeg) (a := v2.toNatClampNeg) (m := v5.toNatClampNeg) (o := v3.toNatClampNeg) (b := v4.toNatClampNeg) s2 r2 k1.2.2.1 (by omega) (by omega)
        rw [← ro_nI_of (ro_bs_t b1).1, ← ro_nI_of p2, ← ro_nI_of (ro_bs_t b3).1, ← ro_nI_of p4, ← ro_nI_of p5] at G
        obtain ⟨g1, g2, g3⟩ := G
        refine ⟨?_, ?_, ?_⟩
        · unfold xf_305
          rw [hAM, if_pos c1, if_pos c3, if_neg nA, if_neg nB, if_neg nC, if_pos hD, if_neg z1, if_neg z2, if_neg z3, if_neg z4, if_pos z6]
        · unfold xp_305
          rw [hAM]
          exact ⟨fun _ => ⟨fun _ => ⟨s1, fun _ => trivial, fun _ => ⟨r1, fun _ => trivial, fun _ => ⟨s1, fun _ => trivial, fun _ => ⟨s1, r1, fun _ => ⟨fun _ => trivial, fun _ => ⟨fun _ => trivial, fun _ => ⟨fun _ => trivial, fun _ => ⟨s1, fun _ => trivial, fun _ => ⟨r1, fun _ => ⟨g2, g3, trivial⟩, fun _ => trivial⟩⟩⟩⟩⟩, fun _ => trivial⟩⟩⟩⟩, fun _ => trivial⟩, fun _ => trivial⟩
        · unfold xm_305
          rw [hAM, if_pos c1, if_pos c3, if_neg nA, if_neg nB, if_neg nC, if_pos hD, if_neg z1, if_neg z2, if_neg z3, if_neg z4, if_pos z6]
    · have f1 : xf_198 M v1 = true := by rw [ro_w198]; exact b1
      have f3 : ¬ xf_198 M v3 = true := by rw [ro_w198]; exact b3
      refine Or.inl ⟨?_, ?_, ?_, fun _ => ⟨fun y => absurd y f3, fun _ => trivial⟩, fun _ => trivial⟩
      · unfold xm_184; rw [if_pos b1, if_neg b3]
      · unfold xm_305; rw [if_pos f1, if_neg f3]
      · unfold xf_305 xf_184; rw [if_pos f1, if_neg f3, if_pos b1, if_neg b3]
  · have f1 : ¬ xf_198 M v1 = true := by rw [ro_w198]; exact b1
    refine Or.inl ⟨?_, ?_, ?_, fun y => absurd y f1, fun _ => trivial⟩
    · unfold xm_184; rw [if_neg b1]
    · unfold xm_305; rw [if_neg f1]
    · unfold xf_305 xf_184; rw [if_neg f1, if_neg b1]
theorem pp_37 {M : ro_Mm} (h : ro_Inv M) {v1 v2 v3 v4 v5 : Int32} : xp_305 (xm_184 M v1 v2 v3 v4 v5) v1 v2 v3 v4 v5 := by
  rcases mm_37 h (v1 := v1) (v2 := v2) (v3 := v3) (v4 := v4) (v5 := v5) with ⟨e1, e2, e3, e4⟩ | ⟨b1, b3, p2, p4, p5, a4, a6, a5, k1, k2, k3, k4, f1, f2, f3⟩
  · rw [e1]; exact e4
  · rw [f2]; exact (f3 (ro_cpJ M (ro_sc v1 + 1) v2 (ro_sc v3 + 1) v4 v5) rfl).2.1
theorem pe_37 {M : ro_Mm} (h : ro_Inv M) {v1 v2 v3 v4 v5 : Int32} : xf_305 (xm_184 M v1 v2 v3 v4 v5) v1 v2 v3 v4 v5 = xf_184 M v1 v2 v3 v4 v5 := by
  rcases mm_37 h (v1 := v1) (v2 := v2) (v3 := v3) (v4 := v4) (v5 := v5) with ⟨e1, e2, e3, e4⟩ | ⟨b1, b3, p2, p4, p5, a4, a6, a5, k1, k2, k3, k4, f1, f2, f3⟩
  · rw [e1]; exact e3
  · rw [f2, f1]; exact (f3 (ro_cpJ M (ro_sc v1 + 1) v2 (ro_sc v3 + 1) v4 v5) rfl).1
theorem pi_37 {M : ro_Mm} (h : ro_Inv M) {v1 v2 v3 v4 v5 : Int32} : ro_Inv (xm_305 (xm_184 M v1 v2 v3 v4 v5) v1 v2 v3 v4 v5) := by
  rcases mm_37 h (v1 := v1) (v2 := v2) (v3 := v3) (v4 := v4) (v5 := v5) with ⟨e1, e2, e3, e4⟩ | ⟨b1, b3, p2, p4, p5, a4, a6, a5, k1, k2, k3, k4, f1, f2, f3⟩
  · rw [e1, e2]; exact h
  · have hl := xl_305 (xl_184 h.1 (pc_37 h (v1 := v1) (v2 := v2) (v3 := v3) (v4 := v4) (v5 := v5))) (pp_37 h)
    obtain ⟨s1, s2, s3⟩ := ro_sx b1
    obtain ⟨r1, r2, r3⟩ := ro_sx b3
    have G := (x305 (M := ro_cpJ M (ro_sc v1 + 1) v2 (ro_sc v3 + 1) v4 v5) (i := v1.toNatClampNeg) (a := v2.toNatClampNeg) (m := v5.toNatClampNeg) (o := v3.toNatClampNeg) (b := v4.toNatClampNeg) s2 r2 (by omega) (by omega) (by omega)).1
    rw [← ro_nI_of (ro_bs_t b1).1, ← ro_nI_of p2, ← ro_nI_of (ro_bs_t b3).1, ← ro_nI_of p4, ← ro_nI_of p5, ← (f3 (ro_cpJ M (ro_sc v1 + 1) v2 (ro_sc v3 + 1) v4 v5) rfl).2.2] at G
    rw [f2] at hl ⊢
    rw [G] at hl ⊢
    have n192 : 192 ≠ ro_sc v3 + 1 := by omega
    have c192 : ∀ y, (ro_cpJ M (ro_sc v1 + 1) v2 (ro_sc v3 + 1) v4 v5).2.2.1 192 y = M.2.2.1 192 y := fun y => xwJ_cpJ n192
    have cin : ∀ x y, x ≠ 193 → ro_ct (ro_cpJ M (ro_sc v1 + 1) v2 (ro_sc v3 + 1) v4 v5).2.2.1 193 0 192 (60 * v1.toNatClampNeg + v2.toNatClampNeg) 0 v5.toNatClampNeg x y = (ro_cpJ M (ro_sc v1 + 1) v2 (ro_sc v3 + 1) v4 v5).2.2.1 x y := by
      intro x y hx
      unfold ro_ct
      rw [if_neg (fun q => hx q.1)]
    have cout : ∀ x y, ¬ (x = 192 ∧ 60 * v3.toNatClampNeg + v4.toNatClampNeg ≤ y ∧ y < 60 * v3.toNatClampNeg + v4.toNatClampNeg + v5.toNatClampNeg) → x ≠ 193 → ro_ct (ro_ct (ro_cpJ M (ro_sc v1 + 1) v2 (ro_sc v3 + 1) v4 v5).2.2.1 193 0 192 (60 * v1.toNatClampNeg + v2.toNatClampNeg) 0 v5.toNatClampNeg) 192 (60 * v3.toNatClampNeg + v4.toNatClampNeg) 193 0 0 v5.toNatClampNeg x y = (ro_cpJ M (ro_sc v1 + 1) v2 (ro_sc v3 + 1) v4 v5).2.2.1 x y := by
      intro x y hq hx
      rw [← cin x y hx]
      conv => lhs; unfold ro_ct
      rw [if_neg (fun q => hq ⟨q.1, by have := q.2; omega⟩)]
      rfl
    refine ⟨hl, h.2.1, iv_s_one (i := v3.toNatClampNeg) h.2.2 ?_ ?_⟩
    · intro s hs hne
      refine ⟨fun j => rfl, rfl, rfl, rfl, fun k hk => ⟨?_, ?_⟩⟩
      · show ro_ct (ro_ct (ro_cpJ M (ro_sc v1 + 1) v2 (ro_sc v3 + 1) v4 v5).2.2.1 193 0 192 (60 * v1.toNatClampNeg + v2.toNatClampNeg) 0 v5.toNatClampNeg) 192 (60 * v3.toNatClampNeg + v4.toNatClampNeg) 193 0 0 v5.toNatClampNeg 192 (60 * s + k) = _
        rw [cout _ _ (by omega) (by decide), c192]
      · show ro_ct (ro_ct (ro_cpJ M (ro_sc v1 + 1) v2 (ro_sc v3 + 1) v4 v5).2.2.1 193 0 192 (60 * v1.toNatClampNeg + v2.toNatClampNeg) 0 v5.toNatClampNeg) 192 (60 * v3.toNatClampNeg + v4.toNatClampNeg) 193 0 0 v5.toNatClampNeg (24 + 2 * s) k = _
        rw [cout _ _ (by omega) (by omega)]
        exact xwJ_cpJ (by omega)
    · have S := sh_of h b1
      have O := h.2.2 _ r2
      unfold iv_sh at O ⊢
      rw [← r3] at O
      rcases O with q | q | q
      · exact absurd a6 (by rw [q.1]; decide)
      · exact absurd a6 (by rw [q.1]; decide)
      · obtain ⟨q1, q2, q3, q4, q5, q6, q7⟩ := q
        rw [← r3]
        refine Or.inr (Or.inr ⟨q1, q2, q3, q4, q5, q6, fun k hk => ?_⟩)
        have hk : k < (M.2.1 (ro_sc v3) 2).toNatClampNeg := hk
        have S7 : ∀ y, y < (M.2.1 (ro_sc v1) 2).toNatClampNeg → M.2.2.1 192 (60 * v1.toNatClampNeg + y) = M.2.2.1 (ro_sc v1 + 1) y := by
          rcases S with w | w | w
          · exact absurd a4 (by rw [w.1]; decide)
          · exact absurd a4 (by rw [w.1]; decide)
          · exact w.2.2.2.2.2.2
        show ro_ct (ro_ct (ro_cpJ M (ro_sc v1 + 1) v2 (ro_sc v3 + 1) v4 v5).2.2.1 193 0 192 (60 * v1.toNatClampNeg + v2.toNatClampNeg) 0 v5.toNatClampNeg) 192 (60 * v3.toNatClampNeg + v4.toNatClampNeg) 193 0 0 v5.toNatClampNeg 192 (60 * v3.toNatClampNeg + k) = ro_ct (ro_ct (ro_cpJ M (ro_sc v1 + 1) v2 (ro_sc v3 + 1) v4 v5).2.2.1 193 0 192 (60 * v1.toNatClampNeg + v2.toNatClampNeg) 0 v5.toNatClampNeg) 192 (60 * v3.toNatClampNeg + v4.toNatClampNeg) 193 0 0 v5.toNatClampNeg (24 + 2 * v3.toNatClampNeg) k
        rw [cout (24 + 2 * v3.toNatClampNeg) k (by omega) (by omega)]
        have e24 : 24 + 2 * v3.toNatClampNeg = ro_sc v3 + 1 := by omega
        have eC : (ro_cpJ M (ro_sc v1 + 1) v2 (ro_sc v3 + 1) v4 v5).2.2.1 (ro_sc v3 + 1) k = va_cpy (M.2.2.1 (ro_sc v1 + 1)) (M.2.2.1 (ro_sc v3 + 1)) v2.toNatClampNeg v4.toNatClampNeg v5.toNatClampNeg k := by
          show ro_row M.2.2.1 (ro_sc v3 + 1) _ (ro_sc v3 + 1) k = _
          unfold ro_row
          rw [if_pos rfl]
        rw [e24, eC]
        unfold va_cpy
        by_cases z : v4.toNatClampNeg ≤ k ∧ k < v4.toNatClampNeg + v5.toNatClampNeg
        · have z1 : 192 = 192 ∧ 60 * v3.toNatClampNeg + v4.toNatClampNeg + 0 ≤ 60 * v3.toNatClampNeg + k ∧ 60 * v3.toNatClampNeg + k < 60 * v3.toNatClampNeg + v4.toNatClampNeg + v5.toNatClampNeg := by omega
          have z2 : 193 = 193 ∧ 0 + 0 ≤ 0 + (60 * v3.toNatClampNeg + k - (60 * v3.toNatClampNeg + v4.toNatClampNeg)) ∧ 0 + (60 * v3.toNatClampNeg + k - (60 * v3.toNatClampNeg + v4.toNatClampNeg)) < 0 + v5.toNatClampNeg := by omega
          unfold ro_ct
          rw [if_pos z, if_pos z1, if_pos z2, c192, show 60 * v1.toNatClampNeg + v2.toNatClampNeg + (0 + (60 * v3.toNatClampNeg + k - (60 * v3.toNatClampNeg + v4.toNatClampNeg)) - 0) = 60 * v1.toNatClampNeg + (v2.toNatClampNeg + (k - v4.toNatClampNeg)) by omega]
          exact S7 _ (by omega)
        · rw [if_neg z, cout _ _ (by omega) (by decide), c192, q7 k hk, e24]
end PAIRS8

