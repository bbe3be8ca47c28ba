/-! doubles out of fractions: how near they are -/
theorem ar1 {D a b U W : Nat} (hU : 0 < U) (h : D * (b * U) ≤ a * U * U + W * (b * U)) : D * b ≤ a * U + W * b := by
  have e1 : D * (b * U) = (D * b) * U := (Nat.mul_assoc _ _ _).symm
  have e2 : a * U * U + W * (b * U) = (a * U + W * b) * U := by rw [Nat.add_mul, Nat.mul_assoc W b U]
  rw [e1, e2] at h
  exact Nat.le_of_mul_le_mul_right h hU
theorem ar2 {D a b U W : Nat} (hU : 0 < U) (h : a * U * U ≤ D * (b * U) + W * (b * U)) : a * U ≤ D * b + W * b := by
  have e2 : D * (b * U) + W * (b * U) = (D * b + W * b) * U := by rw [Nat.add_mul, Nat.mul_assoc W b U, Nat.mul_assoc D b U]
  rw [e2] at h
  exact Nat.le_of_mul_le_mul_right h hU
theorem ar3 {D a b U W g : Nat} (h : D * b ≤ a * U + W * b) : D * (b * g) ≤ (a * g) * U + W * (b * g) := by
  have := Nat.mul_le_mul_right g h
  rw [Nat.add_mul, Nat.mul_assoc D, Nat.mul_assoc W, Nat.mul_right_comm] at this
  exact this
theorem ar4 {D a b U W g : Nat} (h : a * U ≤ D * b + W * b) : (a * g) * U ≤ D * (b * g) + W * (b * g) := by
  have := Nat.mul_le_mul_right g h
  rw [Nat.add_mul, Nat.mul_assoc D, Nat.mul_assoc W, Nat.mul_right_comm] at this
  exact this
/-- a quotient of two that are each a little off: above -/
theorem ar5 {D A B a b U W E : Nat} (hU : 0 < U) (hE : 3 ≤ E) (h : D * B ≤ A * U + W * B) (hA : E * A ≤ E * (a * U) + a * U) (hB : E * (b * U) ≤ E * B + b * U) (hab : a ≤ b) (hUW : 2 * U ≤ 3 * W * (E - 1)) : D * b ≤ a * U + 4 * W * b := by
  obtain ⟨F, rfl⟩ : ∃ F, E = F + 1 := ⟨E - 1, by omega⟩
  rw [Nat.add_sub_cancel] at hUW
  by_cases hD : D ≤ W
  · have := Nat.mul_le_mul_right b hD
    have : W * b ≤ 4 * W * b := by rw [Nat.mul_assoc]; omega
    omega
  · obtain ⟨G, rfl⟩ : ∃ G, D = W + G := ⟨D - W, by omega⟩
    -- G * B ≤ A * U
    have h1 : G * B ≤ A * U := by rw [Nat.add_mul] at h; omega
    have h2 : F * (b * U) ≤ (F + 1) * B := by rw [Nat.add_mul, Nat.one_mul] at hB; omega
    have h3 : G * (F * (b * U)) ≤ (F + 1) * (A * U) := by
      have := Nat.mul_le_mul_left G h2
      have h4 := Nat.mul_le_mul_left (F + 1) h1
      have e : (F + 1) * (G * B) = G * ((F + 1) * B) := by ac_rfl
      omega
    have h5 : G * (F * (b * U)) ≤ ((F + 1) * (a * U) + a * U) * U := by
      have := Nat.mul_le_mul_right U hA
      have e : (F + 1) * A * U = (F + 1) * (A * U) := Nat.mul_assoc _ _ _
      omega
    have h6 : G * F * b ≤ (F + 2) * (a * U) := by
      have e1 : G * (F * (b * U)) = G * F * b * U := by ac_rfl
      have e2 : (F + 1) * (a * U) + a * U = (F + 2) * (a * U) := by rw [Nat.add_mul, Nat.add_mul]; omega
      rw [e1, e2] at h5
      exact Nat.le_of_mul_le_mul_right h5 hU
    have h7 : 2 * (a * U) ≤ 3 * W * F * b := by
      have k1 := Nat.mul_le_mul_right b hUW
      have k2 := Nat.mul_le_mul_right U hab
      have e : 2 * U * b = 2 * (b * U) := by rw [Nat.mul_assoc, Nat.mul_comm U b]
      omega
    have h8 : F * (G * b) ≤ F * (a * U + 3 * W * b) := by
      have e1 : G * F * b = F * (G * b) := by ac_rfl
      have e2 : 3 * W * F * b = F * (3 * W * b) := by ac_rfl
      rw [Nat.add_mul] at h6
      rw [Nat.mul_add]
      omega
    have h9 := Nat.le_of_mul_le_mul_left h8 (by omega)
    rw [Nat.add_mul]
    have e : 4 * W * b = W * b + 3 * W * b := by rw [← Nat.add_mul]; congr 1; omega
    omega
theorem ar6 {D A B a b U W E : Nat} (hU : 0 < U) (hE : 3 ≤ E) (h : A * U ≤ D * B + W * B) (hA : E * (a * U) ≤ E * A + a * U) (hB : E * B ≤ E * (b * U) + b * U) (hD : D ≤ U + 4 * W) (hUW : 2 * (U + 5 * W) ≤ 3 * W * (E - 1)) : a * U ≤ D * b + 4 * W * b := by
  obtain ⟨F, rfl⟩ : ∃ F, E = F + 1 := ⟨E - 1, by omega⟩
  rw [Nat.add_sub_cancel] at hUW
  have h1 : A * U ≤ (D + W) * B := by rw [Nat.add_mul]; exact h
  have h2 : F * (a * U) ≤ (F + 1) * A := by rw [Nat.add_mul, Nat.one_mul] at hA; omega
  have h3 : F * (a * U) * U ≤ (D + W) * ((F + 1) * (b * U) + b * U) := by
    have k1 := Nat.mul_le_mul_right U h2
    have k2 := Nat.mul_le_mul_left (F + 1) h1
    have k3 := Nat.mul_le_mul_left (D + W) hB
    have e1 : (F + 1) * A * U = (F + 1) * (A * U) := Nat.mul_assoc _ _ _
    have e2 : (F + 1) * ((D + W) * B) = (D + W) * ((F + 1) * B) := by ac_rfl
    omega
  have h4 : F * (a * U) ≤ (F + 2) * ((D + W) * b) := by
    have e1 : (F + 1) * (b * U) + b * U = (F + 2) * (b * U) := by rw [Nat.add_mul, Nat.add_mul]; omega
    have e2 : (D + W) * ((F + 2) * (b * U)) = (F + 2) * ((D + W) * b) * U := by ac_rfl
    rw [e1, e2] at h3
    exact Nat.le_of_mul_le_mul_right h3 hU
  have h5 : 2 * ((D + W) * b) ≤ F * (3 * W * b) := by
    have k1 : 2 * (D + W) ≤ 3 * W * F := by omega
    have k2 := Nat.mul_le_mul_right b k1
    have e1 : 2 * (D + W) * b = 2 * ((D + W) * b) := Nat.mul_assoc _ _ _
    have e2 : 3 * W * F * b = F * (3 * W * b) := by ac_rfl
    omega
  have h6 : F * (a * U) ≤ F * ((D + W) * b + 3 * W * b) := by
    rw [Nat.add_mul] at h4
    rw [Nat.mul_add]
    omega
  have h7 := Nat.le_of_mul_le_mul_left h6 (by omega)
  have e : 4 * W * b = W * b + 3 * W * b := by rw [← Nat.add_mul]; congr 1; omega
  rw [Nat.add_mul] at h7
  omega
/-- one fraction no more than another: what is kept of both -/
theorem ar7 {z y a b c d U W K : Nat} (hb : 0 < b) (hd : 0 < d) (h1 : z * b ≤ a * U + K * W * b) (h2 : c * U ≤ y * d + K * W * d) (h : a * d ≤ c * b) : z ≤ y + 2 * K * W := by
  have k1 := Nat.mul_le_mul_right d h1
  have k2 := Nat.mul_le_mul_right b h2
  have k3 := Nat.mul_le_mul_right U h
  have e1 : z * b * d = z * (b * d) := Nat.mul_assoc _ _ _
  have e2 : (a * U + K * W * b) * d = a * d * U + K * W * (b * d) := by rw [Nat.add_mul]; congr 1 <;> ac_rfl
  have e3 : c * U * b = c * b * U := Nat.mul_right_comm _ _ _
  have e4 : (y * d + K * W * d) * b = y * (b * d) + K * W * (b * d) := by rw [Nat.add_mul]; congr 1 <;> ac_rfl
  have e5 : (y + 2 * K * W) * (b * d) = y * (b * d) + (K * W * (b * d) + K * W * (b * d)) := by
    rw [Nat.add_mul, ← Nat.add_mul (K * W)]
    congr 2
    rw [Nat.mul_assoc]; omega
  rw [e1, e2] at k1
  rw [e3, e4] at k2
  have : z * (b * d) ≤ (y + 2 * K * W) * (b * d) := by rw [e5]; omega
  exact Nat.le_of_mul_le_mul_right this (Nat.mul_pos hb hd)

theorem lN_t {x : Nat} (h : x < 2 ^ 63) : (lN x).toInt = (x : Int) := lN_int h
/-- a fraction told as two numbers, divided -/
def fq (a b : Nat) : UInt64 := FP.ddiv (FP.l2d (lo_f a b 0)) (FP.l2d (lo_f a b 1))
theorem fq_l {x : Nat} (h : x ≤ 2 ^ 53) : fp_P (FP.l2d (lN x)) ∧ fp_Z (FP.l2d (lN x)) = x * fp_U := by
  have e := lN_t (x := x) (by omega)
  obtain ⟨h1, h2⟩ := fp_l2d (x := lN x) (by omega) (by omega)
  rw [e] at h2
  exact ⟨h1, h2⟩
theorem fq_g {a b : Nat} (hb : 0 < b) : 0 < Nat.gcd a b ∧ a / Nat.gcd a b * Nat.gcd a b = a ∧ b / Nat.gcd a b * Nat.gcd a b = b ∧ 0 < b / Nat.gcd a b ∧ a / Nat.gcd a b ≤ a ∧ b / Nat.gcd a b ≤ b := by
  have gp : 0 < Nat.gcd a b := Nat.gcd_pos_of_pos_right a hb
  have eb : b / Nat.gcd a b * Nat.gcd a b = b := Nat.div_mul_cancel (Nat.gcd_dvd_right a b)
  refine ⟨gp, Nat.div_mul_cancel (Nat.gcd_dvd_left a b), eb, ?_, Nat.div_le_self _ _, Nat.div_le_self _ _⟩
  refine Nat.pos_of_ne_zero (fun q => ?_)
  rw [q, Nat.zero_mul] at eb
  omega
theorem fq_x {a b : Nat} (hb : 0 < b) (hb2 : b ≤ 2 ^ 50) (ha : a ≤ 8 * b) : fp_P (fq a b) ∧ fp_Z (fq a b) * b ≤ a * fp_U + fp_W * b ∧ a * fp_U ≤ fp_Z (fq a b) * b + fp_W * b := by
  obtain ⟨gp, ea, eb, b0, la, lb⟩ := fq_g (a := a) hb
  have e0 : lo_f a b 0 = lN (a / Nat.gcd a b) := if_pos rfl
  have e1 : lo_f a b 1 = lN (b / Nat.gcd a b) := if_neg (by decide)
  unfold fq
  rw [e0, e1]
  obtain ⟨p1, z1⟩ := fq_l (x := a / Nat.gcd a b) (by omega)
  obtain ⟨p2, z2⟩ := fq_l (x := b / Nat.gcd a b) (by omega)
  have h8 : a / Nat.gcd a b ≤ 8 * (b / Nat.gcd a b) := by
    have : a / Nat.gcd a b * Nat.gcd a b ≤ 8 * (b / Nat.gcd a b) * Nat.gcd a b := by rw [ea, Nat.mul_assoc, eb]; exact ha
    exact Nat.le_of_mul_le_mul_right this gp
  generalize Nat.gcd a b = g at *
  generalize a / g = a2 at *
  generalize b / g = b2 at *
  subst ea eb
  obtain ⟨d1, d2, d3⟩ := fp_div p1 p2 (by rw [z2]; exact Nat.mul_pos b0 fp_U0) (by
    rw [z1, z2]
    have := Nat.mul_le_mul_right fp_U h8
    have k : 0 < b2 * fp_U := Nat.mul_pos b0 fp_U0
    have e : 8 * b2 * fp_U = 8 * (b2 * fp_U) := Nat.mul_assoc _ _ _
    omega)
  rw [z1, z2] at d2 d3
  exact ⟨d1, ar3 (ar1 fp_U0 d2), ar4 (ar2 fp_U0 d3)⟩
theorem fq_1 {a b : Nat} (hb : 0 < b) (hb2 : b ≤ 2 ^ 50) (ha : a ≤ b) : fp_Z (fq a b) ≤ fp_U := by
  obtain ⟨gp, ea, eb, b0, la, lb⟩ := fq_g (a := a) hb
  have e0 : lo_f a b 0 = lN (a / Nat.gcd a b) := if_pos rfl
  have e1 : lo_f a b 1 = lN (b / Nat.gcd a b) := if_neg (by decide)
  unfold fq
  rw [e0, e1]
  obtain ⟨p1, z1⟩ := fq_l (x := a / Nat.gcd a b) (by omega)
  obtain ⟨p2, z2⟩ := fq_l (x := b / Nat.gcd a b) (by omega)
  have h8 : a / Nat.gcd a b ≤ b / Nat.gcd a b := Nat.div_le_div_right ha
  have := fp_div_le p1 p2 (by rw [z2]; exact Nat.mul_pos b0 fp_U0) fp_1.1 (by
    rw [z1, z2, fp_1.2, Nat.mul_comm fp_U]
    exact Nat.mul_le_mul_right _ (Nat.mul_le_mul_right _ h8))
  rw [fp_1.2] at this
  exact this
theorem fq_0 {b : Nat} (hb : 0 < b) (hb2 : b ≤ 2 ^ 50) : fp_Z (fq 0 b) = 0 := by
  obtain ⟨gp, ea, eb, b0, la, lb⟩ := fq_g (a := 0) hb
  have e0 : lo_f 0 b 0 = lN (0 / Nat.gcd 0 b) := if_pos rfl
  have e1 : lo_f 0 b 1 = lN (b / Nat.gcd 0 b) := if_neg (by decide)
  unfold fq
  rw [e0, e1]
  obtain ⟨p1, z1⟩ := fq_l (x := 0 / Nat.gcd 0 b) (by omega)
  obtain ⟨p2, z2⟩ := fq_l (x := b / Nat.gcd 0 b) (by omega)
  have := fp_div_le p1 p2 (by rw [z2]; exact Nat.mul_pos b0 fp_U0) fp_0.1 (by
    rw [z1, Nat.zero_div, Nat.zero_mul, Nat.zero_mul]
    exact Nat.zero_le _)
  rw [fp_0.2] at this
  omega
theorem fq_e {b : Nat} (hb : 0 < b) (hb2 : b ≤ 2 ^ 50) : fp_Z (fq b b) = fp_U := by
  refine Nat.le_antisymm (fq_1 hb hb2 (Nat.le_refl _)) ?_
  obtain ⟨gp, ea, eb, b0, la, lb⟩ := fq_g (a := b) hb
  have e0 : lo_f b b 0 = lN (b / Nat.gcd b b) := if_pos rfl
  have e1 : lo_f b b 1 = lN (b / Nat.gcd b b) := if_neg (by decide)
  unfold fq
  rw [e0, e1]
  obtain ⟨p2, z2⟩ := fq_l (x := b / Nat.gcd b b) (by omega)
  have := fp_div_ge (v := FP.dconst1) p2 p2 (by rw [z2]; exact Nat.mul_pos b0 fp_U0) (by
    rw [z2, fp_1.2, Nat.mul_comm fp_U]; exact Nat.le_refl _)
  rw [fp_1.2] at this
  exact this
theorem fq_rl {x : Nat} (h : x < 2 ^ 54) : fp_P (FP.l2d (lN x)) ∧ 2 ^ 53 * fp_Z (FP.l2d (lN x)) ≤ 2 ^ 53 * (x * fp_U) + x * fp_U ∧ 2 ^ 53 * (x * fp_U) ≤ 2 ^ 53 * fp_Z (FP.l2d (lN x)) + x * fp_U := by
  by_cases hx : x ≤ 2 ^ 53
  · obtain ⟨p1, z1⟩ := fq_l hx
    rw [z1]
    exact ⟨p1, Nat.le_add_right _ _, Nat.le_add_right _ _⟩
  · have e := lN_t (x := x) (by omega)
    obtain ⟨p1, z1, z2⟩ := fp_l2d_1 (x := lN x) (by omega) (by omega)
    rw [e] at z1 z2
    have z1 : fp_Z (FP.l2d (lN x)) ≤ (x + 1) * fp_U := z1
    have z2 : x * fp_U ≤ fp_Z (FP.l2d (lN x)) + fp_U := z2
    have k : 2 ^ 53 * fp_U ≤ x * fp_U := Nat.mul_le_mul_right _ (by omega)
    rw [Nat.add_mul, Nat.one_mul] at z1
    refine ⟨p1, ?_, ?_⟩ <;> omega
theorem fp_2W : 2 * fp_U ≤ 3 * fp_W * (2 ^ 53 - 1) ∧ 2 * (fp_U + 5 * fp_W) ≤ 3 * fp_W * (2 ^ 53 - 1) := by
  rw [fp_UW]
  have := fp_W0
  omega
theorem fq_y {a b : Nat} (hb : 0 < b) (hb2 : b < 2 ^ 54) (ha : a ≤ b) : fp_P (fq a b) ∧ fp_Z (fq a b) * b ≤ a * fp_U + 4 * fp_W * b ∧ a * fp_U ≤ fp_Z (fq a b) * b + 4 * fp_W * b ∧ fp_Z (fq a b) ≤ fp_U + 4 * fp_W := by
  obtain ⟨gp, ea, eb, b0, la, lb⟩ := fq_g (a := a) hb
  have e0 : lo_f a b 0 = lN (a / Nat.gcd a b) := if_pos rfl
  have e1 : lo_f a b 1 = lN (b / Nat.gcd a b) := if_neg (by decide)
  unfold fq
  rw [e0, e1]
  obtain ⟨p1, z1, y1⟩ := fq_rl (x := a / Nat.gcd a b) (by omega)
  obtain ⟨p2, z2, y2⟩ := fq_rl (x := b / Nat.gcd a b) (by omega)
  have h8 : a / Nat.gcd a b ≤ b / Nat.gcd a b := Nat.div_le_div_right ha
  generalize Nat.gcd a b = g at *
  generalize a / g = a2 at *
  generalize b / g = b2 at *
  subst ea eb
  have k : fp_U ≤ b2 * fp_U := Nat.le_mul_of_pos_left _ b0
  have k2 : a2 * fp_U ≤ b2 * fp_U := Nat.mul_le_mul_right _ h8
  have U0 := fp_U0
  obtain ⟨d1, d2, d3⟩ := fp_div p1 p2 (by omega) (by omega)
  obtain ⟨u1, u2⟩ := fp_2W
  have r1 := ar5 (E := 2 ^ 53) fp_U0 (by decide) d2 z1 y2 h8 u1
  have r2 : fp_Z (FP.ddiv (FP.l2d (lN a2)) (FP.l2d (lN b2))) ≤ fp_U + 4 * fp_W := by
    have : fp_Z (FP.ddiv (FP.l2d (lN a2)) (FP.l2d (lN b2))) * b2 ≤ (fp_U + 4 * fp_W) * b2 := by
      rw [Nat.add_mul, Nat.mul_comm fp_U]; omega
    exact Nat.le_of_mul_le_mul_right this b0
  have r3 := ar6 (E := 2 ^ 53) fp_U0 (by decide) d3 y1 z2 r2 u2
  exact ⟨d1, ar3 (W := 4 * fp_W) r1, ar4 (W := 4 * fp_W) r3, r2⟩
