/-! doubles: what they are worth in units of the least one; what the operations on those that are not below 0 come to -/
def fp_U : Nat := 2 ^ 1074
def fp_W : Nat := 2 ^ 1025
theorem fp_UW : fp_U = 2 ^ 49 * fp_W := by unfold fp_U fp_W; rw [← Nat.pow_add]
theorem fp_W0 : 0 < fp_W := Nat.two_pow_pos _
theorem fp_U0 : 0 < fp_U := Nat.two_pow_pos _
def fp_Z (a : UInt64) : Nat := FP.Core.zmag FP.Core.b64 (FP.Core.val64 a)
/-- a number not below 0 -/
def fp_P (a : UInt64) : Prop := ∃ c q, FP.Core.val64 a = .fin false c q
theorem fp_P_ne {a : UInt64} (h : fp_P a) : FP.Core.val64 a ≠ .nan := by
  obtain ⟨c, q, e⟩ := h
  rw [e]
  exact FP.Core.Datum.noConfusion
theorem fp_ok {a : UInt64} (h : FP.Core.val64 a ≠ .nan) : vf_n64 a := Jvm.Free.Fl.noNaN64_no.mpr ((FP.Core.notNaN_iff a).mpr h)
theorem fp_P_ok {a : UInt64} (h : fp_P a) : vf_n64 a := fp_ok (fp_P_ne h)
theorem fp_top : FP.Core.zmag FP.Core.b64 (.inf false) = 2 ^ 52 * 2 ^ 2046 := by decide +kernel
/-- a rounded one that is small is a number -/
theorem fp_small {s : Bool} {A B : Nat} {e : Int} (h : FP.Core.zmag FP.Core.b64 (FP.Core.roundRatio FP.Core.b64 s A B e) < 2 ^ 52 * 2 ^ 2046) : ∃ c q, FP.Core.roundRatio FP.Core.b64 s A B e = .fin s c q := by
  rcases FP.Core.roundRatio_cases FP.Core.b64 s A B e with q | q
  · exact q
  · rw [q] at h
    exact absurd h (by rw [show FP.Core.zmag FP.Core.b64 (.inf s) = 2 ^ 52 * 2 ^ 2046 by cases s <;> decide +kernel]; exact Nat.lt_irrefl _)
/-- a ratio's rounding, in units: A / B * 2 ^ e is N / D units -/
def fp_is (A B : Nat) (e : Int) (N D : Nat) : Prop := A * 2 ^ (e - min e (-1074)).toNat * D = N * 2 ^ (-1074 - min e (-1074)).toNat * B
theorem fp_le {s : Bool} {A B N D : Nat} {e : Int} {V : FP.Core.Datum} (hB : 0 < B) (hD : 0 < D) (hi : fp_is A B e N D) (hV : FP.Core.fits FP.Core.b64 V) (hn : V ≠ .nan) (h : N ≤ FP.Core.zmag FP.Core.b64 V * D) :
    FP.Core.zmag FP.Core.b64 (FP.Core.roundRatio FP.Core.b64 s A B e) ≤ FP.Core.zmag FP.Core.b64 V := by
  refine FP.Core.zmag_roundRatio_le FP.Core.good_b64 (e0 := min e (-1074)) hB hV hn ?_ (Int.min_le_left _ _) ?_
  · rw [FP.Core.qmin_b64]; exact Int.min_le_right _ _
  · rw [FP.Core.qmin_b64]
    show A * 2 ^ (e - min e (-1074)).toNat ≤ _
    unfold fp_is at hi
    generalize A * 2 ^ (e - min e (-1074)).toNat = x at hi ⊢
    generalize 2 ^ (-1074 - min e (-1074)).toNat = y at hi ⊢
    generalize FP.Core.zmag FP.Core.b64 V = z at h ⊢
    refine Nat.le_of_mul_le_mul_right (c := D) ?_ hD
    rw [hi]
    calc N * y * B ≤ z * D * y * B := Nat.mul_le_mul_right _ (Nat.mul_le_mul_right _ h)
      _ = z * y * B * D := by ac_rfl
theorem fp_ge {s : Bool} {A B N D : Nat} {e : Int} {V : FP.Core.Datum} (hB : 0 < B) (hD : 0 < D) (hi : fp_is A B e N D) (hV : FP.Core.fits FP.Core.b64 V) (h : FP.Core.zmag FP.Core.b64 V * D ≤ N) :
    FP.Core.zmag FP.Core.b64 V ≤ FP.Core.zmag FP.Core.b64 (FP.Core.roundRatio FP.Core.b64 s A B e) := by
  refine FP.Core.zmag_roundRatio_ge FP.Core.good_b64 (e0 := min e (-1074)) hB hV ?_ (Int.min_le_left _ _) ?_
  · rw [FP.Core.qmin_b64]; exact Int.min_le_right _ _
  · rw [FP.Core.qmin_b64]
    show _ ≤ A * 2 ^ (e - min e (-1074)).toNat
    unfold fp_is at hi
    generalize A * 2 ^ (e - min e (-1074)).toNat = x at hi ⊢
    generalize 2 ^ (-1074 - min e (-1074)).toNat = y at hi ⊢
    generalize FP.Core.zmag FP.Core.b64 V = z at h ⊢
    refine Nat.le_of_mul_le_mul_right (c := D) ?_ hD
    rw [hi]
    calc z * y * B * D = z * D * y * B := by ac_rfl
      _ ≤ N * y * B := Nat.mul_le_mul_right _ (Nat.mul_le_mul_right _ h)
/-- m times 2 ^ k units is a number of the format, m of 53 digits -/
theorem fp_rep1 {m k : Nat} (hm : m < 2 ^ 53) (hk : k ≤ 2045) : ∃ V, FP.Core.fits FP.Core.b64 V ∧ V ≠ .nan ∧ FP.Core.zmag FP.Core.b64 V = m * 2 ^ k := by
  have hq : FP.Core.b64.qmin = -1074 := FP.Core.qmin_b64
  have hx : FP.Core.b64.qmax = 971 := by decide
  obtain ⟨c, q, h1, h2⟩ := FP.Core.round_exact FP.Core.good_b64 false (c := m) (q := (k : Int) - 1074) hm (by rw [hq]; omega) (by rw [hx]; omega)
  refine ⟨FP.Core.round FP.Core.b64 (.fin false m ((k : Int) - 1074)), FP.Core.round_fits FP.Core.good_b64 _, ?_, ?_⟩
  · rw [h1]; exact FP.Core.Datum.noConfusion
  · rw [h1]
    show FP.Core.inUnits c q FP.Core.b64.qmin = _
    rw [h2, hq]
    unfold FP.Core.inUnits
    rw [show ((k : Int) - 1074 - -1074).toNat = k by omega]
theorem fp_rep {m k : Nat} (hm : m ≤ 2 ^ 53) (hk : k ≤ 2044) : ∃ V, FP.Core.fits FP.Core.b64 V ∧ V ≠ .nan ∧ FP.Core.zmag FP.Core.b64 V = m * 2 ^ k := by
  rcases Nat.lt_or_ge m (2 ^ 53) with h | h
  · exact fp_rep1 h (by omega)
  · obtain ⟨V, h1, h2, h3⟩ := fp_rep1 (m := 2 ^ 52) (k := k + 1) (by decide) (by omega)
    refine ⟨V, h1, h2, ?_⟩
    rw [h3, Nat.le_antisymm hm h, ← Nat.pow_add, ← Nat.pow_add]
    exact congrArg (fun t => 2 ^ t) (by omega)
/-- a rounded ratio below 16 is within W -/
theorem fp_err {s : Bool} {A B N D : Nat} {e : Int} (hB : 0 < B) (hD : 0 < D) (hi : fp_is A B e N D) (h : N < 2 ^ 53 * fp_W * D) :
    let z := FP.Core.zmag FP.Core.b64 (FP.Core.roundRatio FP.Core.b64 s A B e)
    z * D ≤ N + fp_W * D ∧ N ≤ z * D + fp_W * D ∧ z ≤ 2 ^ 53 * fp_W := by
  intro z
  have hWD : 0 < fp_W * D := Nat.mul_pos fp_W0 hD
  have e1 := Nat.div_add_mod N (fp_W * D)
  have e2 := Nat.mod_lt N hWD
  have hm : N / (fp_W * D) < 2 ^ 53 := (Nat.div_lt_iff_lt_mul hWD).mpr (by rw [← Nat.mul_assoc]; exact h)
  generalize N / (fp_W * D) = m at e1 hm
  generalize N % (fp_W * D) = r at e1 e2
  obtain ⟨V1, a1, a2, a3⟩ := fp_rep (m := m) (k := 1025) (Nat.le_of_lt hm) (by decide)
  obtain ⟨V2, b1, b2, b3⟩ := fp_rep (m := m + 1) (k := 1025) hm (by decide)
  have a3 : FP.Core.zmag FP.Core.b64 V1 = m * fp_W := a3
  have b3 : FP.Core.zmag FP.Core.b64 V2 = (m + 1) * fp_W := b3
  have g1 : m * fp_W ≤ z := by
    have := fp_ge (s := s) hB hD hi a1 (by rw [a3, Nat.mul_assoc, Nat.mul_comm m]; omega)
    rw [a3] at this
    exact this
  have g2 : z ≤ (m + 1) * fp_W := by
    have := fp_le (s := s) hB hD hi b1 b2 (by rw [b3, Nat.mul_assoc, Nat.add_mul, Nat.one_mul, Nat.mul_comm m]; omega)
    rw [b3] at this
    exact this
  have g3 := Nat.mul_le_mul_right D g1
  have g4 := Nat.mul_le_mul_right D g2
  rw [Nat.mul_assoc, Nat.mul_comm m] at g3
  rw [Nat.mul_assoc, Nat.add_mul, Nat.one_mul, Nat.mul_comm m] at g4
  refine ⟨by omega, by omega, Nat.le_trans g2 (Nat.mul_le_mul_right _ hm)⟩
theorem fp_lt_top : 2 ^ 53 * fp_W < 2 ^ 52 * 2 ^ 2046 := by
  unfold fp_W
  rw [← Nat.pow_add, ← Nat.pow_add]
  exact Nat.pow_lt_pow_right (by decide) (by decide)
theorem fp_Z_fin {a : UInt64} {c : Nat} {q : Int} (h : FP.Core.val64 a = .fin false c q) : -1074 ≤ q ∧ fp_Z a = c * 2 ^ (q + 1074).toNat := by
  have hf := FP.Core.val64_fits a
  rw [h] at hf
  have h1 := hf.2.1
  rw [FP.Core.qmin_b64] at h1
  refine ⟨h1, ?_⟩
  unfold fp_Z
  rw [h]
  show FP.Core.inUnits c q FP.Core.b64.qmin = _
  rw [FP.Core.qmin_b64]
  unfold FP.Core.inUnits
  rw [show q - -1074 = q + 1074 by omega]
/-- the value of a result -/
theorem fp_of {x : UInt64} {A B : Nat} {e : Int} (hx : FP.Core.val64 x = FP.Core.roundRatio FP.Core.b64 false A B e) (h : FP.Core.zmag FP.Core.b64 (FP.Core.roundRatio FP.Core.b64 false A B e) ≤ 2 ^ 53 * fp_W) : fp_P x := by
  obtain ⟨c, q, g⟩ := fp_small (Nat.lt_of_le_of_lt h fp_lt_top)
  exact ⟨c, q, hx.trans g⟩
theorem fp_pw1 (c d a k b : Nat) : c * 2 ^ a * 2 ^ k * 2 ^ b * d = c * d * 2 ^ (a + (k + b)) := by rw [Nat.pow_add, Nat.pow_add]; ac_rfl
theorem fp_pw2 (c d a b : Nat) : c * 2 ^ a * (d * 2 ^ b) = c * d * 2 ^ (a + b) := by rw [Nat.pow_add]; ac_rfl
theorem fp_pw3 (c d a b k : Nat) : c * 2 ^ a * (d * 2 ^ b) * 2 ^ k * 1 = c * d * 2 ^ (a + (b + k)) := by rw [Nat.pow_add, Nat.pow_add]; ac_rfl
theorem fp_pw4 (c d a k : Nat) : c * d * 2 ^ a * 2 ^ k = c * d * 2 ^ (a + k) := by rw [Nat.pow_add]; ac_rfl
/-! quotients -/
theorem fp_div_is {a b : UInt64} (ha : fp_P a) (hb : fp_P b) (h0 : 0 < fp_Z b) : ∃ A B e, 0 < B ∧ FP.Core.val64 (FP.ddiv a b) = FP.Core.roundRatio FP.Core.b64 false A B e ∧ fp_is A B e (fp_Z a * fp_U) (fp_Z b) := by
  obtain ⟨c, q, ea⟩ := ha
  obtain ⟨d, r, eb⟩ := hb
  obtain ⟨qa, za⟩ := fp_Z_fin ea
  obtain ⟨qb, zb⟩ := fp_Z_fin eb
  have hd : 0 < d := by
    rcases Nat.eq_zero_or_pos d with z | z
    · rw [zb, z, Nat.zero_mul] at h0; exact absurd h0 (Nat.lt_irrefl _)
    · exact z
  refine ⟨c, d, q - r, hd, ?_, ?_⟩
  · rw [FP.Core.val64_ddiv, ea, eb]
    show (if d = 0 then _ else FP.Core.roundRatio FP.Core.b64 (false != false) c d (q - r)) = _
    rw [if_neg (Nat.pos_iff_ne_zero.mp hd)]
    rfl
  · unfold fp_is
    rw [za, zb]
    unfold fp_U
    have hm1 := Int.min_le_left (q - r) (-1074)
    have hm2 := Int.min_le_right (q - r) (-1074)
    generalize min (q - r) (-1074) = m at hm1 hm2
    rw [fp_pw2, fp_pw1]
    exact congrArg (fun t => c * d * 2 ^ t) (by omega)
theorem fp_div {a b : UInt64} (ha : fp_P a) (hb : fp_P b) (h0 : 0 < fp_Z b) (h : fp_Z a < 16 * fp_Z b) :
    fp_P (FP.ddiv a b) ∧ fp_Z (FP.ddiv a b) * fp_Z b ≤ fp_Z a * fp_U + fp_W * fp_Z b ∧ fp_Z a * fp_U ≤ fp_Z (FP.ddiv a b) * fp_Z b + fp_W * fp_Z b := by
  obtain ⟨A, B, e, hB, hv, hi⟩ := fp_div_is ha hb h0
  have hlt : fp_Z a * fp_U < 2 ^ 53 * fp_W * fp_Z b := by
    rw [fp_UW]
    have := Nat.mul_lt_mul_of_pos_right h (Nat.mul_pos (Nat.two_pow_pos 49) fp_W0)
    calc fp_Z a * (2 ^ 49 * fp_W) < 16 * fp_Z b * (2 ^ 49 * fp_W) := this
      _ = 16 * 2 ^ 49 * fp_W * fp_Z b := by rw [Nat.mul_mul_mul_comm, Nat.mul_comm (fp_Z b) fp_W, ← Nat.mul_assoc]
      _ = 2 ^ 53 * fp_W * fp_Z b := by rw [show 16 * 2 ^ 49 = 2 ^ 53 by decide]
  obtain ⟨g1, g2, g3⟩ := fp_err (s := false) hB h0 hi hlt
  refine ⟨fp_of hv g3, ?_, ?_⟩
  · unfold fp_Z at g1 ⊢
    rw [hv]
    exact g1
  · unfold fp_Z at g2 ⊢
    rw [hv]
    exact g2
theorem fp_div_le {a b v : UInt64} (ha : fp_P a) (hb : fp_P b) (h0 : 0 < fp_Z b) (hv : fp_P v) (h : fp_Z a * fp_U ≤ fp_Z v * fp_Z b) : fp_Z (FP.ddiv a b) ≤ fp_Z v := by
  obtain ⟨A, B, e, hB, hx, hi⟩ := fp_div_is ha hb h0
  have := fp_le (s := false) hB h0 hi (FP.Core.val64_fits v) (fp_P_ne hv) h
  unfold fp_Z
  rw [hx]
  exact this
theorem fp_div_ge {a b v : UInt64} (ha : fp_P a) (hb : fp_P b) (h0 : 0 < fp_Z b) (h : fp_Z v * fp_Z b ≤ fp_Z a * fp_U) : fp_Z v ≤ fp_Z (FP.ddiv a b) := by
  obtain ⟨A, B, e, hB, hx, hi⟩ := fp_div_is ha hb h0
  have := fp_ge (s := false) hB h0 hi (FP.Core.val64_fits v) h
  unfold fp_Z
  rw [hx]
  exact this
/-! sums -/
theorem fp_add_is {a b : UInt64} (ha : fp_P a) (hb : fp_P b) : ∃ A e, FP.Core.val64 (FP.dadd a b) = FP.Core.roundRatio FP.Core.b64 false A 1 e ∧ fp_is A 1 e (fp_Z a + fp_Z b) 1 := by
  obtain ⟨c, q, ea⟩ := ha
  obtain ⟨d, r, eb⟩ := hb
  obtain ⟨qa, za⟩ := fp_Z_fin ea
  obtain ⟨qb, zb⟩ := fp_Z_fin eb
  have hv : FP.Core.sumUnits false c q false d r (min q r) = ((c * 2 ^ (q - min q r).toNat + d * 2 ^ (r - min q r).toNat : Nat) : Int) := by
    show ((c * 2 ^ (q - min q r).toNat : Nat) : Int) + ((d * 2 ^ (r - min q r).toNat : Nat) : Int) = _
    rw [Int.natCast_add]
  refine ⟨c * 2 ^ (q - min q r).toNat + d * 2 ^ (r - min q r).toNat, min q r, ?_, ?_⟩
  · rw [FP.Core.val64_dadd, ea, eb]
    show FP.Core.round FP.Core.b64 (.fin (FP.Core.sumSign false false (FP.Core.sumUnits false c q false d r (min q r))) (FP.Core.sumUnits false c q false d r (min q r)).natAbs (min q r)) = _
    rw [hv]
    generalize c * 2 ^ (q - min q r).toNat + d * 2 ^ (r - min q r).toNat = n
    have hs : FP.Core.sumSign false false (n : Int) = false := by
      unfold FP.Core.sumSign
      split
      · rfl
      · exact decide_eq_false (by omega)
    rw [hs, Int.natAbs_natCast]
    rfl
  · unfold fp_is
    have h1 := Int.min_le_left q r
    have h2 := Int.min_le_right q r
    have h3 : -1074 ≤ min q r := by omega
    rw [za, zb]
    generalize min q r = m at h1 h2 h3
    rw [Int.min_eq_right h3, Nat.mul_one, Nat.mul_one, show (-1074 - -1074 : Int).toNat = 0 by decide, Nat.pow_zero, Nat.mul_one, Nat.add_mul, Nat.mul_assoc, Nat.mul_assoc, ← Nat.pow_add, ← Nat.pow_add]
    congr 3 <;> omega
theorem fp_add {a b : UInt64} (ha : fp_P a) (hb : fp_P b) (h : fp_Z a + fp_Z b < 2 ^ 53 * fp_W) :
    fp_P (FP.dadd a b) ∧ fp_Z (FP.dadd a b) ≤ fp_Z a + fp_Z b + fp_W ∧ fp_Z a + fp_Z b ≤ fp_Z (FP.dadd a b) + fp_W := by
  obtain ⟨A, e, hv, hi⟩ := fp_add_is ha hb
  obtain ⟨g1, g2, g3⟩ := fp_err (s := false) Nat.one_pos Nat.one_pos hi (by rw [Nat.mul_one]; exact h)
  rw [Nat.mul_one, Nat.mul_one] at g1 g2
  refine ⟨fp_of hv g3, ?_, ?_⟩
  · unfold fp_Z at g1 ⊢
    rw [hv]
    exact g1
  · unfold fp_Z at g2 ⊢
    rw [hv]
    exact g2
theorem fp_add_ge {a b : UInt64} (ha : fp_P a) (hb : fp_P b) : fp_Z a ≤ fp_Z (FP.dadd a b) := by
  obtain ⟨A, e, hx, hi⟩ := fp_add_is ha hb
  have := fp_ge (s := false) Nat.one_pos Nat.one_pos hi (FP.Core.val64_fits a) (show fp_Z a * 1 ≤ fp_Z a + fp_Z b by omega)
  unfold fp_Z
  rw [hx]
  exact this
/-! products -/
theorem fp_mul_is {a b : UInt64} (ha : fp_P a) (hb : fp_P b) : ∃ A e, FP.Core.val64 (FP.dmul a b) = FP.Core.roundRatio FP.Core.b64 false A 1 e ∧ fp_is A 1 e (fp_Z a * fp_Z b) fp_U := by
  obtain ⟨c, q, ea⟩ := ha
  obtain ⟨d, r, eb⟩ := hb
  obtain ⟨qa, za⟩ := fp_Z_fin ea
  obtain ⟨qb, zb⟩ := fp_Z_fin eb
  refine ⟨c * d, q + r, ?_, ?_⟩
  · rw [FP.Core.val64_dmul, ea, eb]
    rfl
  · unfold fp_is
    rw [za, zb]
    unfold fp_U
    have hm1 := Int.min_le_left (q + r) (-1074)
    have hm2 := Int.min_le_right (q + r) (-1074)
    generalize min (q + r) (-1074) = m at hm1 hm2
    rw [fp_pw4, fp_pw3]
    exact congrArg (fun t => c * d * 2 ^ t) (by omega)
theorem fp_mul {a b : UInt64} (ha : fp_P a) (hb : fp_P b) (h : fp_Z a * fp_Z b < 2 ^ 53 * fp_W * fp_U) :
    fp_P (FP.dmul a b) ∧ fp_Z (FP.dmul a b) * fp_U ≤ fp_Z a * fp_Z b + fp_W * fp_U ∧ fp_Z a * fp_Z b ≤ fp_Z (FP.dmul a b) * fp_U + fp_W * fp_U := by
  obtain ⟨A, e, hv, hi⟩ := fp_mul_is ha hb
  obtain ⟨g1, g2, g3⟩ := fp_err (s := false) Nat.one_pos fp_U0 hi h
  refine ⟨fp_of hv g3, ?_, ?_⟩
  · unfold fp_Z at g1 ⊢
    rw [hv]
    exact g1
  · unfold fp_Z at g2 ⊢
    rw [hv]
    exact g2
/-! differences without their sign -/
theorem fp_abs {x : UInt64} (h : FP.Core.val64 x ≠ .nan) (hf : FP.Core.zmag FP.Core.b64 (FP.Core.val64 x) < 2 ^ 52 * 2 ^ 2046) : fp_P (ro_abs x) ∧ fp_Z (ro_abs x) = FP.Core.zmag FP.Core.b64 (FP.Core.val64 x) := by
  have e1 : (ro_abs x).toNat = x.toNat % 2 ^ 63 := by
    unfold ro_abs
    rw [UInt64.toNat_and]
    exact Nat.and_two_pow_sub_one_eq_mod x.toNat 63
  have e2 : (ro_abs x).toNat % 2 ^ 63 = x.toNat % 2 ^ 63 := by rw [e1, Nat.mod_mod]
  have h2 : FP.Core.val64 (ro_abs x) ≠ .nan := by
    rw [FP.Core.ne_nan, e2]
    exact (FP.Core.ne_nan x).mp h
  have e3 : FP.Core.zmag FP.Core.b64 (FP.Core.val64 (ro_abs x)) = FP.Core.zmag FP.Core.b64 (FP.Core.val64 x) := by rw [FP.Core.zmag_bits h2, FP.Core.zmag_bits h, e2]
  have e4 : FP.Core.sgn (FP.Core.val64 (ro_abs x)) = false := by
    rw [FP.Core.sgn_bits h2]
    refine decide_eq_false ?_
    rw [e1]
    have := Nat.mod_lt x.toNat (Nat.two_pow_pos 63)
    omega
  refine ⟨?_, e3⟩
  cases hv : FP.Core.val64 (ro_abs x) with
  | nan => exact absurd hv h2
  | inf s =>
    rw [hv] at e3
    rw [← e3] at hf
    exact absurd hf (by rw [show FP.Core.zmag FP.Core.b64 (.inf s) = 2 ^ 52 * 2 ^ 2046 by cases s <;> decide +kernel]; exact Nat.lt_irrefl _)
  | fin s c q =>
    rw [hv] at e4
    have e5 : s = false := e4
    rw [e5] at hv
    exact ⟨c, q, hv⟩
theorem fp_sub {a b : UInt64} (ha : fp_P a) (hb : fp_P b) {n : Nat} (h1 : fp_Z a ≤ fp_Z b + n) (h2 : fp_Z b ≤ fp_Z a + n) (hn : n < 2 ^ 53 * fp_W) :
    vf_n64 (FP.dsub a b) ∧ fp_P (ro_abs (FP.dsub a b)) ∧ fp_Z (ro_abs (FP.dsub a b)) ≤ n + fp_W := by
  obtain ⟨c, q, ea⟩ := ha
  obtain ⟨d, r, eb⟩ := hb
  obtain ⟨qa, za⟩ := fp_Z_fin ea
  obtain ⟨qb, zb⟩ := fp_Z_fin eb
  obtain ⟨v, hv⟩ : ∃ v, v = FP.Core.sumUnits false c q true d r (min q r) := ⟨_, rfl⟩
  have hx : FP.Core.val64 (FP.dsub a b) = FP.Core.roundRatio FP.Core.b64 (FP.Core.sumSign false true v) v.natAbs 1 (min q r) := by
    rw [FP.Core.val64_dsub, ea, eb, hv]
    rfl
  have hs : v = ((c * 2 ^ (q - min q r).toNat : Nat) : Int) - ((d * 2 ^ (r - min q r).toNat : Nat) : Int) := by
    rw [hv]
    show ((c * 2 ^ (q - min q r).toNat : Nat) : Int) + -((d * 2 ^ (r - min q r).toNat : Nat) : Int) = _
    rw [← Int.sub_eq_add_neg]
  have g1 := Int.min_le_left q r
  have g2 := Int.min_le_right q r
  have g3 : -1074 ≤ min q r := by omega
  generalize min q r = m at hx hs g1 g2 g3
  have ea2 : fp_Z a = c * 2 ^ (q - m).toNat * 2 ^ (m + 1074).toNat := by
    rw [za, Nat.mul_assoc, ← Nat.pow_add]
    congr 2
    omega
  have eb2 : fp_Z b = d * 2 ^ (r - m).toNat * 2 ^ (m + 1074).toNat := by
    rw [zb, Nat.mul_assoc, ← Nat.pow_add]
    congr 2
    omega
  have hi : fp_is v.natAbs 1 m (v.natAbs * 2 ^ (m + 1074).toNat) 1 := by
    unfold fp_is
    rw [Int.min_eq_right g3, Nat.mul_one, Nat.mul_one, show (-1074 - -1074 : Int).toNat = 0 by decide, Nat.pow_zero, Nat.mul_one, show m - -1074 = m + 1074 by omega]
  have hle : v.natAbs * 2 ^ (m + 1074).toNat ≤ n := by
    generalize c * 2 ^ (q - m).toNat = x at hs ea2
    generalize d * 2 ^ (r - m).toNat = y at hs eb2
    generalize 2 ^ (m + 1074).toNat = w at ea2 eb2 ⊢
    rcases Nat.le_total x y with t | t
    · have : v.natAbs = y - x := by omega
      rw [this, Nat.sub_mul]
      omega
    · have : v.natAbs = x - y := by omega
      rw [this, Nat.sub_mul]
      omega
  obtain ⟨k1, k2, k3⟩ := fp_err (s := FP.Core.sumSign false true v) Nat.one_pos Nat.one_pos hi (by rw [Nat.mul_one]; omega)
  rw [Nat.mul_one, Nat.mul_one] at k1
  have hne : FP.Core.val64 (FP.dsub a b) ≠ .nan := by rw [hx]; exact FP.Core.roundRatio_ne_nan _ _ _ _ _
  have hab := fp_abs hne (by rw [hx]; exact Nat.lt_of_le_of_lt k3 fp_lt_top)
  refine ⟨fp_ok hne, hab.1, ?_⟩
  rw [hab.2, hx]
  omega
/-! whole numbers -/
theorem fp_int {x : UInt64} {i : Int} (hx : FP.Core.DInt i x) (hi : 0 ≤ i) : FP.Core.zmag FP.Core.b64 (FP.Core.val64 x) = i.toNat * fp_U ∧ FP.Core.val64 x ≠ .nan := by
  have hne : FP.Core.val64 x ≠ .nan := by
    intro h
    unfold FP.Core.DInt at hx
    rw [h] at hx
    exact hx
  refine ⟨?_, hne⟩
  have h1 := FP.Core.whole_zval FP.Core.good_b64 (FP.Core.val64_fits x) hx
  rw [FP.Core.qmin_b64] at h1
  have h2 := congrArg Int.natAbs h1
  unfold FP.Core.zval at h2
  rw [FP.Core.natAbs_signed] at h2
  rw [h2, show ((- -1074 : Int)).toNat = 1074 by decide]
  unfold fp_U
  rw [Int.natAbs_mul, Int.natAbs_natCast]
  congr 1
  omega
theorem fp_l2d_is {x : Int64} (h0 : 0 ≤ x.toInt) : FP.Core.val64 (FP.l2d x) = FP.Core.roundRatio FP.Core.b64 false x.toInt.natAbs 1 0 ∧ fp_is x.toInt.natAbs 1 0 (x.toInt.toNat * fp_U) 1 := by
  refine ⟨?_, ?_⟩
  · rw [FP.Core.val64_l2d]
    show FP.Core.round FP.Core.b64 (.fin (decide (x.toInt < 0)) x.toInt.natAbs 0) = _
    rw [decide_eq_false (by omega)]
    rfl
  · unfold fp_is fp_U
    rw [show min (0 : Int) (-1074) = -1074 by decide, show (0 - -1074 : Int).toNat = 1074 by decide, show (-1074 - -1074 : Int).toNat = 0 by decide, Nat.mul_one, Nat.mul_one, Nat.pow_zero, Nat.mul_one]
    congr 1
    omega
theorem fp_l2d {x : Int64} (h0 : 0 ≤ x.toInt) (h1 : x.toInt ≤ 2 ^ 53) : fp_P (FP.l2d x) ∧ fp_Z (FP.l2d x) = x.toInt.toNat * fp_U := by
  obtain ⟨g1, g2⟩ := fp_int (FP.Core.l2d_int (a := x) (by omega)) h0
  refine ⟨?_, g1⟩
  obtain ⟨e1, -⟩ := fp_l2d_is h0
  have h3 : FP.Core.zmag FP.Core.b64 (FP.Core.roundRatio FP.Core.b64 false x.toInt.natAbs 1 0) < 2 ^ 52 * 2 ^ 2046 := by
    rw [← e1, g1]
    have : x.toInt.toNat * fp_U ≤ 2 ^ 53 * fp_U := Nat.mul_le_mul_right _ (by omega)
    refine Nat.lt_of_le_of_lt this ?_
    unfold fp_U
    rw [← Nat.pow_add, ← Nat.pow_add]
    exact Nat.pow_lt_pow_right (by decide) (by decide)
  obtain ⟨c, q, e2⟩ := fp_small h3
  exact ⟨c, q, e1.trans e2⟩
theorem fp_i2d {x : Int32} (h0 : 0 ≤ x.toInt) : fp_P (FP.i2d x) ∧ fp_Z (FP.i2d x) = x.toInt.toNat * fp_U := by
  obtain ⟨g1, g2⟩ := fp_int (FP.Core.i2d_int x) h0
  refine ⟨?_, g1⟩
  have e1 : FP.Core.val64 (FP.i2d x) = FP.Core.roundRatio FP.Core.b64 false x.toInt.natAbs 1 0 := by
    rw [FP.Core.val64_i2d]
    show FP.Core.round FP.Core.b64 (.fin (decide (x.toInt < 0)) x.toInt.natAbs 0) = _
    rw [decide_eq_false (by omega)]
    rfl
  have h1 := x.toInt_lt
  have h3 : FP.Core.zmag FP.Core.b64 (FP.Core.roundRatio FP.Core.b64 false x.toInt.natAbs 1 0) < 2 ^ 52 * 2 ^ 2046 := by
    rw [← e1, g1]
    have : x.toInt.toNat * fp_U ≤ 2 ^ 53 * fp_U := Nat.mul_le_mul_right _ (by omega)
    refine Nat.lt_of_le_of_lt this ?_
    unfold fp_U
    rw [← Nat.pow_add, ← Nat.pow_add]
    exact Nat.pow_lt_pow_right (by decide) (by decide)
  obtain ⟨c, q, e2⟩ := fp_small h3
  exact ⟨c, q, e1.trans e2⟩
/-- up to 2 ^ 54: within 1 -/
theorem fp_l2d_1 {x : Int64} (h0 : 0 ≤ x.toInt) (h1 : x.toInt < 2 ^ 54) : fp_P (FP.l2d x) ∧ fp_Z (FP.l2d x) ≤ (x.toInt.toNat + 1) * fp_U ∧ x.toInt.toNat * fp_U ≤ fp_Z (FP.l2d x) + fp_U := by
  obtain ⟨e1, hi⟩ := fp_l2d_is h0
  obtain ⟨n, hn⟩ : ∃ n, n = x.toInt.toNat := ⟨_, rfl⟩
  rw [← hn] at hi ⊢
  have hn2 : n < 2 ^ 54 := by omega
  obtain ⟨V1, a1, a2, a3⟩ := fp_rep (m := n / 2) (k := 1075) (by omega) (by decide)
  obtain ⟨V2, b1, b2, b3⟩ := fp_rep (m := (n + 1) / 2) (k := 1075) (by omega) (by decide)
  have hU : (2 : Nat) ^ 1075 = 2 * fp_U := by unfold fp_U; rw [Nat.pow_succ]; omega
  rw [hU] at a3 b3
  have g1 : n / 2 * (2 * fp_U) ≤ FP.Core.zmag FP.Core.b64 (FP.Core.roundRatio FP.Core.b64 false x.toInt.natAbs 1 0) := by
    have := fp_ge (s := false) Nat.one_pos Nat.one_pos hi a1 (by
      rw [a3, Nat.mul_one, ← Nat.mul_assoc]
      exact Nat.mul_le_mul_right _ (by omega))
    rw [a3] at this
    exact this
  have g2 : FP.Core.zmag FP.Core.b64 (FP.Core.roundRatio FP.Core.b64 false x.toInt.natAbs 1 0) ≤ (n + 1) / 2 * (2 * fp_U) := by
    have := fp_le (s := false) Nat.one_pos Nat.one_pos hi b1 b2 (by
      rw [b3, Nat.mul_one, ← Nat.mul_assoc]
      exact Nat.mul_le_mul_right _ (by omega))
    rw [b3] at this
    exact this
  rw [← Nat.mul_assoc] at g1 g2
  have g3 : (n + 1) / 2 * 2 * fp_U ≤ (n + 1) * fp_U := Nat.mul_le_mul_right _ (by omega)
  have g4 : n * fp_U ≤ (n / 2 * 2 + 1) * fp_U := Nat.mul_le_mul_right _ (by omega)
  rw [Nat.add_mul, Nat.one_mul] at g4
  have h3 : FP.Core.zmag FP.Core.b64 (FP.Core.roundRatio FP.Core.b64 false x.toInt.natAbs 1 0) < 2 ^ 52 * 2 ^ 2046 := by
    refine Nat.lt_of_le_of_lt (Nat.le_trans g2 (Nat.le_trans g3 (Nat.mul_le_mul_right _ (show n + 1 ≤ 2 ^ 54 by omega)))) ?_
    unfold fp_U
    rw [← Nat.pow_add, ← Nat.pow_add]
    exact Nat.pow_lt_pow_right (by decide) (by decide)
  obtain ⟨c, q, e2⟩ := fp_small h3
  refine ⟨⟨c, q, e1.trans e2⟩, ?_, ?_⟩
  · unfold fp_Z
    rw [e1]
    exact Nat.le_trans g2 g3
  · unfold fp_Z
    rw [e1]
    omega
/-! constants, comparisons -/
theorem fp_0 : fp_P FP.dconst0 ∧ fp_Z FP.dconst0 = 0 := by
  have h : FP.Core.val64 FP.dconst0 = .fin false 0 FP.Core.b64.qmin := FP.Core.val64_dconst0
  refine ⟨⟨_, _, h⟩, ?_⟩
  unfold fp_Z
  rw [h]
  show 0 * _ = 0
  exact Nat.zero_mul _
theorem fp_1 : fp_P FP.dconst1 ∧ fp_Z FP.dconst1 = fp_U := by
  have h : FP.Core.val64 FP.dconst1 = .fin false (2 ^ 52) (-52) := FP.Core.val64_dconst1
  refine ⟨⟨_, _, h⟩, ?_⟩
  rw [(fp_Z_fin h).2]
  unfold fp_U
  rw [show ((-52 : Int) + 1074).toNat = 1022 by decide, ← Nat.pow_add]
/-- 1e-9 and 1e-12 -/
def fp_e9 : UInt64 := 4472406533629990549
def fp_e12 : UInt64 := 4427486594234968593
theorem fp_e9_is : fp_P fp_e9 ∧ 500000 * fp_W ≤ fp_Z fp_e9 ∧ fp_Z fp_e9 ≤ 600000 * fp_W := by
  obtain ⟨c, q, h, h1, h2⟩ : ∃ c q, FP.Core.val64 fp_e9 = .fin false c q ∧ q = -82 ∧ 500000 * 2 ^ 33 ≤ c ∧ c ≤ 600000 * 2 ^ 33 := ⟨_, _, by rfl, by decide +kernel, by decide +kernel, by decide +kernel⟩
  subst h1
  refine ⟨⟨_, _, h⟩, ?_⟩
  rw [(fp_Z_fin h).2, show ((-82 : Int) + 1074).toNat = 992 by decide]
  have e : fp_W = 2 ^ 33 * 2 ^ 992 := by unfold fp_W; rw [← Nat.pow_add]
  rw [e]
  generalize (2 : Nat) ^ 992 = w
  rw [← Nat.mul_assoc, ← Nat.mul_assoc]
  exact ⟨Nat.mul_le_mul_right _ h2.1, Nat.mul_le_mul_right _ h2.2⟩
theorem fp_e12_is : fp_P fp_e12 ∧ 500 * fp_W ≤ fp_Z fp_e12 ∧ fp_Z fp_e12 ≤ 600 * fp_W := by
  obtain ⟨c, q, h, h1, h2⟩ : ∃ c q, FP.Core.val64 fp_e12 = .fin false c q ∧ q = -92 ∧ 500 * 2 ^ 43 ≤ c ∧ c ≤ 600 * 2 ^ 43 := ⟨_, _, by rfl, by decide +kernel, by decide +kernel, by decide +kernel⟩
  subst h1
  refine ⟨⟨_, _, h⟩, ?_⟩
  rw [(fp_Z_fin h).2, show ((-92 : Int) + 1074).toNat = 982 by decide]
  have e : fp_W = 2 ^ 43 * 2 ^ 982 := by unfold fp_W; rw [← Nat.pow_add]
  rw [e]
  generalize (2 : Nat) ^ 982 = w
  rw [← Nat.mul_assoc, ← Nat.mul_assoc]
  exact ⟨Nat.mul_le_mul_right _ h2.1, Nat.mul_le_mul_right _ h2.2⟩
theorem fp_zval {a : UInt64} (h : fp_P a) : FP.Core.zval FP.Core.b64 (FP.Core.val64 a) = (fp_Z a : Int) := by
  obtain ⟨c, q, e⟩ := h
  unfold fp_Z
  rw [e]
  rfl
theorem fp_cmp {a b : UInt64} (ha : fp_P a) (hb : fp_P b) (op : CmpOp) : Op.cmpValue (FP.dcmp a b) op = if fp_Z a < fp_Z b then -1 else if fp_Z a = fp_Z b then 0 else 1 := by
  have h : FP.dcmp a b = some (compare (fp_Z a : Int) (fp_Z b : Int)) := by
    rw [← fp_zval ha, ← fp_zval hb]
    exact FP.Core.dcmp_zval (fp_P_ne ha) (fp_P_ne hb)
  rw [h]
  by_cases h1 : fp_Z a < fp_Z b
  · rw [if_pos h1, (FP.Core.compare_lt_iff _ _).mpr (by omega)]
    cases op <;> rfl
  · rw [if_neg h1]
    by_cases h2 : fp_Z a = fp_Z b
    · rw [if_pos h2, (FP.Core.compare_eq_iff _ _).mpr (by omega)]
      cases op <;> rfl
    · rw [if_neg h2, (FP.Core.compare_gt_iff _ _).mpr (by omega)]
      cases op <;> rfl
