/-! pair enough -/
section ENOUGH
variable {X : ro_Sx}
theorem en_cmp {a b x : Nat} (ha : a < 2 ^ 50) (hb : b < 2 ^ 50) (hb0 : 0 < b) (hx : x ≤ 12) : (lg_cmp (lN (a / Nat.gcd a b) * 12) (lN (b / Nat.gcd a b) * lN x) < 0) ↔ (lg_cmp (12 * lN a) (lN x * lN b) < 0) := by
  have gp : 0 < Nat.gcd a b := Nat.gcd_pos_of_pos_right a hb0
  have ea : a / Nat.gcd a b * Nat.gcd a b = a := Nat.div_mul_cancel (Nat.gcd_dvd_left a b)
  have eb : b / Nat.gcd a b * Nat.gcd a b = b := Nat.div_mul_cancel (Nat.gcd_dvd_right a b)
  have la : a / Nat.gcd a b ≤ a := Nat.div_le_self _ _
  have lb : b / Nat.gcd a b ≤ b := Nat.div_le_self _ _
  have m1 : b / Nat.gcd a b * x ≤ 2 ^ 50 * 12 := Nat.mul_le_mul (by omega) hx
  have m2 : x * b ≤ 12 * 2 ^ 50 := Nat.mul_le_mul hx (by omega)
  rw [lg_cmp_lt, lg_cmp_lt, show lN (a / Nat.gcd a b) * 12 = lN (a / Nat.gcd a b * 12) from lN_mul _ 12, lN_mul, show (12 : Int64) * lN a = lN (12 * a) from lN_mul 12 a, lN_mul, lN_ltI (by omega) (by omega), lN_ltI (by omega) (by omega)]
  generalize Nat.gcd a b = g at *
  generalize a / g = a2 at *
  generalize b / g = b2 at *
  subst ea eb
  constructor
  · intro h
    have := Nat.mul_lt_mul_of_pos_right h gp
    rw [show 12 * (a2 * g) = a2 * 12 * g by rw [Nat.mul_comm a2 12, Nat.mul_assoc], show x * (b2 * g) = b2 * x * g by rw [Nat.mul_comm b2 x, Nat.mul_assoc]]
    exact this
  · intro h
    rw [show 12 * (a2 * g) = a2 * 12 * g by rw [Nat.mul_comm a2 12, Nat.mul_assoc], show x * (b2 * g) = b2 * x * g by rw [Nat.mul_comm b2 x, Nat.mul_assoc]] at h
    exact Nat.lt_of_mul_lt_mul_right h
theorem en_loop {M : ro_Mm} (h : ro_Inv M) {i x C : Nat} (hi : i < 6) (hx : x ≤ 12) (hC : C ≤ 20) (eC : M.2.1 165 i = nI C) : ∀ (d t n n2 : Nat) (A B : ro_Mm), t + d = C + 1 → d < n → d < n2 → ro_eqv M A → ro_eqv M B →
    xq_114_41 n A (nI t) (nI C) (nI i) (nI x) ∧ xq_264_22 n2 B (nI t) (nI i) (nI x) ∧ (xg_114_41 n A (nI t) (nI C) (nI i) (nI x)).1 = (xg_264_22 n2 B (nI t) (nI i) (nI x)).1 ∧ (xg_114_41 n A (nI t) (nI C) (nI i) (nI x)).2.1 = (xg_264_22 n2 B (nI t) (nI i) (nI x)).2.1 ∧ ro_eqv M (xg_114_41 n A (nI t) (nI C) (nI i) (nI x)).2.2.2 := by
  obtain ⟨q1, q2, q3, q4⟩ := ro_n6 hi
  intro d
  induction d with
  | zero =>
    intro t n n2 A B ht hn hn2 hA hB
    obtain ⟨n, rfl⟩ : ∃ m, n = m + 1 := ⟨n - 1, by omega⟩
    obtain ⟨n2, rfl⟩ : ∃ m, n2 = m + 1 := ⟨n2 - 1, by omega⟩
    have c0 : nI C < nI t := nI_lt (by omega) (by omega)
    have eB : B.2.1 165 i = nI C := (hB.2.1 165 i rfl).trans eC
    rw [xg_114_41, xq_114_41, xg_264_22, xq_264_22, q3, eB, if_pos c0, if_pos c0]
    exact ⟨⟨fun _ => trivial, fun y => absurd c0 y⟩, ⟨q4, fun _ => trivial, fun y => absurd c0 y⟩, rfl, rfl, hA⟩
  | succ d ih =>
    intro t n n2 A B ht hn hn2 hA hB
    obtain ⟨n, rfl⟩ : ∃ m, n = m + 1 := ⟨n - 1, by omega⟩
    obtain ⟨n2, rfl⟩ : ∃ m, n2 = m + 1 := ⟨n2 - 1, by omega⟩
    have c0 : ¬ nI C < nI t := nI_nlt (by omega) (by omega)
    have eB : B.2.1 165 i = nI C := (hB.2.1 165 i rfl).trans eC
    obtain ⟨a, b, ha, hb, hb0, cA, cB⟩ := ch_all h (i := i) (t := t) (m := 1) hi (by omega) (by omega)
    obtain ⟨g1, g2⟩ := cA A hA
    have g1 : xm_112 A (nI i) (nI t) 1 = xm_100 A (lN a) (lN b) := g1
    have g2 : xp_112 A (nI i) (nI t) 1 := g2
    obtain ⟨L, l1, l2, l3, l4, l5, l6, l7, l8⟩ := cB B hB
    have eL : nI L = nI t := by
      rw [← l2]
      unfold xf_261
      rw [q3, eB]
      by_cases z : C ≤ t
      · rw [if_pos (nI_le z (by omega))]; congr 1; omega
      · rw [if_neg (nI_ge (by omega) (by omega))]
    rw [eL] at l4 l5 l6 l7
    have l4 : xf_262 B (nI i) (nI t) 1 = lN a := l4
    have l5 : xp_262 B (nI i) (nI t) 1 := l5
    have s := (lo_set (M := A) (a := a) (b := b) (by omega) (by omega) hb0).1
    have p0 : xf_102 (xm_100 A (lN a) (lN b)) 0 = lN (a / Nat.gcd a b) := by rw [s]; unfold xf_102; rw [if_pos rfl]; rfl
    have p1 : xf_102 (xm_100 A (lN a) (lN b)) 1 = lN (b / Nat.gcd a b) := by rw [s]; unfold xf_102; rw [if_neg (by decide)]; rfl
    have ex : (nI x).toInt64 = lN x := nI_l (by omega)
    have E := lo_eqv hA (a := a) (b := b) (by omega) (by omega) hb0
    have cm := en_cmp ha hb hb0 hx
    by_cases z : lg_cmp (12 * lN a) (lN x * lN b) < 0
    · have z2 := cm.mpr z
      obtain ⟨i1, i2, i3, i4, i5⟩ := ih (t + 1) n n2 _ B (by omega) (by omega) (by omega) E hB
      rw [xg_114_41, xq_114_41, xg_264_22, xq_264_22, q3, if_neg c0, g1, p0, p1, ex, if_pos z2, l4, l6, if_pos z, eB, if_neg c0, nI_1]
      rw [eB] at l7
      exact ⟨⟨fun y => absurd y c0, fun _ => ⟨g2, fun _ => i1, fun y => absurd z2 y⟩⟩, ⟨q4, fun y => absurd y c0, fun _ => ⟨l5, q4, l7, fun _ => i2, fun y => absurd z y⟩⟩, i3, i4, i5⟩
    · have z2 : ¬ lg_cmp (lN (a / Nat.gcd a b) * 12) (lN (b / Nat.gcd a b) * lN x) < 0 := fun y => z (cm.mp y)
      rw [xg_114_41, xq_114_41, xg_264_22, xq_264_22, q3, if_neg c0, g1, p0, p1, ex, if_neg z2, l4, l6, if_neg z, eB, if_neg c0]
      rw [eB] at l7
      exact ⟨⟨fun y => absurd y c0, fun _ => ⟨g2, fun y => absurd y z2, fun _ => trivial⟩⟩, ⟨q4, fun y => absurd y c0, fun _ => ⟨l5, q4, l7, fun y => absurd y z, fun _ => trivial⟩⟩, rfl, rfl, E⟩
theorem all_16 {M : ro_Mm} (h : ro_Inv M) {v1 v2 : Int32} : xp_114 M v1 v2 ∧ xp_264 (xm_114 M v1 v2) v1 v2 ∧ xf_264 (xm_114 M v1 v2) v1 v2 = xf_114 M v1 v2 ∧ ro_eqv M (xm_114 M v1 v2) := by
  obtain ⟨p, hp, e1, e2⟩ := ro_ppl h
  by_cases b1 : xf_29 M v1 = true
  · have f1 : ∀ A : ro_Mm, ro_eqv M A → xf_204 A v1 = true := fun A hA => by
      rw [ro_one_b (ro_eqv_i hA h)]
      unfold xf_29 at b1 ⊢
      rw [hA.2.1 5 4 rfl]; exact b1
    by_cases b2 : xf_13 M v2 0 12 = true
    · have f2 : ∀ A : ro_Mm, xf_195 A v2 0 12 = true := fun A => by rw [ro_w195]; exact ro_w13.mp b2
      obtain ⟨i, hi, ei⟩ := ro_one_i hp e1 b1
      obtain ⟨x, hx, ex⟩ := nI_of2 (x := v2) (M := 12) (n := 12) (by decide) (Int32.not_lt.mpr (ro_w13.mp b2).1) (ro_w13.mp b2).2
      have bi := h.2.1.2.1 i (by omega)
      obtain ⟨C, hC, eC⟩ := ro_20 bi.2.1.2
      have e165 : M.2.1 165 i = nI C := bi.2.1.1.trans eC
      have eall : ro_min (xf_30 M v1 1) 20 = nI C := by
        rw [ei, x30_1 (by omega), eC]
        have n20 : ¬ (20 : Int32) < nI C := nI_nlt (a := 20) (b := C) hC (by decide)
        unfold ro_min
        rw [if_neg n20]
      have R := fun B (hB : ro_eqv M B) => en_loop h (i := i) (x := x) (C := C) (by omega) hx hC e165 (C + 1) 0 lp_N lp_N M B (by omega) (lp_hug (by omega)) (lp_hug (by omega)) (ro_eqv_r h.1) hB
      have hm : xm_114 M v1 v2 = (xg_114_41 lp_N M (nI 0) (nI C) (nI i) (nI x)).2.2.2 := by
        unfold xm_114; rw [if_pos b1, if_pos b2, eall, ei, ex]; rfl
      obtain ⟨r1, r2, r3, r4, r5⟩ := R M (ro_eqv_r h.1)
      obtain ⟨s1, s2, s3, s4, s5⟩ := R _ r5
      rw [← hm] at s2 s3 s4 r5
      refine ⟨?_, ?_, ?_, r5⟩
      · unfold xp_114
        rw [eall, ei, ex]
        exact ⟨fun _ => ⟨fun _ => ⟨r1, trivial⟩, fun _ => trivial⟩, fun _ => trivial⟩
      · have s2 : xq_264_22 lp_N (xm_114 M v1 v2) 0 v1 v2 := by rw [← ei, ← ex] at s2; exact s2
        exact ⟨fun _ => ⟨fun _ => ⟨s2, trivial⟩, fun _ => trivial⟩, fun _ => trivial⟩
      · rw [← ei, ← ex] at s3 s4
        unfold xf_264 xf_114
        rw [if_pos (f1 _ r5), if_pos (f2 _), if_pos b1, if_pos b2, eall]
        have s3 : (xg_114_41 lp_N M 0 (nI C) v1 v2).1 = (xg_264_22 lp_N (xm_114 M v1 v2) 0 v1 v2).1 := s3
        have s4 : (xg_114_41 lp_N M 0 (nI C) v1 v2).2.1 = (xg_264_22 lp_N (xm_114 M v1 v2) 0 v1 v2).2.1 := s4
        rw [s3, s4]
    · have f2 : ¬ xf_195 M v2 0 12 = true := by rw [← ro_w13_195]; exact b2
      have hm : xm_114 M v1 v2 = M := by unfold xm_114; rw [if_pos b1, if_neg b2]
      rw [hm]
      refine ⟨⟨fun _ => ⟨fun y => absurd y b2, fun _ => trivial⟩, fun _ => trivial⟩, ⟨fun _ => ⟨fun y => absurd y f2, fun _ => trivial⟩, fun _ => trivial⟩, ?_, ro_eqv_r h.1⟩
      unfold xf_264 xf_114
      rw [if_pos (f1 _ (ro_eqv_r h.1)), if_neg f2, if_pos b1, if_neg b2]
  · have f1 : ¬ xf_204 M v1 = true := by rw [ro_one_b h]; exact b1
    have hm : xm_114 M v1 v2 = M := by unfold xm_114; rw [if_neg b1]
    rw [hm]
    refine ⟨⟨fun y => absurd y b1, fun _ => trivial⟩, ⟨fun y => absurd y f1, fun _ => trivial⟩, ?_, ro_eqv_r h.1⟩
    unfold xf_264 xf_114
    rw [if_neg f1, if_neg b1]
end ENOUGH

