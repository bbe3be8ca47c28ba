/-! fractions in lowest terms, as both make them -/
section LOWEST
theorem lN_div {a b : Nat} (ha : a < 2 ^ 63) (hb : b < 2 ^ 63) : lN a / lN b = lN (a / b) := by
  have hd : a / b < 2 ^ 63 := Nat.lt_of_le_of_lt (Nat.div_le_self a b) ha
  apply Int64.toInt_inj.mp
  rw [Int64.toInt_div, lN_int ha, lN_int hb, lN_int hd, ← Int.ofNat_tdiv]
  generalize a / b = q at hd ⊢
  exact Int.bmod_eq_of_le (by omega) (by omega)
theorem lN_rem {a b : Nat} (ha : a < 2 ^ 63) (hb : b < 2 ^ 63) : ro_lrem (lN a) (lN b) = lN (a % b) := by
  unfold ro_lrem
  rw [lN_div ha hb, lN_mul]
  have e : lN a = lN (a / b * b) + lN (a % b) := by
    rw [lN_add]
    congr 1
    have := Nat.div_add_mod a b
    rw [Nat.mul_comm] at this
    omega
  rw [e, Int64.add_comm, Int64.add_sub_cancel]
theorem lN_inj {a b : Nat} (ha : a < 2 ^ 63) (hb : b < 2 ^ 63) : lN a = lN b ↔ a = b := by
  constructor
  · intro h
    have := congrArg Int64.toInt h
    rw [lN_int ha, lN_int hb] at this
    omega
  · intro h; rw [h]
theorem lN_leI {a b : Nat} (ha : a < 2 ^ 63) (hb : b < 2 ^ 63) : lN a ≤ lN b ↔ a ≤ b := by
  rw [Int64.le_iff_toInt_le, lN_int ha, lN_int hb]; omega
theorem lN_ltI {a b : Nat} (ha : a < 2 ^ 63) (hb : b < 2 ^ 63) : lN a < lN b ↔ a < b := by
  rw [Int64.lt_iff_toInt_lt, lN_int ha, lN_int hb]; omega
theorem lN_z : lN 0 = 0 := rfl
theorem lo_cmp0 {a : Nat} (ha : a < 2 ^ 63) : (lg_cmp (lN a) 0 = 0) ↔ a = 0 := by
  rw [lg_cmp_eq, ← lN_z, lN_inj ha (by decide)]
theorem lo_ne0 {a : Nat} (ha : a < 2 ^ 63) (h : 0 < a) : ¬ lN a = 0 := by
  rw [← lN_z, lN_inj ha (by decide)]; omega
theorem lo_gcd (a b : Nat) : Nat.gcd a b = Nat.gcd b (a % b) := by
  rw [Nat.gcd_comm a b, Nat.gcd_rec b a, Nat.gcd_comm]
/-- the class's: at most 200 steps, which are enough -/
theorem lo_101 {M : ro_Mm} : ∀ (k a b i n : Nat), a < 2 ^ 63 → b < 2 ^ 63 → b < 2 ^ k → i + 2 * k + 1 ≤ 200 → 2 * k + 1 < n → (xg_101_3 n M (nI i) (lN a) (lN b)).2.1 = lN (Nat.gcd a b) ∧ xq_101_3 n M (nI i) (lN a) (lN b) := by
  -- one step, and the end
  have st : ∀ (a b i n : Nat), a < 2 ^ 63 → b < 2 ^ 63 → 0 < b → i < 200 → xg_101_3 (n + 1) M (nI i) (lN a) (lN b) = xg_101_3 n M (nI (i + 1)) (lN b) (lN (a % b)) ∧ (xq_101_3 n M (nI (i + 1)) (lN b) (lN (a % b)) → xq_101_3 (n + 1) M (nI i) (lN a) (lN b)) := by
    intro a b i n ha hb hb0 hi
    have c0 : ¬ (200 : Int32) ≤ nI i := nI_ge (b := 200) hi (by decide)
    have c1 : ¬ lg_cmp (lN b) 0 = 0 := by rw [lo_cmp0 hb]; omega
    rw [xg_101_3, xq_101_3, if_neg c0, if_neg c1, lN_rem ha hb, nI_1]
    exact ⟨rfl, fun g => ⟨fun y => absurd y c0, fun _ => ⟨fun y => absurd y c1, fun _ => ⟨lo_ne0 hb hb0, g⟩⟩⟩⟩
  have en : ∀ (a i n : Nat), a < 2 ^ 63 → i ≤ 200 → (xg_101_3 (n + 1) M (nI i) (lN a) (lN 0)).2.1 = lN (Nat.gcd a 0) ∧ xq_101_3 (n + 1) M (nI i) (lN a) (lN 0) := by
    intro a i n ha hi
    have c1 : lg_cmp (lN 0) 0 = 0 := by rw [lo_cmp0 (by decide)]
    rw [xg_101_3, xq_101_3, if_pos c1, Nat.gcd_zero_right, ite_self]
    exact ⟨rfl, fun _ => trivial, fun _ => ⟨fun _ => trivial, fun y => absurd c1 y⟩⟩
  intro k
  induction k with
  | zero =>
    intro a b i n ha hb h2 hi hn
    have : b = 0 := by omega
    subst this
    obtain ⟨n, rfl⟩ : ∃ m, n = m + 1 := ⟨n - 1, by omega⟩
    exact en a i n ha (by omega)
  | succ k ih =>
    intro a b i n ha hb h2 hi hn
    obtain ⟨n, rfl⟩ : ∃ m, n = m + 1 := ⟨n - 1, by omega⟩
    by_cases b0 : b = 0
    · subst b0; exact en a i n ha (by omega)
    · have hr : a % b < b := Nat.mod_lt _ (by omega)
      obtain ⟨s1, s2⟩ := st a b i n ha hb (by omega) (by omega)
      rw [s1, lo_gcd a b]
      obtain ⟨n, rfl⟩ : ∃ m, n = m + 1 := ⟨n - 1, by omega⟩
      by_cases r0 : a % b = 0
      · rw [r0] at s2 ⊢
        obtain ⟨e1, e2⟩ := en b (i + 1) n hb (by omega)
        exact ⟨e1, s2 e2⟩
      · have hr2 : b % (a % b) < a % b := Nat.mod_lt _ (by omega)
        have half : b % (a % b) < 2 ^ k := by
          have h3 := Nat.div_add_mod b (a % b)
          have h4 : 0 < b / (a % b) := Nat.div_pos (by omega) (by omega)
          have h5 : a % b ≤ (a % b) * (b / (a % b)) := Nat.le_mul_of_pos_right _ h4
          rw [Nat.pow_succ] at h2
          omega
        obtain ⟨t1, t2⟩ := st b (a % b) (i + 1) n hb (by omega) (by omega) (by omega)
        obtain ⟨u1, u2⟩ := ih (a % b) (b % (a % b)) (i + 1 + 1) n (by omega) (by omega) half (by omega) (by omega)
        rw [t1, lo_gcd b (a % b)]
        exact ⟨u1, s2 (t2 u2)⟩
/-- the reference's -/
theorem lo_254 {M : ro_Mm} {v0 v2 : Int64} {v4 : Int32} : ∀ (k a b n : Nat), a < 2 ^ 63 → b < 2 ^ 63 → b < 2 ^ k → 2 * k + 1 < n → (xg_254_16 n M (lN b) (lN a) v0 v2 v4).2 = lN (Nat.gcd a b) ∧ xq_254_16 n M (lN b) (lN a) v0 v2 v4 := by
  have st : ∀ (a b n : Nat), a < 2 ^ 63 → b < 2 ^ 63 → 0 < b → xg_254_16 (n + 1) M (lN b) (lN a) v0 v2 v4 = xg_254_16 n M (lN (a % b)) (lN b) v0 v2 v4 ∧ (xq_254_16 n M (lN (a % b)) (lN b) v0 v2 v4 → xq_254_16 (n + 1) M (lN b) (lN a) v0 v2 v4) := by
    intro a b n ha hb hb0
    have c1 : ¬ lg_cmp (lN b) 0 = 0 := by rw [lo_cmp0 hb]; omega
    rw [xg_254_16, xq_254_16, if_neg c1, lN_rem ha hb]
    exact ⟨rfl, fun g => ⟨fun y => absurd y c1, fun _ => ⟨lo_ne0 hb hb0, g⟩⟩⟩
  have en : ∀ (a n : Nat), (xg_254_16 (n + 1) M (lN 0) (lN a) v0 v2 v4).2 = lN (Nat.gcd a 0) ∧ xq_254_16 (n + 1) M (lN 0) (lN a) v0 v2 v4 := by
    intro a n
    have c1 : lg_cmp (lN 0) 0 = 0 := by rw [lo_cmp0 (by decide)]
    rw [xg_254_16, xq_254_16, if_pos c1, Nat.gcd_zero_right]
    exact ⟨rfl, fun _ => trivial, fun y => absurd c1 y⟩
  intro k
  induction k with
  | zero =>
    intro a b n ha hb h2 hn
    have : b = 0 := by omega
    subst this
    obtain ⟨n, rfl⟩ : ∃ m, n = m + 1 := ⟨n - 1, by omega⟩
    exact en a n
  | succ k ih =>
    intro a b n ha hb h2 hn
    obtain ⟨n, rfl⟩ : ∃ m, n = m + 1 := ⟨n - 1, by omega⟩
    by_cases b0 : b = 0
    · subst b0; exact en a n
    · have hr : a % b < b := Nat.mod_lt _ (by omega)
      obtain ⟨s1, s2⟩ := st a b n ha hb (by omega)
      rw [s1, lo_gcd a b]
      obtain ⟨n, rfl⟩ : ∃ m, n = m + 1 := ⟨n - 1, by omega⟩
      by_cases r0 : a % b = 0
      · rw [r0] at s2 ⊢
        obtain ⟨e1, e2⟩ := en b n
        exact ⟨e1, s2 e2⟩
      · have hr2 : b % (a % b) < a % b := Nat.mod_lt _ (by omega)
        have half : b % (a % b) < 2 ^ k := by
          have h3 := Nat.div_add_mod b (a % b)
          have h4 : 0 < b / (a % b) := Nat.div_pos (by omega) (by omega)
          have h5 : a % b ≤ (a % b) * (b / (a % b)) := Nat.le_mul_of_pos_right _ h4
          rw [Nat.pow_succ] at h2
          omega
        obtain ⟨t1, t2⟩ := st b (a % b) n hb (by omega) (by omega)
        obtain ⟨u1, u2⟩ := ih (a % b) (b % (a % b)) n (by omega) (by omega) half (by omega)
        rw [t1, lo_gcd b (a % b)]
        exact ⟨u1, s2 (t2 u2)⟩
/-- both of them, a fraction a by b -/
theorem lo_set {M : ro_Mm} {a b : Nat} (ha : a < 2 ^ 63) (hb : b < 2 ^ 63) (hb0 : 0 < b) : xm_100 M (lN a) (lN b) = ro_sJ (ro_sJ M 48 5 (lN (a / Nat.gcd a b))) 48 6 (lN (b / Nat.gcd a b)) ∧ xp_100 M (lN a) (lN b) := by
  obtain ⟨g1, g2⟩ := lo_101 (M := M) 63 a b 0 lp_N ha hb hb (by decide) (lp_hug (by decide))
  have g1 : xf_101 M (lN a) (lN b) = lN (Nat.gcd a b) := g1
  have gp : 0 < Nat.gcd a b := Nat.gcd_pos_of_pos_right a hb0
  have gl : Nat.gcd a b ≤ b := Nat.gcd_le_right a hb0
  have gm : ro_maxl 1 (lN (Nat.gcd a b)) = lN (Nat.gcd a b) := by
    unfold ro_maxl
    have : ¬ lN (Nat.gcd a b) < 1 := by
      show ¬ lN (Nat.gcd a b) < lN 1
      rw [lN_ltI (by omega) (by decide)]; omega
    rw [if_neg this]
  constructor
  · unfold xm_100
    rw [g1, gm, lN_div ha (by omega), lN_div hb (by omega)]
  · unfold xp_100
    rw [g1, gm]
    exact ⟨⟨g2, trivial⟩, lo_ne0 (by omega) gp, lo_ne0 (by omega) gp, trivial⟩
theorem lo_low {M : ro_Mm} {a b : Nat} {v4 : Int32} (ha : a < 2 ^ 63) (hb : b < 2 ^ 63) (hb0 : 0 < b) (hv : v4 = 0 ∨ v4 = 1) : xf_254 M (lN a) (lN b) v4 = (if v4 = 0 then lN (a / Nat.gcd a b) else lN (b / Nat.gcd a b)) ∧ xp_254 M (lN a) (lN b) v4 := by
  by_cases a0 : a = 0
  · have c : lg_cmp (lN a) 0 = 0 := by rw [lo_cmp0 ha]; exact a0
    unfold xf_254 xp_254
    rw [if_pos c, a0, Nat.gcd_zero_left, Nat.zero_div, Nat.div_self hb0]
    rw [a0] at c
    refine ⟨?_, fun _ => trivial, fun y => absurd c y⟩
    rcases hv with rfl | rfl <;> decide
  · have c : ¬ lg_cmp (lN a) 0 = 0 := by rw [lo_cmp0 ha]; exact a0
    obtain ⟨g1, g2⟩ := lo_254 (M := M) (v0 := lN a) (v2 := lN b) (v4 := v4) 63 a b lp_N ha hb hb (lp_hug (by decide))
    have gp : 0 < Nat.gcd a b := Nat.gcd_pos_of_pos_right a hb0
    have gl : Nat.gcd a b ≤ b := Nat.gcd_le_right a hb0
    unfold xf_254 xp_254
    rw [if_neg c, g1, lN_div ha (by omega), lN_div hb (by omega)]
    exact ⟨rfl, fun y => absurd y c, fun _ => ⟨g2, fun _ => ⟨lo_ne0 (by omega) gp, trivial⟩, fun _ => ⟨lo_ne0 (by omega) gp, trivial⟩⟩⟩
/-- what the class keeps and the reference answers -/
theorem lo_part {M B : ro_Mm} {a b : Nat} {v4 : Int32} (ha : a < 2 ^ 63) (hb : b < 2 ^ 63) (hb0 : 0 < b) (hv : v4 = 0 ∨ v4 = 1) : xf_254 B (lN a) (lN b) v4 = xf_102 (xm_100 M (lN a) (lN b)) v4 ∧ xp_254 B (lN a) (lN b) v4 := by
  obtain ⟨l1, l2⟩ := lo_low (M := B) ha hb hb0 hv
  refine ⟨?_, l2⟩
  rw [l1, (lo_set ha hb hb0).1]
  unfold xf_102
  rcases hv with e | e <;> subst e
  · rw [if_pos rfl, if_pos rfl]; rfl
  · rw [if_neg (by decide), if_neg (by decide)]; rfl
theorem lo_eqv {M A : ro_Mm} {a b : Nat} (h : ro_eqv M A) (ha : a < 2 ^ 63) (hb : b < 2 ^ 63) (hb0 : 0 < b) : ro_eqv M (xm_100 A (lN a) (lN b)) := by
  rw [(lo_set ha hb hb0).1]
  refine ⟨h.1, h.2.1, fun c j e => ?_⟩
  have n : c ≠ 48 := fun q => by rw [q] at e; exact Bool.noConfusion e
  rw [ro_sJ_ne n, ro_sJ_ne n]
  exact h.2.2 c j e
theorem lo_is {v : Int32} {M : ro_Mm} : (xf_95 M v = true) ↔ (v = 0 ∨ v = 1) := by
  unfold xf_95
  by_cases a : v = 0
  · simp [a]
  · by_cases b : v = 1
    · simp [b]
    · simp [a, b]
theorem lo_is2 {v : Int32} {M : ro_Mm} : (xf_195 M v 0 1 = true) ↔ (v = 0 ∨ v = 1) := by
  rw [ro_w195]
  constructor
  · intro h; grind
  · intro h; grind
end LOWEST

