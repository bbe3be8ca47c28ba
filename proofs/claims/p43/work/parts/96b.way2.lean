/-! ways behind an evening: keys of twelve digits, a number settled, a number moved -/
section WYB
abbrev iI (x : Int) : Int32 := Int32.ofInt x
theorem iI_t {x : Int} (h1 : -1000 ≤ x) (h2 : x ≤ 1000) : (iI x).toInt = x := Int32.toInt_ofInt_of_le (by omega) (by omega)
theorem iI_n (n : Nat) : iI (n : Int) = nI n := Int32.ofInt_eq_ofNat
theorem iI_add (x y : Int) : iI x + iI y = iI (x + y) := (Int32.ofInt_add x y).symm
theorem iI_lt {x y : Int} (h1 : -1000 ≤ x) (h2 : x ≤ 1000) (h3 : -1000 ≤ y) (h4 : y ≤ 1000) : iI x < iI y ↔ x < y := by
  rw [Int32.lt_iff_toInt_lt, iI_t h1 h2, iI_t h3 h4]
theorem iI_le {x y : Int} (h1 : -1000 ≤ x) (h2 : x ≤ 1000) (h3 : -1000 ≤ y) (h4 : y ≤ 1000) : iI x ≤ iI y ↔ x ≤ y := by
  rw [Int32.le_iff_toInt_le, iI_t h1 h2, iI_t h3 h4]
def wy_he (D : Nat → Nat) : Nat → Nat → Nat
  | _, 0 => 0
  | m, k + 1 => D m + 32 * wy_he D (m + 1) k
theorem wy_he_add (D : Nat → Nat) (k : Nat) : ∀ n m : Nat, wy_he D m (n + k) = wy_he D m n + 32 ^ n * wy_he D (m + n) k
  | 0, m => by
    rw [Nat.zero_add, Nat.pow_zero, Nat.one_mul, Nat.add_zero]
    exact (Nat.zero_add _).symm
  | n + 1, m => by
    have e : n + 1 + k = (n + k) + 1 := by omega
    have e2 : m + (n + 1) = m + 1 + n := by omega
    rw [e, e2]
    show D m + 32 * wy_he D (m + 1) (n + k) = (D m + 32 * wy_he D (m + 1) n) + 32 ^ (n + 1) * wy_he D (m + 1 + n) k
    have e3 : 32 ^ (n + 1) * wy_he D (m + 1 + n) k = 32 * (32 ^ n * wy_he D (m + 1 + n) k) := by rw [Nat.pow_succ, Nat.mul_comm (32 ^ n) 32, Nat.mul_assoc]
    rw [wy_he_add D k n (m + 1), Nat.mul_add, e3, ← Nat.add_assoc]
theorem wy_he_lt {D : Nat → Nat} : ∀ k m : Nat, (∀ i, m ≤ i → i < m + k → D i < 32) → wy_he D m k < 32 ^ k
  | 0, _, _ => Nat.zero_lt_one
  | k + 1, m, h => by
    have h1 := wy_he_lt k (m + 1) (fun i a b => h i (by omega) (by omega))
    have h2 := h m (Nat.le_refl _) (by omega)
    show D m + 32 * wy_he D (m + 1) k < 32 ^ (k + 1)
    rw [Nat.pow_succ]
    omega
theorem wy_he_c {D E : Nat → Nat} : ∀ k m : Nat, (∀ i, m ≤ i → i < m + k → D i = E i) → wy_he D m k = wy_he E m k
  | 0, _, _ => rfl
  | k + 1, m, h => by
    show D m + 32 * wy_he D (m + 1) k = E m + 32 * wy_he E (m + 1) k
    rw [wy_he_c k (m + 1) (fun i a b => h i (by omega) (by omega)), h m (Nat.le_refl _) (by omega)]
theorem wy_he_s {D : Nat → Nat} {n : Nat} (hn : n < 12) : wy_he D 0 12 = wy_he D 0 n + 32 ^ n * (D n + 32 * wy_he D (n + 1) (11 - n)) := by
  have e : 12 = n + (11 - n + 1) := by omega
  have h := wy_he_add D (11 - n + 1) n 0
  rw [← e, Nat.zero_add] at h
  exact h
theorem wy_he_m {D : Nat → Nat} (hD : ∀ n, n < 12 → D n < 32) : wy_he D 0 12 < 2 ^ 60 := Nat.lt_of_lt_of_le (wy_he_lt 12 0 (fun i _ b => hD i (by omega))) (by decide)
/-- keys alike: digits alike -/
theorem wy_he_i {D E : Nat → Nat} : ∀ k m : Nat, (∀ i, m ≤ i → i < m + k → D i < 32 ∧ E i < 32) → wy_he D m k = wy_he E m k → ∀ i, m ≤ i → i < m + k → D i = E i
  | 0, _, _, _ => fun i a b => absurd b (by omega)
  | k + 1, m, h, e => by
    have e2 : D m + 32 * wy_he D (m + 1) k = E m + 32 * wy_he E (m + 1) k := e
    obtain ⟨h1, h2⟩ := h m (Nat.le_refl _) (by omega)
    have e3 : D m = E m := by omega
    have e4 : wy_he D (m + 1) k = wy_he E (m + 1) k := by omega
    intro i a b
    by_cases q : i = m
    · rw [q]; exact e3
    · exact wy_he_i k (m + 1) (fun i a b => h i (by omega) (by omega)) e4 i (by omega) (by omega)
theorem wy_5 {n : Nat} : (5 : Int32) * nI n = nI (5 * n) := nI_mul 5 n
theorem wy_sm : ∀ n, n < 12 → ((lN (5 * n)).toBitVec.smod 64).toNat = 5 * n := by decide
theorem wy_p32 (n : Nat) : 2 ^ (5 * n) = 32 ^ n := Nat.pow_mul 2 5 n
theorem wy_get {D : Nat → Nat} (hD : ∀ n, n < 12 → D n < 32) {n : Nat} (hn : n < 12) : ((ro_lshr (lN (wy_he D 0 12)) ((5 : Int32) * nI n)).toInt32) &&& (31 : Int32) = nI (D n) := by
  have hk := wy_he_m hD
  have e1 : ro_lshr (lN (wy_he D 0 12)) ((5 : Int32) * nI n) = lN (wy_he D 0 12 / 2 ^ (5 * n)) := by
    unfold ro_lshr
    rw [wy_5, wb_c (5 * n) (by omega)]
    exact pf_shr (d := 5 * n) (wy_sm n hn) (Nat.lt_of_lt_of_le hk (by decide))
  have e2 : ∀ x : Nat, nI x &&& (31 : Int32) = nI (x &&& 31) := fun x => nx_and x 31
  have e3 : ∀ x : Nat, x &&& 31 = x % 32 := fun x => Nat.and_two_pow_sub_one_eq_mod x 5
  rw [e1, lN_i, e2, e3, wy_p32, wy_he_s hn, Nat.add_mul_div_left _ _ (Nat.pow_pos (by decide)), Nat.div_eq_of_lt (wy_he_lt n 0 (fun i _ b => hD i (by omega))), Nat.zero_add]
  have := hD n hn
  exact congrArg nI (by omega)
theorem wy_bits {lo d x hi k : Nat} (h1 : lo < 2 ^ k) (h2 : d < 32) (h3 : x < 32) (hk : k < 59) (h4 : lo + 2 ^ k * (d + 32 * hi) < 2 ^ 60) : ((lo + 2 ^ k * (d + 32 * hi)) &&& ((31 * 2 ^ k) ^^^ (2 ^ 64 - 1))) ||| (x * 2 ^ k) = lo + 2 ^ k * (x + 32 * hi) := by
  have tb : ∀ y j, y < 32 → (lo + 2 ^ k * (y + 32 * hi)).testBit j = if j < k then lo.testBit j else if j < k + 5 then y.testBit (j - k) else hi.testBit (j - k - 5) := by
    intro y j hy
    rw [Nat.add_comm lo, Nat.testBit_two_pow_mul_add _ h1]
    by_cases a : j < k
    · rw [if_pos a, if_pos a]
    · rw [if_neg a, if_neg a, Nat.add_comm y]
      have e := Nat.testBit_two_pow_mul_add (i := 5) hi hy (j - k)
      have e0 : 2 ^ 5 * hi + y = 32 * hi + y := rfl
      rw [e0] at e
      rw [e]
      by_cases b : j < k + 5
      · rw [if_pos b, if_pos (by omega)]
      · rw [if_neg b, if_neg (by omega)]
  have t31 : ∀ j, Nat.testBit 31 j = decide (j < 5) := fun j => Nat.testBit_two_pow_sub_one 5 j
  apply Nat.eq_of_testBit_eq
  intro j
  rw [Nat.testBit_or, Nat.testBit_and, Nat.testBit_xor, tb d j h2, tb x j h3, Nat.testBit_mul_two_pow, Nat.testBit_mul_two_pow, Nat.testBit_two_pow_sub_one, t31]
  by_cases a : j < k
  · have b1 : ¬ k ≤ j := by omega
    have b2 : j < 64 := by omega
    simp [a, b1, b2]
  · have b1 : k ≤ j := by omega
    by_cases b : j < k + 5
    · have b2 : j < 64 := by omega
      have b3 : j - k < 5 := by omega
      simp [a, b, b1, b2, b3]
    · have b3 : ¬ j - k < 5 := by omega
      have x0 : x.testBit (j - k) = false := Nat.testBit_lt_two_pow (Nat.lt_of_lt_of_le h3 (show 2 ^ 5 ≤ 2 ^ (j - k) from Nat.pow_le_pow_right (by decide) (by omega)))
      by_cases c : j < 64
      · simp [a, b, b1, b3, c, x0]
      · have h0 : hi.testBit (j - k - 5) = false := by
          have t := tb d j h2
          rw [if_neg a, if_neg b] at t
          rw [← t]
          exact Nat.testBit_lt_two_pow (Nat.lt_of_lt_of_le h4 (Nat.pow_le_pow_right (by decide) (by omega)))
        simp [a, b, b1, b3, c, x0, h0]
def wy_up {α : Type} (g : Nat → α) (n : Nat) (x : α) : Nat → α := fun m => if m = n then x else g m
theorem wy_up_e {α : Type} {g : Nat → α} {n : Nat} {x : α} : wy_up g n x n = x := if_pos rfl
theorem wy_up_n {α : Type} {g : Nat → α} {n m : Nat} {x : α} (h : m ≠ n) : wy_up g n x m = g m := if_neg h
theorem wy_set {D : Nat → Nat} (hD : ∀ n, n < 12 → D n < 32) {n : Nat} (hn : n < 12) {x : Nat} (hx : x < 32) : ((lN (wy_he D 0 12) &&& ((ro_lshl (31 : Int64) ((5 : Int32) * nI n)) ^^^ (-1 : Int64))) ||| (ro_lshl (lN x) ((5 : Int32) * nI n))) = lN (wy_he (wy_up D n x) 0 12) := by
  have hk := wy_he_m hD
  have e1 : ∀ y : Nat, ro_lshl (lN y) ((5 : Int32) * nI n) = lN (y * 2 ^ (5 * n)) := by
    intro y
    unfold ro_lshl
    rw [wy_5]
    exact wb_shl y (by omega)
  have e2 : (-1 : Int64) = lN (2 ^ 64 - 1) := by decide
  have e3 : (31 : Int64) = lN 31 := rfl
  rw [e3, e1, e1, e2, lN_xor, fb_andL, fb_orL]
  have s1 := wy_he_s (D := D) hn
  have s2 := wy_he_s (D := wy_up D n x) hn
  rw [wy_up_e, wy_he_c (D := wy_up D n x) (E := D) n 0 (fun i _ b => wy_up_n (by omega)), wy_he_c (D := wy_up D n x) (E := D) (11 - n) (n + 1) (fun i a _ => wy_up_n (by omega))] at s2
  rw [s2]
  rw [s1, ← wy_p32] at hk
  rw [s1, ← wy_p32]
  rw [wy_bits (by rw [wy_p32]; exact wy_he_lt n 0 (fun i _ b => hD i (by omega))) (hD n hn) hx (by omega) hk]
/-- a number's digit -/
def wy_dd (U : Nat → wy_W) (f : Nat → Int) (n : Nat) : Nat := if wy_in (f n) (U n).2 then 31 else (f n).toNat
/-- the key of numbers, by windows -/
def wy_kr (U : Nat → wy_W) (k : Int64) (f : Nat → Int) : Prop := (∀ n, n < 12 → wy_in (f n) (U n).1 ∧ 0 ≤ f n ∧ f n ≤ 20) ∧ k = lN (wy_he (wy_dd U f) 0 12)
theorem wy_dd_lt {U : Nat → wy_W} {k : Int64} {f : Nat → Int} (h : wy_kr U k f) : ∀ n, n < 12 → wy_dd U f n < 32 := by
  intro n hn
  obtain ⟨_, h1, h2⟩ := h.1 n hn
  unfold wy_dd
  split <;> omega
theorem wy_kr_c {U V : Nat → wy_W} {k : Int64} {f g : Nat → Int} (h : wy_kr U k f) (e : ∀ n, n < 12 → V n = U n ∧ g n = f n) : wy_kr V k g := by
  refine ⟨fun n hn => by rw [(e n hn).1, (e n hn).2]; exact h.1 n hn, ?_⟩
  rw [h.2]
  refine congrArg lN (wy_he_c 12 0 (fun i _ b => ?_))
  unfold wy_dd
  rw [(e i (by omega)).1, (e i (by omega)).2]
theorem wy_kr_p {U : Nat → wy_W} {k : Int64} {f : Nat → Int} (h : wy_kr U k f) : ¬ lg_cmp k 0 < 0 ∧ ¬ k < 0 := by
  rw [h.2]
  have hk := wy_he_m (wy_dd_lt h)
  have := pe_cmp0 (Nat.lt_of_lt_of_le hk (by decide))
  exact ⟨this, fun q => this ((lg_cmp_lt _ _).mpr q)⟩
/-- windows as they lie, of a level -/
def wy_ww (M : ro_Mm) (l : Nat) (W : Nat → wy_W) : Prop := ∀ n, n < 12 → M.2.1 (64 + l) n = iI (W n).1.1 ∧ M.2.1 (86 + l) n = iI (W n).1.2 ∧ M.2.1 (108 + l) n = iI (W n).2.1 ∧ M.2.1 (130 + l) n = iI (W n).2.2 ∧ wy_z (W n)
theorem wy_z_b {W : wy_W} (h : wy_z W) : (-1000 ≤ W.1.1 ∧ W.1.1 ≤ 1000) ∧ (-1000 ≤ W.1.2 ∧ W.1.2 ≤ 1000) ∧ (-1000 ≤ W.2.1 ∧ W.2.1 ≤ 1000) ∧ (-1000 ≤ W.2.2 ∧ W.2.2 ≤ 1000) := by
  obtain ⟨⟨a, b⟩, c, d⟩ := W
  obtain ⟨h1, h2, _⟩ := h
  simp only [Prod.mk.injEq] at h1 h2
  refine ⟨?_, ?_, ?_, ?_⟩ <;> simp only <;> omega
theorem wy_z_i {W : wy_W} (h : wy_z W) {v : Int} (hv : wy_in v W.1) : 0 ≤ v ∧ v ≤ 20 := by
  obtain ⟨⟨a, b⟩, c, d⟩ := W
  obtain ⟨h1, h2, _⟩ := h
  simp only [Prod.mk.injEq] at h1 h2
  obtain ⟨v1, v2⟩ := hv
  simp only at v1 v2
  omega
theorem wy_130 {M : ro_Mm} {l : Nat} {W U : Nat → wy_W} {k : Int64} {f : Nat → Int} {n : Nat} {v : Int} (hl : l ≤ 20) (hw : wy_ww M l W) (hk : wy_kr U k f) (hn : n < 12) (hv1 : -1 ≤ v) (hv2 : v ≤ 21) :
    (wy_in v (W n).1 → wy_kr (wy_up U n (W n)) (xf_130 M (nI l) k (nI n) (iI v)) (wy_up f n v)) ∧ (¬ wy_in v (W n).1 → xf_130 M (nI l) k (nI n) (iI v) = -1) := by
  obtain ⟨w1, w2, w3, w4, wz⟩ := hw n hn
  obtain ⟨⟨b1, b2⟩, ⟨b3, b4⟩, ⟨b5, b6⟩, ⟨b7, b8⟩⟩ := wy_z_b wz
  have c0 := (wy_kr_p hk).1
  have c1 : ¬ nI l < 0 := nI_pos (by omega)
  have c2 : ¬ (20 : Int32) < nI l := nI_nlt (b := l) (a := 20) hl (by decide)
  have c3 : ¬ nI n < 0 := nI_pos (by omega)
  have c4 : nI n < (12 : Int32) := nI_lt (b := 12) hn (by decide)
  have el : (nI l).toNatClampNeg = l := nI_clamp (by omega)
  have en : (nI n).toNatClampNeg = n := nI_clamp (by omega)
  have d1 : iI v < M.2.1 (64 + l) n ↔ v < (W n).1.1 := by rw [w1]; exact iI_lt (by omega) (by omega) b1 b2
  have d2 : iI v ≤ M.2.1 (86 + l) n ↔ v ≤ (W n).1.2 := by rw [w2]; exact iI_le (by omega) (by omega) b3 b4
  have d3 : iI v < M.2.1 (108 + l) n ↔ v < (W n).2.1 := by rw [w3]; exact iI_lt (by omega) (by omega) b5 b6
  have d4 : M.2.1 (130 + l) n < iI v ↔ (W n).2.2 < v := by rw [w4]; exact iI_lt b7 b8 (by omega) (by omega)
  unfold xf_130
  rw [if_neg c0, if_neg c1, if_neg c2, if_neg c3, if_pos c4, el, en]
  constructor
  · intro hi
    obtain ⟨v0, v20⟩ := wy_z_i wz hi
    have q1 : ¬ iI v < M.2.1 (64 + l) n := by rw [d1]; have := hi.1; omega
    have q2 : iI v ≤ M.2.1 (86 + l) n := by rw [d2]; exact hi.2
    rw [if_neg q1, if_pos q2]
    have hD := wy_dd_lt hk
    have main : ∀ x : Nat, x < 32 → wy_dd (wy_up U n (W n)) (wy_up f n v) n = x → wy_kr (wy_up U n (W n)) ((k &&& ((ro_lshl (31 : Int64) ((5 : Int32) * nI n)) ^^^ (-1 : Int64))) ||| (ro_lshl (lN x) ((5 : Int32) * nI n))) (wy_up f n v) := by
      intro x hx ex
      refine ⟨fun m hm => ?_, ?_⟩
      · by_cases q : m = n
        · subst q
          rw [wy_up_e, wy_up_e]
          exact ⟨hi, v0, v20⟩
        · rw [wy_up_n q, wy_up_n q]
          exact hk.1 m hm
      · rw [hk.2, wy_set hD hn hx]
        refine congrArg lN (wy_he_c 12 0 (fun i _ b => ?_))
        by_cases q : i = n
        · subst q
          rw [wy_up_e, ex]
        · rw [wy_up_n q]
          unfold wy_dd
          rw [wy_up_n q, wy_up_n q]
    have ev : (iI v).toInt64 = lN v.toNat := by
      have e : iI v = nI v.toNat := by rw [← iI_n, Int.toNat_of_nonneg v0]
      rw [e]
      exact nI_l (by omega)
    by_cases s : wy_in v (W n).2
    · have q3 : ¬ iI v < M.2.1 (108 + l) n := by rw [d3]; have := s.1; omega
      have q4 : ¬ M.2.1 (130 + l) n < iI v := by rw [d4]; have := s.2; omega
      rw [if_neg q3, if_neg q4]
      refine main 31 (by decide) ?_
      unfold wy_dd
      rw [wy_up_e, wy_up_e, if_pos s]
    · have m2 := main v.toNat (by omega) (by unfold wy_dd; rw [wy_up_e, wy_up_e, if_neg s])
      rw [ev]
      by_cases q3 : iI v < M.2.1 (108 + l) n
      · rw [if_pos q3]; exact m2
      · have q4 : M.2.1 (130 + l) n < iI v := by
          rw [d4]
          rw [d3] at q3
          by_cases z : (W n).2.2 < v
          · exact z
          · exact absurd ⟨by omega, by omega⟩ s
        rw [if_neg q3, if_pos q4]; exact m2
  · intro hi
    by_cases q1 : iI v < M.2.1 (64 + l) n
    · rw [if_pos q1]
    · have q2 : ¬ iI v ≤ M.2.1 (86 + l) n := by
        rw [d2]
        rw [d1] at q1
        intro z
        exact hi ⟨by omega, z⟩
      rw [if_neg q1, if_neg q2]
theorem wy_135n {M : ro_Mm} {v1 v4 v5 : Int32} : xf_135 M v1 (-1) v4 v5 = -1 := by
  unfold xf_135
  rw [if_pos (by decide)]
theorem wy_135 {M : ro_Mm} {l : Nat} {W U : Nat → wy_W} {k : Int64} {f : Nat → Int} {n : Nat} {y : Int} (hl : l ≤ 20) (hw : wy_ww M l W) (hk : wy_kr U k f) (hn : n < 12) (hy1 : -1 ≤ y) (hy2 : y ≤ 1) (hs : wy_in (f n) (U n).2 → wy_in (f n + y) (W n).2) :
    (wy_in (f n + y) (W n).1 → wy_kr (wy_up U n (W n)) (xf_135 M (nI l) k (nI n) (iI y)) (wy_up f n (f n + y))) ∧ (¬ wy_in (f n + y) (W n).1 → xf_135 M (nI l) k (nI n) (iI y) = -1) := by
  obtain ⟨f1, f2, f3⟩ := hk.1 n hn
  have wz := (hw n hn).2.2.2.2
  have c0 := (wy_kr_p hk).1
  have c3 : ¬ nI n < 0 := nI_pos (by omega)
  have c4 : nI n < (12 : Int32) := nI_lt (b := 12) hn (by decide)
  have hD := wy_dd_lt hk
  have hg : ((ro_lshr k ((5 : Int32) * nI n)).toInt32) &&& (31 : Int32) = nI (wy_dd U f n) := by rw [hk.2]; exact wy_get hD hn
  unfold xf_135
  rw [if_neg c0, if_neg c3, if_pos c4, hg]
  by_cases s : wy_in (f n) (U n).2
  · have e31 : wy_dd U f n = 31 := if_pos s
    have s2 := hs s
    have s3 := wz.2.2 _ s2
    have e32 : nI 31 = (31 : Int32) := rfl
    rw [e31, if_pos e32]
    refine ⟨fun hi => ⟨fun m hm => ?_, ?_⟩, fun hi => absurd s3 hi⟩
    · by_cases q : m = n
      · subst q
        rw [wy_up_e, wy_up_e]
        exact ⟨hi, wy_z_i wz hi⟩
      · rw [wy_up_n q, wy_up_n q]
        exact hk.1 m hm
    · rw [hk.2]
      refine congrArg lN (wy_he_c 12 0 (fun i _ b => ?_))
      by_cases q : i = n
      · subst q
        rw [e31]
        unfold wy_dd
        rw [wy_up_e, wy_up_e, if_pos s2]
      · unfold wy_dd
        rw [wy_up_n q, wy_up_n q]
  · have ed : wy_dd U f n = (f n).toNat := if_neg s
    have n31 : ¬ nI (f n).toNat = (31 : Int32) := by
      intro q
      have := (nI_eq (a := (f n).toNat) (b := 31) (by omega) (by decide)).mp q
      omega
    have ev : nI (f n).toNat + iI y = iI (f n + y) := by rw [← iI_n, Int.toNat_of_nonneg f2, iI_add]
    rw [ed, if_neg n31, ev]
    exact wy_130 hl hw hk hn (by omega) (by omega)
end WYB

