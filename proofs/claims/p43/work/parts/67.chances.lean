/-! forged ones that are found: pairs test, enough, honest -/
section CHANCES
variable {X : ro_Sx}
theorem nI_sub {a b : Nat} (h : b ≤ a) : nI a - nI b = nI (a - b) := by
  have e : nI a = nI (a - b) + nI b := by rw [nI_add]; congr 1; omega
  rw [e, Int32.add_sub_cancel]
def ch_cc (n : Nat) : Nat → Nat
  | 0 => 1
  | i + 1 => ch_cc n i * (n - i) / (i + 1)
def ch_cr (d : Nat) : Nat → Nat
  | 0 => 1
  | i + 1 => ch_cr d i * (d + (i + 1)) / (i + 1)
theorem ch_b0 : ∀ n, n < 21 → ∀ k, k < 21 → ch_cc n k ≤ 200000 := by decide +kernel
theorem ch_e0 : ∀ n, n < 21 → ∀ k, k < 21 → k ≤ n → ch_cr (n - k) k = ch_cc n k ∧ 0 < ch_cc n k := by decide +kernel
theorem ch_r0 : ∀ d, d < 21 → ∀ k, k < 21 → d + k ≤ 20 → ch_cr d k ≤ 200000 := by decide +kernel
def ch_wy (n k : Nat) : Nat := if k ≤ n then ch_cc n k else 0
theorem ch_wb {n k : Nat} (hn : n ≤ 20) (hk : k ≤ 20) : ch_wy n k ≤ 200000 := by
  unfold ch_wy
  by_cases h : k ≤ n
  · rw [if_pos h]; exact ch_b0 n (by omega) k (by omega)
  · rw [if_neg h]; exact Nat.zero_le _
theorem ch_g113 {M : ro_Mm} {N K : Nat} (hN : N ≤ 20) (hK : K ≤ N) : ∀ (d i n : Nat), i + d = K → d < n → (xg_113_16 n M (nI i) (lN (ch_cc N i)) (nI N) (nI K)).2 = lN (ch_cc N K) ∧ xq_113_16 n M (nI i) (lN (ch_cc N i)) (nI N) (nI K) := by
  intro d
  induction d with
  | zero =>
    intro i n hi hn
    obtain ⟨n, rfl⟩ : ∃ m, n = m + 1 := ⟨n - 1, by omega⟩
    have c0 : nI K ≤ nI i := nI_le (by omega) (by omega)
    have : i = K := by omega
    rw [xg_113_16, xq_113_16, if_pos c0, this]
    rw [this] at c0
    exact ⟨rfl, fun _ => trivial, fun y => absurd c0 y⟩
  | succ d ih =>
    intro i n hi hn
    obtain ⟨n, rfl⟩ : ∃ m, n = m + 1 := ⟨n - 1, by omega⟩
    have c0 : ¬ nI K ≤ nI i := nI_ge (by omega) (by omega)
    have c1 : ¬ (20 : Int32) ≤ nI i := nI_ge (b := 20) (by omega) (by omega)
    have hb := ch_b0 N (by omega) i (by omega)
    have hm : ch_cc N i * (N - i) ≤ 200000 * 20 := Nat.mul_le_mul hb (by omega)
    obtain ⟨i1, i2⟩ := ih (i + 1) n (by omega) (by omega)
    rw [xg_113_16, xq_113_16, if_neg c0, if_neg c1, nI_sub (by omega), nI_1, nI_l (by omega), nI_l (by omega), lN_mul, lN_div (by omega) (by omega)]
    exact ⟨i1, fun y => absurd y c0, fun _ => ⟨fun y => absurd y c1, fun _ => ⟨lo_ne0 (by omega) (by omega), i2⟩⟩⟩
theorem ch_113 {M : ro_Mm} {N K : Nat} (hN : N ≤ 20) (hK : K ≤ 20) : xf_113 M (nI N) (nI K) = lN (ch_wy N K) ∧ xp_113 M (nI N) (nI K) := by
  have n0 : ¬ nI K < 0 := nI_pos (by omega)
  unfold xf_113 xp_113 ch_wy
  rw [if_neg n0]
  by_cases h : K ≤ N
  · have c : nI K ≤ nI N := nI_le h (by omega)
    obtain ⟨g1, g2⟩ := ch_g113 (M := M) hN h K 0 lp_N (by omega) (lp_hug (by omega))
    rw [if_pos c, if_pos h]
    exact ⟨g1, fun y => absurd y n0, fun _ => ⟨fun _ => ⟨g2, trivial⟩, fun y => absurd c y⟩⟩
  · have c : ¬ nI K ≤ nI N := nI_ge (by omega) (by omega)
    rw [if_neg c, if_neg h]
    exact ⟨rfl, fun y => absurd y n0, fun _ => ⟨fun y => absurd y c, fun _ => trivial⟩⟩
theorem ch_g263 {M : ro_Mm} {N K : Nat} (hN : N ≤ 20) (hK : K ≤ N) : ∀ (d i n : Nat), i + d = K → d < n → (xg_263_16 n M (nI (i + 1)) (lN (ch_cr (N - K) i)) (nI N) (nI K)).2 = lN (ch_cr (N - K) K) ∧ xq_263_16 n M (nI (i + 1)) (lN (ch_cr (N - K) i)) (nI N) (nI K) := by
  intro d
  induction d with
  | zero =>
    intro i n hi hn
    obtain ⟨n, rfl⟩ : ∃ m, n = m + 1 := ⟨n - 1, by omega⟩
    have : i = K := by omega
    subst this
    have c0 : nI i < nI (i + 1) := nI_lt (by omega) (by omega)
    rw [xg_263_16, xq_263_16, if_pos c0]
    exact ⟨rfl, fun _ => trivial, fun y => absurd c0 y⟩
  | succ d ih =>
    intro i n hi hn
    obtain ⟨n, rfl⟩ : ∃ m, n = m + 1 := ⟨n - 1, by omega⟩
    have c0 : ¬ nI K < nI (i + 1) := nI_nlt (by omega) (by omega)
    have hb := ch_r0 (N - K) (by omega) i (by omega) (by omega)
    have hm : ch_cr (N - K) i * (N - K + (i + 1)) ≤ 200000 * 20 := Nat.mul_le_mul hb (by omega)
    obtain ⟨i1, i2⟩ := ih (i + 1) n (by omega) (by omega)
    rw [xg_263_16, xq_263_16, if_neg c0, nI_sub hK, nI_add, nI_1, nI_l (by omega), nI_l (by omega), lN_mul, lN_div (by omega) (by omega)]
    exact ⟨i1, fun y => absurd y c0, fun _ => ⟨lo_ne0 (by omega) (by omega), i2⟩⟩
theorem ch_263 {M : ro_Mm} {N K : Nat} (hN : N ≤ 20) (hK : K ≤ 20) : xf_263 M (nI N) (nI K) = lN (ch_wy N K) ∧ xp_263 M (nI N) (nI K) := by
  have n0 : ¬ nI K < 0 := nI_pos (by omega)
  unfold xf_263 xp_263 ch_wy
  rw [if_neg n0]
  by_cases h : K ≤ N
  · have c : nI K ≤ nI N := nI_le h (by omega)
    obtain ⟨g1, g2⟩ := ch_g263 (M := M) hN h K 0 lp_N (by omega) (lp_hug (by omega))
    rw [(ch_e0 N (by omega) K (by omega) h).1] at g1
    rw [if_pos c, if_pos h]
    exact ⟨g1, fun y => absurd y n0, fun _ => ⟨fun _ => ⟨g2, trivial⟩, fun y => absurd c y⟩⟩
  · have c : ¬ nI K ≤ nI N := nI_ge (by omega) (by omega)
    rw [if_neg c, if_neg h]
    exact ⟨rfl, fun y => absurd y n0, fun _ => ⟨fun y => absurd y c, fun _ => trivial⟩⟩
/-- ways in which j or more of F among C are found, L looked at -/
def ch_sm (F C L : Nat) : Nat → Nat → Nat
  | 0, _ => 0
  | d + 1, j => ch_wy F j * ch_wy (C - F) (L - j) + ch_sm F C L d (j + 1)
theorem ch_smb {F C L : Nat} (hC : C ≤ 20) (hF : F ≤ C) (hL : L ≤ 20) : ∀ (d j : Nat), d + j ≤ 21 → ch_sm F C L d j ≤ d * 40000000000
  | 0, _, _ => by rw [ch_sm]; omega
  | d + 1, j, h => by
    rw [ch_sm]
    have h1 := ch_smb hC hF hL d (j + 1) (by omega)
    have h2 : ch_wy F j * ch_wy (C - F) (L - j) ≤ 200000 * 200000 := Nat.mul_le_mul (ch_wb (by omega) (by omega)) (ch_wb (by omega) (by omega))
    omega
theorem ch_112 {M : ro_Mm} {F C L : Nat} (hC : C ≤ 20) (hF : F ≤ C) (hL : L ≤ 20) {v1 v2 v3 : Int32} : ∀ (d j n s : Nat), j + d = L + 1 → d < n →
    (xg_112_35 n M (nI j) (lN s) (nI L) (nI F) (nI C) v1 v2 v3).2 = lN (s + ch_sm F C L d j) ∧ xq_112_35 n M (nI j) (lN s) (nI L) (nI F) (nI C) v1 v2 v3 := by
  intro d
  induction d with
  | zero =>
    intro j n s hj hn
    obtain ⟨n, rfl⟩ : ∃ m, n = m + 1 := ⟨n - 1, by omega⟩
    have c0 : nI L < nI j := nI_lt (by omega) (by omega)
    rw [xg_112_35, xq_112_35, if_pos c0, ch_sm]
    exact ⟨rfl, fun _ => trivial, fun y => absurd c0 y⟩
  | succ d ih =>
    intro j n s hj hn
    obtain ⟨n, rfl⟩ : ∃ m, n = m + 1 := ⟨n - 1, by omega⟩
    have c0 : ¬ nI L < nI j := nI_nlt (by omega) (by omega)
    have c1 : ¬ (20 : Int32) < nI j := nI_nlt (a := 20) (by omega) (by omega)
    obtain ⟨a1, a2⟩ := ch_113 (M := M) (N := F) (K := j) (by omega) (by omega)
    obtain ⟨b1, b2⟩ := ch_113 (M := M) (N := C - F) (K := L - j) (by omega) (by omega)
    obtain ⟨i1, i2⟩ := ih (j + 1) n (s + ch_wy F j * ch_wy (C - F) (L - j)) (by omega) (by omega)
    rw [xg_112_35, xq_112_35, if_neg c0, if_neg c1, nI_sub hF, nI_sub (by omega), a1, b1, lN_mul, lN_add, nI_1, ch_sm, ← Nat.add_assoc]
    exact ⟨i1, fun y => absurd y c0, fun _ => ⟨fun y => absurd y c1, fun _ => ⟨a2, b2, i2⟩⟩⟩
theorem ch_262 {M : ro_Mm} {F C L : Nat} (hC : C ≤ 20) (hF : F ≤ C) (hL : L ≤ 20) {v1 v3 : Int32} (hv : vp_in v1 6) (e : M.2.1 165 v1.toNatClampNeg = nI C) : ∀ (d j n s : Nat), j + d = L + 1 → d < n →
    (xg_262_13 n M (nI j) (lN s) (nI F) v1 (nI L) v3).2 = lN (s + ch_sm F C L d j) ∧ xq_262_13 n M (nI j) (lN s) (nI F) v1 (nI L) v3 := by
  intro d
  induction d with
  | zero =>
    intro j n s hj hn
    obtain ⟨n, rfl⟩ : ∃ m, n = m + 1 := ⟨n - 1, by omega⟩
    have c0 : nI L < nI j := nI_lt (by omega) (by omega)
    rw [xg_262_13, xq_262_13, if_pos c0, ch_sm]
    exact ⟨rfl, fun _ => trivial, fun y => absurd c0 y⟩
  | succ d ih =>
    intro j n s hj hn
    obtain ⟨n, rfl⟩ : ∃ m, n = m + 1 := ⟨n - 1, by omega⟩
    have c0 : ¬ nI L < nI j := nI_nlt (by omega) (by omega)
    obtain ⟨a1, a2⟩ := ch_263 (M := M) (N := F) (K := j) (by omega) (by omega)
    obtain ⟨b1, b2⟩ := ch_263 (M := M) (N := C - F) (K := L - j) (by omega) (by omega)
    obtain ⟨i1, i2⟩ := ih (j + 1) n (s + ch_wy F j * ch_wy (C - F) (L - j)) (by omega) (by omega)
    rw [xg_262_13, xq_262_13, if_neg c0, e, nI_sub hF, nI_sub (by omega), a1, b1, lN_mul, lN_add, nI_1, ch_sm, ← Nat.add_assoc]
    exact ⟨i1, fun y => absurd y c0, fun _ => ⟨a2, hv, b2, i2⟩⟩
theorem x30_3 {A : ro_Mm} {j : Nat} (h : j < 6) : xf_30 A (nI j) 3 = A.2.1 10 j := by
  obtain ⟨q1, q2, q3, q4⟩ := ro_n6 h
  unfold xf_30
  rw [if_neg (by decide), if_neg (by decide), if_neg (by decide), if_pos rfl, if_neg q1, if_neg q2, q3]
/-- one who may have forged ones -/
theorem ch_who {M : ro_Mm} (h : ro_Inv M) {i : Nat} (hi : i < 6) : ∃ C F, C ≤ 20 ∧ F ≤ C ∧ ∀ A, ro_eqv M A → xf_30 A (nI i) 1 = nI C ∧ xf_39 A (nI i) = nI F ∧ A.2.1 165 i = nI C ∧ xf_209 A (nI i) = nI F ∧ xp_209 A (nI i) := by
  obtain ⟨b1, b2, b3, b4⟩ := h.2.1.2.1 i hi
  obtain ⟨q1, q2, q3, q4⟩ := ro_n6 hi
  obtain ⟨C, hC, eC⟩ := ro_20 b2.2
  obtain ⟨f, hf, ef⟩ := ro_20 b4.2
  refine ⟨C, min f C, hC, Nat.min_le_right _ _, fun A hA => ?_⟩
  have a8 : A.2.1 8 i = nI C := (hA.2.1 8 i rfl).trans eC
  have a10 : A.2.1 10 i = nI f := (hA.2.1 10 i rfl).trans ef
  have a165 : A.2.1 165 i = nI C := (hA.2.1 165 i rfl).trans (b2.1.trans eC)
  have a167 : A.2.1 167 i = nI f := (hA.2.1 167 i rfl).trans (b4.1.trans ef)
  refine ⟨by rw [x30_1 hi]; exact a8, ?_, a165, ?_, ?_⟩
  · unfold xf_39 ro_min
    rw [x30_3 hi, x32 hi, a10]
    show (if A.2.1 8 i < nI f then A.2.1 8 i else nI f) = _
    rw [a8]
    by_cases z : C < f
    · rw [if_pos (nI_lt z (by omega))]; congr 1; omega
    · rw [if_neg (nI_nlt (by omega) (by omega))]; congr 1; omega
  · unfold xf_209
    rw [q3, a165, a167]
    by_cases z : C ≤ f
    · rw [if_pos (nI_le z (by omega))]; congr 1; omega
    · rw [if_neg (nI_ge (by omega) (by omega))]; congr 1; omega
  · unfold xp_209
    exact ⟨q4, q4, fun _ => ⟨q4, trivial⟩, fun _ => ⟨q4, trivial⟩⟩
/-- t looked at of his, m at least: the class's fraction, the reference's -/
theorem ch_all {M : ro_Mm} (h : ro_Inv M) {i t m : Nat} (hi : i < 6) (ht : t ≤ 20) (hm : 1 ≤ m ∧ m ≤ 9) : ∃ a b, a < 2 ^ 50 ∧ b < 2 ^ 50 ∧ 0 < b ∧
    (∀ A, ro_eqv M A → xm_112 A (nI i) (nI t) (nI m) = xm_100 A (lN a) (lN b) ∧ xp_112 A (nI i) (nI t) (nI m)) ∧
    (∀ B, ro_eqv M B → ∃ L, L ≤ 20 ∧ xf_261 B (nI i) (nI t) = nI L ∧ xp_261 B (nI i) (nI t) ∧ xf_262 B (nI i) (nI L) (nI m) = lN a ∧ xp_262 B (nI i) (nI L) (nI m) ∧ xf_263 B (B.2.1 165 i) (nI L) = lN b ∧ xp_263 B (B.2.1 165 i) (nI L) ∧ (t ≤ L ∨ B.2.1 165 i = nI L)) := by
  obtain ⟨C, F, hC, hF, hw⟩ := ch_who h hi
  obtain ⟨q1, q2, q3, q4⟩ := ro_n6 hi
  have hL : min t C ≤ 20 := by omega
  have hb0 : 0 < ch_wy C (min t C) := by
    unfold ch_wy
    rw [if_pos (by omega)]
    exact (ch_e0 C (by omega) (min t C) (by omega) (by omega)).2
  have hbb := ch_wb (n := C) (k := min t C) hC hL
  by_cases hmL : m ≤ min t C + 1
  · have hsb := ch_smb hC hF hL (min t C + 1 - m) m (by omega)
    refine ⟨ch_sm F C (min t C) (min t C + 1 - m) m, ch_wy C (min t C), by omega, by omega, hb0, fun A hA => ?_, fun B hB => ?_⟩
    · obtain ⟨w1, w2, w3, w4, w5⟩ := hw A hA
      have e : ro_min (nI t) (nI C) = nI (min t C) := by
        unfold ro_min
        by_cases z : C < t
        · rw [if_pos (nI_lt z (by omega))]; congr 1; omega
        · rw [if_neg (nI_nlt (by omega) (by omega))]; congr 1; omega
      obtain ⟨g1, g2⟩ := ch_112 (M := A) hC hF hL (v1 := nI i) (v2 := nI t) (v3 := nI m) (min t C + 1 - m) m lp_N 0 (by omega) (lp_hug (by omega))
      rw [Nat.zero_add] at g1
      have g1 : (xg_112_35 lp_N A (nI m) 0 (nI (min t C)) (nI F) (nI C) (nI i) (nI t) (nI m)).2 = _ := g1
      obtain ⟨k1, k2⟩ := ch_113 (M := A) (N := C) (K := min t C) hC hL
      unfold xm_112 xp_112
      rw [w1, w2, e, g1, k1]
      exact ⟨rfl, g2, k2, (lo_set (by omega) (by omega) hb0).2, trivial⟩
    · obtain ⟨w1, w2, w3, w4, w5⟩ := hw B hB
      obtain ⟨g1, g2⟩ := ch_262 (M := B) hC hF hL (v1 := nI i) (v3 := nI m) q4 (by rw [q3]; exact w3) (min t C + 1 - m) m lp_N 0 (by omega) (lp_hug (by omega))
      rw [Nat.zero_add] at g1
      obtain ⟨k1, k2⟩ := ch_263 (M := B) (N := C) (K := min t C) hC hL
      refine ⟨min t C, hL, ?_, ?_, ?_, ?_, ?_, ?_, ?_⟩
      · unfold xf_261
        rw [q3, w3]
        by_cases z : C ≤ t
        · rw [if_pos (nI_le z (by omega))]; congr 1; omega
        · rw [if_neg (nI_ge (by omega) (by omega))]; congr 1; omega
      · unfold xp_261
        exact ⟨q4, fun _ => ⟨q4, trivial⟩, fun _ => trivial⟩
      · unfold xf_262
        rw [w4]; exact g1
      · unfold xp_262
        rw [w4]; exact ⟨w5, g2, trivial⟩
      · rw [w3]; exact k1
      · rw [w3]; exact k2
      · rw [w3]
        by_cases z : t ≤ C
        · exact Or.inl (by omega)
        · exact Or.inr (by congr 1; omega)
  · refine ⟨0, ch_wy C (min t C), by decide, by omega, hb0, fun A hA => ?_, fun B hB => ?_⟩
    · obtain ⟨w1, w2, w3, w4, w5⟩ := hw A hA
      have e : ro_min (nI t) (nI C) = nI (min t C) := by
        unfold ro_min
        by_cases z : C < t
        · rw [if_pos (nI_lt z (by omega))]; congr 1; omega
        · rw [if_neg (nI_nlt (by omega) (by omega))]; congr 1; omega
      obtain ⟨n, hn⟩ : ∃ n, lp_N = n + 1 := ⟨99999, lp_N_eq⟩
      have c0 : nI (min t C) < nI m := nI_lt (by omega) (by omega)
      have G : xg_112_35 lp_N A (nI m) 0 (nI (min t C)) (nI F) (nI C) (nI i) (nI t) (nI m) = (nI m, 0) ∧ xq_112_35 lp_N A (nI m) 0 (nI (min t C)) (nI F) (nI C) (nI i) (nI t) (nI m) := by
        rw [hn, xg_112_35, xq_112_35, if_pos c0]
        exact ⟨rfl, fun _ => trivial, fun y => absurd c0 y⟩
      obtain ⟨k1, k2⟩ := ch_113 (M := A) (N := C) (K := min t C) hC hL
      unfold xm_112 xp_112
      rw [w1, w2, e, G.1, k1]
      exact ⟨rfl, G.2, k2, (lo_set (a := 0) (by omega) (by omega) hb0).2, trivial⟩
    · obtain ⟨w1, w2, w3, w4, w5⟩ := hw B hB
      obtain ⟨n, hn⟩ : ∃ n, lp_N = n + 1 := ⟨99999, lp_N_eq⟩
      have c0 : nI (min t C) < nI m := nI_lt (by omega) (by omega)
      have G : xg_262_13 lp_N B (nI m) 0 (nI F) (nI i) (nI (min t C)) (nI m) = (nI m, 0) ∧ xq_262_13 lp_N B (nI m) 0 (nI F) (nI i) (nI (min t C)) (nI m) := by
        rw [hn, xg_262_13, xq_262_13, if_pos c0]
        exact ⟨rfl, fun _ => trivial, fun y => absurd c0 y⟩
      obtain ⟨k1, k2⟩ := ch_263 (M := B) (N := C) (K := min t C) hC hL
      refine ⟨min t C, hL, ?_, ?_, ?_, ?_, ?_, ?_, ?_⟩
      · unfold xf_261
        rw [q3, w3]
        by_cases z : C ≤ t
        · rw [if_pos (nI_le z (by omega))]; congr 1; omega
        · rw [if_neg (nI_ge (by omega) (by omega))]; congr 1; omega
      · unfold xp_261
        exact ⟨q4, fun _ => ⟨q4, trivial⟩, fun _ => trivial⟩
      · unfold xf_262
        rw [w4, G.1]; rfl
      · unfold xp_262
        rw [w4]; exact ⟨w5, G.2, trivial⟩
      · rw [w3]; exact k1
      · rw [w3]; exact k2
      · rw [w3]
        by_cases z : t ≤ C
        · exact Or.inl (by omega)
        · exact Or.inr (by congr 1; omega)
theorem all_15 {M : ro_Mm} (h : ro_Inv M) {v1 v2 v3 : Int32} : xp_111 M v1 v2 v3 ∧ xp_260 (xm_111 M v1 v2 v3) v1 v2 v3 ∧ xf_260 (xm_111 M v1 v2 v3) v1 v2 v3 = xf_111 M v1 v2 v3 ∧ ro_eqv M (xm_111 M v1 v2 v3) := by
  obtain ⟨p, hp, e1, e2⟩ := ro_ppl h
  by_cases b1 : xf_29 M v1 = true
  · have f1 : ∀ A : ro_Mm, ro_eqv M A → xf_204 A v1 = true := fun A hA => by
      rw [ro_one_b (ro_eqv_i hA h)]
      unfold xf_29 at b1 ⊢
      rw [hA.2.1 5 4 rfl]; exact b1
    by_cases b2 : xf_13 M v2 0 20 = true
    · have f2 : ∀ A : ro_Mm, xf_195 A v2 0 20 = true := fun A => by rw [ro_w195]; exact ro_w13.mp b2
      by_cases b3 : xf_95 M v3 = true
      · have hv := lo_is.mp b3
        have f3 : ∀ A : ro_Mm, xf_195 A v3 0 1 = true := fun A => lo_is2.mpr hv
        obtain ⟨i, hi, ei⟩ := ro_one_i hp e1 b1
        obtain ⟨t, ht, et⟩ := ro_20 (ro_w13.mp b2)
        obtain ⟨a, b, ha, hb, hb0, cA, cB⟩ := ch_all h (i := i) (t := t) (m := 1) (by omega) ht (by omega)
        obtain ⟨g1, g2⟩ := cA M (ro_eqv_r h.1)
        obtain ⟨n1, n2, n3, n4⟩ := ro_n6 (k := i) (by omega)
        have g1 : xm_112 M v1 v2 1 = xm_100 M (lN a) (lN b) := by rw [ei, et]; exact g1
        have g2 : xp_112 M v1 v2 1 := by rw [ei, et]; exact g2
        have hm : xm_111 M v1 v2 v3 = xm_100 M (lN a) (lN b) := by unfold xm_111; rw [if_pos b1, if_pos b2, if_pos b3, g1]
        have E := lo_eqv (ro_eqv_r h.1) (a := a) (b := b) (by omega) (by omega) hb0
        obtain ⟨L, l1, l2, l3, l4, l5, l6, l7, l8⟩ := cB _ E
        obtain ⟨p1, p2⟩ := lo_part (M := M) (B := xm_100 M (lN a) (lN b)) (a := a) (b := b) (by omega) (by omega) hb0 hv
        rw [hm]
        have l4 : xf_262 (xm_100 M (lN a) (lN b)) (nI i) (nI L) 1 = lN a := l4
        have l5 : xp_262 (xm_100 M (lN a) (lN b)) (nI i) (nI L) 1 := l5
        refine ⟨⟨fun _ => ⟨fun _ => ⟨fun _ => ⟨g2, trivial⟩, fun _ => trivial⟩, fun _ => trivial⟩, fun _ => trivial⟩, ?_, ?_, E⟩
        · unfold xp_260
          rw [ei, et, n3, l2, l4, l6]
          exact ⟨fun _ => ⟨fun _ => ⟨fun _ => ⟨l3, l5, n4, l7, p2, trivial⟩, fun _ => trivial⟩, fun _ => trivial⟩, fun _ => trivial⟩
        · unfold xf_260 xf_111
          rw [if_pos (f1 _ E), if_pos (f2 _), if_pos (f3 _), if_pos b1, if_pos b2, if_pos b3, g1, ei, et, n3, l2, l4, l6]
          exact p1
      · have f3 : ¬ xf_195 M v3 0 1 = true := fun q => b3 (lo_is.mpr (lo_is2.mp q))
        have hm : xm_111 M v1 v2 v3 = M := by unfold xm_111; rw [if_pos b1, if_pos b2, if_neg b3]
        rw [hm]
        refine ⟨⟨fun _ => ⟨fun _ => ⟨fun y => absurd y b3, fun _ => trivial⟩, fun _ => trivial⟩, fun _ => trivial⟩, ⟨fun _ => ⟨fun _ => ⟨fun y => absurd y f3, fun _ => trivial⟩, fun _ => trivial⟩, fun _ => trivial⟩, ?_, ro_eqv_r h.1⟩
        unfold xf_260 xf_111
        rw [if_pos (f1 _ (ro_eqv_r h.1)), if_pos (f2 _), if_neg f3, if_pos b1, if_pos b2, if_neg b3]
    · have f2 : ¬ xf_195 M v2 0 20 = true := by rw [← ro_w13_195]; exact b2
      have hm : xm_111 M v1 v2 v3 = M := by unfold xm_111; rw [if_pos b1, if_neg b2]
      rw [hm]
      refine ⟨⟨fun _ => ⟨fun y => absurd y b2, fun _ => trivial⟩, fun _ => trivial⟩, ⟨fun _ => ⟨fun y => absurd y f2, fun _ => trivial⟩, fun _ => trivial⟩, ?_, ro_eqv_r h.1⟩
      unfold xf_260 xf_111
      rw [if_pos (f1 _ (ro_eqv_r h.1)), if_neg f2, if_pos b1, if_neg b2]
  · have f1 : ¬ xf_204 M v1 = true := by rw [ro_one_b h]; exact b1
    have hm : xm_111 M v1 v2 v3 = M := by unfold xm_111; rw [if_neg b1]
    rw [hm]
    refine ⟨⟨fun y => absurd y b1, fun _ => trivial⟩, ⟨fun y => absurd y f1, fun _ => trivial⟩, ?_, ro_eqv_r h.1⟩
    unfold xf_260 xf_111
    rw [if_neg f1, if_neg b1]
theorem all_17 {M : ro_Mm} (h : ro_Inv M) {v1 v2 v3 : Int32} : xp_115 M v1 v2 v3 ∧ xp_265 (xm_115 M v1 v2 v3) v1 v2 v3 ∧ xf_265 (xm_115 M v1 v2 v3) v1 v2 v3 = xf_115 M v1 v2 v3 ∧ ro_eqv M (xm_115 M v1 v2 v3) := by
  obtain ⟨p, hp, e1, e2⟩ := ro_ppl h
  -- whatever is wrong
  have NO : ∀ (g : xp_115 M v1 v2 v3) (g2 : xm_115 M v1 v2 v3 = M) (g1 : xf_115 M v1 v2 v3 = -9223372036854775808) (g3 : ¬ (xf_204 M v1 = true ∧ ¬ v2 < 0 ∧ xf_195 M (v2 / 10) 0 20 = true ∧ xf_195 M (ro_irem v2 10) 1 9 = true ∧ xf_195 M v3 0 1 = true)), xp_115 M v1 v2 v3 ∧ xp_265 (xm_115 M v1 v2 v3) v1 v2 v3 ∧ xf_265 (xm_115 M v1 v2 v3) v1 v2 v3 = xf_115 M v1 v2 v3 ∧ ro_eqv M (xm_115 M v1 v2 v3) := by
    intro g g2 g1 g3
    rw [g2, g1]
    refine ⟨g, ?_, ?_, ro_eqv_r h.1⟩
    · exact ⟨fun y1 => ⟨fun _ => trivial, fun y2 => ⟨fun y3 => ⟨fun y4 => ⟨fun y5 => absurd ⟨y1, y2, y3, y4, y5⟩ g3, fun _ => trivial⟩, fun _ => trivial⟩, fun _ => trivial⟩⟩, fun _ => trivial⟩
    · unfold xf_265
      by_cases y1 : xf_204 M v1 = true
      · rw [if_pos y1]
        by_cases y2 : v2 < 0
        · rw [if_pos y2]
        · rw [if_neg y2]
          by_cases y3 : xf_195 M (v2 / 10) 0 20 = true
          · rw [if_pos y3]
            by_cases y4 : xf_195 M (ro_irem v2 10) 1 9 = true
            · rw [if_pos y4]
              by_cases y5 : xf_195 M v3 0 1 = true
              · exact absurd ⟨y1, y2, y3, y4, y5⟩ g3
              · rw [if_neg y5]
            · rw [if_neg y4]
          · rw [if_neg y3]
      · rw [if_neg y1]
  by_cases a0 : v2 < 0
  · refine NO ⟨fun _ => trivial, fun y => absurd a0 y⟩ ?_ ?_ (fun q => q.2.1 a0)
    · unfold xm_115; rw [if_pos a0]
    · unfold xf_115; rw [if_pos a0]
  · obtain ⟨n, hn, en⟩ := nI_of a0
    by_cases b2 : xf_13 M (v2 / 10) 0 20 = true
    · have f2 : ∀ A : ro_Mm, xf_195 A (v2 / 10) 0 20 = true := fun A => by rw [ro_w195]; exact ro_w13.mp b2
      have er : ro_irem v2 10 = nI (n % 10) := by rw [en]; exact nI_rem (b := 10) hn (by decide)
      by_cases b4 : ro_irem v2 10 ≤ 0
      · refine NO ⟨fun y => absurd y a0, fun _ => ⟨fun _ => ⟨fun _ => trivial, fun y => absurd b4 y⟩, fun _ => trivial⟩⟩ ?_ ?_ (fun q => ?_)
        · unfold xm_115; rw [if_neg a0, if_pos b2, if_pos b4]
        · unfold xf_115; rw [if_neg a0, if_pos b2, if_pos b4]
        · have := (ro_w195.mp q.2.2.2.1).1; grind
      · by_cases b1 : xf_29 M v1 = true
        · have f1 : ∀ A : ro_Mm, ro_eqv M A → xf_204 A v1 = true := fun A hA => by
            rw [ro_one_b (ro_eqv_i hA h)]
            unfold xf_29 at b1 ⊢
            rw [hA.2.1 5 4 rfl]; exact b1
          by_cases b3 : xf_95 M v3 = true
          · have hv := lo_is.mp b3
            have f3 : ∀ A : ro_Mm, xf_195 A v3 0 1 = true := fun A => lo_is2.mpr hv
            obtain ⟨i, hi, ei⟩ := ro_one_i hp e1 b1
            obtain ⟨t, ht, et⟩ := ro_20 (ro_w13.mp b2)
            have hm1 : 1 ≤ n % 10 := by
              by_cases z : n % 10 = 0
              · rw [er, z] at b4; exact absurd (by decide) b4
              · omega
            have hm9 : n % 10 ≤ 9 := by omega
            have f4 : ∀ A : ro_Mm, xf_195 A (ro_irem v2 10) 1 9 = true := fun A => by
              rw [ro_w195, er]
              exact ⟨nI_le (a := 1) hm1 (by omega), nI_le (b := 9) hm9 (by decide)⟩
            obtain ⟨a, b, ha, hb, hb0, cA, cB⟩ := ch_all h (i := i) (t := t) (m := n % 10) (by omega) ht ⟨hm1, hm9⟩
            obtain ⟨g1, g2⟩ := cA M (ro_eqv_r h.1)
            obtain ⟨n1, n2, n3, n4⟩ := ro_n6 (k := i) (by omega)
            rw [← ei, ← et, ← er] at g1 g2
            have hm : xm_115 M v1 v2 v3 = xm_100 M (lN a) (lN b) := by unfold xm_115; rw [if_neg a0, if_pos b2, if_neg b4, if_pos b1, if_pos b3, g1]
            have E := lo_eqv (ro_eqv_r h.1) (a := a) (b := b) (by omega) (by omega) hb0
            obtain ⟨L, l1, l2, l3, l4, l5, l6, l7, l8⟩ := cB _ E
            obtain ⟨p1, p2⟩ := lo_part (M := M) (B := xm_100 M (lN a) (lN b)) (a := a) (b := b) (by omega) (by omega) hb0 hv
            rw [hm]
            refine ⟨⟨fun y => absurd y a0, fun _ => ⟨fun _ => ⟨fun y => absurd y b4, fun _ => ⟨fun _ => ⟨fun _ => ⟨g2, trivial⟩, fun _ => trivial⟩, fun _ => trivial⟩⟩, fun _ => trivial⟩⟩, ?_, ?_, E⟩
            · have k1 := f4 (xm_100 M (lN a) (lN b))
              have k0 := a0
              unfold xp_265
              rw [ei, et, er, n3, l2, l4, l6]
              exact ⟨fun _ => ⟨fun _ => trivial, fun _ => ⟨fun _ => ⟨fun _ => ⟨fun _ => ⟨l3, l5, n4, l7, p2, trivial⟩, fun _ => trivial⟩, fun _ => trivial⟩, fun _ => trivial⟩⟩, fun _ => trivial⟩
            · unfold xf_265 xf_115
              rw [if_pos (f1 _ E), if_neg a0, if_pos (f2 _), if_pos (f4 _), if_pos (f3 _), if_neg a0, if_pos b2, if_neg b4, if_pos b1, if_pos b3, g1, ei, et, er, n3, l2, l4, l6]
              exact p1
          · refine NO ⟨fun y => absurd y a0, fun _ => ⟨fun _ => ⟨fun y => absurd y b4, fun _ => ⟨fun _ => ⟨fun y => absurd y b3, fun _ => trivial⟩, fun _ => trivial⟩⟩, fun _ => trivial⟩⟩ ?_ ?_ (fun q => b3 (lo_is.mpr (lo_is2.mp q.2.2.2.2)))
            · unfold xm_115; rw [if_neg a0, if_pos b2, if_neg b4, if_pos b1, if_neg b3]
            · unfold xf_115; rw [if_neg a0, if_pos b2, if_neg b4, if_pos b1, if_neg b3]
        · refine NO ⟨fun y => absurd y a0, fun _ => ⟨fun _ => ⟨fun y => absurd y b4, fun _ => ⟨fun y => absurd y b1, fun _ => trivial⟩⟩, fun _ => trivial⟩⟩ ?_ ?_ (fun q => b1 (by rw [← ro_one_b h]; exact q.1))
          · unfold xm_115; rw [if_neg a0, if_pos b2, if_neg b4, if_neg b1]
          · unfold xf_115; rw [if_neg a0, if_pos b2, if_neg b4, if_neg b1]
    · refine NO ⟨fun y => absurd y a0, fun _ => ⟨fun y => absurd y b2, fun _ => trivial⟩⟩ ?_ ?_ (fun q => b2 (by rw [ro_w13_195]; exact q.2.2.1))
      · unfold xm_115; rw [if_neg a0, if_neg b2]
      · unfold xf_115; rw [if_neg a0, if_neg b2]
end CHANCES

