/-! pairs of calls, on: taken, row (by program, wip/whole/gen37.py) -/
section PAIRS6
variable {X : ro_Sx}
theorem lp_9 : ∃ m, lp_N = m + 9 := ⟨99991, lp_N_eq⟩
theorem lp_hug {p : Nat} (h : p ≤ 90000) : p < lp_N := by rw [lp_N_eq]; omega
theorem cl_189 {M : ro_Mm} {v0 v1 : Int32} : ∀ (d j n : Nat) (v2 : Int32), j + d = 8 → d < n → xq_189_4 n M (nI j) v2 v0 v1 := by
  intro d
  induction d with
  | zero =>
    intro j n v2 hj hn
    cases n with
    | zero => omega
    | succ n =>
      have e : j = 8 := by omega
      have q : (8 : Int32) ≤ nI j := by rw [e]; decide
      rw [xq_189_4]
      exact ⟨fun _ => trivial, fun y => absurd q y⟩
  | succ d ih =>
    intro j n v2 hj hn
    cases n with
    | zero => omega
    | succ n =>
      rw [xq_189_4, ← nI_succ]
      exact ⟨fun _ => trivial, fun _ => ⟨fun _ => trivial, fun _ => ⟨fun _ => trivial, fun _ => ⟨fun _ => trivial, fun _ => ih (j + 1) n _ (by omega) (by omega)⟩⟩⟩⟩
theorem xp_189_t {M : ro_Mm} {v0 v1 : Int32} : xp_189 M v0 v1 := ⟨cl_189 8 0 lp_N v0 (by omega) (lp_hug (by omega)), trivial⟩
theorem ro_eight {w : Int32} (h : 0 ≤ w ∧ w ≤ 7) : w = 0 ∨ w = 1 ∨ w = 2 ∨ w = 3 ∨ w = 4 ∨ w = 5 ∨ w = 6 ∨ w = 7 := by grind
theorem xf_189_t {M : ro_Mm} {a k : Int32} (ha : 0 ≤ a ∧ a ≤ 7) (hk : 0 ≤ k ∧ k ≤ 7) : xf_189 M a k = xf_286 M a k := by
  obtain ⟨m, e⟩ := lp_9
  unfold xf_189
  rw [e]
  rcases ro_eight ha with q | q | q | q | q | q | q | q <;> rcases ro_eight hk with z | z | z | z | z | z | z | z <;> rw [q, z] <;> rfl
theorem xf_189_n {M : ro_Mm} {k : Int32} (hk : 0 ≤ k ∧ k ≤ 7) : xf_189 M (-1) k = false := by
  obtain ⟨m, e⟩ := lp_9
  unfold xf_189
  rw [e]
  rcases ro_eight hk with z | z | z | z | z | z | z | z <;> rw [z] <;> rfl
theorem ro_w161 {M : ro_Mm} {v : Int32} : xf_161 M v = xf_195 M v 0 7 := by grind [xf_161, xf_195]
theorem pc_38 {M : ro_Mm} (_h : ro_Inv M) {v1 v2 : Int32} : xp_187 M v1 v2 :=
  ⟨fun _ => ⟨fun _ => ⟨fun _ => trivial, fun _ => ⟨fun _ => ⟨xp_189_t, trivial⟩, fun _ => ⟨xp_189_t, trivial⟩⟩⟩, fun _ => trivial⟩, fun _ => trivial⟩
theorem pe_38 {M : ro_Mm} (h : ro_Inv M) {v1 v2 : Int32} : xf_306 M v1 v2 = xf_187 M v1 v2 ∧ xp_306 M v1 v2 := by
  obtain ⟨⟨hh1, hh2, hh3⟩, hh4, hh5, hh6⟩ := h.2.1.2.2.2.2.2.2.2
  by_cases h1 : ro_bs v1 = true
  · have h198 : xf_198 M v1 = true := by rw [ro_w198]; exact h1
    obtain ⟨s1, s2, s3⟩ := ro_sx h1
    have g := h.2.2 _ s2
    unfold iv_sh at g
    rw [← s3] at g
    by_cases h2 : 0 ≤ v2 ∧ v2 ≤ 7
    · have k1 : xf_195 M v2 0 7 = true := ro_w195.mpr h2
      have k2 : xf_161 M v2 = true := by rw [ro_w161]; exact k1
      rcases g with g | g | g
      · have w1 : xf_21 M (ro_sc v1) = true := by grind [xf_21]
        refine ⟨?_, ?_⟩
        · unfold xf_306 xf_187
          rw [if_pos h198, if_pos k1, if_pos g.2, if_pos h1, if_pos k2, if_pos w1]
        · exact ⟨fun _ => ⟨fun _ => ⟨s1, fun _ => trivial, fun y => absurd g.2 y⟩, fun _ => trivial⟩, fun _ => trivial⟩
      · obtain ⟨g1, g2, g3, g4⟩ := g
        have w1 : ¬ xf_21 M (ro_sc v1) = true := by grind [xf_21]
        have w2 : ¬ xf_180 M (ro_sc v1) = true := by grind [xf_180]
        have w3 : xf_188 M (ro_sc v1) = M.2.1 190 v1.toNatClampNeg := g2.symm
        have b50 : M.2.1 190 v1.toNatClampNeg < 50 := by grind
        have bn := ro_clt (n := 50) g3 b50 (by decide)
        have bv := ro_vin (n := 50) g3 b50 (by decide)
        obtain ⟨c1, c2, c3⟩ := hh5 _ bn
        have w4 : xf_166 M (M.2.1 190 v1.toNatClampNeg) = M.2.1 188 (M.2.1 190 v1.toNatClampNeg).toNatClampNeg := by grind [xf_166]
        have n1 : ¬ M.2.1 190 v1.toNatClampNeg = -1 := by grind
        have n2 : ¬ M.2.1 190 v1.toNatClampNeg < 0 := by grind
        refine ⟨?_, ?_⟩
        · unfold xf_306 xf_187
          rw [if_pos h198, if_pos k1, if_neg n1, if_neg n2, if_pos h1, if_pos k2, if_neg w1, if_neg w2, w3, w4, xf_189_t (by rw [c1]; exact ⟨c2, c3⟩) h2]
        · exact ⟨fun _ => ⟨fun _ => ⟨s1, fun _ => trivial, fun _ => ⟨s1, fun _ => trivial, fun _ => ⟨s1, bv, fun _ => ⟨s1, bv, trivial⟩, fun _ => trivial⟩⟩⟩, fun _ => trivial⟩, fun _ => trivial⟩
      · obtain ⟨g1, g2, g3, g4⟩ := g
        have w1 : ¬ xf_21 M (ro_sc v1) = true := by grind [xf_21]
        have w2 : xf_180 M (ro_sc v1) = true := by grind [xf_180]
        have n1 : ¬ M.2.1 190 v1.toNatClampNeg = -1 := by grind
        have n2 : M.2.1 190 v1.toNatClampNeg < 0 := by grind
        refine ⟨?_, ?_⟩
        · unfold xf_306 xf_187
          rw [if_pos h198, if_pos k1, if_neg n1, if_pos n2, if_pos h1, if_pos k2, if_neg w1, if_pos w2, xf_189_n h2, if_neg (by decide)]
        · exact ⟨fun _ => ⟨fun _ => ⟨s1, fun _ => trivial, fun _ => ⟨s1, fun _ => trivial, fun y => absurd n2 y⟩⟩, fun _ => trivial⟩, fun _ => trivial⟩
    · have k1 : ¬ xf_195 M v2 0 7 = true := fun y => h2 (ro_w195.mp y)
      have k2 : ¬ xf_161 M v2 = true := by rw [ro_w161]; exact k1
      refine ⟨?_, ?_⟩
      · unfold xf_306 xf_187
        rw [if_pos h198, if_neg k1, if_pos h1, if_neg k2]
      · exact ⟨fun _ => ⟨fun y => absurd y k1, fun _ => trivial⟩, fun _ => trivial⟩
  · have h198 : ¬ xf_198 M v1 = true := by rw [ro_w198]; exact h1
    refine ⟨?_, ?_⟩
    · unfold xf_306 xf_187
      rw [if_neg h198, if_neg h1]
    · exact ⟨fun y => absurd y h198, fun _ => trivial⟩
theorem pp_38 {M : ro_Mm} (h : ro_Inv M) {v1 v2 : Int32} : xp_306 M v1 v2 := (pe_38 h).2
theorem pr_38 (a1 : Int32) (a2 : Int32) : ro_eqI ro_Inv X 187 306 [.int a1, .int a2] :=
  pr_I (fc := fun M => xf_187 M a1 a2) (fm := fun M => xf_306 M a1 a2) (gc := fun M => M) (gm := fun M => M) (by decide) (by decide) (fun _ h => xs_187 h.1 (pc_38 h)) (fun _ h => h.1) (fun _ h => xs_306 h.1 (pp_38 h)) (fun _ h => (pe_38 h).1) (fun _ h => h)
/-- zeros from k to p -/
def ro_z (J : Nat → Nat → Int64) (c k p : Nat) : Nat → Nat → Int64 := fun a j => if a = c ∧ k ≤ j ∧ j < p then 0 else J a j
theorem ro_z_end {J : Nat → Nat → Int64} {c k p : Nat} (h : p ≤ k) : ro_z J c k p = J := by
  funext a j
  unfold ro_z
  rw [if_neg (by omega)]
theorem ro_z_step {J : Nat → Nat → Int64} {c k p : Nat} (h : k < p) : ro_z (ro_up2 J c k 0) c (k + 1) p = ro_z J c k p := by
  funext a j
  unfold ro_z
  by_cases e1 : a = c ∧ j = k
  · have z1 : ¬ (a = c ∧ k + 1 ≤ j ∧ j < p) := by omega
    have z2 : a = c ∧ k ≤ j ∧ j < p := by omega
    rw [if_neg z1, if_pos z2, e1.1, e1.2, ro_up_s]
  · have z3 : ro_up2 J c k 0 a j = J a j := by unfold ro_up2; rw [if_neg e1]
    rw [z3]
    by_cases e2 : a = c ∧ k + 1 ≤ j ∧ j < p
    · have z2 : a = c ∧ k ≤ j ∧ j < p := by omega
      rw [if_pos e2, if_pos z2]
    · have z2 : ¬ (a = c ∧ k ≤ j ∧ j < p) := by omega
      rw [if_neg e2, if_neg z2]
theorem ro_nle {k : Nat} (h : k < 1000) : nI k ≤ nI k := nI_le (Nat.le_refl _) (by omega)
theorem ro_vn {k n : Nat} (h : k < n) (hn : n < 1000) : vp_in (nI k) n := by unfold vp_in; exact nI_in h (by omega)
theorem cl_178 {c0 p : Nat} {v1 : Int32} (hp : p ≤ 60) : ∀ (d k n : Nat) (M : ro_Mm), k + d = p → d < n →
    (xg_178_12 n M (nI k) c0 v1 (nI p)).2 = (M.1, M.2.1, ro_z M.2.2.1 (c0 + 1) k p, M.2.2.2) ∧ xq_178_12 n M (nI k) c0 v1 (nI p) := by
  intro d
  induction d with
  | zero =>
    intro k n M hk hn
    cases n with
    | zero => omega
    | succ n =>
      have e : k = p := by omega
      have q := ro_nle (show p < 1000 by omega)
      rw [e, xg_178_12, xq_178_12, if_pos q, ro_z_end (Nat.le_refl _)]
      exact ⟨rfl, fun _ => trivial, fun y => absurd q y⟩
  | succ d ih =>
    intro k n M hk hn
    cases n with
    | zero => omega
    | succ n =>
      have q1 : ¬ nI p ≤ nI k := nI_ge (by omega) (by omega)
      have q2 : ¬ (60 : Int32) ≤ nI k := nI_ge (a := k) (b := 60) (by omega) (by omega)
      have q3 : (nI k).toNatClampNeg = k := nI_clamp (by omega)
      rw [xg_178_12, xq_178_12, if_neg q1, if_neg q2, q3, ← nI_succ]
      obtain ⟨i1, i2⟩ := ih (k + 1) n (ro_sJ M (c0 + 1) k 0) (by omega) (by omega)
      rw [i1]
      refine ⟨?_, fun _ => trivial, fun _ => ⟨fun _ => trivial, fun _ => ⟨ro_vn (by omega) (by omega), i2⟩⟩⟩
      have e5 := ro_z_step (J := M.2.2.1) (c := c0 + 1) (show k < p by omega)
      rw [← e5]
      rfl
theorem ro_60n {i : Nat} (hi : i < 6) : (60 : Int32) * nI i + 60 = nI (60 * i + 60) ∧ (60 : Int32) * nI i = nI (60 * i) := by
  rcases (show i = 0 ∨ i = 1 ∨ i = 2 ∨ i = 3 ∨ i = 4 ∨ i = 5 by omega) with e | e | e | e | e | e <;> rw [e] <;> decide
theorem cl_301 {i : Nat} (hi : i < 6) {v2 v3 : Int32} : ∀ (d k n : Nat) (M : ro_Mm), k + d = 60 * i + 60 → d < n →
    (xg_301_54 n M (nI k) (nI i) v2 v3).2 = (M.1, M.2.1, ro_z M.2.2.1 192 k (60 * i + 60), M.2.2.2) ∧ xq_301_54 n M (nI k) (nI i) v2 v3 := by
  have b := (ro_60n hi).1
  intro d
  induction d with
  | zero =>
    intro k n M hk hn
    cases n with
    | zero => omega
    | succ n =>
      have e : k = 60 * i + 60 := by omega
      have q := ro_nle (show 60 * i + 60 < 1000 by omega)
      rw [e, xg_301_54, xq_301_54, b, if_pos q, ro_z_end (Nat.le_refl _)]
      exact ⟨rfl, fun _ => trivial, fun y => absurd q y⟩
  | succ d ih =>
    intro k n M hk hn
    cases n with
    | zero => omega
    | succ n =>
      have q1 : ¬ nI (60 * i + 60) ≤ nI k := nI_ge (by omega) (by omega)
      have q3 : (nI k).toNatClampNeg = k := nI_clamp (by omega)
      rw [xg_301_54, xq_301_54, b, if_neg q1, q3, ← nI_succ]
      obtain ⟨i1, i2⟩ := ih (k + 1) n (ro_sJ M 192 k 0) (by omega) (by omega)
      rw [i1]
      refine ⟨?_, fun _ => trivial, fun _ => ⟨ro_vn (by omega) (by omega), i2⟩⟩
      have e5 := ro_z_step (J := M.2.2.1) (c := 192) (show k < 60 * i + 60 by omega)
      rw [← e5]
      rfl
end PAIRS6
