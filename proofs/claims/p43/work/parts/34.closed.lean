/-! loops in closed form: what copies purses -/
section CLOSED
def ro_cp4 (I : Nat → Nat → Int32) (a1 a2 b1 b2 k p : Nat) : Nat → Nat → Int32 := fun c j => if c = a1 ∧ k ≤ j ∧ j < p then I b1 j else if c = a2 ∧ k ≤ j ∧ j < p then I b2 j else I c j
theorem ro_cp4_end {I : Nat → Nat → Int32} {a1 a2 b1 b2 k p : Nat} (h : p ≤ k) : ro_cp4 I a1 a2 b1 b2 k p = I := by
  funext c j
  unfold ro_cp4
  rw [if_neg (by omega), if_neg (by omega)]
theorem ro_cp4_step {I : Nat → Nat → Int32} {a1 a2 b1 b2 k p : Nat} (h : k < p) (h1 : b1 ≠ a1) (h2 : b1 ≠ a2) (h3 : b2 ≠ a1) (h4 : b2 ≠ a2) (h5 : a1 ≠ a2) : ro_cp4 (ro_up2 (ro_up2 I a1 k (I b1 k)) a2 k (I b2 k)) a1 a2 b1 b2 (k + 1) p = ro_cp4 I a1 a2 b1 b2 k p := by
  funext c j
  unfold ro_cp4
  rw [ro_up_o h2, ro_up_o h1, ro_up_o h4, ro_up_o h3]
  by_cases e1 : c = a1
  · rw [e1]
    by_cases e2 : j = k
    · rw [e2, if_neg (by omega), if_neg (by omega), ro_up_o h5, ro_up_s, if_pos ⟨rfl, Nat.le_refl _, h⟩]
    · by_cases e3 : k + 1 ≤ j ∧ j < p
      · rw [if_pos ⟨rfl, e3⟩, if_pos ⟨rfl, by omega, e3.2⟩]
      · rw [if_neg (fun q => e3 q.2), if_neg (fun q => h5 q.1), ro_up_p e2, ro_up_p e2, if_neg (fun q => e3 ⟨by have := q.2.1; omega, q.2.2⟩), if_neg (fun q => h5 q.1)]
  · by_cases e2 : c = a2
    · have z1 : ¬ (c = a1 ∧ k + 1 ≤ j ∧ j < p) := fun q => e1 q.1
      have z2 : ¬ (c = a1 ∧ k ≤ j ∧ j < p) := fun q => e1 q.1
      rw [if_neg z1, if_neg z2]
      by_cases e3 : j = k
      · have z3 : ¬ (c = a2 ∧ k + 1 ≤ j ∧ j < p) := by omega
        have z4 : c = a2 ∧ k ≤ j ∧ j < p := by omega
        rw [if_neg z3, if_pos z4, e2, e3, ro_up_s]
      · rw [ro_up_p e3, ro_up_p e3]
        by_cases e4 : k + 1 ≤ j ∧ j < p
        · have z3 : c = a2 ∧ k + 1 ≤ j ∧ j < p := ⟨e2, e4⟩
          have z4 : c = a2 ∧ k ≤ j ∧ j < p := by omega
          rw [if_pos z3, if_pos z4]
        · have z3 : ¬ (c = a2 ∧ k + 1 ≤ j ∧ j < p) := fun q => e4 q.2
          have z4 : ¬ (c = a2 ∧ k ≤ j ∧ j < p) := by omega
          rw [if_neg z3, if_neg z4]
    · rw [if_neg (fun q => e1 q.1), if_neg (fun q => e2 q.1), if_neg (fun q => e1 q.1), if_neg (fun q => e2 q.1), ro_up_o e2, ro_up_o e1]
theorem ro_n6 {k : Nat} (h : k < 6) : ¬ nI k < 0 ∧ ¬ 6 ≤ nI k ∧ (nI k).toNatClampNeg = k ∧ vp_in (nI k) 6 := by
  rcases (show k = 0 ∨ k = 1 ∨ k = 2 ∨ k = 3 ∨ k = 4 ∨ k = 5 by omega) with e | e | e | e | e | e <;> rw [e] <;> unfold vp_in <;> decide
theorem ro_n4 {k : Nat} (h : k < 4) : ¬ 4 ≤ nI k ∧ (nI k).toNatClampNeg = k ∧ vp_in (nI k) 4 := by
  rcases (show k = 0 ∨ k = 1 ∨ k = 2 ∨ k = 3 by omega) with e | e | e | e <;> rw [e] <;> unfold vp_in <;> decide
theorem ro_n66 {k : Nat} (h : k ≤ 6) : nI k ≤ nI k := by
  rcases (show k = 0 ∨ k = 1 ∨ k = 2 ∨ k = 3 ∨ k = 4 ∨ k = 5 ∨ k = 6 by omega) with e | e | e | e | e | e | e <;> rw [e] <;> decide
theorem ro_npk {k p : Nat} (h : k < p) (hp : p ≤ 6) : ¬ nI p ≤ nI k := nI_ge h (by omega)
/-- the class's: copyFirst -/
theorem cl_68 {c0 c1 p : Nat} (h0 : ro_ip c0) (h1 : ro_ip c1) (hne : c0 ≠ c1) (hp : p ≤ 6) : ∀ (d k n : Nat) (M : ro_Mm), k + d = p → d < n →
    (xg_68_2 n M (nI k) c0 c1 (nI p)).2 = (M.1, ro_cp4 M.2.1 (c0 + 1) (c0 + 2) (c1 + 1) (c1 + 2) k p, M.2.2.1, M.2.2.2) ∧ xq_68_2 n M (nI k) c0 c1 (nI p) := by
  have g0 := h0
  have g1 := h1
  unfold ro_ip at g0 g1
  intro d
  induction d with
  | zero =>
    intro k n M hk hn
    cases n with
    | zero => omega
    | succ n =>
      have e : k = p := by omega
      rw [e, xg_68_2, xq_68_2, if_pos (ro_n66 hp), ro_cp4_end (Nat.le_refl _)]
      exact ⟨rfl, fun _ => trivial, fun z => absurd (ro_n66 hp) z⟩
  | succ d ih =>
    intro k n M hk hn
    cases n with
    | zero => omega
    | succ n =>
      have hkp : k < p := by omega
      obtain ⟨q1, q2, q3, q4⟩ := ro_n6 (show k < 6 by omega)
      have q5 := ro_npk hkp hp
      have e1 : xf_31 M c1 (nI k) = M.2.1 (c1 + 1) k := by unfold xf_31; rw [if_neg q1, if_neg q2, q3]
      have e2 : xm_16 M c0 (nI k) (M.2.1 (c1 + 1) k) = ro_sI M (c0 + 1) k (M.2.1 (c1 + 1) k) := by unfold xm_16; rw [if_neg q1, if_neg q2, q3]
      have e3 : xf_32 (ro_sI M (c0 + 1) k (M.2.1 (c1 + 1) k)) c1 (nI k) = M.2.1 (c1 + 2) k := by unfold xf_32; rw [if_neg q1, if_neg q2, q3, ro_sI_u, ro_up_o (by omega)]
      have e4 : xm_17 (ro_sI M (c0 + 1) k (M.2.1 (c1 + 1) k)) c0 (nI k) (M.2.1 (c1 + 2) k) = ro_sI (ro_sI M (c0 + 1) k (M.2.1 (c1 + 1) k)) (c0 + 2) k (M.2.1 (c1 + 2) k) := by unfold xm_17; rw [if_neg q1, if_neg q2, q3]
      rw [xg_68_2, xq_68_2, if_neg q5, if_neg q2, e1, e2, e3, e4, ← nI_succ]
      obtain ⟨r1, r2⟩ := ih (k + 1) n (ro_sI (ro_sI M (c0 + 1) k (M.2.1 (c1 + 1) k)) (c0 + 2) k (M.2.1 (c1 + 2) k)) (by omega) (by omega)
      rw [r1]
      refine ⟨?_, fun _ => trivial, fun _ => ⟨fun _ => trivial, fun _ => r2⟩⟩
      have e5 := ro_cp4_step (I := M.2.1) (a1 := c0 + 1) (a2 := c0 + 2) (b1 := c1 + 1) (b2 := c1 + 2) hkp (by omega) (by omega) (by omega) (by omega) (by omega)
      rw [← e5]
      rfl
/-- the reference's: layNow -/
theorem cl_228 {p : Nat} (hp : p ≤ 6) : ∀ (d k n : Nat) (M : ro_Mm), M.2.1 163 1 = nI p → k + d = p → d < n →
    (xg_228_2 n M (nI k)).2 = (M.1, ro_cp4 M.2.1 181 182 164 165 k p, M.2.2.1, M.2.2.2) ∧ xq_228_2 n M (nI k) := by
  intro d
  induction d with
  | zero =>
    intro k n M hb hk hn
    cases n with
    | zero => omega
    | succ n =>
      have e : k = p := by omega
      rw [e, xg_228_2, xq_228_2, hb, if_pos (ro_n66 hp), ro_cp4_end (Nat.le_refl _)]
      exact ⟨rfl, fun _ => trivial, fun z => absurd (ro_n66 hp) z⟩
  | succ d ih =>
    intro k n M hb hk hn
    cases n with
    | zero => omega
    | succ n =>
      have hkp : k < p := by omega
      obtain ⟨q1, q2, q3, q4⟩ := ro_n6 (show k < 6 by omega)
      have q5 := ro_npk hkp hp
      rw [xg_228_2, xq_228_2, hb, if_neg q5, q3, ← nI_succ]
      obtain ⟨r1, r2⟩ := ih (k + 1) n (ro_sI (ro_sI M 181 k (M.2.1 164 k)) 182 k (M.2.1 165 k)) hb (by omega) (by omega)
      rw [r1]
      refine ⟨?_, fun _ => trivial, fun _ => ⟨q4, q4, q4, q4, r2⟩⟩
      have e5 := ro_cp4_step (I := M.2.1) (a1 := 181) (a2 := 182) (b1 := 164) (b2 := 165) hkp (by decide) (by decide) (by decide) (by decide) (by decide)
      rw [← e5]
      rfl
/-- the reference's: keepNow1 -/
theorem cl_275 {p : Nat} (hp : p ≤ 6) : ∀ (d k n : Nat) (M : ro_Mm), M.2.1 163 1 = nI p → k + d = p → d < n →
    (xg_275_2 n M (nI k)).2 = (M.1, ro_cp4 M.2.1 164 165 181 182 k p, M.2.2.1, M.2.2.2) ∧ xq_275_2 n M (nI k) := by
  intro d
  induction d with
  | zero =>
    intro k n M hb hk hn
    cases n with
    | zero => omega
    | succ n =>
      have e : k = p := by omega
      rw [e, xg_275_2, xq_275_2, hb, if_pos (ro_n66 hp), ro_cp4_end (Nat.le_refl _)]
      exact ⟨rfl, fun _ => trivial, fun z => absurd (ro_n66 hp) z⟩
  | succ d ih =>
    intro k n M hb hk hn
    cases n with
    | zero => omega
    | succ n =>
      have hkp : k < p := by omega
      obtain ⟨q1, q2, q3, q4⟩ := ro_n6 (show k < 6 by omega)
      have q5 := ro_npk hkp hp
      rw [xg_275_2, xq_275_2, hb, if_neg q5, q3, ← nI_succ]
      obtain ⟨r1, r2⟩ := ih (k + 1) n (ro_sI (ro_sI M 164 k (M.2.1 181 k)) 165 k (M.2.1 182 k)) hb (by omega) (by omega)
      rw [r1]
      refine ⟨?_, fun _ => trivial, fun _ => ⟨q4, q4, q4, q4, r2⟩⟩
      have e5 := ro_cp4_step (I := M.2.1) (a1 := 164) (a2 := 165) (b1 := 181) (b2 := 182) hkp (by decide) (by decide) (by decide) (by decide) (by decide)
      rw [← e5]
      rfl
/-- the reference's: image -/
theorem cl_279 {p : Nat} (hp : p ≤ 6) : ∀ (d k n : Nat) (M : ro_Mm), M.2.1 163 1 = nI p → k + d = p → d < n →
    (xg_279_25 n M (nI k)).2 = (M.1, ro_cp4 M.2.1 185 186 164 165 k p, M.2.2.1, M.2.2.2) ∧ xq_279_25 n M (nI k) := by
  intro d
  induction d with
  | zero =>
    intro k n M hb hk hn
    cases n with
    | zero => omega
    | succ n =>
      have e : k = p := by omega
      rw [e, xg_279_25, xq_279_25, hb, if_pos (ro_n66 hp), ro_cp4_end (Nat.le_refl _)]
      exact ⟨rfl, fun _ => trivial, fun z => absurd (ro_n66 hp) z⟩
  | succ d ih =>
    intro k n M hb hk hn
    cases n with
    | zero => omega
    | succ n =>
      have hkp : k < p := by omega
      obtain ⟨q1, q2, q3, q4⟩ := ro_n6 (show k < 6 by omega)
      have q5 := ro_npk hkp hp
      rw [xg_279_25, xq_279_25, hb, if_neg q5, q3, ← nI_succ]
      obtain ⟨r1, r2⟩ := ih (k + 1) n (ro_sI (ro_sI M 185 k (M.2.1 164 k)) 186 k (M.2.1 165 k)) hb (by omega) (by omega)
      rw [r1]
      refine ⟨?_, fun _ => trivial, fun _ => ⟨q4, q4, q4, q4, r2⟩⟩
      have e5 := ro_cp4_step (I := M.2.1) (a1 := 185) (a2 := 186) (b1 := 164) (b2 := 165) hkp (by decide) (by decide) (by decide) (by decide) (by decide)
      rw [← e5]
      rfl
/-- the reference's: back -/
theorem cl_280 {p : Nat} (hp : p ≤ 6) : ∀ (d k n : Nat) (M : ro_Mm), M.2.1 163 44 = nI p → k + d = p → d < n →
    (xg_280_22 n M (nI k)).2 = (M.1, ro_cp4 M.2.1 164 165 185 186 k p, M.2.2.1, M.2.2.2) ∧ xq_280_22 n M (nI k) := by
  intro d
  induction d with
  | zero =>
    intro k n M hb hk hn
    cases n with
    | zero => omega
    | succ n =>
      have e : k = p := by omega
      rw [e, xg_280_22, xq_280_22, hb, if_pos (ro_n66 hp), ro_cp4_end (Nat.le_refl _)]
      exact ⟨rfl, fun _ => trivial, fun z => absurd (ro_n66 hp) z⟩
  | succ d ih =>
    intro k n M hb hk hn
    cases n with
    | zero => omega
    | succ n =>
      have hkp : k < p := by omega
      obtain ⟨q1, q2, q3, q4⟩ := ro_n6 (show k < 6 by omega)
      have q5 := ro_npk hkp hp
      rw [xg_280_22, xq_280_22, hb, if_neg q5, q3, ← nI_succ]
      obtain ⟨r1, r2⟩ := ih (k + 1) n (ro_sI (ro_sI M 164 k (M.2.1 185 k)) 165 k (M.2.1 186 k)) hb (by omega) (by omega)
      rw [r1]
      refine ⟨?_, fun _ => trivial, fun _ => ⟨q4, q4, q4, q4, r2⟩⟩
      have e5 := ro_cp4_step (I := M.2.1) (a1 := 164) (a2 := 165) (b1 := 185) (b2 := 186) hkp (by decide) (by decide) (by decide) (by decide) (by decide)
      rw [← e5]
      rfl
/-- the reference's: image, what has been led -/
theorem cl_279_65 : ∀ (d k n : Nat) (M : ro_Mm), k + d = 4 → d < n →
    (xg_279_65 n M (nI k)).2 = (M.1, ro_cp4 M.2.1 187 187 184 184 k 4, M.2.2.1, M.2.2.2) ∧ xq_279_65 n M (nI k) := by
  intro d
  induction d with
  | zero =>
    intro k n M hk hn
    cases n with
    | zero => omega
    | succ n =>
      have e : k = 4 := by omega
      rw [e, xg_279_65, xq_279_65, if_pos (show (4 : Int32) ≤ nI 4 by decide), ro_cp4_end (Nat.le_refl _)]
      exact ⟨rfl, fun _ => trivial, fun z => absurd (show (4 : Int32) ≤ nI 4 by decide) z⟩
  | succ d ih =>
    intro k n M hk hn
    cases n with
    | zero => omega
    | succ n =>
      have hkp : k < 4 := by omega
      obtain ⟨q2, q3, q4⟩ := ro_n4 hkp
      rw [xg_279_65, xq_279_65, if_neg q2, q3, ← nI_succ]
      obtain ⟨r1, r2⟩ := ih (k + 1) n (ro_sI M 187 k (M.2.1 184 k)) (by omega) (by omega)
      rw [r1]
      refine ⟨?_, fun _ => trivial, fun _ => ⟨q4, q4, r2⟩⟩
      have e5 : ro_cp4 (ro_up2 M.2.1 187 k (M.2.1 184 k)) 187 187 184 184 (k + 1) 4 = ro_cp4 M.2.1 187 187 184 184 k 4 := by
        funext c j
        unfold ro_cp4
        by_cases e1 : c = 187
        · rw [e1, ro_up_o (by decide)]
          by_cases e2 : j = k
          · rw [e2, if_neg (by omega), if_neg (by omega), ro_up_s, if_pos ⟨rfl, Nat.le_refl _, hkp⟩]
          · rw [ro_up_p e2]
            by_cases e3 : k + 1 ≤ j ∧ j < 4
            · rw [if_pos ⟨rfl, e3⟩, if_pos ⟨rfl, by omega, e3.2⟩]
            · rw [if_neg (fun q => e3 q.2), if_neg (fun q => e3 q.2), if_neg (fun q => e3 ⟨by have := q.2.1; omega, q.2.2⟩), if_neg (fun q => e3 ⟨by have := q.2.1; omega, q.2.2⟩)]
        · rw [if_neg (fun q => e1 q.1), if_neg (fun q => e1 q.1), if_neg (fun q => e1 q.1), if_neg (fun q => e1 q.1), ro_up_o e1]
      rw [← e5]
      rfl
/-- the reference's: back, what has been led -/
theorem cl_280_62 : ∀ (d k n : Nat) (M : ro_Mm), k + d = 4 → d < n →
    (xg_280_62 n M (nI k)).2 = (M.1, ro_cp4 M.2.1 184 184 187 187 k 4, M.2.2.1, M.2.2.2) ∧ xq_280_62 n M (nI k) := by
  intro d
  induction d with
  | zero =>
    intro k n M hk hn
    cases n with
    | zero => omega
    | succ n =>
      have e : k = 4 := by omega
      rw [e, xg_280_62, xq_280_62, if_pos (show (4 : Int32) ≤ nI 4 by decide), ro_cp4_end (Nat.le_refl _)]
      exact ⟨rfl, fun _ => trivial, fun z => absurd (show (4 : Int32) ≤ nI 4 by decide) z⟩
  | succ d ih =>
    intro k n M hk hn
    cases n with
    | zero => omega
    | succ n =>
      have hkp : k < 4 := by omega
      obtain ⟨q2, q3, q4⟩ := ro_n4 hkp
      rw [xg_280_62, xq_280_62, if_neg q2, q3, ← nI_succ]
      obtain ⟨r1, r2⟩ := ih (k + 1) n (ro_sI M 184 k (M.2.1 187 k)) (by omega) (by omega)
      rw [r1]
      refine ⟨?_, fun _ => trivial, fun _ => ⟨q4, q4, r2⟩⟩
      have e5 : ro_cp4 (ro_up2 M.2.1 184 k (M.2.1 187 k)) 184 184 187 187 (k + 1) 4 = ro_cp4 M.2.1 184 184 187 187 k 4 := by
        funext c j
        unfold ro_cp4
        by_cases e1 : c = 184
        · rw [e1, ro_up_o (by decide)]
          by_cases e2 : j = k
          · rw [e2, if_neg (by omega), if_neg (by omega), ro_up_s, if_pos ⟨rfl, Nat.le_refl _, hkp⟩]
          · rw [ro_up_p e2]
            by_cases e3 : k + 1 ≤ j ∧ j < 4
            · rw [if_pos ⟨rfl, e3⟩, if_pos ⟨rfl, by omega, e3.2⟩]
            · rw [if_neg (fun q => e3 q.2), if_neg (fun q => e3 q.2), if_neg (fun q => e3 ⟨by have := q.2.1; omega, q.2.2⟩), if_neg (fun q => e3 ⟨by have := q.2.1; omega, q.2.2⟩)]
        · rw [if_neg (fun q => e1 q.1), if_neg (fun q => e1 q.1), if_neg (fun q => e1 q.1), if_neg (fun q => e1 q.1), ro_up_o e1]
      rw [← e5]
      rfl
end CLOSED

