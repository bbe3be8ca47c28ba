/-! towards mend: the oldest change is forgotten; the same things may be mended (wip/whole/gen41.py) -/
section MEND
/-- the reference's four rows of changes, one down from place k on -/
def ro_sh4 (I : Nat → Nat → Int32) (k : Nat) : Nat → Nat → Int32 := fun c j => if (c = 169 ∨ c = 170 ∨ c = 171 ∨ c = 172) ∧ k ≤ j ∧ j < 39 then I c (j + 1) else I c j
theorem ro_sh4_step {I : Nat → Nat → Int32} {k : Nat} (hk : k < 39) : ro_sh4 (ro_up2 (ro_up2 (ro_up2 (ro_up2 I 169 k (I 169 (k + 1))) 170 k (I 170 (k + 1))) 171 k (I 171 (k + 1))) 172 k (I 172 (k + 1))) (k + 1) = ro_sh4 I k := by
  funext c j
  unfold ro_sh4 ro_up2
  grind
theorem cl_206 {u w x y : Int32} : ∀ (d k n : Nat) (M : ro_Mm), k + d = 39 → d < n →
    (xg_206_34 n M (nI (k + 1)) u w x y).2 = (M.1, ro_sh4 M.2.1 k, M.2.2.1, M.2.2.2) ∧ xq_206_34 n M (nI (k + 1)) u w x y := by
  intro d
  induction d with
  | zero =>
    intro k n M hk hn
    cases n with
    | zero => omega
    | succ n =>
      have e : k = 39 := by omega
      have q : (40 : Int32) ≤ nI (k + 1) := by rw [e]; decide
      have z : ro_sh4 M.2.1 k = M.2.1 := by
        funext c j
        unfold ro_sh4
        rw [if_neg (by omega)]
      rw [xg_206_34, xq_206_34, if_pos q, z]
      exact ⟨rfl, fun _ => trivial, fun y => absurd q y⟩
  | succ d ih =>
    intro k n M hk hn
    cases n with
    | zero => omega
    | succ n =>
      have q : ¬ (40 : Int32) ≤ nI (k + 1) := nI_ge (a := k + 1) (b := 40) (by omega) (by omega)
      have q3 : (nI (k + 1)).toNatClampNeg = k + 1 := nI_clamp (by omega)
      have q4 : (nI k).toNatClampNeg = k := nI_clamp (by omega)
      have v1 : vp_in (nI (k + 1)) 40 := ro_vn (by omega) (by omega)
      have v2 : vp_in (nI k) 40 := ro_vn (by omega) (by omega)
      rw [xg_206_34, xq_206_34, if_neg q, nI_pred, q3, q4, ← nI_succ]
      obtain ⟨i1, i2⟩ := ih (k + 1) n (ro_sI (ro_sI (ro_sI (ro_sI M 169 k (M.2.1 169 (k + 1))) 170 k (M.2.1 170 (k + 1))) 171 k (M.2.1 171 (k + 1))) 172 k (M.2.1 172 (k + 1))) (by omega) (by omega)
      rw [i1]
      refine ⟨?_, fun _ => trivial, fun _ => ⟨v1, v2, v1, v2, v1, v2, v1, v2, i2⟩⟩
      have e5 := ro_sh4_step (I := M.2.1) (k := k) (by omega)
      rw [← e5]
      rfl
theorem x206 {M : ro_Mm} {u w x y : Int32} : (xg_206_34 lp_N M 1 u w x y).2 = (M.1, ro_sh4 M.2.1 0, M.2.2.1, M.2.2.2) ∧ xq_206_34 lp_N M 1 u w x y :=
  cl_206 39 0 lp_N M (by omega) (lp_hug (by omega))
/-- what may be mended, and with what -/
theorem ro_w28 {M : ro_Mm} (h : ro_Inv M) {n w : Int32} : xf_203 M n w = xf_28 M n w := by
  have e := ro_one_b h (v := n)
  unfold xf_203 xf_28
  rw [e]
  by_cases z1 : 0 ≤ w ∧ w ≤ 3
  · have n1 : ¬ w < 0 := by grind
    have n2 : ¬ 3 < w := by grind
    rw [if_pos (ro_w195.mpr z1), if_neg n1, if_neg n2]
  · rw [if_neg (fun y => z1 (ro_w195.mp y))]
    by_cases z2 : 4 ≤ w ∧ w ≤ 6
    · have n1 : ¬ w < 0 := by grind
      have n2 : 3 < w := by grind
      have n3 : ¬ w < 4 := by grind
      have n4 : ¬ 6 < w := by grind
      rw [if_pos (ro_w195.mpr z2), if_neg n1, if_pos n2, if_neg n3, if_neg n4]
    · rw [if_neg (fun y => z2 (ro_w195.mp y))]
      by_cases n1 : w < 0
      · have n3 : w < 4 := by grind
        rw [if_pos n1, if_pos n3]
      · have n2 : 3 < w := by grind
        rw [if_neg n1, if_pos n2]
        by_cases n3 : w < 4
        · rw [if_pos n3]
        · have n4 : 6 < w := by grind
          rw [if_neg n3, if_pos n4]
theorem ro_w205 {M : ro_Mm} {w v : Int32} (hw : 0 ≤ w ∧ w ≤ 6) : (xf_205 M w v = xf_15 M w v) ∧ ((xf_15 M w v = true) = (0 ≤ v ∧ v ≤ ro_mst w)) := by
  rcases ro_seven hw with e | e | e | e | e | e | e <;> rw [e]
  · exact ⟨by rw [Bool.eq_iff_iff, ro_w15_0]; unfold xf_205; rw [if_neg (by decide), if_neg (by decide), if_neg (by decide), if_neg (by decide), ro_w195], ro_w15_0⟩
  · exact ⟨by rw [Bool.eq_iff_iff, ro_w15_1]; unfold xf_205; rw [if_neg (by decide), if_neg (by decide), if_neg (by decide), if_neg (by decide), ro_w195], ro_w15_1⟩
  · exact ⟨by rw [Bool.eq_iff_iff, ro_w15_2]; unfold xf_205; rw [if_pos rfl, ro_w195], ro_w15_2⟩
  · exact ⟨by rw [Bool.eq_iff_iff, ro_w15_3]; unfold xf_205; rw [if_neg (by decide), if_neg (by decide), if_neg (by decide), if_neg (by decide), ro_w195], ro_w15_3⟩
  · exact ⟨by rw [Bool.eq_iff_iff, ro_w15_4]; unfold xf_205; rw [if_neg (by decide), if_pos rfl, ro_w195], ro_w15_4⟩
  · exact ⟨by rw [Bool.eq_iff_iff, ro_w15_5]; unfold xf_205; rw [if_neg (by decide), if_neg (by decide), if_pos rfl, ro_w195], ro_w15_5⟩
  · exact ⟨by rw [Bool.eq_iff_iff, ro_w15_6]; unfold xf_205; rw [if_neg (by decide), if_neg (by decide), if_neg (by decide), if_pos rfl, ro_w195], ro_w15_6⟩
end MEND
