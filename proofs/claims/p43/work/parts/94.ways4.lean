/-! the ways: references stay but where they are turned -/
section WAYS4
theorem R126 {M : ro_Mm} {c0 c1 : Nat} {v2 v3 v4 v5 : Int32} : (xm_126 M c0 c1 v2 v3 v4 v5).2.2.2 = M.2.2.2 := by
  unfold xm_126
  repeat' split
  all_goals rfl
theorem R125 {M : ro_Mm} {v1 v2 v3 v4 : Int32} : (xm_125 M v1 v2 v3 v4).2.2.2 = M.2.2.2 := by
  unfold xm_125
  by_cases h1 : v1 < 0
  · rw [if_pos h1]
  · rw [if_neg h1]
    by_cases h2 : (20 : Int32) < v1
    · rw [if_pos h2]
    · rw [if_neg h2, R126, R126]
theorem R127 {M : ro_Mm} {v1 v2 : Int32} : (xm_127 M v1 v2).2.2.2 = M.2.2.2 := by
  unfold xm_127
  by_cases h1 : v1 < 0
  · rw [if_pos h1]
  · rw [if_neg h1]
    by_cases h2 : (20 : Int32) < v1
    · rw [if_pos h2]
    · rw [if_neg h2, R126, R126]
theorem R123 {M : ro_Mm} {v1 v2 v3 v4 : Int32} : (xm_123 M v1 v2 v3 v4).2.2.2 = M.2.2.2 := by
  unfold xm_123
  by_cases h1 : v1 < 0
  · rw [if_pos h1]
  · rw [if_neg h1]
    by_cases h2 : (20 : Int32) < v1
    · rw [if_pos h2]
    · rw [if_neg h2]
      by_cases h3 : v2 < 0
      · rw [if_pos h3]
      · rw [if_neg h3]
        split <;> rfl
theorem Rcp {M : ro_Mm} {c0 c1 : Nat} {sp dp n : Int32} : (ro_cpI M c0 sp c1 dp n).2.2.2 = M.2.2.2 := rfl
theorem RsI {M : ro_Mm} {c j : Nat} {v : Int32} : (ro_sI M c j v).2.2.2 = M.2.2.2 := rfl
theorem RsJ {M : ro_Mm} {c j : Nat} {v : Int64} : (ro_sJ M c j v).2.2.2 = M.2.2.2 := rfl
theorem R124 {M : ro_Mm} {v1 : Int32} : (xm_124 M v1).2.2.2 = M.2.2.2 := by
  unfold xm_124
  by_cases h1 : v1 < 0
  · rw [if_pos h1]
  · rw [if_neg h1]
    by_cases h2 : v1 < (20 : Int32)
    · rw [if_pos h2]
      split
      · rw [R127, R127, R125, Rcp, Rcp, Rcp, Rcp]
      · rw [R125, R125, Rcp, Rcp, Rcp, Rcp]
    · rw [if_neg h2]
theorem R128g : ∀ (n : Nat) (M : ro_Mm) (v : Int32), (xg_128_10 n M v).2.2.2.2 = M.2.2.2
  | 0, _, _ => rfl
  | n + 1, M, v => by
    rw [xg_128_10]
    split
    · rfl
    · rw [R128g n]; rfl
theorem R128 {M : ro_Mm} : (xm_128 M).2.2.2 = M.2.2.2 := by
  unfold xm_128
  rw [R128g]; rfl
theorem R122g {c2 : Nat} : ∀ (n : Nat) (M : ro_Mm) (v v1 : Int32), (xg_122_2 n M v v1 c2).2.2.2.2.2.2 = M.2.2.2
  | 0, _, _, _ => rfl
  | n + 1, M, v, v1 => by
    rw [xg_122_2]
    repeat' split
    all_goals first | rfl | (rw [R122g n, R123])
theorem R122 {M : ro_Mm} {v1 : Int32} {c2 : Nat} : (xm_122 M v1 c2).2.2.2 = M.2.2.2 := R122g lp_N M 0 v1
theorem lft_c {A B : ro_Mm} (h : B.2.2.2 = A.2.2.2) : lft B = lft A := by unfold lft; rw [h]
theorem lnt_c {A B : ro_Mm} (h : B.2.2.2 = A.2.2.2) : lnt B = lnt A := by unfold lnt; rw [h]
end WAYS4

