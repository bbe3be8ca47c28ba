/-! the ways: references under the table -/
section WAYS5
theorem R131g : ∀ (n : Nat) (M : ro_Mm) (v8 v7 v6 : Int32) (v1 : Int64) (v3 v4 v5 : Int32), (xg_131_40 n M v8 v7 v6 v1 v3 v4 v5).2.2.2.2.2.2 = M.2.2.2
  | 0, _, _, _, _, _, _, _, _ => rfl
  | n + 1, M, v8, v7, v6, v1, v3, v4, v5 => by
    rw [xg_131_40]
    repeat' split
    all_goals first | rfl | exact R131g n _ _ _ _ _ _ _ _
theorem R131 {M : ro_Mm} {v1 : Int64} {v3 v4 v5 : Int32} : (xm_131 M v1 v3 v4 v5).2.2.2 = M.2.2.2 := by
  unfold xm_131
  generalize hL : xg_131_40 lp_N M = L
  have hR : ∀ v8 v7 v6 v1 v3 v4 v5, (L v8 v7 v6 v1 v3 v4 v5).2.2.2.2.2.2 = M.2.2.2 := fun v8 v7 v6 v1 v3 v4 v5 => by rw [← hL]; exact R131g _ _ _ _ _ _ _ _ _
  repeat' split
  all_goals first | rfl | exact hR _ _ _ _ _ _ _
theorem R134 {M : ro_Mm} {v1 v2 : Int32} : (xm_134 M v1 v2).2.2.2 = M.2.2.2 := by
  unfold xm_134
  by_cases h1 : v1 < 0
  · rw [if_pos h1]
  · rw [if_neg h1]
    by_cases h2 : (8192 : Int32) ≤ v1
    · rw [if_pos h2]
    · rw [if_neg h2]
      by_cases h3 : v2 < 0
      · rw [if_pos h3]
      · rw [if_neg h3]
        by_cases h4 : v2 < (20 : Int32)
        · rw [if_pos h4]
          split
          · rw [R131, R131]
          · rw [R131]
        · rw [if_neg h4]
end WAYS5

