/-! methods that call themselves, by program (wip/whole/walk3.py, mk47.py) -/
/-- RefusedOnce$Bodies.runTop(III)I -/
def xf_171 (F167 : ro_Mm → Int32 → Int32 → Int32 → Int32 → Int32 × ro_Mm) (M : ro_Mm) (v1 : Int32) (v2 : Int32) (v3 : Int32) : Int32 := (if v1 = (1 : Int32) then (v2 + (M.2.1 59 4)) else (if v1 = (2 : Int32) then ((F167 M (M.2.1 59 5) (1 : Int32) v2 v3).1 - (F167 (F167 M (M.2.1 59 5) (1 : Int32) v2 v3).2 ((F167 M (M.2.1 59 5) (1 : Int32) v2 v3).2.2.1 59 5) (2 : Int32) (1 : Int32) v3).1) else (if v1 = (10 : Int32) then ((F167 M (M.2.1 59 5) (0 : Int32) v2 v3).1 * (2 : Int32)) else (v2 ^^^ (M.2.1 59 4)))))
def xm_171 (F167 : ro_Mm → Int32 → Int32 → Int32 → Int32 → Int32 × ro_Mm) (M : ro_Mm) (v1 : Int32) (v2 : Int32) (v3 : Int32) : ro_Mm := (if v1 = (1 : Int32) then M else (if v1 = (2 : Int32) then (F167 (F167 M (M.2.1 59 5) (1 : Int32) v2 v3).2 ((F167 M (M.2.1 59 5) (1 : Int32) v2 v3).2.2.1 59 5) (2 : Int32) (1 : Int32) v3).2 else (if v1 = (10 : Int32) then (F167 M (M.2.1 59 5) (0 : Int32) v2 v3).2 else M)))
def xp_171 (F167 : ro_Mm → Int32 → Int32 → Int32 → Int32 → Int32 × ro_Mm) (P167 : ro_Mm → Int32 → Int32 → Int32 → Int32 → Prop) (M : ro_Mm) (v1 : Int32) (v2 : Int32) (v3 : Int32) : Prop := ((v1 = (1 : Int32) → True) ∧ (¬ (v1 = (1 : Int32)) → ((v1 = (2 : Int32) → (P167 M (M.2.1 59 5) (1 : Int32) v2 v3 ∧ (P167 (F167 M (M.2.1 59 5) (1 : Int32) v2 v3).2 ((F167 M (M.2.1 59 5) (1 : Int32) v2 v3).2.2.1 59 5) (2 : Int32) (1 : Int32) v3 ∧ True))) ∧ (¬ (v1 = (2 : Int32)) → ((v1 = (10 : Int32) → (P167 M (M.2.1 59 5) (0 : Int32) v2 v3 ∧ True)) ∧ (¬ (v1 = (10 : Int32)) → True))))))
theorem xl_171 {X : ro_Sx} {k : Nat} {F167 : ro_Mm → Int32 → Int32 → Int32 → Int32 → Int32 × ro_Mm} {P167 : ro_Mm → Int32 → Int32 → Int32 → Int32 → Prop} (hF167 : ∀ {M : ro_Mm} {v1 : Int32} {v2 : Int32} {v3 : Int32} {v4 : Int32}, ro_lay M → P167 M v1 v2 v3 v4 → ro_cwp X k 167 [.ref 59, .int v1, .int v2, .int v3, .int v4] M (fun v M2 => v = some (.int (F167 M v1 v2 v3 v4).1) ∧ M2 = (F167 M v1 v2 v3 v4).2)) (hl167 : ∀ {M : ro_Mm} {v1 : Int32} {v2 : Int32} {v3 : Int32} {v4 : Int32}, ro_lay M → P167 M v1 v2 v3 v4 → ro_lay (F167 M v1 v2 v3 v4).2) {M : ro_Mm} {v1 : Int32} {v2 : Int32} {v3 : Int32} (hL : ro_lay M) (hp : xp_171 F167 P167 M v1 v2 v3) : ro_lay (xm_171 F167 M v1 v2 v3) := by
  unfold xp_171 at hp
  unfold xm_171
  by_cases hz : v1 = (1 : Int32)
  · have hp := hp.1 hz
    rw [if_pos hz]
    first | exact hL | (have hl := hL; exact hl)
  · have hp := hp.2 hz
    rw [if_neg hz]
    by_cases hz : v1 = (2 : Int32)
    · have hp := hp.1 hz
      rw [if_pos hz]
      obtain ⟨q2, hp⟩ := hp
      obtain ⟨q3, hp⟩ := hp
      first | exact (hl167 (hl167 hL q2) q3) | (have hl := (hl167 (hl167 hL q2) q3); exact hl)
    · have hp := hp.2 hz
      rw [if_neg hz]
      by_cases hz : v1 = (10 : Int32)
      · have hp := hp.1 hz
        rw [if_pos hz]
        obtain ⟨q5, hp⟩ := hp
        first | exact (hl167 hL q5) | (have hl := (hl167 hL q5); exact hl)
      · have hp := hp.2 hz
        rw [if_neg hz]
        first | exact hL | (have hl := hL; exact hl)
/-- RefusedOnce$Bodies.runOver(IIII)I -/
def xf_172 (F167 : ro_Mm → Int32 → Int32 → Int32 → Int32 → Int32 × ro_Mm) (M : ro_Mm) (v1 : Int32) (v2 : Int32) (v3 : Int32) (v4 : Int32) : Int32 := (if v1 = (20 : Int32) then ((F167 M v2 (0 : Int32) v3 v4).1 + (3 : Int32)) else (if v1 = (30 : Int32) then (-(F167 M v2 (1 : Int32) v3 v4).1) else (if v1 = (40 : Int32) then ((F167 M v2 (2 : Int32) v3 v4).1 * (3 : Int32)) else (if v1 = (41 : Int32) then (F167 M v2 (1 : Int32) (v3 + (1 : Int32)) v4).1 else (if v1 = (50 : Int32) then ((F167 M v2 (3 : Int32) v3 v4).1 ^^^ (5 : Int32)) else (if v1 = (60 : Int32) then ((F167 M v2 (2 : Int32) v3 v4).1 - (F167 (F167 M v2 (2 : Int32) v3 v4).2 ((F167 M v2 (2 : Int32) v3 v4).2.2.1 59 5) (0 : Int32) (2 : Int32) v4).1) else (if v1 = (61 : Int32) then ((F167 M v2 (3 : Int32) v3 v4).1 + (1 : Int32)) else (if v1 = (70 : Int32) then ((F167 M v2 (0 : Int32) v3 v4).1 * (2 : Int32)) else (if v1 = (80 : Int32) then ((F167 M v2 (1 : Int32) v3 v4).1 + (F167 (F167 M v2 (1 : Int32) v3 v4).2 ((F167 M v2 (1 : Int32) v3 v4).2.2.1 59 5) (2 : Int32) (2 : Int32) v4).1) else (if v1 = (81 : Int32) then ((F167 M v2 (0 : Int32) v3 v4).1 - (1 : Int32)) else (0 : Int32)))))))))))
def xm_172 (F167 : ro_Mm → Int32 → Int32 → Int32 → Int32 → Int32 × ro_Mm) (M : ro_Mm) (v1 : Int32) (v2 : Int32) (v3 : Int32) (v4 : Int32) : ro_Mm := (if v1 = (20 : Int32) then (F167 M v2 (0 : Int32) v3 v4).2 else (if v1 = (30 : Int32) then (F167 M v2 (1 : Int32) v3 v4).2 else (if v1 = (40 : Int32) then (F167 M v2 (2 : Int32) v3 v4).2 else (if v1 = (41 : Int32) then (F167 M v2 (1 : Int32) (v3 + (1 : Int32)) v4).2 else (if v1 = (50 : Int32) then (F167 M v2 (3 : Int32) v3 v4).2 else (if v1 = (60 : Int32) then (F167 (F167 M v2 (2 : Int32) v3 v4).2 ((F167 M v2 (2 : Int32) v3 v4).2.2.1 59 5) (0 : Int32) (2 : Int32) v4).2 else (if v1 = (61 : Int32) then (F167 M v2 (3 : Int32) v3 v4).2 else (if v1 = (70 : Int32) then (F167 M v2 (0 : Int32) v3 v4).2 else (if v1 = (80 : Int32) then (F167 (F167 M v2 (1 : Int32) v3 v4).2 ((F167 M v2 (1 : Int32) v3 v4).2.2.1 59 5) (2 : Int32) (2 : Int32) v4).2 else (if v1 = (81 : Int32) then (F167 M v2 (0 : Int32) v3 v4).2 else M))))))))))
def xp_172 (F167 : ro_Mm → Int32 → Int32 → Int32 → Int32 → Int32 × ro_Mm) (P167 : ro_Mm → Int32 → Int32 → Int32 → Int32 → Prop) (M : ro_Mm) (v1 : Int32) (v2 : Int32) (v3 : Int32) (v4 : Int32) : Prop := ((v1 = (20 : Int32) → (P167 M v2 (0 : Int32) v3 v4 ∧ True)) ∧ (¬ (v1 = (20 : Int32)) → ((v1 = (30 : Int32) → (P167 M v2 (1 : Int32) v3 v4 ∧ True)) ∧ (¬ (v1 = (30 : Int32)) → ((v1 = (40 : Int32) → (P167 M v2 (2 : Int32) v3 v4 ∧ True)) ∧ (¬ (v1 = (40 : Int32)) → ((v1 = (41 : Int32) → (P167 M v2 (1 : Int32) (v3 + (1 : Int32)) v4 ∧ True)) ∧ (¬ (v1 = (41 : Int32)) → ((v1 = (50 : Int32) → (P167 M v2 (3 : Int32) v3 v4 ∧ True)) ∧ (¬ (v1 = (50 : Int32)) → ((v1 = (60 : Int32) → (P167 M v2 (2 : Int32) v3 v4 ∧ (P167 (F167 M v2 (2 : Int32) v3 v4).2 ((F167 M v2 (2 : Int32) v3 v4).2.2.1 59 5) (0 : Int32) (2 : Int32) v4 ∧ True))) ∧ (¬ (v1 = (60 : Int32)) → ((v1 = (61 : Int32) → (P167 M v2 (3 : Int32) v3 v4 ∧ True)) ∧ (¬ (v1 = (61 : Int32)) → ((v1 = (70 : Int32) → (P167 M v2 (0 : Int32) v3 v4 ∧ True)) ∧ (¬ (v1 = (70 : Int32)) → ((v1 = (80 : Int32) → (P167 M v2 (1 : Int32) v3 v4 ∧ (P167 (F167 M v2 (1 : Int32) v3 v4).2 ((F167 M v2 (1 : Int32) v3 v4).2.2.1 59 5) (2 : Int32) (2 : Int32) v4 ∧ True))) ∧ (¬ (v1 = (80 : Int32)) → ((v1 = (81 : Int32) → (P167 M v2 (0 : Int32) v3 v4 ∧ True)) ∧ (¬ (v1 = (81 : Int32)) → True))))))))))))))))))))
theorem xl_172 {X : ro_Sx} {k : Nat} {F167 : ro_Mm → Int32 → Int32 → Int32 → Int32 → Int32 × ro_Mm} {P167 : ro_Mm → Int32 → Int32 → Int32 → Int32 → Prop} (hF167 : ∀ {M : ro_Mm} {v1 : Int32} {v2 : Int32} {v3 : Int32} {v4 : Int32}, ro_lay M → P167 M v1 v2 v3 v4 → ro_cwp X k 167 [.ref 59, .int v1, .int v2, .int v3, .int v4] M (fun v M2 => v = some (.int (F167 M v1 v2 v3 v4).1) ∧ M2 = (F167 M v1 v2 v3 v4).2)) (hl167 : ∀ {M : ro_Mm} {v1 : Int32} {v2 : Int32} {v3 : Int32} {v4 : Int32}, ro_lay M → P167 M v1 v2 v3 v4 → ro_lay (F167 M v1 v2 v3 v4).2) {M : ro_Mm} {v1 : Int32} {v2 : Int32} {v3 : Int32} {v4 : Int32} (hL : ro_lay M) (hp : xp_172 F167 P167 M v1 v2 v3 v4) : ro_lay (xm_172 F167 M v1 v2 v3 v4) := by
  unfold xp_172 at hp
  unfold xm_172
  by_cases hz : v1 = (20 : Int32)
  · have hp := hp.1 hz
    rw [if_pos hz]
    obtain ⟨q1, hp⟩ := hp
    first | exact (hl167 hL q1) | (have hl := (hl167 hL q1); exact hl)
  · have hp := hp.2 hz
    rw [if_neg hz]
    by_cases hz : v1 = (30 : Int32)
    · have hp := hp.1 hz
      rw [if_pos hz]
      obtain ⟨q3, hp⟩ := hp
      first | exact (hl167 hL q3) | (have hl := (hl167 hL q3); exact hl)
    · have hp := hp.2 hz
      rw [if_neg hz]
      by_cases hz : v1 = (40 : Int32)
      · have hp := hp.1 hz
        rw [if_pos hz]
        obtain ⟨q5, hp⟩ := hp
        first | exact (hl167 hL q5) | (have hl := (hl167 hL q5); exact hl)
      · have hp := hp.2 hz
        rw [if_neg hz]
        by_cases hz : v1 = (41 : Int32)
        · have hp := hp.1 hz
          rw [if_pos hz]
          obtain ⟨q7, hp⟩ := hp
          first | exact (hl167 hL q7) | (have hl := (hl167 hL q7); exact hl)
        · have hp := hp.2 hz
          rw [if_neg hz]
          by_cases hz : v1 = (50 : Int32)
          · have hp := hp.1 hz
            rw [if_pos hz]
            obtain ⟨q9, hp⟩ := hp
            first | exact (hl167 hL q9) | (have hl := (hl167 hL q9); exact hl)
          · have hp := hp.2 hz
            rw [if_neg hz]
            by_cases hz : v1 = (60 : Int32)
            · have hp := hp.1 hz
              rw [if_pos hz]
              obtain ⟨q11, hp⟩ := hp
              obtain ⟨q12, hp⟩ := hp
              first | exact (hl167 (hl167 hL q11) q12) | (have hl := (hl167 (hl167 hL q11) q12); exact hl)
            · have hp := hp.2 hz
              rw [if_neg hz]
              by_cases hz : v1 = (61 : Int32)
              · have hp := hp.1 hz
                rw [if_pos hz]
                obtain ⟨q14, hp⟩ := hp
                first | exact (hl167 hL q14) | (have hl := (hl167 hL q14); exact hl)
              · have hp := hp.2 hz
                rw [if_neg hz]
                by_cases hz : v1 = (70 : Int32)
                · have hp := hp.1 hz
                  rw [if_pos hz]
                  obtain ⟨q16, hp⟩ := hp
                  first | exact (hl167 hL q16) | (have hl := (hl167 hL q16); exact hl)
                · have hp := hp.2 hz
                  rw [if_neg hz]
                  by_cases hz : v1 = (80 : Int32)
                  · have hp := hp.1 hz
                    rw [if_pos hz]
                    obtain ⟨q18, hp⟩ := hp
                    obtain ⟨q19, hp⟩ := hp
                    first | exact (hl167 (hl167 hL q18) q19) | (have hl := (hl167 (hl167 hL q18) q19); exact hl)
                  · have hp := hp.2 hz
                    rw [if_neg hz]
                    by_cases hz : v1 = (81 : Int32)
                    · have hp := hp.1 hz
                      rw [if_pos hz]
                      obtain ⟨q21, hp⟩ := hp
                      first | exact (hl167 hL q21) | (have hl := (hl167 hL q21); exact hl)
                    · have hp := hp.2 hz
                      rw [if_neg hz]
                      first | exact hL | (have hl := hL; exact hl)
/-- a loop of RefusedOnce$Bodies.from(IIII)I -/
noncomputable def xg_167_6 (F167 : ro_Mm → Int32 → Int32 → Int32 → Int32 → Int32 × ro_Mm) : Nat → ro_Mm → Int32 → Int32 → Int32 → Int32 → Int32 → Int32 → Int32 × Int32
  | 0, M, v6, v5, v1, v2, v3, v4 => (v6, v5)
  | n + 1, M, v6, v5, v1, v2, v3, v4 => (if (8 : Int32) ≤ v6 then (v6, v5) else (if v5 < (0 : Int32) then (v6, v5) else (if (xf_168 M v5 v2) = (0 : Int32) then (xg_167_6 F167 n M (v6 + (1 : Int32)) (xf_169 M v5) v1 v2 v3 v4) else (v6, v5))))
def xq_167_6 (F167 : ro_Mm → Int32 → Int32 → Int32 → Int32 → Int32 × ro_Mm) (P167 : ro_Mm → Int32 → Int32 → Int32 → Int32 → Prop) : Nat → ro_Mm → Int32 → Int32 → Int32 → Int32 → Int32 → Int32 → Prop
  | 0, _, _, _, _, _, _, _ => False
  | n + 1, M, v6, v5, v1, v2, v3, v4 => (((8 : Int32) ≤ v6 → True) ∧ (¬ ((8 : Int32) ≤ v6) → ((v5 < (0 : Int32) → True) ∧ (¬ (v5 < (0 : Int32)) → (((xf_168 M v5 v2) = (0 : Int32) → (xq_167_6 F167 P167 n M (v6 + (1 : Int32)) (xf_169 M v5) v1 v2 v3 v4)) ∧ (¬ ((xf_168 M v5 v2) = (0 : Int32)) → True))))))
/-- RefusedOnce$Bodies.from(IIII)I -/
noncomputable def xfb_167 (F167 : ro_Mm → Int32 → Int32 → Int32 → Int32 → Int32 × ro_Mm) (M : ro_Mm) (v1 : Int32) (v2 : Int32) (v3 : Int32) (v4 : Int32) : Int32 := (if (xg_167_6 F167 lp_N M (0 : Int32) v1 v1 v2 v3 v4).2 < (0 : Int32) then (0 : Int32) else (if v4 < (40 : Int32) then (if (20 : Int32) ≤ (xf_168 M (xg_167_6 F167 lp_N M (0 : Int32) v1 v1 v2 v3 v4).2 v2) then (xf_172 F167 (xm_170 M (xf_168 M (xg_167_6 F167 lp_N M (0 : Int32) v1 v1 v2 v3 v4).2 v2)) (xf_168 M (xg_167_6 F167 lp_N M (0 : Int32) v1 v1 v2 v3 v4).2 v2) (xf_169 (xm_170 M (xf_168 M (xg_167_6 F167 lp_N M (0 : Int32) v1 v1 v2 v3 v4).2 v2)) (xg_167_6 F167 lp_N M (0 : Int32) v1 v1 v2 v3 v4).2) v3 (v4 + (1 : Int32))) else (xf_171 F167 (xm_170 M (xf_168 M (xg_167_6 F167 lp_N M (0 : Int32) v1 v1 v2 v3 v4).2 v2)) (xf_168 M (xg_167_6 F167 lp_N M (0 : Int32) v1 v1 v2 v3 v4).2 v2) v3 (v4 + (1 : Int32)))) else (0 : Int32)))
noncomputable def xmb_167 (F167 : ro_Mm → Int32 → Int32 → Int32 → Int32 → Int32 × ro_Mm) (M : ro_Mm) (v1 : Int32) (v2 : Int32) (v3 : Int32) (v4 : Int32) : ro_Mm := (if (xg_167_6 F167 lp_N M (0 : Int32) v1 v1 v2 v3 v4).2 < (0 : Int32) then M else (if v4 < (40 : Int32) then (if (20 : Int32) ≤ (xf_168 M (xg_167_6 F167 lp_N M (0 : Int32) v1 v1 v2 v3 v4).2 v2) then (xm_172 F167 (xm_170 M (xf_168 M (xg_167_6 F167 lp_N M (0 : Int32) v1 v1 v2 v3 v4).2 v2)) (xf_168 M (xg_167_6 F167 lp_N M (0 : Int32) v1 v1 v2 v3 v4).2 v2) (xf_169 (xm_170 M (xf_168 M (xg_167_6 F167 lp_N M (0 : Int32) v1 v1 v2 v3 v4).2 v2)) (xg_167_6 F167 lp_N M (0 : Int32) v1 v1 v2 v3 v4).2) v3 (v4 + (1 : Int32))) else (xm_171 F167 (xm_170 M (xf_168 M (xg_167_6 F167 lp_N M (0 : Int32) v1 v1 v2 v3 v4).2 v2)) (xf_168 M (xg_167_6 F167 lp_N M (0 : Int32) v1 v1 v2 v3 v4).2 v2) v3 (v4 + (1 : Int32)))) else M))
def xpb_167 (F167 : ro_Mm → Int32 → Int32 → Int32 → Int32 → Int32 × ro_Mm) (P167 : ro_Mm → Int32 → Int32 → Int32 → Int32 → Prop) (M : ro_Mm) (v1 : Int32) (v2 : Int32) (v3 : Int32) (v4 : Int32) : Prop := (xq_167_6 F167 P167 lp_N M (0 : Int32) v1 v1 v2 v3 v4 ∧ (((xg_167_6 F167 lp_N M (0 : Int32) v1 v1 v2 v3 v4).2 < (0 : Int32) → True) ∧ (¬ ((xg_167_6 F167 lp_N M (0 : Int32) v1 v1 v2 v3 v4).2 < (0 : Int32)) → ((v4 < (40 : Int32) → (((20 : Int32) ≤ (xf_168 M (xg_167_6 F167 lp_N M (0 : Int32) v1 v1 v2 v3 v4).2 v2) → (xp_172 F167 P167 (xm_170 M (xf_168 M (xg_167_6 F167 lp_N M (0 : Int32) v1 v1 v2 v3 v4).2 v2)) (xf_168 M (xg_167_6 F167 lp_N M (0 : Int32) v1 v1 v2 v3 v4).2 v2) (xf_169 (xm_170 M (xf_168 M (xg_167_6 F167 lp_N M (0 : Int32) v1 v1 v2 v3 v4).2 v2)) (xg_167_6 F167 lp_N M (0 : Int32) v1 v1 v2 v3 v4).2) v3 (v4 + (1 : Int32)) ∧ True)) ∧ (¬ ((20 : Int32) ≤ (xf_168 M (xg_167_6 F167 lp_N M (0 : Int32) v1 v1 v2 v3 v4).2 v2)) → (xp_171 F167 P167 (xm_170 M (xf_168 M (xg_167_6 F167 lp_N M (0 : Int32) v1 v1 v2 v3 v4).2 v2)) (xf_168 M (xg_167_6 F167 lp_N M (0 : Int32) v1 v1 v2 v3 v4).2 v2) v3 (v4 + (1 : Int32)) ∧ True)))) ∧ (¬ (v4 < (40 : Int32)) → True)))))
theorem xlb_167 {X : ro_Sx} {k : Nat} {F167 : ro_Mm → Int32 → Int32 → Int32 → Int32 → Int32 × ro_Mm} {P167 : ro_Mm → Int32 → Int32 → Int32 → Int32 → Prop} (hF167 : ∀ {M : ro_Mm} {v1 : Int32} {v2 : Int32} {v3 : Int32} {v4 : Int32}, ro_lay M → P167 M v1 v2 v3 v4 → ro_cwp X k 167 [.ref 59, .int v1, .int v2, .int v3, .int v4] M (fun v M2 => v = some (.int (F167 M v1 v2 v3 v4).1) ∧ M2 = (F167 M v1 v2 v3 v4).2)) (hl167 : ∀ {M : ro_Mm} {v1 : Int32} {v2 : Int32} {v3 : Int32} {v4 : Int32}, ro_lay M → P167 M v1 v2 v3 v4 → ro_lay (F167 M v1 v2 v3 v4).2) {M : ro_Mm} {v1 : Int32} {v2 : Int32} {v3 : Int32} {v4 : Int32} (hL : ro_lay M) (hp : xpb_167 F167 P167 M v1 v2 v3 v4) : ro_lay (xmb_167 F167 M v1 v2 v3 v4) := by
  unfold xpb_167 at hp
  unfold xmb_167
  obtain ⟨q3, hp⟩ := hp
  by_cases hz : (xg_167_6 F167 lp_N M (0 : Int32) v1 v1 v2 v3 v4).2 < (0 : Int32)
  · have hp := hp.1 hz
    rw [if_pos hz]
    first | exact hL | (have hl := hL; exact hl)
  · have hp := hp.2 hz
    rw [if_neg hz]
    by_cases hz : v4 < (40 : Int32)
    · have hp := hp.1 hz
      rw [if_pos hz]
      by_cases hz : (20 : Int32) ≤ (xf_168 M (xg_167_6 F167 lp_N M (0 : Int32) v1 v1 v2 v3 v4).2 v2)
      · have hp := hp.1 hz
        rw [if_pos hz]
        obtain ⟨q7, hp⟩ := hp
        first | exact (xl_172 hF167 hl167 (xl_170 hL) q7) | (have hl := (xl_172 hF167 hl167 (xl_170 hL) q7); exact hl)
      · have hp := hp.2 hz
        rw [if_neg hz]
        obtain ⟨q8, hp⟩ := hp
        first | exact (xl_171 hF167 hl167 (xl_170 hL) q8) | (have hl := (xl_171 hF167 hl167 (xl_170 hL) q8); exact hl)
    · have hp := hp.2 hz
      rw [if_neg hz]
      first | exact hL | (have hl := hL; exact hl)
noncomputable def xr_act : Nat → (ro_Mm → Int32 → Int32 → Int32 → Int32 → Int32 × ro_Mm)
  | 0 => fun M v1 v2 v3 v4 => (0, M)
  | n + 1 => fun M v1 v2 v3 v4 => (xfb_167 (xr_act n) M v1 v2 v3 v4, (xmb_167 (xr_act n) M v1 v2 v3 v4))
def xpr_act : Nat → (ro_Mm → Int32 → Int32 → Int32 → Int32 → Prop)
  | 0 => fun _ _ _ _ _ => False
  | n + 1 => fun M v1 v2 v3 v4 => xpb_167 (xr_act n) (xpr_act n) M v1 v2 v3 v4
noncomputable def xf_167 (M : ro_Mm) (v1 : Int32) (v2 : Int32) (v3 : Int32) (v4 : Int32) : Int32 := (xr_act rc_N M v1 v2 v3 v4).1
noncomputable def xm_167 (M : ro_Mm) (v1 : Int32) (v2 : Int32) (v3 : Int32) (v4 : Int32) : ro_Mm := (xr_act rc_N M v1 v2 v3 v4).2
def xp_167 (M : ro_Mm) (v1 : Int32) (v2 : Int32) (v3 : Int32) (v4 : Int32) : Prop := xpr_act rc_N M v1 v2 v3 v4
/-- RefusedOnce$Payings.searchWhole(III)V -/
noncomputable def xm_89 (F87 : ro_Mm → Int32 → Int32 → Int32 → ro_Mm) (M : ro_Mm) (v1 : Int32) (v2 : Int32) (v3 : Int32) : ro_Mm := (if v1 < (0 : Int32) then M else (if v1 < (10 : Int32) then (if (xf_30 (xm_58 M 43 (M.2.1 46 (v1.toNatClampNeg)) (M.2.1 47 (v1.toNatClampNeg))) (0 : Int32) (6 : Int32)) ≤ (xf_58 M 43 (M.2.1 46 (v1.toNatClampNeg)) (M.2.1 47 (v1.toNatClampNeg))) then (if (20 : Int32) ≤ (xf_32 (xm_58 M 43 (M.2.1 46 (v1.toNatClampNeg)) (M.2.1 47 (v1.toNatClampNeg))) 43 (M.2.1 47 (v1.toNatClampNeg))) then (xm_58 M 43 (M.2.1 46 (v1.toNatClampNeg)) (M.2.1 47 (v1.toNatClampNeg))) else (xm_90 (xm_74 (F87 (xm_74 (xm_77 (xm_58 M 43 (M.2.1 46 (v1.toNatClampNeg)) (M.2.1 47 (v1.toNatClampNeg))) 43 (M.2.1 46 (v1.toNatClampNeg))) 43 (M.2.1 46 (v1.toNatClampNeg)) (M.2.1 47 (v1.toNatClampNeg))) (v1 + (1 : Int32)) (v2 + (1 : Int32)) v3) 43 (M.2.1 47 (v1.toNatClampNeg)) (M.2.1 46 (v1.toNatClampNeg))) 43 (M.2.1 46 (v1.toNatClampNeg)))) else (xm_78 (F87 (xm_78 (xm_58 M 43 (M.2.1 46 (v1.toNatClampNeg)) (M.2.1 47 (v1.toNatClampNeg))) 43 (M.2.1 46 (v1.toNatClampNeg)) (M.2.1 47 (v1.toNatClampNeg))) (v1 + (1 : Int32)) v2 v3) 43 (M.2.1 47 (v1.toNatClampNeg)) (M.2.1 46 (v1.toNatClampNeg)))) else M))
def xp_89 (F87 : ro_Mm → Int32 → Int32 → Int32 → ro_Mm) (P87 : ro_Mm → Int32 → Int32 → Int32 → Prop) (M : ro_Mm) (v1 : Int32) (v2 : Int32) (v3 : Int32) : Prop := ((v1 < (0 : Int32) → True) ∧ (¬ (v1 < (0 : Int32)) → ((v1 < (10 : Int32) → (xp_58 M 43 (M.2.1 46 (v1.toNatClampNeg)) (M.2.1 47 (v1.toNatClampNeg)) ∧ (((xf_30 (xm_58 M 43 (M.2.1 46 (v1.toNatClampNeg)) (M.2.1 47 (v1.toNatClampNeg))) (0 : Int32) (6 : Int32)) ≤ (xf_58 M 43 (M.2.1 46 (v1.toNatClampNeg)) (M.2.1 47 (v1.toNatClampNeg))) → (((20 : Int32) ≤ (xf_32 (xm_58 M 43 (M.2.1 46 (v1.toNatClampNeg)) (M.2.1 47 (v1.toNatClampNeg))) 43 (M.2.1 47 (v1.toNatClampNeg))) → True) ∧ (¬ ((20 : Int32) ≤ (xf_32 (xm_58 M 43 (M.2.1 46 (v1.toNatClampNeg)) (M.2.1 47 (v1.toNatClampNeg))) 43 (M.2.1 47 (v1.toNatClampNeg)))) → (P87 (xm_74 (xm_77 (xm_58 M 43 (M.2.1 46 (v1.toNatClampNeg)) (M.2.1 47 (v1.toNatClampNeg))) 43 (M.2.1 46 (v1.toNatClampNeg))) 43 (M.2.1 46 (v1.toNatClampNeg)) (M.2.1 47 (v1.toNatClampNeg))) (v1 + (1 : Int32)) (v2 + (1 : Int32)) v3 ∧ True)))) ∧ (¬ ((xf_30 (xm_58 M 43 (M.2.1 46 (v1.toNatClampNeg)) (M.2.1 47 (v1.toNatClampNeg))) (0 : Int32) (6 : Int32)) ≤ (xf_58 M 43 (M.2.1 46 (v1.toNatClampNeg)) (M.2.1 47 (v1.toNatClampNeg)))) → (P87 (xm_78 (xm_58 M 43 (M.2.1 46 (v1.toNatClampNeg)) (M.2.1 47 (v1.toNatClampNeg))) 43 (M.2.1 46 (v1.toNatClampNeg)) (M.2.1 47 (v1.toNatClampNeg))) (v1 + (1 : Int32)) v2 v3 ∧ True))))) ∧ (¬ (v1 < (10 : Int32)) → True))))
theorem xs_89 {X : ro_Sx} {k : Nat} {F87 : ro_Mm → Int32 → Int32 → Int32 → ro_Mm} {P87 : ro_Mm → Int32 → Int32 → Int32 → Prop} (hF87 : ∀ {M : ro_Mm} {v1 : Int32} {v2 : Int32} {v3 : Int32}, ro_lay M → P87 M v1 v2 v3 → ro_cwp X k 87 [.ref 42, .int v1, .int v2, .int v3] M (fun v M2 => v = none ∧ M2 = (F87 M v1 v2 v3))) (hl87 : ∀ {M : ro_Mm} {v1 : Int32} {v2 : Int32} {v3 : Int32}, ro_lay M → P87 M v1 v2 v3 → ro_lay (F87 M v1 v2 v3)) {M : ro_Mm} {v1 : Int32} {v2 : Int32} {v3 : Int32} (hL : ro_lay M) (hp : xp_89 F87 P87 M v1 v2 v3) : ro_cwp X (k + 4) 89 [.ref 42, .int v1, .int v2, .int v3] M (fun v M2 => v = none ∧ M2 = xm_89 F87 M v1 v2 v3) := by
  refine rs_begin (lv0 := [(0, .ref 42), (1, .int v1), (2, .int v2), (3, .int v3)]) (by decide) rfl (by rw [rm_89.1]; exact Nat.le_of_ble_eq_true rfl) rfl ?_
  unfold xp_89 at hp
  refine rs_iload_n ri_89_0 rfl rfl ?_
  refine rs_if_lt (t := 10) ri_89_1 rfl rfl (fun h1 => ?_) (fun h1 => ?_)
  · have hp := hp.1 h1
    refine rs_ret ri_89_10 rm_89.2.1 (by decide) ?_
    exact ⟨by rfl, by unfold xm_89; first | (simp only [if_pos h1]; done) | rfl⟩
  · have hp := hp.2 h1
    refine rs_iload_n ri_89_4 rfl rfl ?_
    refine rs_bipush (v := (10 : Int32)) ri_89_5 rfl (by decide) ?_
    refine rs_icmp_lt (t := 11) ri_89_7 rfl rfl (fun h2 => ?_) (fun h2 => ?_)
    · have hp := hp.1 h2
      refine rs_aload_n ri_89_11 rfl rfl ?_
      refine rs_gf (v := .ref 46) ri_89_12 rfl (by decide) (ro_kf (kd_42 hL)) rfl (rf_42_3 hL) ?_
      refine rs_iload_n ri_89_15 rfl rfl ?_
      refine rs_iald (v := (M.2.1 46 (v1.toNatClampNeg))) ri_89_16 rfl (by decide) (kd_46 hL) (vp_in_iff.mpr ⟨(ro_lo1 h1), (ro_hi1 h2 (by decide))⟩) rfl ?_
      refine rs_istore (lv2 := [(4, .int (M.2.1 46 (v1.toNatClampNeg))), (0, .ref 42), (1, .int v1), (2, .int v2), (3, .int v3)]) ri_89_17 rfl rm_89.1 (by decide) rfl ?_
      refine rs_aload_n ri_89_19 rfl rfl ?_
      refine rs_gf (v := .ref 47) ri_89_20 rfl (by decide) (ro_kf (kd_42 hL)) rfl (rf_42_4 hL) ?_
      refine rs_iload_n ri_89_23 rfl rfl ?_
      refine rs_iald (v := (M.2.1 47 (v1.toNatClampNeg))) ri_89_24 rfl (by decide) (kd_47 hL) (vp_in_iff.mpr ⟨(ro_lo1 h1), (ro_hi1 h2 (by decide))⟩) rfl ?_
      refine rs_istore (lv2 := [(5, .int (M.2.1 47 (v1.toNatClampNeg))), (4, .int (M.2.1 46 (v1.toNatClampNeg))), (0, .ref 42), (1, .int v1), (2, .int v2), (3, .int v3)]) ri_89_25 rfl rm_89.1 (by decide) rfl ?_
      refine rs_aload_n ri_89_27 rfl rfl ?_
      refine rs_gf (v := .ref 16) ri_89_28 rfl (by decide) (ro_kf (kd_42 hL)) rfl (rf_42_1 hL) ?_
      refine rs_aload_n ri_89_31 rfl rfl ?_
      refine rs_gf (v := .ref 5) ri_89_32 rfl (by decide) (ro_kf (kd_42 hL)) rfl (rf_42_0 hL) ?_
      refine rs_aload_n ri_89_35 rfl rfl ?_
      refine rs_gf (v := .ref 43) ri_89_36 rfl (by decide) (ro_kf (kd_42 hL)) rfl (rf_42_2 hL) ?_
      refine rs_iload ri_89_39 rfl rfl ?_
      refine rs_iload ri_89_41 rfl rfl ?_
      obtain ⟨q2, hp⟩ := hp
      refine rs_virt (As := [.ref 5, .ref 43, .int (M.2.1 46 (v1.toNatClampNeg)), .int (M.2.1 47 (v1.toNatClampNeg))]) (r := []) ri_89_43 rfl (by decide) rm_58.2.2.2 rm_58.2.2.1 rfl rfl rfl (by decide) (ro_kf (kd_16 hL)) (Nat.le_of_ble_eq_true rfl) (by decide) (by omega) (xs_58 (X := X) hL (by unfold ro_ip; decide) q2) ?_
      rintro _ _ ⟨e1, e2⟩
      rw [e1, e2]
      show ro_w X _ 89 _ 46 [(5, .int (M.2.1 47 (v1.toNatClampNeg))), (4, .int (M.2.1 46 (v1.toNatClampNeg))), (0, .ref 42), (1, .int v1), (2, .int v2), (3, .int v3)] [.int (xf_58 M 43 (M.2.1 46 (v1.toNatClampNeg)) (M.2.1 47 (v1.toNatClampNeg)))] (xm_58 M 43 (M.2.1 46 (v1.toNatClampNeg)) (M.2.1 47 (v1.toNatClampNeg))) (0, 0)
      refine rs_aload_n ri_89_46 rfl rfl ?_
      refine rs_gf (v := .ref 5) ri_89_47 rfl (by decide) (ro_kf (kd_42 (xl_58 hL (by unfold ro_ip; decide) q2))) rfl (rf_42_0 (xl_58 hL (by unfold ro_ip; decide) q2)) ?_
      refine rs_iconst (v := (0 : Int32)) ri_89_50 rfl (by decide) ?_
      refine rs_bipush (v := (6 : Int32)) ri_89_51 rfl (by decide) ?_
      refine rs_virt (As := [.int (0 : Int32), .int (6 : Int32)]) (r := [.int (xf_58 M 43 (M.2.1 46 (v1.toNatClampNeg)) (M.2.1 47 (v1.toNatClampNeg)))]) ri_89_53 rfl (by decide) rm_30.2.2.2 rm_30.2.2.1 rfl rfl rfl (by decide) (ro_kf (kd_5 (xl_58 hL (by unfold ro_ip; decide) q2))) (Nat.le_of_ble_eq_true rfl) (by decide) (by omega) (xs_30 (X := X) (xl_58 hL (by unfold ro_ip; decide) q2)) ?_
      rintro _ _ ⟨e1, e2⟩
      rw [e1, e2]
      show ro_w X _ 89 _ 56 [(5, .int (M.2.1 47 (v1.toNatClampNeg))), (4, .int (M.2.1 46 (v1.toNatClampNeg))), (0, .ref 42), (1, .int v1), (2, .int v2), (3, .int v3)] [.int (xf_30 (xm_58 M 43 (M.2.1 46 (v1.toNatClampNeg)) (M.2.1 47 (v1.toNatClampNeg))) (0 : Int32) (6 : Int32)), .int (xf_58 M 43 (M.2.1 46 (v1.toNatClampNeg)) (M.2.1 47 (v1.toNatClampNeg)))] (xm_58 M 43 (M.2.1 46 (v1.toNatClampNeg)) (M.2.1 47 (v1.toNatClampNeg))) (0, 0)
      refine rs_icmp_ge (t := 93) ri_89_56 rfl rfl (fun h4 => ?_) (fun h4 => ?_)
      · have hp := hp.1 h4
        refine rs_aload_n ri_89_93 rfl rfl ?_
        refine rs_gf (v := .ref 43) ri_89_94 rfl (by decide) (ro_kf (kd_42 (xl_58 hL (by unfold ro_ip; decide) q2))) rfl (rf_42_2 (xl_58 hL (by unfold ro_ip; decide) q2)) ?_
        refine rs_iload ri_89_97 rfl rfl ?_
        refine rs_virt (As := [.int (M.2.1 47 (v1.toNatClampNeg))]) (r := []) ri_89_99 rfl (by decide) rm_32.2.2.2 rm_32.2.2.1 rfl rfl rfl (by decide) (ro_kf (kd_43 (xl_58 hL (by unfold ro_ip; decide) q2))) (Nat.le_of_ble_eq_true rfl) (by decide) (by omega) (xs_32 (X := X) (xl_58 hL (by unfold ro_ip; decide) q2) (by unfold ro_ip; decide)) ?_
        rintro _ _ ⟨e1, e2⟩
        rw [e1, e2]
        show ro_w X _ 89 _ 102 [(5, .int (M.2.1 47 (v1.toNatClampNeg))), (4, .int (M.2.1 46 (v1.toNatClampNeg))), (0, .ref 42), (1, .int v1), (2, .int v2), (3, .int v3)] [.int (xf_32 (xm_58 M 43 (M.2.1 46 (v1.toNatClampNeg)) (M.2.1 47 (v1.toNatClampNeg))) 43 (M.2.1 47 (v1.toNatClampNeg)))] (xm_58 M 43 (M.2.1 46 (v1.toNatClampNeg)) (M.2.1 47 (v1.toNatClampNeg))) (0, 0)
        refine rs_bipush (v := (20 : Int32)) ri_89_102 rfl (by decide) ?_
        refine rs_icmp_ge (t := 158) ri_89_104 rfl rfl (fun h5 => ?_) (fun h5 => ?_)
        · have hp := hp.1 h5
          refine rs_ret ri_89_158 rm_89.2.1 (by decide) ?_
          exact ⟨by rfl, by unfold xm_89; first | (simp only [if_neg h1, if_pos h2, if_pos h4, if_pos h5]; done) | rfl⟩
        · have hp := hp.2 h5
          refine rs_aload_n ri_89_107 rfl rfl ?_
          refine rs_gf (v := .ref 43) ri_89_108 rfl (by decide) (ro_kf (kd_42 (xl_58 hL (by unfold ro_ip; decide) q2))) rfl (rf_42_2 (xl_58 hL (by unfold ro_ip; decide) q2)) ?_
          refine rs_iload ri_89_111 rfl rfl ?_
          refine rs_virt (As := [.int (M.2.1 46 (v1.toNatClampNeg))]) (r := []) ri_89_113 rfl (by decide) rm_77.2.2.2 rm_77.2.2.1 rfl rfl rfl (by decide) (ro_kf (kd_43 (xl_58 hL (by unfold ro_ip; decide) q2))) (Nat.le_of_ble_eq_true rfl) (by decide) (by omega) (xs_77 (X := X) (xl_58 hL (by unfold ro_ip; decide) q2) (by unfold ro_ip; decide)) ?_
          rintro _ _ ⟨e1, e2⟩
          rw [e1, e2]
          show ro_w X _ 89 _ 116 [(5, .int (M.2.1 47 (v1.toNatClampNeg))), (4, .int (M.2.1 46 (v1.toNatClampNeg))), (0, .ref 42), (1, .int v1), (2, .int v2), (3, .int v3)] [] (xm_77 (xm_58 M 43 (M.2.1 46 (v1.toNatClampNeg)) (M.2.1 47 (v1.toNatClampNeg))) 43 (M.2.1 46 (v1.toNatClampNeg))) (0, 0)
          refine rs_aload_n ri_89_116 rfl rfl ?_
          refine rs_gf (v := .ref 43) ri_89_117 rfl (by decide) (ro_kf (kd_42 (xl_77 (xl_58 hL (by unfold ro_ip; decide) q2) (by unfold ro_ip; decide)))) rfl (rf_42_2 (xl_77 (xl_58 hL (by unfold ro_ip; decide) q2) (by unfold ro_ip; decide))) ?_
          refine rs_iload ri_89_120 rfl rfl ?_
          refine rs_iload ri_89_122 rfl rfl ?_
          refine rs_virt (As := [.int (M.2.1 46 (v1.toNatClampNeg)), .int (M.2.1 47 (v1.toNatClampNeg))]) (r := []) ri_89_124 rfl (by decide) rm_74.2.2.2 rm_74.2.2.1 rfl rfl rfl (by decide) (ro_kf (kd_43 (xl_77 (xl_58 hL (by unfold ro_ip; decide) q2) (by unfold ro_ip; decide)))) (Nat.le_of_ble_eq_true rfl) (by decide) (by omega) (xs_74 (X := X) (xl_77 (xl_58 hL (by unfold ro_ip; decide) q2) (by unfold ro_ip; decide)) (by unfold ro_ip; decide)) ?_
          rintro _ _ ⟨e1, e2⟩
          rw [e1, e2]
          show ro_w X _ 89 _ 127 [(5, .int (M.2.1 47 (v1.toNatClampNeg))), (4, .int (M.2.1 46 (v1.toNatClampNeg))), (0, .ref 42), (1, .int v1), (2, .int v2), (3, .int v3)] [] (xm_74 (xm_77 (xm_58 M 43 (M.2.1 46 (v1.toNatClampNeg)) (M.2.1 47 (v1.toNatClampNeg))) 43 (M.2.1 46 (v1.toNatClampNeg))) 43 (M.2.1 46 (v1.toNatClampNeg)) (M.2.1 47 (v1.toNatClampNeg))) (0, 0)
          refine rs_aload_n ri_89_127 rfl rfl ?_
          refine rs_iload_n ri_89_128 rfl rfl ?_
          refine rs_iconst (v := (1 : Int32)) ri_89_129 rfl (by decide) ?_
          refine rs_iadd (r := (v1 + (1 : Int32))) ri_89_130 rfl rfl ?_
          refine rs_iload_n ri_89_131 rfl rfl ?_
          refine rs_iconst (v := (1 : Int32)) ri_89_132 rfl (by decide) ?_
          refine rs_iadd (r := (v2 + (1 : Int32))) ri_89_133 rfl rfl ?_
          refine rs_iload_n ri_89_134 rfl rfl ?_
          obtain ⟨q5, hp⟩ := hp
          refine rs_virt (As := [.int (v1 + (1 : Int32)), .int (v2 + (1 : Int32)), .int v3]) (r := []) ri_89_135 rfl (by decide) rm_87.2.2.2 rm_87.2.2.1 rfl rfl rfl (by decide) (ro_kf (kd_42 (xl_74 (xl_77 (xl_58 hL (by unfold ro_ip; decide) q2) (by unfold ro_ip; decide)) (by unfold ro_ip; decide)))) (Nat.le_of_ble_eq_true rfl) (by decide) (by omega) (hF87 (xl_74 (xl_77 (xl_58 hL (by unfold ro_ip; decide) q2) (by unfold ro_ip; decide)) (by unfold ro_ip; decide)) q5) ?_
          rintro _ _ ⟨e1, e2⟩
          rw [e1, e2]
          show ro_w X _ 89 _ 138 [(5, .int (M.2.1 47 (v1.toNatClampNeg))), (4, .int (M.2.1 46 (v1.toNatClampNeg))), (0, .ref 42), (1, .int v1), (2, .int v2), (3, .int v3)] [] (F87 (xm_74 (xm_77 (xm_58 M 43 (M.2.1 46 (v1.toNatClampNeg)) (M.2.1 47 (v1.toNatClampNeg))) 43 (M.2.1 46 (v1.toNatClampNeg))) 43 (M.2.1 46 (v1.toNatClampNeg)) (M.2.1 47 (v1.toNatClampNeg))) (v1 + (1 : Int32)) (v2 + (1 : Int32)) v3) (0, 0)
          refine rs_aload_n ri_89_138 rfl rfl ?_
          refine rs_gf (v := .ref 43) ri_89_139 rfl (by decide) (ro_kf (kd_42 (hl87 (xl_74 (xl_77 (xl_58 hL (by unfold ro_ip; decide) q2) (by unfold ro_ip; decide)) (by unfold ro_ip; decide)) q5))) rfl (rf_42_2 (hl87 (xl_74 (xl_77 (xl_58 hL (by unfold ro_ip; decide) q2) (by unfold ro_ip; decide)) (by unfold ro_ip; decide)) q5)) ?_
          refine rs_iload ri_89_142 rfl rfl ?_
          refine rs_iload ri_89_144 rfl rfl ?_
          refine rs_virt (As := [.int (M.2.1 47 (v1.toNatClampNeg)), .int (M.2.1 46 (v1.toNatClampNeg))]) (r := []) ri_89_146 rfl (by decide) rm_74.2.2.2 rm_74.2.2.1 rfl rfl rfl (by decide) (ro_kf (kd_43 (hl87 (xl_74 (xl_77 (xl_58 hL (by unfold ro_ip; decide) q2) (by unfold ro_ip; decide)) (by unfold ro_ip; decide)) q5))) (Nat.le_of_ble_eq_true rfl) (by decide) (by omega) (xs_74 (X := X) (hl87 (xl_74 (xl_77 (xl_58 hL (by unfold ro_ip; decide) q2) (by unfold ro_ip; decide)) (by unfold ro_ip; decide)) q5) (by unfold ro_ip; decide)) ?_
          rintro _ _ ⟨e1, e2⟩
          rw [e1, e2]
          show ro_w X _ 89 _ 149 [(5, .int (M.2.1 47 (v1.toNatClampNeg))), (4, .int (M.2.1 46 (v1.toNatClampNeg))), (0, .ref 42), (1, .int v1), (2, .int v2), (3, .int v3)] [] (xm_74 (F87 (xm_74 (xm_77 (xm_58 M 43 (M.2.1 46 (v1.toNatClampNeg)) (M.2.1 47 (v1.toNatClampNeg))) 43 (M.2.1 46 (v1.toNatClampNeg))) 43 (M.2.1 46 (v1.toNatClampNeg)) (M.2.1 47 (v1.toNatClampNeg))) (v1 + (1 : Int32)) (v2 + (1 : Int32)) v3) 43 (M.2.1 47 (v1.toNatClampNeg)) (M.2.1 46 (v1.toNatClampNeg))) (0, 0)
          refine rs_aload_n ri_89_149 rfl rfl ?_
          refine rs_gf (v := .ref 43) ri_89_150 rfl (by decide) (ro_kf (kd_42 (xl_74 (hl87 (xl_74 (xl_77 (xl_58 hL (by unfold ro_ip; decide) q2) (by unfold ro_ip; decide)) (by unfold ro_ip; decide)) q5) (by unfold ro_ip; decide)))) rfl (rf_42_2 (xl_74 (hl87 (xl_74 (xl_77 (xl_58 hL (by unfold ro_ip; decide) q2) (by unfold ro_ip; decide)) (by unfold ro_ip; decide)) q5) (by unfold ro_ip; decide))) ?_
          refine rs_iload ri_89_153 rfl rfl ?_
          refine rs_virt (As := [.int (M.2.1 46 (v1.toNatClampNeg))]) (r := []) ri_89_155 rfl (by decide) rm_90.2.2.2 rm_90.2.2.1 rfl rfl rfl (by decide) (ro_kf (kd_43 (xl_74 (hl87 (xl_74 (xl_77 (xl_58 hL (by unfold ro_ip; decide) q2) (by unfold ro_ip; decide)) (by unfold ro_ip; decide)) q5) (by unfold ro_ip; decide)))) (Nat.le_of_ble_eq_true rfl) (by decide) (by omega) (xs_90 (X := X) (xl_74 (hl87 (xl_74 (xl_77 (xl_58 hL (by unfold ro_ip; decide) q2) (by unfold ro_ip; decide)) (by unfold ro_ip; decide)) q5) (by unfold ro_ip; decide)) (by unfold ro_ip; decide)) ?_
          rintro _ _ ⟨e1, e2⟩
          rw [e1, e2]
          show ro_w X _ 89 _ 158 [(5, .int (M.2.1 47 (v1.toNatClampNeg))), (4, .int (M.2.1 46 (v1.toNatClampNeg))), (0, .ref 42), (1, .int v1), (2, .int v2), (3, .int v3)] [] (xm_90 (xm_74 (F87 (xm_74 (xm_77 (xm_58 M 43 (M.2.1 46 (v1.toNatClampNeg)) (M.2.1 47 (v1.toNatClampNeg))) 43 (M.2.1 46 (v1.toNatClampNeg))) 43 (M.2.1 46 (v1.toNatClampNeg)) (M.2.1 47 (v1.toNatClampNeg))) (v1 + (1 : Int32)) (v2 + (1 : Int32)) v3) 43 (M.2.1 47 (v1.toNatClampNeg)) (M.2.1 46 (v1.toNatClampNeg))) 43 (M.2.1 46 (v1.toNatClampNeg))) (0, 0)
          refine rs_ret ri_89_158 rm_89.2.1 (by decide) ?_
          exact ⟨by rfl, by unfold xm_89; first | (simp only [if_neg h1, if_pos h2, if_pos h4, if_neg h5]; done) | rfl⟩
      · have hp := hp.2 h4
        refine rs_aload_n ri_89_59 rfl rfl ?_
        refine rs_gf (v := .ref 43) ri_89_60 rfl (by decide) (ro_kf (kd_42 (xl_58 hL (by unfold ro_ip; decide) q2))) rfl (rf_42_2 (xl_58 hL (by unfold ro_ip; decide) q2)) ?_
        refine rs_iload ri_89_63 rfl rfl ?_
        refine rs_iload ri_89_65 rfl rfl ?_
        refine rs_virt (As := [.int (M.2.1 46 (v1.toNatClampNeg)), .int (M.2.1 47 (v1.toNatClampNeg))]) (r := []) ri_89_67 rfl (by decide) rm_78.2.2.2 rm_78.2.2.1 rfl rfl rfl (by decide) (ro_kf (kd_43 (xl_58 hL (by unfold ro_ip; decide) q2))) (Nat.le_of_ble_eq_true rfl) (by decide) (by omega) (xs_78 (X := X) (xl_58 hL (by unfold ro_ip; decide) q2) (by unfold ro_ip; decide)) ?_
        rintro _ _ ⟨e1, e2⟩
        rw [e1, e2]
        show ro_w X _ 89 _ 70 [(5, .int (M.2.1 47 (v1.toNatClampNeg))), (4, .int (M.2.1 46 (v1.toNatClampNeg))), (0, .ref 42), (1, .int v1), (2, .int v2), (3, .int v3)] [] (xm_78 (xm_58 M 43 (M.2.1 46 (v1.toNatClampNeg)) (M.2.1 47 (v1.toNatClampNeg))) 43 (M.2.1 46 (v1.toNatClampNeg)) (M.2.1 47 (v1.toNatClampNeg))) (0, 0)
        refine rs_aload_n ri_89_70 rfl rfl ?_
        refine rs_iload_n ri_89_71 rfl rfl ?_
        refine rs_iconst (v := (1 : Int32)) ri_89_72 rfl (by decide) ?_
        refine rs_iadd (r := (v1 + (1 : Int32))) ri_89_73 rfl rfl ?_
        refine rs_iload_n ri_89_74 rfl rfl ?_
        refine rs_iload_n ri_89_75 rfl rfl ?_
        obtain ⟨q6, hp⟩ := hp
        refine rs_virt (As := [.int (v1 + (1 : Int32)), .int v2, .int v3]) (r := []) ri_89_76 rfl (by decide) rm_87.2.2.2 rm_87.2.2.1 rfl rfl rfl (by decide) (ro_kf (kd_42 (xl_78 (xl_58 hL (by unfold ro_ip; decide) q2) (by unfold ro_ip; decide)))) (Nat.le_of_ble_eq_true rfl) (by decide) (by omega) (hF87 (xl_78 (xl_58 hL (by unfold ro_ip; decide) q2) (by unfold ro_ip; decide)) q6) ?_
        rintro _ _ ⟨e1, e2⟩
        rw [e1, e2]
        show ro_w X _ 89 _ 79 [(5, .int (M.2.1 47 (v1.toNatClampNeg))), (4, .int (M.2.1 46 (v1.toNatClampNeg))), (0, .ref 42), (1, .int v1), (2, .int v2), (3, .int v3)] [] (F87 (xm_78 (xm_58 M 43 (M.2.1 46 (v1.toNatClampNeg)) (M.2.1 47 (v1.toNatClampNeg))) 43 (M.2.1 46 (v1.toNatClampNeg)) (M.2.1 47 (v1.toNatClampNeg))) (v1 + (1 : Int32)) v2 v3) (0, 0)
        refine rs_aload_n ri_89_79 rfl rfl ?_
        refine rs_gf (v := .ref 43) ri_89_80 rfl (by decide) (ro_kf (kd_42 (hl87 (xl_78 (xl_58 hL (by unfold ro_ip; decide) q2) (by unfold ro_ip; decide)) q6))) rfl (rf_42_2 (hl87 (xl_78 (xl_58 hL (by unfold ro_ip; decide) q2) (by unfold ro_ip; decide)) q6)) ?_
        refine rs_iload ri_89_83 rfl rfl ?_
        refine rs_iload ri_89_85 rfl rfl ?_
        refine rs_virt (As := [.int (M.2.1 47 (v1.toNatClampNeg)), .int (M.2.1 46 (v1.toNatClampNeg))]) (r := []) ri_89_87 rfl (by decide) rm_78.2.2.2 rm_78.2.2.1 rfl rfl rfl (by decide) (ro_kf (kd_43 (hl87 (xl_78 (xl_58 hL (by unfold ro_ip; decide) q2) (by unfold ro_ip; decide)) q6))) (Nat.le_of_ble_eq_true rfl) (by decide) (by omega) (xs_78 (X := X) (hl87 (xl_78 (xl_58 hL (by unfold ro_ip; decide) q2) (by unfold ro_ip; decide)) q6) (by unfold ro_ip; decide)) ?_
        rintro _ _ ⟨e1, e2⟩
        rw [e1, e2]
        show ro_w X _ 89 _ 90 [(5, .int (M.2.1 47 (v1.toNatClampNeg))), (4, .int (M.2.1 46 (v1.toNatClampNeg))), (0, .ref 42), (1, .int v1), (2, .int v2), (3, .int v3)] [] (xm_78 (F87 (xm_78 (xm_58 M 43 (M.2.1 46 (v1.toNatClampNeg)) (M.2.1 47 (v1.toNatClampNeg))) 43 (M.2.1 46 (v1.toNatClampNeg)) (M.2.1 47 (v1.toNatClampNeg))) (v1 + (1 : Int32)) v2 v3) 43 (M.2.1 47 (v1.toNatClampNeg)) (M.2.1 46 (v1.toNatClampNeg))) (0, 0)
        refine rs_goto (t := 158) ri_89_90 rfl ?_
        refine rs_ret ri_89_158 rm_89.2.1 (by decide) ?_
        exact ⟨by rfl, by unfold xm_89; first | (simp only [if_neg h1, if_pos h2, if_neg h4]; done) | rfl⟩
    · have hp := hp.2 h2
      refine rs_ret ri_89_10 rm_89.2.1 (by decide) ?_
      exact ⟨by rfl, by unfold xm_89; first | (simp only [if_neg h1, if_neg h2]; done) | rfl⟩
theorem xl_89 {X : ro_Sx} {k : Nat} {F87 : ro_Mm → Int32 → Int32 → Int32 → ro_Mm} {P87 : ro_Mm → Int32 → Int32 → Int32 → Prop} (hF87 : ∀ {M : ro_Mm} {v1 : Int32} {v2 : Int32} {v3 : Int32}, ro_lay M → P87 M v1 v2 v3 → ro_cwp X k 87 [.ref 42, .int v1, .int v2, .int v3] M (fun v M2 => v = none ∧ M2 = (F87 M v1 v2 v3))) (hl87 : ∀ {M : ro_Mm} {v1 : Int32} {v2 : Int32} {v3 : Int32}, ro_lay M → P87 M v1 v2 v3 → ro_lay (F87 M v1 v2 v3)) {M : ro_Mm} {v1 : Int32} {v2 : Int32} {v3 : Int32} (hL : ro_lay M) (hp : xp_89 F87 P87 M v1 v2 v3) : ro_lay (xm_89 F87 M v1 v2 v3) := by
  unfold xp_89 at hp
  unfold xm_89
  by_cases hz : v1 < (0 : Int32)
  · have hp := hp.1 hz
    rw [if_pos hz]
    first | exact hL | (have hl := hL; exact hl)
  · have hp := hp.2 hz
    rw [if_neg hz]
    by_cases hz : v1 < (10 : Int32)
    · have hp := hp.1 hz
      rw [if_pos hz]
      obtain ⟨q2, hp⟩ := hp
      by_cases hz : (xf_30 (xm_58 M 43 (M.2.1 46 (v1.toNatClampNeg)) (M.2.1 47 (v1.toNatClampNeg))) (0 : Int32) (6 : Int32)) ≤ (xf_58 M 43 (M.2.1 46 (v1.toNatClampNeg)) (M.2.1 47 (v1.toNatClampNeg)))
      · have hp := hp.1 hz
        rw [if_pos hz]
        by_cases hz : (20 : Int32) ≤ (xf_32 (xm_58 M 43 (M.2.1 46 (v1.toNatClampNeg)) (M.2.1 47 (v1.toNatClampNeg))) 43 (M.2.1 47 (v1.toNatClampNeg)))
        · have hp := hp.1 hz
          rw [if_pos hz]
          first | exact (xl_58 hL (by unfold ro_ip; decide) q2) | (have hl := (xl_58 hL (by unfold ro_ip; decide) q2); exact hl)
        · have hp := hp.2 hz
          rw [if_neg hz]
          obtain ⟨q5, hp⟩ := hp
          first | exact (xl_90 (xl_74 (hl87 (xl_74 (xl_77 (xl_58 hL (by unfold ro_ip; decide) q2) (by unfold ro_ip; decide)) (by unfold ro_ip; decide)) q5) (by unfold ro_ip; decide)) (by unfold ro_ip; decide)) | (have hl := (xl_90 (xl_74 (hl87 (xl_74 (xl_77 (xl_58 hL (by unfold ro_ip; decide) q2) (by unfold ro_ip; decide)) (by unfold ro_ip; decide)) q5) (by unfold ro_ip; decide)) (by unfold ro_ip; decide)); exact hl)
      · have hp := hp.2 hz
        rw [if_neg hz]
        obtain ⟨q6, hp⟩ := hp
        first | exact (xl_78 (hl87 (xl_78 (xl_58 hL (by unfold ro_ip; decide) q2) (by unfold ro_ip; decide)) q6) (by unfold ro_ip; decide)) | (have hl := (xl_78 (hl87 (xl_78 (xl_58 hL (by unfold ro_ip; decide) q2) (by unfold ro_ip; decide)) q6) (by unfold ro_ip; decide)); exact hl)
    · have hp := hp.2 hz
      rw [if_neg hz]
      first | exact hL | (have hl := hL; exact hl)
/-- RefusedOnce$Payings.search(III)V -/
noncomputable def xmb_87 (F87 : ro_Mm → Int32 → Int32 → Int32 → ro_Mm) (M : ro_Mm) (v1 : Int32) (v2 : Int32) (v3 : Int32) : ro_Mm := (if v1 < (0 : Int32) then (xm_88 M v2 v3) else (if (M.2.1 42 5) ≤ v1 then (xm_88 M v2 v3) else (if v1 < (10 : Int32) then (if (M.2.1 42 8) = (0 : Int32) then (if (M.2.1 42 9) = (0 : Int32) then (if (xf_75 M 43 (M.2.1 46 (v1.toNatClampNeg)) (M.2.1 47 (v1.toNatClampNeg))) then (if (xf_73 (xm_89 F87 M v1 v2 v3) 43 (M.2.1 46 (v1.toNatClampNeg)) (M.2.1 47 (v1.toNatClampNeg))) then (xm_74 (F87 (xm_74 (xm_89 F87 M v1 v2 v3) 43 (M.2.1 46 (v1.toNatClampNeg)) (M.2.1 47 (v1.toNatClampNeg))) (v1 + (1 : Int32)) v2 (v3 ||| ((1 : Int32) <<< (v1 &&& 31)))) 43 (M.2.1 47 (v1.toNatClampNeg)) (M.2.1 46 (v1.toNatClampNeg))) else (xm_89 F87 M v1 v2 v3)) else (if (xf_73 M 43 (M.2.1 46 (v1.toNatClampNeg)) (M.2.1 47 (v1.toNatClampNeg))) then (xm_74 (F87 (xm_74 M 43 (M.2.1 46 (v1.toNatClampNeg)) (M.2.1 47 (v1.toNatClampNeg))) (v1 + (1 : Int32)) v2 (v3 ||| ((1 : Int32) <<< (v1 &&& 31)))) 43 (M.2.1 47 (v1.toNatClampNeg)) (M.2.1 46 (v1.toNatClampNeg))) else M)) else (if v2 < (M.2.1 42 6) then (if (xf_75 M 43 (M.2.1 46 (v1.toNatClampNeg)) (M.2.1 47 (v1.toNatClampNeg))) then (if (xf_73 (xm_89 F87 M v1 v2 v3) 43 (M.2.1 46 (v1.toNatClampNeg)) (M.2.1 47 (v1.toNatClampNeg))) then (xm_74 (F87 (xm_74 (xm_89 F87 M v1 v2 v3) 43 (M.2.1 46 (v1.toNatClampNeg)) (M.2.1 47 (v1.toNatClampNeg))) (v1 + (1 : Int32)) v2 (v3 ||| ((1 : Int32) <<< (v1 &&& 31)))) 43 (M.2.1 47 (v1.toNatClampNeg)) (M.2.1 46 (v1.toNatClampNeg))) else (xm_89 F87 M v1 v2 v3)) else (if (xf_73 M 43 (M.2.1 46 (v1.toNatClampNeg)) (M.2.1 47 (v1.toNatClampNeg))) then (xm_74 (F87 (xm_74 M 43 (M.2.1 46 (v1.toNatClampNeg)) (M.2.1 47 (v1.toNatClampNeg))) (v1 + (1 : Int32)) v2 (v3 ||| ((1 : Int32) <<< (v1 &&& 31)))) 43 (M.2.1 47 (v1.toNatClampNeg)) (M.2.1 46 (v1.toNatClampNeg))) else M)) else M)) else (if (xf_75 M 43 (M.2.1 46 (v1.toNatClampNeg)) (M.2.1 47 (v1.toNatClampNeg))) then (if (xf_73 (xm_89 F87 M v1 v2 v3) 43 (M.2.1 46 (v1.toNatClampNeg)) (M.2.1 47 (v1.toNatClampNeg))) then (xm_74 (F87 (xm_74 (xm_89 F87 M v1 v2 v3) 43 (M.2.1 46 (v1.toNatClampNeg)) (M.2.1 47 (v1.toNatClampNeg))) (v1 + (1 : Int32)) v2 (v3 ||| ((1 : Int32) <<< (v1 &&& 31)))) 43 (M.2.1 47 (v1.toNatClampNeg)) (M.2.1 46 (v1.toNatClampNeg))) else (xm_89 F87 M v1 v2 v3)) else (if (xf_73 M 43 (M.2.1 46 (v1.toNatClampNeg)) (M.2.1 47 (v1.toNatClampNeg))) then (xm_74 (F87 (xm_74 M 43 (M.2.1 46 (v1.toNatClampNeg)) (M.2.1 47 (v1.toNatClampNeg))) (v1 + (1 : Int32)) v2 (v3 ||| ((1 : Int32) <<< (v1 &&& 31)))) 43 (M.2.1 47 (v1.toNatClampNeg)) (M.2.1 46 (v1.toNatClampNeg))) else M))) else (xm_88 M v2 v3))))
def xpb_87 (F87 : ro_Mm → Int32 → Int32 → Int32 → ro_Mm) (P87 : ro_Mm → Int32 → Int32 → Int32 → Prop) (M : ro_Mm) (v1 : Int32) (v2 : Int32) (v3 : Int32) : Prop := ((v1 < (0 : Int32) → True) ∧ (¬ (v1 < (0 : Int32)) → (((M.2.1 42 5) ≤ v1 → True) ∧ (¬ ((M.2.1 42 5) ≤ v1) → ((v1 < (10 : Int32) → (((M.2.1 42 8) = (0 : Int32) → (((M.2.1 42 9) = (0 : Int32) → (((xf_75 M 43 (M.2.1 46 (v1.toNatClampNeg)) (M.2.1 47 (v1.toNatClampNeg))) → (xp_89 F87 P87 M v1 v2 v3 ∧ (((xf_73 (xm_89 F87 M v1 v2 v3) 43 (M.2.1 46 (v1.toNatClampNeg)) (M.2.1 47 (v1.toNatClampNeg))) → (P87 (xm_74 (xm_89 F87 M v1 v2 v3) 43 (M.2.1 46 (v1.toNatClampNeg)) (M.2.1 47 (v1.toNatClampNeg))) (v1 + (1 : Int32)) v2 (v3 ||| ((1 : Int32) <<< (v1 &&& 31))) ∧ True)) ∧ (¬ ((xf_73 (xm_89 F87 M v1 v2 v3) 43 (M.2.1 46 (v1.toNatClampNeg)) (M.2.1 47 (v1.toNatClampNeg)))) → True)))) ∧ (¬ ((xf_75 M 43 (M.2.1 46 (v1.toNatClampNeg)) (M.2.1 47 (v1.toNatClampNeg)))) → (((xf_73 M 43 (M.2.1 46 (v1.toNatClampNeg)) (M.2.1 47 (v1.toNatClampNeg))) → (P87 (xm_74 M 43 (M.2.1 46 (v1.toNatClampNeg)) (M.2.1 47 (v1.toNatClampNeg))) (v1 + (1 : Int32)) v2 (v3 ||| ((1 : Int32) <<< (v1 &&& 31))) ∧ True)) ∧ (¬ ((xf_73 M 43 (M.2.1 46 (v1.toNatClampNeg)) (M.2.1 47 (v1.toNatClampNeg)))) → True))))) ∧ (¬ ((M.2.1 42 9) = (0 : Int32)) → ((v2 < (M.2.1 42 6) → (((xf_75 M 43 (M.2.1 46 (v1.toNatClampNeg)) (M.2.1 47 (v1.toNatClampNeg))) → (xp_89 F87 P87 M v1 v2 v3 ∧ (((xf_73 (xm_89 F87 M v1 v2 v3) 43 (M.2.1 46 (v1.toNatClampNeg)) (M.2.1 47 (v1.toNatClampNeg))) → (P87 (xm_74 (xm_89 F87 M v1 v2 v3) 43 (M.2.1 46 (v1.toNatClampNeg)) (M.2.1 47 (v1.toNatClampNeg))) (v1 + (1 : Int32)) v2 (v3 ||| ((1 : Int32) <<< (v1 &&& 31))) ∧ True)) ∧ (¬ ((xf_73 (xm_89 F87 M v1 v2 v3) 43 (M.2.1 46 (v1.toNatClampNeg)) (M.2.1 47 (v1.toNatClampNeg)))) → True)))) ∧ (¬ ((xf_75 M 43 (M.2.1 46 (v1.toNatClampNeg)) (M.2.1 47 (v1.toNatClampNeg)))) → (((xf_73 M 43 (M.2.1 46 (v1.toNatClampNeg)) (M.2.1 47 (v1.toNatClampNeg))) → (P87 (xm_74 M 43 (M.2.1 46 (v1.toNatClampNeg)) (M.2.1 47 (v1.toNatClampNeg))) (v1 + (1 : Int32)) v2 (v3 ||| ((1 : Int32) <<< (v1 &&& 31))) ∧ True)) ∧ (¬ ((xf_73 M 43 (M.2.1 46 (v1.toNatClampNeg)) (M.2.1 47 (v1.toNatClampNeg)))) → True))))) ∧ (¬ (v2 < (M.2.1 42 6)) → True))))) ∧ (¬ ((M.2.1 42 8) = (0 : Int32)) → (((xf_75 M 43 (M.2.1 46 (v1.toNatClampNeg)) (M.2.1 47 (v1.toNatClampNeg))) → (xp_89 F87 P87 M v1 v2 v3 ∧ (((xf_73 (xm_89 F87 M v1 v2 v3) 43 (M.2.1 46 (v1.toNatClampNeg)) (M.2.1 47 (v1.toNatClampNeg))) → (P87 (xm_74 (xm_89 F87 M v1 v2 v3) 43 (M.2.1 46 (v1.toNatClampNeg)) (M.2.1 47 (v1.toNatClampNeg))) (v1 + (1 : Int32)) v2 (v3 ||| ((1 : Int32) <<< (v1 &&& 31))) ∧ True)) ∧ (¬ ((xf_73 (xm_89 F87 M v1 v2 v3) 43 (M.2.1 46 (v1.toNatClampNeg)) (M.2.1 47 (v1.toNatClampNeg)))) → True)))) ∧ (¬ ((xf_75 M 43 (M.2.1 46 (v1.toNatClampNeg)) (M.2.1 47 (v1.toNatClampNeg)))) → (((xf_73 M 43 (M.2.1 46 (v1.toNatClampNeg)) (M.2.1 47 (v1.toNatClampNeg))) → (P87 (xm_74 M 43 (M.2.1 46 (v1.toNatClampNeg)) (M.2.1 47 (v1.toNatClampNeg))) (v1 + (1 : Int32)) v2 (v3 ||| ((1 : Int32) <<< (v1 &&& 31))) ∧ True)) ∧ (¬ ((xf_73 M 43 (M.2.1 46 (v1.toNatClampNeg)) (M.2.1 47 (v1.toNatClampNeg)))) → True))))))) ∧ (¬ (v1 < (10 : Int32)) → True))))))
theorem xsb_87 {X : ro_Sx} {k : Nat} {F87 : ro_Mm → Int32 → Int32 → Int32 → ro_Mm} {P87 : ro_Mm → Int32 → Int32 → Int32 → Prop} (hF87 : ∀ {M : ro_Mm} {v1 : Int32} {v2 : Int32} {v3 : Int32}, ro_lay M → P87 M v1 v2 v3 → ro_cwp X k 87 [.ref 42, .int v1, .int v2, .int v3] M (fun v M2 => v = none ∧ M2 = (F87 M v1 v2 v3))) (hl87 : ∀ {M : ro_Mm} {v1 : Int32} {v2 : Int32} {v3 : Int32}, ro_lay M → P87 M v1 v2 v3 → ro_lay (F87 M v1 v2 v3)) {M : ro_Mm} {v1 : Int32} {v2 : Int32} {v3 : Int32} (hL : ro_lay M) (hp : xpb_87 F87 P87 M v1 v2 v3) : ro_cwp X (k + 5) 87 [.ref 42, .int v1, .int v2, .int v3] M (fun v M2 => v = none ∧ M2 = xmb_87 F87 M v1 v2 v3) := by
  refine rs_begin (lv0 := [(0, .ref 42), (1, .int v1), (2, .int v2), (3, .int v3)]) (by decide) rfl (by rw [rm_87.1]; exact Nat.le_of_ble_eq_true rfl) rfl ?_
  unfold xpb_87 at hp
  refine rs_iload_n ri_87_0 rfl rfl ?_
  refine rs_if_lt (t := 18) ri_87_1 rfl rfl (fun h1 => ?_) (fun h1 => ?_)
  · have hp := hp.1 h1
    refine rs_aload_n ri_87_18 rfl rfl ?_
    refine rs_iload_n ri_87_19 rfl rfl ?_
    refine rs_iload_n ri_87_20 rfl rfl ?_
    refine rs_virt (As := [.int v2, .int v3]) (r := []) ri_87_21 rfl (by decide) rm_88.2.2.2 rm_88.2.2.1 rfl rfl rfl (by decide) (ro_kf (kd_42 hL)) (Nat.le_of_ble_eq_true rfl) (by decide) (by omega) (xs_88 (X := X) hL) ?_
    rintro _ _ ⟨e1, e2⟩
    rw [e1, e2]
    show ro_w X _ 87 _ 24 [(0, .ref 42), (1, .int v1), (2, .int v2), (3, .int v3)] [] (xm_88 M v2 v3) (0, 0)
    refine rs_ret ri_87_24 rm_87.2.1 (by decide) ?_
    exact ⟨by rfl, by unfold xmb_87; first | (simp only [if_pos h1]; done) | rfl⟩
  · have hp := hp.2 h1
    refine rs_iload_n ri_87_4 rfl rfl ?_
    refine rs_aload_n ri_87_5 rfl rfl ?_
    refine rs_gf (v := .int (M.2.1 42 5)) ri_87_6 rfl (by decide) (ro_kf (kd_42 hL)) rfl rfl ?_
    refine rs_icmp_ge (t := 18) ri_87_9 rfl rfl (fun h2 => ?_) (fun h2 => ?_)
    · have hp := hp.1 h2
      refine rs_aload_n ri_87_18 rfl rfl ?_
      refine rs_iload_n ri_87_19 rfl rfl ?_
      refine rs_iload_n ri_87_20 rfl rfl ?_
      refine rs_virt (As := [.int v2, .int v3]) (r := []) ri_87_21 rfl (by decide) rm_88.2.2.2 rm_88.2.2.1 rfl rfl rfl (by decide) (ro_kf (kd_42 hL)) (Nat.le_of_ble_eq_true rfl) (by decide) (by omega) (xs_88 (X := X) hL) ?_
      rintro _ _ ⟨e1, e2⟩
      rw [e1, e2]
      show ro_w X _ 87 _ 24 [(0, .ref 42), (1, .int v1), (2, .int v2), (3, .int v3)] [] (xm_88 M v2 v3) (0, 0)
      refine rs_ret ri_87_24 rm_87.2.1 (by decide) ?_
      exact ⟨by rfl, by unfold xmb_87; first | (simp only [if_neg h1, if_pos h2]; done) | rfl⟩
    · have hp := hp.2 h2
      refine rs_iload_n ri_87_12 rfl rfl ?_
      refine rs_bipush (v := (10 : Int32)) ri_87_13 rfl (by decide) ?_
      refine rs_icmp_lt (t := 25) ri_87_15 rfl rfl (fun h3 => ?_) (fun h3 => ?_)
      · have hp := hp.1 h3
        refine rs_aload_n ri_87_25 rfl rfl ?_
        refine rs_gf (v := .int (M.2.1 42 8)) ri_87_26 rfl (by decide) (ro_kf (kd_42 hL)) rfl rfl ?_
        refine rs_if_ne (t := 48) ri_87_29 rfl rfl (fun h4 => ?_) (fun h4 => ?_)
        · have hp := hp.2 h4
          refine rs_aload_n ri_87_48 rfl rfl ?_
          refine rs_gf (v := .ref 46) ri_87_49 rfl (by decide) (ro_kf (kd_42 hL)) rfl (rf_42_3 hL) ?_
          refine rs_iload_n ri_87_52 rfl rfl ?_
          refine rs_iald (v := (M.2.1 46 (v1.toNatClampNeg))) ri_87_53 rfl (by decide) (kd_46 hL) (vp_in_iff.mpr ⟨(ro_lo1 h1), (ro_hi1 h3 (by decide))⟩) rfl ?_
          refine rs_istore (lv2 := [(4, .int (M.2.1 46 (v1.toNatClampNeg))), (0, .ref 42), (1, .int v1), (2, .int v2), (3, .int v3)]) ri_87_54 rfl rm_87.1 (by decide) rfl ?_
          refine rs_aload_n ri_87_56 rfl rfl ?_
          refine rs_gf (v := .ref 47) ri_87_57 rfl (by decide) (ro_kf (kd_42 hL)) rfl (rf_42_4 hL) ?_
          refine rs_iload_n ri_87_60 rfl rfl ?_
          refine rs_iald (v := (M.2.1 47 (v1.toNatClampNeg))) ri_87_61 rfl (by decide) (kd_47 hL) (vp_in_iff.mpr ⟨(ro_lo1 h1), (ro_hi1 h3 (by decide))⟩) rfl ?_
          refine rs_istore (lv2 := [(5, .int (M.2.1 47 (v1.toNatClampNeg))), (4, .int (M.2.1 46 (v1.toNatClampNeg))), (0, .ref 42), (1, .int v1), (2, .int v2), (3, .int v3)]) ri_87_62 rfl rm_87.1 (by decide) rfl ?_
          refine rs_aload_n ri_87_64 rfl rfl ?_
          refine rs_gf (v := .ref 43) ri_87_65 rfl (by decide) (ro_kf (kd_42 hL)) rfl (rf_42_2 hL) ?_
          refine rs_iload ri_87_68 rfl rfl ?_
          refine rs_iload ri_87_70 rfl rfl ?_
          refine rs_virt (As := [.int (M.2.1 46 (v1.toNatClampNeg)), .int (M.2.1 47 (v1.toNatClampNeg))]) (r := []) ri_87_72 rfl (by decide) rm_75.2.2.2 rm_75.2.2.1 rfl rfl rfl (by decide) (ro_kf (kd_43 hL)) (Nat.le_of_ble_eq_true rfl) (by decide) (by omega) (xs_75 (X := X) hL (by unfold ro_ip; decide)) ?_
          rintro _ _ ⟨e1, e2⟩
          rw [e1, e2]
          show ro_w X _ 87 _ 75 [(5, .int (M.2.1 47 (v1.toNatClampNeg))), (4, .int (M.2.1 46 (v1.toNatClampNeg))), (0, .ref 42), (1, .int v1), (2, .int v2), (3, .int v3)] [.int (ro_b (xf_75 M 43 (M.2.1 46 (v1.toNatClampNeg)) (M.2.1 47 (v1.toNatClampNeg))))] M (0, 0)
          refine rs_ifeq_c (t := 85) ri_87_75 rfl rfl (fun h5 => ?_) (fun h5 => ?_)
          · have hp := hp.2 h5
            refine rs_aload_n ri_87_85 rfl rfl ?_
            refine rs_gf (v := .ref 43) ri_87_86 rfl (by decide) (ro_kf (kd_42 hL)) rfl (rf_42_2 hL) ?_
            refine rs_iload ri_87_89 rfl rfl ?_
            refine rs_iload ri_87_91 rfl rfl ?_
            refine rs_virt (As := [.int (M.2.1 46 (v1.toNatClampNeg)), .int (M.2.1 47 (v1.toNatClampNeg))]) (r := []) ri_87_93 rfl (by decide) rm_73.2.2.2 rm_73.2.2.1 rfl rfl rfl (by decide) (ro_kf (kd_43 hL)) (Nat.le_of_ble_eq_true rfl) (by decide) (by omega) (xs_73 (X := X) hL (by unfold ro_ip; decide)) ?_
            rintro _ _ ⟨e1, e2⟩
            rw [e1, e2]
            show ro_w X _ 87 _ 96 [(5, .int (M.2.1 47 (v1.toNatClampNeg))), (4, .int (M.2.1 46 (v1.toNatClampNeg))), (0, .ref 42), (1, .int v1), (2, .int v2), (3, .int v3)] [.int (ro_b (xf_73 M 43 (M.2.1 46 (v1.toNatClampNeg)) (M.2.1 47 (v1.toNatClampNeg))))] M (0, 0)
            refine rs_ifeq_c (t := 134) ri_87_96 rfl rfl (fun h6 => ?_) (fun h6 => ?_)
            · have hp := hp.2 h6
              refine rs_ret ri_87_134 rm_87.2.1 (by decide) ?_
              exact ⟨by rfl, by unfold xmb_87; first | (simp only [if_neg h1, if_neg h2, if_pos h3, if_neg h4, if_neg h5, if_neg h6]; done) | rfl⟩
            · have hp := hp.1 h6
              refine rs_aload_n ri_87_99 rfl rfl ?_
              refine rs_gf (v := .ref 43) ri_87_100 rfl (by decide) (ro_kf (kd_42 hL)) rfl (rf_42_2 hL) ?_
              refine rs_iload ri_87_103 rfl rfl ?_
              refine rs_iload ri_87_105 rfl rfl ?_
              refine rs_virt (As := [.int (M.2.1 46 (v1.toNatClampNeg)), .int (M.2.1 47 (v1.toNatClampNeg))]) (r := []) ri_87_107 rfl (by decide) rm_74.2.2.2 rm_74.2.2.1 rfl rfl rfl (by decide) (ro_kf (kd_43 hL)) (Nat.le_of_ble_eq_true rfl) (by decide) (by omega) (xs_74 (X := X) hL (by unfold ro_ip; decide)) ?_
              rintro _ _ ⟨e1, e2⟩
              rw [e1, e2]
              show ro_w X _ 87 _ 110 [(5, .int (M.2.1 47 (v1.toNatClampNeg))), (4, .int (M.2.1 46 (v1.toNatClampNeg))), (0, .ref 42), (1, .int v1), (2, .int v2), (3, .int v3)] [] (xm_74 M 43 (M.2.1 46 (v1.toNatClampNeg)) (M.2.1 47 (v1.toNatClampNeg))) (0, 0)
              refine rs_aload_n ri_87_110 rfl rfl ?_
              refine rs_iload_n ri_87_111 rfl rfl ?_
              refine rs_iconst (v := (1 : Int32)) ri_87_112 rfl (by decide) ?_
              refine rs_iadd (r := (v1 + (1 : Int32))) ri_87_113 rfl rfl ?_
              refine rs_iload_n ri_87_114 rfl rfl ?_
              refine rs_iload_n ri_87_115 rfl rfl ?_
              refine rs_iconst (v := (1 : Int32)) ri_87_116 rfl (by decide) ?_
              refine rs_iload_n ri_87_117 rfl rfl ?_
              refine rs_ishl (r := ((1 : Int32) <<< (v1 &&& 31))) ri_87_118 rfl rfl ?_
              refine rs_ior (r := (v3 ||| ((1 : Int32) <<< (v1 &&& 31)))) ri_87_119 rfl rfl ?_
              obtain ⟨q6, hp⟩ := hp
              refine rs_virt (As := [.int (v1 + (1 : Int32)), .int v2, .int (v3 ||| ((1 : Int32) <<< (v1 &&& 31)))]) (r := []) ri_87_120 rfl (by decide) rm_87.2.2.2 rm_87.2.2.1 rfl rfl rfl (by decide) (ro_kf (kd_42 (xl_74 hL (by unfold ro_ip; decide)))) (Nat.le_of_ble_eq_true rfl) (by decide) (by omega) (hF87 (xl_74 hL (by unfold ro_ip; decide)) q6) ?_
              rintro _ _ ⟨e1, e2⟩
              rw [e1, e2]
              show ro_w X _ 87 _ 123 [(5, .int (M.2.1 47 (v1.toNatClampNeg))), (4, .int (M.2.1 46 (v1.toNatClampNeg))), (0, .ref 42), (1, .int v1), (2, .int v2), (3, .int v3)] [] (F87 (xm_74 M 43 (M.2.1 46 (v1.toNatClampNeg)) (M.2.1 47 (v1.toNatClampNeg))) (v1 + (1 : Int32)) v2 (v3 ||| ((1 : Int32) <<< (v1 &&& 31)))) (0, 0)
              refine rs_aload_n ri_87_123 rfl rfl ?_
              refine rs_gf (v := .ref 43) ri_87_124 rfl (by decide) (ro_kf (kd_42 (hl87 (xl_74 hL (by unfold ro_ip; decide)) q6))) rfl (rf_42_2 (hl87 (xl_74 hL (by unfold ro_ip; decide)) q6)) ?_
              refine rs_iload ri_87_127 rfl rfl ?_
              refine rs_iload ri_87_129 rfl rfl ?_
              refine rs_virt (As := [.int (M.2.1 47 (v1.toNatClampNeg)), .int (M.2.1 46 (v1.toNatClampNeg))]) (r := []) ri_87_131 rfl (by decide) rm_74.2.2.2 rm_74.2.2.1 rfl rfl rfl (by decide) (ro_kf (kd_43 (hl87 (xl_74 hL (by unfold ro_ip; decide)) q6))) (Nat.le_of_ble_eq_true rfl) (by decide) (by omega) (xs_74 (X := X) (hl87 (xl_74 hL (by unfold ro_ip; decide)) q6) (by unfold ro_ip; decide)) ?_
              rintro _ _ ⟨e1, e2⟩
              rw [e1, e2]
              show ro_w X _ 87 _ 134 [(5, .int (M.2.1 47 (v1.toNatClampNeg))), (4, .int (M.2.1 46 (v1.toNatClampNeg))), (0, .ref 42), (1, .int v1), (2, .int v2), (3, .int v3)] [] (xm_74 (F87 (xm_74 M 43 (M.2.1 46 (v1.toNatClampNeg)) (M.2.1 47 (v1.toNatClampNeg))) (v1 + (1 : Int32)) v2 (v3 ||| ((1 : Int32) <<< (v1 &&& 31)))) 43 (M.2.1 47 (v1.toNatClampNeg)) (M.2.1 46 (v1.toNatClampNeg))) (0, 0)
              refine rs_ret ri_87_134 rm_87.2.1 (by decide) ?_
              exact ⟨by rfl, by unfold xmb_87; first | (simp only [if_neg h1, if_neg h2, if_pos h3, if_neg h4, if_neg h5, if_pos h6]; done) | rfl⟩
          · have hp := hp.1 h5
            refine rs_aload_n ri_87_78 rfl rfl ?_
            refine rs_iload_n ri_87_79 rfl rfl ?_
            refine rs_iload_n ri_87_80 rfl rfl ?_
            refine rs_iload_n ri_87_81 rfl rfl ?_
            obtain ⟨q7, hp⟩ := hp
            refine rs_virt (As := [.int v1, .int v2, .int v3]) (r := []) ri_87_82 rfl (by decide) rm_89.2.2.2 rm_89.2.2.1 rfl rfl rfl (by decide) (ro_kf (kd_42 hL)) (Nat.le_of_ble_eq_true rfl) (by decide) (by omega) (xs_89 (X := X) hF87 hl87 hL q7) ?_
            rintro _ _ ⟨e1, e2⟩
            rw [e1, e2]
            show ro_w X _ 87 _ 85 [(5, .int (M.2.1 47 (v1.toNatClampNeg))), (4, .int (M.2.1 46 (v1.toNatClampNeg))), (0, .ref 42), (1, .int v1), (2, .int v2), (3, .int v3)] [] (xm_89 F87 M v1 v2 v3) (0, 0)
            refine rs_aload_n ri_87_85 rfl rfl ?_
            refine rs_gf (v := .ref 43) ri_87_86 rfl (by decide) (ro_kf (kd_42 (xl_89 hF87 hl87 hL q7))) rfl (rf_42_2 (xl_89 hF87 hl87 hL q7)) ?_
            refine rs_iload ri_87_89 rfl rfl ?_
            refine rs_iload ri_87_91 rfl rfl ?_
            refine rs_virt (As := [.int (M.2.1 46 (v1.toNatClampNeg)), .int (M.2.1 47 (v1.toNatClampNeg))]) (r := []) ri_87_93 rfl (by decide) rm_73.2.2.2 rm_73.2.2.1 rfl rfl rfl (by decide) (ro_kf (kd_43 (xl_89 hF87 hl87 hL q7))) (Nat.le_of_ble_eq_true rfl) (by decide) (by omega) (xs_73 (X := X) (xl_89 hF87 hl87 hL q7) (by unfold ro_ip; decide)) ?_
            rintro _ _ ⟨e1, e2⟩
            rw [e1, e2]
            show ro_w X _ 87 _ 96 [(5, .int (M.2.1 47 (v1.toNatClampNeg))), (4, .int (M.2.1 46 (v1.toNatClampNeg))), (0, .ref 42), (1, .int v1), (2, .int v2), (3, .int v3)] [.int (ro_b (xf_73 (xm_89 F87 M v1 v2 v3) 43 (M.2.1 46 (v1.toNatClampNeg)) (M.2.1 47 (v1.toNatClampNeg))))] (xm_89 F87 M v1 v2 v3) (0, 0)
            refine rs_ifeq_c (t := 134) ri_87_96 rfl rfl (fun h9 => ?_) (fun h9 => ?_)
            · have hp := hp.2 h9
              refine rs_ret ri_87_134 rm_87.2.1 (by decide) ?_
              exact ⟨by rfl, by unfold xmb_87; first | (simp only [if_neg h1, if_neg h2, if_pos h3, if_neg h4, if_pos h5, if_neg h9]; done) | rfl⟩
            · have hp := hp.1 h9
              refine rs_aload_n ri_87_99 rfl rfl ?_
              refine rs_gf (v := .ref 43) ri_87_100 rfl (by decide) (ro_kf (kd_42 (xl_89 hF87 hl87 hL q7))) rfl (rf_42_2 (xl_89 hF87 hl87 hL q7)) ?_
              refine rs_iload ri_87_103 rfl rfl ?_
              refine rs_iload ri_87_105 rfl rfl ?_
              refine rs_virt (As := [.int (M.2.1 46 (v1.toNatClampNeg)), .int (M.2.1 47 (v1.toNatClampNeg))]) (r := []) ri_87_107 rfl (by decide) rm_74.2.2.2 rm_74.2.2.1 rfl rfl rfl (by decide) (ro_kf (kd_43 (xl_89 hF87 hl87 hL q7))) (Nat.le_of_ble_eq_true rfl) (by decide) (by omega) (xs_74 (X := X) (xl_89 hF87 hl87 hL q7) (by unfold ro_ip; decide)) ?_
              rintro _ _ ⟨e1, e2⟩
              rw [e1, e2]
              show ro_w X _ 87 _ 110 [(5, .int (M.2.1 47 (v1.toNatClampNeg))), (4, .int (M.2.1 46 (v1.toNatClampNeg))), (0, .ref 42), (1, .int v1), (2, .int v2), (3, .int v3)] [] (xm_74 (xm_89 F87 M v1 v2 v3) 43 (M.2.1 46 (v1.toNatClampNeg)) (M.2.1 47 (v1.toNatClampNeg))) (0, 0)
              refine rs_aload_n ri_87_110 rfl rfl ?_
              refine rs_iload_n ri_87_111 rfl rfl ?_
              refine rs_iconst (v := (1 : Int32)) ri_87_112 rfl (by decide) ?_
              refine rs_iadd (r := (v1 + (1 : Int32))) ri_87_113 rfl rfl ?_
              refine rs_iload_n ri_87_114 rfl rfl ?_
              refine rs_iload_n ri_87_115 rfl rfl ?_
              refine rs_iconst (v := (1 : Int32)) ri_87_116 rfl (by decide) ?_
              refine rs_iload_n ri_87_117 rfl rfl ?_
              refine rs_ishl (r := ((1 : Int32) <<< (v1 &&& 31))) ri_87_118 rfl rfl ?_
              refine rs_ior (r := (v3 ||| ((1 : Int32) <<< (v1 &&& 31)))) ri_87_119 rfl rfl ?_
              obtain ⟨q9, hp⟩ := hp
              refine rs_virt (As := [.int (v1 + (1 : Int32)), .int v2, .int (v3 ||| ((1 : Int32) <<< (v1 &&& 31)))]) (r := []) ri_87_120 rfl (by decide) rm_87.2.2.2 rm_87.2.2.1 rfl rfl rfl (by decide) (ro_kf (kd_42 (xl_74 (xl_89 hF87 hl87 hL q7) (by unfold ro_ip; decide)))) (Nat.le_of_ble_eq_true rfl) (by decide) (by omega) (hF87 (xl_74 (xl_89 hF87 hl87 hL q7) (by unfold ro_ip; decide)) q9) ?_
              rintro _ _ ⟨e1, e2⟩
              rw [e1, e2]
              show ro_w X _ 87 _ 123 [(5, .int (M.2.1 47 (v1.toNatClampNeg))), (4, .int (M.2.1 46 (v1.toNatClampNeg))), (0, .ref 42), (1, .int v1), (2, .int v2), (3, .int v3)] [] (F87 (xm_74 (xm_89 F87 M v1 v2 v3) 43 (M.2.1 46 (v1.toNatClampNeg)) (M.2.1 47 (v1.toNatClampNeg))) (v1 + (1 : Int32)) v2 (v3 ||| ((1 : Int32) <<< (v1 &&& 31)))) (0, 0)
              refine rs_aload_n ri_87_123 rfl rfl ?_
              refine rs_gf (v := .ref 43) ri_87_124 rfl (by decide) (ro_kf (kd_42 (hl87 (xl_74 (xl_89 hF87 hl87 hL q7) (by unfold ro_ip; decide)) q9))) rfl (rf_42_2 (hl87 (xl_74 (xl_89 hF87 hl87 hL q7) (by unfold ro_ip; decide)) q9)) ?_
              refine rs_iload ri_87_127 rfl rfl ?_
              refine rs_iload ri_87_129 rfl rfl ?_
              refine rs_virt (As := [.int (M.2.1 47 (v1.toNatClampNeg)), .int (M.2.1 46 (v1.toNatClampNeg))]) (r := []) ri_87_131 rfl (by decide) rm_74.2.2.2 rm_74.2.2.1 rfl rfl rfl (by decide) (ro_kf (kd_43 (hl87 (xl_74 (xl_89 hF87 hl87 hL q7) (by unfold ro_ip; decide)) q9))) (Nat.le_of_ble_eq_true rfl) (by decide) (by omega) (xs_74 (X := X) (hl87 (xl_74 (xl_89 hF87 hl87 hL q7) (by unfold ro_ip; decide)) q9) (by unfold ro_ip; decide)) ?_
              rintro _ _ ⟨e1, e2⟩
              rw [e1, e2]
              show ro_w X _ 87 _ 134 [(5, .int (M.2.1 47 (v1.toNatClampNeg))), (4, .int (M.2.1 46 (v1.toNatClampNeg))), (0, .ref 42), (1, .int v1), (2, .int v2), (3, .int v3)] [] (xm_74 (F87 (xm_74 (xm_89 F87 M v1 v2 v3) 43 (M.2.1 46 (v1.toNatClampNeg)) (M.2.1 47 (v1.toNatClampNeg))) (v1 + (1 : Int32)) v2 (v3 ||| ((1 : Int32) <<< (v1 &&& 31)))) 43 (M.2.1 47 (v1.toNatClampNeg)) (M.2.1 46 (v1.toNatClampNeg))) (0, 0)
              refine rs_ret ri_87_134 rm_87.2.1 (by decide) ?_
              exact ⟨by rfl, by unfold xmb_87; first | (simp only [if_neg h1, if_neg h2, if_pos h3, if_neg h4, if_pos h5, if_pos h9]; done) | rfl⟩
        · have hp := hp.1 h4
          refine rs_aload_n ri_87_32 rfl rfl ?_
          refine rs_gf (v := .int (M.2.1 42 9)) ri_87_33 rfl (by decide) (ro_kf (kd_42 hL)) rfl rfl ?_
          refine rs_if_eq (t := 48) ri_87_36 rfl rfl (fun h11 => ?_) (fun h11 => ?_)
          · have hp := hp.1 h11
            refine rs_aload_n ri_87_48 rfl rfl ?_
            refine rs_gf (v := .ref 46) ri_87_49 rfl (by decide) (ro_kf (kd_42 hL)) rfl (rf_42_3 hL) ?_
            refine rs_iload_n ri_87_52 rfl rfl ?_
            refine rs_iald (v := (M.2.1 46 (v1.toNatClampNeg))) ri_87_53 rfl (by decide) (kd_46 hL) (vp_in_iff.mpr ⟨(ro_lo1 h1), (ro_hi1 h3 (by decide))⟩) rfl ?_
            refine rs_istore (lv2 := [(4, .int (M.2.1 46 (v1.toNatClampNeg))), (0, .ref 42), (1, .int v1), (2, .int v2), (3, .int v3)]) ri_87_54 rfl rm_87.1 (by decide) rfl ?_
            refine rs_aload_n ri_87_56 rfl rfl ?_
            refine rs_gf (v := .ref 47) ri_87_57 rfl (by decide) (ro_kf (kd_42 hL)) rfl (rf_42_4 hL) ?_
            refine rs_iload_n ri_87_60 rfl rfl ?_
            refine rs_iald (v := (M.2.1 47 (v1.toNatClampNeg))) ri_87_61 rfl (by decide) (kd_47 hL) (vp_in_iff.mpr ⟨(ro_lo1 h1), (ro_hi1 h3 (by decide))⟩) rfl ?_
            refine rs_istore (lv2 := [(5, .int (M.2.1 47 (v1.toNatClampNeg))), (4, .int (M.2.1 46 (v1.toNatClampNeg))), (0, .ref 42), (1, .int v1), (2, .int v2), (3, .int v3)]) ri_87_62 rfl rm_87.1 (by decide) rfl ?_
            refine rs_aload_n ri_87_64 rfl rfl ?_
            refine rs_gf (v := .ref 43) ri_87_65 rfl (by decide) (ro_kf (kd_42 hL)) rfl (rf_42_2 hL) ?_
            refine rs_iload ri_87_68 rfl rfl ?_
            refine rs_iload ri_87_70 rfl rfl ?_
            refine rs_virt (As := [.int (M.2.1 46 (v1.toNatClampNeg)), .int (M.2.1 47 (v1.toNatClampNeg))]) (r := []) ri_87_72 rfl (by decide) rm_75.2.2.2 rm_75.2.2.1 rfl rfl rfl (by decide) (ro_kf (kd_43 hL)) (Nat.le_of_ble_eq_true rfl) (by decide) (by omega) (xs_75 (X := X) hL (by unfold ro_ip; decide)) ?_
            rintro _ _ ⟨e1, e2⟩
            rw [e1, e2]
            show ro_w X _ 87 _ 75 [(5, .int (M.2.1 47 (v1.toNatClampNeg))), (4, .int (M.2.1 46 (v1.toNatClampNeg))), (0, .ref 42), (1, .int v1), (2, .int v2), (3, .int v3)] [.int (ro_b (xf_75 M 43 (M.2.1 46 (v1.toNatClampNeg)) (M.2.1 47 (v1.toNatClampNeg))))] M (0, 0)
            refine rs_ifeq_c (t := 85) ri_87_75 rfl rfl (fun h12 => ?_) (fun h12 => ?_)
            · have hp := hp.2 h12
              refine rs_aload_n ri_87_85 rfl rfl ?_
              refine rs_gf (v := .ref 43) ri_87_86 rfl (by decide) (ro_kf (kd_42 hL)) rfl (rf_42_2 hL) ?_
              refine rs_iload ri_87_89 rfl rfl ?_
              refine rs_iload ri_87_91 rfl rfl ?_
              refine rs_virt (As := [.int (M.2.1 46 (v1.toNatClampNeg)), .int (M.2.1 47 (v1.toNatClampNeg))]) (r := []) ri_87_93 rfl (by decide) rm_73.2.2.2 rm_73.2.2.1 rfl rfl rfl (by decide) (ro_kf (kd_43 hL)) (Nat.le_of_ble_eq_true rfl) (by decide) (by omega) (xs_73 (X := X) hL (by unfold ro_ip; decide)) ?_
              rintro _ _ ⟨e1, e2⟩
              rw [e1, e2]
              show ro_w X _ 87 _ 96 [(5, .int (M.2.1 47 (v1.toNatClampNeg))), (4, .int (M.2.1 46 (v1.toNatClampNeg))), (0, .ref 42), (1, .int v1), (2, .int v2), (3, .int v3)] [.int (ro_b (xf_73 M 43 (M.2.1 46 (v1.toNatClampNeg)) (M.2.1 47 (v1.toNatClampNeg))))] M (0, 0)
              refine rs_ifeq_c (t := 134) ri_87_96 rfl rfl (fun h13 => ?_) (fun h13 => ?_)
              · have hp := hp.2 h13
                refine rs_ret ri_87_134 rm_87.2.1 (by decide) ?_
                exact ⟨by rfl, by unfold xmb_87; first | (simp only [if_neg h1, if_neg h2, if_pos h3, if_pos h4, if_pos h11, if_neg h12, if_neg h13]; done) | rfl⟩
              · have hp := hp.1 h13
                refine rs_aload_n ri_87_99 rfl rfl ?_
                refine rs_gf (v := .ref 43) ri_87_100 rfl (by decide) (ro_kf (kd_42 hL)) rfl (rf_42_2 hL) ?_
                refine rs_iload ri_87_103 rfl rfl ?_
                refine rs_iload ri_87_105 rfl rfl ?_
                refine rs_virt (As := [.int (M.2.1 46 (v1.toNatClampNeg)), .int (M.2.1 47 (v1.toNatClampNeg))]) (r := []) ri_87_107 rfl (by decide) rm_74.2.2.2 rm_74.2.2.1 rfl rfl rfl (by decide) (ro_kf (kd_43 hL)) (Nat.le_of_ble_eq_true rfl) (by decide) (by omega) (xs_74 (X := X) hL (by unfold ro_ip; decide)) ?_
                rintro _ _ ⟨e1, e2⟩
                rw [e1, e2]
                show ro_w X _ 87 _ 110 [(5, .int (M.2.1 47 (v1.toNatClampNeg))), (4, .int (M.2.1 46 (v1.toNatClampNeg))), (0, .ref 42), (1, .int v1), (2, .int v2), (3, .int v3)] [] (xm_74 M 43 (M.2.1 46 (v1.toNatClampNeg)) (M.2.1 47 (v1.toNatClampNeg))) (0, 0)
                refine rs_aload_n ri_87_110 rfl rfl ?_
                refine rs_iload_n ri_87_111 rfl rfl ?_
                refine rs_iconst (v := (1 : Int32)) ri_87_112 rfl (by decide) ?_
                refine rs_iadd (r := (v1 + (1 : Int32))) ri_87_113 rfl rfl ?_
                refine rs_iload_n ri_87_114 rfl rfl ?_
                refine rs_iload_n ri_87_115 rfl rfl ?_
                refine rs_iconst (v := (1 : Int32)) ri_87_116 rfl (by decide) ?_
                refine rs_iload_n ri_87_117 rfl rfl ?_
                refine rs_ishl (r := ((1 : Int32) <<< (v1 &&& 31))) ri_87_118 rfl rfl ?_
                refine rs_ior (r := (v3 ||| ((1 : Int32) <<< (v1 &&& 31)))) ri_87_119 rfl rfl ?_
                obtain ⟨q13, hp⟩ := hp
                refine rs_virt (As := [.int (v1 + (1 : Int32)), .int v2, .int (v3 ||| ((1 : Int32) <<< (v1 &&& 31)))]) (r := []) ri_87_120 rfl (by decide) rm_87.2.2.2 rm_87.2.2.1 rfl rfl rfl (by decide) (ro_kf (kd_42 (xl_74 hL (by unfold ro_ip; decide)))) (Nat.le_of_ble_eq_true rfl) (by decide) (by omega) (hF87 (xl_74 hL (by unfold ro_ip; decide)) q13) ?_
                rintro _ _ ⟨e1, e2⟩
                rw [e1, e2]
                show ro_w X _ 87 _ 123 [(5, .int (M.2.1 47 (v1.toNatClampNeg))), (4, .int (M.2.1 46 (v1.toNatClampNeg))), (0, .ref 42), (1, .int v1), (2, .int v2), (3, .int v3)] [] (F87 (xm_74 M 43 (M.2.1 46 (v1.toNatClampNeg)) (M.2.1 47 (v1.toNatClampNeg))) (v1 + (1 : Int32)) v2 (v3 ||| ((1 : Int32) <<< (v1 &&& 31)))) (0, 0)
                refine rs_aload_n ri_87_123 rfl rfl ?_
                refine rs_gf (v := .ref 43) ri_87_124 rfl (by decide) (ro_kf (kd_42 (hl87 (xl_74 hL (by unfold ro_ip; decide)) q13))) rfl (rf_42_2 (hl87 (xl_74 hL (by unfold ro_ip; decide)) q13)) ?_
                refine rs_iload ri_87_127 rfl rfl ?_
                refine rs_iload ri_87_129 rfl rfl ?_
                refine rs_virt (As := [.int (M.2.1 47 (v1.toNatClampNeg)), .int (M.2.1 46 (v1.toNatClampNeg))]) (r := []) ri_87_131 rfl (by decide) rm_74.2.2.2 rm_74.2.2.1 rfl rfl rfl (by decide) (ro_kf (kd_43 (hl87 (xl_74 hL (by unfold ro_ip; decide)) q13))) (Nat.le_of_ble_eq_true rfl) (by decide) (by omega) (xs_74 (X := X) (hl87 (xl_74 hL (by unfold ro_ip; decide)) q13) (by unfold ro_ip; decide)) ?_
                rintro _ _ ⟨e1, e2⟩
                rw [e1, e2]
                show ro_w X _ 87 _ 134 [(5, .int (M.2.1 47 (v1.toNatClampNeg))), (4, .int (M.2.1 46 (v1.toNatClampNeg))), (0, .ref 42), (1, .int v1), (2, .int v2), (3, .int v3)] [] (xm_74 (F87 (xm_74 M 43 (M.2.1 46 (v1.toNatClampNeg)) (M.2.1 47 (v1.toNatClampNeg))) (v1 + (1 : Int32)) v2 (v3 ||| ((1 : Int32) <<< (v1 &&& 31)))) 43 (M.2.1 47 (v1.toNatClampNeg)) (M.2.1 46 (v1.toNatClampNeg))) (0, 0)
                refine rs_ret ri_87_134 rm_87.2.1 (by decide) ?_
                exact ⟨by rfl, by unfold xmb_87; first | (simp only [if_neg h1, if_neg h2, if_pos h3, if_pos h4, if_pos h11, if_neg h12, if_pos h13]; done) | rfl⟩
            · have hp := hp.1 h12
              refine rs_aload_n ri_87_78 rfl rfl ?_
              refine rs_iload_n ri_87_79 rfl rfl ?_
              refine rs_iload_n ri_87_80 rfl rfl ?_
              refine rs_iload_n ri_87_81 rfl rfl ?_
              obtain ⟨q14, hp⟩ := hp
              refine rs_virt (As := [.int v1, .int v2, .int v3]) (r := []) ri_87_82 rfl (by decide) rm_89.2.2.2 rm_89.2.2.1 rfl rfl rfl (by decide) (ro_kf (kd_42 hL)) (Nat.le_of_ble_eq_true rfl) (by decide) (by omega) (xs_89 (X := X) hF87 hl87 hL q14) ?_
              rintro _ _ ⟨e1, e2⟩
              rw [e1, e2]
              show ro_w X _ 87 _ 85 [(5, .int (M.2.1 47 (v1.toNatClampNeg))), (4, .int (M.2.1 46 (v1.toNatClampNeg))), (0, .ref 42), (1, .int v1), (2, .int v2), (3, .int v3)] [] (xm_89 F87 M v1 v2 v3) (0, 0)
              refine rs_aload_n ri_87_85 rfl rfl ?_
              refine rs_gf (v := .ref 43) ri_87_86 rfl (by decide) (ro_kf (kd_42 (xl_89 hF87 hl87 hL q14))) rfl (rf_42_2 (xl_89 hF87 hl87 hL q14)) ?_
              refine rs_iload ri_87_89 rfl rfl ?_
              refine rs_iload ri_87_91 rfl rfl ?_
              refine rs_virt (As := [.int (M.2.1 46 (v1.toNatClampNeg)), .int (M.2.1 47 (v1.toNatClampNeg))]) (r := []) ri_87_93 rfl (by decide) rm_73.2.2.2 rm_73.2.2.1 rfl rfl rfl (by decide) (ro_kf (kd_43 (xl_89 hF87 hl87 hL q14))) (Nat.le_of_ble_eq_true rfl) (by decide) (by omega) (xs_73 (X := X) (xl_89 hF87 hl87 hL q14) (by unfold ro_ip; decide)) ?_
              rintro _ _ ⟨e1, e2⟩
              rw [e1, e2]
              show ro_w X _ 87 _ 96 [(5, .int (M.2.1 47 (v1.toNatClampNeg))), (4, .int (M.2.1 46 (v1.toNatClampNeg))), (0, .ref 42), (1, .int v1), (2, .int v2), (3, .int v3)] [.int (ro_b (xf_73 (xm_89 F87 M v1 v2 v3) 43 (M.2.1 46 (v1.toNatClampNeg)) (M.2.1 47 (v1.toNatClampNeg))))] (xm_89 F87 M v1 v2 v3) (0, 0)
              refine rs_ifeq_c (t := 134) ri_87_96 rfl rfl (fun h16 => ?_) (fun h16 => ?_)
              · have hp := hp.2 h16
                refine rs_ret ri_87_134 rm_87.2.1 (by decide) ?_
                exact ⟨by rfl, by unfold xmb_87; first | (simp only [if_neg h1, if_neg h2, if_pos h3, if_pos h4, if_pos h11, if_pos h12, if_neg h16]; done) | rfl⟩
              · have hp := hp.1 h16
                refine rs_aload_n ri_87_99 rfl rfl ?_
                refine rs_gf (v := .ref 43) ri_87_100 rfl (by decide) (ro_kf (kd_42 (xl_89 hF87 hl87 hL q14))) rfl (rf_42_2 (xl_89 hF87 hl87 hL q14)) ?_
                refine rs_iload ri_87_103 rfl rfl ?_
                refine rs_iload ri_87_105 rfl rfl ?_
                refine rs_virt (As := [.int (M.2.1 46 (v1.toNatClampNeg)), .int (M.2.1 47 (v1.toNatClampNeg))]) (r := []) ri_87_107 rfl (by decide) rm_74.2.2.2 rm_74.2.2.1 rfl rfl rfl (by decide) (ro_kf (kd_43 (xl_89 hF87 hl87 hL q14))) (Nat.le_of_ble_eq_true rfl) (by decide) (by omega) (xs_74 (X := X) (xl_89 hF87 hl87 hL q14) (by unfold ro_ip; decide)) ?_
                rintro _ _ ⟨e1, e2⟩
                rw [e1, e2]
                show ro_w X _ 87 _ 110 [(5, .int (M.2.1 47 (v1.toNatClampNeg))), (4, .int (M.2.1 46 (v1.toNatClampNeg))), (0, .ref 42), (1, .int v1), (2, .int v2), (3, .int v3)] [] (xm_74 (xm_89 F87 M v1 v2 v3) 43 (M.2.1 46 (v1.toNatClampNeg)) (M.2.1 47 (v1.toNatClampNeg))) (0, 0)
                refine rs_aload_n ri_87_110 rfl rfl ?_
                refine rs_iload_n ri_87_111 rfl rfl ?_
                refine rs_iconst (v := (1 : Int32)) ri_87_112 rfl (by decide) ?_
                refine rs_iadd (r := (v1 + (1 : Int32))) ri_87_113 rfl rfl ?_
                refine rs_iload_n ri_87_114 rfl rfl ?_
                refine rs_iload_n ri_87_115 rfl rfl ?_
                refine rs_iconst (v := (1 : Int32)) ri_87_116 rfl (by decide) ?_
                refine rs_iload_n ri_87_117 rfl rfl ?_
                refine rs_ishl (r := ((1 : Int32) <<< (v1 &&& 31))) ri_87_118 rfl rfl ?_
                refine rs_ior (r := (v3 ||| ((1 : Int32) <<< (v1 &&& 31)))) ri_87_119 rfl rfl ?_
                obtain ⟨q16, hp⟩ := hp
                refine rs_virt (As := [.int (v1 + (1 : Int32)), .int v2, .int (v3 ||| ((1 : Int32) <<< (v1 &&& 31)))]) (r := []) ri_87_120 rfl (by decide) rm_87.2.2.2 rm_87.2.2.1 rfl rfl rfl (by decide) (ro_kf (kd_42 (xl_74 (xl_89 hF87 hl87 hL q14) (by unfold ro_ip; decide)))) (Nat.le_of_ble_eq_true rfl) (by decide) (by omega) (hF87 (xl_74 (xl_89 hF87 hl87 hL q14) (by unfold ro_ip; decide)) q16) ?_
                rintro _ _ ⟨e1, e2⟩
                rw [e1, e2]
                show ro_w X _ 87 _ 123 [(5, .int (M.2.1 47 (v1.toNatClampNeg))), (4, .int (M.2.1 46 (v1.toNatClampNeg))), (0, .ref 42), (1, .int v1), (2, .int v2), (3, .int v3)] [] (F87 (xm_74 (xm_89 F87 M v1 v2 v3) 43 (M.2.1 46 (v1.toNatClampNeg)) (M.2.1 47 (v1.toNatClampNeg))) (v1 + (1 : Int32)) v2 (v3 ||| ((1 : Int32) <<< (v1 &&& 31)))) (0, 0)
                refine rs_aload_n ri_87_123 rfl rfl ?_
                refine rs_gf (v := .ref 43) ri_87_124 rfl (by decide) (ro_kf (kd_42 (hl87 (xl_74 (xl_89 hF87 hl87 hL q14) (by unfold ro_ip; decide)) q16))) rfl (rf_42_2 (hl87 (xl_74 (xl_89 hF87 hl87 hL q14) (by unfold ro_ip; decide)) q16)) ?_
                refine rs_iload ri_87_127 rfl rfl ?_
                refine rs_iload ri_87_129 rfl rfl ?_
                refine rs_virt (As := [.int (M.2.1 47 (v1.toNatClampNeg)), .int (M.2.1 46 (v1.toNatClampNeg))]) (r := []) ri_87_131 rfl (by decide) rm_74.2.2.2 rm_74.2.2.1 rfl rfl rfl (by decide) (ro_kf (kd_43 (hl87 (xl_74 (xl_89 hF87 hl87 hL q14) (by unfold ro_ip; decide)) q16))) (Nat.le_of_ble_eq_true rfl) (by decide) (by omega) (xs_74 (X := X) (hl87 (xl_74 (xl_89 hF87 hl87 hL q14) (by unfold ro_ip; decide)) q16) (by unfold ro_ip; decide)) ?_
                rintro _ _ ⟨e1, e2⟩
                rw [e1, e2]
                show ro_w X _ 87 _ 134 [(5, .int (M.2.1 47 (v1.toNatClampNeg))), (4, .int (M.2.1 46 (v1.toNatClampNeg))), (0, .ref 42), (1, .int v1), (2, .int v2), (3, .int v3)] [] (xm_74 (F87 (xm_74 (xm_89 F87 M v1 v2 v3) 43 (M.2.1 46 (v1.toNatClampNeg)) (M.2.1 47 (v1.toNatClampNeg))) (v1 + (1 : Int32)) v2 (v3 ||| ((1 : Int32) <<< (v1 &&& 31)))) 43 (M.2.1 47 (v1.toNatClampNeg)) (M.2.1 46 (v1.toNatClampNeg))) (0, 0)
                refine rs_ret ri_87_134 rm_87.2.1 (by decide) ?_
                exact ⟨by rfl, by unfold xmb_87; first | (simp only [if_neg h1, if_neg h2, if_pos h3, if_pos h4, if_pos h11, if_pos h12, if_pos h16]; done) | rfl⟩
          · have hp := hp.2 h11
            refine rs_iload_n ri_87_39 rfl rfl ?_
            refine rs_aload_n ri_87_40 rfl rfl ?_
            refine rs_gf (v := .int (M.2.1 42 6)) ri_87_41 rfl (by decide) (ro_kf (kd_42 hL)) rfl rfl ?_
            refine rs_icmp_lt (t := 48) ri_87_44 rfl rfl (fun h18 => ?_) (fun h18 => ?_)
            · have hp := hp.1 h18
              refine rs_aload_n ri_87_48 rfl rfl ?_
              refine rs_gf (v := .ref 46) ri_87_49 rfl (by decide) (ro_kf (kd_42 hL)) rfl (rf_42_3 hL) ?_
              refine rs_iload_n ri_87_52 rfl rfl ?_
              refine rs_iald (v := (M.2.1 46 (v1.toNatClampNeg))) ri_87_53 rfl (by decide) (kd_46 hL) (vp_in_iff.mpr ⟨(ro_lo1 h1), (ro_hi1 h3 (by decide))⟩) rfl ?_
              refine rs_istore (lv2 := [(4, .int (M.2.1 46 (v1.toNatClampNeg))), (0, .ref 42), (1, .int v1), (2, .int v2), (3, .int v3)]) ri_87_54 rfl rm_87.1 (by decide) rfl ?_
              refine rs_aload_n ri_87_56 rfl rfl ?_
              refine rs_gf (v := .ref 47) ri_87_57 rfl (by decide) (ro_kf (kd_42 hL)) rfl (rf_42_4 hL) ?_
              refine rs_iload_n ri_87_60 rfl rfl ?_
              refine rs_iald (v := (M.2.1 47 (v1.toNatClampNeg))) ri_87_61 rfl (by decide) (kd_47 hL) (vp_in_iff.mpr ⟨(ro_lo1 h1), (ro_hi1 h3 (by decide))⟩) rfl ?_
              refine rs_istore (lv2 := [(5, .int (M.2.1 47 (v1.toNatClampNeg))), (4, .int (M.2.1 46 (v1.toNatClampNeg))), (0, .ref 42), (1, .int v1), (2, .int v2), (3, .int v3)]) ri_87_62 rfl rm_87.1 (by decide) rfl ?_
              refine rs_aload_n ri_87_64 rfl rfl ?_
              refine rs_gf (v := .ref 43) ri_87_65 rfl (by decide) (ro_kf (kd_42 hL)) rfl (rf_42_2 hL) ?_
              refine rs_iload ri_87_68 rfl rfl ?_
              refine rs_iload ri_87_70 rfl rfl ?_
              refine rs_virt (As := [.int (M.2.1 46 (v1.toNatClampNeg)), .int (M.2.1 47 (v1.toNatClampNeg))]) (r := []) ri_87_72 rfl (by decide) rm_75.2.2.2 rm_75.2.2.1 rfl rfl rfl (by decide) (ro_kf (kd_43 hL)) (Nat.le_of_ble_eq_true rfl) (by decide) (by omega) (xs_75 (X := X) hL (by unfold ro_ip; decide)) ?_
              rintro _ _ ⟨e1, e2⟩
              rw [e1, e2]
              show ro_w X _ 87 _ 75 [(5, .int (M.2.1 47 (v1.toNatClampNeg))), (4, .int (M.2.1 46 (v1.toNatClampNeg))), (0, .ref 42), (1, .int v1), (2, .int v2), (3, .int v3)] [.int (ro_b (xf_75 M 43 (M.2.1 46 (v1.toNatClampNeg)) (M.2.1 47 (v1.toNatClampNeg))))] M (0, 0)
              refine rs_ifeq_c (t := 85) ri_87_75 rfl rfl (fun h19 => ?_) (fun h19 => ?_)
              · have hp := hp.2 h19
                refine rs_aload_n ri_87_85 rfl rfl ?_
                refine rs_gf (v := .ref 43) ri_87_86 rfl (by decide) (ro_kf (kd_42 hL)) rfl (rf_42_2 hL) ?_
                refine rs_iload ri_87_89 rfl rfl ?_
                refine rs_iload ri_87_91 rfl rfl ?_
                refine rs_virt (As := [.int (M.2.1 46 (v1.toNatClampNeg)), .int (M.2.1 47 (v1.toNatClampNeg))]) (r := []) ri_87_93 rfl (by decide) rm_73.2.2.2 rm_73.2.2.1 rfl rfl rfl (by decide) (ro_kf (kd_43 hL)) (Nat.le_of_ble_eq_true rfl) (by decide) (by omega) (xs_73 (X := X) hL (by unfold ro_ip; decide)) ?_
                rintro _ _ ⟨e1, e2⟩
                rw [e1, e2]
                show ro_w X _ 87 _ 96 [(5, .int (M.2.1 47 (v1.toNatClampNeg))), (4, .int (M.2.1 46 (v1.toNatClampNeg))), (0, .ref 42), (1, .int v1), (2, .int v2), (3, .int v3)] [.int (ro_b (xf_73 M 43 (M.2.1 46 (v1.toNatClampNeg)) (M.2.1 47 (v1.toNatClampNeg))))] M (0, 0)
                refine rs_ifeq_c (t := 134) ri_87_96 rfl rfl (fun h20 => ?_) (fun h20 => ?_)
                · have hp := hp.2 h20
                  refine rs_ret ri_87_134 rm_87.2.1 (by decide) ?_
                  exact ⟨by rfl, by unfold xmb_87; first | (simp only [if_neg h1, if_neg h2, if_pos h3, if_pos h4, if_neg h11, if_pos h18, if_neg h19, if_neg h20]; done) | rfl⟩
                · have hp := hp.1 h20
                  refine rs_aload_n ri_87_99 rfl rfl ?_
                  refine rs_gf (v := .ref 43) ri_87_100 rfl (by decide) (ro_kf (kd_42 hL)) rfl (rf_42_2 hL) ?_
                  refine rs_iload ri_87_103 rfl rfl ?_
                  refine rs_iload ri_87_105 rfl rfl ?_
                  refine rs_virt (As := [.int (M.2.1 46 (v1.toNatClampNeg)), .int (M.2.1 47 (v1.toNatClampNeg))]) (r := []) ri_87_107 rfl (by decide) rm_74.2.2.2 rm_74.2.2.1 rfl rfl rfl (by decide) (ro_kf (kd_43 hL)) (Nat.le_of_ble_eq_true rfl) (by decide) (by omega) (xs_74 (X := X) hL (by unfold ro_ip; decide)) ?_
                  rintro _ _ ⟨e1, e2⟩
                  rw [e1, e2]
                  show ro_w X _ 87 _ 110 [(5, .int (M.2.1 47 (v1.toNatClampNeg))), (4, .int (M.2.1 46 (v1.toNatClampNeg))), (0, .ref 42), (1, .int v1), (2, .int v2), (3, .int v3)] [] (xm_74 M 43 (M.2.1 46 (v1.toNatClampNeg)) (M.2.1 47 (v1.toNatClampNeg))) (0, 0)
                  refine rs_aload_n ri_87_110 rfl rfl ?_
                  refine rs_iload_n ri_87_111 rfl rfl ?_
                  refine rs_iconst (v := (1 : Int32)) ri_87_112 rfl (by decide) ?_
                  refine rs_iadd (r := (v1 + (1 : Int32))) ri_87_113 rfl rfl ?_
                  refine rs_iload_n ri_87_114 rfl rfl ?_
                  refine rs_iload_n ri_87_115 rfl rfl ?_
                  refine rs_iconst (v := (1 : Int32)) ri_87_116 rfl (by decide) ?_
                  refine rs_iload_n ri_87_117 rfl rfl ?_
                  refine rs_ishl (r := ((1 : Int32) <<< (v1 &&& 31))) ri_87_118 rfl rfl ?_
                  refine rs_ior (r := (v3 ||| ((1 : Int32) <<< (v1 &&& 31)))) ri_87_119 rfl rfl ?_
                  obtain ⟨q20, hp⟩ := hp
                  refine rs_virt (As := [.int (v1 + (1 : Int32)), .int v2, .int (v3 ||| ((1 : Int32) <<< (v1 &&& 31)))]) (r := []) ri_87_120 rfl (by decide) rm_87.2.2.2 rm_87.2.2.1 rfl rfl rfl (by decide) (ro_kf (kd_42 (xl_74 hL (by unfold ro_ip; decide)))) (Nat.le_of_ble_eq_true rfl) (by decide) (by omega) (hF87 (xl_74 hL (by unfold ro_ip; decide)) q20) ?_
                  rintro _ _ ⟨e1, e2⟩
                  rw [e1, e2]
                  show ro_w X _ 87 _ 123 [(5, .int (M.2.1 47 (v1.toNatClampNeg))), (4, .int (M.2.1 46 (v1.toNatClampNeg))), (0, .ref 42), (1, .int v1), (2, .int v2), (3, .int v3)] [] (F87 (xm_74 M 43 (M.2.1 46 (v1.toNatClampNeg)) (M.2.1 47 (v1.toNatClampNeg))) (v1 + (1 : Int32)) v2 (v3 ||| ((1 : Int32) <<< (v1 &&& 31)))) (0, 0)
                  refine rs_aload_n ri_87_123 rfl rfl ?_
                  refine rs_gf (v := .ref 43) ri_87_124 rfl (by decide) (ro_kf (kd_42 (hl87 (xl_74 hL (by unfold ro_ip; decide)) q20))) rfl (rf_42_2 (hl87 (xl_74 hL (by unfold ro_ip; decide)) q20)) ?_
                  refine rs_iload ri_87_127 rfl rfl ?_
                  refine rs_iload ri_87_129 rfl rfl ?_
                  refine rs_virt (As := [.int (M.2.1 47 (v1.toNatClampNeg)), .int (M.2.1 46 (v1.toNatClampNeg))]) (r := []) ri_87_131 rfl (by decide) rm_74.2.2.2 rm_74.2.2.1 rfl rfl rfl (by decide) (ro_kf (kd_43 (hl87 (xl_74 hL (by unfold ro_ip; decide)) q20))) (Nat.le_of_ble_eq_true rfl) (by decide) (by omega) (xs_74 (X := X) (hl87 (xl_74 hL (by unfold ro_ip; decide)) q20) (by unfold ro_ip; decide)) ?_
                  rintro _ _ ⟨e1, e2⟩
                  rw [e1, e2]
                  show ro_w X _ 87 _ 134 [(5, .int (M.2.1 47 (v1.toNatClampNeg))), (4, .int (M.2.1 46 (v1.toNatClampNeg))), (0, .ref 42), (1, .int v1), (2, .int v2), (3, .int v3)] [] (xm_74 (F87 (xm_74 M 43 (M.2.1 46 (v1.toNatClampNeg)) (M.2.1 47 (v1.toNatClampNeg))) (v1 + (1 : Int32)) v2 (v3 ||| ((1 : Int32) <<< (v1 &&& 31)))) 43 (M.2.1 47 (v1.toNatClampNeg)) (M.2.1 46 (v1.toNatClampNeg))) (0, 0)
                  refine rs_ret ri_87_134 rm_87.2.1 (by decide) ?_
                  exact ⟨by rfl, by unfold xmb_87; first | (simp only [if_neg h1, if_neg h2, if_pos h3, if_pos h4, if_neg h11, if_pos h18, if_neg h19, if_pos h20]; done) | rfl⟩
              · have hp := hp.1 h19
                refine rs_aload_n ri_87_78 rfl rfl ?_
                refine rs_iload_n ri_87_79 rfl rfl ?_
                refine rs_iload_n ri_87_80 rfl rfl ?_
                refine rs_iload_n ri_87_81 rfl rfl ?_
                obtain ⟨q21, hp⟩ := hp
                refine rs_virt (As := [.int v1, .int v2, .int v3]) (r := []) ri_87_82 rfl (by decide) rm_89.2.2.2 rm_89.2.2.1 rfl rfl rfl (by decide) (ro_kf (kd_42 hL)) (Nat.le_of_ble_eq_true rfl) (by decide) (by omega) (xs_89 (X := X) hF87 hl87 hL q21) ?_
                rintro _ _ ⟨e1, e2⟩
                rw [e1, e2]
                show ro_w X _ 87 _ 85 [(5, .int (M.2.1 47 (v1.toNatClampNeg))), (4, .int (M.2.1 46 (v1.toNatClampNeg))), (0, .ref 42), (1, .int v1), (2, .int v2), (3, .int v3)] [] (xm_89 F87 M v1 v2 v3) (0, 0)
                refine rs_aload_n ri_87_85 rfl rfl ?_
                refine rs_gf (v := .ref 43) ri_87_86 rfl (by decide) (ro_kf (kd_42 (xl_89 hF87 hl87 hL q21))) rfl (rf_42_2 (xl_89 hF87 hl87 hL q21)) ?_
                refine rs_iload ri_87_89 rfl rfl ?_
                refine rs_iload ri_87_91 rfl rfl ?_
                refine rs_virt (As := [.int (M.2.1 46 (v1.toNatClampNeg)), .int (M.2.1 47 (v1.toNatClampNeg))]) (r := []) ri_87_93 rfl (by decide) rm_73.2.2.2 rm_73.2.2.1 rfl rfl rfl (by decide) (ro_kf (kd_43 (xl_89 hF87 hl87 hL q21))) (Nat.le_of_ble_eq_true rfl) (by decide) (by omega) (xs_73 (X := X) (xl_89 hF87 hl87 hL q21) (by unfold ro_ip; decide)) ?_
                rintro _ _ ⟨e1, e2⟩
                rw [e1, e2]
                show ro_w X _ 87 _ 96 [(5, .int (M.2.1 47 (v1.toNatClampNeg))), (4, .int (M.2.1 46 (v1.toNatClampNeg))), (0, .ref 42), (1, .int v1), (2, .int v2), (3, .int v3)] [.int (ro_b (xf_73 (xm_89 F87 M v1 v2 v3) 43 (M.2.1 46 (v1.toNatClampNeg)) (M.2.1 47 (v1.toNatClampNeg))))] (xm_89 F87 M v1 v2 v3) (0, 0)
                refine rs_ifeq_c (t := 134) ri_87_96 rfl rfl (fun h23 => ?_) (fun h23 => ?_)
                · have hp := hp.2 h23
                  refine rs_ret ri_87_134 rm_87.2.1 (by decide) ?_
                  exact ⟨by rfl, by unfold xmb_87; first | (simp only [if_neg h1, if_neg h2, if_pos h3, if_pos h4, if_neg h11, if_pos h18, if_pos h19, if_neg h23]; done) | rfl⟩
                · have hp := hp.1 h23
                  refine rs_aload_n ri_87_99 rfl rfl ?_
                  refine rs_gf (v := .ref 43) ri_87_100 rfl (by decide) (ro_kf (kd_42 (xl_89 hF87 hl87 hL q21))) rfl (rf_42_2 (xl_89 hF87 hl87 hL q21)) ?_
                  refine rs_iload ri_87_103 rfl rfl ?_
                  refine rs_iload ri_87_105 rfl rfl ?_
                  refine rs_virt (As := [.int (M.2.1 46 (v1.toNatClampNeg)), .int (M.2.1 47 (v1.toNatClampNeg))]) (r := []) ri_87_107 rfl (by decide) rm_74.2.2.2 rm_74.2.2.1 rfl rfl rfl (by decide) (ro_kf (kd_43 (xl_89 hF87 hl87 hL q21))) (Nat.le_of_ble_eq_true rfl) (by decide) (by omega) (xs_74 (X := X) (xl_89 hF87 hl87 hL q21) (by unfold ro_ip; decide)) ?_
                  rintro _ _ ⟨e1, e2⟩
                  rw [e1, e2]
                  show ro_w X _ 87 _ 110 [(5, .int (M.2.1 47 (v1.toNatClampNeg))), (4, .int (M.2.1 46 (v1.toNatClampNeg))), (0, .ref 42), (1, .int v1), (2, .int v2), (3, .int v3)] [] (xm_74 (xm_89 F87 M v1 v2 v3) 43 (M.2.1 46 (v1.toNatClampNeg)) (M.2.1 47 (v1.toNatClampNeg))) (0, 0)
                  refine rs_aload_n ri_87_110 rfl rfl ?_
                  refine rs_iload_n ri_87_111 rfl rfl ?_
                  refine rs_iconst (v := (1 : Int32)) ri_87_112 rfl (by decide) ?_
                  refine rs_iadd (r := (v1 + (1 : Int32))) ri_87_113 rfl rfl ?_
                  refine rs_iload_n ri_87_114 rfl rfl ?_
                  refine rs_iload_n ri_87_115 rfl rfl ?_
                  refine rs_iconst (v := (1 : Int32)) ri_87_116 rfl (by decide) ?_
                  refine rs_iload_n ri_87_117 rfl rfl ?_
                  refine rs_ishl (r := ((1 : Int32) <<< (v1 &&& 31))) ri_87_118 rfl rfl ?_
                  refine rs_ior (r := (v3 ||| ((1 : Int32) <<< (v1 &&& 31)))) ri_87_119 rfl rfl ?_
                  obtain ⟨q23, hp⟩ := hp
                  refine rs_virt (As := [.int (v1 + (1 : Int32)), .int v2, .int (v3 ||| ((1 : Int32) <<< (v1 &&& 31)))]) (r := []) ri_87_120 rfl (by decide) rm_87.2.2.2 rm_87.2.2.1 rfl rfl rfl (by decide) (ro_kf (kd_42 (xl_74 (xl_89 hF87 hl87 hL q21) (by unfold ro_ip; decide)))) (Nat.le_of_ble_eq_true rfl) (by decide) (by omega) (hF87 (xl_74 (xl_89 hF87 hl87 hL q21) (by unfold ro_ip; decide)) q23) ?_
                  rintro _ _ ⟨e1, e2⟩
                  rw [e1, e2]
                  show ro_w X _ 87 _ 123 [(5, .int (M.2.1 47 (v1.toNatClampNeg))), (4, .int (M.2.1 46 (v1.toNatClampNeg))), (0, .ref 42), (1, .int v1), (2, .int v2), (3, .int v3)] [] (F87 (xm_74 (xm_89 F87 M v1 v2 v3) 43 (M.2.1 46 (v1.toNatClampNeg)) (M.2.1 47 (v1.toNatClampNeg))) (v1 + (1 : Int32)) v2 (v3 ||| ((1 : Int32) <<< (v1 &&& 31)))) (0, 0)
                  refine rs_aload_n ri_87_123 rfl rfl ?_
                  refine rs_gf (v := .ref 43) ri_87_124 rfl (by decide) (ro_kf (kd_42 (hl87 (xl_74 (xl_89 hF87 hl87 hL q21) (by unfold ro_ip; decide)) q23))) rfl (rf_42_2 (hl87 (xl_74 (xl_89 hF87 hl87 hL q21) (by unfold ro_ip; decide)) q23)) ?_
                  refine rs_iload ri_87_127 rfl rfl ?_
                  refine rs_iload ri_87_129 rfl rfl ?_
                  refine rs_virt (As := [.int (M.2.1 47 (v1.toNatClampNeg)), .int (M.2.1 46 (v1.toNatClampNeg))]) (r := []) ri_87_131 rfl (by decide) rm_74.2.2.2 rm_74.2.2.1 rfl rfl rfl (by decide) (ro_kf (kd_43 (hl87 (xl_74 (xl_89 hF87 hl87 hL q21) (by unfold ro_ip; decide)) q23))) (Nat.le_of_ble_eq_true rfl) (by decide) (by omega) (xs_74 (X := X) (hl87 (xl_74 (xl_89 hF87 hl87 hL q21) (by unfold ro_ip; decide)) q23) (by unfold ro_ip; decide)) ?_
                  rintro _ _ ⟨e1, e2⟩
                  rw [e1, e2]
                  show ro_w X _ 87 _ 134 [(5, .int (M.2.1 47 (v1.toNatClampNeg))), (4, .int (M.2.1 46 (v1.toNatClampNeg))), (0, .ref 42), (1, .int v1), (2, .int v2), (3, .int v3)] [] (xm_74 (F87 (xm_74 (xm_89 F87 M v1 v2 v3) 43 (M.2.1 46 (v1.toNatClampNeg)) (M.2.1 47 (v1.toNatClampNeg))) (v1 + (1 : Int32)) v2 (v3 ||| ((1 : Int32) <<< (v1 &&& 31)))) 43 (M.2.1 47 (v1.toNatClampNeg)) (M.2.1 46 (v1.toNatClampNeg))) (0, 0)
                  refine rs_ret ri_87_134 rm_87.2.1 (by decide) ?_
                  exact ⟨by rfl, by unfold xmb_87; first | (simp only [if_neg h1, if_neg h2, if_pos h3, if_pos h4, if_neg h11, if_pos h18, if_pos h19, if_pos h23]; done) | rfl⟩
            · have hp := hp.2 h18
              refine rs_ret ri_87_47 rm_87.2.1 (by decide) ?_
              exact ⟨by rfl, by unfold xmb_87; first | (simp only [if_neg h1, if_neg h2, if_pos h3, if_pos h4, if_neg h11, if_neg h18]; done) | rfl⟩
      · have hp := hp.2 h3
        refine rs_aload_n ri_87_18 rfl rfl ?_
        refine rs_iload_n ri_87_19 rfl rfl ?_
        refine rs_iload_n ri_87_20 rfl rfl ?_
        refine rs_virt (As := [.int v2, .int v3]) (r := []) ri_87_21 rfl (by decide) rm_88.2.2.2 rm_88.2.2.1 rfl rfl rfl (by decide) (ro_kf (kd_42 hL)) (Nat.le_of_ble_eq_true rfl) (by decide) (by omega) (xs_88 (X := X) hL) ?_
        rintro _ _ ⟨e1, e2⟩
        rw [e1, e2]
        show ro_w X _ 87 _ 24 [(0, .ref 42), (1, .int v1), (2, .int v2), (3, .int v3)] [] (xm_88 M v2 v3) (0, 0)
        refine rs_ret ri_87_24 rm_87.2.1 (by decide) ?_
        exact ⟨by rfl, by unfold xmb_87; first | (simp only [if_neg h1, if_neg h2, if_neg h3]; done) | rfl⟩
theorem xlb_87 {X : ro_Sx} {k : Nat} {F87 : ro_Mm → Int32 → Int32 → Int32 → ro_Mm} {P87 : ro_Mm → Int32 → Int32 → Int32 → Prop} (hF87 : ∀ {M : ro_Mm} {v1 : Int32} {v2 : Int32} {v3 : Int32}, ro_lay M → P87 M v1 v2 v3 → ro_cwp X k 87 [.ref 42, .int v1, .int v2, .int v3] M (fun v M2 => v = none ∧ M2 = (F87 M v1 v2 v3))) (hl87 : ∀ {M : ro_Mm} {v1 : Int32} {v2 : Int32} {v3 : Int32}, ro_lay M → P87 M v1 v2 v3 → ro_lay (F87 M v1 v2 v3)) {M : ro_Mm} {v1 : Int32} {v2 : Int32} {v3 : Int32} (hL : ro_lay M) (hp : xpb_87 F87 P87 M v1 v2 v3) : ro_lay (xmb_87 F87 M v1 v2 v3) := by
  unfold xpb_87 at hp
  unfold xmb_87
  by_cases hz : v1 < (0 : Int32)
  · have hp := hp.1 hz
    rw [if_pos hz]
    first | exact (xl_88 hL) | (have hl := (xl_88 hL); exact hl)
  · have hp := hp.2 hz
    rw [if_neg hz]
    by_cases hz : (M.2.1 42 5) ≤ v1
    · have hp := hp.1 hz
      rw [if_pos hz]
      first | exact (xl_88 hL) | (have hl := (xl_88 hL); exact hl)
    · have hp := hp.2 hz
      rw [if_neg hz]
      by_cases hz : v1 < (10 : Int32)
      · have hp := hp.1 hz
        rw [if_pos hz]
        by_cases hz : (M.2.1 42 8) = (0 : Int32)
        · have hp := hp.1 hz
          rw [if_pos hz]
          by_cases hz : (M.2.1 42 9) = (0 : Int32)
          · have hp := hp.1 hz
            rw [if_pos hz]
            by_cases hz : (xf_75 M 43 (M.2.1 46 (v1.toNatClampNeg)) (M.2.1 47 (v1.toNatClampNeg)))
            · have hp := hp.1 hz
              rw [if_pos hz]
              obtain ⟨q14, hp⟩ := hp
              by_cases hz : (xf_73 (xm_89 F87 M v1 v2 v3) 43 (M.2.1 46 (v1.toNatClampNeg)) (M.2.1 47 (v1.toNatClampNeg)))
              · have hp := hp.1 hz
                rw [if_pos hz]
                obtain ⟨q16, hp⟩ := hp
                first | exact (xl_74 (hl87 (xl_74 (xl_89 hF87 hl87 hL q14) (by unfold ro_ip; decide)) q16) (by unfold ro_ip; decide)) | (have hl := (xl_74 (hl87 (xl_74 (xl_89 hF87 hl87 hL q14) (by unfold ro_ip; decide)) q16) (by unfold ro_ip; decide)); exact hl)
              · have hp := hp.2 hz
                rw [if_neg hz]
                first | exact (xl_89 hF87 hl87 hL q14) | (have hl := (xl_89 hF87 hl87 hL q14); exact hl)
            · have hp := hp.2 hz
              rw [if_neg hz]
              by_cases hz : (xf_73 M 43 (M.2.1 46 (v1.toNatClampNeg)) (M.2.1 47 (v1.toNatClampNeg)))
              · have hp := hp.1 hz
                rw [if_pos hz]
                obtain ⟨q13, hp⟩ := hp
                first | exact (xl_74 (hl87 (xl_74 hL (by unfold ro_ip; decide)) q13) (by unfold ro_ip; decide)) | (have hl := (xl_74 (hl87 (xl_74 hL (by unfold ro_ip; decide)) q13) (by unfold ro_ip; decide)); exact hl)
              · have hp := hp.2 hz
                rw [if_neg hz]
                first | exact hL | (have hl := hL; exact hl)
          · have hp := hp.2 hz
            rw [if_neg hz]
            by_cases hz : v2 < (M.2.1 42 6)
            · have hp := hp.1 hz
              rw [if_pos hz]
              by_cases hz : (xf_75 M 43 (M.2.1 46 (v1.toNatClampNeg)) (M.2.1 47 (v1.toNatClampNeg)))
              · have hp := hp.1 hz
                rw [if_pos hz]
                obtain ⟨q21, hp⟩ := hp
                by_cases hz : (xf_73 (xm_89 F87 M v1 v2 v3) 43 (M.2.1 46 (v1.toNatClampNeg)) (M.2.1 47 (v1.toNatClampNeg)))
                · have hp := hp.1 hz
                  rw [if_pos hz]
                  obtain ⟨q23, hp⟩ := hp
                  first | exact (xl_74 (hl87 (xl_74 (xl_89 hF87 hl87 hL q21) (by unfold ro_ip; decide)) q23) (by unfold ro_ip; decide)) | (have hl := (xl_74 (hl87 (xl_74 (xl_89 hF87 hl87 hL q21) (by unfold ro_ip; decide)) q23) (by unfold ro_ip; decide)); exact hl)
                · have hp := hp.2 hz
                  rw [if_neg hz]
                  first | exact (xl_89 hF87 hl87 hL q21) | (have hl := (xl_89 hF87 hl87 hL q21); exact hl)
              · have hp := hp.2 hz
                rw [if_neg hz]
                by_cases hz : (xf_73 M 43 (M.2.1 46 (v1.toNatClampNeg)) (M.2.1 47 (v1.toNatClampNeg)))
                · have hp := hp.1 hz
                  rw [if_pos hz]
                  obtain ⟨q20, hp⟩ := hp
                  first | exact (xl_74 (hl87 (xl_74 hL (by unfold ro_ip; decide)) q20) (by unfold ro_ip; decide)) | (have hl := (xl_74 (hl87 (xl_74 hL (by unfold ro_ip; decide)) q20) (by unfold ro_ip; decide)); exact hl)
                · have hp := hp.2 hz
                  rw [if_neg hz]
                  first | exact hL | (have hl := hL; exact hl)
            · have hp := hp.2 hz
              rw [if_neg hz]
              first | exact hL | (have hl := hL; exact hl)
        · have hp := hp.2 hz
          rw [if_neg hz]
          by_cases hz : (xf_75 M 43 (M.2.1 46 (v1.toNatClampNeg)) (M.2.1 47 (v1.toNatClampNeg)))
          · have hp := hp.1 hz
            rw [if_pos hz]
            obtain ⟨q7, hp⟩ := hp
            by_cases hz : (xf_73 (xm_89 F87 M v1 v2 v3) 43 (M.2.1 46 (v1.toNatClampNeg)) (M.2.1 47 (v1.toNatClampNeg)))
            · have hp := hp.1 hz
              rw [if_pos hz]
              obtain ⟨q9, hp⟩ := hp
              first | exact (xl_74 (hl87 (xl_74 (xl_89 hF87 hl87 hL q7) (by unfold ro_ip; decide)) q9) (by unfold ro_ip; decide)) | (have hl := (xl_74 (hl87 (xl_74 (xl_89 hF87 hl87 hL q7) (by unfold ro_ip; decide)) q9) (by unfold ro_ip; decide)); exact hl)
            · have hp := hp.2 hz
              rw [if_neg hz]
              first | exact (xl_89 hF87 hl87 hL q7) | (have hl := (xl_89 hF87 hl87 hL q7); exact hl)
          · have hp := hp.2 hz
            rw [if_neg hz]
            by_cases hz : (xf_73 M 43 (M.2.1 46 (v1.toNatClampNeg)) (M.2.1 47 (v1.toNatClampNeg)))
            · have hp := hp.1 hz
              rw [if_pos hz]
              obtain ⟨q6, hp⟩ := hp
              first | exact (xl_74 (hl87 (xl_74 hL (by unfold ro_ip; decide)) q6) (by unfold ro_ip; decide)) | (have hl := (xl_74 (hl87 (xl_74 hL (by unfold ro_ip; decide)) q6) (by unfold ro_ip; decide)); exact hl)
            · have hp := hp.2 hz
              rw [if_neg hz]
              first | exact hL | (have hl := hL; exact hl)
      · have hp := hp.2 hz
        rw [if_neg hz]
        first | exact (xl_88 hL) | (have hl := (xl_88 hL); exact hl)
noncomputable def xr_sea : Nat → (ro_Mm → Int32 → Int32 → Int32 → ro_Mm)
  | 0 => fun M v1 v2 v3 => M
  | n + 1 => fun M v1 v2 v3 => (xmb_87 (xr_sea n) M v1 v2 v3)
def xpr_sea : Nat → (ro_Mm → Int32 → Int32 → Int32 → Prop)
  | 0 => fun _ _ _ _ => False
  | n + 1 => fun M v1 v2 v3 => xpb_87 (xr_sea n) (xpr_sea n) M v1 v2 v3
theorem xsr_sea {X : ro_Sx} : ∀ n : Nat, (∀ {M : ro_Mm} {v1 : Int32} {v2 : Int32} {v3 : Int32}, ro_lay M → xpr_sea n M v1 v2 v3 → ro_cwp X (8 * n) 87 [.ref 42, .int v1, .int v2, .int v3] M (fun v M2 => v = none ∧ M2 = (xr_sea n M v1 v2 v3))) ∧ (∀ {M : ro_Mm} {v1 : Int32} {v2 : Int32} {v3 : Int32}, ro_lay M → xpr_sea n M v1 v2 v3 → ro_lay (xr_sea n M v1 v2 v3)) := by
  intro n
  induction n with
  | zero => exact ⟨fun _ hp => False.elim hp, fun _ hp => False.elim hp⟩
  | succ n ih =>
    obtain ⟨f87, l87⟩ := ih
    refine ⟨?_, ?_⟩
    · intro M v1 v2 v3 hL hp
      exact ro_cwp_up (by omega) (fun _ _ h => h) (xsb_87 f87 l87 hL hp)
    · intro M v1 v2 v3 hL hp
      exact xlb_87 (X := X) f87 l87 hL hp
noncomputable def xm_87 (M : ro_Mm) (v1 : Int32) (v2 : Int32) (v3 : Int32) : ro_Mm := (xr_sea rc_N M v1 v2 v3)
def xp_87 (M : ro_Mm) (v1 : Int32) (v2 : Int32) (v3 : Int32) : Prop := xpr_sea rc_N M v1 v2 v3
theorem xs_87 {X : ro_Sx} {M : ro_Mm} {v1 : Int32} {v2 : Int32} {v3 : Int32} (hL : ro_lay M) (hp : xp_87 M v1 v2 v3) : ro_cwp X 800 87 [.ref 42, .int v1, .int v2, .int v3] M (fun v M2 => v = none ∧ M2 = xm_87 M v1 v2 v3) :=
  ro_cwp_up (by rw [rc_N_eq]; exact Nat.le_refl _) (fun _ _ h => h) ((xsr_sea (X := X) rc_N).1 hL hp)
theorem xl_87 {M : ro_Mm} {v1 : Int32} {v2 : Int32} {v3 : Int32} (hL : ro_lay M) (hp : xp_87 M v1 v2 v3) : ro_lay (xm_87 M v1 v2 v3) := (xsr_sea (X := (0, fun _ => 0)) rc_N).2 hL hp
noncomputable def xm_89o (M : ro_Mm) (v1 : Int32) (v2 : Int32) (v3 : Int32) : ro_Mm := xm_89 (xr_sea rc_N) M v1 v2 v3
def xp_89o (M : ro_Mm) (v1 : Int32) (v2 : Int32) (v3 : Int32) : Prop := xp_89 (xr_sea rc_N) (xpr_sea rc_N) M v1 v2 v3
theorem xs_89o {X : ro_Sx} {M : ro_Mm} {v1 : Int32} {v2 : Int32} {v3 : Int32} (hL : ro_lay M) (hp : xp_89o M v1 v2 v3) : ro_cwp X 804 89 [.ref 42, .int v1, .int v2, .int v3] M (fun v M2 => v = none ∧ M2 = xm_89o M v1 v2 v3) :=
  ro_cwp_up (by rw [rc_N_eq]; exact Nat.le_refl _) (fun _ _ h => h) (xs_89 (xsr_sea (X := X) rc_N).1 (xsr_sea (X := X) rc_N).2 hL hp)
theorem xl_89o {M : ro_Mm} {v1 : Int32} {v2 : Int32} {v3 : Int32} (hL : ro_lay M) (hp : xp_89o M v1 v2 v3) : ro_lay (xm_89o M v1 v2 v3) := xl_89 (xsr_sea (X := (0, fun _ => 0)) rc_N).1 (xsr_sea (X := (0, fun _ => 0)) rc_N).2 hL hp
/-- RefusedOnce$Bodies.acts(III)I -/
noncomputable def xf_165 (M : ro_Mm) (v1 : Int32) (v2 : Int32) (v3 : Int32) : Int32 := (if v1 < (0 : Int32) then (0 : Int32) else (if (M.2.1 59 2) ≤ v1 then (0 : Int32) else (if v2 < (0 : Int32) then (0 : Int32) else (if v2 < (4 : Int32) then (xf_167 (ro_sI (ro_sI (ro_sI M 59 3 (0 : Int32)) 59 4 v1) 59 5 (xf_166 (ro_sI (ro_sI M 59 3 (0 : Int32)) 59 4 v1) v1)) (xf_166 (ro_sI (ro_sI M 59 3 (0 : Int32)) 59 4 v1) v1) v2 v3 (0 : Int32)) else (0 : Int32)))))
noncomputable def xm_165 (M : ro_Mm) (v1 : Int32) (v2 : Int32) (v3 : Int32) : ro_Mm := (if v1 < (0 : Int32) then (ro_sI M 59 3 (0 : Int32)) else (if (M.2.1 59 2) ≤ v1 then (ro_sI M 59 3 (0 : Int32)) else (if v2 < (0 : Int32) then (ro_sI M 59 3 (0 : Int32)) else (if v2 < (4 : Int32) then (xm_167 (ro_sI (ro_sI (ro_sI M 59 3 (0 : Int32)) 59 4 v1) 59 5 (xf_166 (ro_sI (ro_sI M 59 3 (0 : Int32)) 59 4 v1) v1)) (xf_166 (ro_sI (ro_sI M 59 3 (0 : Int32)) 59 4 v1) v1) v2 v3 (0 : Int32)) else (ro_sI M 59 3 (0 : Int32))))))
def xp_165 (M : ro_Mm) (v1 : Int32) (v2 : Int32) (v3 : Int32) : Prop := ((v1 < (0 : Int32) → True) ∧ (¬ (v1 < (0 : Int32)) → (((M.2.1 59 2) ≤ v1 → True) ∧ (¬ ((M.2.1 59 2) ≤ v1) → ((v2 < (0 : Int32) → True) ∧ (¬ (v2 < (0 : Int32)) → ((v2 < (4 : Int32) → (xp_167 (ro_sI (ro_sI (ro_sI M 59 3 (0 : Int32)) 59 4 v1) 59 5 (xf_166 (ro_sI (ro_sI M 59 3 (0 : Int32)) 59 4 v1) v1)) (xf_166 (ro_sI (ro_sI M 59 3 (0 : Int32)) 59 4 v1) v1) v2 v3 (0 : Int32) ∧ True)) ∧ (¬ (v2 < (4 : Int32)) → True))))))))
/-- RefusedOnce$Payings.find(Z)Z -/
noncomputable def xf_86 (M : ro_Mm) (v1 : Bool) : Bool := (ro_t ((xm_87 (ro_sI (ro_sI (ro_sI (ro_sI (xm_68 M 43 6 (xf_18 M)) 42 8 (ro_b v1)) 42 9 (0 : Int32)) 42 6 (0 : Int32)) 42 7 (0 : Int32)) (0 : Int32) (0 : Int32) (0 : Int32)).2.1 42 9))
noncomputable def xm_86 (M : ro_Mm) (v1 : Bool) : ro_Mm := (xm_87 (ro_sI (ro_sI (ro_sI (ro_sI (xm_68 M 43 6 (xf_18 M)) 42 8 (ro_b v1)) 42 9 (0 : Int32)) 42 6 (0 : Int32)) 42 7 (0 : Int32)) (0 : Int32) (0 : Int32) (0 : Int32))
def xp_86 (M : ro_Mm) (v1 : Bool) : Prop := (xp_68 M 43 6 (xf_18 M) ∧ (xp_87 (ro_sI (ro_sI (ro_sI (ro_sI (xm_68 M 43 6 (xf_18 M)) 42 8 (ro_b v1)) 42 9 (0 : Int32)) 42 6 (0 : Int32)) 42 7 (0 : Int32)) (0 : Int32) (0 : Int32) (0 : Int32) ∧ ((((xm_87 (ro_sI (ro_sI (ro_sI (ro_sI (xm_68 M 43 6 (xf_18 M)) 42 8 (ro_b v1)) 42 9 (0 : Int32)) 42 6 (0 : Int32)) 42 7 (0 : Int32)) (0 : Int32) (0 : Int32) (0 : Int32)).2.1 42 9) = 0 ∨ ((xm_87 (ro_sI (ro_sI (ro_sI (ro_sI (xm_68 M 43 6 (xf_18 M)) 42 8 (ro_b v1)) 42 9 (0 : Int32)) 42 6 (0 : Int32)) 42 7 (0 : Int32)) (0 : Int32) (0 : Int32) (0 : Int32)).2.1 42 9) = 1) ∧ True)))
theorem xs_86 {X : ro_Sx} {M : ro_Mm} {v1 : Bool} (hL : ro_lay M) (hp : xp_86 M v1) : ro_cwp X 801 86 [.ref 42, .int (ro_b v1)] M (fun v M2 => v = some (.int (ro_b (xf_86 M v1))) ∧ M2 = xm_86 M v1) := by
  refine rs_begin (lv0 := [(0, .ref 42), (1, .int (ro_b v1))]) (by decide) rfl (by rw [rm_86.1]; exact Nat.le_of_ble_eq_true rfl) rfl ?_
  unfold xp_86 at hp
  refine rs_aload_n ri_86_0 rfl rfl ?_
  refine rs_gf (v := .ref 43) ri_86_1 rfl (by decide) (ro_kf (kd_42 hL)) rfl (rf_42_2 hL) ?_
  refine rs_aload_n ri_86_4 rfl rfl ?_
  refine rs_gf (v := .ref 5) ri_86_5 rfl (by decide) (ro_kf (kd_42 hL)) rfl (rf_42_0 hL) ?_
  refine rs_gf (v := .ref 6) ri_86_8 rfl (by decide) (ro_kf (kd_5 hL)) rfl (rf_5_0 hL) ?_
  refine rs_aload_n ri_86_11 rfl rfl ?_
  refine rs_gf (v := .ref 5) ri_86_12 rfl (by decide) (ro_kf (kd_42 hL)) rfl (rf_42_0 hL) ?_
  refine rs_virt (As := []) (r := [.ref 6, .ref 43]) ri_86_15 rfl (by decide) rm_18.2.2.2 rm_18.2.2.1 rfl rfl rfl (by decide) (ro_kf (kd_5 hL)) (Nat.le_of_ble_eq_true rfl) (by decide) (by decide) (xs_18 (X := X) hL) ?_
  rintro _ _ ⟨e1, e2⟩
  rw [e1, e2]
  show ro_w X _ 86 _ 18 [(0, .ref 42), (1, .int (ro_b v1))] [.int (xf_18 M), .ref 6, .ref 43] M (0, 0)
  obtain ⟨q0, hp⟩ := hp
  refine rs_virt (As := [.ref 6, .int (xf_18 M)]) (r := []) ri_86_18 rfl (by decide) rm_68.2.2.2 rm_68.2.2.1 rfl rfl rfl (by decide) (ro_kf (kd_43 hL)) (Nat.le_of_ble_eq_true rfl) (by decide) (by decide) (xs_68 (X := X) hL (by unfold ro_ip; decide) (by unfold ro_ip; decide) q0) ?_
  rintro _ _ ⟨e1, e2⟩
  rw [e1, e2]
  show ro_w X _ 86 _ 21 [(0, .ref 42), (1, .int (ro_b v1))] [] (xm_68 M 43 6 (xf_18 M)) (0, 0)
  refine rs_aload_n ri_86_21 rfl rfl ?_
  refine rs_iload_n ri_86_22 rfl rfl ?_
  refine rs_pf (M2 := (ro_sI (xm_68 M 43 6 (xf_18 M)) 42 8 (ro_b v1))) ri_86_23 rfl (by decide) (ro_kf (kd_42 (xl_68 hL (by unfold ro_ip; decide) (by unfold ro_ip; decide) q0))) (fun h => absurd h (by decide)) (fun f h => ⟨by cases v1 <;> decide, h⟩) ?_
  refine rs_aload_n ri_86_26 rfl rfl ?_
  refine rs_iconst (v := (0 : Int32)) ri_86_27 rfl (by decide) ?_
  refine rs_pf (M2 := (ro_sI (ro_sI (xm_68 M 43 6 (xf_18 M)) 42 8 (ro_b v1)) 42 9 (0 : Int32))) ri_86_28 rfl (by decide) (ro_kf (kd_42 (xl_68 hL (by unfold ro_ip; decide) (by unfold ro_ip; decide) q0))) (fun h => absurd h (by decide)) (fun f h => ⟨by decide, h⟩) ?_
  refine rs_aload_n ri_86_31 rfl rfl ?_
  refine rs_iconst (v := (0 : Int32)) ri_86_32 rfl (by decide) ?_
  refine rs_pf (M2 := (ro_sI (ro_sI (ro_sI (xm_68 M 43 6 (xf_18 M)) 42 8 (ro_b v1)) 42 9 (0 : Int32)) 42 6 (0 : Int32))) ri_86_33 rfl (by decide) (ro_kf (kd_42 (xl_68 hL (by unfold ro_ip; decide) (by unfold ro_ip; decide) q0))) (fun h => absurd h (by decide)) (fun f h => h) ?_
  refine rs_aload_n ri_86_36 rfl rfl ?_
  refine rs_iconst (v := (0 : Int32)) ri_86_37 rfl (by decide) ?_
  refine rs_pf (M2 := (ro_sI (ro_sI (ro_sI (ro_sI (xm_68 M 43 6 (xf_18 M)) 42 8 (ro_b v1)) 42 9 (0 : Int32)) 42 6 (0 : Int32)) 42 7 (0 : Int32))) ri_86_38 rfl (by decide) (ro_kf (kd_42 (xl_68 hL (by unfold ro_ip; decide) (by unfold ro_ip; decide) q0))) (fun h => absurd h (by decide)) (fun f h => h) ?_
  refine rs_aload_n ri_86_41 rfl rfl ?_
  refine rs_iconst (v := (0 : Int32)) ri_86_42 rfl (by decide) ?_
  refine rs_iconst (v := (0 : Int32)) ri_86_43 rfl (by decide) ?_
  refine rs_iconst (v := (0 : Int32)) ri_86_44 rfl (by decide) ?_
  obtain ⟨q1, hp⟩ := hp
  refine rs_virt (As := [.int (0 : Int32), .int (0 : Int32), .int (0 : Int32)]) (r := []) ri_86_45 rfl (by decide) rm_87.2.2.2 rm_87.2.2.1 rfl rfl rfl (by decide) (ro_kf (kd_42 (xl_68 hL (by unfold ro_ip; decide) (by unfold ro_ip; decide) q0))) (Nat.le_of_ble_eq_true rfl) (by decide) (by decide) (xs_87 (X := X) (xl_68 hL (by unfold ro_ip; decide) (by unfold ro_ip; decide) q0) q1) ?_
  rintro _ _ ⟨e1, e2⟩
  rw [e1, e2]
  show ro_w X _ 86 _ 48 [(0, .ref 42), (1, .int (ro_b v1))] [] (xm_87 (ro_sI (ro_sI (ro_sI (ro_sI (xm_68 M 43 6 (xf_18 M)) 42 8 (ro_b v1)) 42 9 (0 : Int32)) 42 6 (0 : Int32)) 42 7 (0 : Int32)) (0 : Int32) (0 : Int32) (0 : Int32)) (0, 0)
  refine rs_aload_n ri_86_48 rfl rfl ?_
  refine rs_gf (v := .int ((xm_87 (ro_sI (ro_sI (ro_sI (ro_sI (xm_68 M 43 6 (xf_18 M)) 42 8 (ro_b v1)) 42 9 (0 : Int32)) 42 6 (0 : Int32)) 42 7 (0 : Int32)) (0 : Int32) (0 : Int32) (0 : Int32)).2.1 42 9)) ri_86_49 rfl (by decide) (ro_kf (kd_42 (xl_87 (xl_68 hL (by unfold ro_ip; decide) (by unfold ro_ip; decide) q0) q1))) rfl rfl ?_
  obtain ⟨q2, hp⟩ := hp
  refine rs_zret (p := (ro_t ((xm_87 (ro_sI (ro_sI (ro_sI (ro_sI (xm_68 M 43 6 (xf_18 M)) 42 8 (ro_b v1)) 42 9 (0 : Int32)) 42 6 (0 : Int32)) 42 7 (0 : Int32)) (0 : Int32) (0 : Int32) (0 : Int32)).2.1 42 9))) ri_86_52 rm_86.2.1 (by decide) (ro_t_b q2) ?_
  exact ⟨by rfl, by rfl⟩
theorem xl_86 {M : ro_Mm} {v1 : Bool} (hL : ro_lay M) (hp : xp_86 M v1) : ro_lay (xm_86 M v1) := by
  unfold xp_86 at hp
  unfold xm_86
  obtain ⟨q0, hp⟩ := hp
  obtain ⟨q1, hp⟩ := hp
  obtain ⟨q2, hp⟩ := hp
  exact (xl_87 (xl_68 hL (by unfold ro_ip; decide) (by unfold ro_ip; decide) q0) q1)
/-- RefusedOnce.cleanest(I)I -/
noncomputable def xf_93 (M : ro_Mm) (v1 : Int32) : Int32 := (if ro_bs v1 then (if (xf_22 M (ro_sc v1)) then (if (xf_85 (xm_84 M (ro_sc v1))) ≤ (0 : Int32) then (-2 : Int32) else (if (xf_86 (xm_84 M (ro_sc v1)) true) then (xf_91 (xm_86 (xm_84 M (ro_sc v1)) true)) else (-2 : Int32))) else (xf_65 M (ro_sc v1))) else (-1 : Int32))
noncomputable def xm_93 (M : ro_Mm) (v1 : Int32) : ro_Mm := (if ro_bs v1 then (if (xf_22 M (ro_sc v1)) then (if (xf_85 (xm_84 M (ro_sc v1))) ≤ (0 : Int32) then (xm_84 M (ro_sc v1)) else (xm_86 (xm_84 M (ro_sc v1)) true)) else M) else M)
def xp_93 (M : ro_Mm) (v1 : Int32) : Prop := ((ro_bs v1 → (((xf_22 M (ro_sc v1)) → (xp_84 M (ro_sc v1) ∧ (((xf_85 (xm_84 M (ro_sc v1))) ≤ (0 : Int32) → True) ∧ (¬ ((xf_85 (xm_84 M (ro_sc v1))) ≤ (0 : Int32)) → (xp_86 (xm_84 M (ro_sc v1)) true ∧ True))))) ∧ (¬ ((xf_22 M (ro_sc v1))) → True))) ∧ (¬ (ro_bs v1) → True))
theorem xs_93 {X : ro_Sx} {M : ro_Mm} {v1 : Int32} (hL : ro_lay M) (hp : xp_93 M v1) : ro_cwp X 802 93 [.ref 4, .int v1] M (fun v M2 => v = some (.int (xf_93 M v1)) ∧ M2 = xm_93 M v1) := by
  refine rs_begin (lv0 := [(0, .ref 4), (1, .int v1)]) (by decide) rfl (by rw [rm_93.1]; exact Nat.le_of_ble_eq_true rfl) rfl ?_
  unfold xp_93 at hp
  refine rs_aload_n ri_93_0 rfl rfl ?_
  refine rs_iload_n ri_93_1 rfl rfl ?_
  by_cases h1 : ro_bs v1 = true
  · have hp := hp.1 h1
    refine rs_virt (As := [.int v1]) (r := []) ri_93_2 rfl (by decide) rm_20.2.2.2 rm_20.2.2.1 rfl rfl rfl (by decide) (ro_kf (kd_4 hL)) (Nat.le_of_ble_eq_true rfl) (by decide) (by decide) (xs_20_t hL h1) ?_
    rintro _ _ ⟨e1, e2⟩
    rw [e1, e2]
    show ro_w X _ 93 _ 5 [(0, .ref 4), (1, .int v1)] [.ref (ro_sc v1)] M (0, 0)
    refine rs_astore_n (lv2 := [(2, .ref (ro_sc v1)), (0, .ref 4), (1, .int v1)]) ri_93_5 rfl rm_93.1 (by decide) rfl ?_
    refine rs_aload_n ri_93_6 rfl rfl ?_
    refine rs_ifnonnull (t := 12) ri_93_7 rfl ?_
    refine rs_aload_n ri_93_12 rfl rfl ?_
    refine rs_virt (As := []) (r := []) ri_93_13 rfl (by decide) rm_22.2.2.2 rm_22.2.2.1 rfl rfl rfl (ro_is4 (ro_sc_is v1)) (ro_kf (is_kd hL (ro_sc_is v1))) (Nat.le_of_ble_eq_true rfl) (by decide) (by decide) (xs_22 (X := X) hL (ro_sc_is v1)) ?_
    rintro _ _ ⟨e1, e2⟩
    rw [e1, e2]
    show ro_w X _ 93 _ 16 [(2, .ref (ro_sc v1)), (0, .ref 4), (1, .int v1)] [.int (ro_b (xf_22 M (ro_sc v1)))] M (0, 0)
    refine rs_ifne_c (t := 24) ri_93_16 rfl rfl (fun h2 => ?_) (fun h2 => ?_)
    · have hp := hp.1 h2
      refine rs_aload_n ri_93_24 rfl rfl ?_
      refine rs_gf (v := .ref 42) ri_93_25 rfl (by decide) (ro_kf (kd_4 hL)) rfl (rf_4_4 hL) ?_
      refine rs_aload_n ri_93_28 rfl rfl ?_
      obtain ⟨q2, hp⟩ := hp
      refine rs_virt (As := [.ref (ro_sc v1)]) (r := []) ri_93_29 rfl (by decide) rm_84.2.2.2 rm_84.2.2.1 rfl rfl rfl (by decide) (ro_kf (kd_42 hL)) (Nat.le_of_ble_eq_true rfl) (by decide) (by decide) (xs_84 (X := X) hL (ro_sc_is v1) q2) ?_
      rintro _ _ ⟨e1, e2⟩
      rw [e1, e2]
      show ro_w X _ 93 _ 32 [(2, .ref (ro_sc v1)), (0, .ref 4), (1, .int v1)] [] (xm_84 M (ro_sc v1)) (0, 0)
      refine rs_aload_n ri_93_32 rfl rfl ?_
      refine rs_gf (v := .ref 42) ri_93_33 rfl (by decide) (ro_kf (kd_4 (xl_84 hL (ro_sc_is v1) q2))) rfl (rf_4_4 (xl_84 hL (ro_sc_is v1) q2)) ?_
      refine rs_virt (As := []) (r := []) ri_93_36 rfl (by decide) rm_85.2.2.2 rm_85.2.2.1 rfl rfl rfl (by decide) (ro_kf (kd_42 (xl_84 hL (ro_sc_is v1) q2))) (Nat.le_of_ble_eq_true rfl) (by decide) (by decide) (xs_85 (X := X) (xl_84 hL (ro_sc_is v1) q2)) ?_
      rintro _ _ ⟨e1, e2⟩
      rw [e1, e2]
      show ro_w X _ 93 _ 39 [(2, .ref (ro_sc v1)), (0, .ref 4), (1, .int v1)] [.int (xf_85 (xm_84 M (ro_sc v1)))] (xm_84 M (ro_sc v1)) (0, 0)
      refine rs_if_le (t := 63) ri_93_39 rfl rfl (fun h4 => ?_) (fun h4 => ?_)
      · have hp := hp.1 h4
        refine rs_bipush (v := (-2 : Int32)) ri_93_63 rfl (by decide) ?_
        refine rs_iret ri_93_65 rm_93.2.1 (by decide) ?_
        exact ⟨by unfold xf_93; first | (simp only [if_pos h1, if_pos h2, if_pos h4]; done) | rfl, by unfold xm_93; first | (simp only [if_pos h1, if_pos h2, if_pos h4]; done) | rfl⟩
      · have hp := hp.2 h4
        refine rs_aload_n ri_93_42 rfl rfl ?_
        refine rs_gf (v := .ref 42) ri_93_43 rfl (by decide) (ro_kf (kd_4 (xl_84 hL (ro_sc_is v1) q2))) rfl (rf_4_4 (xl_84 hL (ro_sc_is v1) q2)) ?_
        refine rs_iconst (v := (1 : Int32)) ri_93_46 rfl (by decide) ?_
        obtain ⟨q4, hp⟩ := hp
        refine rs_virt (As := [.int (ro_b true)]) (r := []) ri_93_47 rfl (by decide) rm_86.2.2.2 rm_86.2.2.1 rfl rfl rfl (by decide) (ro_kf (kd_42 (xl_84 hL (ro_sc_is v1) q2))) (Nat.le_of_ble_eq_true rfl) (by decide) (by decide) (xs_86 (X := X) (xl_84 hL (ro_sc_is v1) q2) q4) ?_
        rintro _ _ ⟨e1, e2⟩
        rw [e1, e2]
        show ro_w X _ 93 _ 50 [(2, .ref (ro_sc v1)), (0, .ref 4), (1, .int v1)] [.int (ro_b (xf_86 (xm_84 M (ro_sc v1)) true))] (xm_86 (xm_84 M (ro_sc v1)) true) (0, 0)
        refine rs_ifeq_c (t := 63) ri_93_50 rfl rfl (fun h6 => ?_) (fun h6 => ?_)
        · skip
          refine rs_bipush (v := (-2 : Int32)) ri_93_63 rfl (by decide) ?_
          refine rs_iret ri_93_65 rm_93.2.1 (by decide) ?_
          exact ⟨by unfold xf_93; first | (simp only [if_pos h1, if_pos h2, if_neg h4, if_neg h6]; done) | rfl, by unfold xm_93; first | (simp only [if_pos h1, if_pos h2, if_neg h4, if_neg h6]; done) | rfl⟩
        · skip
          refine rs_aload_n ri_93_53 rfl rfl ?_
          refine rs_gf (v := .ref 42) ri_93_54 rfl (by decide) (ro_kf (kd_4 (xl_86 (xl_84 hL (ro_sc_is v1) q2) q4))) rfl (rf_4_4 (xl_86 (xl_84 hL (ro_sc_is v1) q2) q4)) ?_
          refine rs_virt (As := []) (r := []) ri_93_57 rfl (by decide) rm_91.2.2.2 rm_91.2.2.1 rfl rfl rfl (by decide) (ro_kf (kd_42 (xl_86 (xl_84 hL (ro_sc_is v1) q2) q4))) (Nat.le_of_ble_eq_true rfl) (by decide) (by decide) (xs_91 (X := X) (xl_86 (xl_84 hL (ro_sc_is v1) q2) q4)) ?_
          rintro _ _ ⟨e1, e2⟩
          rw [e1, e2]
          show ro_w X _ 93 _ 60 [(2, .ref (ro_sc v1)), (0, .ref 4), (1, .int v1)] [.int (xf_91 (xm_86 (xm_84 M (ro_sc v1)) true))] (xm_86 (xm_84 M (ro_sc v1)) true) (0, 0)
          refine rs_goto (t := 65) ri_93_60 rfl ?_
          refine rs_iret ri_93_65 rm_93.2.1 (by decide) ?_
          exact ⟨by unfold xf_93; first | (simp only [if_pos h1, if_pos h2, if_neg h4, if_pos h6]; done) | rfl, by unfold xm_93; first | (simp only [if_pos h1, if_pos h2, if_neg h4, if_pos h6]; done) | rfl⟩
    · have hp := hp.2 h2
      refine rs_aload_n ri_93_19 rfl rfl ?_
      refine rs_virt (As := []) (r := []) ri_93_20 rfl (by decide) rm_65.2.2.2 rm_65.2.2.1 rfl rfl rfl (ro_is4 (ro_sc_is v1)) (ro_kf (is_kd hL (ro_sc_is v1))) (Nat.le_of_ble_eq_true rfl) (by decide) (by decide) (xs_65 (X := X) hL (ro_sc_is v1)) ?_
      rintro _ _ ⟨e1, e2⟩
      rw [e1, e2]
      show ro_w X _ 93 _ 23 [(2, .ref (ro_sc v1)), (0, .ref 4), (1, .int v1)] [.int (xf_65 M (ro_sc v1))] M (0, 0)
      refine rs_iret ri_93_23 rm_93.2.1 (by decide) ?_
      exact ⟨by unfold xf_93; first | (simp only [if_pos h1, if_neg h2]; done) | rfl, by unfold xm_93; first | (simp only [if_pos h1, if_neg h2]; done) | rfl⟩
  · have hp := hp.2 h1
    refine rs_virt (As := [.int v1]) (r := []) ri_93_2 rfl (by decide) rm_20.2.2.2 rm_20.2.2.1 rfl rfl rfl (by decide) (ro_kf (kd_4 hL)) (Nat.le_of_ble_eq_true rfl) (by decide) (by decide) (xs_20_f hL h1) ?_
    rintro _ _ ⟨e1, e2⟩
    rw [e1, e2]
    show ro_w X _ 93 _ 5 [(0, .ref 4), (1, .int v1)] [.null] M (0, 0)
    refine rs_astoreN_n (lv2 := [(2, .null), (0, .ref 4), (1, .int v1)]) ri_93_5 rfl rm_93.1 (by decide) rfl ?_
    refine rs_aloadN_n ri_93_6 rfl rfl ?_
    refine rs_ifnonnullN (t := 12) ri_93_7 rfl rfl ?_
    refine rs_iconst (v := (-1 : Int32)) ri_93_10 rfl (by decide) ?_
    refine rs_iret ri_93_11 rm_93.2.1 (by decide) ?_
    exact ⟨by unfold xf_93; first | (simp only [if_neg h1]; done) | rfl, by unfold xm_93; first | (simp only [if_neg h1]; done) | rfl⟩
theorem xl_93 {M : ro_Mm} {v1 : Int32} (hL : ro_lay M) (hp : xp_93 M v1) : ro_lay (xm_93 M v1) := by
  unfold xp_93 at hp
  unfold xm_93
  by_cases hz : ro_bs v1
  · have hp := hp.1 hz
    rw [if_pos hz]
    by_cases hz : (xf_22 M (ro_sc v1))
    · have hp := hp.1 hz
      rw [if_pos hz]
      obtain ⟨q2, hp⟩ := hp
      by_cases hz : (xf_85 (xm_84 M (ro_sc v1))) ≤ (0 : Int32)
      · have hp := hp.1 hz
        rw [if_pos hz]
        exact (xl_84 hL (ro_sc_is v1) q2)
      · have hp := hp.2 hz
        rw [if_neg hz]
        obtain ⟨q4, hp⟩ := hp
        by_cases hz : (xf_86 (xm_84 M (ro_sc v1)) true)
        · skip
          exact (xl_86 (xl_84 hL (ro_sc_is v1) q2) q4)
        · skip
          exact (xl_86 (xl_84 hL (ro_sc_is v1) q2) q4)
    · have hp := hp.2 hz
      rw [if_neg hz]
      exact hL
  · have hp := hp.2 hz
    rw [if_neg hz]
    exact hL
/-- RefusedOnce.act(III)I -/
noncomputable def xf_164 (M : ro_Mm) (v1 : Int32) (v2 : Int32) (v3 : Int32) : Int32 := (xf_165 M v1 v2 v3)
noncomputable def xm_164 (M : ro_Mm) (v1 : Int32) (v2 : Int32) (v3 : Int32) : ro_Mm := (xm_165 M v1 v2 v3)
def xp_164 (M : ro_Mm) (v1 : Int32) (v2 : Int32) (v3 : Int32) : Prop := (xp_165 M v1 v2 v3 ∧ True)
/-- RefusedOnce.round(II)I -/
noncomputable def xf_83 (M : ro_Mm) (v1 : Int32) (v2 : Int32) : Int32 := (if ro_bs v1 then (if (-1 : Int32) ≤ v2 then (if (xf_22 M (ro_sc v1)) then (if (xf_85 (xm_84 M (ro_sc v1))) ≤ v2 then (-2 : Int32) else (if (xf_86 (xm_84 M (ro_sc v1)) false) then (if (0 : Int32) ≤ v2 then (xf_92 (xm_86 (xm_84 M (ro_sc v1)) false) v2) else (xf_91 (xm_86 (xm_84 M (ro_sc v1)) false))) else (-2 : Int32))) else (xf_65 M (ro_sc v1))) else (-1 : Int32)) else (-1 : Int32))
noncomputable def xm_83 (M : ro_Mm) (v1 : Int32) (v2 : Int32) : ro_Mm := (if ro_bs v1 then (if (-1 : Int32) ≤ v2 then (if (xf_22 M (ro_sc v1)) then (if (xf_85 (xm_84 M (ro_sc v1))) ≤ v2 then (xm_84 M (ro_sc v1)) else (xm_86 (xm_84 M (ro_sc v1)) false)) else M) else M) else M)
def xp_83 (M : ro_Mm) (v1 : Int32) (v2 : Int32) : Prop := ((ro_bs v1 → (((-1 : Int32) ≤ v2 → (((xf_22 M (ro_sc v1)) → (xp_84 M (ro_sc v1) ∧ (((xf_85 (xm_84 M (ro_sc v1))) ≤ v2 → True) ∧ (¬ ((xf_85 (xm_84 M (ro_sc v1))) ≤ v2) → (xp_86 (xm_84 M (ro_sc v1)) false ∧ True))))) ∧ (¬ ((xf_22 M (ro_sc v1))) → True))) ∧ (¬ ((-1 : Int32) ≤ v2) → True))) ∧ (¬ (ro_bs v1) → True))
theorem xs_83 {X : ro_Sx} {M : ro_Mm} {v1 : Int32} {v2 : Int32} (hL : ro_lay M) (hp : xp_83 M v1 v2) : ro_cwp X 802 83 [.ref 4, .int v1, .int v2] M (fun v M2 => v = some (.int (xf_83 M v1 v2)) ∧ M2 = xm_83 M v1 v2) := by
  refine rs_begin (lv0 := [(0, .ref 4), (1, .int v1), (2, .int v2)]) (by decide) rfl (by rw [rm_83.1]; exact Nat.le_of_ble_eq_true rfl) rfl ?_
  unfold xp_83 at hp
  refine rs_aload_n ri_83_0 rfl rfl ?_
  refine rs_iload_n ri_83_1 rfl rfl ?_
  by_cases h1 : ro_bs v1 = true
  · have hp := hp.1 h1
    refine rs_virt (As := [.int v1]) (r := []) ri_83_2 rfl (by decide) rm_20.2.2.2 rm_20.2.2.1 rfl rfl rfl (by decide) (ro_kf (kd_4 hL)) (Nat.le_of_ble_eq_true rfl) (by decide) (by decide) (xs_20_t hL h1) ?_
    rintro _ _ ⟨e1, e2⟩
    rw [e1, e2]
    show ro_w X _ 83 _ 5 [(0, .ref 4), (1, .int v1), (2, .int v2)] [.ref (ro_sc v1)] M (0, 0)
    refine rs_astore_n (lv2 := [(3, .ref (ro_sc v1)), (0, .ref 4), (1, .int v1), (2, .int v2)]) ri_83_5 rfl rm_83.1 (by decide) rfl ?_
    refine rs_aload_n ri_83_6 rfl rfl ?_
    refine rs_ifnull (t := 15) ri_83_7 rfl rfl ?_
    refine rs_iload_n ri_83_10 rfl rfl ?_
    refine rs_iconst (v := (-1 : Int32)) ri_83_11 rfl (by decide) ?_
    refine rs_icmp_ge (t := 17) ri_83_12 rfl rfl (fun h2 => ?_) (fun h2 => ?_)
    · have hp := hp.1 h2
      refine rs_aload_n ri_83_17 rfl rfl ?_
      refine rs_virt (As := []) (r := []) ri_83_18 rfl (by decide) rm_22.2.2.2 rm_22.2.2.1 rfl rfl rfl (ro_is4 (ro_sc_is v1)) (ro_kf (is_kd hL (ro_sc_is v1))) (Nat.le_of_ble_eq_true rfl) (by decide) (by decide) (xs_22 (X := X) hL (ro_sc_is v1)) ?_
      rintro _ _ ⟨e1, e2⟩
      rw [e1, e2]
      show ro_w X _ 83 _ 21 [(3, .ref (ro_sc v1)), (0, .ref 4), (1, .int v1), (2, .int v2)] [.int (ro_b (xf_22 M (ro_sc v1)))] M (0, 0)
      refine rs_ifne_c (t := 29) ri_83_21 rfl rfl (fun h3 => ?_) (fun h3 => ?_)
      · have hp := hp.1 h3
        refine rs_aload_n ri_83_29 rfl rfl ?_
        refine rs_gf (v := .ref 42) ri_83_30 rfl (by decide) (ro_kf (kd_4 hL)) rfl (rf_4_4 hL) ?_
        refine rs_aload_n ri_83_33 rfl rfl ?_
        obtain ⟨q3, hp⟩ := hp
        refine rs_virt (As := [.ref (ro_sc v1)]) (r := []) ri_83_34 rfl (by decide) rm_84.2.2.2 rm_84.2.2.1 rfl rfl rfl (by decide) (ro_kf (kd_42 hL)) (Nat.le_of_ble_eq_true rfl) (by decide) (by decide) (xs_84 (X := X) hL (ro_sc_is v1) q3) ?_
        rintro _ _ ⟨e1, e2⟩
        rw [e1, e2]
        show ro_w X _ 83 _ 37 [(3, .ref (ro_sc v1)), (0, .ref 4), (1, .int v1), (2, .int v2)] [] (xm_84 M (ro_sc v1)) (0, 0)
        refine rs_iload_n ri_83_37 rfl rfl ?_
        refine rs_aload_n ri_83_38 rfl rfl ?_
        refine rs_gf (v := .ref 42) ri_83_39 rfl (by decide) (ro_kf (kd_4 (xl_84 hL (ro_sc_is v1) q3))) rfl (rf_4_4 (xl_84 hL (ro_sc_is v1) q3)) ?_
        refine rs_virt (As := []) (r := [.int v2]) ri_83_42 rfl (by decide) rm_85.2.2.2 rm_85.2.2.1 rfl rfl rfl (by decide) (ro_kf (kd_42 (xl_84 hL (ro_sc_is v1) q3))) (Nat.le_of_ble_eq_true rfl) (by decide) (by decide) (xs_85 (X := X) (xl_84 hL (ro_sc_is v1) q3)) ?_
        rintro _ _ ⟨e1, e2⟩
        rw [e1, e2]
        show ro_w X _ 83 _ 45 [(3, .ref (ro_sc v1)), (0, .ref 4), (1, .int v1), (2, .int v2)] [.int (xf_85 (xm_84 M (ro_sc v1))), .int v2] (xm_84 M (ro_sc v1)) (0, 0)
        refine rs_icmp_ge (t := 59) ri_83_45 rfl rfl (fun h5 => ?_) (fun h5 => ?_)
        · have hp := hp.1 h5
          refine rs_bipush (v := (-2 : Int32)) ri_83_59 rfl (by decide) ?_
          refine rs_iret ri_83_61 rm_83.2.1 (by decide) ?_
          exact ⟨by unfold xf_83; first | (simp only [if_pos h1, if_pos h2, if_pos h3, if_pos h5]; done) | rfl, by unfold xm_83; first | (simp only [if_pos h1, if_pos h2, if_pos h3, if_pos h5]; done) | rfl⟩
        · have hp := hp.2 h5
          refine rs_aload_n ri_83_48 rfl rfl ?_
          refine rs_gf (v := .ref 42) ri_83_49 rfl (by decide) (ro_kf (kd_4 (xl_84 hL (ro_sc_is v1) q3))) rfl (rf_4_4 (xl_84 hL (ro_sc_is v1) q3)) ?_
          refine rs_iconst (v := (0 : Int32)) ri_83_52 rfl (by decide) ?_
          obtain ⟨q5, hp⟩ := hp
          refine rs_virt (As := [.int (ro_b false)]) (r := []) ri_83_53 rfl (by decide) rm_86.2.2.2 rm_86.2.2.1 rfl rfl rfl (by decide) (ro_kf (kd_42 (xl_84 hL (ro_sc_is v1) q3))) (Nat.le_of_ble_eq_true rfl) (by decide) (by decide) (xs_86 (X := X) (xl_84 hL (ro_sc_is v1) q3) q5) ?_
          rintro _ _ ⟨e1, e2⟩
          rw [e1, e2]
          show ro_w X _ 83 _ 56 [(3, .ref (ro_sc v1)), (0, .ref 4), (1, .int v1), (2, .int v2)] [.int (ro_b (xf_86 (xm_84 M (ro_sc v1)) false))] (xm_86 (xm_84 M (ro_sc v1)) false) (0, 0)
          refine rs_ifne_c (t := 62) ri_83_56 rfl rfl (fun h7 => ?_) (fun h7 => ?_)
          · skip
            refine rs_iload_n ri_83_62 rfl rfl ?_
            refine rs_if_ge (t := 76) ri_83_63 rfl rfl (fun h8 => ?_) (fun h8 => ?_)
            · skip
              refine rs_aload_n ri_83_76 rfl rfl ?_
              refine rs_gf (v := .ref 42) ri_83_77 rfl (by decide) (ro_kf (kd_4 (xl_86 (xl_84 hL (ro_sc_is v1) q3) q5))) rfl (rf_4_4 (xl_86 (xl_84 hL (ro_sc_is v1) q3) q5)) ?_
              refine rs_iload_n ri_83_80 rfl rfl ?_
              refine rs_virt (As := [.int v2]) (r := []) ri_83_81 rfl (by decide) rm_92.2.2.2 rm_92.2.2.1 rfl rfl rfl (by decide) (ro_kf (kd_42 (xl_86 (xl_84 hL (ro_sc_is v1) q3) q5))) (Nat.le_of_ble_eq_true rfl) (by decide) (by decide) (xs_92 (X := X) (xl_86 (xl_84 hL (ro_sc_is v1) q3) q5)) ?_
              rintro _ _ ⟨e1, e2⟩
              rw [e1, e2]
              show ro_w X _ 83 _ 84 [(3, .ref (ro_sc v1)), (0, .ref 4), (1, .int v1), (2, .int v2)] [.int (xf_92 (xm_86 (xm_84 M (ro_sc v1)) false) v2)] (xm_86 (xm_84 M (ro_sc v1)) false) (0, 0)
              refine rs_iret ri_83_84 rm_83.2.1 (by decide) ?_
              exact ⟨by unfold xf_83; first | (simp only [if_pos h1, if_pos h2, if_pos h3, if_neg h5, if_pos h7, if_pos h8]; done) | rfl, by unfold xm_83; first | (simp only [if_pos h1, if_pos h2, if_pos h3, if_neg h5, if_pos h7, if_pos h8]; done) | rfl⟩
            · skip
              refine rs_aload_n ri_83_66 rfl rfl ?_
              refine rs_gf (v := .ref 42) ri_83_67 rfl (by decide) (ro_kf (kd_4 (xl_86 (xl_84 hL (ro_sc_is v1) q3) q5))) rfl (rf_4_4 (xl_86 (xl_84 hL (ro_sc_is v1) q3) q5)) ?_
              refine rs_virt (As := []) (r := []) ri_83_70 rfl (by decide) rm_91.2.2.2 rm_91.2.2.1 rfl rfl rfl (by decide) (ro_kf (kd_42 (xl_86 (xl_84 hL (ro_sc_is v1) q3) q5))) (Nat.le_of_ble_eq_true rfl) (by decide) (by decide) (xs_91 (X := X) (xl_86 (xl_84 hL (ro_sc_is v1) q3) q5)) ?_
              rintro _ _ ⟨e1, e2⟩
              rw [e1, e2]
              show ro_w X _ 83 _ 73 [(3, .ref (ro_sc v1)), (0, .ref 4), (1, .int v1), (2, .int v2)] [.int (xf_91 (xm_86 (xm_84 M (ro_sc v1)) false))] (xm_86 (xm_84 M (ro_sc v1)) false) (0, 0)
              refine rs_goto (t := 84) ri_83_73 rfl ?_
              refine rs_iret ri_83_84 rm_83.2.1 (by decide) ?_
              exact ⟨by unfold xf_83; first | (simp only [if_pos h1, if_pos h2, if_pos h3, if_neg h5, if_pos h7, if_neg h8]; done) | rfl, by unfold xm_83; first | (simp only [if_pos h1, if_pos h2, if_pos h3, if_neg h5, if_pos h7, if_neg h8]; done) | rfl⟩
          · skip
            refine rs_bipush (v := (-2 : Int32)) ri_83_59 rfl (by decide) ?_
            refine rs_iret ri_83_61 rm_83.2.1 (by decide) ?_
            exact ⟨by unfold xf_83; first | (simp only [if_pos h1, if_pos h2, if_pos h3, if_neg h5, if_neg h7]; done) | rfl, by unfold xm_83; first | (simp only [if_pos h1, if_pos h2, if_pos h3, if_neg h5, if_neg h7]; done) | rfl⟩
      · have hp := hp.2 h3
        refine rs_aload_n ri_83_24 rfl rfl ?_
        refine rs_virt (As := []) (r := []) ri_83_25 rfl (by decide) rm_65.2.2.2 rm_65.2.2.1 rfl rfl rfl (ro_is4 (ro_sc_is v1)) (ro_kf (is_kd hL (ro_sc_is v1))) (Nat.le_of_ble_eq_true rfl) (by decide) (by decide) (xs_65 (X := X) hL (ro_sc_is v1)) ?_
        rintro _ _ ⟨e1, e2⟩
        rw [e1, e2]
        show ro_w X _ 83 _ 28 [(3, .ref (ro_sc v1)), (0, .ref 4), (1, .int v1), (2, .int v2)] [.int (xf_65 M (ro_sc v1))] M (0, 0)
        refine rs_iret ri_83_28 rm_83.2.1 (by decide) ?_
        exact ⟨by unfold xf_83; first | (simp only [if_pos h1, if_pos h2, if_neg h3]; done) | rfl, by unfold xm_83; first | (simp only [if_pos h1, if_pos h2, if_neg h3]; done) | rfl⟩
    · have hp := hp.2 h2
      refine rs_iconst (v := (-1 : Int32)) ri_83_15 rfl (by decide) ?_
      refine rs_iret ri_83_16 rm_83.2.1 (by decide) ?_
      exact ⟨by unfold xf_83; first | (simp only [if_pos h1, if_neg h2]; done) | rfl, by unfold xm_83; first | (simp only [if_pos h1, if_neg h2]; done) | rfl⟩
  · have hp := hp.2 h1
    refine rs_virt (As := [.int v1]) (r := []) ri_83_2 rfl (by decide) rm_20.2.2.2 rm_20.2.2.1 rfl rfl rfl (by decide) (ro_kf (kd_4 hL)) (Nat.le_of_ble_eq_true rfl) (by decide) (by decide) (xs_20_f hL h1) ?_
    rintro _ _ ⟨e1, e2⟩
    rw [e1, e2]
    show ro_w X _ 83 _ 5 [(0, .ref 4), (1, .int v1), (2, .int v2)] [.null] M (0, 0)
    refine rs_astoreN_n (lv2 := [(3, .null), (0, .ref 4), (1, .int v1), (2, .int v2)]) ri_83_5 rfl rm_83.1 (by decide) rfl ?_
    refine rs_aloadN_n ri_83_6 rfl rfl ?_
    refine rs_ifnullN (t := 15) ri_83_7 rfl ?_
    refine rs_iconst (v := (-1 : Int32)) ri_83_15 rfl (by decide) ?_
    refine rs_iret ri_83_16 rm_83.2.1 (by decide) ?_
    exact ⟨by unfold xf_83; first | (simp only [if_neg h1]; done) | rfl, by unfold xm_83; first | (simp only [if_neg h1]; done) | rfl⟩
theorem xl_83 {M : ro_Mm} {v1 : Int32} {v2 : Int32} (hL : ro_lay M) (hp : xp_83 M v1 v2) : ro_lay (xm_83 M v1 v2) := by
  unfold xp_83 at hp
  unfold xm_83
  by_cases hz : ro_bs v1
  · have hp := hp.1 hz
    rw [if_pos hz]
    by_cases hz : (-1 : Int32) ≤ v2
    · have hp := hp.1 hz
      rw [if_pos hz]
      by_cases hz : (xf_22 M (ro_sc v1))
      · have hp := hp.1 hz
        rw [if_pos hz]
        obtain ⟨q3, hp⟩ := hp
        by_cases hz : (xf_85 (xm_84 M (ro_sc v1))) ≤ v2
        · have hp := hp.1 hz
          rw [if_pos hz]
          exact (xl_84 hL (ro_sc_is v1) q3)
        · have hp := hp.2 hz
          rw [if_neg hz]
          obtain ⟨q5, hp⟩ := hp
          by_cases hz : (xf_86 (xm_84 M (ro_sc v1)) false)
          · skip
            by_cases hz : (0 : Int32) ≤ v2
            · skip
              exact (xl_86 (xl_84 hL (ro_sc_is v1) q3) q5)
            · skip
              exact (xl_86 (xl_84 hL (ro_sc_is v1) q3) q5)
          · skip
            exact (xl_86 (xl_84 hL (ro_sc_is v1) q3) q5)
      · have hp := hp.2 hz
        rw [if_neg hz]
        exact hL
    · have hp := hp.2 hz
      rw [if_neg hz]
      exact hL
  · have hp := hp.2 hz
    rw [if_neg hz]
    exact hL

