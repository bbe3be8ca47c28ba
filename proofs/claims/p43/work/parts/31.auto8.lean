/-! methods with loops, by program (wip/whole/walk2.py, mk28.py 73 85) -/
/-- a loop of RefusedOnceModel.drawn(III)I -/
noncomputable def xg_273_76 : Nat → ro_Mm → Int32 → Int32 → Int32 → Int32 → Int32 → Int32 → Int32 → Int32 → Int32 × Int32 × Int32 × ro_Mm
  | 0, M, v8, v7, v6, v5, v4, v1, v2, v3 => (v8, v6, v4, M)
  | n + 1, M, v8, v7, v6, v5, v4, v1, v2, v3 => (if (ro_irem v2 (100 : Int32)) ≤ v8 then (v8, v6, v4, M) else (if (ro_irem (ro_ushr ((v4 * (1103515245 : Int32)) + (12345 : Int32)) (8 : Int32)) (M.2.1 163 1)) = (ro_irem (ro_ushr ((v4 * (1103515245 : Int32)) + (12345 : Int32)) (12 : Int32)) (M.2.1 163 1)) then (xg_273_76 n M (v8 + (1 : Int32)) v7 v6 v5 ((v4 * (1103515245 : Int32)) + (12345 : Int32)) v1 v2 v3) else (if (xf_241 M (ro_irem (ro_ushr ((v4 * (1103515245 : Int32)) + (12345 : Int32)) (8 : Int32)) (M.2.1 163 1)) (ro_irem (ro_ushr ((v4 * (1103515245 : Int32)) + (12345 : Int32)) (12 : Int32)) (M.2.1 163 1))) then (if (xf_229 M (ro_irem (ro_ushr ((v4 * (1103515245 : Int32)) + (12345 : Int32)) (8 : Int32)) (M.2.1 163 1)) (ro_irem (ro_ushr ((v4 * (1103515245 : Int32)) + (12345 : Int32)) (12 : Int32)) (M.2.1 163 1))) ≤ (ro_irem (ro_ushr ((v4 * (1103515245 : Int32)) + (12345 : Int32)) (20 : Int32)) (12 : Int32)) then (xg_273_76 n (xm_245 (xm_229 M (ro_irem (ro_ushr ((v4 * (1103515245 : Int32)) + (12345 : Int32)) (8 : Int32)) (M.2.1 163 1)) (ro_irem (ro_ushr ((v4 * (1103515245 : Int32)) + (12345 : Int32)) (12 : Int32)) (M.2.1 163 1))) (ro_irem (ro_ushr ((v4 * (1103515245 : Int32)) + (12345 : Int32)) (8 : Int32)) (M.2.1 163 1)) (ro_irem (ro_ushr ((v4 * (1103515245 : Int32)) + (12345 : Int32)) (12 : Int32)) (M.2.1 163 1))) (v8 + (1 : Int32)) v7 v6 v5 ((v4 * (1103515245 : Int32)) + (12345 : Int32)) v1 v2 v3) else (xg_273_76 n (xm_244 (xm_229 M (ro_irem (ro_ushr ((v4 * (1103515245 : Int32)) + (12345 : Int32)) (8 : Int32)) (M.2.1 163 1)) (ro_irem (ro_ushr ((v4 * (1103515245 : Int32)) + (12345 : Int32)) (12 : Int32)) (M.2.1 163 1))) (ro_irem (ro_ushr ((v4 * (1103515245 : Int32)) + (12345 : Int32)) (8 : Int32)) (M.2.1 163 1))) (v8 + (1 : Int32)) v7 (v6 + (1 : Int32)) v5 ((v4 * (1103515245 : Int32)) + (12345 : Int32)) v1 v2 v3)) else (xg_273_76 n M (v8 + (1 : Int32)) v7 v6 v5 ((v4 * (1103515245 : Int32)) + (12345 : Int32)) v1 v2 v3))))
def xq_273_76 : Nat → ro_Mm → Int32 → Int32 → Int32 → Int32 → Int32 → Int32 → Int32 → Int32 → Prop
  | 0, _, _, _, _, _, _, _, _, _ => False
  | n + 1, M, v8, v7, v6, v5, v4, v1, v2, v3 => (((ro_irem v2 (100 : Int32)) ≤ v8 → True) ∧ (¬ ((ro_irem v2 (100 : Int32)) ≤ v8) → (¬ (M.2.1 163 1) = 0 ∧ (¬ (M.2.1 163 1) = 0 ∧ (((ro_irem (ro_ushr ((v4 * (1103515245 : Int32)) + (12345 : Int32)) (8 : Int32)) (M.2.1 163 1)) = (ro_irem (ro_ushr ((v4 * (1103515245 : Int32)) + (12345 : Int32)) (12 : Int32)) (M.2.1 163 1)) → (xq_273_76 n M (v8 + (1 : Int32)) v7 v6 v5 ((v4 * (1103515245 : Int32)) + (12345 : Int32)) v1 v2 v3)) ∧ (¬ ((ro_irem (ro_ushr ((v4 * (1103515245 : Int32)) + (12345 : Int32)) (8 : Int32)) (M.2.1 163 1)) = (ro_irem (ro_ushr ((v4 * (1103515245 : Int32)) + (12345 : Int32)) (12 : Int32)) (M.2.1 163 1))) → (xp_241 M (ro_irem (ro_ushr ((v4 * (1103515245 : Int32)) + (12345 : Int32)) (8 : Int32)) (M.2.1 163 1)) (ro_irem (ro_ushr ((v4 * (1103515245 : Int32)) + (12345 : Int32)) (12 : Int32)) (M.2.1 163 1)) ∧ (((xf_241 M (ro_irem (ro_ushr ((v4 * (1103515245 : Int32)) + (12345 : Int32)) (8 : Int32)) (M.2.1 163 1)) (ro_irem (ro_ushr ((v4 * (1103515245 : Int32)) + (12345 : Int32)) (12 : Int32)) (M.2.1 163 1))) → (xp_229 M (ro_irem (ro_ushr ((v4 * (1103515245 : Int32)) + (12345 : Int32)) (8 : Int32)) (M.2.1 163 1)) (ro_irem (ro_ushr ((v4 * (1103515245 : Int32)) + (12345 : Int32)) (12 : Int32)) (M.2.1 163 1)) ∧ (((xf_229 M (ro_irem (ro_ushr ((v4 * (1103515245 : Int32)) + (12345 : Int32)) (8 : Int32)) (M.2.1 163 1)) (ro_irem (ro_ushr ((v4 * (1103515245 : Int32)) + (12345 : Int32)) (12 : Int32)) (M.2.1 163 1))) ≤ (ro_irem (ro_ushr ((v4 * (1103515245 : Int32)) + (12345 : Int32)) (20 : Int32)) (12 : Int32)) → (xp_245 (xm_229 M (ro_irem (ro_ushr ((v4 * (1103515245 : Int32)) + (12345 : Int32)) (8 : Int32)) (M.2.1 163 1)) (ro_irem (ro_ushr ((v4 * (1103515245 : Int32)) + (12345 : Int32)) (12 : Int32)) (M.2.1 163 1))) (ro_irem (ro_ushr ((v4 * (1103515245 : Int32)) + (12345 : Int32)) (8 : Int32)) (M.2.1 163 1)) (ro_irem (ro_ushr ((v4 * (1103515245 : Int32)) + (12345 : Int32)) (12 : Int32)) (M.2.1 163 1)) ∧ (xq_273_76 n (xm_245 (xm_229 M (ro_irem (ro_ushr ((v4 * (1103515245 : Int32)) + (12345 : Int32)) (8 : Int32)) (M.2.1 163 1)) (ro_irem (ro_ushr ((v4 * (1103515245 : Int32)) + (12345 : Int32)) (12 : Int32)) (M.2.1 163 1))) (ro_irem (ro_ushr ((v4 * (1103515245 : Int32)) + (12345 : Int32)) (8 : Int32)) (M.2.1 163 1)) (ro_irem (ro_ushr ((v4 * (1103515245 : Int32)) + (12345 : Int32)) (12 : Int32)) (M.2.1 163 1))) (v8 + (1 : Int32)) v7 v6 v5 ((v4 * (1103515245 : Int32)) + (12345 : Int32)) v1 v2 v3))) ∧ (¬ ((xf_229 M (ro_irem (ro_ushr ((v4 * (1103515245 : Int32)) + (12345 : Int32)) (8 : Int32)) (M.2.1 163 1)) (ro_irem (ro_ushr ((v4 * (1103515245 : Int32)) + (12345 : Int32)) (12 : Int32)) (M.2.1 163 1))) ≤ (ro_irem (ro_ushr ((v4 * (1103515245 : Int32)) + (12345 : Int32)) (20 : Int32)) (12 : Int32))) → (xp_244 (xm_229 M (ro_irem (ro_ushr ((v4 * (1103515245 : Int32)) + (12345 : Int32)) (8 : Int32)) (M.2.1 163 1)) (ro_irem (ro_ushr ((v4 * (1103515245 : Int32)) + (12345 : Int32)) (12 : Int32)) (M.2.1 163 1))) (ro_irem (ro_ushr ((v4 * (1103515245 : Int32)) + (12345 : Int32)) (8 : Int32)) (M.2.1 163 1)) ∧ (xq_273_76 n (xm_244 (xm_229 M (ro_irem (ro_ushr ((v4 * (1103515245 : Int32)) + (12345 : Int32)) (8 : Int32)) (M.2.1 163 1)) (ro_irem (ro_ushr ((v4 * (1103515245 : Int32)) + (12345 : Int32)) (12 : Int32)) (M.2.1 163 1))) (ro_irem (ro_ushr ((v4 * (1103515245 : Int32)) + (12345 : Int32)) (8 : Int32)) (M.2.1 163 1))) (v8 + (1 : Int32)) v7 (v6 + (1 : Int32)) v5 ((v4 * (1103515245 : Int32)) + (12345 : Int32)) v1 v2 v3)))))) ∧ (¬ ((xf_241 M (ro_irem (ro_ushr ((v4 * (1103515245 : Int32)) + (12345 : Int32)) (8 : Int32)) (M.2.1 163 1)) (ro_irem (ro_ushr ((v4 * (1103515245 : Int32)) + (12345 : Int32)) (12 : Int32)) (M.2.1 163 1)))) → (xq_273_76 n M (v8 + (1 : Int32)) v7 v6 v5 ((v4 * (1103515245 : Int32)) + (12345 : Int32)) v1 v2 v3))))))))))
theorem xl_273_76 : ∀ (n : Nat) {M : ro_Mm} {v8 : Int32} {v7 : Int32} {v6 : Int32} {v5 : Int32} {v4 : Int32} {v1 : Int32} {v2 : Int32} {v3 : Int32} (hL : ro_lay M) (hp : xq_273_76 n M v8 v7 v6 v5 v4 v1 v2 v3), ro_lay (xg_273_76 n M v8 v7 v6 v5 v4 v1 v2 v3).2.2.2 := by
  intro n
  induction n with
  | zero => intro M v8 v7 v6 v5 v4 v1 v2 v3 hL hp; exact False.elim hp
  | succ n ih =>
    intro M v8 v7 v6 v5 v4 v1 v2 v3 hL hp
    rw [xq_273_76] at hp
    rw [xg_273_76]
    by_cases hz : (ro_irem v2 (100 : Int32)) ≤ v8
    · have hp := hp.1 hz
      rw [if_pos hz]
      exact hL
    · have hp := hp.2 hz
      rw [if_neg hz]
      obtain ⟨q8, hp⟩ := hp
      obtain ⟨q9, hp⟩ := hp
      by_cases hz : (ro_irem (ro_ushr ((v4 * (1103515245 : Int32)) + (12345 : Int32)) (8 : Int32)) (M.2.1 163 1)) = (ro_irem (ro_ushr ((v4 * (1103515245 : Int32)) + (12345 : Int32)) (12 : Int32)) (M.2.1 163 1))
      · have hp := hp.1 hz
        rw [if_pos hz]
        exact ih hL  hp
      · have hp := hp.2 hz
        rw [if_neg hz]
        obtain ⟨q11, hp⟩ := hp
        by_cases hz : (xf_241 M (ro_irem (ro_ushr ((v4 * (1103515245 : Int32)) + (12345 : Int32)) (8 : Int32)) (M.2.1 163 1)) (ro_irem (ro_ushr ((v4 * (1103515245 : Int32)) + (12345 : Int32)) (12 : Int32)) (M.2.1 163 1)))
        · have hp := hp.1 hz
          rw [if_pos hz]
          obtain ⟨q13, hp⟩ := hp
          by_cases hz : (xf_229 M (ro_irem (ro_ushr ((v4 * (1103515245 : Int32)) + (12345 : Int32)) (8 : Int32)) (M.2.1 163 1)) (ro_irem (ro_ushr ((v4 * (1103515245 : Int32)) + (12345 : Int32)) (12 : Int32)) (M.2.1 163 1))) ≤ (ro_irem (ro_ushr ((v4 * (1103515245 : Int32)) + (12345 : Int32)) (20 : Int32)) (12 : Int32))
          · have hp := hp.1 hz
            rw [if_pos hz]
            obtain ⟨q15, hp⟩ := hp
            exact ih (xl_245 (xl_229 hL q13) q15)  hp
          · have hp := hp.2 hz
            rw [if_neg hz]
            obtain ⟨q16, hp⟩ := hp
            exact ih (xl_244 (xl_229 hL q13) q16)  hp
        · have hp := hp.2 hz
          rw [if_neg hz]
          exact ih hL  hp
theorem xwI_273_76 : ∀ {n : Nat} {M : ro_Mm} {v8 : Int32} {v7 : Int32} {v6 : Int32} {v5 : Int32} {v4 : Int32} {v1 : Int32} {v2 : Int32} {v3 : Int32} {c j : Nat} (n0 : c ≠ 179) (n1 : c ≠ 180) (n2 : c ≠ 181) (n3 : c ≠ 182), (xg_273_76 n M v8 v7 v6 v5 v4 v1 v2 v3).2.2.2.2.1 c j = M.2.1 c j := by
  intro n
  induction n with
  | zero => intro M v8 v7 v6 v5 v4 v1 v2 v3 c j n0 n1 n2 n3; rfl
  | succ n ih =>
    intro M v8 v7 v6 v5 v4 v1 v2 v3 c j n0 n1 n2 n3
    rw [xg_273_76]
    by_cases hz : (ro_irem v2 (100 : Int32)) ≤ v8
    · rw [if_pos hz]
      first | done | exact rfl
    · rw [if_neg hz]
      by_cases hz : (ro_irem (ro_ushr ((v4 * (1103515245 : Int32)) + (12345 : Int32)) (8 : Int32)) (M.2.1 163 1)) = (ro_irem (ro_ushr ((v4 * (1103515245 : Int32)) + (12345 : Int32)) (12 : Int32)) (M.2.1 163 1))
      · rw [if_pos hz]
        first | done | exact (ih n0 n1 n2 n3)
      · rw [if_neg hz]
        by_cases hz : (xf_241 M (ro_irem (ro_ushr ((v4 * (1103515245 : Int32)) + (12345 : Int32)) (8 : Int32)) (M.2.1 163 1)) (ro_irem (ro_ushr ((v4 * (1103515245 : Int32)) + (12345 : Int32)) (12 : Int32)) (M.2.1 163 1)))
        · rw [if_pos hz]
          by_cases hz : (xf_229 M (ro_irem (ro_ushr ((v4 * (1103515245 : Int32)) + (12345 : Int32)) (8 : Int32)) (M.2.1 163 1)) (ro_irem (ro_ushr ((v4 * (1103515245 : Int32)) + (12345 : Int32)) (12 : Int32)) (M.2.1 163 1))) ≤ (ro_irem (ro_ushr ((v4 * (1103515245 : Int32)) + (12345 : Int32)) (20 : Int32)) (12 : Int32))
          · rw [if_pos hz]
            first | done | exact ((((ih n0 n1 n2 n3)).trans (xwI_245 n2)).trans (xwI_229 n0 n1))
          · rw [if_neg hz]
            first | done | exact ((((ih n0 n1 n2 n3)).trans (xwI_244 n2 n3)).trans (xwI_229 n0 n1))
        · rw [if_neg hz]
          first | done | exact (ih n0 n1 n2 n3)
theorem xwJ_273_76 : ∀ {n : Nat} {M : ro_Mm} {v8 : Int32} {v7 : Int32} {v6 : Int32} {v5 : Int32} {v4 : Int32} {v1 : Int32} {v2 : Int32} {v3 : Int32} {c j : Nat}, (xg_273_76 n M v8 v7 v6 v5 v4 v1 v2 v3).2.2.2.2.2.1 c j = M.2.2.1 c j := by
  intro n
  induction n with
  | zero => intro M v8 v7 v6 v5 v4 v1 v2 v3 c j; rfl
  | succ n ih =>
    intro M v8 v7 v6 v5 v4 v1 v2 v3 c j
    rw [xg_273_76]
    by_cases hz : (ro_irem v2 (100 : Int32)) ≤ v8
    · rw [if_pos hz]
      first | done | exact rfl
    · rw [if_neg hz]
      by_cases hz : (ro_irem (ro_ushr ((v4 * (1103515245 : Int32)) + (12345 : Int32)) (8 : Int32)) (M.2.1 163 1)) = (ro_irem (ro_ushr ((v4 * (1103515245 : Int32)) + (12345 : Int32)) (12 : Int32)) (M.2.1 163 1))
      · rw [if_pos hz]
        first | done | exact (ih)
      · rw [if_neg hz]
        by_cases hz : (xf_241 M (ro_irem (ro_ushr ((v4 * (1103515245 : Int32)) + (12345 : Int32)) (8 : Int32)) (M.2.1 163 1)) (ro_irem (ro_ushr ((v4 * (1103515245 : Int32)) + (12345 : Int32)) (12 : Int32)) (M.2.1 163 1)))
        · rw [if_pos hz]
          by_cases hz : (xf_229 M (ro_irem (ro_ushr ((v4 * (1103515245 : Int32)) + (12345 : Int32)) (8 : Int32)) (M.2.1 163 1)) (ro_irem (ro_ushr ((v4 * (1103515245 : Int32)) + (12345 : Int32)) (12 : Int32)) (M.2.1 163 1))) ≤ (ro_irem (ro_ushr ((v4 * (1103515245 : Int32)) + (12345 : Int32)) (20 : Int32)) (12 : Int32))
          · rw [if_pos hz]
            first | done | exact ((((ih)).trans (xwJ_245)).trans (xwJ_229))
          · rw [if_neg hz]
            first | done | exact ((((ih)).trans (xwJ_244)).trans (xwJ_229))
        · rw [if_neg hz]
          first | done | exact (ih)
/-- a loop of RefusedOnceModel.drawn(III)I -/
noncomputable def xg_273_190 : Nat → ro_Mm → Int32 → Int32 → Int32 → Int32 → Int32 → Int32 → Int32 → Int32 → Int32 × Int32
  | 0, M, v8, v7, v6, v5, v4, v1, v2, v3 => (v8, v5)
  | n + 1, M, v8, v7, v6, v5, v4, v1, v2, v3 => (if (M.2.1 163 1) ≤ v8 then (v8, v5) else (xg_273_190 n M (v8 + (1 : Int32)) v7 v6 (v5 + (M.2.1 181 (v8.toNatClampNeg))) v4 v1 v2 v3))
def xq_273_190 : Nat → ro_Mm → Int32 → Int32 → Int32 → Int32 → Int32 → Int32 → Int32 → Int32 → Prop
  | 0, _, _, _, _, _, _, _, _, _ => False
  | n + 1, M, v8, v7, v6, v5, v4, v1, v2, v3 => (((M.2.1 163 1) ≤ v8 → True) ∧ (¬ ((M.2.1 163 1) ≤ v8) → (vp_in v8 6 ∧ (xq_273_190 n M (v8 + (1 : Int32)) v7 v6 (v5 + (M.2.1 181 (v8.toNatClampNeg))) v4 v1 v2 v3))))
/-- a loop of RefusedOnceModel.drawn(III)I -/
noncomputable def xg_273_53 : Nat → ro_Mm → Int32 → Int32 → Int32 → Int32 → Int32 → Int32 → Int32 → Int32 × Int32 × Int32 × Int32 × ro_Mm
  | 0, M, v7, v6, v5, v4, v1, v2, v3 => (v7, v6, v5, v4, M)
  | n + 1, M, v7, v6, v5, v4, v1, v2, v3 => (if (v2 / (100 : Int32)) ≤ v7 then (v7, v6, v5, v4, M) else (if (M.2.1 163 1) ≤ (0 : Int32) then (v7, v6, v5, v4, M) else (xg_273_53 n (xg_273_76 lp_N (xm_228 M) (0 : Int32) v7 v6 v5 v4 v1 v2 v3).2.2.2 (v7 + (1 : Int32)) (xg_273_76 lp_N (xm_228 M) (0 : Int32) v7 v6 v5 v4 v1 v2 v3).2.1 (xg_273_190 lp_N (xg_273_76 lp_N (xm_228 M) (0 : Int32) v7 v6 v5 v4 v1 v2 v3).2.2.2 (0 : Int32) v7 (xg_273_76 lp_N (xm_228 M) (0 : Int32) v7 v6 v5 v4 v1 v2 v3).2.1 v5 (xg_273_76 lp_N (xm_228 M) (0 : Int32) v7 v6 v5 v4 v1 v2 v3).2.2.1 v1 v2 v3).2 (xg_273_76 lp_N (xm_228 M) (0 : Int32) v7 v6 v5 v4 v1 v2 v3).2.2.1 v1 v2 v3)))
def xq_273_53 : Nat → ro_Mm → Int32 → Int32 → Int32 → Int32 → Int32 → Int32 → Int32 → Prop
  | 0, _, _, _, _, _, _, _, _ => False
  | n + 1, M, v7, v6, v5, v4, v1, v2, v3 => (((v2 / (100 : Int32)) ≤ v7 → True) ∧ (¬ ((v2 / (100 : Int32)) ≤ v7) → (((M.2.1 163 1) ≤ (0 : Int32) → True) ∧ (¬ ((M.2.1 163 1) ≤ (0 : Int32)) → (xp_228 M ∧ (xq_273_76 lp_N (xm_228 M) (0 : Int32) v7 v6 v5 v4 v1 v2 v3 ∧ (xq_273_190 lp_N (xg_273_76 lp_N (xm_228 M) (0 : Int32) v7 v6 v5 v4 v1 v2 v3).2.2.2 (0 : Int32) v7 (xg_273_76 lp_N (xm_228 M) (0 : Int32) v7 v6 v5 v4 v1 v2 v3).2.1 v5 (xg_273_76 lp_N (xm_228 M) (0 : Int32) v7 v6 v5 v4 v1 v2 v3).2.2.1 v1 v2 v3 ∧ (xq_273_53 n (xg_273_76 lp_N (xm_228 M) (0 : Int32) v7 v6 v5 v4 v1 v2 v3).2.2.2 (v7 + (1 : Int32)) (xg_273_76 lp_N (xm_228 M) (0 : Int32) v7 v6 v5 v4 v1 v2 v3).2.1 (xg_273_190 lp_N (xg_273_76 lp_N (xm_228 M) (0 : Int32) v7 v6 v5 v4 v1 v2 v3).2.2.2 (0 : Int32) v7 (xg_273_76 lp_N (xm_228 M) (0 : Int32) v7 v6 v5 v4 v1 v2 v3).2.1 v5 (xg_273_76 lp_N (xm_228 M) (0 : Int32) v7 v6 v5 v4 v1 v2 v3).2.2.1 v1 v2 v3).2 (xg_273_76 lp_N (xm_228 M) (0 : Int32) v7 v6 v5 v4 v1 v2 v3).2.2.1 v1 v2 v3))))))))
theorem xl_273_53 : ∀ (n : Nat) {M : ro_Mm} {v7 : Int32} {v6 : Int32} {v5 : Int32} {v4 : Int32} {v1 : Int32} {v2 : Int32} {v3 : Int32} (hL : ro_lay M) (hp : xq_273_53 n M v7 v6 v5 v4 v1 v2 v3), ro_lay (xg_273_53 n M v7 v6 v5 v4 v1 v2 v3).2.2.2.2 := by
  intro n
  induction n with
  | zero => intro M v7 v6 v5 v4 v1 v2 v3 hL hp; exact False.elim hp
  | succ n ih =>
    intro M v7 v6 v5 v4 v1 v2 v3 hL hp
    rw [xq_273_53] at hp
    rw [xg_273_53]
    by_cases hz : (v2 / (100 : Int32)) ≤ v7
    · have hp := hp.1 hz
      rw [if_pos hz]
      exact hL
    · have hp := hp.2 hz
      rw [if_neg hz]
      by_cases hz : (M.2.1 163 1) ≤ (0 : Int32)
      · have hp := hp.1 hz
        rw [if_pos hz]
        exact hL
      · have hp := hp.2 hz
        rw [if_neg hz]
        obtain ⟨q6, hp⟩ := hp
        obtain ⟨q17, hp⟩ := hp
        obtain ⟨q20, hp⟩ := hp
        exact ih (xl_273_76 lp_N (xl_228 hL q6) q17)  hp
theorem xwI_273_53 : ∀ {n : Nat} {M : ro_Mm} {v7 : Int32} {v6 : Int32} {v5 : Int32} {v4 : Int32} {v1 : Int32} {v2 : Int32} {v3 : Int32} {c j : Nat} (n0 : c ≠ 181) (n1 : c ≠ 182) (n2 : c ≠ 179) (n3 : c ≠ 180), (xg_273_53 n M v7 v6 v5 v4 v1 v2 v3).2.2.2.2.2.1 c j = M.2.1 c j := by
  intro n
  induction n with
  | zero => intro M v7 v6 v5 v4 v1 v2 v3 c j n0 n1 n2 n3; rfl
  | succ n ih =>
    intro M v7 v6 v5 v4 v1 v2 v3 c j n0 n1 n2 n3
    rw [xg_273_53]
    by_cases hz : (v2 / (100 : Int32)) ≤ v7
    · rw [if_pos hz]
      first | done | exact rfl
    · rw [if_neg hz]
      by_cases hz : (M.2.1 163 1) ≤ (0 : Int32)
      · rw [if_pos hz]
        first | done | exact rfl
      · rw [if_neg hz]
        first | done | exact ((((ih n0 n1 n2 n3)).trans (xwI_273_76 n2 n3 n0 n1)).trans (xwI_228 n0 n1))
theorem xwJ_273_53 : ∀ {n : Nat} {M : ro_Mm} {v7 : Int32} {v6 : Int32} {v5 : Int32} {v4 : Int32} {v1 : Int32} {v2 : Int32} {v3 : Int32} {c j : Nat}, (xg_273_53 n M v7 v6 v5 v4 v1 v2 v3).2.2.2.2.2.2.1 c j = M.2.2.1 c j := by
  intro n
  induction n with
  | zero => intro M v7 v6 v5 v4 v1 v2 v3 c j; rfl
  | succ n ih =>
    intro M v7 v6 v5 v4 v1 v2 v3 c j
    rw [xg_273_53]
    by_cases hz : (v2 / (100 : Int32)) ≤ v7
    · rw [if_pos hz]
      first | done | exact rfl
    · rw [if_neg hz]
      by_cases hz : (M.2.1 163 1) ≤ (0 : Int32)
      · rw [if_pos hz]
        first | done | exact rfl
      · rw [if_neg hz]
        first | done | exact ((((ih)).trans (xwJ_273_76)).trans (xwJ_228))
/-- RefusedOnceModel.drawn(III)I -/
noncomputable def xf_273 (M : ro_Mm) (v1 : Int32) (v2 : Int32) (v3 : Int32) : Int32 := (if v2 < (0 : Int32) then (-1 : Int32) else (if (xf_195 M (v2 / (100 : Int32)) (1 : Int32) (30 : Int32)) then (if (xf_195 M (ro_irem v2 (100 : Int32)) (1 : Int32) (30 : Int32)) then (if (xf_195 M v3 (0 : Int32) (1 : Int32)) then (if v3 = (0 : Int32) then (xg_273_53 lp_N M (0 : Int32) (0 : Int32) (0 : Int32) v1 v1 v2 v3).2.2.1 else (xg_273_53 lp_N M (0 : Int32) (0 : Int32) (0 : Int32) v1 v1 v2 v3).2.1) else (-1 : Int32)) else (-1 : Int32)) else (-1 : Int32)))
noncomputable def xm_273 (M : ro_Mm) (v1 : Int32) (v2 : Int32) (v3 : Int32) : ro_Mm := (if v2 < (0 : Int32) then M else (if (xf_195 M (v2 / (100 : Int32)) (1 : Int32) (30 : Int32)) then (if (xf_195 M (ro_irem v2 (100 : Int32)) (1 : Int32) (30 : Int32)) then (if (xf_195 M v3 (0 : Int32) (1 : Int32)) then (xg_273_53 lp_N M (0 : Int32) (0 : Int32) (0 : Int32) v1 v1 v2 v3).2.2.2.2 else M) else M) else M))
def xp_273 (M : ro_Mm) (v1 : Int32) (v2 : Int32) (v3 : Int32) : Prop := ((v2 < (0 : Int32) → True) ∧ (¬ (v2 < (0 : Int32)) → (((xf_195 M (v2 / (100 : Int32)) (1 : Int32) (30 : Int32)) → (((xf_195 M (ro_irem v2 (100 : Int32)) (1 : Int32) (30 : Int32)) → (((xf_195 M v3 (0 : Int32) (1 : Int32)) → (xq_273_53 lp_N M (0 : Int32) (0 : Int32) (0 : Int32) v1 v1 v2 v3 ∧ True)) ∧ (¬ ((xf_195 M v3 (0 : Int32) (1 : Int32))) → True))) ∧ (¬ ((xf_195 M (ro_irem v2 (100 : Int32)) (1 : Int32) (30 : Int32))) → True))) ∧ (¬ ((xf_195 M (v2 / (100 : Int32)) (1 : Int32) (30 : Int32))) → True))))
theorem xl_273 {M : ro_Mm} {v1 : Int32} {v2 : Int32} {v3 : Int32} (hL : ro_lay M) (hp : xp_273 M v1 v2 v3) : ro_lay (xm_273 M v1 v2 v3) := by
  unfold xp_273 at hp
  unfold xm_273
  by_cases hz : v2 < (0 : Int32)
  · have hp := hp.1 hz
    rw [if_pos hz]
    exact hL
  · have hp := hp.2 hz
    rw [if_neg hz]
    by_cases hz : (xf_195 M (v2 / (100 : Int32)) (1 : Int32) (30 : Int32))
    · have hp := hp.1 hz
      rw [if_pos hz]
      by_cases hz : (xf_195 M (ro_irem v2 (100 : Int32)) (1 : Int32) (30 : Int32))
      · have hp := hp.1 hz
        rw [if_pos hz]
        by_cases hz : (xf_195 M v3 (0 : Int32) (1 : Int32))
        · have hp := hp.1 hz
          rw [if_pos hz]
          obtain ⟨q21, hp⟩ := hp
          by_cases hz : v3 = (0 : Int32)
          · skip
            exact (xl_273_53 lp_N hL q21)
          · skip
            exact (xl_273_53 lp_N hL q21)
        · have hp := hp.2 hz
          rw [if_neg hz]
          exact hL
      · have hp := hp.2 hz
        rw [if_neg hz]
        exact hL
    · have hp := hp.2 hz
      rw [if_neg hz]
      exact hL
theorem xwI_273 {M : ro_Mm} {v1 : Int32} {v2 : Int32} {v3 : Int32} {c j : Nat} (n0 : c ≠ 181) (n1 : c ≠ 182) (n2 : c ≠ 179) (n3 : c ≠ 180) : (xm_273 M v1 v2 v3).2.1 c j = M.2.1 c j := by
  unfold xm_273
  by_cases hz : v2 < (0 : Int32)
  · rw [if_pos hz]
    first | done | exact rfl
  · rw [if_neg hz]
    by_cases hz : (xf_195 M (v2 / (100 : Int32)) (1 : Int32) (30 : Int32))
    · rw [if_pos hz]
      by_cases hz : (xf_195 M (ro_irem v2 (100 : Int32)) (1 : Int32) (30 : Int32))
      · rw [if_pos hz]
        by_cases hz : (xf_195 M v3 (0 : Int32) (1 : Int32))
        · rw [if_pos hz]
          first | done | exact (xwI_273_53 n0 n1 n2 n3)
        · rw [if_neg hz]
          first | done | exact rfl
      · rw [if_neg hz]
        first | done | exact rfl
    · rw [if_neg hz]
      first | done | exact rfl
theorem xwJ_273 {M : ro_Mm} {v1 : Int32} {v2 : Int32} {v3 : Int32} {c j : Nat} : (xm_273 M v1 v2 v3).2.2.1 c j = M.2.2.1 c j := by
  unfold xm_273
  by_cases hz : v2 < (0 : Int32)
  · rw [if_pos hz]
    first | done | exact rfl
  · rw [if_neg hz]
    by_cases hz : (xf_195 M (v2 / (100 : Int32)) (1 : Int32) (30 : Int32))
    · rw [if_pos hz]
      by_cases hz : (xf_195 M (ro_irem v2 (100 : Int32)) (1 : Int32) (30 : Int32))
      · rw [if_pos hz]
        by_cases hz : (xf_195 M v3 (0 : Int32) (1 : Int32))
        · rw [if_pos hz]
          first | done | exact (xwJ_273_53)
        · rw [if_neg hz]
          first | done | exact rfl
      · rw [if_neg hz]
        first | done | exact rfl
    · rw [if_neg hz]
      first | done | exact rfl
/-- RefusedOnce.later(IIII)I -/
noncomputable def xf_64 (M : ro_Mm) (v1 : Int32) (v2 : Int32) (v3 : Int32) (v4 : Int32) : Int32 := (if ro_bs v1 then (if (xf_13 M v2 (0 : Int32) (20 : Int32)) then (if (xf_29 M v3) then (if (xf_13 M v4 (0 : Int32) (2 : Int32)) then (if (xf_22 M (ro_sc v1)) then (if v4 = (2 : Int32) then (xf_37 (xm_67 (xm_66 M (ro_sc v1)) v2) 36 v3) else (if v4 = (0 : Int32) then (xf_31 (xm_67 (xm_66 M (ro_sc v1)) v2) 36 v3) else (xf_32 (xm_67 (xm_66 M (ro_sc v1)) v2) 36 v3))) else (xf_65 M (ro_sc v1))) else (-1 : Int32)) else (-1 : Int32)) else (-1 : Int32)) else (-1 : Int32))
noncomputable def xm_64 (M : ro_Mm) (v1 : Int32) (v2 : Int32) (v3 : Int32) (v4 : Int32) : ro_Mm := (if ro_bs v1 then (if (xf_13 M v2 (0 : Int32) (20 : Int32)) then (if (xf_29 M v3) then (if (xf_13 M v4 (0 : Int32) (2 : Int32)) then (if (xf_22 M (ro_sc v1)) then (xm_67 (xm_66 M (ro_sc v1)) v2) else M) else M) else M) else M) else M)
def xp_64 (M : ro_Mm) (v1 : Int32) (v2 : Int32) (v3 : Int32) (v4 : Int32) : Prop := ((ro_bs v1 → (((xf_13 M v2 (0 : Int32) (20 : Int32)) → (((xf_29 M v3) → (((xf_13 M v4 (0 : Int32) (2 : Int32)) → (((xf_22 M (ro_sc v1)) → (xp_66 M (ro_sc v1) ∧ (xp_67 (xm_66 M (ro_sc v1)) v2 ∧ True))) ∧ (¬ ((xf_22 M (ro_sc v1))) → True))) ∧ (¬ ((xf_13 M v4 (0 : Int32) (2 : Int32))) → True))) ∧ (¬ ((xf_29 M v3)) → True))) ∧ (¬ ((xf_13 M v2 (0 : Int32) (20 : Int32))) → True))) ∧ (¬ (ro_bs v1) → True))
theorem xs_64 {X : ro_Sx} {M : ro_Mm} {v1 : Int32} {v2 : Int32} {v3 : Int32} {v4 : Int32} (hL : ro_lay M) (hp : xp_64 M v1 v2 v3 v4) : ro_cwp X 6 64 [.ref 4, .int v1, .int v2, .int v3, .int v4] M (fun v M2 => v = some (.int (xf_64 M v1 v2 v3 v4)) ∧ M2 = xm_64 M v1 v2 v3 v4) := by
  refine rs_begin (lv0 := [(0, .ref 4), (1, .int v1), (2, .int v2), (3, .int v3), (4, .int v4)]) (by decide) rfl (by rw [rm_64.1]; exact Nat.le_of_ble_eq_true rfl) rfl ?_
  unfold xp_64 at hp
  refine rs_aload_n ri_64_0 rfl rfl ?_
  refine rs_iload_n ri_64_1 rfl rfl ?_
  by_cases h1 : ro_bs v1 = true
  · have hp := hp.1 h1
    refine rs_virt (As := [.int v1]) (r := []) ri_64_2 rfl (by decide) rm_20.2.2.2 rm_20.2.2.1 rfl rfl rfl (by decide) (ro_kf (kd_4 hL)) (Nat.le_of_ble_eq_true rfl) (by decide) (by decide) (xs_20_t hL h1) ?_
    rintro _ _ ⟨e1, e2⟩
    rw [e1, e2]
    show ro_w X _ 64 _ 5 [(0, .ref 4), (1, .int v1), (2, .int v2), (3, .int v3), (4, .int v4)] [.ref (ro_sc v1)] M (0, 0)
    refine rs_astore (lv2 := [(5, .ref (ro_sc v1)), (0, .ref 4), (1, .int v1), (2, .int v2), (3, .int v3), (4, .int v4)]) ri_64_5 rfl rm_64.1 (by decide) rfl ?_
    refine rs_aload ri_64_7 rfl rfl ?_
    refine rs_ifnull (t := 43) ri_64_9 rfl rfl ?_
    refine rs_iload_n ri_64_12 rfl rfl ?_
    refine rs_iconst (v := (0 : Int32)) ri_64_13 rfl (by decide) ?_
    refine rs_bipush (v := (20 : Int32)) ri_64_14 rfl (by decide) ?_
    refine rs_stat (As := [.int v2, .int (0 : Int32), .int (20 : Int32)]) (r := []) ri_64_16 rfl rm_13.2.2.2 rfl rfl rfl (Nat.le_of_ble_eq_true rfl) (by decide) (by decide) (xs_13 (X := X) hL) ?_
    rintro _ _ ⟨e1, e2⟩
    rw [e1, e2]
    show ro_w X _ 64 _ 19 [(5, .ref (ro_sc v1)), (0, .ref 4), (1, .int v1), (2, .int v2), (3, .int v3), (4, .int v4)] [.int (ro_b (xf_13 M v2 (0 : Int32) (20 : Int32)))] M (0, 0)
    refine rs_ifeq_c (t := 43) ri_64_19 rfl rfl (fun h2 => ?_) (fun h2 => ?_)
    · have hp := hp.2 h2
      refine rs_iconst (v := (-1 : Int32)) ri_64_43 rfl (by decide) ?_
      refine rs_iret ri_64_44 rm_64.2.1 (by decide) ?_
      exact ⟨by unfold xf_64; first | (simp only [if_pos h1, if_neg h2]; done) | rfl, by unfold xm_64; first | (simp only [if_pos h1, if_neg h2]; done) | rfl⟩
    · have hp := hp.1 h2
      refine rs_aload_n ri_64_22 rfl rfl ?_
      refine rs_gf (v := .ref 5) ri_64_23 rfl (by decide) (ro_kf (kd_4 hL)) rfl (rf_4_0 hL) ?_
      refine rs_iload_n ri_64_26 rfl rfl ?_
      refine rs_virt (As := [.int v3]) (r := []) ri_64_27 rfl (by decide) rm_29.2.2.2 rm_29.2.2.1 rfl rfl rfl (by decide) (ro_kf (kd_5 hL)) (Nat.le_of_ble_eq_true rfl) (by decide) (by decide) (xs_29 (X := X) hL) ?_
      rintro _ _ ⟨e1, e2⟩
      rw [e1, e2]
      show ro_w X _ 64 _ 30 [(5, .ref (ro_sc v1)), (0, .ref 4), (1, .int v1), (2, .int v2), (3, .int v3), (4, .int v4)] [.int (ro_b (xf_29 M v3))] M (0, 0)
      refine rs_ifeq_c (t := 43) ri_64_30 rfl rfl (fun h3 => ?_) (fun h3 => ?_)
      · have hp := hp.2 h3
        refine rs_iconst (v := (-1 : Int32)) ri_64_43 rfl (by decide) ?_
        refine rs_iret ri_64_44 rm_64.2.1 (by decide) ?_
        exact ⟨by unfold xf_64; first | (simp only [if_pos h1, if_pos h2, if_neg h3]; done) | rfl, by unfold xm_64; first | (simp only [if_pos h1, if_pos h2, if_neg h3]; done) | rfl⟩
      · have hp := hp.1 h3
        refine rs_iload ri_64_33 rfl rfl ?_
        refine rs_iconst (v := (0 : Int32)) ri_64_35 rfl (by decide) ?_
        refine rs_iconst (v := (2 : Int32)) ri_64_36 rfl (by decide) ?_
        refine rs_stat (As := [.int v4, .int (0 : Int32), .int (2 : Int32)]) (r := []) ri_64_37 rfl rm_13.2.2.2 rfl rfl rfl (Nat.le_of_ble_eq_true rfl) (by decide) (by decide) (xs_13 (X := X) hL) ?_
        rintro _ _ ⟨e1, e2⟩
        rw [e1, e2]
        show ro_w X _ 64 _ 40 [(5, .ref (ro_sc v1)), (0, .ref 4), (1, .int v1), (2, .int v2), (3, .int v3), (4, .int v4)] [.int (ro_b (xf_13 M v4 (0 : Int32) (2 : Int32)))] M (0, 0)
        refine rs_ifne_c (t := 45) ri_64_40 rfl rfl (fun h4 => ?_) (fun h4 => ?_)
        · have hp := hp.1 h4
          refine rs_aload ri_64_45 rfl rfl ?_
          refine rs_virt (As := []) (r := []) ri_64_47 rfl (by decide) rm_22.2.2.2 rm_22.2.2.1 rfl rfl rfl (ro_is4 (ro_sc_is v1)) (ro_kf (is_kd hL (ro_sc_is v1))) (Nat.le_of_ble_eq_true rfl) (by decide) (by decide) (xs_22 (X := X) hL (ro_sc_is v1)) ?_
          rintro _ _ ⟨e1, e2⟩
          rw [e1, e2]
          show ro_w X _ 64 _ 50 [(5, .ref (ro_sc v1)), (0, .ref 4), (1, .int v1), (2, .int v2), (3, .int v3), (4, .int v4)] [.int (ro_b (xf_22 M (ro_sc v1)))] M (0, 0)
          refine rs_ifne_c (t := 59) ri_64_50 rfl rfl (fun h5 => ?_) (fun h5 => ?_)
          · have hp := hp.1 h5
            refine rs_aload_n ri_64_59 rfl rfl ?_
            refine rs_gf (v := .ref 35) ri_64_60 rfl (by decide) (ro_kf (kd_4 hL)) rfl (rf_4_3 hL) ?_
            refine rs_aload ri_64_63 rfl rfl ?_
            obtain ⟨q5, hp⟩ := hp
            refine rs_virt (As := [.ref (ro_sc v1)]) (r := []) ri_64_65 rfl (by decide) rm_66.2.2.2 rm_66.2.2.1 rfl rfl rfl (by decide) (ro_kf (kd_35 hL)) (Nat.le_of_ble_eq_true rfl) (by decide) (by decide) (xs_66 (X := X) hL (ro_sc_is v1) q5) ?_
            rintro _ _ ⟨e1, e2⟩
            rw [e1, e2]
            show ro_w X _ 64 _ 68 [(5, .ref (ro_sc v1)), (0, .ref 4), (1, .int v1), (2, .int v2), (3, .int v3), (4, .int v4)] [] (xm_66 M (ro_sc v1)) (0, 0)
            refine rs_aload_n ri_64_68 rfl rfl ?_
            refine rs_gf (v := .ref 35) ri_64_69 rfl (by decide) (ro_kf (kd_4 (xl_66 hL (ro_sc_is v1) q5))) rfl (rf_4_3 (xl_66 hL (ro_sc_is v1) q5)) ?_
            refine rs_iload_n ri_64_72 rfl rfl ?_
            obtain ⟨q6, hp⟩ := hp
            refine rs_virt (As := [.int v2]) (r := []) ri_64_73 rfl (by decide) rm_67.2.2.2 rm_67.2.2.1 rfl rfl rfl (by decide) (ro_kf (kd_35 (xl_66 hL (ro_sc_is v1) q5))) (Nat.le_of_ble_eq_true rfl) (by decide) (by decide) (xs_67 (X := X) (xl_66 hL (ro_sc_is v1) q5) q6) ?_
            rintro _ _ ⟨e1, e2⟩
            rw [e1, e2]
            show ro_w X _ 64 _ 76 [(5, .ref (ro_sc v1)), (0, .ref 4), (1, .int v1), (2, .int v2), (3, .int v3), (4, .int v4)] [] (xm_67 (xm_66 M (ro_sc v1)) v2) (0, 0)
            refine rs_iload ri_64_76 rfl rfl ?_
            refine rs_iconst (v := (2 : Int32)) ri_64_78 rfl (by decide) ?_
            refine rs_icmp_ne (t := 98) ri_64_79 rfl rfl (fun h8 => ?_) (fun h8 => ?_)
            · skip
              refine rs_iload ri_64_98 rfl rfl ?_
              refine rs_if_ne (t := 117) ri_64_100 rfl rfl (fun h9 => ?_) (fun h9 => ?_)
              · skip
                refine rs_aload_n ri_64_117 rfl rfl ?_
                refine rs_gf (v := .ref 35) ri_64_118 rfl (by decide) (ro_kf (kd_4 (xl_67 (xl_66 hL (ro_sc_is v1) q5) q6))) rfl (rf_4_3 (xl_67 (xl_66 hL (ro_sc_is v1) q5) q6)) ?_
                refine rs_gf (v := .ref 36) ri_64_121 rfl (by decide) (ro_kf (kd_35 (xl_67 (xl_66 hL (ro_sc_is v1) q5) q6))) rfl (rf_35_2 (xl_67 (xl_66 hL (ro_sc_is v1) q5) q6)) ?_
                refine rs_iload_n ri_64_124 rfl rfl ?_
                refine rs_virt (As := [.int v3]) (r := []) ri_64_125 rfl (by decide) rm_32.2.2.2 rm_32.2.2.1 rfl rfl rfl (by decide) (ro_kf (kd_36 (xl_67 (xl_66 hL (ro_sc_is v1) q5) q6))) (Nat.le_of_ble_eq_true rfl) (by decide) (by decide) (xs_32 (X := X) (xl_67 (xl_66 hL (ro_sc_is v1) q5) q6) (by unfold ro_ip; decide)) ?_
                rintro _ _ ⟨e1, e2⟩
                rw [e1, e2]
                show ro_w X _ 64 _ 128 [(5, .ref (ro_sc v1)), (0, .ref 4), (1, .int v1), (2, .int v2), (3, .int v3), (4, .int v4)] [.int (xf_32 (xm_67 (xm_66 M (ro_sc v1)) v2) 36 v3)] (xm_67 (xm_66 M (ro_sc v1)) v2) (0, 0)
                refine rs_iret ri_64_128 rm_64.2.1 (by decide) ?_
                exact ⟨by unfold xf_64; first | (simp only [if_pos h1, if_pos h2, if_pos h3, if_pos h4, if_pos h5, if_neg h8, if_neg h9]; done) | rfl, by unfold xm_64; first | (simp only [if_pos h1, if_pos h2, if_pos h3, if_pos h4, if_pos h5, if_neg h8, if_neg h9]; done) | rfl⟩
              · skip
                refine rs_aload_n ri_64_103 rfl rfl ?_
                refine rs_gf (v := .ref 35) ri_64_104 rfl (by decide) (ro_kf (kd_4 (xl_67 (xl_66 hL (ro_sc_is v1) q5) q6))) rfl (rf_4_3 (xl_67 (xl_66 hL (ro_sc_is v1) q5) q6)) ?_
                refine rs_gf (v := .ref 36) ri_64_107 rfl (by decide) (ro_kf (kd_35 (xl_67 (xl_66 hL (ro_sc_is v1) q5) q6))) rfl (rf_35_2 (xl_67 (xl_66 hL (ro_sc_is v1) q5) q6)) ?_
                refine rs_iload_n ri_64_110 rfl rfl ?_
                refine rs_virt (As := [.int v3]) (r := []) ri_64_111 rfl (by decide) rm_31.2.2.2 rm_31.2.2.1 rfl rfl rfl (by decide) (ro_kf (kd_36 (xl_67 (xl_66 hL (ro_sc_is v1) q5) q6))) (Nat.le_of_ble_eq_true rfl) (by decide) (by decide) (xs_31 (X := X) (xl_67 (xl_66 hL (ro_sc_is v1) q5) q6) (by unfold ro_ip; decide)) ?_
                rintro _ _ ⟨e1, e2⟩
                rw [e1, e2]
                show ro_w X _ 64 _ 114 [(5, .ref (ro_sc v1)), (0, .ref 4), (1, .int v1), (2, .int v2), (3, .int v3), (4, .int v4)] [.int (xf_31 (xm_67 (xm_66 M (ro_sc v1)) v2) 36 v3)] (xm_67 (xm_66 M (ro_sc v1)) v2) (0, 0)
                refine rs_goto (t := 128) ri_64_114 rfl ?_
                refine rs_iret ri_64_128 rm_64.2.1 (by decide) ?_
                exact ⟨by unfold xf_64; first | (simp only [if_pos h1, if_pos h2, if_pos h3, if_pos h4, if_pos h5, if_neg h8, if_pos h9]; done) | rfl, by unfold xm_64; first | (simp only [if_pos h1, if_pos h2, if_pos h3, if_pos h4, if_pos h5, if_neg h8, if_pos h9]; done) | rfl⟩
            · skip
              refine rs_aload_n ri_64_82 rfl rfl ?_
              refine rs_gf (v := .ref 5) ri_64_83 rfl (by decide) (ro_kf (kd_4 (xl_67 (xl_66 hL (ro_sc_is v1) q5) q6))) rfl (rf_4_0 (xl_67 (xl_66 hL (ro_sc_is v1) q5) q6)) ?_
              refine rs_aload_n ri_64_86 rfl rfl ?_
              refine rs_gf (v := .ref 35) ri_64_87 rfl (by decide) (ro_kf (kd_4 (xl_67 (xl_66 hL (ro_sc_is v1) q5) q6))) rfl (rf_4_3 (xl_67 (xl_66 hL (ro_sc_is v1) q5) q6)) ?_
              refine rs_gf (v := .ref 36) ri_64_90 rfl (by decide) (ro_kf (kd_35 (xl_67 (xl_66 hL (ro_sc_is v1) q5) q6))) rfl (rf_35_2 (xl_67 (xl_66 hL (ro_sc_is v1) q5) q6)) ?_
              refine rs_iload_n ri_64_93 rfl rfl ?_
              refine rs_virt (As := [.ref 36, .int v3]) (r := []) ri_64_94 rfl (by decide) rm_37.2.2.2 rm_37.2.2.1 rfl rfl rfl (by decide) (ro_kf (kd_5 (xl_67 (xl_66 hL (ro_sc_is v1) q5) q6))) (Nat.le_of_ble_eq_true rfl) (by decide) (by decide) (xs_37 (X := X) (xl_67 (xl_66 hL (ro_sc_is v1) q5) q6) (by unfold ro_ip; decide)) ?_
              rintro _ _ ⟨e1, e2⟩
              rw [e1, e2]
              show ro_w X _ 64 _ 97 [(5, .ref (ro_sc v1)), (0, .ref 4), (1, .int v1), (2, .int v2), (3, .int v3), (4, .int v4)] [.int (xf_37 (xm_67 (xm_66 M (ro_sc v1)) v2) 36 v3)] (xm_67 (xm_66 M (ro_sc v1)) v2) (0, 0)
              refine rs_iret ri_64_97 rm_64.2.1 (by decide) ?_
              exact ⟨by unfold xf_64; first | (simp only [if_pos h1, if_pos h2, if_pos h3, if_pos h4, if_pos h5, if_pos h8]; done) | rfl, by unfold xm_64; first | (simp only [if_pos h1, if_pos h2, if_pos h3, if_pos h4, if_pos h5, if_pos h8]; done) | rfl⟩
          · have hp := hp.2 h5
            refine rs_aload ri_64_53 rfl rfl ?_
            refine rs_virt (As := []) (r := []) ri_64_55 rfl (by decide) rm_65.2.2.2 rm_65.2.2.1 rfl rfl rfl (ro_is4 (ro_sc_is v1)) (ro_kf (is_kd hL (ro_sc_is v1))) (Nat.le_of_ble_eq_true rfl) (by decide) (by decide) (xs_65 (X := X) hL (ro_sc_is v1)) ?_
            rintro _ _ ⟨e1, e2⟩
            rw [e1, e2]
            show ro_w X _ 64 _ 58 [(5, .ref (ro_sc v1)), (0, .ref 4), (1, .int v1), (2, .int v2), (3, .int v3), (4, .int v4)] [.int (xf_65 M (ro_sc v1))] M (0, 0)
            refine rs_iret ri_64_58 rm_64.2.1 (by decide) ?_
            exact ⟨by unfold xf_64; first | (simp only [if_pos h1, if_pos h2, if_pos h3, if_pos h4, if_neg h5]; done) | rfl, by unfold xm_64; first | (simp only [if_pos h1, if_pos h2, if_pos h3, if_pos h4, if_neg h5]; done) | rfl⟩
        · have hp := hp.2 h4
          refine rs_iconst (v := (-1 : Int32)) ri_64_43 rfl (by decide) ?_
          refine rs_iret ri_64_44 rm_64.2.1 (by decide) ?_
          exact ⟨by unfold xf_64; first | (simp only [if_pos h1, if_pos h2, if_pos h3, if_neg h4]; done) | rfl, by unfold xm_64; first | (simp only [if_pos h1, if_pos h2, if_pos h3, if_neg h4]; done) | rfl⟩
  · have hp := hp.2 h1
    refine rs_virt (As := [.int v1]) (r := []) ri_64_2 rfl (by decide) rm_20.2.2.2 rm_20.2.2.1 rfl rfl rfl (by decide) (ro_kf (kd_4 hL)) (Nat.le_of_ble_eq_true rfl) (by decide) (by decide) (xs_20_f hL h1) ?_
    rintro _ _ ⟨e1, e2⟩
    rw [e1, e2]
    show ro_w X _ 64 _ 5 [(0, .ref 4), (1, .int v1), (2, .int v2), (3, .int v3), (4, .int v4)] [.null] M (0, 0)
    refine rs_astoreN (lv2 := [(5, .null), (0, .ref 4), (1, .int v1), (2, .int v2), (3, .int v3), (4, .int v4)]) ri_64_5 rfl rm_64.1 (by decide) rfl ?_
    refine rs_aloadN ri_64_7 rfl rfl ?_
    refine rs_ifnullN (t := 43) ri_64_9 rfl ?_
    refine rs_iconst (v := (-1 : Int32)) ri_64_43 rfl (by decide) ?_
    refine rs_iret ri_64_44 rm_64.2.1 (by decide) ?_
    exact ⟨by unfold xf_64; first | (simp only [if_neg h1]; done) | rfl, by unfold xm_64; first | (simp only [if_neg h1]; done) | rfl⟩
theorem xl_64 {M : ro_Mm} {v1 : Int32} {v2 : Int32} {v3 : Int32} {v4 : Int32} (hL : ro_lay M) (hp : xp_64 M v1 v2 v3 v4) : ro_lay (xm_64 M v1 v2 v3 v4) := by
  unfold xp_64 at hp
  unfold xm_64
  by_cases hz : ro_bs v1
  · have hp := hp.1 hz
    rw [if_pos hz]
    by_cases hz : (xf_13 M v2 (0 : Int32) (20 : Int32))
    · have hp := hp.1 hz
      rw [if_pos hz]
      by_cases hz : (xf_29 M v3)
      · have hp := hp.1 hz
        rw [if_pos hz]
        by_cases hz : (xf_13 M v4 (0 : Int32) (2 : Int32))
        · have hp := hp.1 hz
          rw [if_pos hz]
          by_cases hz : (xf_22 M (ro_sc v1))
          · have hp := hp.1 hz
            rw [if_pos hz]
            obtain ⟨q5, hp⟩ := hp
            obtain ⟨q6, hp⟩ := hp
            by_cases hz : v4 = (2 : Int32)
            · skip
              exact (xl_67 (xl_66 hL (ro_sc_is v1) q5) q6)
            · skip
              by_cases hz : v4 = (0 : Int32)
              · skip
                exact (xl_67 (xl_66 hL (ro_sc_is v1) q5) q6)
              · skip
                exact (xl_67 (xl_66 hL (ro_sc_is v1) q5) q6)
          · have hp := hp.2 hz
            rw [if_neg hz]
            exact hL
        · have hp := hp.2 hz
          rw [if_neg hz]
          exact hL
      · have hp := hp.2 hz
        rw [if_neg hz]
        exact hL
    · have hp := hp.2 hz
      rw [if_neg hz]
      exact hL
  · have hp := hp.2 hz
    rw [if_neg hz]
    exact hL
theorem xwI_64 {M : ro_Mm} {v1 : Int32} {v2 : Int32} {v3 : Int32} {v4 : Int32} {c j : Nat} (n0 : c ≠ 35) (n1 : c ≠ 39) (n2 : c ≠ 40) (n3 : c ≠ 41) (n4 : c ≠ 37) (n5 : c ≠ 38) (n6 : c ≠ 21) (n7 : c ≠ 16) (n8 : c ≠ 20) : (xm_64 M v1 v2 v3 v4).2.1 c j = M.2.1 c j := by
  unfold xm_64
  by_cases hz : ro_bs v1
  · rw [if_pos hz]
    by_cases hz : (xf_13 M v2 (0 : Int32) (20 : Int32))
    · rw [if_pos hz]
      by_cases hz : (xf_29 M v3)
      · rw [if_pos hz]
        by_cases hz : (xf_13 M v4 (0 : Int32) (2 : Int32))
        · rw [if_pos hz]
          by_cases hz : (xf_22 M (ro_sc v1))
          · rw [if_pos hz]
            first | done | exact (((xwI_67 n4 n5 n0 n6 n7 n8)).trans (xwI_66 n0 n1 n2 n3))
          · rw [if_neg hz]
            first | done | exact rfl
        · rw [if_neg hz]
          first | done | exact rfl
      · rw [if_neg hz]
        first | done | exact rfl
    · rw [if_neg hz]
      first | done | exact rfl
  · rw [if_neg hz]
    first | done | exact rfl
theorem xwJ_64 {M : ro_Mm} {v1 : Int32} {v2 : Int32} {v3 : Int32} {v4 : Int32} {c j : Nat} : (xm_64 M v1 v2 v3 v4).2.2.1 c j = M.2.2.1 c j := by
  unfold xm_64
  by_cases hz : ro_bs v1
  · rw [if_pos hz]
    by_cases hz : (xf_13 M v2 (0 : Int32) (20 : Int32))
    · rw [if_pos hz]
      by_cases hz : (xf_29 M v3)
      · rw [if_pos hz]
        by_cases hz : (xf_13 M v4 (0 : Int32) (2 : Int32))
        · rw [if_pos hz]
          by_cases hz : (xf_22 M (ro_sc v1))
          · rw [if_pos hz]
            first | done | exact (((xwJ_67)).trans (xwJ_66))
          · rw [if_neg hz]
            first | done | exact rfl
        · rw [if_neg hz]
          first | done | exact rfl
      · rw [if_neg hz]
        first | done | exact rfl
    · rw [if_neg hz]
      first | done | exact rfl
  · rw [if_neg hz]
    first | done | exact rfl
/-- RefusedOnce$Chances.justSoMany(IIII)V -/
noncomputable def xm_96 (M : ro_Mm) (v1 : Int32) (v2 : Int32) (v3 : Int32) (v4 : Int32) : ro_Mm := (if v4 < (0 : Int32) then (xm_100 (xm_97 M v1 v2 v3) (0 : Int64) (xf_99 (xm_97 M v1 v2 v3) v3)) else (if (9 : Int32) ≤ v4 then (xm_100 (xm_97 M v1 v2 v3) (0 : Int64) (xf_99 (xm_97 M v1 v2 v3) v3)) else (xm_100 (xm_97 M v1 v2 v3) ((xm_97 M v1 v2 v3).2.2.1 52 (v4.toNatClampNeg)) (xf_99 (xm_97 M v1 v2 v3) v3))))
def xp_96 (M : ro_Mm) (v1 : Int32) (v2 : Int32) (v3 : Int32) (v4 : Int32) : Prop := (xp_97 M v1 v2 v3 ∧ ((v4 < (0 : Int32) → (xp_99 (xm_97 M v1 v2 v3) v3 ∧ (xp_100 (xm_97 M v1 v2 v3) (0 : Int64) (xf_99 (xm_97 M v1 v2 v3) v3) ∧ True))) ∧ (¬ (v4 < (0 : Int32)) → (((9 : Int32) ≤ v4 → (xp_99 (xm_97 M v1 v2 v3) v3 ∧ (xp_100 (xm_97 M v1 v2 v3) (0 : Int64) (xf_99 (xm_97 M v1 v2 v3) v3) ∧ True))) ∧ (¬ ((9 : Int32) ≤ v4) → (xp_99 (xm_97 M v1 v2 v3) v3 ∧ (xp_100 (xm_97 M v1 v2 v3) ((xm_97 M v1 v2 v3).2.2.1 52 (v4.toNatClampNeg)) (xf_99 (xm_97 M v1 v2 v3) v3) ∧ True)))))))
theorem xs_96 {X : ro_Sx} {M : ro_Mm} {v1 : Int32} {v2 : Int32} {v3 : Int32} {v4 : Int32} (hL : ro_lay M) (hp : xp_96 M v1 v2 v3 v4) : ro_cwp X 6 96 [.ref 48, .int v1, .int v2, .int v3, .int v4] M (fun v M2 => v = none ∧ M2 = xm_96 M v1 v2 v3 v4) := by
  refine rs_begin (lv0 := [(0, .ref 48), (1, .int v1), (2, .int v2), (3, .int v3), (4, .int v4)]) (by decide) rfl (by rw [rm_96.1]; exact Nat.le_of_ble_eq_true rfl) rfl ?_
  unfold xp_96 at hp
  refine rs_aload_n ri_96_0 rfl rfl ?_
  refine rs_iload_n ri_96_1 rfl rfl ?_
  refine rs_iload_n ri_96_2 rfl rfl ?_
  refine rs_iload_n ri_96_3 rfl rfl ?_
  obtain ⟨q0, hp⟩ := hp
  refine rs_virt (As := [.int v1, .int v2, .int v3]) (r := []) ri_96_4 rfl (by decide) rm_97.2.2.2 rm_97.2.2.1 rfl rfl rfl (by decide) (ro_kf (kd_48 hL)) (Nat.le_of_ble_eq_true rfl) (by decide) (by decide) (xs_97 (X := X) hL q0) ?_
  rintro _ _ ⟨e1, e2⟩
  rw [e1, e2]
  show ro_w X _ 96 _ 7 [(0, .ref 48), (1, .int v1), (2, .int v2), (3, .int v3), (4, .int v4)] [] (xm_97 M v1 v2 v3) (0, 0)
  refine rs_aload_n ri_96_7 rfl rfl ?_
  refine rs_iload ri_96_8 rfl rfl ?_
  refine rs_if_lt (t := 33) ri_96_10 rfl rfl (fun h2 => ?_) (fun h2 => ?_)
  · have hp := hp.1 h2
    refine rs_lconst (v := (0 : Int64)) ri_96_33 rfl rfl ?_
    refine rs_iload_n ri_96_34 rfl rfl ?_
    obtain ⟨q2, hp⟩ := hp
    refine rs_stat (As := [.int v3]) (r := [.long (0 : Int64), .ref 48]) ri_96_35 rfl rm_99.2.2.2 rfl rfl rfl (Nat.le_of_ble_eq_true rfl) (by decide) (by decide) (xs_99 (X := X) (xl_97 hL q0) q2) ?_
    rintro _ _ ⟨e1, e2⟩
    rw [e1, e2]
    show ro_w X _ 96 _ 38 [(0, .ref 48), (1, .int v1), (2, .int v2), (3, .int v3), (4, .int v4)] [.long (xf_99 (xm_97 M v1 v2 v3) v3), .long (0 : Int64), .ref 48] (xm_97 M v1 v2 v3) (0, 0)
    obtain ⟨q3, hp⟩ := hp
    refine rs_virt (As := [.long (0 : Int64), .long (xf_99 (xm_97 M v1 v2 v3) v3)]) (r := []) ri_96_38 rfl (by decide) rm_100.2.2.2 rm_100.2.2.1 rfl rfl rfl (by decide) (ro_kf (kd_48 (xl_97 hL q0))) (Nat.le_of_ble_eq_true rfl) (by decide) (by decide) (xs_100 (X := X) (xl_97 hL q0) q3) ?_
    rintro _ _ ⟨e1, e2⟩
    rw [e1, e2]
    show ro_w X _ 96 _ 41 [(0, .ref 48), (1, .int v1), (2, .int v2), (3, .int v3), (4, .int v4)] [] (xm_100 (xm_97 M v1 v2 v3) (0 : Int64) (xf_99 (xm_97 M v1 v2 v3) v3)) (0, 0)
    refine rs_ret ri_96_41 rm_96.2.1 (by decide) ?_
    exact ⟨by rfl, by unfold xm_96; first | (simp only [if_pos h2]; done) | rfl⟩
  · have hp := hp.2 h2
    refine rs_iload ri_96_13 rfl rfl ?_
    refine rs_aload_n ri_96_15 rfl rfl ?_
    refine rs_gf (v := .ref 52) ri_96_16 rfl (by decide) (ro_kf (kd_48 (xl_97 hL q0))) rfl (rf_48_3 (xl_97 hL q0)) ?_
    refine rs_len (v := (9 : Int32)) ri_96_19 rfl (by decide) (kd_52 (xl_97 hL q0)) (by decide) rfl ?_
    refine rs_icmp_ge (t := 33) ri_96_20 rfl rfl (fun h5 => ?_) (fun h5 => ?_)
    · have hp := hp.1 h5
      refine rs_lconst (v := (0 : Int64)) ri_96_33 rfl rfl ?_
      refine rs_iload_n ri_96_34 rfl rfl ?_
      obtain ⟨q5, hp⟩ := hp
      refine rs_stat (As := [.int v3]) (r := [.long (0 : Int64), .ref 48]) ri_96_35 rfl rm_99.2.2.2 rfl rfl rfl (Nat.le_of_ble_eq_true rfl) (by decide) (by decide) (xs_99 (X := X) (xl_97 hL q0) q5) ?_
      rintro _ _ ⟨e1, e2⟩
      rw [e1, e2]
      show ro_w X _ 96 _ 38 [(0, .ref 48), (1, .int v1), (2, .int v2), (3, .int v3), (4, .int v4)] [.long (xf_99 (xm_97 M v1 v2 v3) v3), .long (0 : Int64), .ref 48] (xm_97 M v1 v2 v3) (0, 0)
      obtain ⟨q6, hp⟩ := hp
      refine rs_virt (As := [.long (0 : Int64), .long (xf_99 (xm_97 M v1 v2 v3) v3)]) (r := []) ri_96_38 rfl (by decide) rm_100.2.2.2 rm_100.2.2.1 rfl rfl rfl (by decide) (ro_kf (kd_48 (xl_97 hL q0))) (Nat.le_of_ble_eq_true rfl) (by decide) (by decide) (xs_100 (X := X) (xl_97 hL q0) q6) ?_
      rintro _ _ ⟨e1, e2⟩
      rw [e1, e2]
      show ro_w X _ 96 _ 41 [(0, .ref 48), (1, .int v1), (2, .int v2), (3, .int v3), (4, .int v4)] [] (xm_100 (xm_97 M v1 v2 v3) (0 : Int64) (xf_99 (xm_97 M v1 v2 v3) v3)) (0, 0)
      refine rs_ret ri_96_41 rm_96.2.1 (by decide) ?_
      exact ⟨by rfl, by unfold xm_96; first | (simp only [if_neg h2, if_pos h5]; done) | rfl⟩
    · have hp := hp.2 h5
      refine rs_aload_n ri_96_23 rfl rfl ?_
      refine rs_gf (v := .ref 52) ri_96_24 rfl (by decide) (ro_kf (kd_48 (xl_97 hL q0))) rfl (rf_48_3 (xl_97 hL q0)) ?_
      refine rs_iload ri_96_27 rfl rfl ?_
      refine rs_lald (v := ((xm_97 M v1 v2 v3).2.2.1 52 (v4.toNatClampNeg))) ri_96_29 rfl (by decide) (kd_52 (xl_97 hL q0)) (vp_in_iff.mpr ⟨(ro_lo1 h2), (ro_hi2 h5 (by decide))⟩) rfl ?_
      refine rs_goto (t := 34) ri_96_30 rfl ?_
      refine rs_iload_n ri_96_34 rfl rfl ?_
      obtain ⟨q7, hp⟩ := hp
      refine rs_stat (As := [.int v3]) (r := [.long ((xm_97 M v1 v2 v3).2.2.1 52 (v4.toNatClampNeg)), .ref 48]) ri_96_35 rfl rm_99.2.2.2 rfl rfl rfl (Nat.le_of_ble_eq_true rfl) (by decide) (by decide) (xs_99 (X := X) (xl_97 hL q0) q7) ?_
      rintro _ _ ⟨e1, e2⟩
      rw [e1, e2]
      show ro_w X _ 96 _ 38 [(0, .ref 48), (1, .int v1), (2, .int v2), (3, .int v3), (4, .int v4)] [.long (xf_99 (xm_97 M v1 v2 v3) v3), .long ((xm_97 M v1 v2 v3).2.2.1 52 (v4.toNatClampNeg)), .ref 48] (xm_97 M v1 v2 v3) (0, 0)
      obtain ⟨q8, hp⟩ := hp
      refine rs_virt (As := [.long ((xm_97 M v1 v2 v3).2.2.1 52 (v4.toNatClampNeg)), .long (xf_99 (xm_97 M v1 v2 v3) v3)]) (r := []) ri_96_38 rfl (by decide) rm_100.2.2.2 rm_100.2.2.1 rfl rfl rfl (by decide) (ro_kf (kd_48 (xl_97 hL q0))) (Nat.le_of_ble_eq_true rfl) (by decide) (by decide) (xs_100 (X := X) (xl_97 hL q0) q8) ?_
      rintro _ _ ⟨e1, e2⟩
      rw [e1, e2]
      show ro_w X _ 96 _ 41 [(0, .ref 48), (1, .int v1), (2, .int v2), (3, .int v3), (4, .int v4)] [] (xm_100 (xm_97 M v1 v2 v3) ((xm_97 M v1 v2 v3).2.2.1 52 (v4.toNatClampNeg)) (xf_99 (xm_97 M v1 v2 v3) v3)) (0, 0)
      refine rs_ret ri_96_41 rm_96.2.1 (by decide) ?_
      exact ⟨by rfl, by unfold xm_96; first | (simp only [if_neg h2, if_neg h5]; done) | rfl⟩
theorem xl_96 {M : ro_Mm} {v1 : Int32} {v2 : Int32} {v3 : Int32} {v4 : Int32} (hL : ro_lay M) (hp : xp_96 M v1 v2 v3 v4) : ro_lay (xm_96 M v1 v2 v3 v4) := by
  unfold xp_96 at hp
  unfold xm_96
  obtain ⟨q0, hp⟩ := hp
  by_cases hz : v4 < (0 : Int32)
  · have hp := hp.1 hz
    rw [if_pos hz]
    obtain ⟨q2, hp⟩ := hp
    obtain ⟨q3, hp⟩ := hp
    exact (xl_100 (xl_97 hL q0) q3)
  · have hp := hp.2 hz
    rw [if_neg hz]
    by_cases hz : (9 : Int32) ≤ v4
    · have hp := hp.1 hz
      rw [if_pos hz]
      obtain ⟨q5, hp⟩ := hp
      obtain ⟨q6, hp⟩ := hp
      exact (xl_100 (xl_97 hL q0) q6)
    · have hp := hp.2 hz
      rw [if_neg hz]
      obtain ⟨q7, hp⟩ := hp
      obtain ⟨q8, hp⟩ := hp
      exact (xl_100 (xl_97 hL q0) q8)
theorem xwI_96 {M : ro_Mm} {v1 : Int32} {v2 : Int32} {v3 : Int32} {v4 : Int32} {c j : Nat} (n0 : c ≠ 50) (n1 : c ≠ 51) (n2 : c ≠ 21) (n3 : c ≠ 16) (n4 : c ≠ 20) : (xm_96 M v1 v2 v3 v4).2.1 c j = M.2.1 c j := by
  unfold xm_96
  by_cases hz : v4 < (0 : Int32)
  · rw [if_pos hz]
    first | done | exact (((xwI_100)).trans (xwI_97 n0 n1 n2 n3 n4))
  · rw [if_neg hz]
    by_cases hz : (9 : Int32) ≤ v4
    · rw [if_pos hz]
      first | done | exact (((xwI_100)).trans (xwI_97 n0 n1 n2 n3 n4))
    · rw [if_neg hz]
      first | done | exact (((xwI_100)).trans (xwI_97 n0 n1 n2 n3 n4))
theorem xwJ_96 {M : ro_Mm} {v1 : Int32} {v2 : Int32} {v3 : Int32} {v4 : Int32} {c j : Nat} (n0 : c ≠ 52) (n1 : c ≠ 53) (n2 : c ≠ 48) : (xm_96 M v1 v2 v3 v4).2.2.1 c j = M.2.2.1 c j := by
  unfold xm_96
  by_cases hz : v4 < (0 : Int32)
  · rw [if_pos hz]
    first | done | exact (((xwJ_100 n2)).trans (xwJ_97 n0 n1))
  · rw [if_neg hz]
    by_cases hz : (9 : Int32) ≤ v4
    · rw [if_pos hz]
      first | done | exact (((xwJ_100 n2)).trans (xwJ_97 n0 n1))
    · rw [if_neg hz]
      first | done | exact (((xwJ_100 n2)).trans (xwJ_97 n0 n1))
/-- RefusedOnce.mean(III)J -/
noncomputable def xf_103 (M : ro_Mm) (v1 : Int32) (v2 : Int32) (v3 : Int32) : Int64 := (if (xf_56 M v1) then (if (xf_13 M v2 (0 : Int32) (8 : Int32)) then (if (xf_95 M v3) then (xf_102 (xm_104 M (v1 / (10 : Int32)) (ro_irem v1 (10 : Int32)) v2) v3) else (-9223372036854775808 : Int64)) else (-9223372036854775808 : Int64)) else (-9223372036854775808 : Int64))
noncomputable def xm_103 (M : ro_Mm) (v1 : Int32) (v2 : Int32) (v3 : Int32) : ro_Mm := (if (xf_56 M v1) then (if (xf_13 M v2 (0 : Int32) (8 : Int32)) then (if (xf_95 M v3) then (xm_104 M (v1 / (10 : Int32)) (ro_irem v1 (10 : Int32)) v2) else M) else M) else M)
def xp_103 (M : ro_Mm) (v1 : Int32) (v2 : Int32) (v3 : Int32) : Prop := (((xf_56 M v1) → (((xf_13 M v2 (0 : Int32) (8 : Int32)) → (((xf_95 M v3) → (xp_104 M (v1 / (10 : Int32)) (ro_irem v1 (10 : Int32)) v2 ∧ True)) ∧ (¬ ((xf_95 M v3)) → True))) ∧ (¬ ((xf_13 M v2 (0 : Int32) (8 : Int32))) → True))) ∧ (¬ ((xf_56 M v1)) → True))
theorem xs_103 {X : ro_Sx} {M : ro_Mm} {v1 : Int32} {v2 : Int32} {v3 : Int32} (hL : ro_lay M) (hp : xp_103 M v1 v2 v3) : ro_cwp X 7 103 [.ref 4, .int v1, .int v2, .int v3] M (fun v M2 => v = some (.long (xf_103 M v1 v2 v3)) ∧ M2 = xm_103 M v1 v2 v3) := by
  refine rs_begin (lv0 := [(0, .ref 4), (1, .int v1), (2, .int v2), (3, .int v3)]) (by decide) rfl (by rw [rm_103.1]; exact Nat.le_of_ble_eq_true rfl) rfl ?_
  unfold xp_103 at hp
  refine rs_aload_n ri_103_0 rfl rfl ?_
  refine rs_iload_n ri_103_1 rfl rfl ?_
  refine rs_virt (As := [.int v1]) (r := []) ri_103_2 rfl (by decide) rm_56.2.2.2 rm_56.2.2.1 rfl rfl rfl (by decide) (ro_kf (kd_4 hL)) (Nat.le_of_ble_eq_true rfl) (by decide) (by decide) (xs_56 (X := X) hL) ?_
  rintro _ _ ⟨e1, e2⟩
  rw [e1, e2]
  show ro_w X _ 103 _ 5 [(0, .ref 4), (1, .int v1), (2, .int v2), (3, .int v3)] [.int (ro_b (xf_56 M v1))] M (0, 0)
  refine rs_ifeq_c (t := 25) ri_103_5 rfl rfl (fun h1 => ?_) (fun h1 => ?_)
  · have hp := hp.2 h1
    refine rs_ldc2 (v := (-9223372036854775808 : Int64)) ri_103_25 rfl rfl rfl ?_
    refine rs_lret ri_103_28 rm_103.2.1 (by decide) ?_
    exact ⟨by unfold xf_103; first | (simp only [if_neg h1]; done) | rfl, by unfold xm_103; first | (simp only [if_neg h1]; done) | rfl⟩
  · have hp := hp.1 h1
    refine rs_iload_n ri_103_8 rfl rfl ?_
    refine rs_iconst (v := (0 : Int32)) ri_103_9 rfl (by decide) ?_
    refine rs_bipush (v := (8 : Int32)) ri_103_10 rfl (by decide) ?_
    refine rs_stat (As := [.int v2, .int (0 : Int32), .int (8 : Int32)]) (r := []) ri_103_12 rfl rm_13.2.2.2 rfl rfl rfl (Nat.le_of_ble_eq_true rfl) (by decide) (by decide) (xs_13 (X := X) hL) ?_
    rintro _ _ ⟨e1, e2⟩
    rw [e1, e2]
    show ro_w X _ 103 _ 15 [(0, .ref 4), (1, .int v1), (2, .int v2), (3, .int v3)] [.int (ro_b (xf_13 M v2 (0 : Int32) (8 : Int32)))] M (0, 0)
    refine rs_ifeq_c (t := 25) ri_103_15 rfl rfl (fun h2 => ?_) (fun h2 => ?_)
    · have hp := hp.2 h2
      refine rs_ldc2 (v := (-9223372036854775808 : Int64)) ri_103_25 rfl rfl rfl ?_
      refine rs_lret ri_103_28 rm_103.2.1 (by decide) ?_
      exact ⟨by unfold xf_103; first | (simp only [if_pos h1, if_neg h2]; done) | rfl, by unfold xm_103; first | (simp only [if_pos h1, if_neg h2]; done) | rfl⟩
    · have hp := hp.1 h2
      refine rs_iload_n ri_103_18 rfl rfl ?_
      refine rs_stat (As := [.int v3]) (r := []) ri_103_19 rfl rm_95.2.2.2 rfl rfl rfl (Nat.le_of_ble_eq_true rfl) (by decide) (by decide) (xs_95 (X := X) hL) ?_
      rintro _ _ ⟨e1, e2⟩
      rw [e1, e2]
      show ro_w X _ 103 _ 22 [(0, .ref 4), (1, .int v1), (2, .int v2), (3, .int v3)] [.int (ro_b (xf_95 M v3))] M (0, 0)
      refine rs_ifne_c (t := 29) ri_103_22 rfl rfl (fun h3 => ?_) (fun h3 => ?_)
      · have hp := hp.1 h3
        refine rs_aload_n ri_103_29 rfl rfl ?_
        refine rs_gf (v := .ref 48) ri_103_30 rfl (by decide) (ro_kf (kd_4 hL)) rfl (rf_4_5 hL) ?_
        refine rs_iload_n ri_103_33 rfl rfl ?_
        refine rs_bipush (v := (10 : Int32)) ri_103_34 rfl (by decide) ?_
        refine rs_idiv (r := (v1 / (10 : Int32))) ri_103_36 rfl (by decide) rfl ?_
        refine rs_iload_n ri_103_37 rfl rfl ?_
        refine rs_bipush (v := (10 : Int32)) ri_103_38 rfl (by decide) ?_
        refine rs_irem (r := (ro_irem v1 (10 : Int32))) ri_103_40 rfl (by decide) rfl ?_
        refine rs_iload_n ri_103_41 rfl rfl ?_
        obtain ⟨q3, hp⟩ := hp
        refine rs_virt (As := [.int (v1 / (10 : Int32)), .int (ro_irem v1 (10 : Int32)), .int v2]) (r := []) ri_103_42 rfl (by decide) rm_104.2.2.2 rm_104.2.2.1 rfl rfl rfl (by decide) (ro_kf (kd_48 hL)) (Nat.le_of_ble_eq_true rfl) (by decide) (by decide) (xs_104 (X := X) hL q3) ?_
        rintro _ _ ⟨e1, e2⟩
        rw [e1, e2]
        show ro_w X _ 103 _ 45 [(0, .ref 4), (1, .int v1), (2, .int v2), (3, .int v3)] [] (xm_104 M (v1 / (10 : Int32)) (ro_irem v1 (10 : Int32)) v2) (0, 0)
        refine rs_aload_n ri_103_45 rfl rfl ?_
        refine rs_gf (v := .ref 48) ri_103_46 rfl (by decide) (ro_kf (kd_4 (xl_104 hL q3))) rfl (rf_4_5 (xl_104 hL q3)) ?_
        refine rs_iload_n ri_103_49 rfl rfl ?_
        refine rs_virt (As := [.int v3]) (r := []) ri_103_50 rfl (by decide) rm_102.2.2.2 rm_102.2.2.1 rfl rfl rfl (by decide) (ro_kf (kd_48 (xl_104 hL q3))) (Nat.le_of_ble_eq_true rfl) (by decide) (by decide) (xs_102 (X := X) (xl_104 hL q3)) ?_
        rintro _ _ ⟨e1, e2⟩
        rw [e1, e2]
        show ro_w X _ 103 _ 53 [(0, .ref 4), (1, .int v1), (2, .int v2), (3, .int v3)] [.long (xf_102 (xm_104 M (v1 / (10 : Int32)) (ro_irem v1 (10 : Int32)) v2) v3)] (xm_104 M (v1 / (10 : Int32)) (ro_irem v1 (10 : Int32)) v2) (0, 0)
        refine rs_lret ri_103_53 rm_103.2.1 (by decide) ?_
        exact ⟨by unfold xf_103; first | (simp only [if_pos h1, if_pos h2, if_pos h3]; done) | rfl, by unfold xm_103; first | (simp only [if_pos h1, if_pos h2, if_pos h3]; done) | rfl⟩
      · have hp := hp.2 h3
        refine rs_ldc2 (v := (-9223372036854775808 : Int64)) ri_103_25 rfl rfl rfl ?_
        refine rs_lret ri_103_28 rm_103.2.1 (by decide) ?_
        exact ⟨by unfold xf_103; first | (simp only [if_pos h1, if_pos h2, if_neg h3]; done) | rfl, by unfold xm_103; first | (simp only [if_pos h1, if_pos h2, if_neg h3]; done) | rfl⟩
theorem xl_103 {M : ro_Mm} {v1 : Int32} {v2 : Int32} {v3 : Int32} (hL : ro_lay M) (hp : xp_103 M v1 v2 v3) : ro_lay (xm_103 M v1 v2 v3) := by
  unfold xp_103 at hp
  unfold xm_103
  by_cases hz : (xf_56 M v1)
  · have hp := hp.1 hz
    rw [if_pos hz]
    by_cases hz : (xf_13 M v2 (0 : Int32) (8 : Int32))
    · have hp := hp.1 hz
      rw [if_pos hz]
      by_cases hz : (xf_95 M v3)
      · have hp := hp.1 hz
        rw [if_pos hz]
        obtain ⟨q3, hp⟩ := hp
        exact (xl_104 hL q3)
      · have hp := hp.2 hz
        rw [if_neg hz]
        exact hL
    · have hp := hp.2 hz
      rw [if_neg hz]
      exact hL
  · have hp := hp.2 hz
    rw [if_neg hz]
    exact hL
theorem xwI_103 {M : ro_Mm} {v1 : Int32} {v2 : Int32} {v3 : Int32} {c j : Nat} (n0 : c ≠ 50) (n1 : c ≠ 51) (n2 : c ≠ 21) (n3 : c ≠ 16) (n4 : c ≠ 20) : (xm_103 M v1 v2 v3).2.1 c j = M.2.1 c j := by
  unfold xm_103
  by_cases hz : (xf_56 M v1)
  · rw [if_pos hz]
    by_cases hz : (xf_13 M v2 (0 : Int32) (8 : Int32))
    · rw [if_pos hz]
      by_cases hz : (xf_95 M v3)
      · rw [if_pos hz]
        first | done | exact (xwI_104 n0 n1 n2 n3 n4)
      · rw [if_neg hz]
        first | done | exact rfl
    · rw [if_neg hz]
      first | done | exact rfl
  · rw [if_neg hz]
    first | done | exact rfl
theorem xwJ_103 {M : ro_Mm} {v1 : Int32} {v2 : Int32} {v3 : Int32} {c j : Nat} (n0 : c ≠ 52) (n1 : c ≠ 53) (n2 : c ≠ 48) : (xm_103 M v1 v2 v3).2.2.1 c j = M.2.2.1 c j := by
  unfold xm_103
  by_cases hz : (xf_56 M v1)
  · rw [if_pos hz]
    by_cases hz : (xf_13 M v2 (0 : Int32) (8 : Int32))
    · rw [if_pos hz]
      by_cases hz : (xf_95 M v3)
      · rw [if_pos hz]
        first | done | exact (xwJ_104 n0 n1 n2)
      · rw [if_neg hz]
        first | done | exact rfl
    · rw [if_neg hz]
      first | done | exact rfl
  · rw [if_neg hz]
    first | done | exact rfl
/-- RefusedOnce.stays(II)J -/
noncomputable def xf_105 (M : ro_Mm) (v1 : Int32) (v2 : Int32) : Int64 := (if (xf_13 M v1 (0 : Int32) (2 : Int32)) then (if (xf_95 M v2) then (xf_102 (xm_106 M v1) v2) else (-9223372036854775808 : Int64)) else (-9223372036854775808 : Int64))
noncomputable def xm_105 (M : ro_Mm) (v1 : Int32) (v2 : Int32) : ro_Mm := (if (xf_13 M v1 (0 : Int32) (2 : Int32)) then (if (xf_95 M v2) then (xm_106 M v1) else M) else M)
def xp_105 (M : ro_Mm) (v1 : Int32) (v2 : Int32) : Prop := (((xf_13 M v1 (0 : Int32) (2 : Int32)) → (((xf_95 M v2) → (xp_106 M v1 ∧ True)) ∧ (¬ ((xf_95 M v2)) → True))) ∧ (¬ ((xf_13 M v1 (0 : Int32) (2 : Int32))) → True))
theorem xs_105 {X : ro_Sx} {M : ro_Mm} {v1 : Int32} {v2 : Int32} (hL : ro_lay M) (hp : xp_105 M v1 v2) : ro_cwp X 7 105 [.ref 4, .int v1, .int v2] M (fun v M2 => v = some (.long (xf_105 M v1 v2)) ∧ M2 = xm_105 M v1 v2) := by
  refine rs_begin (lv0 := [(0, .ref 4), (1, .int v1), (2, .int v2)]) (by decide) rfl (by rw [rm_105.1]; exact Nat.le_of_ble_eq_true rfl) rfl ?_
  unfold xp_105 at hp
  refine rs_iload_n ri_105_0 rfl rfl ?_
  refine rs_iconst (v := (0 : Int32)) ri_105_1 rfl (by decide) ?_
  refine rs_iconst (v := (2 : Int32)) ri_105_2 rfl (by decide) ?_
  refine rs_stat (As := [.int v1, .int (0 : Int32), .int (2 : Int32)]) (r := []) ri_105_3 rfl rm_13.2.2.2 rfl rfl rfl (Nat.le_of_ble_eq_true rfl) (by decide) (by decide) (xs_13 (X := X) hL) ?_
  rintro _ _ ⟨e1, e2⟩
  rw [e1, e2]
  show ro_w X _ 105 _ 6 [(0, .ref 4), (1, .int v1), (2, .int v2)] [.int (ro_b (xf_13 M v1 (0 : Int32) (2 : Int32)))] M (0, 0)
  refine rs_ifeq_c (t := 16) ri_105_6 rfl rfl (fun h1 => ?_) (fun h1 => ?_)
  · have hp := hp.2 h1
    refine rs_ldc2 (v := (-9223372036854775808 : Int64)) ri_105_16 rfl rfl rfl ?_
    refine rs_lret ri_105_19 rm_105.2.1 (by decide) ?_
    exact ⟨by unfold xf_105; first | (simp only [if_neg h1]; done) | rfl, by unfold xm_105; first | (simp only [if_neg h1]; done) | rfl⟩
  · have hp := hp.1 h1
    refine rs_iload_n ri_105_9 rfl rfl ?_
    refine rs_stat (As := [.int v2]) (r := []) ri_105_10 rfl rm_95.2.2.2 rfl rfl rfl (Nat.le_of_ble_eq_true rfl) (by decide) (by decide) (xs_95 (X := X) hL) ?_
    rintro _ _ ⟨e1, e2⟩
    rw [e1, e2]
    show ro_w X _ 105 _ 13 [(0, .ref 4), (1, .int v1), (2, .int v2)] [.int (ro_b (xf_95 M v2))] M (0, 0)
    refine rs_ifne_c (t := 20) ri_105_13 rfl rfl (fun h2 => ?_) (fun h2 => ?_)
    · have hp := hp.1 h2
      refine rs_aload_n ri_105_20 rfl rfl ?_
      refine rs_gf (v := .ref 48) ri_105_21 rfl (by decide) (ro_kf (kd_4 hL)) rfl (rf_4_5 hL) ?_
      refine rs_iload_n ri_105_24 rfl rfl ?_
      obtain ⟨q2, hp⟩ := hp
      refine rs_virt (As := [.int v1]) (r := []) ri_105_25 rfl (by decide) rm_106.2.2.2 rm_106.2.2.1 rfl rfl rfl (by decide) (ro_kf (kd_48 hL)) (Nat.le_of_ble_eq_true rfl) (by decide) (by decide) (xs_106 (X := X) hL q2) ?_
      rintro _ _ ⟨e1, e2⟩
      rw [e1, e2]
      show ro_w X _ 105 _ 28 [(0, .ref 4), (1, .int v1), (2, .int v2)] [] (xm_106 M v1) (0, 0)
      refine rs_aload_n ri_105_28 rfl rfl ?_
      refine rs_gf (v := .ref 48) ri_105_29 rfl (by decide) (ro_kf (kd_4 (xl_106 hL q2))) rfl (rf_4_5 (xl_106 hL q2)) ?_
      refine rs_iload_n ri_105_32 rfl rfl ?_
      refine rs_virt (As := [.int v2]) (r := []) ri_105_33 rfl (by decide) rm_102.2.2.2 rm_102.2.2.1 rfl rfl rfl (by decide) (ro_kf (kd_48 (xl_106 hL q2))) (Nat.le_of_ble_eq_true rfl) (by decide) (by decide) (xs_102 (X := X) (xl_106 hL q2)) ?_
      rintro _ _ ⟨e1, e2⟩
      rw [e1, e2]
      show ro_w X _ 105 _ 36 [(0, .ref 4), (1, .int v1), (2, .int v2)] [.long (xf_102 (xm_106 M v1) v2)] (xm_106 M v1) (0, 0)
      refine rs_lret ri_105_36 rm_105.2.1 (by decide) ?_
      exact ⟨by unfold xf_105; first | (simp only [if_pos h1, if_pos h2]; done) | rfl, by unfold xm_105; first | (simp only [if_pos h1, if_pos h2]; done) | rfl⟩
    · have hp := hp.2 h2
      refine rs_ldc2 (v := (-9223372036854775808 : Int64)) ri_105_16 rfl rfl rfl ?_
      refine rs_lret ri_105_19 rm_105.2.1 (by decide) ?_
      exact ⟨by unfold xf_105; first | (simp only [if_pos h1, if_neg h2]; done) | rfl, by unfold xm_105; first | (simp only [if_pos h1, if_neg h2]; done) | rfl⟩
theorem xl_105 {M : ro_Mm} {v1 : Int32} {v2 : Int32} (hL : ro_lay M) (hp : xp_105 M v1 v2) : ro_lay (xm_105 M v1 v2) := by
  unfold xp_105 at hp
  unfold xm_105
  by_cases hz : (xf_13 M v1 (0 : Int32) (2 : Int32))
  · have hp := hp.1 hz
    rw [if_pos hz]
    by_cases hz : (xf_95 M v2)
    · have hp := hp.1 hz
      rw [if_pos hz]
      obtain ⟨q2, hp⟩ := hp
      exact (xl_106 hL q2)
    · have hp := hp.2 hz
      rw [if_neg hz]
      exact hL
  · have hp := hp.2 hz
    rw [if_neg hz]
    exact hL
theorem xwI_105 {M : ro_Mm} {v1 : Int32} {v2 : Int32} {c j : Nat} (n0 : c ≠ 50) (n1 : c ≠ 51) (n2 : c ≠ 48) (n3 : c ≠ 21) (n4 : c ≠ 16) (n5 : c ≠ 20) : (xm_105 M v1 v2).2.1 c j = M.2.1 c j := by
  unfold xm_105
  by_cases hz : (xf_13 M v1 (0 : Int32) (2 : Int32))
  · rw [if_pos hz]
    by_cases hz : (xf_95 M v2)
    · rw [if_pos hz]
      first | done | exact (xwI_106 n0 n1 n2 n3 n4 n5)
    · rw [if_neg hz]
      first | done | exact rfl
  · rw [if_neg hz]
    first | done | exact rfl
theorem xwJ_105 {M : ro_Mm} {v1 : Int32} {v2 : Int32} {c j : Nat} (n0 : c ≠ 48) : (xm_105 M v1 v2).2.2.1 c j = M.2.2.1 c j := by
  unfold xm_105
  by_cases hz : (xf_13 M v1 (0 : Int32) (2 : Int32))
  · rw [if_pos hz]
    by_cases hz : (xf_95 M v2)
    · rw [if_pos hz]
      first | done | exact (xwJ_106 n0)
    · rw [if_neg hz]
      first | done | exact rfl
  · rw [if_neg hz]
    first | done | exact rfl
/-- RefusedOnce.drawn(III)I -/
noncomputable def xf_140 (M : ro_Mm) (v1 : Int32) (v2 : Int32) (v3 : Int32) : Int32 := (if v2 < (0 : Int32) then (-1 : Int32) else (if (xf_13 M (v2 / (100 : Int32)) (1 : Int32) (30 : Int32)) then (if (xf_13 M (ro_irem v2 (100 : Int32)) (1 : Int32) (30 : Int32)) then (if (xf_13 M v3 (0 : Int32) (1 : Int32)) then (if v3 = (0 : Int32) then (xf_143 (xm_141 M v1 (v2 / (100 : Int32)) (ro_irem v2 (100 : Int32)))) else (xf_80 (xm_141 M v1 (v2 / (100 : Int32)) (ro_irem v2 (100 : Int32))))) else (-1 : Int32)) else (-1 : Int32)) else (-1 : Int32)))
noncomputable def xm_140 (M : ro_Mm) (v1 : Int32) (v2 : Int32) (v3 : Int32) : ro_Mm := (if v2 < (0 : Int32) then M else (if (xf_13 M (v2 / (100 : Int32)) (1 : Int32) (30 : Int32)) then (if (xf_13 M (ro_irem v2 (100 : Int32)) (1 : Int32) (30 : Int32)) then (if (xf_13 M v3 (0 : Int32) (1 : Int32)) then (xm_141 M v1 (v2 / (100 : Int32)) (ro_irem v2 (100 : Int32))) else M) else M) else M))
def xp_140 (M : ro_Mm) (v1 : Int32) (v2 : Int32) (v3 : Int32) : Prop := ((v2 < (0 : Int32) → True) ∧ (¬ (v2 < (0 : Int32)) → (((xf_13 M (v2 / (100 : Int32)) (1 : Int32) (30 : Int32)) → (((xf_13 M (ro_irem v2 (100 : Int32)) (1 : Int32) (30 : Int32)) → (((xf_13 M v3 (0 : Int32) (1 : Int32)) → (xp_141 M v1 (v2 / (100 : Int32)) (ro_irem v2 (100 : Int32)) ∧ True)) ∧ (¬ ((xf_13 M v3 (0 : Int32) (1 : Int32))) → True))) ∧ (¬ ((xf_13 M (ro_irem v2 (100 : Int32)) (1 : Int32) (30 : Int32))) → True))) ∧ (¬ ((xf_13 M (v2 / (100 : Int32)) (1 : Int32) (30 : Int32))) → True))))
theorem xl_140 {M : ro_Mm} {v1 : Int32} {v2 : Int32} {v3 : Int32} (hL : ro_lay M) (hp : xp_140 M v1 v2 v3) : ro_lay (xm_140 M v1 v2 v3) := by
  unfold xp_140 at hp
  unfold xm_140
  by_cases hz : v2 < (0 : Int32)
  · have hp := hp.1 hz
    rw [if_pos hz]
    exact hL
  · have hp := hp.2 hz
    rw [if_neg hz]
    by_cases hz : (xf_13 M (v2 / (100 : Int32)) (1 : Int32) (30 : Int32))
    · have hp := hp.1 hz
      rw [if_pos hz]
      by_cases hz : (xf_13 M (ro_irem v2 (100 : Int32)) (1 : Int32) (30 : Int32))
      · have hp := hp.1 hz
        rw [if_pos hz]
        by_cases hz : (xf_13 M v3 (0 : Int32) (1 : Int32))
        · have hp := hp.1 hz
          rw [if_pos hz]
          obtain ⟨q8, hp⟩ := hp
          by_cases hz : v3 = (0 : Int32)
          · skip
            exact (xl_141 hL q8)
          · skip
            exact (xl_141 hL q8)
        · have hp := hp.2 hz
          rw [if_neg hz]
          exact hL
      · have hp := hp.2 hz
        rw [if_neg hz]
        exact hL
    · have hp := hp.2 hz
      rw [if_neg hz]
      exact hL
theorem xwI_140 {M : ro_Mm} {v1 : Int32} {v2 : Int32} {v3 : Int32} {c j : Nat} (n0 : c ≠ 35) (n1 : c ≠ 37) (n2 : c ≠ 38) (n3 : c ≠ 21) (n4 : c ≠ 16) (n5 : c ≠ 20) : (xm_140 M v1 v2 v3).2.1 c j = M.2.1 c j := by
  unfold xm_140
  by_cases hz : v2 < (0 : Int32)
  · rw [if_pos hz]
    first | done | exact rfl
  · rw [if_neg hz]
    by_cases hz : (xf_13 M (v2 / (100 : Int32)) (1 : Int32) (30 : Int32))
    · rw [if_pos hz]
      by_cases hz : (xf_13 M (ro_irem v2 (100 : Int32)) (1 : Int32) (30 : Int32))
      · rw [if_pos hz]
        by_cases hz : (xf_13 M v3 (0 : Int32) (1 : Int32))
        · rw [if_pos hz]
          first | done | exact (xwI_141 n0 n1 n2 n3 n4 n5)
        · rw [if_neg hz]
          first | done | exact rfl
      · rw [if_neg hz]
        first | done | exact rfl
    · rw [if_neg hz]
      first | done | exact rfl
theorem xwJ_140 {M : ro_Mm} {v1 : Int32} {v2 : Int32} {v3 : Int32} {c j : Nat} : (xm_140 M v1 v2 v3).2.2.1 c j = M.2.2.1 c j := by
  unfold xm_140
  by_cases hz : v2 < (0 : Int32)
  · rw [if_pos hz]
    first | done | exact rfl
  · rw [if_neg hz]
    by_cases hz : (xf_13 M (v2 / (100 : Int32)) (1 : Int32) (30 : Int32))
    · rw [if_pos hz]
      by_cases hz : (xf_13 M (ro_irem v2 (100 : Int32)) (1 : Int32) (30 : Int32))
      · rw [if_pos hz]
        by_cases hz : (xf_13 M v3 (0 : Int32) (1 : Int32))
        · rw [if_pos hz]
          first | done | exact (xwJ_141)
        · rw [if_neg hz]
          first | done | exact rfl
      · rw [if_neg hz]
        first | done | exact rfl
    · rw [if_neg hz]
      first | done | exact rfl
/-- RefusedOnceModel.odds(I)I -/
noncomputable def xf_226 (M : ro_Mm) (v1 : Int32) : Int32 := (if (xf_227 M v1) then (xf_229 (xm_228 M) (v1 / (10 : Int32)) (ro_irem v1 (10 : Int32))) else (-1 : Int32))
noncomputable def xm_226 (M : ro_Mm) (v1 : Int32) : ro_Mm := (if (xf_227 M v1) then (xm_229 (xm_228 M) (v1 / (10 : Int32)) (ro_irem v1 (10 : Int32))) else M)
def xp_226 (M : ro_Mm) (v1 : Int32) : Prop := (((xf_227 M v1) → (xp_228 M ∧ (xp_229 (xm_228 M) (v1 / (10 : Int32)) (ro_irem v1 (10 : Int32)) ∧ True))) ∧ (¬ ((xf_227 M v1)) → True))
theorem xl_226 {M : ro_Mm} {v1 : Int32} (hL : ro_lay M) (hp : xp_226 M v1) : ro_lay (xm_226 M v1) := by
  unfold xp_226 at hp
  unfold xm_226
  by_cases hz : (xf_227 M v1)
  · have hp := hp.1 hz
    rw [if_pos hz]
    obtain ⟨q1, hp⟩ := hp
    obtain ⟨q2, hp⟩ := hp
    exact (xl_229 (xl_228 hL q1) q2)
  · have hp := hp.2 hz
    rw [if_neg hz]
    exact hL
theorem xwI_226 {M : ro_Mm} {v1 : Int32} {c j : Nat} (n0 : c ≠ 181) (n1 : c ≠ 182) (n2 : c ≠ 179) (n3 : c ≠ 180) : (xm_226 M v1).2.1 c j = M.2.1 c j := by
  unfold xm_226
  by_cases hz : (xf_227 M v1)
  · rw [if_pos hz]
    first | done | exact (((xwI_229 n2 n3)).trans (xwI_228 n0 n1))
  · rw [if_neg hz]
    first | done | exact rfl
theorem xwJ_226 {M : ro_Mm} {v1 : Int32} {c j : Nat} : (xm_226 M v1).2.2.1 c j = M.2.2.1 c j := by
  unfold xm_226
  by_cases hz : (xf_227 M v1)
  · rw [if_pos hz]
    first | done | exact (((xwJ_229)).trans (xwJ_228))
  · rw [if_neg hz]
    first | done | exact rfl
/-- a loop of RefusedOnceModel.goEvening(II)V -/
noncomputable def xg_236_30 : Nat → ro_Mm → Int32 → Int32 → Int32 → Int32 → Int32 × ro_Mm
  | 0, M, v4, v3, v1, v2 => (v4, M)
  | n + 1, M, v4, v3, v1, v2 => (if v3 ≤ v4 then (v4, M) else (if (ro_irem (xf_238 M v1 v4) (2 : Int32)) = (1 : Int32) then (if (xf_240 M ((xf_238 M v1 v4) / (20 : Int32)) ((ro_irem (xf_238 M v1 v4) (20 : Int32)) / (2 : Int32))) then (xg_236_30 n (xm_242 M ((xf_238 M v1 v4) / (20 : Int32)) ((ro_irem (xf_238 M v1 v4) (20 : Int32)) / (2 : Int32))) (v4 + (1 : Int32)) v3 v1 v2) else (if (0 : Int32) ≤ (M.2.1 163 30) then (xg_236_30 n M (v4 + (1 : Int32)) v3 v1 v2) else (xg_236_30 n (ro_sI M 163 30 v4) (v4 + (1 : Int32)) v3 v1 v2))) else (if (xf_241 M ((xf_238 M v1 v4) / (20 : Int32)) ((ro_irem (xf_238 M v1 v4) (20 : Int32)) / (2 : Int32))) then (if (xf_243 M ((xf_238 M v1 v4) / (20 : Int32)) ((ro_irem (xf_238 M v1 v4) (20 : Int32)) / (2 : Int32))) then (xg_236_30 n (ro_sI (ro_sI (xm_244 (xm_243 M ((xf_238 M v1 v4) / (20 : Int32)) ((ro_irem (xf_238 M v1 v4) (20 : Int32)) / (2 : Int32))) ((xf_238 M v1 v4) / (20 : Int32))) 163 29 ((M.2.1 163 29) + (1 : Int32))) 163 31 ((M.2.1 163 31) ||| ((1 : Int32) <<< (((ro_irem (xf_238 M v1 v4) (20 : Int32)) / (2 : Int32)) &&& 31)))) (v4 + (1 : Int32)) v3 v1 v2) else (xg_236_30 n (xm_245 (xm_243 M ((xf_238 M v1 v4) / (20 : Int32)) ((ro_irem (xf_238 M v1 v4) (20 : Int32)) / (2 : Int32))) ((xf_238 M v1 v4) / (20 : Int32)) ((ro_irem (xf_238 M v1 v4) (20 : Int32)) / (2 : Int32))) (v4 + (1 : Int32)) v3 v1 v2)) else (if (0 : Int32) ≤ (M.2.1 163 30) then (xg_236_30 n M (v4 + (1 : Int32)) v3 v1 v2) else (xg_236_30 n (ro_sI M 163 30 v4) (v4 + (1 : Int32)) v3 v1 v2)))))
def xq_236_30 : Nat → ro_Mm → Int32 → Int32 → Int32 → Int32 → Prop
  | 0, _, _, _, _, _ => False
  | n + 1, M, v4, v3, v1, v2 => ((v3 ≤ v4 → True) ∧ (¬ (v3 ≤ v4) → (xp_238 M v1 v4 ∧ (xp_238 M v1 v4 ∧ (xp_238 M v1 v4 ∧ (((ro_irem (xf_238 M v1 v4) (2 : Int32)) = (1 : Int32) → (xp_240 M ((xf_238 M v1 v4) / (20 : Int32)) ((ro_irem (xf_238 M v1 v4) (20 : Int32)) / (2 : Int32)) ∧ (((xf_240 M ((xf_238 M v1 v4) / (20 : Int32)) ((ro_irem (xf_238 M v1 v4) (20 : Int32)) / (2 : Int32))) → (xp_242 M ((xf_238 M v1 v4) / (20 : Int32)) ((ro_irem (xf_238 M v1 v4) (20 : Int32)) / (2 : Int32)) ∧ (xq_236_30 n (xm_242 M ((xf_238 M v1 v4) / (20 : Int32)) ((ro_irem (xf_238 M v1 v4) (20 : Int32)) / (2 : Int32))) (v4 + (1 : Int32)) v3 v1 v2))) ∧ (¬ ((xf_240 M ((xf_238 M v1 v4) / (20 : Int32)) ((ro_irem (xf_238 M v1 v4) (20 : Int32)) / (2 : Int32)))) → (((0 : Int32) ≤ (M.2.1 163 30) → (xq_236_30 n M (v4 + (1 : Int32)) v3 v1 v2)) ∧ (¬ ((0 : Int32) ≤ (M.2.1 163 30)) → (xq_236_30 n (ro_sI M 163 30 v4) (v4 + (1 : Int32)) v3 v1 v2))))))) ∧ (¬ ((ro_irem (xf_238 M v1 v4) (2 : Int32)) = (1 : Int32)) → (xp_241 M ((xf_238 M v1 v4) / (20 : Int32)) ((ro_irem (xf_238 M v1 v4) (20 : Int32)) / (2 : Int32)) ∧ (((xf_241 M ((xf_238 M v1 v4) / (20 : Int32)) ((ro_irem (xf_238 M v1 v4) (20 : Int32)) / (2 : Int32))) → (xp_243 M ((xf_238 M v1 v4) / (20 : Int32)) ((ro_irem (xf_238 M v1 v4) (20 : Int32)) / (2 : Int32)) ∧ (((xf_243 M ((xf_238 M v1 v4) / (20 : Int32)) ((ro_irem (xf_238 M v1 v4) (20 : Int32)) / (2 : Int32))) → (xp_244 (xm_243 M ((xf_238 M v1 v4) / (20 : Int32)) ((ro_irem (xf_238 M v1 v4) (20 : Int32)) / (2 : Int32))) ((xf_238 M v1 v4) / (20 : Int32)) ∧ (xq_236_30 n (ro_sI (ro_sI (xm_244 (xm_243 M ((xf_238 M v1 v4) / (20 : Int32)) ((ro_irem (xf_238 M v1 v4) (20 : Int32)) / (2 : Int32))) ((xf_238 M v1 v4) / (20 : Int32))) 163 29 ((M.2.1 163 29) + (1 : Int32))) 163 31 ((M.2.1 163 31) ||| ((1 : Int32) <<< (((ro_irem (xf_238 M v1 v4) (20 : Int32)) / (2 : Int32)) &&& 31)))) (v4 + (1 : Int32)) v3 v1 v2))) ∧ (¬ ((xf_243 M ((xf_238 M v1 v4) / (20 : Int32)) ((ro_irem (xf_238 M v1 v4) (20 : Int32)) / (2 : Int32)))) → (xp_245 (xm_243 M ((xf_238 M v1 v4) / (20 : Int32)) ((ro_irem (xf_238 M v1 v4) (20 : Int32)) / (2 : Int32))) ((xf_238 M v1 v4) / (20 : Int32)) ((ro_irem (xf_238 M v1 v4) (20 : Int32)) / (2 : Int32)) ∧ (xq_236_30 n (xm_245 (xm_243 M ((xf_238 M v1 v4) / (20 : Int32)) ((ro_irem (xf_238 M v1 v4) (20 : Int32)) / (2 : Int32))) ((xf_238 M v1 v4) / (20 : Int32)) ((ro_irem (xf_238 M v1 v4) (20 : Int32)) / (2 : Int32))) (v4 + (1 : Int32)) v3 v1 v2)))))) ∧ (¬ ((xf_241 M ((xf_238 M v1 v4) / (20 : Int32)) ((ro_irem (xf_238 M v1 v4) (20 : Int32)) / (2 : Int32)))) → (((0 : Int32) ≤ (M.2.1 163 30) → (xq_236_30 n M (v4 + (1 : Int32)) v3 v1 v2)) ∧ (¬ ((0 : Int32) ≤ (M.2.1 163 30)) → (xq_236_30 n (ro_sI M 163 30 v4) (v4 + (1 : Int32)) v3 v1 v2)))))))))))))
theorem xl_236_30 : ∀ (n : Nat) {M : ro_Mm} {v4 : Int32} {v3 : Int32} {v1 : Int32} {v2 : Int32} (hL : ro_lay M) (hp : xq_236_30 n M v4 v3 v1 v2), ro_lay (xg_236_30 n M v4 v3 v1 v2).2 := by
  intro n
  induction n with
  | zero => intro M v4 v3 v1 v2 hL hp; exact False.elim hp
  | succ n ih =>
    intro M v4 v3 v1 v2 hL hp
    rw [xq_236_30] at hp
    rw [xg_236_30]
    by_cases hz : v3 ≤ v4
    · have hp := hp.1 hz
      rw [if_pos hz]
      exact hL
    · have hp := hp.2 hz
      rw [if_neg hz]
      obtain ⟨q3, hp⟩ := hp
      obtain ⟨q4, hp⟩ := hp
      obtain ⟨q5, hp⟩ := hp
      by_cases hz : (ro_irem (xf_238 M v1 v4) (2 : Int32)) = (1 : Int32)
      · have hp := hp.1 hz
        rw [if_pos hz]
        obtain ⟨q17, hp⟩ := hp
        by_cases hz : (xf_240 M ((xf_238 M v1 v4) / (20 : Int32)) ((ro_irem (xf_238 M v1 v4) (20 : Int32)) / (2 : Int32)))
        · have hp := hp.1 hz
          rw [if_pos hz]
          obtain ⟨q20, hp⟩ := hp
          exact ih (xl_242 hL q20)  hp
        · have hp := hp.2 hz
          rw [if_neg hz]
          by_cases hz : (0 : Int32) ≤ (M.2.1 163 30)
          · have hp := hp.1 hz
            rw [if_pos hz]
            exact ih hL  hp
          · have hp := hp.2 hz
            rw [if_neg hz]
            exact ih hL  hp
      · have hp := hp.2 hz
        rw [if_neg hz]
        obtain ⟨q8, hp⟩ := hp
        by_cases hz : (xf_241 M ((xf_238 M v1 v4) / (20 : Int32)) ((ro_irem (xf_238 M v1 v4) (20 : Int32)) / (2 : Int32)))
        · have hp := hp.1 hz
          rw [if_pos hz]
          obtain ⟨q11, hp⟩ := hp
          by_cases hz : (xf_243 M ((xf_238 M v1 v4) / (20 : Int32)) ((ro_irem (xf_238 M v1 v4) (20 : Int32)) / (2 : Int32)))
          · have hp := hp.1 hz
            rw [if_pos hz]
            obtain ⟨q14, hp⟩ := hp
            exact ih (xl_244 (xl_243 hL q11) q14)  hp
          · have hp := hp.2 hz
            rw [if_neg hz]
            obtain ⟨q13, hp⟩ := hp
            exact ih (xl_245 (xl_243 hL q11) q13)  hp
        · have hp := hp.2 hz
          rw [if_neg hz]
          by_cases hz : (0 : Int32) ≤ (M.2.1 163 30)
          · have hp := hp.1 hz
            rw [if_pos hz]
            exact ih hL  hp
          · have hp := hp.2 hz
            rw [if_neg hz]
            exact ih hL  hp
theorem xwI_236_30 : ∀ {n : Nat} {M : ro_Mm} {v4 : Int32} {v3 : Int32} {v1 : Int32} {v2 : Int32} {c j : Nat} (n0 : c ≠ 179) (n1 : c ≠ 180) (n2 : c ≠ 181) (n3 : c ≠ 182) (n4 : c ≠ 163), (xg_236_30 n M v4 v3 v1 v2).2.2.1 c j = M.2.1 c j := by
  intro n
  induction n with
  | zero => intro M v4 v3 v1 v2 c j n0 n1 n2 n3 n4; rfl
  | succ n ih =>
    intro M v4 v3 v1 v2 c j n0 n1 n2 n3 n4
    rw [xg_236_30]
    by_cases hz : v3 ≤ v4
    · rw [if_pos hz]
      first | done | exact rfl
    · rw [if_neg hz]
      by_cases hz : (ro_irem (xf_238 M v1 v4) (2 : Int32)) = (1 : Int32)
      · rw [if_pos hz]
        by_cases hz : (xf_240 M ((xf_238 M v1 v4) / (20 : Int32)) ((ro_irem (xf_238 M v1 v4) (20 : Int32)) / (2 : Int32)))
        · rw [if_pos hz]
          first | done | exact (((ih n0 n1 n2 n3 n4)).trans (xwI_242 n3))
        · rw [if_neg hz]
          by_cases hz : (0 : Int32) ≤ (M.2.1 163 30)
          · rw [if_pos hz]
            first | done | exact (ih n0 n1 n2 n3 n4)
          · rw [if_neg hz]
            first | done | exact (((ih n0 n1 n2 n3 n4)).trans (ro_sI_ne n4))
      · rw [if_neg hz]
        by_cases hz : (xf_241 M ((xf_238 M v1 v4) / (20 : Int32)) ((ro_irem (xf_238 M v1 v4) (20 : Int32)) / (2 : Int32)))
        · rw [if_pos hz]
          by_cases hz : (xf_243 M ((xf_238 M v1 v4) / (20 : Int32)) ((ro_irem (xf_238 M v1 v4) (20 : Int32)) / (2 : Int32)))
          · rw [if_pos hz]
            first | done | exact ((((((ih n0 n1 n2 n3 n4)).trans (ro_sI_ne n4)).trans (ro_sI_ne n4)).trans (xwI_244 n2 n3)).trans (xwI_243 n0 n1))
          · rw [if_neg hz]
            first | done | exact ((((ih n0 n1 n2 n3 n4)).trans (xwI_245 n2)).trans (xwI_243 n0 n1))
        · rw [if_neg hz]
          by_cases hz : (0 : Int32) ≤ (M.2.1 163 30)
          · rw [if_pos hz]
            first | done | exact (ih n0 n1 n2 n3 n4)
          · rw [if_neg hz]
            first | done | exact (((ih n0 n1 n2 n3 n4)).trans (ro_sI_ne n4))
theorem xwJ_236_30 : ∀ {n : Nat} {M : ro_Mm} {v4 : Int32} {v3 : Int32} {v1 : Int32} {v2 : Int32} {c j : Nat}, (xg_236_30 n M v4 v3 v1 v2).2.2.2.1 c j = M.2.2.1 c j := by
  intro n
  induction n with
  | zero => intro M v4 v3 v1 v2 c j; rfl
  | succ n ih =>
    intro M v4 v3 v1 v2 c j
    rw [xg_236_30]
    by_cases hz : v3 ≤ v4
    · rw [if_pos hz]
      first | done | exact rfl
    · rw [if_neg hz]
      by_cases hz : (ro_irem (xf_238 M v1 v4) (2 : Int32)) = (1 : Int32)
      · rw [if_pos hz]
        by_cases hz : (xf_240 M ((xf_238 M v1 v4) / (20 : Int32)) ((ro_irem (xf_238 M v1 v4) (20 : Int32)) / (2 : Int32)))
        · rw [if_pos hz]
          first | done | exact (((ih)).trans (xwJ_242))
        · rw [if_neg hz]
          by_cases hz : (0 : Int32) ≤ (M.2.1 163 30)
          · rw [if_pos hz]
            first | done | exact (ih)
          · rw [if_neg hz]
            first | done | exact (((ih)).trans (congrFun (congrFun ro_sI_J _) _))
      · rw [if_neg hz]
        by_cases hz : (xf_241 M ((xf_238 M v1 v4) / (20 : Int32)) ((ro_irem (xf_238 M v1 v4) (20 : Int32)) / (2 : Int32)))
        · rw [if_pos hz]
          by_cases hz : (xf_243 M ((xf_238 M v1 v4) / (20 : Int32)) ((ro_irem (xf_238 M v1 v4) (20 : Int32)) / (2 : Int32)))
          · rw [if_pos hz]
            first | done | exact ((((((ih)).trans (congrFun (congrFun ro_sI_J _) _)).trans (congrFun (congrFun ro_sI_J _) _)).trans (xwJ_244)).trans (xwJ_243))
          · rw [if_neg hz]
            first | done | exact ((((ih)).trans (xwJ_245)).trans (xwJ_243))
        · rw [if_neg hz]
          by_cases hz : (0 : Int32) ≤ (M.2.1 163 30)
          · rw [if_pos hz]
            first | done | exact (ih)
          · rw [if_neg hz]
            first | done | exact (((ih)).trans (congrFun (congrFun ro_sI_J _) _))
/-- RefusedOnceModel.goEvening(II)V -/
noncomputable def xm_236 (M : ro_Mm) (v1 : Int32) (v2 : Int32) : ro_Mm := (xg_236_30 lp_N (ro_sI (ro_sI (ro_sI (xm_228 M) 163 29 (0 : Int32)) 163 30 (-2 : Int32)) 163 31 (0 : Int32)) (0 : Int32) (xf_237 (ro_sI (ro_sI (ro_sI (xm_228 M) 163 29 (0 : Int32)) 163 30 (-2 : Int32)) 163 31 (0 : Int32)) v1 v2) v1 v2).2
def xp_236 (M : ro_Mm) (v1 : Int32) (v2 : Int32) : Prop := (xp_228 M ∧ (xp_237 (ro_sI (ro_sI (ro_sI (xm_228 M) 163 29 (0 : Int32)) 163 30 (-2 : Int32)) 163 31 (0 : Int32)) v1 v2 ∧ (xq_236_30 lp_N (ro_sI (ro_sI (ro_sI (xm_228 M) 163 29 (0 : Int32)) 163 30 (-2 : Int32)) 163 31 (0 : Int32)) (0 : Int32) (xf_237 (ro_sI (ro_sI (ro_sI (xm_228 M) 163 29 (0 : Int32)) 163 30 (-2 : Int32)) 163 31 (0 : Int32)) v1 v2) v1 v2 ∧ True)))
theorem xl_236 {M : ro_Mm} {v1 : Int32} {v2 : Int32} (hL : ro_lay M) (hp : xp_236 M v1 v2) : ro_lay (xm_236 M v1 v2) := by
  unfold xp_236 at hp
  unfold xm_236
  obtain ⟨q0, hp⟩ := hp
  obtain ⟨q1, hp⟩ := hp
  obtain ⟨q22, hp⟩ := hp
  exact (xl_236_30 lp_N (xl_228 hL q0) q22)
theorem xwI_236 {M : ro_Mm} {v1 : Int32} {v2 : Int32} {c j : Nat} (n0 : c ≠ 181) (n1 : c ≠ 182) (n2 : c ≠ 163) (n3 : c ≠ 179) (n4 : c ≠ 180) : (xm_236 M v1 v2).2.1 c j = M.2.1 c j := by
  unfold xm_236
  first | done | exact ((((((xwI_236_30 n3 n4 n0 n1 n2)).trans (ro_sI_ne n2)).trans (ro_sI_ne n2)).trans (ro_sI_ne n2)).trans (xwI_228 n0 n1))
theorem xwJ_236 {M : ro_Mm} {v1 : Int32} {v2 : Int32} {c j : Nat} : (xm_236 M v1 v2).2.2.1 c j = M.2.2.1 c j := by
  unfold xm_236
  first | done | exact ((((((xwJ_236_30)).trans (congrFun (congrFun ro_sI_J _) _)).trans (congrFun (congrFun ro_sI_J _) _)).trans (congrFun (congrFun ro_sI_J _) _)).trans (xwJ_228))
/-- RefusedOnceModel.evening(III)I -/
noncomputable def xf_246 (M : ro_Mm) (v1 : Int32) (v2 : Int32) (v3 : Int32) : Int32 := (if (xf_198 M v1) then (if (xf_234 M v2) then (if (xf_195 M v3 (0 : Int32) (2 : Int32)) then (if (0 : Int32) ≤ (xf_235 M v1) then (if v3 = (0 : Int32) then ((xm_236 M v1 v2).2.1 163 29) else (if v3 = (1 : Int32) then ((xm_236 M v1 v2).2.1 163 30) else ((xm_236 M v1 v2).2.1 163 31))) else (xf_235 M v1)) else (-1 : Int32)) else (-1 : Int32)) else (-1 : Int32))
noncomputable def xm_246 (M : ro_Mm) (v1 : Int32) (v2 : Int32) (v3 : Int32) : ro_Mm := (if (xf_198 M v1) then (if (xf_234 M v2) then (if (xf_195 M v3 (0 : Int32) (2 : Int32)) then (if (0 : Int32) ≤ (xf_235 M v1) then (xm_236 M v1 v2) else M) else M) else M) else M)
def xp_246 (M : ro_Mm) (v1 : Int32) (v2 : Int32) (v3 : Int32) : Prop := (((xf_198 M v1) → (((xf_234 M v2) → (((xf_195 M v3 (0 : Int32) (2 : Int32)) → (xp_235 M v1 ∧ (((0 : Int32) ≤ (xf_235 M v1) → (xp_236 M v1 v2 ∧ True)) ∧ (¬ ((0 : Int32) ≤ (xf_235 M v1)) → (xp_235 M v1 ∧ True))))) ∧ (¬ ((xf_195 M v3 (0 : Int32) (2 : Int32))) → True))) ∧ (¬ ((xf_234 M v2)) → True))) ∧ (¬ ((xf_198 M v1)) → True))
theorem xl_246 {M : ro_Mm} {v1 : Int32} {v2 : Int32} {v3 : Int32} (hL : ro_lay M) (hp : xp_246 M v1 v2 v3) : ro_lay (xm_246 M v1 v2 v3) := by
  unfold xp_246 at hp
  unfold xm_246
  by_cases hz : (xf_198 M v1)
  · have hp := hp.1 hz
    rw [if_pos hz]
    by_cases hz : (xf_234 M v2)
    · have hp := hp.1 hz
      rw [if_pos hz]
      by_cases hz : (xf_195 M v3 (0 : Int32) (2 : Int32))
      · have hp := hp.1 hz
        rw [if_pos hz]
        obtain ⟨q3, hp⟩ := hp
        by_cases hz : (0 : Int32) ≤ (xf_235 M v1)
        · have hp := hp.1 hz
          rw [if_pos hz]
          obtain ⟨q5, hp⟩ := hp
          by_cases hz : v3 = (0 : Int32)
          · skip
            exact (xl_236 hL q5)
          · skip
            by_cases hz : v3 = (1 : Int32)
            · skip
              exact (xl_236 hL q5)
            · skip
              exact (xl_236 hL q5)
        · have hp := hp.2 hz
          rw [if_neg hz]
          obtain ⟨q8, hp⟩ := hp
          exact hL
      · have hp := hp.2 hz
        rw [if_neg hz]
        exact hL
    · have hp := hp.2 hz
      rw [if_neg hz]
      exact hL
  · have hp := hp.2 hz
    rw [if_neg hz]
    exact hL
theorem xwI_246 {M : ro_Mm} {v1 : Int32} {v2 : Int32} {v3 : Int32} {c j : Nat} (n0 : c ≠ 181) (n1 : c ≠ 182) (n2 : c ≠ 163) (n3 : c ≠ 179) (n4 : c ≠ 180) : (xm_246 M v1 v2 v3).2.1 c j = M.2.1 c j := by
  unfold xm_246
  by_cases hz : (xf_198 M v1)
  · rw [if_pos hz]
    by_cases hz : (xf_234 M v2)
    · rw [if_pos hz]
      by_cases hz : (xf_195 M v3 (0 : Int32) (2 : Int32))
      · rw [if_pos hz]
        by_cases hz : (0 : Int32) ≤ (xf_235 M v1)
        · rw [if_pos hz]
          first | done | exact (xwI_236 n0 n1 n2 n3 n4)
        · rw [if_neg hz]
          first | done | exact rfl
      · rw [if_neg hz]
        first | done | exact rfl
    · rw [if_neg hz]
      first | done | exact rfl
  · rw [if_neg hz]
    first | done | exact rfl
theorem xwJ_246 {M : ro_Mm} {v1 : Int32} {v2 : Int32} {v3 : Int32} {c j : Nat} : (xm_246 M v1 v2 v3).2.2.1 c j = M.2.2.1 c j := by
  unfold xm_246
  by_cases hz : (xf_198 M v1)
  · rw [if_pos hz]
    by_cases hz : (xf_234 M v2)
    · rw [if_pos hz]
      by_cases hz : (xf_195 M v3 (0 : Int32) (2 : Int32))
      · rw [if_pos hz]
        by_cases hz : (0 : Int32) ≤ (xf_235 M v1)
        · rw [if_pos hz]
          first | done | exact (xwJ_236)
        · rw [if_neg hz]
          first | done | exact rfl
      · rw [if_neg hz]
        first | done | exact rfl
    · rw [if_neg hz]
      first | done | exact rfl
  · rw [if_neg hz]
    first | done | exact rfl
/-- a loop of RefusedOnceModel.round(II)I -/
noncomputable def xg_247_44 : Nat → ro_Mm → Int32 → Int32 → Int32 → Int32 → Int32 → Int32 → Int32 × Int32 × Int32 × ro_Mm
  | 0, M, v6, v5, v4, v3, v1, v2 => (v6, v5, v4, M)
  | n + 1, M, v6, v5, v4, v3, v1, v2 => (if ((1 : Int32) <<< (v3 &&& 31)) ≤ v6 then (v6, v5, v4, M) else (if (xf_249 M v1 v3 v6) < (0 : Int32) then (xg_247_44 n (xm_249 M v1 v3 v6) (v6 + (1 : Int32)) v5 v4 v3 v1 v2) else (if v4 < (0 : Int32) then (xg_247_44 n (xm_249 M v1 v3 v6) (v6 + (1 : Int32)) (xf_249 M v1 v3 v6) v6 v3 v1 v2) else (if (xf_249 M v1 v3 v6) < v5 then (xg_247_44 n (xm_249 M v1 v3 v6) (v6 + (1 : Int32)) (xf_249 M v1 v3 v6) v6 v3 v1 v2) else (xg_247_44 n (xm_249 M v1 v3 v6) (v6 + (1 : Int32)) v5 v4 v3 v1 v2)))))
def xq_247_44 : Nat → ro_Mm → Int32 → Int32 → Int32 → Int32 → Int32 → Int32 → Prop
  | 0, _, _, _, _, _, _, _ => False
  | n + 1, M, v6, v5, v4, v3, v1, v2 => ((((1 : Int32) <<< (v3 &&& 31)) ≤ v6 → True) ∧ (¬ (((1 : Int32) <<< (v3 &&& 31)) ≤ v6) → (xp_249 M v1 v3 v6 ∧ (((xf_249 M v1 v3 v6) < (0 : Int32) → (xq_247_44 n (xm_249 M v1 v3 v6) (v6 + (1 : Int32)) v5 v4 v3 v1 v2)) ∧ (¬ ((xf_249 M v1 v3 v6) < (0 : Int32)) → ((v4 < (0 : Int32) → (xq_247_44 n (xm_249 M v1 v3 v6) (v6 + (1 : Int32)) (xf_249 M v1 v3 v6) v6 v3 v1 v2)) ∧ (¬ (v4 < (0 : Int32)) → (((xf_249 M v1 v3 v6) < v5 → (xq_247_44 n (xm_249 M v1 v3 v6) (v6 + (1 : Int32)) (xf_249 M v1 v3 v6) v6 v3 v1 v2)) ∧ (¬ ((xf_249 M v1 v3 v6) < v5) → (xq_247_44 n (xm_249 M v1 v3 v6) (v6 + (1 : Int32)) v5 v4 v3 v1 v2))))))))))
theorem xl_247_44 : ∀ (n : Nat) {M : ro_Mm} {v6 : Int32} {v5 : Int32} {v4 : Int32} {v3 : Int32} {v1 : Int32} {v2 : Int32} (hL : ro_lay M) (hp : xq_247_44 n M v6 v5 v4 v3 v1 v2), ro_lay (xg_247_44 n M v6 v5 v4 v3 v1 v2).2.2.2 := by
  intro n
  induction n with
  | zero => intro M v6 v5 v4 v3 v1 v2 hL hp; exact False.elim hp
  | succ n ih =>
    intro M v6 v5 v4 v3 v1 v2 hL hp
    rw [xq_247_44] at hp
    rw [xg_247_44]
    by_cases hz : ((1 : Int32) <<< (v3 &&& 31)) ≤ v6
    · have hp := hp.1 hz
      rw [if_pos hz]
      exact hL
    · have hp := hp.2 hz
      rw [if_neg hz]
      obtain ⟨q6, hp⟩ := hp
      by_cases hz : (xf_249 M v1 v3 v6) < (0 : Int32)
      · have hp := hp.1 hz
        rw [if_pos hz]
        exact ih (xl_249 hL q6)  hp
      · have hp := hp.2 hz
        rw [if_neg hz]
        by_cases hz : v4 < (0 : Int32)
        · have hp := hp.1 hz
          rw [if_pos hz]
          exact ih (xl_249 hL q6)  hp
        · have hp := hp.2 hz
          rw [if_neg hz]
          by_cases hz : (xf_249 M v1 v3 v6) < v5
          · have hp := hp.1 hz
            rw [if_pos hz]
            exact ih (xl_249 hL q6)  hp
          · have hp := hp.2 hz
            rw [if_neg hz]
            exact ih (xl_249 hL q6)  hp
theorem xwI_247_44 : ∀ {n : Nat} {M : ro_Mm} {v6 : Int32} {v5 : Int32} {v4 : Int32} {v3 : Int32} {v1 : Int32} {v2 : Int32} {c j : Nat} (n0 : c ≠ 181) (n1 : c ≠ 182) (n2 : c ≠ 179) (n3 : c ≠ 180), (xg_247_44 n M v6 v5 v4 v3 v1 v2).2.2.2.2.1 c j = M.2.1 c j := by
  intro n
  induction n with
  | zero => intro M v6 v5 v4 v3 v1 v2 c j n0 n1 n2 n3; rfl
  | succ n ih =>
    intro M v6 v5 v4 v3 v1 v2 c j n0 n1 n2 n3
    rw [xg_247_44]
    by_cases hz : ((1 : Int32) <<< (v3 &&& 31)) ≤ v6
    · rw [if_pos hz]
      first | done | exact rfl
    · rw [if_neg hz]
      by_cases hz : (xf_249 M v1 v3 v6) < (0 : Int32)
      · rw [if_pos hz]
        first | done | exact (((ih n0 n1 n2 n3)).trans (xwI_249 n0 n1 n2 n3))
      · rw [if_neg hz]
        by_cases hz : v4 < (0 : Int32)
        · rw [if_pos hz]
          first | done | exact (((ih n0 n1 n2 n3)).trans (xwI_249 n0 n1 n2 n3))
        · rw [if_neg hz]
          by_cases hz : (xf_249 M v1 v3 v6) < v5
          · rw [if_pos hz]
            first | done | exact (((ih n0 n1 n2 n3)).trans (xwI_249 n0 n1 n2 n3))
          · rw [if_neg hz]
            first | done | exact (((ih n0 n1 n2 n3)).trans (xwI_249 n0 n1 n2 n3))
theorem xwJ_247_44 : ∀ {n : Nat} {M : ro_Mm} {v6 : Int32} {v5 : Int32} {v4 : Int32} {v3 : Int32} {v1 : Int32} {v2 : Int32} {c j : Nat}, (xg_247_44 n M v6 v5 v4 v3 v1 v2).2.2.2.2.2.1 c j = M.2.2.1 c j := by
  intro n
  induction n with
  | zero => intro M v6 v5 v4 v3 v1 v2 c j; rfl
  | succ n ih =>
    intro M v6 v5 v4 v3 v1 v2 c j
    rw [xg_247_44]
    by_cases hz : ((1 : Int32) <<< (v3 &&& 31)) ≤ v6
    · rw [if_pos hz]
      first | done | exact rfl
    · rw [if_neg hz]
      by_cases hz : (xf_249 M v1 v3 v6) < (0 : Int32)
      · rw [if_pos hz]
        first | done | exact (((ih)).trans (xwJ_249))
      · rw [if_neg hz]
        by_cases hz : v4 < (0 : Int32)
        · rw [if_pos hz]
          first | done | exact (((ih)).trans (xwJ_249))
        · rw [if_neg hz]
          by_cases hz : (xf_249 M v1 v3 v6) < v5
          · rw [if_pos hz]
            first | done | exact (((ih)).trans (xwJ_249))
          · rw [if_neg hz]
            first | done | exact (((ih)).trans (xwJ_249))
/-- RefusedOnceModel.round(II)I -/
noncomputable def xf_247 (M : ro_Mm) (v1 : Int32) (v2 : Int32) : Int32 := (if (xf_198 M v1) then (if (-1 : Int32) ≤ v2 then (if (0 : Int32) ≤ (xf_235 M v1) then (if (xg_247_44 lp_N M (0 : Int32) (0 : Int32) (-2 : Int32) (xf_248 M v1) v1 v2).2.2.1 < (0 : Int32) then (-2 : Int32) else (if v2 < (xf_248 M v1) then (if (0 : Int32) ≤ v2 then (((xg_247_44 lp_N M (0 : Int32) (0 : Int32) (-2 : Int32) (xf_248 M v1) v1 v2).2.2.1 >>> ((((xf_248 M v1) - (1 : Int32)) - v2) &&& 31)) &&& (1 : Int32)) else (xg_247_44 lp_N M (0 : Int32) (0 : Int32) (-2 : Int32) (xf_248 M v1) v1 v2).2.1) else (-2 : Int32))) else (xf_235 M v1)) else (-1 : Int32)) else (-1 : Int32))
noncomputable def xm_247 (M : ro_Mm) (v1 : Int32) (v2 : Int32) : ro_Mm := (if (xf_198 M v1) then (if (-1 : Int32) ≤ v2 then (if (0 : Int32) ≤ (xf_235 M v1) then (xg_247_44 lp_N M (0 : Int32) (0 : Int32) (-2 : Int32) (xf_248 M v1) v1 v2).2.2.2 else M) else M) else M)
def xp_247 (M : ro_Mm) (v1 : Int32) (v2 : Int32) : Prop := (((xf_198 M v1) → (((-1 : Int32) ≤ v2 → (xp_235 M v1 ∧ (((0 : Int32) ≤ (xf_235 M v1) → (xp_248 M v1 ∧ (xq_247_44 lp_N M (0 : Int32) (0 : Int32) (-2 : Int32) (xf_248 M v1) v1 v2 ∧ True))) ∧ (¬ ((0 : Int32) ≤ (xf_235 M v1)) → (xp_235 M v1 ∧ True))))) ∧ (¬ ((-1 : Int32) ≤ v2) → True))) ∧ (¬ ((xf_198 M v1)) → True))
theorem xl_247 {M : ro_Mm} {v1 : Int32} {v2 : Int32} (hL : ro_lay M) (hp : xp_247 M v1 v2) : ro_lay (xm_247 M v1 v2) := by
  unfold xp_247 at hp
  unfold xm_247
  by_cases hz : (xf_198 M v1)
  · have hp := hp.1 hz
    rw [if_pos hz]
    by_cases hz : (-1 : Int32) ≤ v2
    · have hp := hp.1 hz
      rw [if_pos hz]
      obtain ⟨q2, hp⟩ := hp
      by_cases hz : (0 : Int32) ≤ (xf_235 M v1)
      · have hp := hp.1 hz
        rw [if_pos hz]
        obtain ⟨q4, hp⟩ := hp
        obtain ⟨q10, hp⟩ := hp
        by_cases hz : (xg_247_44 lp_N M (0 : Int32) (0 : Int32) (-2 : Int32) (xf_248 M v1) v1 v2).2.2.1 < (0 : Int32)
        · skip
          exact (xl_247_44 lp_N hL q10)
        · skip
          by_cases hz : v2 < (xf_248 M v1)
          · skip
            by_cases hz : (0 : Int32) ≤ v2
            · skip
              exact (xl_247_44 lp_N hL q10)
            · skip
              exact (xl_247_44 lp_N hL q10)
          · skip
            exact (xl_247_44 lp_N hL q10)
      · have hp := hp.2 hz
        rw [if_neg hz]
        obtain ⟨q14, hp⟩ := hp
        exact hL
    · have hp := hp.2 hz
      rw [if_neg hz]
      exact hL
  · have hp := hp.2 hz
    rw [if_neg hz]
    exact hL
theorem xwI_247 {M : ro_Mm} {v1 : Int32} {v2 : Int32} {c j : Nat} (n0 : c ≠ 181) (n1 : c ≠ 182) (n2 : c ≠ 179) (n3 : c ≠ 180) : (xm_247 M v1 v2).2.1 c j = M.2.1 c j := by
  unfold xm_247
  by_cases hz : (xf_198 M v1)
  · rw [if_pos hz]
    by_cases hz : (-1 : Int32) ≤ v2
    · rw [if_pos hz]
      by_cases hz : (0 : Int32) ≤ (xf_235 M v1)
      · rw [if_pos hz]
        first | done | exact (xwI_247_44 n0 n1 n2 n3)
      · rw [if_neg hz]
        first | done | exact rfl
    · rw [if_neg hz]
      first | done | exact rfl
  · rw [if_neg hz]
    first | done | exact rfl
theorem xwJ_247 {M : ro_Mm} {v1 : Int32} {v2 : Int32} {c j : Nat} : (xm_247 M v1 v2).2.2.1 c j = M.2.2.1 c j := by
  unfold xm_247
  by_cases hz : (xf_198 M v1)
  · rw [if_pos hz]
    by_cases hz : (-1 : Int32) ≤ v2
    · rw [if_pos hz]
      by_cases hz : (0 : Int32) ≤ (xf_235 M v1)
      · rw [if_pos hz]
        first | done | exact (xwJ_247_44)
      · rw [if_neg hz]
        first | done | exact rfl
    · rw [if_neg hz]
      first | done | exact rfl
  · rw [if_neg hz]
    first | done | exact rfl
/-- RefusedOnce.pay(IIII)J -/
noncomputable def xf_94 (M : ro_Mm) (v1 : Int32) (v2 : Int32) (v3 : Int32) (v4 : Int32) : Int64 := (if (xf_56 M v1) then (if (xf_13 M v2 (0 : Int32) (8 : Int32)) then (if (xf_13 M v3 (0 : Int32) (8 : Int32)) then (if (xf_95 M v4) then (xf_102 (xm_96 M (v1 / (10 : Int32)) (ro_irem v1 (10 : Int32)) v2 v3) v4) else (-9223372036854775808 : Int64)) else (-9223372036854775808 : Int64)) else (-9223372036854775808 : Int64)) else (-9223372036854775808 : Int64))
noncomputable def xm_94 (M : ro_Mm) (v1 : Int32) (v2 : Int32) (v3 : Int32) (v4 : Int32) : ro_Mm := (if (xf_56 M v1) then (if (xf_13 M v2 (0 : Int32) (8 : Int32)) then (if (xf_13 M v3 (0 : Int32) (8 : Int32)) then (if (xf_95 M v4) then (xm_96 M (v1 / (10 : Int32)) (ro_irem v1 (10 : Int32)) v2 v3) else M) else M) else M) else M)
def xp_94 (M : ro_Mm) (v1 : Int32) (v2 : Int32) (v3 : Int32) (v4 : Int32) : Prop := (((xf_56 M v1) → (((xf_13 M v2 (0 : Int32) (8 : Int32)) → (((xf_13 M v3 (0 : Int32) (8 : Int32)) → (((xf_95 M v4) → (xp_96 M (v1 / (10 : Int32)) (ro_irem v1 (10 : Int32)) v2 v3 ∧ True)) ∧ (¬ ((xf_95 M v4)) → True))) ∧ (¬ ((xf_13 M v3 (0 : Int32) (8 : Int32))) → True))) ∧ (¬ ((xf_13 M v2 (0 : Int32) (8 : Int32))) → True))) ∧ (¬ ((xf_56 M v1)) → True))
theorem xs_94 {X : ro_Sx} {M : ro_Mm} {v1 : Int32} {v2 : Int32} {v3 : Int32} {v4 : Int32} (hL : ro_lay M) (hp : xp_94 M v1 v2 v3 v4) : ro_cwp X 7 94 [.ref 4, .int v1, .int v2, .int v3, .int v4] M (fun v M2 => v = some (.long (xf_94 M v1 v2 v3 v4)) ∧ M2 = xm_94 M v1 v2 v3 v4) := by
  refine rs_begin (lv0 := [(0, .ref 4), (1, .int v1), (2, .int v2), (3, .int v3), (4, .int v4)]) (by decide) rfl (by rw [rm_94.1]; exact Nat.le_of_ble_eq_true rfl) rfl ?_
  unfold xp_94 at hp
  refine rs_aload_n ri_94_0 rfl rfl ?_
  refine rs_iload_n ri_94_1 rfl rfl ?_
  refine rs_virt (As := [.int v1]) (r := []) ri_94_2 rfl (by decide) rm_56.2.2.2 rm_56.2.2.1 rfl rfl rfl (by decide) (ro_kf (kd_4 hL)) (Nat.le_of_ble_eq_true rfl) (by decide) (by decide) (xs_56 (X := X) hL) ?_
  rintro _ _ ⟨e1, e2⟩
  rw [e1, e2]
  show ro_w X _ 94 _ 5 [(0, .ref 4), (1, .int v1), (2, .int v2), (3, .int v3), (4, .int v4)] [.int (ro_b (xf_56 M v1))] M (0, 0)
  refine rs_ifeq_c (t := 36) ri_94_5 rfl rfl (fun h1 => ?_) (fun h1 => ?_)
  · have hp := hp.2 h1
    refine rs_ldc2 (v := (-9223372036854775808 : Int64)) ri_94_36 rfl rfl rfl ?_
    refine rs_lret ri_94_39 rm_94.2.1 (by decide) ?_
    exact ⟨by unfold xf_94; first | (simp only [if_neg h1]; done) | rfl, by unfold xm_94; first | (simp only [if_neg h1]; done) | rfl⟩
  · have hp := hp.1 h1
    refine rs_iload_n ri_94_8 rfl rfl ?_
    refine rs_iconst (v := (0 : Int32)) ri_94_9 rfl (by decide) ?_
    refine rs_bipush (v := (8 : Int32)) ri_94_10 rfl (by decide) ?_
    refine rs_stat (As := [.int v2, .int (0 : Int32), .int (8 : Int32)]) (r := []) ri_94_12 rfl rm_13.2.2.2 rfl rfl rfl (Nat.le_of_ble_eq_true rfl) (by decide) (by decide) (xs_13 (X := X) hL) ?_
    rintro _ _ ⟨e1, e2⟩
    rw [e1, e2]
    show ro_w X _ 94 _ 15 [(0, .ref 4), (1, .int v1), (2, .int v2), (3, .int v3), (4, .int v4)] [.int (ro_b (xf_13 M v2 (0 : Int32) (8 : Int32)))] M (0, 0)
    refine rs_ifeq_c (t := 36) ri_94_15 rfl rfl (fun h2 => ?_) (fun h2 => ?_)
    · have hp := hp.2 h2
      refine rs_ldc2 (v := (-9223372036854775808 : Int64)) ri_94_36 rfl rfl rfl ?_
      refine rs_lret ri_94_39 rm_94.2.1 (by decide) ?_
      exact ⟨by unfold xf_94; first | (simp only [if_pos h1, if_neg h2]; done) | rfl, by unfold xm_94; first | (simp only [if_pos h1, if_neg h2]; done) | rfl⟩
    · have hp := hp.1 h2
      refine rs_iload_n ri_94_18 rfl rfl ?_
      refine rs_iconst (v := (0 : Int32)) ri_94_19 rfl (by decide) ?_
      refine rs_bipush (v := (8 : Int32)) ri_94_20 rfl (by decide) ?_
      refine rs_stat (As := [.int v3, .int (0 : Int32), .int (8 : Int32)]) (r := []) ri_94_22 rfl rm_13.2.2.2 rfl rfl rfl (Nat.le_of_ble_eq_true rfl) (by decide) (by decide) (xs_13 (X := X) hL) ?_
      rintro _ _ ⟨e1, e2⟩
      rw [e1, e2]
      show ro_w X _ 94 _ 25 [(0, .ref 4), (1, .int v1), (2, .int v2), (3, .int v3), (4, .int v4)] [.int (ro_b (xf_13 M v3 (0 : Int32) (8 : Int32)))] M (0, 0)
      refine rs_ifeq_c (t := 36) ri_94_25 rfl rfl (fun h3 => ?_) (fun h3 => ?_)
      · have hp := hp.2 h3
        refine rs_ldc2 (v := (-9223372036854775808 : Int64)) ri_94_36 rfl rfl rfl ?_
        refine rs_lret ri_94_39 rm_94.2.1 (by decide) ?_
        exact ⟨by unfold xf_94; first | (simp only [if_pos h1, if_pos h2, if_neg h3]; done) | rfl, by unfold xm_94; first | (simp only [if_pos h1, if_pos h2, if_neg h3]; done) | rfl⟩
      · have hp := hp.1 h3
        refine rs_iload ri_94_28 rfl rfl ?_
        refine rs_stat (As := [.int v4]) (r := []) ri_94_30 rfl rm_95.2.2.2 rfl rfl rfl (Nat.le_of_ble_eq_true rfl) (by decide) (by decide) (xs_95 (X := X) hL) ?_
        rintro _ _ ⟨e1, e2⟩
        rw [e1, e2]
        show ro_w X _ 94 _ 33 [(0, .ref 4), (1, .int v1), (2, .int v2), (3, .int v3), (4, .int v4)] [.int (ro_b (xf_95 M v4))] M (0, 0)
        refine rs_ifne_c (t := 40) ri_94_33 rfl rfl (fun h4 => ?_) (fun h4 => ?_)
        · have hp := hp.1 h4
          refine rs_aload_n ri_94_40 rfl rfl ?_
          refine rs_gf (v := .ref 48) ri_94_41 rfl (by decide) (ro_kf (kd_4 hL)) rfl (rf_4_5 hL) ?_
          refine rs_iload_n ri_94_44 rfl rfl ?_
          refine rs_bipush (v := (10 : Int32)) ri_94_45 rfl (by decide) ?_
          refine rs_idiv (r := (v1 / (10 : Int32))) ri_94_47 rfl (by decide) rfl ?_
          refine rs_iload_n ri_94_48 rfl rfl ?_
          refine rs_bipush (v := (10 : Int32)) ri_94_49 rfl (by decide) ?_
          refine rs_irem (r := (ro_irem v1 (10 : Int32))) ri_94_51 rfl (by decide) rfl ?_
          refine rs_iload_n ri_94_52 rfl rfl ?_
          refine rs_iload_n ri_94_53 rfl rfl ?_
          obtain ⟨q4, hp⟩ := hp
          refine rs_virt (As := [.int (v1 / (10 : Int32)), .int (ro_irem v1 (10 : Int32)), .int v2, .int v3]) (r := []) ri_94_54 rfl (by decide) rm_96.2.2.2 rm_96.2.2.1 rfl rfl rfl (by decide) (ro_kf (kd_48 hL)) (Nat.le_of_ble_eq_true rfl) (by decide) (by decide) (xs_96 (X := X) hL q4) ?_
          rintro _ _ ⟨e1, e2⟩
          rw [e1, e2]
          show ro_w X _ 94 _ 57 [(0, .ref 4), (1, .int v1), (2, .int v2), (3, .int v3), (4, .int v4)] [] (xm_96 M (v1 / (10 : Int32)) (ro_irem v1 (10 : Int32)) v2 v3) (0, 0)
          refine rs_aload_n ri_94_57 rfl rfl ?_
          refine rs_gf (v := .ref 48) ri_94_58 rfl (by decide) (ro_kf (kd_4 (xl_96 hL q4))) rfl (rf_4_5 (xl_96 hL q4)) ?_
          refine rs_iload ri_94_61 rfl rfl ?_
          refine rs_virt (As := [.int v4]) (r := []) ri_94_63 rfl (by decide) rm_102.2.2.2 rm_102.2.2.1 rfl rfl rfl (by decide) (ro_kf (kd_48 (xl_96 hL q4))) (Nat.le_of_ble_eq_true rfl) (by decide) (by decide) (xs_102 (X := X) (xl_96 hL q4)) ?_
          rintro _ _ ⟨e1, e2⟩
          rw [e1, e2]
          show ro_w X _ 94 _ 66 [(0, .ref 4), (1, .int v1), (2, .int v2), (3, .int v3), (4, .int v4)] [.long (xf_102 (xm_96 M (v1 / (10 : Int32)) (ro_irem v1 (10 : Int32)) v2 v3) v4)] (xm_96 M (v1 / (10 : Int32)) (ro_irem v1 (10 : Int32)) v2 v3) (0, 0)
          refine rs_lret ri_94_66 rm_94.2.1 (by decide) ?_
          exact ⟨by unfold xf_94; first | (simp only [if_pos h1, if_pos h2, if_pos h3, if_pos h4]; done) | rfl, by unfold xm_94; first | (simp only [if_pos h1, if_pos h2, if_pos h3, if_pos h4]; done) | rfl⟩
        · have hp := hp.2 h4
          refine rs_ldc2 (v := (-9223372036854775808 : Int64)) ri_94_36 rfl rfl rfl ?_
          refine rs_lret ri_94_39 rm_94.2.1 (by decide) ?_
          exact ⟨by unfold xf_94; first | (simp only [if_pos h1, if_pos h2, if_pos h3, if_neg h4]; done) | rfl, by unfold xm_94; first | (simp only [if_pos h1, if_pos h2, if_pos h3, if_neg h4]; done) | rfl⟩
theorem xl_94 {M : ro_Mm} {v1 : Int32} {v2 : Int32} {v3 : Int32} {v4 : Int32} (hL : ro_lay M) (hp : xp_94 M v1 v2 v3 v4) : ro_lay (xm_94 M v1 v2 v3 v4) := by
  unfold xp_94 at hp
  unfold xm_94
  by_cases hz : (xf_56 M v1)
  · have hp := hp.1 hz
    rw [if_pos hz]
    by_cases hz : (xf_13 M v2 (0 : Int32) (8 : Int32))
    · have hp := hp.1 hz
      rw [if_pos hz]
      by_cases hz : (xf_13 M v3 (0 : Int32) (8 : Int32))
      · have hp := hp.1 hz
        rw [if_pos hz]
        by_cases hz : (xf_95 M v4)
        · have hp := hp.1 hz
          rw [if_pos hz]
          obtain ⟨q4, hp⟩ := hp
          exact (xl_96 hL q4)
        · have hp := hp.2 hz
          rw [if_neg hz]
          exact hL
      · have hp := hp.2 hz
        rw [if_neg hz]
        exact hL
    · have hp := hp.2 hz
      rw [if_neg hz]
      exact hL
  · have hp := hp.2 hz
    rw [if_neg hz]
    exact hL
theorem xwI_94 {M : ro_Mm} {v1 : Int32} {v2 : Int32} {v3 : Int32} {v4 : Int32} {c j : Nat} (n0 : c ≠ 50) (n1 : c ≠ 51) (n2 : c ≠ 21) (n3 : c ≠ 16) (n4 : c ≠ 20) : (xm_94 M v1 v2 v3 v4).2.1 c j = M.2.1 c j := by
  unfold xm_94
  by_cases hz : (xf_56 M v1)
  · rw [if_pos hz]
    by_cases hz : (xf_13 M v2 (0 : Int32) (8 : Int32))
    · rw [if_pos hz]
      by_cases hz : (xf_13 M v3 (0 : Int32) (8 : Int32))
      · rw [if_pos hz]
        by_cases hz : (xf_95 M v4)
        · rw [if_pos hz]
          first | done | exact (xwI_96 n0 n1 n2 n3 n4)
        · rw [if_neg hz]
          first | done | exact rfl
      · rw [if_neg hz]
        first | done | exact rfl
    · rw [if_neg hz]
      first | done | exact rfl
  · rw [if_neg hz]
    first | done | exact rfl
theorem xwJ_94 {M : ro_Mm} {v1 : Int32} {v2 : Int32} {v3 : Int32} {v4 : Int32} {c j : Nat} (n0 : c ≠ 52) (n1 : c ≠ 53) (n2 : c ≠ 48) : (xm_94 M v1 v2 v3 v4).2.2.1 c j = M.2.2.1 c j := by
  unfold xm_94
  by_cases hz : (xf_56 M v1)
  · rw [if_pos hz]
    by_cases hz : (xf_13 M v2 (0 : Int32) (8 : Int32))
    · rw [if_pos hz]
      by_cases hz : (xf_13 M v3 (0 : Int32) (8 : Int32))
      · rw [if_pos hz]
        by_cases hz : (xf_95 M v4)
        · rw [if_pos hz]
          first | done | exact (xwJ_96 n0 n1 n2)
        · rw [if_neg hz]
          first | done | exact rfl
      · rw [if_neg hz]
        first | done | exact rfl
    · rw [if_neg hz]
      first | done | exact rfl
  · rw [if_neg hz]
    first | done | exact rfl
/-- RefusedOnceModel.later(IIII)I -/
noncomputable def xf_233 (M : ro_Mm) (v1 : Int32) (v2 : Int32) (v3 : Int32) (v4 : Int32) : Int32 := (if (xf_198 M v1) then (if (xf_234 M v2) then (if (xf_204 M v3) then (if (xf_195 M v4 (0 : Int32) (2 : Int32)) then (if (0 : Int32) ≤ (xf_235 M v1) then (if v4 = (0 : Int32) then ((xm_236 M v1 v2).2.1 181 (v3.toNatClampNeg)) else (if v4 = (1 : Int32) then ((xm_236 M v1 v2).2.1 182 (v3.toNatClampNeg)) else (((4 : Int32) * ((xm_236 M v1 v2).2.1 181 (v3.toNatClampNeg))) + ((M.2.1 168 0) * ((xm_236 M v1 v2).2.1 182 (v3.toNatClampNeg)))))) else (xf_235 M v1)) else (-1 : Int32)) else (-1 : Int32)) else (-1 : Int32)) else (-1 : Int32))
noncomputable def xm_233 (M : ro_Mm) (v1 : Int32) (v2 : Int32) (v3 : Int32) (v4 : Int32) : ro_Mm := (if (xf_198 M v1) then (if (xf_234 M v2) then (if (xf_204 M v3) then (if (xf_195 M v4 (0 : Int32) (2 : Int32)) then (if (0 : Int32) ≤ (xf_235 M v1) then (xm_236 M v1 v2) else M) else M) else M) else M) else M)
def xp_233 (M : ro_Mm) (v1 : Int32) (v2 : Int32) (v3 : Int32) (v4 : Int32) : Prop := (((xf_198 M v1) → (((xf_234 M v2) → (((xf_204 M v3) → (((xf_195 M v4 (0 : Int32) (2 : Int32)) → (xp_235 M v1 ∧ (((0 : Int32) ≤ (xf_235 M v1) → (xp_236 M v1 v2 ∧ ((v4 = (0 : Int32) → (vp_in v3 6 ∧ True)) ∧ (¬ (v4 = (0 : Int32)) → ((v4 = (1 : Int32) → (vp_in v3 6 ∧ True)) ∧ (¬ (v4 = (1 : Int32)) → (vp_in v3 6 ∧ (vp_in v3 6 ∧ True)))))))) ∧ (¬ ((0 : Int32) ≤ (xf_235 M v1)) → (xp_235 M v1 ∧ True))))) ∧ (¬ ((xf_195 M v4 (0 : Int32) (2 : Int32))) → True))) ∧ (¬ ((xf_204 M v3)) → True))) ∧ (¬ ((xf_234 M v2)) → True))) ∧ (¬ ((xf_198 M v1)) → True))
theorem xl_233 {M : ro_Mm} {v1 : Int32} {v2 : Int32} {v3 : Int32} {v4 : Int32} (hL : ro_lay M) (hp : xp_233 M v1 v2 v3 v4) : ro_lay (xm_233 M v1 v2 v3 v4) := by
  unfold xp_233 at hp
  unfold xm_233
  by_cases hz : (xf_198 M v1)
  · have hp := hp.1 hz
    rw [if_pos hz]
    by_cases hz : (xf_234 M v2)
    · have hp := hp.1 hz
      rw [if_pos hz]
      by_cases hz : (xf_204 M v3)
      · have hp := hp.1 hz
        rw [if_pos hz]
        by_cases hz : (xf_195 M v4 (0 : Int32) (2 : Int32))
        · have hp := hp.1 hz
          rw [if_pos hz]
          obtain ⟨q4, hp⟩ := hp
          by_cases hz : (0 : Int32) ≤ (xf_235 M v1)
          · have hp := hp.1 hz
            rw [if_pos hz]
            obtain ⟨q6, hp⟩ := hp
            by_cases hz : v4 = (0 : Int32)
            · have hp := hp.1 hz
              obtain ⟨q12, hp⟩ := hp
              exact (xl_236 hL q6)
            · have hp := hp.2 hz
              by_cases hz : v4 = (1 : Int32)
              · have hp := hp.1 hz
                obtain ⟨q11, hp⟩ := hp
                exact (xl_236 hL q6)
              · have hp := hp.2 hz
                obtain ⟨q9, hp⟩ := hp
                obtain ⟨q10, hp⟩ := hp
                exact (xl_236 hL q6)
          · have hp := hp.2 hz
            rw [if_neg hz]
            obtain ⟨q13, hp⟩ := hp
            exact hL
        · have hp := hp.2 hz
          rw [if_neg hz]
          exact hL
      · have hp := hp.2 hz
        rw [if_neg hz]
        exact hL
    · have hp := hp.2 hz
      rw [if_neg hz]
      exact hL
  · have hp := hp.2 hz
    rw [if_neg hz]
    exact hL
theorem xwI_233 {M : ro_Mm} {v1 : Int32} {v2 : Int32} {v3 : Int32} {v4 : Int32} {c j : Nat} (n0 : c ≠ 181) (n1 : c ≠ 182) (n2 : c ≠ 163) (n3 : c ≠ 179) (n4 : c ≠ 180) : (xm_233 M v1 v2 v3 v4).2.1 c j = M.2.1 c j := by
  unfold xm_233
  by_cases hz : (xf_198 M v1)
  · rw [if_pos hz]
    by_cases hz : (xf_234 M v2)
    · rw [if_pos hz]
      by_cases hz : (xf_204 M v3)
      · rw [if_pos hz]
        by_cases hz : (xf_195 M v4 (0 : Int32) (2 : Int32))
        · rw [if_pos hz]
          by_cases hz : (0 : Int32) ≤ (xf_235 M v1)
          · rw [if_pos hz]
            first | done | exact (xwI_236 n0 n1 n2 n3 n4)
          · rw [if_neg hz]
            first | done | exact rfl
        · rw [if_neg hz]
          first | done | exact rfl
      · rw [if_neg hz]
        first | done | exact rfl
    · rw [if_neg hz]
      first | done | exact rfl
  · rw [if_neg hz]
    first | done | exact rfl
theorem xwJ_233 {M : ro_Mm} {v1 : Int32} {v2 : Int32} {v3 : Int32} {v4 : Int32} {c j : Nat} : (xm_233 M v1 v2 v3 v4).2.2.1 c j = M.2.2.1 c j := by
  unfold xm_233
  by_cases hz : (xf_198 M v1)
  · rw [if_pos hz]
    by_cases hz : (xf_234 M v2)
    · rw [if_pos hz]
      by_cases hz : (xf_204 M v3)
      · rw [if_pos hz]
        by_cases hz : (xf_195 M v4 (0 : Int32) (2 : Int32))
        · rw [if_pos hz]
          by_cases hz : (0 : Int32) ≤ (xf_235 M v1)
          · rw [if_pos hz]
            first | done | exact (xwJ_236)
          · rw [if_neg hz]
            first | done | exact rfl
        · rw [if_neg hz]
          first | done | exact rfl
      · rw [if_neg hz]
        first | done | exact rfl
    · rw [if_neg hz]
      first | done | exact rfl
  · rw [if_neg hz]
    first | done | exact rfl

