/-! methods that call themselves, by program (wip/whole/walk3.py, mk47.py) -/
/-- a loop of RefusedOnceModel.product()V -/
noncomputable def xg_218_4 (F219 : ro_Mm → ro_Mm) : Nat → ro_Mm → ro_Mm
  | 0, M => M
  | n + 1, M => (if (0 : Int32) ≤ (M.2.1 163 16) then M else (if (xf_220 M) = (42 : Int32) then (xg_218_4 F219 n (xm_222 (F219 (ro_sI M 163 15 ((M.2.1 163 15) + (1 : Int32)))) (xf_220 M) (0 : Int32))) else (if (xf_220 M) = (47 : Int32) then (xg_218_4 F219 n (xm_222 (F219 (ro_sI M 163 15 ((M.2.1 163 15) + (1 : Int32)))) (xf_220 M) (0 : Int32))) else (if (xf_220 M) = (37 : Int32) then (xg_218_4 F219 n (xm_222 (F219 (ro_sI M 163 15 ((M.2.1 163 15) + (1 : Int32)))) (xf_220 M) (0 : Int32))) else M))))
def xq_218_4 (F219 : ro_Mm → ro_Mm) (P219 : ro_Mm → Prop) : Nat → ro_Mm → Prop
  | 0, _ => False
  | n + 1, M => (((0 : Int32) ≤ (M.2.1 163 16) → True) ∧ (¬ ((0 : Int32) ≤ (M.2.1 163 16)) → (xp_220 M ∧ (((xf_220 M) = (42 : Int32) → (xp_220 M ∧ (P219 (ro_sI M 163 15 ((M.2.1 163 15) + (1 : Int32))) ∧ (xp_222 (F219 (ro_sI M 163 15 ((M.2.1 163 15) + (1 : Int32)))) (xf_220 M) (0 : Int32) ∧ (xq_218_4 F219 P219 n (xm_222 (F219 (ro_sI M 163 15 ((M.2.1 163 15) + (1 : Int32)))) (xf_220 M) (0 : Int32))))))) ∧ (¬ ((xf_220 M) = (42 : Int32)) → (xp_220 M ∧ (((xf_220 M) = (47 : Int32) → (xp_220 M ∧ (P219 (ro_sI M 163 15 ((M.2.1 163 15) + (1 : Int32))) ∧ (xp_222 (F219 (ro_sI M 163 15 ((M.2.1 163 15) + (1 : Int32)))) (xf_220 M) (0 : Int32) ∧ (xq_218_4 F219 P219 n (xm_222 (F219 (ro_sI M 163 15 ((M.2.1 163 15) + (1 : Int32)))) (xf_220 M) (0 : Int32))))))) ∧ (¬ ((xf_220 M) = (47 : Int32)) → (xp_220 M ∧ (((xf_220 M) = (37 : Int32) → (xp_220 M ∧ (P219 (ro_sI M 163 15 ((M.2.1 163 15) + (1 : Int32))) ∧ (xp_222 (F219 (ro_sI M 163 15 ((M.2.1 163 15) + (1 : Int32)))) (xf_220 M) (0 : Int32) ∧ (xq_218_4 F219 P219 n (xm_222 (F219 (ro_sI M 163 15 ((M.2.1 163 15) + (1 : Int32)))) (xf_220 M) (0 : Int32))))))) ∧ (¬ ((xf_220 M) = (37 : Int32)) → True)))))))))))
theorem xl_218_4 {X : ro_Sx} {k : Nat} {F219 : ro_Mm → ro_Mm} {P219 : ro_Mm → Prop} (hF219 : ∀ {M : ro_Mm}, ro_lay M → P219 M → ro_cwp X k 219 [.ref 163] M (fun v M2 => v = none ∧ M2 = (F219 M))) (hl219 : ∀ {M : ro_Mm}, ro_lay M → P219 M → ro_lay (F219 M)) : ∀ (n : Nat) {M : ro_Mm} (hL : ro_lay M) (hp : xq_218_4 F219 P219 n M), ro_lay (xg_218_4 F219 n M) := by
  intro n
  induction n with
  | zero => intro M hL hp; exact False.elim hp
  | succ n ih =>
    intro M hL hp
    rw [xq_218_4] at hp
    rw [xg_218_4]
    by_cases hz : (0 : Int32) ≤ (M.2.1 163 16)
    · have hp := hp.1 hz
      rw [if_pos hz]
      exact hL
    · have hp := hp.2 hz
      rw [if_neg hz]
      obtain ⟨q2, hp⟩ := hp
      by_cases hz : (xf_220 M) = (42 : Int32)
      · have hp := hp.1 hz
        rw [if_pos hz]
        obtain ⟨q4, hp⟩ := hp
        obtain ⟨q5, hp⟩ := hp
        obtain ⟨q6, hp⟩ := hp
        exact ih (xl_222 (hl219 hL q5) q6)  hp
      · have hp := hp.2 hz
        rw [if_neg hz]
        obtain ⟨q7, hp⟩ := hp
        by_cases hz : (xf_220 M) = (47 : Int32)
        · have hp := hp.1 hz
          rw [if_pos hz]
          obtain ⟨q9, hp⟩ := hp
          obtain ⟨q10, hp⟩ := hp
          obtain ⟨q11, hp⟩ := hp
          exact ih (xl_222 (hl219 hL q10) q11)  hp
        · have hp := hp.2 hz
          rw [if_neg hz]
          obtain ⟨q12, hp⟩ := hp
          by_cases hz : (xf_220 M) = (37 : Int32)
          · have hp := hp.1 hz
            rw [if_pos hz]
            obtain ⟨q14, hp⟩ := hp
            obtain ⟨q15, hp⟩ := hp
            obtain ⟨q16, hp⟩ := hp
            exact ih (xl_222 (hl219 hL q15) q16)  hp
          · have hp := hp.2 hz
            rw [if_neg hz]
            exact hL
/-- RefusedOnceModel.product()V -/
noncomputable def xm_218 (F219 : ro_Mm → ro_Mm) (M : ro_Mm) : ro_Mm := (xg_218_4 F219 lp_N (F219 M))
def xp_218 (F219 : ro_Mm → ro_Mm) (P219 : ro_Mm → Prop) (M : ro_Mm) : Prop := (P219 M ∧ (xq_218_4 F219 P219 lp_N (F219 M) ∧ True))
theorem xl_218 {X : ro_Sx} {k : Nat} {F219 : ro_Mm → ro_Mm} {P219 : ro_Mm → Prop} (hF219 : ∀ {M : ro_Mm}, ro_lay M → P219 M → ro_cwp X k 219 [.ref 163] M (fun v M2 => v = none ∧ M2 = (F219 M))) (hl219 : ∀ {M : ro_Mm}, ro_lay M → P219 M → ro_lay (F219 M)) {M : ro_Mm} (hL : ro_lay M) (hp : xp_218 F219 P219 M) : ro_lay (xm_218 F219 M) := by
  unfold xp_218 at hp
  unfold xm_218
  obtain ⟨q0, hp⟩ := hp
  obtain ⟨q17, hp⟩ := hp
  first | exact (xl_218_4 hF219 hl219 lp_N (hl219 hL q0) q17) | (have hl := (xl_218_4 hF219 hl219 lp_N (hl219 hL q0) q17); exact hl)
/-- a loop of RefusedOnceModel.sum()V -/
noncomputable def xg_217_4 (F219 : ro_Mm → ro_Mm) : Nat → ro_Mm → ro_Mm
  | 0, M => M
  | n + 1, M => (if (0 : Int32) ≤ (M.2.1 163 16) then M else (if (xf_220 M) = (43 : Int32) then (xg_217_4 F219 n (xm_222 (xm_218 F219 (ro_sI M 163 15 ((M.2.1 163 15) + (1 : Int32)))) (xf_220 M) (0 : Int32))) else (if (xf_220 M) = (45 : Int32) then (xg_217_4 F219 n (xm_222 (xm_218 F219 (ro_sI M 163 15 ((M.2.1 163 15) + (1 : Int32)))) (xf_220 M) (0 : Int32))) else M)))
def xq_217_4 (F219 : ro_Mm → ro_Mm) (P219 : ro_Mm → Prop) : Nat → ro_Mm → Prop
  | 0, _ => False
  | n + 1, M => (((0 : Int32) ≤ (M.2.1 163 16) → True) ∧ (¬ ((0 : Int32) ≤ (M.2.1 163 16)) → (xp_220 M ∧ (((xf_220 M) = (43 : Int32) → (xp_220 M ∧ (xp_218 F219 P219 (ro_sI M 163 15 ((M.2.1 163 15) + (1 : Int32))) ∧ (xp_222 (xm_218 F219 (ro_sI M 163 15 ((M.2.1 163 15) + (1 : Int32)))) (xf_220 M) (0 : Int32) ∧ (xq_217_4 F219 P219 n (xm_222 (xm_218 F219 (ro_sI M 163 15 ((M.2.1 163 15) + (1 : Int32)))) (xf_220 M) (0 : Int32))))))) ∧ (¬ ((xf_220 M) = (43 : Int32)) → (xp_220 M ∧ (((xf_220 M) = (45 : Int32) → (xp_220 M ∧ (xp_218 F219 P219 (ro_sI M 163 15 ((M.2.1 163 15) + (1 : Int32))) ∧ (xp_222 (xm_218 F219 (ro_sI M 163 15 ((M.2.1 163 15) + (1 : Int32)))) (xf_220 M) (0 : Int32) ∧ (xq_217_4 F219 P219 n (xm_222 (xm_218 F219 (ro_sI M 163 15 ((M.2.1 163 15) + (1 : Int32)))) (xf_220 M) (0 : Int32))))))) ∧ (¬ ((xf_220 M) = (45 : Int32)) → True))))))))
theorem xl_217_4 {X : ro_Sx} {k : Nat} {F219 : ro_Mm → ro_Mm} {P219 : ro_Mm → Prop} (hF219 : ∀ {M : ro_Mm}, ro_lay M → P219 M → ro_cwp X k 219 [.ref 163] M (fun v M2 => v = none ∧ M2 = (F219 M))) (hl219 : ∀ {M : ro_Mm}, ro_lay M → P219 M → ro_lay (F219 M)) : ∀ (n : Nat) {M : ro_Mm} (hL : ro_lay M) (hp : xq_217_4 F219 P219 n M), ro_lay (xg_217_4 F219 n M) := by
  intro n
  induction n with
  | zero => intro M hL hp; exact False.elim hp
  | succ n ih =>
    intro M hL hp
    rw [xq_217_4] at hp
    rw [xg_217_4]
    by_cases hz : (0 : Int32) ≤ (M.2.1 163 16)
    · have hp := hp.1 hz
      rw [if_pos hz]
      exact hL
    · have hp := hp.2 hz
      rw [if_neg hz]
      obtain ⟨q2, hp⟩ := hp
      by_cases hz : (xf_220 M) = (43 : Int32)
      · have hp := hp.1 hz
        rw [if_pos hz]
        obtain ⟨q4, hp⟩ := hp
        obtain ⟨q5, hp⟩ := hp
        obtain ⟨q6, hp⟩ := hp
        exact ih (xl_222 (xl_218 hF219 hl219 hL q5) q6)  hp
      · have hp := hp.2 hz
        rw [if_neg hz]
        obtain ⟨q7, hp⟩ := hp
        by_cases hz : (xf_220 M) = (45 : Int32)
        · have hp := hp.1 hz
          rw [if_pos hz]
          obtain ⟨q9, hp⟩ := hp
          obtain ⟨q10, hp⟩ := hp
          obtain ⟨q11, hp⟩ := hp
          exact ih (xl_222 (xl_218 hF219 hl219 hL q10) q11)  hp
        · have hp := hp.2 hz
          rw [if_neg hz]
          exact hL
/-- RefusedOnceModel.sum()V -/
noncomputable def xm_217 (F219 : ro_Mm → ro_Mm) (M : ro_Mm) : ro_Mm := (xg_217_4 F219 lp_N (xm_218 F219 M))
def xp_217 (F219 : ro_Mm → ro_Mm) (P219 : ro_Mm → Prop) (M : ro_Mm) : Prop := (xp_218 F219 P219 M ∧ (xq_217_4 F219 P219 lp_N (xm_218 F219 M) ∧ True))
theorem xl_217 {X : ro_Sx} {k : Nat} {F219 : ro_Mm → ro_Mm} {P219 : ro_Mm → Prop} (hF219 : ∀ {M : ro_Mm}, ro_lay M → P219 M → ro_cwp X k 219 [.ref 163] M (fun v M2 => v = none ∧ M2 = (F219 M))) (hl219 : ∀ {M : ro_Mm}, ro_lay M → P219 M → ro_lay (F219 M)) {M : ro_Mm} (hL : ro_lay M) (hp : xp_217 F219 P219 M) : ro_lay (xm_217 F219 M) := by
  unfold xp_217 at hp
  unfold xm_217
  obtain ⟨q0, hp⟩ := hp
  obtain ⟨q12, hp⟩ := hp
  first | exact (xl_217_4 hF219 hl219 lp_N (xl_218 hF219 hl219 hL q0) q12) | (have hl := (xl_217_4 hF219 hl219 lp_N (xl_218 hF219 hl219 hL q0) q12); exact hl)
/-- RefusedOnceModel.compared()V -/
noncomputable def xm_216 (F219 : ro_Mm → ro_Mm) (M : ro_Mm) : ro_Mm := (if (0 : Int32) ≤ ((xm_217 F219 M).2.1 163 16) then (xm_217 F219 M) else (if (xf_220 (xm_217 F219 M)) = (60 : Int32) then (xm_222 (xm_217 F219 (ro_sI (xm_217 F219 M) 163 15 (((xm_217 F219 M).2.1 163 15) + (1 : Int32)))) (xf_220 (xm_217 F219 M)) (0 : Int32)) else (if (xf_220 (xm_217 F219 M)) = (61 : Int32) then (xm_222 (xm_217 F219 (ro_sI (xm_217 F219 M) 163 15 (((xm_217 F219 M).2.1 163 15) + (1 : Int32)))) (xf_220 (xm_217 F219 M)) (0 : Int32)) else (if (xf_220 (xm_217 F219 M)) = (62 : Int32) then (xm_222 (xm_217 F219 (ro_sI (xm_217 F219 M) 163 15 (((xm_217 F219 M).2.1 163 15) + (1 : Int32)))) (xf_220 (xm_217 F219 M)) (0 : Int32)) else (xm_217 F219 M)))))
def xp_216 (F219 : ro_Mm → ro_Mm) (P219 : ro_Mm → Prop) (M : ro_Mm) : Prop := (xp_217 F219 P219 M ∧ (xp_220 (xm_217 F219 M) ∧ (((0 : Int32) ≤ ((xm_217 F219 M).2.1 163 16) → True) ∧ (¬ ((0 : Int32) ≤ ((xm_217 F219 M).2.1 163 16)) → (((xf_220 (xm_217 F219 M)) = (60 : Int32) → (xp_217 F219 P219 (ro_sI (xm_217 F219 M) 163 15 (((xm_217 F219 M).2.1 163 15) + (1 : Int32))) ∧ (xp_222 (xm_217 F219 (ro_sI (xm_217 F219 M) 163 15 (((xm_217 F219 M).2.1 163 15) + (1 : Int32)))) (xf_220 (xm_217 F219 M)) (0 : Int32) ∧ True))) ∧ (¬ ((xf_220 (xm_217 F219 M)) = (60 : Int32)) → (((xf_220 (xm_217 F219 M)) = (61 : Int32) → (xp_217 F219 P219 (ro_sI (xm_217 F219 M) 163 15 (((xm_217 F219 M).2.1 163 15) + (1 : Int32))) ∧ (xp_222 (xm_217 F219 (ro_sI (xm_217 F219 M) 163 15 (((xm_217 F219 M).2.1 163 15) + (1 : Int32)))) (xf_220 (xm_217 F219 M)) (0 : Int32) ∧ True))) ∧ (¬ ((xf_220 (xm_217 F219 M)) = (61 : Int32)) → (((xf_220 (xm_217 F219 M)) = (62 : Int32) → (xp_217 F219 P219 (ro_sI (xm_217 F219 M) 163 15 (((xm_217 F219 M).2.1 163 15) + (1 : Int32))) ∧ (xp_222 (xm_217 F219 (ro_sI (xm_217 F219 M) 163 15 (((xm_217 F219 M).2.1 163 15) + (1 : Int32)))) (xf_220 (xm_217 F219 M)) (0 : Int32) ∧ True))) ∧ (¬ ((xf_220 (xm_217 F219 M)) = (62 : Int32)) → True))))))))))
theorem xl_216 {X : ro_Sx} {k : Nat} {F219 : ro_Mm → ro_Mm} {P219 : ro_Mm → Prop} (hF219 : ∀ {M : ro_Mm}, ro_lay M → P219 M → ro_cwp X k 219 [.ref 163] M (fun v M2 => v = none ∧ M2 = (F219 M))) (hl219 : ∀ {M : ro_Mm}, ro_lay M → P219 M → ro_lay (F219 M)) {M : ro_Mm} (hL : ro_lay M) (hp : xp_216 F219 P219 M) : ro_lay (xm_216 F219 M) := by
  unfold xp_216 at hp
  unfold xm_216
  obtain ⟨q0, hp⟩ := hp
  obtain ⟨q1, hp⟩ := hp
  by_cases hz : (0 : Int32) ≤ ((xm_217 F219 M).2.1 163 16)
  · have hp := hp.1 hz
    rw [if_pos hz]
    first | exact (xl_217 hF219 hl219 hL q0) | (have hl := (xl_217 hF219 hl219 hL q0); exact hl)
  · have hp := hp.2 hz
    rw [if_neg hz]
    by_cases hz : (xf_220 (xm_217 F219 M)) = (60 : Int32)
    · have hp := hp.1 hz
      rw [if_pos hz]
      obtain ⟨q4, hp⟩ := hp
      obtain ⟨q5, hp⟩ := hp
      first | exact (xl_222 (xl_217 hF219 hl219 (xl_217 hF219 hl219 hL q0) q4) q5) | (have hl := (xl_222 (xl_217 hF219 hl219 (xl_217 hF219 hl219 hL q0) q4) q5); exact hl)
    · have hp := hp.2 hz
      rw [if_neg hz]
      by_cases hz : (xf_220 (xm_217 F219 M)) = (61 : Int32)
      · have hp := hp.1 hz
        rw [if_pos hz]
        obtain ⟨q7, hp⟩ := hp
        obtain ⟨q8, hp⟩ := hp
        first | exact (xl_222 (xl_217 hF219 hl219 (xl_217 hF219 hl219 hL q0) q7) q8) | (have hl := (xl_222 (xl_217 hF219 hl219 (xl_217 hF219 hl219 hL q0) q7) q8); exact hl)
      · have hp := hp.2 hz
        rw [if_neg hz]
        by_cases hz : (xf_220 (xm_217 F219 M)) = (62 : Int32)
        · have hp := hp.1 hz
          rw [if_pos hz]
          obtain ⟨q10, hp⟩ := hp
          obtain ⟨q11, hp⟩ := hp
          first | exact (xl_222 (xl_217 hF219 hl219 (xl_217 hF219 hl219 hL q0) q10) q11) | (have hl := (xl_222 (xl_217 hF219 hl219 (xl_217 hF219 hl219 hL q0) q10) q11); exact hl)
        · have hp := hp.2 hz
          rw [if_neg hz]
          first | exact (xl_217 hF219 hl219 hL q0) | (have hl := (xl_217 hF219 hl219 hL q0); exact hl)
/-- a loop of RefusedOnceModel.both()V -/
noncomputable def xg_215_4 (F219 : ro_Mm → ro_Mm) : Nat → ro_Mm → ro_Mm
  | 0, M => M
  | n + 1, M => (if (0 : Int32) ≤ (M.2.1 163 16) then M else (if (xf_220 M) = (38 : Int32) then (xg_215_4 F219 n (xm_222 (xm_216 F219 (ro_sI M 163 15 ((M.2.1 163 15) + (1 : Int32)))) (38 : Int32) (0 : Int32))) else M))
def xq_215_4 (F219 : ro_Mm → ro_Mm) (P219 : ro_Mm → Prop) : Nat → ro_Mm → Prop
  | 0, _ => False
  | n + 1, M => (((0 : Int32) ≤ (M.2.1 163 16) → True) ∧ (¬ ((0 : Int32) ≤ (M.2.1 163 16)) → (xp_220 M ∧ (((xf_220 M) = (38 : Int32) → (xp_216 F219 P219 (ro_sI M 163 15 ((M.2.1 163 15) + (1 : Int32))) ∧ (xp_222 (xm_216 F219 (ro_sI M 163 15 ((M.2.1 163 15) + (1 : Int32)))) (38 : Int32) (0 : Int32) ∧ (xq_215_4 F219 P219 n (xm_222 (xm_216 F219 (ro_sI M 163 15 ((M.2.1 163 15) + (1 : Int32)))) (38 : Int32) (0 : Int32)))))) ∧ (¬ ((xf_220 M) = (38 : Int32)) → True)))))
theorem xl_215_4 {X : ro_Sx} {k : Nat} {F219 : ro_Mm → ro_Mm} {P219 : ro_Mm → Prop} (hF219 : ∀ {M : ro_Mm}, ro_lay M → P219 M → ro_cwp X k 219 [.ref 163] M (fun v M2 => v = none ∧ M2 = (F219 M))) (hl219 : ∀ {M : ro_Mm}, ro_lay M → P219 M → ro_lay (F219 M)) : ∀ (n : Nat) {M : ro_Mm} (hL : ro_lay M) (hp : xq_215_4 F219 P219 n M), ro_lay (xg_215_4 F219 n M) := by
  intro n
  induction n with
  | zero => intro M hL hp; exact False.elim hp
  | succ n ih =>
    intro M hL hp
    rw [xq_215_4] at hp
    rw [xg_215_4]
    by_cases hz : (0 : Int32) ≤ (M.2.1 163 16)
    · have hp := hp.1 hz
      rw [if_pos hz]
      exact hL
    · have hp := hp.2 hz
      rw [if_neg hz]
      obtain ⟨q2, hp⟩ := hp
      by_cases hz : (xf_220 M) = (38 : Int32)
      · have hp := hp.1 hz
        rw [if_pos hz]
        obtain ⟨q4, hp⟩ := hp
        obtain ⟨q5, hp⟩ := hp
        exact ih (xl_222 (xl_216 hF219 hl219 hL q4) q5)  hp
      · have hp := hp.2 hz
        rw [if_neg hz]
        exact hL
/-- RefusedOnceModel.both()V -/
noncomputable def xm_215 (F219 : ro_Mm → ro_Mm) (M : ro_Mm) : ro_Mm := (xg_215_4 F219 lp_N (xm_216 F219 M))
def xp_215 (F219 : ro_Mm → ro_Mm) (P219 : ro_Mm → Prop) (M : ro_Mm) : Prop := (xp_216 F219 P219 M ∧ (xq_215_4 F219 P219 lp_N (xm_216 F219 M) ∧ True))
theorem xl_215 {X : ro_Sx} {k : Nat} {F219 : ro_Mm → ro_Mm} {P219 : ro_Mm → Prop} (hF219 : ∀ {M : ro_Mm}, ro_lay M → P219 M → ro_cwp X k 219 [.ref 163] M (fun v M2 => v = none ∧ M2 = (F219 M))) (hl219 : ∀ {M : ro_Mm}, ro_lay M → P219 M → ro_lay (F219 M)) {M : ro_Mm} (hL : ro_lay M) (hp : xp_215 F219 P219 M) : ro_lay (xm_215 F219 M) := by
  unfold xp_215 at hp
  unfold xm_215
  obtain ⟨q0, hp⟩ := hp
  obtain ⟨q6, hp⟩ := hp
  first | exact (xl_215_4 hF219 hl219 lp_N (xl_216 hF219 hl219 hL q0) q6) | (have hl := (xl_215_4 hF219 hl219 lp_N (xl_216 hF219 hl219 hL q0) q6); exact hl)
/-- a loop of RefusedOnceModel.either()V -/
noncomputable def xg_214_4 (F219 : ro_Mm → ro_Mm) : Nat → ro_Mm → ro_Mm
  | 0, M => M
  | n + 1, M => (if (0 : Int32) ≤ (M.2.1 163 16) then M else (if (xf_220 M) = (124 : Int32) then (xg_214_4 F219 n (xm_222 (xm_215 F219 (ro_sI M 163 15 ((M.2.1 163 15) + (1 : Int32)))) (124 : Int32) (0 : Int32))) else M))
def xq_214_4 (F219 : ro_Mm → ro_Mm) (P219 : ro_Mm → Prop) : Nat → ro_Mm → Prop
  | 0, _ => False
  | n + 1, M => (((0 : Int32) ≤ (M.2.1 163 16) → True) ∧ (¬ ((0 : Int32) ≤ (M.2.1 163 16)) → (xp_220 M ∧ (((xf_220 M) = (124 : Int32) → (xp_215 F219 P219 (ro_sI M 163 15 ((M.2.1 163 15) + (1 : Int32))) ∧ (xp_222 (xm_215 F219 (ro_sI M 163 15 ((M.2.1 163 15) + (1 : Int32)))) (124 : Int32) (0 : Int32) ∧ (xq_214_4 F219 P219 n (xm_222 (xm_215 F219 (ro_sI M 163 15 ((M.2.1 163 15) + (1 : Int32)))) (124 : Int32) (0 : Int32)))))) ∧ (¬ ((xf_220 M) = (124 : Int32)) → True)))))
theorem xl_214_4 {X : ro_Sx} {k : Nat} {F219 : ro_Mm → ro_Mm} {P219 : ro_Mm → Prop} (hF219 : ∀ {M : ro_Mm}, ro_lay M → P219 M → ro_cwp X k 219 [.ref 163] M (fun v M2 => v = none ∧ M2 = (F219 M))) (hl219 : ∀ {M : ro_Mm}, ro_lay M → P219 M → ro_lay (F219 M)) : ∀ (n : Nat) {M : ro_Mm} (hL : ro_lay M) (hp : xq_214_4 F219 P219 n M), ro_lay (xg_214_4 F219 n M) := by
  intro n
  induction n with
  | zero => intro M hL hp; exact False.elim hp
  | succ n ih =>
    intro M hL hp
    rw [xq_214_4] at hp
    rw [xg_214_4]
    by_cases hz : (0 : Int32) ≤ (M.2.1 163 16)
    · have hp := hp.1 hz
      rw [if_pos hz]
      exact hL
    · have hp := hp.2 hz
      rw [if_neg hz]
      obtain ⟨q2, hp⟩ := hp
      by_cases hz : (xf_220 M) = (124 : Int32)
      · have hp := hp.1 hz
        rw [if_pos hz]
        obtain ⟨q4, hp⟩ := hp
        obtain ⟨q5, hp⟩ := hp
        exact ih (xl_222 (xl_215 hF219 hl219 hL q4) q5)  hp
      · have hp := hp.2 hz
        rw [if_neg hz]
        exact hL
/-- RefusedOnceModel.either()V -/
noncomputable def xm_214 (F219 : ro_Mm → ro_Mm) (M : ro_Mm) : ro_Mm := (xg_214_4 F219 lp_N (xm_215 F219 M))
def xp_214 (F219 : ro_Mm → ro_Mm) (P219 : ro_Mm → Prop) (M : ro_Mm) : Prop := (xp_215 F219 P219 M ∧ (xq_214_4 F219 P219 lp_N (xm_215 F219 M) ∧ True))
theorem xl_214 {X : ro_Sx} {k : Nat} {F219 : ro_Mm → ro_Mm} {P219 : ro_Mm → Prop} (hF219 : ∀ {M : ro_Mm}, ro_lay M → P219 M → ro_cwp X k 219 [.ref 163] M (fun v M2 => v = none ∧ M2 = (F219 M))) (hl219 : ∀ {M : ro_Mm}, ro_lay M → P219 M → ro_lay (F219 M)) {M : ro_Mm} (hL : ro_lay M) (hp : xp_214 F219 P219 M) : ro_lay (xm_214 F219 M) := by
  unfold xp_214 at hp
  unfold xm_214
  obtain ⟨q0, hp⟩ := hp
  obtain ⟨q6, hp⟩ := hp
  first | exact (xl_214_4 hF219 hl219 lp_N (xl_215 hF219 hl219 hL q0) q6) | (have hl := (xl_214_4 hF219 hl219 lp_N (xl_215 hF219 hl219 hL q0) q6); exact hl)
/-- RefusedOnceModel.operand()V -/
noncomputable def xmb_219 (F219 : ro_Mm → ro_Mm) (M : ro_Mm) : ro_Mm := (if (xf_221 M (xf_220 M)) < (0 : Int32) then (if (xf_220 M) = (33 : Int32) then (if (xf_223 M) then (xm_222 (ro_sI (F219 (xm_223 M)) 163 17 (((F219 (xm_223 M)).2.1 163 17) - (1 : Int32))) (3 : Int32) (0 : Int32)) else (xm_223 M)) else (if (xf_220 M) = (45 : Int32) then (if (xf_223 M) then (xm_222 (ro_sI (F219 (xm_223 M)) 163 17 (((F219 (xm_223 M)).2.1 163 17) - (1 : Int32))) (4 : Int32) (0 : Int32)) else (xm_223 M)) else (if (xf_220 M) = (40 : Int32) then (if (xf_223 M) then (if ((xm_214 F219 (xm_223 M)).2.1 163 16) < (0 : Int32) then (if (xf_220 (xm_214 F219 (xm_223 M))) = (41 : Int32) then (ro_sI (ro_sI (xm_214 F219 (xm_223 M)) 163 15 (((xm_214 F219 (xm_223 M)).2.1 163 15) + (1 : Int32))) 163 17 (((xm_214 F219 (xm_223 M)).2.1 163 17) - (1 : Int32))) else (xm_224 (xm_214 F219 (xm_223 M)))) else (xm_214 F219 (xm_223 M))) else (xm_223 M)) else (xm_225 M)))) else (ro_sI (xm_222 M (2 : Int32) (xf_221 M (xf_220 M))) 163 15 (((xm_222 M (2 : Int32) (xf_221 M (xf_220 M))).2.1 163 15) + (1 : Int32))))
def xpb_219 (F219 : ro_Mm → ro_Mm) (P219 : ro_Mm → Prop) (M : ro_Mm) : Prop := (xp_220 M ∧ (((xf_221 M (xf_220 M)) < (0 : Int32) → (((xf_220 M) = (33 : Int32) → (((xf_223 M) → (P219 (xm_223 M) ∧ (xp_222 (ro_sI (F219 (xm_223 M)) 163 17 (((F219 (xm_223 M)).2.1 163 17) - (1 : Int32))) (3 : Int32) (0 : Int32) ∧ True))) ∧ (¬ ((xf_223 M)) → True))) ∧ (¬ ((xf_220 M) = (33 : Int32)) → (((xf_220 M) = (45 : Int32) → (((xf_223 M) → (P219 (xm_223 M) ∧ (xp_222 (ro_sI (F219 (xm_223 M)) 163 17 (((F219 (xm_223 M)).2.1 163 17) - (1 : Int32))) (4 : Int32) (0 : Int32) ∧ True))) ∧ (¬ ((xf_223 M)) → True))) ∧ (¬ ((xf_220 M) = (45 : Int32)) → (((xf_220 M) = (40 : Int32) → (((xf_223 M) → (xp_214 F219 P219 (xm_223 M) ∧ ((((xm_214 F219 (xm_223 M)).2.1 163 16) < (0 : Int32) → (xp_220 (xm_214 F219 (xm_223 M)) ∧ True)) ∧ (¬ (((xm_214 F219 (xm_223 M)).2.1 163 16) < (0 : Int32)) → True)))) ∧ (¬ ((xf_223 M)) → True))) ∧ (¬ ((xf_220 M) = (40 : Int32)) → (xp_225 M ∧ True)))))))) ∧ (¬ ((xf_221 M (xf_220 M)) < (0 : Int32)) → (xp_222 M (2 : Int32) (xf_221 M (xf_220 M)) ∧ True))))
theorem xlb_219 {X : ro_Sx} {k : Nat} {F219 : ro_Mm → ro_Mm} {P219 : ro_Mm → Prop} (hF219 : ∀ {M : ro_Mm}, ro_lay M → P219 M → ro_cwp X k 219 [.ref 163] M (fun v M2 => v = none ∧ M2 = (F219 M))) (hl219 : ∀ {M : ro_Mm}, ro_lay M → P219 M → ro_lay (F219 M)) {M : ro_Mm} (hL : ro_lay M) (hp : xpb_219 F219 P219 M) : ro_lay (xmb_219 F219 M) := by
  unfold xpb_219 at hp
  unfold xmb_219
  obtain ⟨q0, hp⟩ := hp
  by_cases hz : (xf_221 M (xf_220 M)) < (0 : Int32)
  · have hp := hp.1 hz
    rw [if_pos hz]
    by_cases hz : (xf_220 M) = (33 : Int32)
    · have hp := hp.1 hz
      rw [if_pos hz]
      by_cases hz : (xf_223 M)
      · have hp := hp.1 hz
        rw [if_pos hz]
        obtain ⟨q4, hp⟩ := hp
        obtain ⟨q6, hp⟩ := hp
        first | exact (xl_222 (hl219 (xl_223 hL) q4) q6) | (have hl := (xl_222 (hl219 (xl_223 hL) q4) q6); exact hl)
      · have hp := hp.2 hz
        rw [if_neg hz]
        first | exact (xl_223 hL) | (have hl := (xl_223 hL); exact hl)
    · have hp := hp.2 hz
      rw [if_neg hz]
      by_cases hz : (xf_220 M) = (45 : Int32)
      · have hp := hp.1 hz
        rw [if_pos hz]
        by_cases hz : (xf_223 M)
        · have hp := hp.1 hz
          rw [if_pos hz]
          obtain ⟨q16, hp⟩ := hp
          obtain ⟨q18, hp⟩ := hp
          first | exact (xl_222 (hl219 (xl_223 hL) q16) q18) | (have hl := (xl_222 (hl219 (xl_223 hL) q16) q18); exact hl)
        · have hp := hp.2 hz
          rw [if_neg hz]
          first | exact (xl_223 hL) | (have hl := (xl_223 hL); exact hl)
      · have hp := hp.2 hz
        rw [if_neg hz]
        by_cases hz : (xf_220 M) = (40 : Int32)
        · have hp := hp.1 hz
          rw [if_pos hz]
          by_cases hz : (xf_223 M)
          · have hp := hp.1 hz
            rw [if_pos hz]
            obtain ⟨q11, hp⟩ := hp
            by_cases hz : ((xm_214 F219 (xm_223 M)).2.1 163 16) < (0 : Int32)
            · have hp := hp.1 hz
              rw [if_pos hz]
              obtain ⟨q13, hp⟩ := hp
              by_cases hz : (xf_220 (xm_214 F219 (xm_223 M))) = (41 : Int32)
              · skip
                rw [if_pos hz]
                first | exact (xl_214 hF219 hl219 (xl_223 hL) q11) | (have hl := (xl_214 hF219 hl219 (xl_223 hL) q11); exact hl)
              · skip
                rw [if_neg hz]
                first | exact (xl_224 (xl_214 hF219 hl219 (xl_223 hL) q11)) | (have hl := (xl_224 (xl_214 hF219 hl219 (xl_223 hL) q11)); exact hl)
            · have hp := hp.2 hz
              rw [if_neg hz]
              first | exact (xl_214 hF219 hl219 (xl_223 hL) q11) | (have hl := (xl_214 hF219 hl219 (xl_223 hL) q11); exact hl)
          · have hp := hp.2 hz
            rw [if_neg hz]
            first | exact (xl_223 hL) | (have hl := (xl_223 hL); exact hl)
        · have hp := hp.2 hz
          rw [if_neg hz]
          obtain ⟨q9, hp⟩ := hp
          first | exact (xl_225 hL q9) | (have hl := (xl_225 hL q9); exact hl)
  · have hp := hp.2 hz
    rw [if_neg hz]
    obtain ⟨q19, hp⟩ := hp
    first | exact (xl_222 hL q19) | (have hl := (xl_222 hL q19); exact hl)
noncomputable def xr_opd : Nat → (ro_Mm → ro_Mm)
  | 0 => fun M => M
  | n + 1 => fun M => (xmb_219 (xr_opd n) M)
def xpr_opd : Nat → (ro_Mm → Prop)
  | 0 => fun _ => False
  | n + 1 => fun M => xpb_219 (xr_opd n) (xpr_opd n) M
noncomputable def xm_219 (M : ro_Mm) : ro_Mm := (xr_opd rc_N M)
def xp_219 (M : ro_Mm) : Prop := xpr_opd rc_N M
noncomputable def xm_214o (M : ro_Mm) : ro_Mm := xm_214 (xr_opd rc_N) M
def xp_214o (M : ro_Mm) : Prop := xp_214 (xr_opd rc_N) (xpr_opd rc_N) M
/-- RefusedOnceModel.line()V -/
noncomputable def xm_213 (M : ro_Mm) : ro_Mm := (if (0 : Int32) ≤ ((xm_214o (ro_sI M 177 (((61 : Int32) + (M.2.1 176 1)).toNatClampNeg) (vp_nar .short ((M.2.1 163 18).toInt16.toInt32)))).2.1 163 16) then (ro_sI (ro_sI (xm_214o (ro_sI M 177 (((61 : Int32) + (M.2.1 176 1)).toNatClampNeg) (vp_nar .short ((M.2.1 163 18).toInt16.toInt32)))) 178 (((61 : Int32) + (M.2.1 176 1)).toNatClampNeg) (vp_nar .short (((xm_214o (ro_sI M 177 (((61 : Int32) + (M.2.1 176 1)).toNatClampNeg) (vp_nar .short ((M.2.1 163 18).toInt16.toInt32)))).2.1 163 18).toInt16.toInt32))) 176 1 (((xm_214o (ro_sI M 177 (((61 : Int32) + (M.2.1 176 1)).toNatClampNeg) (vp_nar .short ((M.2.1 163 18).toInt16.toInt32)))).2.1 176 1) + (1 : Int32))) else (if (xf_220 (xm_214o (ro_sI M 177 (((61 : Int32) + (M.2.1 176 1)).toNatClampNeg) (vp_nar .short ((M.2.1 163 18).toInt16.toInt32))))) = (63 : Int32) then (ro_sI (ro_sI (xm_214o (ro_sI (ro_sI (xm_214o (ro_sI M 177 (((61 : Int32) + (M.2.1 176 1)).toNatClampNeg) (vp_nar .short ((M.2.1 163 18).toInt16.toInt32)))) 163 15 (((xm_214o (ro_sI M 177 (((61 : Int32) + (M.2.1 176 1)).toNatClampNeg) (vp_nar .short ((M.2.1 163 18).toInt16.toInt32)))).2.1 163 15) + (1 : Int32))) 177 (((61 : Int32) + (M.2.1 176 1)).toNatClampNeg) (vp_nar .short (((xm_214o (ro_sI M 177 (((61 : Int32) + (M.2.1 176 1)).toNatClampNeg) (vp_nar .short ((M.2.1 163 18).toInt16.toInt32)))).2.1 163 18).toInt16.toInt32)))) 178 (((61 : Int32) + (M.2.1 176 1)).toNatClampNeg) (vp_nar .short (((xm_214o (ro_sI (ro_sI (xm_214o (ro_sI M 177 (((61 : Int32) + (M.2.1 176 1)).toNatClampNeg) (vp_nar .short ((M.2.1 163 18).toInt16.toInt32)))) 163 15 (((xm_214o (ro_sI M 177 (((61 : Int32) + (M.2.1 176 1)).toNatClampNeg) (vp_nar .short ((M.2.1 163 18).toInt16.toInt32)))).2.1 163 15) + (1 : Int32))) 177 (((61 : Int32) + (M.2.1 176 1)).toNatClampNeg) (vp_nar .short (((xm_214o (ro_sI M 177 (((61 : Int32) + (M.2.1 176 1)).toNatClampNeg) (vp_nar .short ((M.2.1 163 18).toInt16.toInt32)))).2.1 163 18).toInt16.toInt32)))).2.1 163 18).toInt16.toInt32))) 176 1 (((xm_214o (ro_sI (ro_sI (xm_214o (ro_sI M 177 (((61 : Int32) + (M.2.1 176 1)).toNatClampNeg) (vp_nar .short ((M.2.1 163 18).toInt16.toInt32)))) 163 15 (((xm_214o (ro_sI M 177 (((61 : Int32) + (M.2.1 176 1)).toNatClampNeg) (vp_nar .short ((M.2.1 163 18).toInt16.toInt32)))).2.1 163 15) + (1 : Int32))) 177 (((61 : Int32) + (M.2.1 176 1)).toNatClampNeg) (vp_nar .short (((xm_214o (ro_sI M 177 (((61 : Int32) + (M.2.1 176 1)).toNatClampNeg) (vp_nar .short ((M.2.1 163 18).toInt16.toInt32)))).2.1 163 18).toInt16.toInt32)))).2.1 176 1) + (1 : Int32))) else (ro_sI (ro_sI (xm_214o (ro_sI M 177 (((61 : Int32) + (M.2.1 176 1)).toNatClampNeg) (vp_nar .short ((M.2.1 163 18).toInt16.toInt32)))) 178 (((61 : Int32) + (M.2.1 176 1)).toNatClampNeg) (vp_nar .short (((xm_214o (ro_sI M 177 (((61 : Int32) + (M.2.1 176 1)).toNatClampNeg) (vp_nar .short ((M.2.1 163 18).toInt16.toInt32)))).2.1 163 18).toInt16.toInt32))) 176 1 (((xm_214o (ro_sI M 177 (((61 : Int32) + (M.2.1 176 1)).toNatClampNeg) (vp_nar .short ((M.2.1 163 18).toInt16.toInt32)))).2.1 176 1) + (1 : Int32)))))
def xp_213 (M : ro_Mm) : Prop := (vp_in ((61 : Int32) + (M.2.1 176 1)) 122 ∧ (xp_214o (ro_sI M 177 (((61 : Int32) + (M.2.1 176 1)).toNatClampNeg) (vp_nar .short ((M.2.1 163 18).toInt16.toInt32))) ∧ (((0 : Int32) ≤ ((xm_214o (ro_sI M 177 (((61 : Int32) + (M.2.1 176 1)).toNatClampNeg) (vp_nar .short ((M.2.1 163 18).toInt16.toInt32)))).2.1 163 16) → (vp_in ((61 : Int32) + (M.2.1 176 1)) 122 ∧ True)) ∧ (¬ ((0 : Int32) ≤ ((xm_214o (ro_sI M 177 (((61 : Int32) + (M.2.1 176 1)).toNatClampNeg) (vp_nar .short ((M.2.1 163 18).toInt16.toInt32)))).2.1 163 16)) → (xp_220 (xm_214o (ro_sI M 177 (((61 : Int32) + (M.2.1 176 1)).toNatClampNeg) (vp_nar .short ((M.2.1 163 18).toInt16.toInt32)))) ∧ (((xf_220 (xm_214o (ro_sI M 177 (((61 : Int32) + (M.2.1 176 1)).toNatClampNeg) (vp_nar .short ((M.2.1 163 18).toInt16.toInt32))))) = (63 : Int32) → (vp_in ((61 : Int32) + (M.2.1 176 1)) 122 ∧ (xp_214o (ro_sI (ro_sI (xm_214o (ro_sI M 177 (((61 : Int32) + (M.2.1 176 1)).toNatClampNeg) (vp_nar .short ((M.2.1 163 18).toInt16.toInt32)))) 163 15 (((xm_214o (ro_sI M 177 (((61 : Int32) + (M.2.1 176 1)).toNatClampNeg) (vp_nar .short ((M.2.1 163 18).toInt16.toInt32)))).2.1 163 15) + (1 : Int32))) 177 (((61 : Int32) + (M.2.1 176 1)).toNatClampNeg) (vp_nar .short (((xm_214o (ro_sI M 177 (((61 : Int32) + (M.2.1 176 1)).toNatClampNeg) (vp_nar .short ((M.2.1 163 18).toInt16.toInt32)))).2.1 163 18).toInt16.toInt32))) ∧ (vp_in ((61 : Int32) + (M.2.1 176 1)) 122 ∧ True)))) ∧ (¬ ((xf_220 (xm_214o (ro_sI M 177 (((61 : Int32) + (M.2.1 176 1)).toNatClampNeg) (vp_nar .short ((M.2.1 163 18).toInt16.toInt32))))) = (63 : Int32)) → (vp_in ((61 : Int32) + (M.2.1 176 1)) 122 ∧ True))))))))
/-- a loop of RefusedOnceModel.readText(I)I -/
noncomputable def xg_212_31 : Nat → ro_Mm → Int32 → ro_Mm
  | 0, M, v1 => M
  | n + 1, M, v1 => (if (0 : Int32) ≤ (M.2.1 163 16) then M else (if (xf_220 M) = (59 : Int32) then (xg_212_31 n (xm_213 (ro_sI M 163 15 ((M.2.1 163 15) + (1 : Int32)))) v1) else M))
def xq_212_31 : Nat → ro_Mm → Int32 → Prop
  | 0, _, _ => False
  | n + 1, M, v1 => (((0 : Int32) ≤ (M.2.1 163 16) → True) ∧ (¬ ((0 : Int32) ≤ (M.2.1 163 16)) → (xp_220 M ∧ (((xf_220 M) = (59 : Int32) → (xp_213 (ro_sI M 163 15 ((M.2.1 163 15) + (1 : Int32))) ∧ (xq_212_31 n (xm_213 (ro_sI M 163 15 ((M.2.1 163 15) + (1 : Int32)))) v1))) ∧ (¬ ((xf_220 M) = (59 : Int32)) → True)))))
/-- a loop of RefusedOnceModel.readText(I)I -/
noncomputable def xg_212_105 : Nat → ro_Mm → Int32 → Int32 → Int32 × ro_Mm
  | 0, M, v2, v1 => (v2, M)
  | n + 1, M, v2, v1 => (if (M.2.1 163 18) ≤ v2 then (v2, M) else (xg_212_105 n (ro_sI (ro_sI M 174 ((((130 : Int32) * v1) + v2).toNatClampNeg) (vp_nar .byte (M.2.1 174 (((130 : Int32) + v2).toNatClampNeg)))) 175 ((((130 : Int32) * v1) + v2).toNatClampNeg) (M.2.1 175 (((130 : Int32) + v2).toNatClampNeg))) (v2 + (1 : Int32)) v1))
def xq_212_105 : Nat → ro_Mm → Int32 → Int32 → Prop
  | 0, _, _, _ => False
  | n + 1, M, v2, v1 => (((M.2.1 163 18) ≤ v2 → True) ∧ (¬ ((M.2.1 163 18) ≤ v2) → (vp_in ((130 : Int32) + v2) 260 ∧ (vp_in (((130 : Int32) * v1) + v2) 260 ∧ (vp_in ((130 : Int32) + v2) 260 ∧ (vp_in (((130 : Int32) * v1) + v2) 260 ∧ (xq_212_105 n (ro_sI (ro_sI M 174 ((((130 : Int32) * v1) + v2).toNatClampNeg) (vp_nar .byte (M.2.1 174 (((130 : Int32) + v2).toNatClampNeg)))) 175 ((((130 : Int32) * v1) + v2).toNatClampNeg) (M.2.1 175 (((130 : Int32) + v2).toNatClampNeg))) (v2 + (1 : Int32)) v1)))))))
theorem xl_212_105 : ∀ (n : Nat) {M : ro_Mm} {v2 : Int32} {v1 : Int32} (hL : ro_lay M) (hp : xq_212_105 n M v2 v1), ro_lay (xg_212_105 n M v2 v1).2 := by
  intro n
  induction n with
  | zero => intro M v2 v1 hL hp; exact False.elim hp
  | succ n ih =>
    intro M v2 v1 hL hp
    rw [xq_212_105] at hp
    rw [xg_212_105]
    by_cases hz : (M.2.1 163 18) ≤ v2
    · have hp := hp.1 hz
      rw [if_pos hz]
      exact hL
    · have hp := hp.2 hz
      rw [if_neg hz]
      obtain ⟨q9, hp⟩ := hp
      obtain ⟨q10, hp⟩ := hp
      obtain ⟨q11, hp⟩ := hp
      obtain ⟨q12, hp⟩ := hp
      exact ih hL  hp
/-- a loop of RefusedOnceModel.readText(I)I -/
noncomputable def xg_212_177 : Nat → ro_Mm → Int32 → Int32 → Int32 × ro_Mm
  | 0, M, v2, v1 => (v2, M)
  | n + 1, M, v2, v1 => (if (M.2.1 176 (v1.toNatClampNeg)) ≤ v2 then (v2, M) else (xg_212_177 n (ro_sI (ro_sI M 177 ((((61 : Int32) * v1) + v2).toNatClampNeg) (vp_nar .short (M.2.1 177 (((61 : Int32) + v2).toNatClampNeg)))) 178 ((((61 : Int32) * v1) + v2).toNatClampNeg) (vp_nar .short (M.2.1 178 (((61 : Int32) + v2).toNatClampNeg)))) (v2 + (1 : Int32)) v1))
def xq_212_177 : Nat → ro_Mm → Int32 → Int32 → Prop
  | 0, _, _, _ => False
  | n + 1, M, v2, v1 => (vp_in v1 2 ∧ (((M.2.1 176 (v1.toNatClampNeg)) ≤ v2 → True) ∧ (¬ ((M.2.1 176 (v1.toNatClampNeg)) ≤ v2) → (vp_in ((61 : Int32) + v2) 122 ∧ (vp_in (((61 : Int32) * v1) + v2) 122 ∧ (vp_in ((61 : Int32) + v2) 122 ∧ (vp_in (((61 : Int32) * v1) + v2) 122 ∧ (xq_212_177 n (ro_sI (ro_sI M 177 ((((61 : Int32) * v1) + v2).toNatClampNeg) (vp_nar .short (M.2.1 177 (((61 : Int32) + v2).toNatClampNeg)))) 178 ((((61 : Int32) * v1) + v2).toNatClampNeg) (vp_nar .short (M.2.1 178 (((61 : Int32) + v2).toNatClampNeg)))) (v2 + (1 : Int32)) v1))))))))
theorem xl_212_177 : ∀ (n : Nat) {M : ro_Mm} {v2 : Int32} {v1 : Int32} (hL : ro_lay M) (hp : xq_212_177 n M v2 v1), ro_lay (xg_212_177 n M v2 v1).2 := by
  intro n
  induction n with
  | zero => intro M v2 v1 hL hp; exact False.elim hp
  | succ n ih =>
    intro M v2 v1 hL hp
    rw [xq_212_177] at hp
    rw [xg_212_177]
    obtain ⟨q15, hp⟩ := hp
    by_cases hz : (M.2.1 176 (v1.toNatClampNeg)) ≤ v2
    · have hp := hp.1 hz
      rw [if_pos hz]
      exact hL
    · have hp := hp.2 hz
      rw [if_neg hz]
      obtain ⟨q17, hp⟩ := hp
      obtain ⟨q18, hp⟩ := hp
      obtain ⟨q19, hp⟩ := hp
      obtain ⟨q20, hp⟩ := hp
      exact ih hL  hp
/-- RefusedOnceModel.readText(I)I -/
noncomputable def xf_212 (M : ro_Mm) (v1 : Int32) : Int32 := (if (0 : Int32) ≤ ((xg_212_31 lp_N (xm_213 (ro_sI (ro_sI (ro_sI (ro_sI (ro_sI M 163 15 (0 : Int32)) 163 16 (-1 : Int32)) 163 17 (0 : Int32)) 163 18 (0 : Int32)) 176 1 (0 : Int32))) v1).2.1 163 16) then (if ((xg_212_31 lp_N (xm_213 (ro_sI (ro_sI (ro_sI (ro_sI (ro_sI M 163 15 (0 : Int32)) 163 16 (-1 : Int32)) 163 17 (0 : Int32)) 163 18 (0 : Int32)) 176 1 (0 : Int32))) v1).2.1 163 16) < (0 : Int32) then (-1 : Int32) else ((xg_212_31 lp_N (xm_213 (ro_sI (ro_sI (ro_sI (ro_sI (ro_sI M 163 15 (0 : Int32)) 163 16 (-1 : Int32)) 163 17 (0 : Int32)) 163 18 (0 : Int32)) 176 1 (0 : Int32))) v1).2.1 163 16)) else (if ((xg_212_31 lp_N (xm_213 (ro_sI (ro_sI (ro_sI (ro_sI (ro_sI M 163 15 (0 : Int32)) 163 16 (-1 : Int32)) 163 17 (0 : Int32)) 163 18 (0 : Int32)) 176 1 (0 : Int32))) v1).2.1 163 14) ≤ ((xg_212_31 lp_N (xm_213 (ro_sI (ro_sI (ro_sI (ro_sI (ro_sI M 163 15 (0 : Int32)) 163 16 (-1 : Int32)) 163 17 (0 : Int32)) 163 18 (0 : Int32)) 176 1 (0 : Int32))) v1).2.1 163 15) then (if ((xg_212_31 lp_N (xm_213 (ro_sI (ro_sI (ro_sI (ro_sI (ro_sI M 163 15 (0 : Int32)) 163 16 (-1 : Int32)) 163 17 (0 : Int32)) 163 18 (0 : Int32)) 176 1 (0 : Int32))) v1).2.1 163 16) < (0 : Int32) then (-1 : Int32) else ((xg_212_31 lp_N (xm_213 (ro_sI (ro_sI (ro_sI (ro_sI (ro_sI M 163 15 (0 : Int32)) 163 16 (-1 : Int32)) 163 17 (0 : Int32)) 163 18 (0 : Int32)) 176 1 (0 : Int32))) v1).2.1 163 16)) else (if ((xm_224 (xg_212_31 lp_N (xm_213 (ro_sI (ro_sI (ro_sI (ro_sI (ro_sI M 163 15 (0 : Int32)) 163 16 (-1 : Int32)) 163 17 (0 : Int32)) 163 18 (0 : Int32)) 176 1 (0 : Int32))) v1)).2.1 163 16) < (0 : Int32) then (-1 : Int32) else ((xm_224 (xg_212_31 lp_N (xm_213 (ro_sI (ro_sI (ro_sI (ro_sI (ro_sI M 163 15 (0 : Int32)) 163 16 (-1 : Int32)) 163 17 (0 : Int32)) 163 18 (0 : Int32)) 176 1 (0 : Int32))) v1)).2.1 163 16))))
noncomputable def xm_212 (M : ro_Mm) (v1 : Int32) : ro_Mm := (if (0 : Int32) ≤ ((xg_212_31 lp_N (xm_213 (ro_sI (ro_sI (ro_sI (ro_sI (ro_sI M 163 15 (0 : Int32)) 163 16 (-1 : Int32)) 163 17 (0 : Int32)) 163 18 (0 : Int32)) 176 1 (0 : Int32))) v1).2.1 163 16) then (if ((xg_212_31 lp_N (xm_213 (ro_sI (ro_sI (ro_sI (ro_sI (ro_sI M 163 15 (0 : Int32)) 163 16 (-1 : Int32)) 163 17 (0 : Int32)) 163 18 (0 : Int32)) 176 1 (0 : Int32))) v1).2.1 163 16) < (0 : Int32) then (xg_212_177 lp_N (ro_sI (xg_212_105 lp_N (ro_sI (xg_212_31 lp_N (xm_213 (ro_sI (ro_sI (ro_sI (ro_sI (ro_sI M 163 15 (0 : Int32)) 163 16 (-1 : Int32)) 163 17 (0 : Int32)) 163 18 (0 : Int32)) 176 1 (0 : Int32))) v1) 163 14 (0 : Int32)) (0 : Int32) v1).2 176 (v1.toNatClampNeg) ((xg_212_105 lp_N (ro_sI (xg_212_31 lp_N (xm_213 (ro_sI (ro_sI (ro_sI (ro_sI (ro_sI M 163 15 (0 : Int32)) 163 16 (-1 : Int32)) 163 17 (0 : Int32)) 163 18 (0 : Int32)) 176 1 (0 : Int32))) v1) 163 14 (0 : Int32)) (0 : Int32) v1).2.2.1 176 1)) (0 : Int32) v1).2 else (ro_sI (xg_212_31 lp_N (xm_213 (ro_sI (ro_sI (ro_sI (ro_sI (ro_sI M 163 15 (0 : Int32)) 163 16 (-1 : Int32)) 163 17 (0 : Int32)) 163 18 (0 : Int32)) 176 1 (0 : Int32))) v1) 163 14 (0 : Int32))) else (if ((xg_212_31 lp_N (xm_213 (ro_sI (ro_sI (ro_sI (ro_sI (ro_sI M 163 15 (0 : Int32)) 163 16 (-1 : Int32)) 163 17 (0 : Int32)) 163 18 (0 : Int32)) 176 1 (0 : Int32))) v1).2.1 163 14) ≤ ((xg_212_31 lp_N (xm_213 (ro_sI (ro_sI (ro_sI (ro_sI (ro_sI M 163 15 (0 : Int32)) 163 16 (-1 : Int32)) 163 17 (0 : Int32)) 163 18 (0 : Int32)) 176 1 (0 : Int32))) v1).2.1 163 15) then (if ((xg_212_31 lp_N (xm_213 (ro_sI (ro_sI (ro_sI (ro_sI (ro_sI M 163 15 (0 : Int32)) 163 16 (-1 : Int32)) 163 17 (0 : Int32)) 163 18 (0 : Int32)) 176 1 (0 : Int32))) v1).2.1 163 16) < (0 : Int32) then (xg_212_177 lp_N (ro_sI (xg_212_105 lp_N (ro_sI (xg_212_31 lp_N (xm_213 (ro_sI (ro_sI (ro_sI (ro_sI (ro_sI M 163 15 (0 : Int32)) 163 16 (-1 : Int32)) 163 17 (0 : Int32)) 163 18 (0 : Int32)) 176 1 (0 : Int32))) v1) 163 14 (0 : Int32)) (0 : Int32) v1).2 176 (v1.toNatClampNeg) ((xg_212_105 lp_N (ro_sI (xg_212_31 lp_N (xm_213 (ro_sI (ro_sI (ro_sI (ro_sI (ro_sI M 163 15 (0 : Int32)) 163 16 (-1 : Int32)) 163 17 (0 : Int32)) 163 18 (0 : Int32)) 176 1 (0 : Int32))) v1) 163 14 (0 : Int32)) (0 : Int32) v1).2.2.1 176 1)) (0 : Int32) v1).2 else (ro_sI (xg_212_31 lp_N (xm_213 (ro_sI (ro_sI (ro_sI (ro_sI (ro_sI M 163 15 (0 : Int32)) 163 16 (-1 : Int32)) 163 17 (0 : Int32)) 163 18 (0 : Int32)) 176 1 (0 : Int32))) v1) 163 14 (0 : Int32))) else (if ((xm_224 (xg_212_31 lp_N (xm_213 (ro_sI (ro_sI (ro_sI (ro_sI (ro_sI M 163 15 (0 : Int32)) 163 16 (-1 : Int32)) 163 17 (0 : Int32)) 163 18 (0 : Int32)) 176 1 (0 : Int32))) v1)).2.1 163 16) < (0 : Int32) then (xg_212_177 lp_N (ro_sI (xg_212_105 lp_N (ro_sI (xm_224 (xg_212_31 lp_N (xm_213 (ro_sI (ro_sI (ro_sI (ro_sI (ro_sI M 163 15 (0 : Int32)) 163 16 (-1 : Int32)) 163 17 (0 : Int32)) 163 18 (0 : Int32)) 176 1 (0 : Int32))) v1)) 163 14 (0 : Int32)) (0 : Int32) v1).2 176 (v1.toNatClampNeg) ((xg_212_105 lp_N (ro_sI (xm_224 (xg_212_31 lp_N (xm_213 (ro_sI (ro_sI (ro_sI (ro_sI (ro_sI M 163 15 (0 : Int32)) 163 16 (-1 : Int32)) 163 17 (0 : Int32)) 163 18 (0 : Int32)) 176 1 (0 : Int32))) v1)) 163 14 (0 : Int32)) (0 : Int32) v1).2.2.1 176 1)) (0 : Int32) v1).2 else (ro_sI (xm_224 (xg_212_31 lp_N (xm_213 (ro_sI (ro_sI (ro_sI (ro_sI (ro_sI M 163 15 (0 : Int32)) 163 16 (-1 : Int32)) 163 17 (0 : Int32)) 163 18 (0 : Int32)) 176 1 (0 : Int32))) v1)) 163 14 (0 : Int32)))))
def xp_212 (M : ro_Mm) (v1 : Int32) : Prop := (xp_213 (ro_sI (ro_sI (ro_sI (ro_sI (ro_sI M 163 15 (0 : Int32)) 163 16 (-1 : Int32)) 163 17 (0 : Int32)) 163 18 (0 : Int32)) 176 1 (0 : Int32)) ∧ (xq_212_31 lp_N (xm_213 (ro_sI (ro_sI (ro_sI (ro_sI (ro_sI M 163 15 (0 : Int32)) 163 16 (-1 : Int32)) 163 17 (0 : Int32)) 163 18 (0 : Int32)) 176 1 (0 : Int32))) v1 ∧ (((0 : Int32) ≤ ((xg_212_31 lp_N (xm_213 (ro_sI (ro_sI (ro_sI (ro_sI (ro_sI M 163 15 (0 : Int32)) 163 16 (-1 : Int32)) 163 17 (0 : Int32)) 163 18 (0 : Int32)) 176 1 (0 : Int32))) v1).2.1 163 16) → ((((xg_212_31 lp_N (xm_213 (ro_sI (ro_sI (ro_sI (ro_sI (ro_sI M 163 15 (0 : Int32)) 163 16 (-1 : Int32)) 163 17 (0 : Int32)) 163 18 (0 : Int32)) 176 1 (0 : Int32))) v1).2.1 163 16) < (0 : Int32) → (xq_212_105 lp_N (ro_sI (xg_212_31 lp_N (xm_213 (ro_sI (ro_sI (ro_sI (ro_sI (ro_sI M 163 15 (0 : Int32)) 163 16 (-1 : Int32)) 163 17 (0 : Int32)) 163 18 (0 : Int32)) 176 1 (0 : Int32))) v1) 163 14 (0 : Int32)) (0 : Int32) v1 ∧ (vp_in v1 2 ∧ (xq_212_177 lp_N (ro_sI (xg_212_105 lp_N (ro_sI (xg_212_31 lp_N (xm_213 (ro_sI (ro_sI (ro_sI (ro_sI (ro_sI M 163 15 (0 : Int32)) 163 16 (-1 : Int32)) 163 17 (0 : Int32)) 163 18 (0 : Int32)) 176 1 (0 : Int32))) v1) 163 14 (0 : Int32)) (0 : Int32) v1).2 176 (v1.toNatClampNeg) ((xg_212_105 lp_N (ro_sI (xg_212_31 lp_N (xm_213 (ro_sI (ro_sI (ro_sI (ro_sI (ro_sI M 163 15 (0 : Int32)) 163 16 (-1 : Int32)) 163 17 (0 : Int32)) 163 18 (0 : Int32)) 176 1 (0 : Int32))) v1) 163 14 (0 : Int32)) (0 : Int32) v1).2.2.1 176 1)) (0 : Int32) v1 ∧ True)))) ∧ (¬ (((xg_212_31 lp_N (xm_213 (ro_sI (ro_sI (ro_sI (ro_sI (ro_sI M 163 15 (0 : Int32)) 163 16 (-1 : Int32)) 163 17 (0 : Int32)) 163 18 (0 : Int32)) 176 1 (0 : Int32))) v1).2.1 163 16) < (0 : Int32)) → True))) ∧ (¬ ((0 : Int32) ≤ ((xg_212_31 lp_N (xm_213 (ro_sI (ro_sI (ro_sI (ro_sI (ro_sI M 163 15 (0 : Int32)) 163 16 (-1 : Int32)) 163 17 (0 : Int32)) 163 18 (0 : Int32)) 176 1 (0 : Int32))) v1).2.1 163 16)) → ((((xg_212_31 lp_N (xm_213 (ro_sI (ro_sI (ro_sI (ro_sI (ro_sI M 163 15 (0 : Int32)) 163 16 (-1 : Int32)) 163 17 (0 : Int32)) 163 18 (0 : Int32)) 176 1 (0 : Int32))) v1).2.1 163 14) ≤ ((xg_212_31 lp_N (xm_213 (ro_sI (ro_sI (ro_sI (ro_sI (ro_sI M 163 15 (0 : Int32)) 163 16 (-1 : Int32)) 163 17 (0 : Int32)) 163 18 (0 : Int32)) 176 1 (0 : Int32))) v1).2.1 163 15) → ((((xg_212_31 lp_N (xm_213 (ro_sI (ro_sI (ro_sI (ro_sI (ro_sI M 163 15 (0 : Int32)) 163 16 (-1 : Int32)) 163 17 (0 : Int32)) 163 18 (0 : Int32)) 176 1 (0 : Int32))) v1).2.1 163 16) < (0 : Int32) → (xq_212_105 lp_N (ro_sI (xg_212_31 lp_N (xm_213 (ro_sI (ro_sI (ro_sI (ro_sI (ro_sI M 163 15 (0 : Int32)) 163 16 (-1 : Int32)) 163 17 (0 : Int32)) 163 18 (0 : Int32)) 176 1 (0 : Int32))) v1) 163 14 (0 : Int32)) (0 : Int32) v1 ∧ (vp_in v1 2 ∧ (xq_212_177 lp_N (ro_sI (xg_212_105 lp_N (ro_sI (xg_212_31 lp_N (xm_213 (ro_sI (ro_sI (ro_sI (ro_sI (ro_sI M 163 15 (0 : Int32)) 163 16 (-1 : Int32)) 163 17 (0 : Int32)) 163 18 (0 : Int32)) 176 1 (0 : Int32))) v1) 163 14 (0 : Int32)) (0 : Int32) v1).2 176 (v1.toNatClampNeg) ((xg_212_105 lp_N (ro_sI (xg_212_31 lp_N (xm_213 (ro_sI (ro_sI (ro_sI (ro_sI (ro_sI M 163 15 (0 : Int32)) 163 16 (-1 : Int32)) 163 17 (0 : Int32)) 163 18 (0 : Int32)) 176 1 (0 : Int32))) v1) 163 14 (0 : Int32)) (0 : Int32) v1).2.2.1 176 1)) (0 : Int32) v1 ∧ True)))) ∧ (¬ (((xg_212_31 lp_N (xm_213 (ro_sI (ro_sI (ro_sI (ro_sI (ro_sI M 163 15 (0 : Int32)) 163 16 (-1 : Int32)) 163 17 (0 : Int32)) 163 18 (0 : Int32)) 176 1 (0 : Int32))) v1).2.1 163 16) < (0 : Int32)) → True))) ∧ (¬ (((xg_212_31 lp_N (xm_213 (ro_sI (ro_sI (ro_sI (ro_sI (ro_sI M 163 15 (0 : Int32)) 163 16 (-1 : Int32)) 163 17 (0 : Int32)) 163 18 (0 : Int32)) 176 1 (0 : Int32))) v1).2.1 163 14) ≤ ((xg_212_31 lp_N (xm_213 (ro_sI (ro_sI (ro_sI (ro_sI (ro_sI M 163 15 (0 : Int32)) 163 16 (-1 : Int32)) 163 17 (0 : Int32)) 163 18 (0 : Int32)) 176 1 (0 : Int32))) v1).2.1 163 15)) → ((((xm_224 (xg_212_31 lp_N (xm_213 (ro_sI (ro_sI (ro_sI (ro_sI (ro_sI M 163 15 (0 : Int32)) 163 16 (-1 : Int32)) 163 17 (0 : Int32)) 163 18 (0 : Int32)) 176 1 (0 : Int32))) v1)).2.1 163 16) < (0 : Int32) → (xq_212_105 lp_N (ro_sI (xm_224 (xg_212_31 lp_N (xm_213 (ro_sI (ro_sI (ro_sI (ro_sI (ro_sI M 163 15 (0 : Int32)) 163 16 (-1 : Int32)) 163 17 (0 : Int32)) 163 18 (0 : Int32)) 176 1 (0 : Int32))) v1)) 163 14 (0 : Int32)) (0 : Int32) v1 ∧ (vp_in v1 2 ∧ (xq_212_177 lp_N (ro_sI (xg_212_105 lp_N (ro_sI (xm_224 (xg_212_31 lp_N (xm_213 (ro_sI (ro_sI (ro_sI (ro_sI (ro_sI M 163 15 (0 : Int32)) 163 16 (-1 : Int32)) 163 17 (0 : Int32)) 163 18 (0 : Int32)) 176 1 (0 : Int32))) v1)) 163 14 (0 : Int32)) (0 : Int32) v1).2 176 (v1.toNatClampNeg) ((xg_212_105 lp_N (ro_sI (xm_224 (xg_212_31 lp_N (xm_213 (ro_sI (ro_sI (ro_sI (ro_sI (ro_sI M 163 15 (0 : Int32)) 163 16 (-1 : Int32)) 163 17 (0 : Int32)) 163 18 (0 : Int32)) 176 1 (0 : Int32))) v1)) 163 14 (0 : Int32)) (0 : Int32) v1).2.2.1 176 1)) (0 : Int32) v1 ∧ True)))) ∧ (¬ (((xm_224 (xg_212_31 lp_N (xm_213 (ro_sI (ro_sI (ro_sI (ro_sI (ro_sI M 163 15 (0 : Int32)) 163 16 (-1 : Int32)) 163 17 (0 : Int32)) 163 18 (0 : Int32)) 176 1 (0 : Int32))) v1)).2.1 163 16) < (0 : Int32)) → True))))))))
/-- RefusedOnceModel.law()I -/
noncomputable def xf_211 (M : ro_Mm) : Int32 := (if (xf_212 M (0 : Int32)) < (0 : Int32) then (1 : Int32) else ((-100 : Int32) - (xf_212 M (0 : Int32))))
noncomputable def xm_211 (M : ro_Mm) : ro_Mm := (if (xf_212 M (0 : Int32)) < (0 : Int32) then (ro_sI (xm_212 M (0 : Int32)) 163 26 (1 : Int32)) else (xm_212 M (0 : Int32)))
def xp_211 (M : ro_Mm) : Prop := (xp_212 M (0 : Int32) ∧ True)
