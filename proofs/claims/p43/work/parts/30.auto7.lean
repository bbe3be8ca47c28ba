/-! methods with loops, by program (wip/whole/walk2.py, mk28.py 48 73) -/
/-- a loop of RefusedOnce.comeFrom(LRefusedOnce$Shelf;II)I -/
noncomputable def xg_23_3 : Nat → ro_Mm → Int32 → Nat → Int32 → Int32 → Bool × Int32 × Int32 × ro_Mm
  | 0, M, v4, c1, v2, v3 => (false, 0, v4, M)
  | n + 1, M, v4, c1, v2, v3 => (if v3 ≤ v4 then (false, 0, v4, M) else (if ((xf_24 M c1) - ((3 : Int32) * (v4 + (1 : Int32)))) < v2 then (false, 0, v4, M) else (if (xf_14 M (xf_25 M c1 (v2 + ((3 : Int32) * v4))) (xf_25 M c1 ((v2 + ((3 : Int32) * v4)) + (1 : Int32))) (xf_25 M c1 ((v2 + ((3 : Int32) * v4)) + (2 : Int32)))) then (xg_23_3 n (xm_14 M (xf_25 M c1 (v2 + ((3 : Int32) * v4))) (xf_25 M c1 ((v2 + ((3 : Int32) * v4)) + (1 : Int32))) (xf_25 M c1 ((v2 + ((3 : Int32) * v4)) + (2 : Int32)))) (v4 + (1 : Int32)) c1 v2 v3) else (true, v4, v4, (xm_14 M (xf_25 M c1 (v2 + ((3 : Int32) * v4))) (xf_25 M c1 ((v2 + ((3 : Int32) * v4)) + (1 : Int32))) (xf_25 M c1 ((v2 + ((3 : Int32) * v4)) + (2 : Int32))))))))
def xq_23_3 : Nat → ro_Mm → Int32 → Nat → Int32 → Int32 → Prop
  | 0, _, _, _, _, _ => False
  | n + 1, M, v4, c1, v2, v3 => ((v3 ≤ v4 → True) ∧ (¬ (v3 ≤ v4) → ((((xf_24 M c1) - ((3 : Int32) * (v4 + (1 : Int32)))) < v2 → True) ∧ (¬ (((xf_24 M c1) - ((3 : Int32) * (v4 + (1 : Int32)))) < v2) → (((xf_14 M (xf_25 M c1 (v2 + ((3 : Int32) * v4))) (xf_25 M c1 ((v2 + ((3 : Int32) * v4)) + (1 : Int32))) (xf_25 M c1 ((v2 + ((3 : Int32) * v4)) + (2 : Int32)))) → (xq_23_3 n (xm_14 M (xf_25 M c1 (v2 + ((3 : Int32) * v4))) (xf_25 M c1 ((v2 + ((3 : Int32) * v4)) + (1 : Int32))) (xf_25 M c1 ((v2 + ((3 : Int32) * v4)) + (2 : Int32)))) (v4 + (1 : Int32)) c1 v2 v3)) ∧ (¬ ((xf_14 M (xf_25 M c1 (v2 + ((3 : Int32) * v4))) (xf_25 M c1 ((v2 + ((3 : Int32) * v4)) + (1 : Int32))) (xf_25 M c1 ((v2 + ((3 : Int32) * v4)) + (2 : Int32))))) → True))))))
theorem xl_23_3 : ∀ (n : Nat) {M : ro_Mm} {v4 : Int32} {c1 : Nat} {v2 : Int32} {v3 : Int32} (hL : ro_lay M) (hc1 : ro_is c1) (hp : xq_23_3 n M v4 c1 v2 v3), ro_lay (xg_23_3 n M v4 c1 v2 v3).2.2.2 := by
  intro n
  induction n with
  | zero => intro M v4 c1 v2 v3 hL hc1 hp; exact False.elim hp
  | succ n ih =>
    intro M v4 c1 v2 v3 hL hc1 hp
    rw [xq_23_3] at hp
    rw [xg_23_3]
    by_cases hz : v3 ≤ v4
    · have hp := hp.1 hz
      rw [if_pos hz]
      exact hL
    · have hp := hp.2 hz
      rw [if_neg hz]
      by_cases hz : ((xf_24 M c1) - ((3 : Int32) * (v4 + (1 : Int32)))) < v2
      · have hp := hp.1 hz
        rw [if_pos hz]
        exact hL
      · have hp := hp.2 hz
        rw [if_neg hz]
        by_cases hz : (xf_14 M (xf_25 M c1 (v2 + ((3 : Int32) * v4))) (xf_25 M c1 ((v2 + ((3 : Int32) * v4)) + (1 : Int32))) (xf_25 M c1 ((v2 + ((3 : Int32) * v4)) + (2 : Int32))))
        · have hp := hp.1 hz
          rw [if_pos hz]
          exact ih (xl_14 hL) hc1 hp
        · have hp := hp.2 hz
          rw [if_neg hz]
          exact (xl_14 hL)
theorem xwI_23_3 : ∀ {n : Nat} {M : ro_Mm} {v4 : Int32} {c1 : Nat} {v2 : Int32} {v3 : Int32} {c j : Nat} (n0 : c ≠ 7) (n1 : c ≠ 8) (n2 : c ≠ 9) (n3 : c ≠ 10) (n4 : c ≠ 5), (xg_23_3 n M v4 c1 v2 v3).2.2.2.2.1 c j = M.2.1 c j := by
  intro n
  induction n with
  | zero => intro M v4 c1 v2 v3 c j n0 n1 n2 n3 n4; rfl
  | succ n ih =>
    intro M v4 c1 v2 v3 c j n0 n1 n2 n3 n4
    rw [xg_23_3]
    by_cases hz : v3 ≤ v4
    · rw [if_pos hz]
      first | done | exact rfl
    · rw [if_neg hz]
      by_cases hz : ((xf_24 M c1) - ((3 : Int32) * (v4 + (1 : Int32)))) < v2
      · rw [if_pos hz]
        first | done | exact rfl
      · rw [if_neg hz]
        by_cases hz : (xf_14 M (xf_25 M c1 (v2 + ((3 : Int32) * v4))) (xf_25 M c1 ((v2 + ((3 : Int32) * v4)) + (1 : Int32))) (xf_25 M c1 ((v2 + ((3 : Int32) * v4)) + (2 : Int32))))
        · rw [if_pos hz]
          first | done | exact (((ih n0 n1 n2 n3 n4)).trans (xwI_14 n0 n1 n2 n3 n4))
        · rw [if_neg hz]
          first | done | exact (xwI_14 n0 n1 n2 n3 n4)
theorem xwJ_23_3 : ∀ {n : Nat} {M : ro_Mm} {v4 : Int32} {c1 : Nat} {v2 : Int32} {v3 : Int32} {c j : Nat}, (xg_23_3 n M v4 c1 v2 v3).2.2.2.2.2.1 c j = M.2.2.1 c j := by
  intro n
  induction n with
  | zero => intro M v4 c1 v2 v3 c j; rfl
  | succ n ih =>
    intro M v4 c1 v2 v3 c j
    rw [xg_23_3]
    by_cases hz : v3 ≤ v4
    · rw [if_pos hz]
      first | done | exact rfl
    · rw [if_neg hz]
      by_cases hz : ((xf_24 M c1) - ((3 : Int32) * (v4 + (1 : Int32)))) < v2
      · rw [if_pos hz]
        first | done | exact rfl
      · rw [if_neg hz]
        by_cases hz : (xf_14 M (xf_25 M c1 (v2 + ((3 : Int32) * v4))) (xf_25 M c1 ((v2 + ((3 : Int32) * v4)) + (1 : Int32))) (xf_25 M c1 ((v2 + ((3 : Int32) * v4)) + (2 : Int32))))
        · rw [if_pos hz]
          first | done | exact (((ih)).trans (xwJ_14))
        · rw [if_neg hz]
          first | done | exact (xwJ_14)
/-- RefusedOnce.comeFrom(LRefusedOnce$Shelf;II)I -/
noncomputable def xf_23 (M : ro_Mm) (c1 : Nat) (v2 : Int32) (v3 : Int32) : Int32 := (if (xg_23_3 lp_N M (0 : Int32) c1 v2 v3).1 = true then (xg_23_3 lp_N M (0 : Int32) c1 v2 v3).2.1 else (xg_23_3 lp_N M (0 : Int32) c1 v2 v3).2.2.1)
noncomputable def xm_23 (M : ro_Mm) (c1 : Nat) (v2 : Int32) (v3 : Int32) : ro_Mm := (xg_23_3 lp_N M (0 : Int32) c1 v2 v3).2.2.2
def xp_23 (M : ro_Mm) (c1 : Nat) (v2 : Int32) (v3 : Int32) : Prop := (xq_23_3 lp_N M (0 : Int32) c1 v2 v3 ∧ True)
theorem xl_23 {M : ro_Mm} {c1 : Nat} {v2 : Int32} {v3 : Int32} (hL : ro_lay M) (hc1 : ro_is c1) (hp : xp_23 M c1 v2 v3) : ro_lay (xm_23 M c1 v2 v3) := by
  unfold xp_23 at hp
  unfold xm_23
  obtain ⟨q3, hp⟩ := hp
  by_cases hz : (xg_23_3 lp_N M (0 : Int32) c1 v2 v3).1 = true
  · skip
    exact (xl_23_3 lp_N hL hc1 q3)
  · skip
    exact (xl_23_3 lp_N hL hc1 q3)
theorem xwI_23 {M : ro_Mm} {c1 : Nat} {v2 : Int32} {v3 : Int32} {c j : Nat} (n0 : c ≠ 7) (n1 : c ≠ 8) (n2 : c ≠ 9) (n3 : c ≠ 10) (n4 : c ≠ 5) : (xm_23 M c1 v2 v3).2.1 c j = M.2.1 c j := by
  unfold xm_23
  first | done | exact (xwI_23_3 n0 n1 n2 n3 n4)
theorem xwJ_23 {M : ro_Mm} {c1 : Nat} {v2 : Int32} {v3 : Int32} {c j : Nat} : (xm_23 M c1 v2 v3).2.2.1 c j = M.2.2.1 c j := by
  unfold xm_23
  first | done | exact (xwJ_23_3)
/-- RefusedOnce$Law.twelfths(LRefusedOnce$Land;LRefusedOnce$Purses;II)I -/
noncomputable def xf_58 (M : ro_Mm) (c2 : Nat) (v3 : Int32) (v4 : Int32) : Int32 := (if (0 : Int32) < (M.2.1 16 8) then (xf_59 (xm_60 (ro_sI (ro_sI (ro_sI (ro_sI (ro_sI (ro_sI M 21 0 (xf_30 M v4 (2 : Int32))) 21 1 (xf_30 M v3 (2 : Int32))) 21 2 (xf_31 (ro_sI (ro_sI M 21 0 (xf_30 M v4 (2 : Int32))) 21 1 (xf_30 M v3 (2 : Int32))) c2 v4)) 21 3 (xf_32 (ro_sI (ro_sI (ro_sI M 21 0 (xf_30 M v4 (2 : Int32))) 21 1 (xf_30 M v3 (2 : Int32))) 21 2 (xf_31 (ro_sI (ro_sI M 21 0 (xf_30 M v4 (2 : Int32))) 21 1 (xf_30 M v3 (2 : Int32))) c2 v4)) c2 v4)) 21 4 (xf_30 M (0 : Int32) (5 : Int32))) 21 5 (xf_30 (ro_sI (ro_sI (ro_sI (ro_sI (ro_sI M 21 0 (xf_30 M v4 (2 : Int32))) 21 1 (xf_30 M v3 (2 : Int32))) 21 2 (xf_31 (ro_sI (ro_sI M 21 0 (xf_30 M v4 (2 : Int32))) 21 1 (xf_30 M v3 (2 : Int32))) c2 v4)) 21 3 (xf_32 (ro_sI (ro_sI (ro_sI M 21 0 (xf_30 M v4 (2 : Int32))) 21 1 (xf_30 M v3 (2 : Int32))) 21 2 (xf_31 (ro_sI (ro_sI M 21 0 (xf_30 M v4 (2 : Int32))) 21 1 (xf_30 M v3 (2 : Int32))) c2 v4)) c2 v4)) 21 4 (xf_30 M (0 : Int32) (5 : Int32))) (0 : Int32) (4 : Int32)))) (xf_60 (ro_sI (ro_sI (ro_sI (ro_sI (ro_sI (ro_sI M 21 0 (xf_30 M v4 (2 : Int32))) 21 1 (xf_30 M v3 (2 : Int32))) 21 2 (xf_31 (ro_sI (ro_sI M 21 0 (xf_30 M v4 (2 : Int32))) 21 1 (xf_30 M v3 (2 : Int32))) c2 v4)) 21 3 (xf_32 (ro_sI (ro_sI (ro_sI M 21 0 (xf_30 M v4 (2 : Int32))) 21 1 (xf_30 M v3 (2 : Int32))) 21 2 (xf_31 (ro_sI (ro_sI M 21 0 (xf_30 M v4 (2 : Int32))) 21 1 (xf_30 M v3 (2 : Int32))) c2 v4)) c2 v4)) 21 4 (xf_30 M (0 : Int32) (5 : Int32))) 21 5 (xf_30 (ro_sI (ro_sI (ro_sI (ro_sI (ro_sI M 21 0 (xf_30 M v4 (2 : Int32))) 21 1 (xf_30 M v3 (2 : Int32))) 21 2 (xf_31 (ro_sI (ro_sI M 21 0 (xf_30 M v4 (2 : Int32))) 21 1 (xf_30 M v3 (2 : Int32))) c2 v4)) 21 3 (xf_32 (ro_sI (ro_sI (ro_sI M 21 0 (xf_30 M v4 (2 : Int32))) 21 1 (xf_30 M v3 (2 : Int32))) 21 2 (xf_31 (ro_sI (ro_sI M 21 0 (xf_30 M v4 (2 : Int32))) 21 1 (xf_30 M v3 (2 : Int32))) c2 v4)) c2 v4)) 21 4 (xf_30 M (0 : Int32) (5 : Int32))) (0 : Int32) (4 : Int32))))) else (xf_59 M (((xf_30 M v4 (2 : Int32)) + ((xf_30 M (0 : Int32) (5 : Int32)) / (3 : Int32))) - ((xf_30 M v3 (2 : Int32)) / (4 : Int32)))))
noncomputable def xm_58 (M : ro_Mm) (c2 : Nat) (v3 : Int32) (v4 : Int32) : ro_Mm := (if (0 : Int32) < (M.2.1 16 8) then (xm_60 (ro_sI (ro_sI (ro_sI (ro_sI (ro_sI (ro_sI M 21 0 (xf_30 M v4 (2 : Int32))) 21 1 (xf_30 M v3 (2 : Int32))) 21 2 (xf_31 (ro_sI (ro_sI M 21 0 (xf_30 M v4 (2 : Int32))) 21 1 (xf_30 M v3 (2 : Int32))) c2 v4)) 21 3 (xf_32 (ro_sI (ro_sI (ro_sI M 21 0 (xf_30 M v4 (2 : Int32))) 21 1 (xf_30 M v3 (2 : Int32))) 21 2 (xf_31 (ro_sI (ro_sI M 21 0 (xf_30 M v4 (2 : Int32))) 21 1 (xf_30 M v3 (2 : Int32))) c2 v4)) c2 v4)) 21 4 (xf_30 M (0 : Int32) (5 : Int32))) 21 5 (xf_30 (ro_sI (ro_sI (ro_sI (ro_sI (ro_sI M 21 0 (xf_30 M v4 (2 : Int32))) 21 1 (xf_30 M v3 (2 : Int32))) 21 2 (xf_31 (ro_sI (ro_sI M 21 0 (xf_30 M v4 (2 : Int32))) 21 1 (xf_30 M v3 (2 : Int32))) c2 v4)) 21 3 (xf_32 (ro_sI (ro_sI (ro_sI M 21 0 (xf_30 M v4 (2 : Int32))) 21 1 (xf_30 M v3 (2 : Int32))) 21 2 (xf_31 (ro_sI (ro_sI M 21 0 (xf_30 M v4 (2 : Int32))) 21 1 (xf_30 M v3 (2 : Int32))) c2 v4)) c2 v4)) 21 4 (xf_30 M (0 : Int32) (5 : Int32))) (0 : Int32) (4 : Int32)))) else M)
def xp_58 (M : ro_Mm) (c2 : Nat) (v3 : Int32) (v4 : Int32) : Prop := (((0 : Int32) < (M.2.1 16 8) → (xp_60 (ro_sI (ro_sI (ro_sI (ro_sI (ro_sI (ro_sI M 21 0 (xf_30 M v4 (2 : Int32))) 21 1 (xf_30 M v3 (2 : Int32))) 21 2 (xf_31 (ro_sI (ro_sI M 21 0 (xf_30 M v4 (2 : Int32))) 21 1 (xf_30 M v3 (2 : Int32))) c2 v4)) 21 3 (xf_32 (ro_sI (ro_sI (ro_sI M 21 0 (xf_30 M v4 (2 : Int32))) 21 1 (xf_30 M v3 (2 : Int32))) 21 2 (xf_31 (ro_sI (ro_sI M 21 0 (xf_30 M v4 (2 : Int32))) 21 1 (xf_30 M v3 (2 : Int32))) c2 v4)) c2 v4)) 21 4 (xf_30 M (0 : Int32) (5 : Int32))) 21 5 (xf_30 (ro_sI (ro_sI (ro_sI (ro_sI (ro_sI M 21 0 (xf_30 M v4 (2 : Int32))) 21 1 (xf_30 M v3 (2 : Int32))) 21 2 (xf_31 (ro_sI (ro_sI M 21 0 (xf_30 M v4 (2 : Int32))) 21 1 (xf_30 M v3 (2 : Int32))) c2 v4)) 21 3 (xf_32 (ro_sI (ro_sI (ro_sI M 21 0 (xf_30 M v4 (2 : Int32))) 21 1 (xf_30 M v3 (2 : Int32))) 21 2 (xf_31 (ro_sI (ro_sI M 21 0 (xf_30 M v4 (2 : Int32))) 21 1 (xf_30 M v3 (2 : Int32))) c2 v4)) c2 v4)) 21 4 (xf_30 M (0 : Int32) (5 : Int32))) (0 : Int32) (4 : Int32))) ∧ True)) ∧ (¬ ((0 : Int32) < (M.2.1 16 8)) → True))
theorem xs_58 {X : ro_Sx} {M : ro_Mm} {c2 : Nat} {v3 : Int32} {v4 : Int32} (hL : ro_lay M) (hc2 : ro_ip c2) (hp : xp_58 M c2 v3 v4) : ro_cwp X 3 58 [.ref 16, .ref 5, .ref c2, .int v3, .int v4] M (fun v M2 => v = some (.int (xf_58 M c2 v3 v4)) ∧ M2 = xm_58 M c2 v3 v4) := by
  refine rs_begin (lv0 := [(0, .ref 16), (1, .ref 5), (2, .ref c2), (3, .int v3), (4, .int v4)]) (by decide) rfl (by rw [rm_58.1]; exact Nat.le_of_ble_eq_true rfl) rfl ?_
  unfold xp_58 at hp
  refine rs_aload_n ri_58_0 rfl rfl ?_
  refine rs_iload ri_58_1 rfl rfl ?_
  refine rs_iconst (v := (2 : Int32)) ri_58_3 rfl (by decide) ?_
  refine rs_virt (As := [.int v4, .int (2 : Int32)]) (r := []) ri_58_4 rfl (by decide) rm_30.2.2.2 rm_30.2.2.1 rfl rfl rfl (by decide) (ro_kf (kd_5 hL)) (Nat.le_of_ble_eq_true rfl) (by decide) (by decide) (xs_30 (X := X) hL) ?_
  rintro _ _ ⟨e1, e2⟩
  rw [e1, e2]
  show ro_w X _ 58 _ 7 [(0, .ref 16), (1, .ref 5), (2, .ref c2), (3, .int v3), (4, .int v4)] [.int (xf_30 M v4 (2 : Int32))] M (0, 0)
  refine rs_istore (lv2 := [(5, .int (xf_30 M v4 (2 : Int32))), (0, .ref 16), (1, .ref 5), (2, .ref c2), (3, .int v3), (4, .int v4)]) ri_58_7 rfl rm_58.1 (by decide) rfl ?_
  refine rs_aload_n ri_58_9 rfl rfl ?_
  refine rs_iload_n ri_58_10 rfl rfl ?_
  refine rs_iconst (v := (2 : Int32)) ri_58_11 rfl (by decide) ?_
  refine rs_virt (As := [.int v3, .int (2 : Int32)]) (r := []) ri_58_12 rfl (by decide) rm_30.2.2.2 rm_30.2.2.1 rfl rfl rfl (by decide) (ro_kf (kd_5 hL)) (Nat.le_of_ble_eq_true rfl) (by decide) (by decide) (xs_30 (X := X) hL) ?_
  rintro _ _ ⟨e1, e2⟩
  rw [e1, e2]
  show ro_w X _ 58 _ 15 [(5, .int (xf_30 M v4 (2 : Int32))), (0, .ref 16), (1, .ref 5), (2, .ref c2), (3, .int v3), (4, .int v4)] [.int (xf_30 M v3 (2 : Int32))] M (0, 0)
  refine rs_istore (lv2 := [(6, .int (xf_30 M v3 (2 : Int32))), (5, .int (xf_30 M v4 (2 : Int32))), (0, .ref 16), (1, .ref 5), (2, .ref c2), (3, .int v3), (4, .int v4)]) ri_58_15 rfl rm_58.1 (by decide) rfl ?_
  refine rs_aload_n ri_58_17 rfl rfl ?_
  refine rs_iconst (v := (0 : Int32)) ri_58_18 rfl (by decide) ?_
  refine rs_iconst (v := (5 : Int32)) ri_58_19 rfl (by decide) ?_
  refine rs_virt (As := [.int (0 : Int32), .int (5 : Int32)]) (r := []) ri_58_20 rfl (by decide) rm_30.2.2.2 rm_30.2.2.1 rfl rfl rfl (by decide) (ro_kf (kd_5 hL)) (Nat.le_of_ble_eq_true rfl) (by decide) (by decide) (xs_30 (X := X) hL) ?_
  rintro _ _ ⟨e1, e2⟩
  rw [e1, e2]
  show ro_w X _ 58 _ 23 [(6, .int (xf_30 M v3 (2 : Int32))), (5, .int (xf_30 M v4 (2 : Int32))), (0, .ref 16), (1, .ref 5), (2, .ref c2), (3, .int v3), (4, .int v4)] [.int (xf_30 M (0 : Int32) (5 : Int32))] M (0, 0)
  refine rs_istore (lv2 := [(7, .int (xf_30 M (0 : Int32) (5 : Int32))), (6, .int (xf_30 M v3 (2 : Int32))), (5, .int (xf_30 M v4 (2 : Int32))), (0, .ref 16), (1, .ref 5), (2, .ref c2), (3, .int v3), (4, .int v4)]) ri_58_23 rfl rm_58.1 (by decide) rfl ?_
  refine rs_aload_n ri_58_25 rfl rfl ?_
  refine rs_gf (v := .int (M.2.1 16 8)) ri_58_26 rfl (by decide) (ro_kf (kd_16 hL)) rfl rfl ?_
  refine rs_if_gt (t := 48) ri_58_29 rfl rfl (fun h1 => ?_) (fun h1 => ?_)
  · have hp := hp.1 h1
    refine rs_aload_n ri_58_48 rfl rfl ?_
    refine rs_gf (v := .ref 21) ri_58_49 rfl (by decide) (ro_kf (kd_16 hL)) rfl (rf_16_4 hL) ?_
    refine rs_iconst (v := (0 : Int32)) ri_58_52 rfl (by decide) ?_
    refine rs_iload ri_58_53 rfl rfl ?_
    refine rs_iast (j := 0) ri_58_55 rfl (by decide) (kd_21 hL) (vp_in_iff.mpr ⟨by decide, by decide⟩) rfl ?_
    refine rs_aload_n ri_58_56 rfl rfl ?_
    refine rs_gf (v := .ref 21) ri_58_57 rfl (by decide) (ro_kf (kd_16 hL)) rfl (rf_16_4 hL) ?_
    refine rs_iconst (v := (1 : Int32)) ri_58_60 rfl (by decide) ?_
    refine rs_iload ri_58_61 rfl rfl ?_
    refine rs_iast (j := 1) ri_58_63 rfl (by decide) (kd_21 hL) (vp_in_iff.mpr ⟨by decide, by decide⟩) rfl ?_
    refine rs_aload_n ri_58_64 rfl rfl ?_
    refine rs_gf (v := .ref 21) ri_58_65 rfl (by decide) (ro_kf (kd_16 hL)) rfl (rf_16_4 hL) ?_
    refine rs_iconst (v := (2 : Int32)) ri_58_68 rfl (by decide) ?_
    refine rs_aload_n ri_58_69 rfl rfl ?_
    refine rs_iload ri_58_70 rfl rfl ?_
    refine rs_virt (As := [.int v4]) (r := [.int (2 : Int32), .ref 21]) ri_58_72 rfl (by decide) rm_31.2.2.2 rm_31.2.2.1 rfl rfl rfl (ro_ip4 hc2) (ro_kf (ip_kd hL hc2)) (Nat.le_of_ble_eq_true rfl) (by decide) (by decide) (xs_31 (X := X) hL hc2) ?_
    rintro _ _ ⟨e1, e2⟩
    rw [e1, e2]
    show ro_w X _ 58 _ 75 [(7, .int (xf_30 M (0 : Int32) (5 : Int32))), (6, .int (xf_30 M v3 (2 : Int32))), (5, .int (xf_30 M v4 (2 : Int32))), (0, .ref 16), (1, .ref 5), (2, .ref c2), (3, .int v3), (4, .int v4)] [.int (xf_31 (ro_sI (ro_sI M 21 0 (xf_30 M v4 (2 : Int32))) 21 1 (xf_30 M v3 (2 : Int32))) c2 v4), .int (2 : Int32), .ref 21] (ro_sI (ro_sI M 21 0 (xf_30 M v4 (2 : Int32))) 21 1 (xf_30 M v3 (2 : Int32))) (0, 0)
    refine rs_iast (j := 2) ri_58_75 rfl (by decide) (kd_21 hL) (vp_in_iff.mpr ⟨by decide, by decide⟩) rfl ?_
    refine rs_aload_n ri_58_76 rfl rfl ?_
    refine rs_gf (v := .ref 21) ri_58_77 rfl (by decide) (ro_kf (kd_16 hL)) rfl (rf_16_4 hL) ?_
    refine rs_iconst (v := (3 : Int32)) ri_58_80 rfl (by decide) ?_
    refine rs_aload_n ri_58_81 rfl rfl ?_
    refine rs_iload ri_58_82 rfl rfl ?_
    refine rs_virt (As := [.int v4]) (r := [.int (3 : Int32), .ref 21]) ri_58_84 rfl (by decide) rm_32.2.2.2 rm_32.2.2.1 rfl rfl rfl (ro_ip4 hc2) (ro_kf (ip_kd hL hc2)) (Nat.le_of_ble_eq_true rfl) (by decide) (by decide) (xs_32 (X := X) hL hc2) ?_
    rintro _ _ ⟨e1, e2⟩
    rw [e1, e2]
    show ro_w X _ 58 _ 87 [(7, .int (xf_30 M (0 : Int32) (5 : Int32))), (6, .int (xf_30 M v3 (2 : Int32))), (5, .int (xf_30 M v4 (2 : Int32))), (0, .ref 16), (1, .ref 5), (2, .ref c2), (3, .int v3), (4, .int v4)] [.int (xf_32 (ro_sI (ro_sI (ro_sI M 21 0 (xf_30 M v4 (2 : Int32))) 21 1 (xf_30 M v3 (2 : Int32))) 21 2 (xf_31 (ro_sI (ro_sI M 21 0 (xf_30 M v4 (2 : Int32))) 21 1 (xf_30 M v3 (2 : Int32))) c2 v4)) c2 v4), .int (3 : Int32), .ref 21] (ro_sI (ro_sI (ro_sI M 21 0 (xf_30 M v4 (2 : Int32))) 21 1 (xf_30 M v3 (2 : Int32))) 21 2 (xf_31 (ro_sI (ro_sI M 21 0 (xf_30 M v4 (2 : Int32))) 21 1 (xf_30 M v3 (2 : Int32))) c2 v4)) (0, 0)
    refine rs_iast (j := 3) ri_58_87 rfl (by decide) (kd_21 hL) (vp_in_iff.mpr ⟨by decide, by decide⟩) rfl ?_
    refine rs_aload_n ri_58_88 rfl rfl ?_
    refine rs_gf (v := .ref 21) ri_58_89 rfl (by decide) (ro_kf (kd_16 hL)) rfl (rf_16_4 hL) ?_
    refine rs_iconst (v := (4 : Int32)) ri_58_92 rfl (by decide) ?_
    refine rs_iload ri_58_93 rfl rfl ?_
    refine rs_iast (j := 4) ri_58_95 rfl (by decide) (kd_21 hL) (vp_in_iff.mpr ⟨by decide, by decide⟩) rfl ?_
    refine rs_aload_n ri_58_96 rfl rfl ?_
    refine rs_gf (v := .ref 21) ri_58_97 rfl (by decide) (ro_kf (kd_16 hL)) rfl (rf_16_4 hL) ?_
    refine rs_iconst (v := (5 : Int32)) ri_58_100 rfl (by decide) ?_
    refine rs_aload_n ri_58_101 rfl rfl ?_
    refine rs_iconst (v := (0 : Int32)) ri_58_102 rfl (by decide) ?_
    refine rs_iconst (v := (4 : Int32)) ri_58_103 rfl (by decide) ?_
    refine rs_virt (As := [.int (0 : Int32), .int (4 : Int32)]) (r := [.int (5 : Int32), .ref 21]) ri_58_104 rfl (by decide) rm_30.2.2.2 rm_30.2.2.1 rfl rfl rfl (by decide) (ro_kf (kd_5 hL)) (Nat.le_of_ble_eq_true rfl) (by decide) (by decide) (xs_30 (X := X) hL) ?_
    rintro _ _ ⟨e1, e2⟩
    rw [e1, e2]
    show ro_w X _ 58 _ 107 [(7, .int (xf_30 M (0 : Int32) (5 : Int32))), (6, .int (xf_30 M v3 (2 : Int32))), (5, .int (xf_30 M v4 (2 : Int32))), (0, .ref 16), (1, .ref 5), (2, .ref c2), (3, .int v3), (4, .int v4)] [.int (xf_30 (ro_sI (ro_sI (ro_sI (ro_sI (ro_sI M 21 0 (xf_30 M v4 (2 : Int32))) 21 1 (xf_30 M v3 (2 : Int32))) 21 2 (xf_31 (ro_sI (ro_sI M 21 0 (xf_30 M v4 (2 : Int32))) 21 1 (xf_30 M v3 (2 : Int32))) c2 v4)) 21 3 (xf_32 (ro_sI (ro_sI (ro_sI M 21 0 (xf_30 M v4 (2 : Int32))) 21 1 (xf_30 M v3 (2 : Int32))) 21 2 (xf_31 (ro_sI (ro_sI M 21 0 (xf_30 M v4 (2 : Int32))) 21 1 (xf_30 M v3 (2 : Int32))) c2 v4)) c2 v4)) 21 4 (xf_30 M (0 : Int32) (5 : Int32))) (0 : Int32) (4 : Int32)), .int (5 : Int32), .ref 21] (ro_sI (ro_sI (ro_sI (ro_sI (ro_sI M 21 0 (xf_30 M v4 (2 : Int32))) 21 1 (xf_30 M v3 (2 : Int32))) 21 2 (xf_31 (ro_sI (ro_sI M 21 0 (xf_30 M v4 (2 : Int32))) 21 1 (xf_30 M v3 (2 : Int32))) c2 v4)) 21 3 (xf_32 (ro_sI (ro_sI (ro_sI M 21 0 (xf_30 M v4 (2 : Int32))) 21 1 (xf_30 M v3 (2 : Int32))) 21 2 (xf_31 (ro_sI (ro_sI M 21 0 (xf_30 M v4 (2 : Int32))) 21 1 (xf_30 M v3 (2 : Int32))) c2 v4)) c2 v4)) 21 4 (xf_30 M (0 : Int32) (5 : Int32))) (0, 0)
    refine rs_iast (j := 5) ri_58_107 rfl (by decide) (kd_21 hL) (vp_in_iff.mpr ⟨by decide, by decide⟩) rfl ?_
    refine rs_aload_n ri_58_108 rfl rfl ?_
    obtain ⟨q1, hp⟩ := hp
    refine rs_virt (As := []) (r := []) ri_58_109 rfl (by decide) rm_60.2.2.2 rm_60.2.2.1 rfl rfl rfl (by decide) (ro_kf (kd_16 hL)) (Nat.le_of_ble_eq_true rfl) (by decide) (by decide) (xs_60 (X := X) hL q1) ?_
    rintro _ _ ⟨e1, e2⟩
    rw [e1, e2]
    show ro_w X _ 58 _ 112 [(7, .int (xf_30 M (0 : Int32) (5 : Int32))), (6, .int (xf_30 M v3 (2 : Int32))), (5, .int (xf_30 M v4 (2 : Int32))), (0, .ref 16), (1, .ref 5), (2, .ref c2), (3, .int v3), (4, .int v4)] [.int (xf_60 (ro_sI (ro_sI (ro_sI (ro_sI (ro_sI (ro_sI M 21 0 (xf_30 M v4 (2 : Int32))) 21 1 (xf_30 M v3 (2 : Int32))) 21 2 (xf_31 (ro_sI (ro_sI M 21 0 (xf_30 M v4 (2 : Int32))) 21 1 (xf_30 M v3 (2 : Int32))) c2 v4)) 21 3 (xf_32 (ro_sI (ro_sI (ro_sI M 21 0 (xf_30 M v4 (2 : Int32))) 21 1 (xf_30 M v3 (2 : Int32))) 21 2 (xf_31 (ro_sI (ro_sI M 21 0 (xf_30 M v4 (2 : Int32))) 21 1 (xf_30 M v3 (2 : Int32))) c2 v4)) c2 v4)) 21 4 (xf_30 M (0 : Int32) (5 : Int32))) 21 5 (xf_30 (ro_sI (ro_sI (ro_sI (ro_sI (ro_sI M 21 0 (xf_30 M v4 (2 : Int32))) 21 1 (xf_30 M v3 (2 : Int32))) 21 2 (xf_31 (ro_sI (ro_sI M 21 0 (xf_30 M v4 (2 : Int32))) 21 1 (xf_30 M v3 (2 : Int32))) c2 v4)) 21 3 (xf_32 (ro_sI (ro_sI (ro_sI M 21 0 (xf_30 M v4 (2 : Int32))) 21 1 (xf_30 M v3 (2 : Int32))) 21 2 (xf_31 (ro_sI (ro_sI M 21 0 (xf_30 M v4 (2 : Int32))) 21 1 (xf_30 M v3 (2 : Int32))) c2 v4)) c2 v4)) 21 4 (xf_30 M (0 : Int32) (5 : Int32))) (0 : Int32) (4 : Int32))))] (xm_60 (ro_sI (ro_sI (ro_sI (ro_sI (ro_sI (ro_sI M 21 0 (xf_30 M v4 (2 : Int32))) 21 1 (xf_30 M v3 (2 : Int32))) 21 2 (xf_31 (ro_sI (ro_sI M 21 0 (xf_30 M v4 (2 : Int32))) 21 1 (xf_30 M v3 (2 : Int32))) c2 v4)) 21 3 (xf_32 (ro_sI (ro_sI (ro_sI M 21 0 (xf_30 M v4 (2 : Int32))) 21 1 (xf_30 M v3 (2 : Int32))) 21 2 (xf_31 (ro_sI (ro_sI M 21 0 (xf_30 M v4 (2 : Int32))) 21 1 (xf_30 M v3 (2 : Int32))) c2 v4)) c2 v4)) 21 4 (xf_30 M (0 : Int32) (5 : Int32))) 21 5 (xf_30 (ro_sI (ro_sI (ro_sI (ro_sI (ro_sI M 21 0 (xf_30 M v4 (2 : Int32))) 21 1 (xf_30 M v3 (2 : Int32))) 21 2 (xf_31 (ro_sI (ro_sI M 21 0 (xf_30 M v4 (2 : Int32))) 21 1 (xf_30 M v3 (2 : Int32))) c2 v4)) 21 3 (xf_32 (ro_sI (ro_sI (ro_sI M 21 0 (xf_30 M v4 (2 : Int32))) 21 1 (xf_30 M v3 (2 : Int32))) 21 2 (xf_31 (ro_sI (ro_sI M 21 0 (xf_30 M v4 (2 : Int32))) 21 1 (xf_30 M v3 (2 : Int32))) c2 v4)) c2 v4)) 21 4 (xf_30 M (0 : Int32) (5 : Int32))) (0 : Int32) (4 : Int32)))) (0, 0)
    refine rs_stat (As := [.int (xf_60 (ro_sI (ro_sI (ro_sI (ro_sI (ro_sI (ro_sI M 21 0 (xf_30 M v4 (2 : Int32))) 21 1 (xf_30 M v3 (2 : Int32))) 21 2 (xf_31 (ro_sI (ro_sI M 21 0 (xf_30 M v4 (2 : Int32))) 21 1 (xf_30 M v3 (2 : Int32))) c2 v4)) 21 3 (xf_32 (ro_sI (ro_sI (ro_sI M 21 0 (xf_30 M v4 (2 : Int32))) 21 1 (xf_30 M v3 (2 : Int32))) 21 2 (xf_31 (ro_sI (ro_sI M 21 0 (xf_30 M v4 (2 : Int32))) 21 1 (xf_30 M v3 (2 : Int32))) c2 v4)) c2 v4)) 21 4 (xf_30 M (0 : Int32) (5 : Int32))) 21 5 (xf_30 (ro_sI (ro_sI (ro_sI (ro_sI (ro_sI M 21 0 (xf_30 M v4 (2 : Int32))) 21 1 (xf_30 M v3 (2 : Int32))) 21 2 (xf_31 (ro_sI (ro_sI M 21 0 (xf_30 M v4 (2 : Int32))) 21 1 (xf_30 M v3 (2 : Int32))) c2 v4)) 21 3 (xf_32 (ro_sI (ro_sI (ro_sI M 21 0 (xf_30 M v4 (2 : Int32))) 21 1 (xf_30 M v3 (2 : Int32))) 21 2 (xf_31 (ro_sI (ro_sI M 21 0 (xf_30 M v4 (2 : Int32))) 21 1 (xf_30 M v3 (2 : Int32))) c2 v4)) c2 v4)) 21 4 (xf_30 M (0 : Int32) (5 : Int32))) (0 : Int32) (4 : Int32))))]) (r := []) ri_58_112 rfl rm_59.2.2.2 rfl rfl rfl (Nat.le_of_ble_eq_true rfl) (by decide) (by decide) (xs_59 (X := X) (xl_60 hL q1)) ?_
    rintro _ _ ⟨e1, e2⟩
    rw [e1, e2]
    show ro_w X _ 58 _ 115 [(7, .int (xf_30 M (0 : Int32) (5 : Int32))), (6, .int (xf_30 M v3 (2 : Int32))), (5, .int (xf_30 M v4 (2 : Int32))), (0, .ref 16), (1, .ref 5), (2, .ref c2), (3, .int v3), (4, .int v4)] [.int (xf_59 (xm_60 (ro_sI (ro_sI (ro_sI (ro_sI (ro_sI (ro_sI M 21 0 (xf_30 M v4 (2 : Int32))) 21 1 (xf_30 M v3 (2 : Int32))) 21 2 (xf_31 (ro_sI (ro_sI M 21 0 (xf_30 M v4 (2 : Int32))) 21 1 (xf_30 M v3 (2 : Int32))) c2 v4)) 21 3 (xf_32 (ro_sI (ro_sI (ro_sI M 21 0 (xf_30 M v4 (2 : Int32))) 21 1 (xf_30 M v3 (2 : Int32))) 21 2 (xf_31 (ro_sI (ro_sI M 21 0 (xf_30 M v4 (2 : Int32))) 21 1 (xf_30 M v3 (2 : Int32))) c2 v4)) c2 v4)) 21 4 (xf_30 M (0 : Int32) (5 : Int32))) 21 5 (xf_30 (ro_sI (ro_sI (ro_sI (ro_sI (ro_sI M 21 0 (xf_30 M v4 (2 : Int32))) 21 1 (xf_30 M v3 (2 : Int32))) 21 2 (xf_31 (ro_sI (ro_sI M 21 0 (xf_30 M v4 (2 : Int32))) 21 1 (xf_30 M v3 (2 : Int32))) c2 v4)) 21 3 (xf_32 (ro_sI (ro_sI (ro_sI M 21 0 (xf_30 M v4 (2 : Int32))) 21 1 (xf_30 M v3 (2 : Int32))) 21 2 (xf_31 (ro_sI (ro_sI M 21 0 (xf_30 M v4 (2 : Int32))) 21 1 (xf_30 M v3 (2 : Int32))) c2 v4)) c2 v4)) 21 4 (xf_30 M (0 : Int32) (5 : Int32))) (0 : Int32) (4 : Int32)))) (xf_60 (ro_sI (ro_sI (ro_sI (ro_sI (ro_sI (ro_sI M 21 0 (xf_30 M v4 (2 : Int32))) 21 1 (xf_30 M v3 (2 : Int32))) 21 2 (xf_31 (ro_sI (ro_sI M 21 0 (xf_30 M v4 (2 : Int32))) 21 1 (xf_30 M v3 (2 : Int32))) c2 v4)) 21 3 (xf_32 (ro_sI (ro_sI (ro_sI M 21 0 (xf_30 M v4 (2 : Int32))) 21 1 (xf_30 M v3 (2 : Int32))) 21 2 (xf_31 (ro_sI (ro_sI M 21 0 (xf_30 M v4 (2 : Int32))) 21 1 (xf_30 M v3 (2 : Int32))) c2 v4)) c2 v4)) 21 4 (xf_30 M (0 : Int32) (5 : Int32))) 21 5 (xf_30 (ro_sI (ro_sI (ro_sI (ro_sI (ro_sI M 21 0 (xf_30 M v4 (2 : Int32))) 21 1 (xf_30 M v3 (2 : Int32))) 21 2 (xf_31 (ro_sI (ro_sI M 21 0 (xf_30 M v4 (2 : Int32))) 21 1 (xf_30 M v3 (2 : Int32))) c2 v4)) 21 3 (xf_32 (ro_sI (ro_sI (ro_sI M 21 0 (xf_30 M v4 (2 : Int32))) 21 1 (xf_30 M v3 (2 : Int32))) 21 2 (xf_31 (ro_sI (ro_sI M 21 0 (xf_30 M v4 (2 : Int32))) 21 1 (xf_30 M v3 (2 : Int32))) c2 v4)) c2 v4)) 21 4 (xf_30 M (0 : Int32) (5 : Int32))) (0 : Int32) (4 : Int32)))))] (xm_60 (ro_sI (ro_sI (ro_sI (ro_sI (ro_sI (ro_sI M 21 0 (xf_30 M v4 (2 : Int32))) 21 1 (xf_30 M v3 (2 : Int32))) 21 2 (xf_31 (ro_sI (ro_sI M 21 0 (xf_30 M v4 (2 : Int32))) 21 1 (xf_30 M v3 (2 : Int32))) c2 v4)) 21 3 (xf_32 (ro_sI (ro_sI (ro_sI M 21 0 (xf_30 M v4 (2 : Int32))) 21 1 (xf_30 M v3 (2 : Int32))) 21 2 (xf_31 (ro_sI (ro_sI M 21 0 (xf_30 M v4 (2 : Int32))) 21 1 (xf_30 M v3 (2 : Int32))) c2 v4)) c2 v4)) 21 4 (xf_30 M (0 : Int32) (5 : Int32))) 21 5 (xf_30 (ro_sI (ro_sI (ro_sI (ro_sI (ro_sI M 21 0 (xf_30 M v4 (2 : Int32))) 21 1 (xf_30 M v3 (2 : Int32))) 21 2 (xf_31 (ro_sI (ro_sI M 21 0 (xf_30 M v4 (2 : Int32))) 21 1 (xf_30 M v3 (2 : Int32))) c2 v4)) 21 3 (xf_32 (ro_sI (ro_sI (ro_sI M 21 0 (xf_30 M v4 (2 : Int32))) 21 1 (xf_30 M v3 (2 : Int32))) 21 2 (xf_31 (ro_sI (ro_sI M 21 0 (xf_30 M v4 (2 : Int32))) 21 1 (xf_30 M v3 (2 : Int32))) c2 v4)) c2 v4)) 21 4 (xf_30 M (0 : Int32) (5 : Int32))) (0 : Int32) (4 : Int32)))) (0, 0)
    refine rs_iret ri_58_115 rm_58.2.1 (by decide) ?_
    exact ⟨by unfold xf_58; first | (simp only [if_pos h1]; done) | rfl, by unfold xm_58; first | (simp only [if_pos h1]; done) | rfl⟩
  · have hp := hp.2 h1
    refine rs_iload ri_58_32 rfl rfl ?_
    refine rs_iload ri_58_34 rfl rfl ?_
    refine rs_iconst (v := (3 : Int32)) ri_58_36 rfl (by decide) ?_
    refine rs_idiv (r := ((xf_30 M (0 : Int32) (5 : Int32)) / (3 : Int32))) ri_58_37 rfl (by decide) rfl ?_
    refine rs_iadd (r := ((xf_30 M v4 (2 : Int32)) + ((xf_30 M (0 : Int32) (5 : Int32)) / (3 : Int32)))) ri_58_38 rfl rfl ?_
    refine rs_iload ri_58_39 rfl rfl ?_
    refine rs_iconst (v := (4 : Int32)) ri_58_41 rfl (by decide) ?_
    refine rs_idiv (r := ((xf_30 M v3 (2 : Int32)) / (4 : Int32))) ri_58_42 rfl (by decide) rfl ?_
    refine rs_isub (r := (((xf_30 M v4 (2 : Int32)) + ((xf_30 M (0 : Int32) (5 : Int32)) / (3 : Int32))) - ((xf_30 M v3 (2 : Int32)) / (4 : Int32)))) ri_58_43 rfl rfl ?_
    refine rs_stat (As := [.int (((xf_30 M v4 (2 : Int32)) + ((xf_30 M (0 : Int32) (5 : Int32)) / (3 : Int32))) - ((xf_30 M v3 (2 : Int32)) / (4 : Int32)))]) (r := []) ri_58_44 rfl rm_59.2.2.2 rfl rfl rfl (Nat.le_of_ble_eq_true rfl) (by decide) (by decide) (xs_59 (X := X) hL) ?_
    rintro _ _ ⟨e1, e2⟩
    rw [e1, e2]
    show ro_w X _ 58 _ 47 [(7, .int (xf_30 M (0 : Int32) (5 : Int32))), (6, .int (xf_30 M v3 (2 : Int32))), (5, .int (xf_30 M v4 (2 : Int32))), (0, .ref 16), (1, .ref 5), (2, .ref c2), (3, .int v3), (4, .int v4)] [.int (xf_59 M (((xf_30 M v4 (2 : Int32)) + ((xf_30 M (0 : Int32) (5 : Int32)) / (3 : Int32))) - ((xf_30 M v3 (2 : Int32)) / (4 : Int32))))] M (0, 0)
    refine rs_iret ri_58_47 rm_58.2.1 (by decide) ?_
    exact ⟨by unfold xf_58; first | (simp only [if_neg h1]; done) | rfl, by unfold xm_58; first | (simp only [if_neg h1]; done) | rfl⟩
theorem xl_58 {M : ro_Mm} {c2 : Nat} {v3 : Int32} {v4 : Int32} (hL : ro_lay M) (hc2 : ro_ip c2) (hp : xp_58 M c2 v3 v4) : ro_lay (xm_58 M c2 v3 v4) := by
  unfold xp_58 at hp
  unfold xm_58
  by_cases hz : (0 : Int32) < (M.2.1 16 8)
  · have hp := hp.1 hz
    rw [if_pos hz]
    obtain ⟨q1, hp⟩ := hp
    exact (xl_60 hL q1)
  · have hp := hp.2 hz
    rw [if_neg hz]
    exact hL
theorem xwI_58 {M : ro_Mm} {c2 : Nat} {v3 : Int32} {v4 : Int32} {c j : Nat} (n0 : c ≠ 21) (n1 : c ≠ 16) (n2 : c ≠ 20) : (xm_58 M c2 v3 v4).2.1 c j = M.2.1 c j := by
  unfold xm_58
  by_cases hz : (0 : Int32) < (M.2.1 16 8)
  · rw [if_pos hz]
    first | done | exact ((((((((xwI_60 n1 n2)).trans (ro_sI_ne n0)).trans (ro_sI_ne n0)).trans (ro_sI_ne n0)).trans (ro_sI_ne n0)).trans (ro_sI_ne n0)).trans (ro_sI_ne n0))
  · rw [if_neg hz]
    first | done | exact rfl
theorem xwJ_58 {M : ro_Mm} {c2 : Nat} {v3 : Int32} {v4 : Int32} {c j : Nat} : (xm_58 M c2 v3 v4).2.2.1 c j = M.2.2.1 c j := by
  unfold xm_58
  by_cases hz : (0 : Int32) < (M.2.1 16 8)
  · rw [if_pos hz]
    first | done | exact ((((((((xwJ_60)).trans (congrFun (congrFun ro_sI_J _) _)).trans (congrFun (congrFun ro_sI_J _) _)).trans (congrFun (congrFun ro_sI_J _) _)).trans (congrFun (congrFun ro_sI_J _) _)).trans (congrFun (congrFun ro_sI_J _) _)).trans (congrFun (congrFun ro_sI_J _) _))
  · rw [if_neg hz]
    first | done | exact rfl
/-- RefusedOnce$Evening.isOffered(IIZ)Z -/
noncomputable def xf_72 (M : ro_Mm) (v1 : Int32) (v2 : Int32) (v3 : Bool) : Bool := (if v3 then (if (xf_75 M 36 v1 v2) then true else false) else (xf_73 M 36 v1 v2))
noncomputable def xm_72 (M : ro_Mm) (v1 : Int32) (v2 : Int32) (v3 : Bool) : ro_Mm := (if v3 then (if (xf_75 M 36 v1 v2) then (if (xf_58 M 36 v1 v2) < (xf_30 (xm_58 M 36 v1 v2) (0 : Int32) (6 : Int32)) then (xm_76 (xm_58 M 36 v1 v2) v1 v2 false) else (xm_76 (xm_58 M 36 v1 v2) v1 v2 true)) else M) else (if (xf_73 M 36 v1 v2) then (xm_74 M 36 v1 v2) else M))
def xp_72 (M : ro_Mm) (v1 : Int32) (v2 : Int32) (v3 : Bool) : Prop := ((v3 → (((xf_75 M 36 v1 v2) → (xp_58 M 36 v1 v2 ∧ True)) ∧ (¬ ((xf_75 M 36 v1 v2)) → True))) ∧ (¬ (v3) → True))
theorem xs_72 {X : ro_Sx} {M : ro_Mm} {v1 : Int32} {v2 : Int32} {v3 : Bool} (hL : ro_lay M) (hp : xp_72 M v1 v2 v3) : ro_cwp X 4 72 [.ref 35, .int v1, .int v2, .int (ro_b v3)] M (fun v M2 => v = some (.int (ro_b (xf_72 M v1 v2 v3))) ∧ M2 = xm_72 M v1 v2 v3) := by
  refine rs_begin (lv0 := [(0, .ref 35), (1, .int v1), (2, .int v2), (3, .int (ro_b v3))]) (by decide) rfl (by rw [rm_72.1]; exact Nat.le_of_ble_eq_true rfl) rfl ?_
  unfold xp_72 at hp
  refine rs_iload_n ri_72_0 rfl rfl ?_
  refine rs_ifne_c (t := 32) ri_72_1 rfl rfl (fun h1 => ?_) (fun h1 => ?_)
  · have hp := hp.1 h1
    refine rs_aload_n ri_72_32 rfl rfl ?_
    refine rs_gf (v := .ref 36) ri_72_33 rfl (by decide) (ro_kf (kd_35 hL)) rfl (rf_35_2 hL) ?_
    refine rs_iload_n ri_72_36 rfl rfl ?_
    refine rs_iload_n ri_72_37 rfl rfl ?_
    refine rs_virt (As := [.int v1, .int v2]) (r := []) ri_72_38 rfl (by decide) rm_75.2.2.2 rm_75.2.2.1 rfl rfl rfl (by decide) (ro_kf (kd_36 hL)) (Nat.le_of_ble_eq_true rfl) (by decide) (by decide) (xs_75 (X := X) hL (by unfold ro_ip; decide)) ?_
    rintro _ _ ⟨e1, e2⟩
    rw [e1, e2]
    show ro_w X _ 72 _ 41 [(0, .ref 35), (1, .int v1), (2, .int v2), (3, .int (ro_b v3))] [.int (ro_b (xf_75 M 36 v1 v2))] M (0, 0)
    refine rs_ifne_c (t := 46) ri_72_41 rfl rfl (fun h2 => ?_) (fun h2 => ?_)
    · have hp := hp.1 h2
      refine rs_aload_n ri_72_46 rfl rfl ?_
      refine rs_iload_n ri_72_47 rfl rfl ?_
      refine rs_iload_n ri_72_48 rfl rfl ?_
      refine rs_aload_n ri_72_49 rfl rfl ?_
      refine rs_gf (v := .ref 16) ri_72_50 rfl (by decide) (ro_kf (kd_35 hL)) rfl (rf_35_1 hL) ?_
      refine rs_aload_n ri_72_53 rfl rfl ?_
      refine rs_gf (v := .ref 5) ri_72_54 rfl (by decide) (ro_kf (kd_35 hL)) rfl (rf_35_0 hL) ?_
      refine rs_aload_n ri_72_57 rfl rfl ?_
      refine rs_gf (v := .ref 36) ri_72_58 rfl (by decide) (ro_kf (kd_35 hL)) rfl (rf_35_2 hL) ?_
      refine rs_iload_n ri_72_61 rfl rfl ?_
      refine rs_iload_n ri_72_62 rfl rfl ?_
      obtain ⟨q2, hp⟩ := hp
      refine rs_virt (As := [.ref 5, .ref 36, .int v1, .int v2]) (r := [.int v2, .int v1, .ref 35]) ri_72_63 rfl (by decide) rm_58.2.2.2 rm_58.2.2.1 rfl rfl rfl (by decide) (ro_kf (kd_16 hL)) (Nat.le_of_ble_eq_true rfl) (by decide) (by decide) (xs_58 (X := X) hL (by unfold ro_ip; decide) q2) ?_
      rintro _ _ ⟨e1, e2⟩
      rw [e1, e2]
      show ro_w X _ 72 _ 66 [(0, .ref 35), (1, .int v1), (2, .int v2), (3, .int (ro_b v3))] [.int (xf_58 M 36 v1 v2), .int v2, .int v1, .ref 35] (xm_58 M 36 v1 v2) (0, 0)
      refine rs_aload_n ri_72_66 rfl rfl ?_
      refine rs_gf (v := .ref 5) ri_72_67 rfl (by decide) (ro_kf (kd_35 (xl_58 hL (by unfold ro_ip; decide) q2))) rfl (rf_35_0 (xl_58 hL (by unfold ro_ip; decide) q2)) ?_
      refine rs_iconst (v := (0 : Int32)) ri_72_70 rfl (by decide) ?_
      refine rs_bipush (v := (6 : Int32)) ri_72_71 rfl (by decide) ?_
      refine rs_virt (As := [.int (0 : Int32), .int (6 : Int32)]) (r := [.int (xf_58 M 36 v1 v2), .int v2, .int v1, .ref 35]) ri_72_73 rfl (by decide) rm_30.2.2.2 rm_30.2.2.1 rfl rfl rfl (by decide) (ro_kf (kd_5 (xl_58 hL (by unfold ro_ip; decide) q2))) (Nat.le_of_ble_eq_true rfl) (by decide) (by decide) (xs_30 (X := X) (xl_58 hL (by unfold ro_ip; decide) q2)) ?_
      rintro _ _ ⟨e1, e2⟩
      rw [e1, e2]
      show ro_w X _ 72 _ 76 [(0, .ref 35), (1, .int v1), (2, .int v2), (3, .int (ro_b v3))] [.int (xf_30 (xm_58 M 36 v1 v2) (0 : Int32) (6 : Int32)), .int (xf_58 M 36 v1 v2), .int v2, .int v1, .ref 35] (xm_58 M 36 v1 v2) (0, 0)
      refine rs_icmp_lt (t := 83) ri_72_76 rfl rfl (fun h4 => ?_) (fun h4 => ?_)
      · skip
        refine rs_iconst (v := (0 : Int32)) ri_72_83 rfl (by decide) ?_
        refine rs_virt (As := [.int v1, .int v2, .int (ro_b false)]) (r := []) ri_72_84 rfl (by decide) rm_76.2.2.2 rm_76.2.2.1 rfl rfl rfl (by decide) (ro_kf (kd_35 (xl_58 hL (by unfold ro_ip; decide) q2))) (Nat.le_of_ble_eq_true rfl) (by decide) (by decide) (xs_76 (X := X) (xl_58 hL (by unfold ro_ip; decide) q2)) ?_
        rintro _ _ ⟨e1, e2⟩
        rw [e1, e2]
        show ro_w X _ 72 _ 87 [(0, .ref 35), (1, .int v1), (2, .int v2), (3, .int (ro_b v3))] [] (xm_76 (xm_58 M 36 v1 v2) v1 v2 false) (0, 0)
        refine rs_iconst (v := (1 : Int32)) ri_72_87 rfl (by decide) ?_
        refine rs_zret (p := true) ri_72_88 rm_72.2.1 (by decide) rfl ?_
        exact ⟨by unfold xf_72; first | (simp only [if_pos h1, if_pos h2, if_pos h4]; done) | rfl, by unfold xm_72; first | (simp only [if_pos h1, if_pos h2, if_pos h4]; done) | rfl⟩
      · skip
        refine rs_iconst (v := (1 : Int32)) ri_72_79 rfl (by decide) ?_
        refine rs_goto (t := 84) ri_72_80 rfl ?_
        refine rs_virt (As := [.int v1, .int v2, .int (ro_b true)]) (r := []) ri_72_84 rfl (by decide) rm_76.2.2.2 rm_76.2.2.1 rfl rfl rfl (by decide) (ro_kf (kd_35 (xl_58 hL (by unfold ro_ip; decide) q2))) (Nat.le_of_ble_eq_true rfl) (by decide) (by decide) (xs_76 (X := X) (xl_58 hL (by unfold ro_ip; decide) q2)) ?_
        rintro _ _ ⟨e1, e2⟩
        rw [e1, e2]
        show ro_w X _ 72 _ 87 [(0, .ref 35), (1, .int v1), (2, .int v2), (3, .int (ro_b v3))] [] (xm_76 (xm_58 M 36 v1 v2) v1 v2 true) (0, 0)
        refine rs_iconst (v := (1 : Int32)) ri_72_87 rfl (by decide) ?_
        refine rs_zret (p := true) ri_72_88 rm_72.2.1 (by decide) rfl ?_
        exact ⟨by unfold xf_72; first | (simp only [if_pos h1, if_pos h2, if_neg h4]; done) | rfl, by unfold xm_72; first | (simp only [if_pos h1, if_pos h2, if_neg h4]; done) | rfl⟩
    · have hp := hp.2 h2
      refine rs_iconst (v := (0 : Int32)) ri_72_44 rfl (by decide) ?_
      refine rs_zret (p := false) ri_72_45 rm_72.2.1 (by decide) rfl ?_
      exact ⟨by unfold xf_72; first | (simp only [if_pos h1, if_neg h2]; done) | rfl, by unfold xm_72; first | (simp only [if_pos h1, if_neg h2]; done) | rfl⟩
  · have hp := hp.2 h1
    refine rs_aload_n ri_72_4 rfl rfl ?_
    refine rs_gf (v := .ref 36) ri_72_5 rfl (by decide) (ro_kf (kd_35 hL)) rfl (rf_35_2 hL) ?_
    refine rs_iload_n ri_72_8 rfl rfl ?_
    refine rs_iload_n ri_72_9 rfl rfl ?_
    refine rs_virt (As := [.int v1, .int v2]) (r := []) ri_72_10 rfl (by decide) rm_73.2.2.2 rm_73.2.2.1 rfl rfl rfl (by decide) (ro_kf (kd_36 hL)) (Nat.le_of_ble_eq_true rfl) (by decide) (by decide) (xs_73 (X := X) hL (by unfold ro_ip; decide)) ?_
    rintro _ _ ⟨e1, e2⟩
    rw [e1, e2]
    show ro_w X _ 72 _ 13 [(0, .ref 35), (1, .int v1), (2, .int v2), (3, .int (ro_b v3))] [.int (ro_b (xf_73 M 36 v1 v2))] M (0, 0)
    refine rs_istore (lv2 := [(4, .int (ro_b (xf_73 M 36 v1 v2))), (0, .ref 35), (1, .int v1), (2, .int v2), (3, .int (ro_b v3))]) ri_72_13 rfl rm_72.1 (by decide) rfl ?_
    refine rs_iload ri_72_15 rfl rfl ?_
    refine rs_ifeq_c (t := 29) ri_72_17 rfl rfl (fun h5 => ?_) (fun h5 => ?_)
    · skip
      refine rs_iload ri_72_29 rfl rfl ?_
      refine rs_zret (p := (xf_73 M 36 v1 v2)) ri_72_31 rm_72.2.1 (by decide) rfl ?_
      exact ⟨by unfold xf_72; first | (simp only [if_neg h1, if_neg h5]; done) | rfl, by unfold xm_72; first | (simp only [if_neg h1, if_neg h5]; done) | rfl⟩
    · skip
      refine rs_aload_n ri_72_20 rfl rfl ?_
      refine rs_gf (v := .ref 36) ri_72_21 rfl (by decide) (ro_kf (kd_35 hL)) rfl (rf_35_2 hL) ?_
      refine rs_iload_n ri_72_24 rfl rfl ?_
      refine rs_iload_n ri_72_25 rfl rfl ?_
      refine rs_virt (As := [.int v1, .int v2]) (r := []) ri_72_26 rfl (by decide) rm_74.2.2.2 rm_74.2.2.1 rfl rfl rfl (by decide) (ro_kf (kd_36 hL)) (Nat.le_of_ble_eq_true rfl) (by decide) (by decide) (xs_74 (X := X) hL (by unfold ro_ip; decide)) ?_
      rintro _ _ ⟨e1, e2⟩
      rw [e1, e2]
      show ro_w X _ 72 _ 29 [(4, .int (ro_b (xf_73 M 36 v1 v2))), (0, .ref 35), (1, .int v1), (2, .int v2), (3, .int (ro_b v3))] [] (xm_74 M 36 v1 v2) (0, 0)
      refine rs_iload ri_72_29 rfl rfl ?_
      refine rs_zret (p := (xf_73 M 36 v1 v2)) ri_72_31 rm_72.2.1 (by decide) rfl ?_
      exact ⟨by unfold xf_72; first | (simp only [if_neg h1, if_pos h5]; done) | rfl, by unfold xm_72; first | (simp only [if_neg h1, if_pos h5]; done) | rfl⟩
theorem xl_72 {M : ro_Mm} {v1 : Int32} {v2 : Int32} {v3 : Bool} (hL : ro_lay M) (hp : xp_72 M v1 v2 v3) : ro_lay (xm_72 M v1 v2 v3) := by
  unfold xp_72 at hp
  unfold xm_72
  by_cases hz : v3
  · have hp := hp.1 hz
    rw [if_pos hz]
    by_cases hz : (xf_75 M 36 v1 v2)
    · have hp := hp.1 hz
      rw [if_pos hz]
      obtain ⟨q2, hp⟩ := hp
      by_cases hz : (xf_58 M 36 v1 v2) < (xf_30 (xm_58 M 36 v1 v2) (0 : Int32) (6 : Int32))
      · skip
        rw [if_pos hz]
        exact (xl_76 (xl_58 hL (by unfold ro_ip; decide) q2))
      · skip
        rw [if_neg hz]
        exact (xl_76 (xl_58 hL (by unfold ro_ip; decide) q2))
    · have hp := hp.2 hz
      rw [if_neg hz]
      exact hL
  · have hp := hp.2 hz
    rw [if_neg hz]
    by_cases hz : (xf_73 M 36 v1 v2)
    · skip
      rw [if_pos hz]
      exact (xl_74 hL (by unfold ro_ip; decide))
    · skip
      rw [if_neg hz]
      exact hL
theorem xwI_72 {M : ro_Mm} {v1 : Int32} {v2 : Int32} {v3 : Bool} {c j : Nat} (n0 : c ≠ 21) (n1 : c ≠ 16) (n2 : c ≠ 20) (n3 : c ≠ 37) (n4 : c ≠ 38) (n5 : c ≠ 35) : (xm_72 M v1 v2 v3).2.1 c j = M.2.1 c j := by
  unfold xm_72
  by_cases hz : v3
  · rw [if_pos hz]
    by_cases hz : (xf_75 M 36 v1 v2)
    · rw [if_pos hz]
      by_cases hz : (xf_58 M 36 v1 v2) < (xf_30 (xm_58 M 36 v1 v2) (0 : Int32) (6 : Int32))
      · rw [if_pos hz]
        first | done | exact (((xwI_76 n3 n4 n5)).trans (xwI_58 n0 n1 n2))
      · rw [if_neg hz]
        first | done | exact (((xwI_76 n3 n4 n5)).trans (xwI_58 n0 n1 n2))
    · rw [if_neg hz]
      first | done | exact rfl
  · rw [if_neg hz]
    by_cases hz : (xf_73 M 36 v1 v2)
    · rw [if_pos hz]
      first | done | exact (xwI_74 n4)
    · rw [if_neg hz]
      first | done | exact rfl
theorem xwJ_72 {M : ro_Mm} {v1 : Int32} {v2 : Int32} {v3 : Bool} {c j : Nat} : (xm_72 M v1 v2 v3).2.2.1 c j = M.2.2.1 c j := by
  unfold xm_72
  by_cases hz : v3
  · rw [if_pos hz]
    by_cases hz : (xf_75 M 36 v1 v2)
    · rw [if_pos hz]
      by_cases hz : (xf_58 M 36 v1 v2) < (xf_30 (xm_58 M 36 v1 v2) (0 : Int32) (6 : Int32))
      · rw [if_pos hz]
        first | done | exact (((xwJ_76)).trans (xwJ_58))
      · rw [if_neg hz]
        first | done | exact (((xwJ_76)).trans (xwJ_58))
    · rw [if_neg hz]
      first | done | exact rfl
  · rw [if_neg hz]
    by_cases hz : (xf_73 M 36 v1 v2)
    · rw [if_pos hz]
      first | done | exact (xwJ_74)
    · rw [if_neg hz]
      first | done | exact rfl
/-- RefusedOnce$Chances.offerNext(IIIII)V -/
noncomputable def xm_98 (M : ro_Mm) (v1 : Int32) (v2 : Int32) (v3 : Int32) (v4 : Int32) (v5 : Int32) : ro_Mm := (if v4 < (0 : Int32) then M else (if (9 : Int32) ≤ (v4 + (1 : Int32)) then M else (if v4 < (9 : Int32) then (if (xf_75 (xm_16 (xm_17 (xm_16 M 49 v1 ((xf_30 M v1 (0 : Int32)) - v3)) 49 v1 ((xf_30 (xm_16 M 49 v1 ((xf_30 M v1 (0 : Int32)) - v3)) v1 (1 : Int32)) + v4)) 49 v2 (((xf_30 (xm_17 (xm_16 M 49 v1 ((xf_30 M v1 (0 : Int32)) - v3)) 49 v1 ((xf_30 (xm_16 M 49 v1 ((xf_30 M v1 (0 : Int32)) - v3)) v1 (1 : Int32)) + v4)) v2 (0 : Int32)) + v3) - v4)) 49 v1 v2) then (ro_sJ (ro_sJ (xm_58 (xm_16 (xm_17 (xm_16 M 49 v1 ((xf_30 M v1 (0 : Int32)) - v3)) 49 v1 ((xf_30 (xm_16 M 49 v1 ((xf_30 M v1 (0 : Int32)) - v3)) v1 (1 : Int32)) + v4)) 49 v2 (((xf_30 (xm_17 (xm_16 M 49 v1 ((xf_30 M v1 (0 : Int32)) - v3)) 49 v1 ((xf_30 (xm_16 M 49 v1 ((xf_30 M v1 (0 : Int32)) - v3)) v1 (1 : Int32)) + v4)) v2 (0 : Int32)) + v3) - v4)) 49 v1 v2) 53 ((v4 + (1 : Int32)).toNatClampNeg) ((M.2.2.1 53 ((v4 + (1 : Int32)).toNatClampNeg)) + ((M.2.2.1 53 (v4.toNatClampNeg)) * ((xf_58 (xm_16 (xm_17 (xm_16 M 49 v1 ((xf_30 M v1 (0 : Int32)) - v3)) 49 v1 ((xf_30 (xm_16 M 49 v1 ((xf_30 M v1 (0 : Int32)) - v3)) v1 (1 : Int32)) + v4)) 49 v2 (((xf_30 (xm_17 (xm_16 M 49 v1 ((xf_30 M v1 (0 : Int32)) - v3)) 49 v1 ((xf_30 (xm_16 M 49 v1 ((xf_30 M v1 (0 : Int32)) - v3)) v1 (1 : Int32)) + v4)) v2 (0 : Int32)) + v3) - v4)) 49 v1 v2).toInt64)))) 53 (v4.toNatClampNeg) (((ro_sJ (xm_58 (xm_16 (xm_17 (xm_16 M 49 v1 ((xf_30 M v1 (0 : Int32)) - v3)) 49 v1 ((xf_30 (xm_16 M 49 v1 ((xf_30 M v1 (0 : Int32)) - v3)) v1 (1 : Int32)) + v4)) 49 v2 (((xf_30 (xm_17 (xm_16 M 49 v1 ((xf_30 M v1 (0 : Int32)) - v3)) 49 v1 ((xf_30 (xm_16 M 49 v1 ((xf_30 M v1 (0 : Int32)) - v3)) v1 (1 : Int32)) + v4)) v2 (0 : Int32)) + v3) - v4)) 49 v1 v2) 53 ((v4 + (1 : Int32)).toNatClampNeg) ((M.2.2.1 53 ((v4 + (1 : Int32)).toNatClampNeg)) + ((M.2.2.1 53 (v4.toNatClampNeg)) * ((xf_58 (xm_16 (xm_17 (xm_16 M 49 v1 ((xf_30 M v1 (0 : Int32)) - v3)) 49 v1 ((xf_30 (xm_16 M 49 v1 ((xf_30 M v1 (0 : Int32)) - v3)) v1 (1 : Int32)) + v4)) 49 v2 (((xf_30 (xm_17 (xm_16 M 49 v1 ((xf_30 M v1 (0 : Int32)) - v3)) 49 v1 ((xf_30 (xm_16 M 49 v1 ((xf_30 M v1 (0 : Int32)) - v3)) v1 (1 : Int32)) + v4)) v2 (0 : Int32)) + v3) - v4)) 49 v1 v2).toInt64)))).2.2.1 53 (v4.toNatClampNeg)) * (((12 : Int32) - (xf_58 (xm_16 (xm_17 (xm_16 M 49 v1 ((xf_30 M v1 (0 : Int32)) - v3)) 49 v1 ((xf_30 (xm_16 M 49 v1 ((xf_30 M v1 (0 : Int32)) - v3)) v1 (1 : Int32)) + v4)) 49 v2 (((xf_30 (xm_17 (xm_16 M 49 v1 ((xf_30 M v1 (0 : Int32)) - v3)) 49 v1 ((xf_30 (xm_16 M 49 v1 ((xf_30 M v1 (0 : Int32)) - v3)) v1 (1 : Int32)) + v4)) v2 (0 : Int32)) + v3) - v4)) 49 v1 v2)).toInt64))) else (ro_sJ (ro_sJ (xm_16 (xm_17 (xm_16 M 49 v1 ((xf_30 M v1 (0 : Int32)) - v3)) 49 v1 ((xf_30 (xm_16 M 49 v1 ((xf_30 M v1 (0 : Int32)) - v3)) v1 (1 : Int32)) + v4)) 49 v2 (((xf_30 (xm_17 (xm_16 M 49 v1 ((xf_30 M v1 (0 : Int32)) - v3)) 49 v1 ((xf_30 (xm_16 M 49 v1 ((xf_30 M v1 (0 : Int32)) - v3)) v1 (1 : Int32)) + v4)) v2 (0 : Int32)) + v3) - v4)) 52 (v4.toNatClampNeg) ((M.2.2.1 52 (v4.toNatClampNeg)) + ((M.2.2.1 53 (v4.toNatClampNeg)) * (xf_99 (xm_16 (xm_17 (xm_16 M 49 v1 ((xf_30 M v1 (0 : Int32)) - v3)) 49 v1 ((xf_30 (xm_16 M 49 v1 ((xf_30 M v1 (0 : Int32)) - v3)) v1 (1 : Int32)) + v4)) 49 v2 (((xf_30 (xm_17 (xm_16 M 49 v1 ((xf_30 M v1 (0 : Int32)) - v3)) 49 v1 ((xf_30 (xm_16 M 49 v1 ((xf_30 M v1 (0 : Int32)) - v3)) v1 (1 : Int32)) + v4)) v2 (0 : Int32)) + v3) - v4)) v5)))) 53 (v4.toNatClampNeg) (0 : Int64))) else M)))
def xp_98 (M : ro_Mm) (v1 : Int32) (v2 : Int32) (v3 : Int32) (v4 : Int32) (v5 : Int32) : Prop := ((v4 < (0 : Int32) → True) ∧ (¬ (v4 < (0 : Int32)) → (((9 : Int32) ≤ (v4 + (1 : Int32)) → True) ∧ (¬ ((9 : Int32) ≤ (v4 + (1 : Int32))) → ((v4 < (9 : Int32) → (((xf_75 (xm_16 (xm_17 (xm_16 M 49 v1 ((xf_30 M v1 (0 : Int32)) - v3)) 49 v1 ((xf_30 (xm_16 M 49 v1 ((xf_30 M v1 (0 : Int32)) - v3)) v1 (1 : Int32)) + v4)) 49 v2 (((xf_30 (xm_17 (xm_16 M 49 v1 ((xf_30 M v1 (0 : Int32)) - v3)) 49 v1 ((xf_30 (xm_16 M 49 v1 ((xf_30 M v1 (0 : Int32)) - v3)) v1 (1 : Int32)) + v4)) v2 (0 : Int32)) + v3) - v4)) 49 v1 v2) → (xp_58 (xm_16 (xm_17 (xm_16 M 49 v1 ((xf_30 M v1 (0 : Int32)) - v3)) 49 v1 ((xf_30 (xm_16 M 49 v1 ((xf_30 M v1 (0 : Int32)) - v3)) v1 (1 : Int32)) + v4)) 49 v2 (((xf_30 (xm_17 (xm_16 M 49 v1 ((xf_30 M v1 (0 : Int32)) - v3)) 49 v1 ((xf_30 (xm_16 M 49 v1 ((xf_30 M v1 (0 : Int32)) - v3)) v1 (1 : Int32)) + v4)) v2 (0 : Int32)) + v3) - v4)) 49 v1 v2 ∧ (vp_in (v4 + (1 : Int32)) 9 ∧ (vp_in (v4 + (1 : Int32)) 9 ∧ True)))) ∧ (¬ ((xf_75 (xm_16 (xm_17 (xm_16 M 49 v1 ((xf_30 M v1 (0 : Int32)) - v3)) 49 v1 ((xf_30 (xm_16 M 49 v1 ((xf_30 M v1 (0 : Int32)) - v3)) v1 (1 : Int32)) + v4)) 49 v2 (((xf_30 (xm_17 (xm_16 M 49 v1 ((xf_30 M v1 (0 : Int32)) - v3)) 49 v1 ((xf_30 (xm_16 M 49 v1 ((xf_30 M v1 (0 : Int32)) - v3)) v1 (1 : Int32)) + v4)) v2 (0 : Int32)) + v3) - v4)) 49 v1 v2)) → (xp_99 (xm_16 (xm_17 (xm_16 M 49 v1 ((xf_30 M v1 (0 : Int32)) - v3)) 49 v1 ((xf_30 (xm_16 M 49 v1 ((xf_30 M v1 (0 : Int32)) - v3)) v1 (1 : Int32)) + v4)) 49 v2 (((xf_30 (xm_17 (xm_16 M 49 v1 ((xf_30 M v1 (0 : Int32)) - v3)) 49 v1 ((xf_30 (xm_16 M 49 v1 ((xf_30 M v1 (0 : Int32)) - v3)) v1 (1 : Int32)) + v4)) v2 (0 : Int32)) + v3) - v4)) v5 ∧ True)))) ∧ (¬ (v4 < (9 : Int32)) → True))))))
theorem xs_98 {X : ro_Sx} {M : ro_Mm} {v1 : Int32} {v2 : Int32} {v3 : Int32} {v4 : Int32} {v5 : Int32} (hL : ro_lay M) (hp : xp_98 M v1 v2 v3 v4 v5) : ro_cwp X 4 98 [.ref 48, .int v1, .int v2, .int v3, .int v4, .int v5] M (fun v M2 => v = none ∧ M2 = xm_98 M v1 v2 v3 v4 v5) := by
  refine rs_begin (lv0 := [(0, .ref 48), (1, .int v1), (2, .int v2), (3, .int v3), (4, .int v4), (5, .int v5)]) (by decide) rfl (by rw [rm_98.1]; exact Nat.le_of_ble_eq_true rfl) rfl ?_
  unfold xp_98 at hp
  refine rs_iload ri_98_0 rfl rfl ?_
  refine rs_if_lt (t := 27) ri_98_2 rfl rfl (fun h1 => ?_) (fun h1 => ?_)
  · have hp := hp.1 h1
    refine rs_ret ri_98_27 rm_98.2.1 (by decide) ?_
    exact ⟨by rfl, by unfold xm_98; first | (simp only [if_pos h1]; done) | rfl⟩
  · have hp := hp.2 h1
    refine rs_iload ri_98_5 rfl rfl ?_
    refine rs_iconst (v := (1 : Int32)) ri_98_7 rfl (by decide) ?_
    refine rs_iadd (r := (v4 + (1 : Int32))) ri_98_8 rfl rfl ?_
    refine rs_aload_n ri_98_9 rfl rfl ?_
    refine rs_gf (v := .ref 53) ri_98_10 rfl (by decide) (ro_kf (kd_48 hL)) rfl (rf_48_4 hL) ?_
    refine rs_len (v := (9 : Int32)) ri_98_13 rfl (by decide) (kd_53 hL) (by decide) rfl ?_
    refine rs_icmp_ge (t := 27) ri_98_14 rfl rfl (fun h2 => ?_) (fun h2 => ?_)
    · have hp := hp.1 h2
      refine rs_ret ri_98_27 rm_98.2.1 (by decide) ?_
      exact ⟨by rfl, by unfold xm_98; first | (simp only [if_neg h1, if_pos h2]; done) | rfl⟩
    · have hp := hp.2 h2
      refine rs_iload ri_98_17 rfl rfl ?_
      refine rs_aload_n ri_98_19 rfl rfl ?_
      refine rs_gf (v := .ref 52) ri_98_20 rfl (by decide) (ro_kf (kd_48 hL)) rfl (rf_48_3 hL) ?_
      refine rs_len (v := (9 : Int32)) ri_98_23 rfl (by decide) (kd_52 hL) (by decide) rfl ?_
      refine rs_icmp_lt (t := 28) ri_98_24 rfl rfl (fun h3 => ?_) (fun h3 => ?_)
      · have hp := hp.1 h3
        refine rs_aload_n ri_98_28 rfl rfl ?_
        refine rs_gf (v := .ref 49) ri_98_29 rfl (by decide) (ro_kf (kd_48 hL)) rfl (rf_48_2 hL) ?_
        refine rs_iload_n ri_98_32 rfl rfl ?_
        refine rs_aload_n ri_98_33 rfl rfl ?_
        refine rs_gf (v := .ref 5) ri_98_34 rfl (by decide) (ro_kf (kd_48 hL)) rfl (rf_48_0 hL) ?_
        refine rs_iload_n ri_98_37 rfl rfl ?_
        refine rs_iconst (v := (0 : Int32)) ri_98_38 rfl (by decide) ?_
        refine rs_virt (As := [.int v1, .int (0 : Int32)]) (r := [.int v1, .ref 49]) ri_98_39 rfl (by decide) rm_30.2.2.2 rm_30.2.2.1 rfl rfl rfl (by decide) (ro_kf (kd_5 hL)) (Nat.le_of_ble_eq_true rfl) (by decide) (by decide) (xs_30 (X := X) hL) ?_
        rintro _ _ ⟨e1, e2⟩
        rw [e1, e2]
        show ro_w X _ 98 _ 42 [(0, .ref 48), (1, .int v1), (2, .int v2), (3, .int v3), (4, .int v4), (5, .int v5)] [.int (xf_30 M v1 (0 : Int32)), .int v1, .ref 49] M (0, 0)
        refine rs_iload_n ri_98_42 rfl rfl ?_
        refine rs_isub (r := ((xf_30 M v1 (0 : Int32)) - v3)) ri_98_43 rfl rfl ?_
        refine rs_virt (As := [.int v1, .int ((xf_30 M v1 (0 : Int32)) - v3)]) (r := []) ri_98_44 rfl (by decide) rm_16.2.2.2 rm_16.2.2.1 rfl rfl rfl (by decide) (ro_kf (kd_49 hL)) (Nat.le_of_ble_eq_true rfl) (by decide) (by decide) (xs_16 (X := X) hL (by unfold ro_ip; decide)) ?_
        rintro _ _ ⟨e1, e2⟩
        rw [e1, e2]
        show ro_w X _ 98 _ 47 [(0, .ref 48), (1, .int v1), (2, .int v2), (3, .int v3), (4, .int v4), (5, .int v5)] [] (xm_16 M 49 v1 ((xf_30 M v1 (0 : Int32)) - v3)) (0, 0)
        refine rs_aload_n ri_98_47 rfl rfl ?_
        refine rs_gf (v := .ref 49) ri_98_48 rfl (by decide) (ro_kf (kd_48 (xl_16 hL (by unfold ro_ip; decide)))) rfl (rf_48_2 (xl_16 hL (by unfold ro_ip; decide))) ?_
        refine rs_iload_n ri_98_51 rfl rfl ?_
        refine rs_aload_n ri_98_52 rfl rfl ?_
        refine rs_gf (v := .ref 5) ri_98_53 rfl (by decide) (ro_kf (kd_48 (xl_16 hL (by unfold ro_ip; decide)))) rfl (rf_48_0 (xl_16 hL (by unfold ro_ip; decide))) ?_
        refine rs_iload_n ri_98_56 rfl rfl ?_
        refine rs_iconst (v := (1 : Int32)) ri_98_57 rfl (by decide) ?_
        refine rs_virt (As := [.int v1, .int (1 : Int32)]) (r := [.int v1, .ref 49]) ri_98_58 rfl (by decide) rm_30.2.2.2 rm_30.2.2.1 rfl rfl rfl (by decide) (ro_kf (kd_5 (xl_16 hL (by unfold ro_ip; decide)))) (Nat.le_of_ble_eq_true rfl) (by decide) (by decide) (xs_30 (X := X) (xl_16 hL (by unfold ro_ip; decide))) ?_
        rintro _ _ ⟨e1, e2⟩
        rw [e1, e2]
        show ro_w X _ 98 _ 61 [(0, .ref 48), (1, .int v1), (2, .int v2), (3, .int v3), (4, .int v4), (5, .int v5)] [.int (xf_30 (xm_16 M 49 v1 ((xf_30 M v1 (0 : Int32)) - v3)) v1 (1 : Int32)), .int v1, .ref 49] (xm_16 M 49 v1 ((xf_30 M v1 (0 : Int32)) - v3)) (0, 0)
        refine rs_iload ri_98_61 rfl rfl ?_
        refine rs_iadd (r := ((xf_30 (xm_16 M 49 v1 ((xf_30 M v1 (0 : Int32)) - v3)) v1 (1 : Int32)) + v4)) ri_98_63 rfl rfl ?_
        refine rs_virt (As := [.int v1, .int ((xf_30 (xm_16 M 49 v1 ((xf_30 M v1 (0 : Int32)) - v3)) v1 (1 : Int32)) + v4)]) (r := []) ri_98_64 rfl (by decide) rm_17.2.2.2 rm_17.2.2.1 rfl rfl rfl (by decide) (ro_kf (kd_49 (xl_16 hL (by unfold ro_ip; decide)))) (Nat.le_of_ble_eq_true rfl) (by decide) (by decide) (xs_17 (X := X) (xl_16 hL (by unfold ro_ip; decide)) (by unfold ro_ip; decide)) ?_
        rintro _ _ ⟨e1, e2⟩
        rw [e1, e2]
        show ro_w X _ 98 _ 67 [(0, .ref 48), (1, .int v1), (2, .int v2), (3, .int v3), (4, .int v4), (5, .int v5)] [] (xm_17 (xm_16 M 49 v1 ((xf_30 M v1 (0 : Int32)) - v3)) 49 v1 ((xf_30 (xm_16 M 49 v1 ((xf_30 M v1 (0 : Int32)) - v3)) v1 (1 : Int32)) + v4)) (0, 0)
        refine rs_aload_n ri_98_67 rfl rfl ?_
        refine rs_gf (v := .ref 49) ri_98_68 rfl (by decide) (ro_kf (kd_48 (xl_17 (xl_16 hL (by unfold ro_ip; decide)) (by unfold ro_ip; decide)))) rfl (rf_48_2 (xl_17 (xl_16 hL (by unfold ro_ip; decide)) (by unfold ro_ip; decide))) ?_
        refine rs_iload_n ri_98_71 rfl rfl ?_
        refine rs_aload_n ri_98_72 rfl rfl ?_
        refine rs_gf (v := .ref 5) ri_98_73 rfl (by decide) (ro_kf (kd_48 (xl_17 (xl_16 hL (by unfold ro_ip; decide)) (by unfold ro_ip; decide)))) rfl (rf_48_0 (xl_17 (xl_16 hL (by unfold ro_ip; decide)) (by unfold ro_ip; decide))) ?_
        refine rs_iload_n ri_98_76 rfl rfl ?_
        refine rs_iconst (v := (0 : Int32)) ri_98_77 rfl (by decide) ?_
        refine rs_virt (As := [.int v2, .int (0 : Int32)]) (r := [.int v2, .ref 49]) ri_98_78 rfl (by decide) rm_30.2.2.2 rm_30.2.2.1 rfl rfl rfl (by decide) (ro_kf (kd_5 (xl_17 (xl_16 hL (by unfold ro_ip; decide)) (by unfold ro_ip; decide)))) (Nat.le_of_ble_eq_true rfl) (by decide) (by decide) (xs_30 (X := X) (xl_17 (xl_16 hL (by unfold ro_ip; decide)) (by unfold ro_ip; decide))) ?_
        rintro _ _ ⟨e1, e2⟩
        rw [e1, e2]
        show ro_w X _ 98 _ 81 [(0, .ref 48), (1, .int v1), (2, .int v2), (3, .int v3), (4, .int v4), (5, .int v5)] [.int (xf_30 (xm_17 (xm_16 M 49 v1 ((xf_30 M v1 (0 : Int32)) - v3)) 49 v1 ((xf_30 (xm_16 M 49 v1 ((xf_30 M v1 (0 : Int32)) - v3)) v1 (1 : Int32)) + v4)) v2 (0 : Int32)), .int v2, .ref 49] (xm_17 (xm_16 M 49 v1 ((xf_30 M v1 (0 : Int32)) - v3)) 49 v1 ((xf_30 (xm_16 M 49 v1 ((xf_30 M v1 (0 : Int32)) - v3)) v1 (1 : Int32)) + v4)) (0, 0)
        refine rs_iload_n ri_98_81 rfl rfl ?_
        refine rs_iadd (r := ((xf_30 (xm_17 (xm_16 M 49 v1 ((xf_30 M v1 (0 : Int32)) - v3)) 49 v1 ((xf_30 (xm_16 M 49 v1 ((xf_30 M v1 (0 : Int32)) - v3)) v1 (1 : Int32)) + v4)) v2 (0 : Int32)) + v3)) ri_98_82 rfl rfl ?_
        refine rs_iload ri_98_83 rfl rfl ?_
        refine rs_isub (r := (((xf_30 (xm_17 (xm_16 M 49 v1 ((xf_30 M v1 (0 : Int32)) - v3)) 49 v1 ((xf_30 (xm_16 M 49 v1 ((xf_30 M v1 (0 : Int32)) - v3)) v1 (1 : Int32)) + v4)) v2 (0 : Int32)) + v3) - v4)) ri_98_85 rfl rfl ?_
        refine rs_virt (As := [.int v2, .int (((xf_30 (xm_17 (xm_16 M 49 v1 ((xf_30 M v1 (0 : Int32)) - v3)) 49 v1 ((xf_30 (xm_16 M 49 v1 ((xf_30 M v1 (0 : Int32)) - v3)) v1 (1 : Int32)) + v4)) v2 (0 : Int32)) + v3) - v4)]) (r := []) ri_98_86 rfl (by decide) rm_16.2.2.2 rm_16.2.2.1 rfl rfl rfl (by decide) (ro_kf (kd_49 (xl_17 (xl_16 hL (by unfold ro_ip; decide)) (by unfold ro_ip; decide)))) (Nat.le_of_ble_eq_true rfl) (by decide) (by decide) (xs_16 (X := X) (xl_17 (xl_16 hL (by unfold ro_ip; decide)) (by unfold ro_ip; decide)) (by unfold ro_ip; decide)) ?_
        rintro _ _ ⟨e1, e2⟩
        rw [e1, e2]
        show ro_w X _ 98 _ 89 [(0, .ref 48), (1, .int v1), (2, .int v2), (3, .int v3), (4, .int v4), (5, .int v5)] [] (xm_16 (xm_17 (xm_16 M 49 v1 ((xf_30 M v1 (0 : Int32)) - v3)) 49 v1 ((xf_30 (xm_16 M 49 v1 ((xf_30 M v1 (0 : Int32)) - v3)) v1 (1 : Int32)) + v4)) 49 v2 (((xf_30 (xm_17 (xm_16 M 49 v1 ((xf_30 M v1 (0 : Int32)) - v3)) 49 v1 ((xf_30 (xm_16 M 49 v1 ((xf_30 M v1 (0 : Int32)) - v3)) v1 (1 : Int32)) + v4)) v2 (0 : Int32)) + v3) - v4)) (0, 0)
        refine rs_aload_n ri_98_89 rfl rfl ?_
        refine rs_gf (v := .ref 49) ri_98_90 rfl (by decide) (ro_kf (kd_48 (xl_16 (xl_17 (xl_16 hL (by unfold ro_ip; decide)) (by unfold ro_ip; decide)) (by unfold ro_ip; decide)))) rfl (rf_48_2 (xl_16 (xl_17 (xl_16 hL (by unfold ro_ip; decide)) (by unfold ro_ip; decide)) (by unfold ro_ip; decide))) ?_
        refine rs_iload_n ri_98_93 rfl rfl ?_
        refine rs_iload_n ri_98_94 rfl rfl ?_
        refine rs_virt (As := [.int v1, .int v2]) (r := []) ri_98_95 rfl (by decide) rm_75.2.2.2 rm_75.2.2.1 rfl rfl rfl (by decide) (ro_kf (kd_49 (xl_16 (xl_17 (xl_16 hL (by unfold ro_ip; decide)) (by unfold ro_ip; decide)) (by unfold ro_ip; decide)))) (Nat.le_of_ble_eq_true rfl) (by decide) (by decide) (xs_75 (X := X) (xl_16 (xl_17 (xl_16 hL (by unfold ro_ip; decide)) (by unfold ro_ip; decide)) (by unfold ro_ip; decide)) (by unfold ro_ip; decide)) ?_
        rintro _ _ ⟨e1, e2⟩
        rw [e1, e2]
        show ro_w X _ 98 _ 98 [(0, .ref 48), (1, .int v1), (2, .int v2), (3, .int v3), (4, .int v4), (5, .int v5)] [.int (ro_b (xf_75 (xm_16 (xm_17 (xm_16 M 49 v1 ((xf_30 M v1 (0 : Int32)) - v3)) 49 v1 ((xf_30 (xm_16 M 49 v1 ((xf_30 M v1 (0 : Int32)) - v3)) v1 (1 : Int32)) + v4)) 49 v2 (((xf_30 (xm_17 (xm_16 M 49 v1 ((xf_30 M v1 (0 : Int32)) - v3)) 49 v1 ((xf_30 (xm_16 M 49 v1 ((xf_30 M v1 (0 : Int32)) - v3)) v1 (1 : Int32)) + v4)) v2 (0 : Int32)) + v3) - v4)) 49 v1 v2))] (xm_16 (xm_17 (xm_16 M 49 v1 ((xf_30 M v1 (0 : Int32)) - v3)) 49 v1 ((xf_30 (xm_16 M 49 v1 ((xf_30 M v1 (0 : Int32)) - v3)) v1 (1 : Int32)) + v4)) 49 v2 (((xf_30 (xm_17 (xm_16 M 49 v1 ((xf_30 M v1 (0 : Int32)) - v3)) 49 v1 ((xf_30 (xm_16 M 49 v1 ((xf_30 M v1 (0 : Int32)) - v3)) v1 (1 : Int32)) + v4)) v2 (0 : Int32)) + v3) - v4)) (0, 0)
        refine rs_ifne_c (t := 133) ri_98_98 rfl rfl (fun h4 => ?_) (fun h4 => ?_)
        · have hp := hp.1 h4
          refine rs_aload_n ri_98_133 rfl rfl ?_
          refine rs_gf (v := .ref 16) ri_98_134 rfl (by decide) (ro_kf (kd_48 (xl_16 (xl_17 (xl_16 hL (by unfold ro_ip; decide)) (by unfold ro_ip; decide)) (by unfold ro_ip; decide)))) rfl (rf_48_1 (xl_16 (xl_17 (xl_16 hL (by unfold ro_ip; decide)) (by unfold ro_ip; decide)) (by unfold ro_ip; decide))) ?_
          refine rs_aload_n ri_98_137 rfl rfl ?_
          refine rs_gf (v := .ref 5) ri_98_138 rfl (by decide) (ro_kf (kd_48 (xl_16 (xl_17 (xl_16 hL (by unfold ro_ip; decide)) (by unfold ro_ip; decide)) (by unfold ro_ip; decide)))) rfl (rf_48_0 (xl_16 (xl_17 (xl_16 hL (by unfold ro_ip; decide)) (by unfold ro_ip; decide)) (by unfold ro_ip; decide))) ?_
          refine rs_aload_n ri_98_141 rfl rfl ?_
          refine rs_gf (v := .ref 49) ri_98_142 rfl (by decide) (ro_kf (kd_48 (xl_16 (xl_17 (xl_16 hL (by unfold ro_ip; decide)) (by unfold ro_ip; decide)) (by unfold ro_ip; decide)))) rfl (rf_48_2 (xl_16 (xl_17 (xl_16 hL (by unfold ro_ip; decide)) (by unfold ro_ip; decide)) (by unfold ro_ip; decide))) ?_
          refine rs_iload_n ri_98_145 rfl rfl ?_
          refine rs_iload_n ri_98_146 rfl rfl ?_
          obtain ⟨q4, hp⟩ := hp
          refine rs_virt (As := [.ref 5, .ref 49, .int v1, .int v2]) (r := []) ri_98_147 rfl (by decide) rm_58.2.2.2 rm_58.2.2.1 rfl rfl rfl (by decide) (ro_kf (kd_16 (xl_16 (xl_17 (xl_16 hL (by unfold ro_ip; decide)) (by unfold ro_ip; decide)) (by unfold ro_ip; decide)))) (Nat.le_of_ble_eq_true rfl) (by decide) (by decide) (xs_58 (X := X) (xl_16 (xl_17 (xl_16 hL (by unfold ro_ip; decide)) (by unfold ro_ip; decide)) (by unfold ro_ip; decide)) (by unfold ro_ip; decide) q4) ?_
          rintro _ _ ⟨e1, e2⟩
          rw [e1, e2]
          show ro_w X _ 98 _ 150 [(0, .ref 48), (1, .int v1), (2, .int v2), (3, .int v3), (4, .int v4), (5, .int v5)] [.int (xf_58 (xm_16 (xm_17 (xm_16 M 49 v1 ((xf_30 M v1 (0 : Int32)) - v3)) 49 v1 ((xf_30 (xm_16 M 49 v1 ((xf_30 M v1 (0 : Int32)) - v3)) v1 (1 : Int32)) + v4)) 49 v2 (((xf_30 (xm_17 (xm_16 M 49 v1 ((xf_30 M v1 (0 : Int32)) - v3)) 49 v1 ((xf_30 (xm_16 M 49 v1 ((xf_30 M v1 (0 : Int32)) - v3)) v1 (1 : Int32)) + v4)) v2 (0 : Int32)) + v3) - v4)) 49 v1 v2)] (xm_58 (xm_16 (xm_17 (xm_16 M 49 v1 ((xf_30 M v1 (0 : Int32)) - v3)) 49 v1 ((xf_30 (xm_16 M 49 v1 ((xf_30 M v1 (0 : Int32)) - v3)) v1 (1 : Int32)) + v4)) 49 v2 (((xf_30 (xm_17 (xm_16 M 49 v1 ((xf_30 M v1 (0 : Int32)) - v3)) 49 v1 ((xf_30 (xm_16 M 49 v1 ((xf_30 M v1 (0 : Int32)) - v3)) v1 (1 : Int32)) + v4)) v2 (0 : Int32)) + v3) - v4)) 49 v1 v2) (0, 0)
          refine rs_istore (lv2 := [(6, .int (xf_58 (xm_16 (xm_17 (xm_16 M 49 v1 ((xf_30 M v1 (0 : Int32)) - v3)) 49 v1 ((xf_30 (xm_16 M 49 v1 ((xf_30 M v1 (0 : Int32)) - v3)) v1 (1 : Int32)) + v4)) 49 v2 (((xf_30 (xm_17 (xm_16 M 49 v1 ((xf_30 M v1 (0 : Int32)) - v3)) 49 v1 ((xf_30 (xm_16 M 49 v1 ((xf_30 M v1 (0 : Int32)) - v3)) v1 (1 : Int32)) + v4)) v2 (0 : Int32)) + v3) - v4)) 49 v1 v2)), (0, .ref 48), (1, .int v1), (2, .int v2), (3, .int v3), (4, .int v4), (5, .int v5)]) ri_98_150 rfl rm_98.1 (by decide) rfl ?_
          refine rs_aload_n ri_98_152 rfl rfl ?_
          refine rs_gf (v := .ref 53) ri_98_153 rfl (by decide) (ro_kf (kd_48 (xl_58 (xl_16 (xl_17 (xl_16 hL (by unfold ro_ip; decide)) (by unfold ro_ip; decide)) (by unfold ro_ip; decide)) (by unfold ro_ip; decide) q4))) rfl (rf_48_4 (xl_58 (xl_16 (xl_17 (xl_16 hL (by unfold ro_ip; decide)) (by unfold ro_ip; decide)) (by unfold ro_ip; decide)) (by unfold ro_ip; decide) q4)) ?_
          refine rs_iload ri_98_156 rfl rfl ?_
          refine rs_iconst (v := (1 : Int32)) ri_98_158 rfl (by decide) ?_
          refine rs_iadd (r := (v4 + (1 : Int32))) ri_98_159 rfl rfl ?_
          refine rs_dup2 ri_98_160 rfl rfl rfl ?_
          obtain ⟨q5, hp⟩ := hp
          refine rs_lald (v := (M.2.2.1 53 ((v4 + (1 : Int32)).toNatClampNeg))) ri_98_161 rfl (by decide) (kd_53 (xl_58 (xl_16 (xl_17 (xl_16 hL (by unfold ro_ip; decide)) (by unfold ro_ip; decide)) (by unfold ro_ip; decide)) (by unfold ro_ip; decide) q4)) q5 (((((xwJ_58)).trans (xwJ_16)).trans (xwJ_17)).trans (xwJ_16)) ?_
          refine rs_aload_n ri_98_162 rfl rfl ?_
          refine rs_gf (v := .ref 53) ri_98_163 rfl (by decide) (ro_kf (kd_48 (xl_58 (xl_16 (xl_17 (xl_16 hL (by unfold ro_ip; decide)) (by unfold ro_ip; decide)) (by unfold ro_ip; decide)) (by unfold ro_ip; decide) q4))) rfl (rf_48_4 (xl_58 (xl_16 (xl_17 (xl_16 hL (by unfold ro_ip; decide)) (by unfold ro_ip; decide)) (by unfold ro_ip; decide)) (by unfold ro_ip; decide) q4)) ?_
          refine rs_iload ri_98_166 rfl rfl ?_
          refine rs_lald (v := (M.2.2.1 53 (v4.toNatClampNeg))) ri_98_168 rfl (by decide) (kd_53 (xl_58 (xl_16 (xl_17 (xl_16 hL (by unfold ro_ip; decide)) (by unfold ro_ip; decide)) (by unfold ro_ip; decide)) (by unfold ro_ip; decide) q4)) (vp_in_iff.mpr ⟨(ro_lo1 h1), (ro_hi1 h3 (by decide))⟩) (((((xwJ_58)).trans (xwJ_16)).trans (xwJ_17)).trans (xwJ_16)) ?_
          refine rs_iload ri_98_169 rfl rfl ?_
          refine rs_i2l (r := ((xf_58 (xm_16 (xm_17 (xm_16 M 49 v1 ((xf_30 M v1 (0 : Int32)) - v3)) 49 v1 ((xf_30 (xm_16 M 49 v1 ((xf_30 M v1 (0 : Int32)) - v3)) v1 (1 : Int32)) + v4)) 49 v2 (((xf_30 (xm_17 (xm_16 M 49 v1 ((xf_30 M v1 (0 : Int32)) - v3)) 49 v1 ((xf_30 (xm_16 M 49 v1 ((xf_30 M v1 (0 : Int32)) - v3)) v1 (1 : Int32)) + v4)) v2 (0 : Int32)) + v3) - v4)) 49 v1 v2).toInt64)) ri_98_171 rfl rfl ?_
          refine rs_lmul (r := ((M.2.2.1 53 (v4.toNatClampNeg)) * ((xf_58 (xm_16 (xm_17 (xm_16 M 49 v1 ((xf_30 M v1 (0 : Int32)) - v3)) 49 v1 ((xf_30 (xm_16 M 49 v1 ((xf_30 M v1 (0 : Int32)) - v3)) v1 (1 : Int32)) + v4)) 49 v2 (((xf_30 (xm_17 (xm_16 M 49 v1 ((xf_30 M v1 (0 : Int32)) - v3)) 49 v1 ((xf_30 (xm_16 M 49 v1 ((xf_30 M v1 (0 : Int32)) - v3)) v1 (1 : Int32)) + v4)) v2 (0 : Int32)) + v3) - v4)) 49 v1 v2).toInt64))) ri_98_172 rfl rfl ?_
          refine rs_ladd (r := ((M.2.2.1 53 ((v4 + (1 : Int32)).toNatClampNeg)) + ((M.2.2.1 53 (v4.toNatClampNeg)) * ((xf_58 (xm_16 (xm_17 (xm_16 M 49 v1 ((xf_30 M v1 (0 : Int32)) - v3)) 49 v1 ((xf_30 (xm_16 M 49 v1 ((xf_30 M v1 (0 : Int32)) - v3)) v1 (1 : Int32)) + v4)) 49 v2 (((xf_30 (xm_17 (xm_16 M 49 v1 ((xf_30 M v1 (0 : Int32)) - v3)) 49 v1 ((xf_30 (xm_16 M 49 v1 ((xf_30 M v1 (0 : Int32)) - v3)) v1 (1 : Int32)) + v4)) v2 (0 : Int32)) + v3) - v4)) 49 v1 v2).toInt64)))) ri_98_173 rfl rfl ?_
          obtain ⟨q6, hp⟩ := hp
          refine rs_last (j := (v4 + (1 : Int32)).toNatClampNeg) ri_98_174 rfl (by decide) (kd_53 (xl_58 (xl_16 (xl_17 (xl_16 hL (by unfold ro_ip; decide)) (by unfold ro_ip; decide)) (by unfold ro_ip; decide)) (by unfold ro_ip; decide) q4)) q6 rfl ?_
          refine rs_aload_n ri_98_175 rfl rfl ?_
          refine rs_gf (v := .ref 53) ri_98_176 rfl (by decide) (ro_kf (kd_48 (xl_58 (xl_16 (xl_17 (xl_16 hL (by unfold ro_ip; decide)) (by unfold ro_ip; decide)) (by unfold ro_ip; decide)) (by unfold ro_ip; decide) q4))) rfl (rf_48_4 (xl_58 (xl_16 (xl_17 (xl_16 hL (by unfold ro_ip; decide)) (by unfold ro_ip; decide)) (by unfold ro_ip; decide)) (by unfold ro_ip; decide) q4)) ?_
          refine rs_iload ri_98_179 rfl rfl ?_
          refine rs_dup2 ri_98_181 rfl rfl rfl ?_
          refine rs_lald (v := ((ro_sJ (xm_58 (xm_16 (xm_17 (xm_16 M 49 v1 ((xf_30 M v1 (0 : Int32)) - v3)) 49 v1 ((xf_30 (xm_16 M 49 v1 ((xf_30 M v1 (0 : Int32)) - v3)) v1 (1 : Int32)) + v4)) 49 v2 (((xf_30 (xm_17 (xm_16 M 49 v1 ((xf_30 M v1 (0 : Int32)) - v3)) 49 v1 ((xf_30 (xm_16 M 49 v1 ((xf_30 M v1 (0 : Int32)) - v3)) v1 (1 : Int32)) + v4)) v2 (0 : Int32)) + v3) - v4)) 49 v1 v2) 53 ((v4 + (1 : Int32)).toNatClampNeg) ((M.2.2.1 53 ((v4 + (1 : Int32)).toNatClampNeg)) + ((M.2.2.1 53 (v4.toNatClampNeg)) * ((xf_58 (xm_16 (xm_17 (xm_16 M 49 v1 ((xf_30 M v1 (0 : Int32)) - v3)) 49 v1 ((xf_30 (xm_16 M 49 v1 ((xf_30 M v1 (0 : Int32)) - v3)) v1 (1 : Int32)) + v4)) 49 v2 (((xf_30 (xm_17 (xm_16 M 49 v1 ((xf_30 M v1 (0 : Int32)) - v3)) 49 v1 ((xf_30 (xm_16 M 49 v1 ((xf_30 M v1 (0 : Int32)) - v3)) v1 (1 : Int32)) + v4)) v2 (0 : Int32)) + v3) - v4)) 49 v1 v2).toInt64)))).2.2.1 53 (v4.toNatClampNeg))) ri_98_182 rfl (by decide) (kd_53 (xl_58 (xl_16 (xl_17 (xl_16 hL (by unfold ro_ip; decide)) (by unfold ro_ip; decide)) (by unfold ro_ip; decide)) (by unfold ro_ip; decide) q4)) (vp_in_iff.mpr ⟨(ro_lo1 h1), (ro_hi1 h3 (by decide))⟩) rfl ?_
          refine rs_bipush (v := (12 : Int32)) ri_98_183 rfl (by decide) ?_
          refine rs_iload ri_98_185 rfl rfl ?_
          refine rs_isub (r := ((12 : Int32) - (xf_58 (xm_16 (xm_17 (xm_16 M 49 v1 ((xf_30 M v1 (0 : Int32)) - v3)) 49 v1 ((xf_30 (xm_16 M 49 v1 ((xf_30 M v1 (0 : Int32)) - v3)) v1 (1 : Int32)) + v4)) 49 v2 (((xf_30 (xm_17 (xm_16 M 49 v1 ((xf_30 M v1 (0 : Int32)) - v3)) 49 v1 ((xf_30 (xm_16 M 49 v1 ((xf_30 M v1 (0 : Int32)) - v3)) v1 (1 : Int32)) + v4)) v2 (0 : Int32)) + v3) - v4)) 49 v1 v2))) ri_98_187 rfl rfl ?_
          refine rs_i2l (r := (((12 : Int32) - (xf_58 (xm_16 (xm_17 (xm_16 M 49 v1 ((xf_30 M v1 (0 : Int32)) - v3)) 49 v1 ((xf_30 (xm_16 M 49 v1 ((xf_30 M v1 (0 : Int32)) - v3)) v1 (1 : Int32)) + v4)) 49 v2 (((xf_30 (xm_17 (xm_16 M 49 v1 ((xf_30 M v1 (0 : Int32)) - v3)) 49 v1 ((xf_30 (xm_16 M 49 v1 ((xf_30 M v1 (0 : Int32)) - v3)) v1 (1 : Int32)) + v4)) v2 (0 : Int32)) + v3) - v4)) 49 v1 v2)).toInt64)) ri_98_188 rfl rfl ?_
          refine rs_lmul (r := (((ro_sJ (xm_58 (xm_16 (xm_17 (xm_16 M 49 v1 ((xf_30 M v1 (0 : Int32)) - v3)) 49 v1 ((xf_30 (xm_16 M 49 v1 ((xf_30 M v1 (0 : Int32)) - v3)) v1 (1 : Int32)) + v4)) 49 v2 (((xf_30 (xm_17 (xm_16 M 49 v1 ((xf_30 M v1 (0 : Int32)) - v3)) 49 v1 ((xf_30 (xm_16 M 49 v1 ((xf_30 M v1 (0 : Int32)) - v3)) v1 (1 : Int32)) + v4)) v2 (0 : Int32)) + v3) - v4)) 49 v1 v2) 53 ((v4 + (1 : Int32)).toNatClampNeg) ((M.2.2.1 53 ((v4 + (1 : Int32)).toNatClampNeg)) + ((M.2.2.1 53 (v4.toNatClampNeg)) * ((xf_58 (xm_16 (xm_17 (xm_16 M 49 v1 ((xf_30 M v1 (0 : Int32)) - v3)) 49 v1 ((xf_30 (xm_16 M 49 v1 ((xf_30 M v1 (0 : Int32)) - v3)) v1 (1 : Int32)) + v4)) 49 v2 (((xf_30 (xm_17 (xm_16 M 49 v1 ((xf_30 M v1 (0 : Int32)) - v3)) 49 v1 ((xf_30 (xm_16 M 49 v1 ((xf_30 M v1 (0 : Int32)) - v3)) v1 (1 : Int32)) + v4)) v2 (0 : Int32)) + v3) - v4)) 49 v1 v2).toInt64)))).2.2.1 53 (v4.toNatClampNeg)) * (((12 : Int32) - (xf_58 (xm_16 (xm_17 (xm_16 M 49 v1 ((xf_30 M v1 (0 : Int32)) - v3)) 49 v1 ((xf_30 (xm_16 M 49 v1 ((xf_30 M v1 (0 : Int32)) - v3)) v1 (1 : Int32)) + v4)) 49 v2 (((xf_30 (xm_17 (xm_16 M 49 v1 ((xf_30 M v1 (0 : Int32)) - v3)) 49 v1 ((xf_30 (xm_16 M 49 v1 ((xf_30 M v1 (0 : Int32)) - v3)) v1 (1 : Int32)) + v4)) v2 (0 : Int32)) + v3) - v4)) 49 v1 v2)).toInt64))) ri_98_189 rfl rfl ?_
          refine rs_last (j := v4.toNatClampNeg) ri_98_190 rfl (by decide) (kd_53 (xl_58 (xl_16 (xl_17 (xl_16 hL (by unfold ro_ip; decide)) (by unfold ro_ip; decide)) (by unfold ro_ip; decide)) (by unfold ro_ip; decide) q4)) (vp_in_iff.mpr ⟨(ro_lo1 h1), (ro_hi1 h3 (by decide))⟩) rfl ?_
          refine rs_ret ri_98_191 rm_98.2.1 (by decide) ?_
          exact ⟨by rfl, by unfold xm_98; first | (simp only [if_neg h1, if_neg h2, if_pos h3, if_pos h4]; done) | rfl⟩
        · have hp := hp.2 h4
          refine rs_aload_n ri_98_101 rfl rfl ?_
          refine rs_gf (v := .ref 52) ri_98_102 rfl (by decide) (ro_kf (kd_48 (xl_16 (xl_17 (xl_16 hL (by unfold ro_ip; decide)) (by unfold ro_ip; decide)) (by unfold ro_ip; decide)))) rfl (rf_48_3 (xl_16 (xl_17 (xl_16 hL (by unfold ro_ip; decide)) (by unfold ro_ip; decide)) (by unfold ro_ip; decide))) ?_
          refine rs_iload ri_98_105 rfl rfl ?_
          refine rs_dup2 ri_98_107 rfl rfl rfl ?_
          refine rs_lald (v := (M.2.2.1 52 (v4.toNatClampNeg))) ri_98_108 rfl (by decide) (kd_52 (xl_16 (xl_17 (xl_16 hL (by unfold ro_ip; decide)) (by unfold ro_ip; decide)) (by unfold ro_ip; decide))) (vp_in_iff.mpr ⟨(ro_lo1 h1), (ro_hi1 h3 (by decide))⟩) ((((xwJ_16)).trans (xwJ_17)).trans (xwJ_16)) ?_
          refine rs_aload_n ri_98_109 rfl rfl ?_
          refine rs_gf (v := .ref 53) ri_98_110 rfl (by decide) (ro_kf (kd_48 (xl_16 (xl_17 (xl_16 hL (by unfold ro_ip; decide)) (by unfold ro_ip; decide)) (by unfold ro_ip; decide)))) rfl (rf_48_4 (xl_16 (xl_17 (xl_16 hL (by unfold ro_ip; decide)) (by unfold ro_ip; decide)) (by unfold ro_ip; decide))) ?_
          refine rs_iload ri_98_113 rfl rfl ?_
          refine rs_lald (v := (M.2.2.1 53 (v4.toNatClampNeg))) ri_98_115 rfl (by decide) (kd_53 (xl_16 (xl_17 (xl_16 hL (by unfold ro_ip; decide)) (by unfold ro_ip; decide)) (by unfold ro_ip; decide))) (vp_in_iff.mpr ⟨(ro_lo1 h1), (ro_hi1 h3 (by decide))⟩) ((((xwJ_16)).trans (xwJ_17)).trans (xwJ_16)) ?_
          refine rs_iload ri_98_116 rfl rfl ?_
          obtain ⟨q7, hp⟩ := hp
          refine rs_stat (As := [.int v5]) (r := [.long (M.2.2.1 53 (v4.toNatClampNeg)), .long (M.2.2.1 52 (v4.toNatClampNeg)), .int v4, .ref 52]) ri_98_118 rfl rm_99.2.2.2 rfl rfl rfl (Nat.le_of_ble_eq_true rfl) (by decide) (by decide) (xs_99 (X := X) (xl_16 (xl_17 (xl_16 hL (by unfold ro_ip; decide)) (by unfold ro_ip; decide)) (by unfold ro_ip; decide)) q7) ?_
          rintro _ _ ⟨e1, e2⟩
          rw [e1, e2]
          show ro_w X _ 98 _ 121 [(0, .ref 48), (1, .int v1), (2, .int v2), (3, .int v3), (4, .int v4), (5, .int v5)] [.long (xf_99 (xm_16 (xm_17 (xm_16 M 49 v1 ((xf_30 M v1 (0 : Int32)) - v3)) 49 v1 ((xf_30 (xm_16 M 49 v1 ((xf_30 M v1 (0 : Int32)) - v3)) v1 (1 : Int32)) + v4)) 49 v2 (((xf_30 (xm_17 (xm_16 M 49 v1 ((xf_30 M v1 (0 : Int32)) - v3)) 49 v1 ((xf_30 (xm_16 M 49 v1 ((xf_30 M v1 (0 : Int32)) - v3)) v1 (1 : Int32)) + v4)) v2 (0 : Int32)) + v3) - v4)) v5), .long (M.2.2.1 53 (v4.toNatClampNeg)), .long (M.2.2.1 52 (v4.toNatClampNeg)), .int v4, .ref 52] (xm_16 (xm_17 (xm_16 M 49 v1 ((xf_30 M v1 (0 : Int32)) - v3)) 49 v1 ((xf_30 (xm_16 M 49 v1 ((xf_30 M v1 (0 : Int32)) - v3)) v1 (1 : Int32)) + v4)) 49 v2 (((xf_30 (xm_17 (xm_16 M 49 v1 ((xf_30 M v1 (0 : Int32)) - v3)) 49 v1 ((xf_30 (xm_16 M 49 v1 ((xf_30 M v1 (0 : Int32)) - v3)) v1 (1 : Int32)) + v4)) v2 (0 : Int32)) + v3) - v4)) (0, 0)
          refine rs_lmul (r := ((M.2.2.1 53 (v4.toNatClampNeg)) * (xf_99 (xm_16 (xm_17 (xm_16 M 49 v1 ((xf_30 M v1 (0 : Int32)) - v3)) 49 v1 ((xf_30 (xm_16 M 49 v1 ((xf_30 M v1 (0 : Int32)) - v3)) v1 (1 : Int32)) + v4)) 49 v2 (((xf_30 (xm_17 (xm_16 M 49 v1 ((xf_30 M v1 (0 : Int32)) - v3)) 49 v1 ((xf_30 (xm_16 M 49 v1 ((xf_30 M v1 (0 : Int32)) - v3)) v1 (1 : Int32)) + v4)) v2 (0 : Int32)) + v3) - v4)) v5))) ri_98_121 rfl rfl ?_
          refine rs_ladd (r := ((M.2.2.1 52 (v4.toNatClampNeg)) + ((M.2.2.1 53 (v4.toNatClampNeg)) * (xf_99 (xm_16 (xm_17 (xm_16 M 49 v1 ((xf_30 M v1 (0 : Int32)) - v3)) 49 v1 ((xf_30 (xm_16 M 49 v1 ((xf_30 M v1 (0 : Int32)) - v3)) v1 (1 : Int32)) + v4)) 49 v2 (((xf_30 (xm_17 (xm_16 M 49 v1 ((xf_30 M v1 (0 : Int32)) - v3)) 49 v1 ((xf_30 (xm_16 M 49 v1 ((xf_30 M v1 (0 : Int32)) - v3)) v1 (1 : Int32)) + v4)) v2 (0 : Int32)) + v3) - v4)) v5)))) ri_98_122 rfl rfl ?_
          refine rs_last (j := v4.toNatClampNeg) ri_98_123 rfl (by decide) (kd_52 (xl_16 (xl_17 (xl_16 hL (by unfold ro_ip; decide)) (by unfold ro_ip; decide)) (by unfold ro_ip; decide))) (vp_in_iff.mpr ⟨(ro_lo1 h1), (ro_hi1 h3 (by decide))⟩) rfl ?_
          refine rs_aload_n ri_98_124 rfl rfl ?_
          refine rs_gf (v := .ref 53) ri_98_125 rfl (by decide) (ro_kf (kd_48 (xl_16 (xl_17 (xl_16 hL (by unfold ro_ip; decide)) (by unfold ro_ip; decide)) (by unfold ro_ip; decide)))) rfl (rf_48_4 (xl_16 (xl_17 (xl_16 hL (by unfold ro_ip; decide)) (by unfold ro_ip; decide)) (by unfold ro_ip; decide))) ?_
          refine rs_iload ri_98_128 rfl rfl ?_
          refine rs_lconst (v := (0 : Int64)) ri_98_130 rfl rfl ?_
          refine rs_last (j := v4.toNatClampNeg) ri_98_131 rfl (by decide) (kd_53 (xl_16 (xl_17 (xl_16 hL (by unfold ro_ip; decide)) (by unfold ro_ip; decide)) (by unfold ro_ip; decide))) (vp_in_iff.mpr ⟨(ro_lo1 h1), (ro_hi1 h3 (by decide))⟩) rfl ?_
          refine rs_ret ri_98_132 rm_98.2.1 (by decide) ?_
          exact ⟨by rfl, by unfold xm_98; first | (simp only [if_neg h1, if_neg h2, if_pos h3, if_neg h4]; done) | rfl⟩
      · have hp := hp.2 h3
        refine rs_ret ri_98_27 rm_98.2.1 (by decide) ?_
        exact ⟨by rfl, by unfold xm_98; first | (simp only [if_neg h1, if_neg h2, if_neg h3]; done) | rfl⟩
theorem xl_98 {M : ro_Mm} {v1 : Int32} {v2 : Int32} {v3 : Int32} {v4 : Int32} {v5 : Int32} (hL : ro_lay M) (hp : xp_98 M v1 v2 v3 v4 v5) : ro_lay (xm_98 M v1 v2 v3 v4 v5) := by
  unfold xp_98 at hp
  unfold xm_98
  by_cases hz : v4 < (0 : Int32)
  · have hp := hp.1 hz
    rw [if_pos hz]
    exact hL
  · have hp := hp.2 hz
    rw [if_neg hz]
    by_cases hz : (9 : Int32) ≤ (v4 + (1 : Int32))
    · have hp := hp.1 hz
      rw [if_pos hz]
      exact hL
    · have hp := hp.2 hz
      rw [if_neg hz]
      by_cases hz : v4 < (9 : Int32)
      · have hp := hp.1 hz
        rw [if_pos hz]
        by_cases hz : (xf_75 (xm_16 (xm_17 (xm_16 M 49 v1 ((xf_30 M v1 (0 : Int32)) - v3)) 49 v1 ((xf_30 (xm_16 M 49 v1 ((xf_30 M v1 (0 : Int32)) - v3)) v1 (1 : Int32)) + v4)) 49 v2 (((xf_30 (xm_17 (xm_16 M 49 v1 ((xf_30 M v1 (0 : Int32)) - v3)) 49 v1 ((xf_30 (xm_16 M 49 v1 ((xf_30 M v1 (0 : Int32)) - v3)) v1 (1 : Int32)) + v4)) v2 (0 : Int32)) + v3) - v4)) 49 v1 v2)
        · have hp := hp.1 hz
          rw [if_pos hz]
          obtain ⟨q4, hp⟩ := hp
          obtain ⟨q5, hp⟩ := hp
          obtain ⟨q6, hp⟩ := hp
          exact (xl_58 (xl_16 (xl_17 (xl_16 hL (by unfold ro_ip; decide)) (by unfold ro_ip; decide)) (by unfold ro_ip; decide)) (by unfold ro_ip; decide) q4)
        · have hp := hp.2 hz
          rw [if_neg hz]
          obtain ⟨q7, hp⟩ := hp
          exact (xl_16 (xl_17 (xl_16 hL (by unfold ro_ip; decide)) (by unfold ro_ip; decide)) (by unfold ro_ip; decide))
      · have hp := hp.2 hz
        rw [if_neg hz]
        exact hL
theorem xwI_98 {M : ro_Mm} {v1 : Int32} {v2 : Int32} {v3 : Int32} {v4 : Int32} {v5 : Int32} {c j : Nat} (n0 : c ≠ 50) (n1 : c ≠ 51) (n2 : c ≠ 21) (n3 : c ≠ 16) (n4 : c ≠ 20) : (xm_98 M v1 v2 v3 v4 v5).2.1 c j = M.2.1 c j := by
  unfold xm_98
  by_cases hz : v4 < (0 : Int32)
  · rw [if_pos hz]
    first | done | exact rfl
  · rw [if_neg hz]
    by_cases hz : (9 : Int32) ≤ (v4 + (1 : Int32))
    · rw [if_pos hz]
      first | done | exact rfl
    · rw [if_neg hz]
      by_cases hz : v4 < (9 : Int32)
      · rw [if_pos hz]
        by_cases hz : (xf_75 (xm_16 (xm_17 (xm_16 M 49 v1 ((xf_30 M v1 (0 : Int32)) - v3)) 49 v1 ((xf_30 (xm_16 M 49 v1 ((xf_30 M v1 (0 : Int32)) - v3)) v1 (1 : Int32)) + v4)) 49 v2 (((xf_30 (xm_17 (xm_16 M 49 v1 ((xf_30 M v1 (0 : Int32)) - v3)) 49 v1 ((xf_30 (xm_16 M 49 v1 ((xf_30 M v1 (0 : Int32)) - v3)) v1 (1 : Int32)) + v4)) v2 (0 : Int32)) + v3) - v4)) 49 v1 v2)
        · rw [if_pos hz]
          first | done | exact (((((((congrFun (congrFun ro_sJ_I _) _)).trans (congrFun (congrFun ro_sJ_I _) _)).trans (xwI_58 n2 n3 n4)).trans (xwI_16 n0)).trans (xwI_17 n1)).trans (xwI_16 n0))
        · rw [if_neg hz]
          first | done | exact ((((((congrFun (congrFun ro_sJ_I _) _)).trans (congrFun (congrFun ro_sJ_I _) _)).trans (xwI_16 n0)).trans (xwI_17 n1)).trans (xwI_16 n0))
      · rw [if_neg hz]
        first | done | exact rfl
theorem xwJ_98 {M : ro_Mm} {v1 : Int32} {v2 : Int32} {v3 : Int32} {v4 : Int32} {v5 : Int32} {c j : Nat} (n0 : c ≠ 53) (n1 : c ≠ 52) : (xm_98 M v1 v2 v3 v4 v5).2.2.1 c j = M.2.2.1 c j := by
  unfold xm_98
  by_cases hz : v4 < (0 : Int32)
  · rw [if_pos hz]
    first | done | exact rfl
  · rw [if_neg hz]
    by_cases hz : (9 : Int32) ≤ (v4 + (1 : Int32))
    · rw [if_pos hz]
      first | done | exact rfl
    · rw [if_neg hz]
      by_cases hz : v4 < (9 : Int32)
      · rw [if_pos hz]
        by_cases hz : (xf_75 (xm_16 (xm_17 (xm_16 M 49 v1 ((xf_30 M v1 (0 : Int32)) - v3)) 49 v1 ((xf_30 (xm_16 M 49 v1 ((xf_30 M v1 (0 : Int32)) - v3)) v1 (1 : Int32)) + v4)) 49 v2 (((xf_30 (xm_17 (xm_16 M 49 v1 ((xf_30 M v1 (0 : Int32)) - v3)) 49 v1 ((xf_30 (xm_16 M 49 v1 ((xf_30 M v1 (0 : Int32)) - v3)) v1 (1 : Int32)) + v4)) v2 (0 : Int32)) + v3) - v4)) 49 v1 v2)
        · rw [if_pos hz]
          first | done | exact (((((((ro_sJ_ne n0)).trans (ro_sJ_ne n0)).trans (xwJ_58)).trans (xwJ_16)).trans (xwJ_17)).trans (xwJ_16))
        · rw [if_neg hz]
          first | done | exact ((((((ro_sJ_ne n0)).trans (ro_sJ_ne n1)).trans (xwJ_16)).trans (xwJ_17)).trans (xwJ_16))
      · rw [if_neg hz]
        first | done | exact rfl
/-- a loop of RefusedOnce$Chances.tally()V -/
noncomputable def xg_107_27 : Nat → ro_Mm → Int32 → Int32 → Int32 → Int32 × ro_Mm
  | 0, M, v3, v2, v1 => (v3, M)
  | n + 1, M, v3, v2, v1 => (if v1 ≤ v3 then (v3, M) else (if v2 = v3 then (xg_107_27 n M (v3 + (1 : Int32)) v2 v1) else (if (xf_75 M 49 v2 v3) then (xg_107_27 n (ro_sI (xm_58 (ro_sI M 48 7 ((M.2.1 48 7) + (1 : Int32))) 49 v2 v3) 48 8 ((M.2.1 48 8) + ((12 : Int32) - (xf_58 (ro_sI M 48 7 ((M.2.1 48 7) + (1 : Int32))) 49 v2 v3)))) (v3 + (1 : Int32)) v2 v1) else (xg_107_27 n M (v3 + (1 : Int32)) v2 v1))))
def xq_107_27 : Nat → ro_Mm → Int32 → Int32 → Int32 → Prop
  | 0, _, _, _, _ => False
  | n + 1, M, v3, v2, v1 => ((v1 ≤ v3 → True) ∧ (¬ (v1 ≤ v3) → ((v2 = v3 → (xq_107_27 n M (v3 + (1 : Int32)) v2 v1)) ∧ (¬ (v2 = v3) → (((xf_75 M 49 v2 v3) → (xp_58 (ro_sI M 48 7 ((M.2.1 48 7) + (1 : Int32))) 49 v2 v3 ∧ (xq_107_27 n (ro_sI (xm_58 (ro_sI M 48 7 ((M.2.1 48 7) + (1 : Int32))) 49 v2 v3) 48 8 ((M.2.1 48 8) + ((12 : Int32) - (xf_58 (ro_sI M 48 7 ((M.2.1 48 7) + (1 : Int32))) 49 v2 v3)))) (v3 + (1 : Int32)) v2 v1))) ∧ (¬ ((xf_75 M 49 v2 v3)) → (xq_107_27 n M (v3 + (1 : Int32)) v2 v1)))))))
theorem xt_107_27 {X : ro_Sx} {post : ro_Po} : ∀ (n : Nat) {M : ro_Mm} {v3 : Int32} {v2 : Int32} {v1 : Int32} (hL : ro_lay M) (hp : xq_107_27 n M v3 v2 v1) (hk : ro_w X 3 107 post 94 [(3, .int (xg_107_27 n M v3 v2 v1).1), (2, .int v2), (1, .int v1), (0, .ref 48)] [] (xg_107_27 n M v3 v2 v1).2 (0, 0)), ro_w X 3 107 post 27 [(3, .int v3), (2, .int v2), (1, .int v1), (0, .ref 48)] [] M (0, 0) := by
  intro n
  induction n with
  | zero => intro M v3 v2 v1 hL hp hk; exact False.elim hp
  | succ n ih =>
    intro M v3 v2 v1 hL hp hk
    rw [xq_107_27] at hp
    refine rs_iload_n ri_107_27 rfl rfl ?_
    refine rs_iload_n ri_107_28 rfl rfl ?_
    refine rs_icmp_ge (t := 94) ri_107_29 rfl rfl (fun h2 => ?_) (fun h2 => ?_)
    · skip
      have e : xg_107_27 (n + 1) M v3 v2 v1 = (v3, M) := by rw [xg_107_27]; first | (simp only [if_pos h2]; done) | rfl
      rw [e] at hk
      exact ro_w_lv (ro_sub_c rfl (ro_sub_c rfl (ro_sub_c rfl (ro_sub_c rfl (ro_sub_n rfl))))) hk
    · have hp := hp.2 h2
      refine rs_iload_n ri_107_32 rfl rfl ?_
      refine rs_iload_n ri_107_33 rfl rfl ?_
      refine rs_icmp_eq (t := 88) ri_107_34 rfl rfl (fun h3 => ?_) (fun h3 => ?_)
      · have hp := hp.1 h3
        refine rs_iinc (v := (v3 + (1 : Int32))) (lv2 := [(3, .int (v3 + (1 : Int32))), (2, .int v2), (1, .int v1), (0, .ref 48)]) ri_107_88 rfl rfl rfl rm_107.1 (by decide) rfl ?_
        refine rs_goto (t := 27) ri_107_91 rfl ?_
        have e : xg_107_27 (n + 1) M v3 v2 v1 = xg_107_27 n M (v3 + (1 : Int32)) v2 v1 := by rw [xg_107_27]; first | (simp only [if_neg h2, if_pos h3]; done) | rfl
        rw [e] at hk
        exact ro_w_lv (ro_sub_c rfl (ro_sub_c rfl (ro_sub_c rfl (ro_sub_c rfl (ro_sub_n rfl))))) (ih hL  hp hk)
      · have hp := hp.2 h3
        refine rs_aload_n ri_107_37 rfl rfl ?_
        refine rs_gf (v := .ref 49) ri_107_38 rfl (by decide) (ro_kf (kd_48 hL)) rfl (rf_48_2 hL) ?_
        refine rs_iload_n ri_107_41 rfl rfl ?_
        refine rs_iload_n ri_107_42 rfl rfl ?_
        refine rs_virt (As := [.int v2, .int v3]) (r := []) ri_107_43 rfl (by decide) rm_75.2.2.2 rm_75.2.2.1 rfl rfl rfl (by decide) (ro_kf (kd_49 hL)) (Nat.le_of_ble_eq_true rfl) (by decide) (by decide) (xs_75 (X := X) hL (by unfold ro_ip; decide)) ?_
        rintro _ _ ⟨e1, e2⟩
        rw [e1, e2]
        show ro_w X _ 107 _ 46 [(3, .int v3), (2, .int v2), (1, .int v1), (0, .ref 48)] [.int (ro_b (xf_75 M 49 v2 v3))] M (0, 0)
        refine rs_ifeq_c (t := 88) ri_107_46 rfl rfl (fun h4 => ?_) (fun h4 => ?_)
        · have hp := hp.2 h4
          refine rs_iinc (v := (v3 + (1 : Int32))) (lv2 := [(3, .int (v3 + (1 : Int32))), (2, .int v2), (1, .int v1), (0, .ref 48)]) ri_107_88 rfl rfl rfl rm_107.1 (by decide) rfl ?_
          refine rs_goto (t := 27) ri_107_91 rfl ?_
          have e : xg_107_27 (n + 1) M v3 v2 v1 = xg_107_27 n M (v3 + (1 : Int32)) v2 v1 := by rw [xg_107_27]; first | (simp only [if_neg h2, if_neg h3, if_neg h4]; done) | rfl
          rw [e] at hk
          exact ro_w_lv (ro_sub_c rfl (ro_sub_c rfl (ro_sub_c rfl (ro_sub_c rfl (ro_sub_n rfl))))) (ih hL  hp hk)
        · have hp := hp.1 h4
          refine rs_aload_n ri_107_49 rfl rfl ?_
          refine rs_dup ri_107_50 rfl rfl ?_
          refine rs_gf (v := .int (M.2.1 48 7)) ri_107_51 rfl (by decide) (ro_kf (kd_48 hL)) rfl rfl ?_
          refine rs_iconst (v := (1 : Int32)) ri_107_54 rfl (by decide) ?_
          refine rs_iadd (r := ((M.2.1 48 7) + (1 : Int32))) ri_107_55 rfl rfl ?_
          refine rs_pf (M2 := (ro_sI M 48 7 ((M.2.1 48 7) + (1 : Int32)))) ri_107_56 rfl (by decide) (ro_kf (kd_48 hL)) (fun h => absurd h (by decide)) (fun f h => h) ?_
          refine rs_aload_n ri_107_59 rfl rfl ?_
          refine rs_dup ri_107_60 rfl rfl ?_
          refine rs_gf (v := .int (M.2.1 48 8)) ri_107_61 rfl (by decide) (ro_kf (kd_48 hL)) rfl rfl ?_
          refine rs_bipush (v := (12 : Int32)) ri_107_64 rfl (by decide) ?_
          refine rs_aload_n ri_107_66 rfl rfl ?_
          refine rs_gf (v := .ref 16) ri_107_67 rfl (by decide) (ro_kf (kd_48 hL)) rfl (rf_48_1 hL) ?_
          refine rs_aload_n ri_107_70 rfl rfl ?_
          refine rs_gf (v := .ref 5) ri_107_71 rfl (by decide) (ro_kf (kd_48 hL)) rfl (rf_48_0 hL) ?_
          refine rs_aload_n ri_107_74 rfl rfl ?_
          refine rs_gf (v := .ref 49) ri_107_75 rfl (by decide) (ro_kf (kd_48 hL)) rfl (rf_48_2 hL) ?_
          refine rs_iload_n ri_107_78 rfl rfl ?_
          refine rs_iload_n ri_107_79 rfl rfl ?_
          obtain ⟨q4, hp⟩ := hp
          refine rs_virt (As := [.ref 5, .ref 49, .int v2, .int v3]) (r := [.int (12 : Int32), .int (M.2.1 48 8), .ref 48]) ri_107_80 rfl (by decide) rm_58.2.2.2 rm_58.2.2.1 rfl rfl rfl (by decide) (ro_kf (kd_16 hL)) (Nat.le_of_ble_eq_true rfl) (by decide) (by decide) (xs_58 (X := X) hL (by unfold ro_ip; decide) q4) ?_
          rintro _ _ ⟨e1, e2⟩
          rw [e1, e2]
          show ro_w X _ 107 _ 83 [(3, .int v3), (2, .int v2), (1, .int v1), (0, .ref 48)] [.int (xf_58 (ro_sI M 48 7 ((M.2.1 48 7) + (1 : Int32))) 49 v2 v3), .int (12 : Int32), .int (M.2.1 48 8), .ref 48] (xm_58 (ro_sI M 48 7 ((M.2.1 48 7) + (1 : Int32))) 49 v2 v3) (0, 0)
          refine rs_isub (r := ((12 : Int32) - (xf_58 (ro_sI M 48 7 ((M.2.1 48 7) + (1 : Int32))) 49 v2 v3))) ri_107_83 rfl rfl ?_
          refine rs_iadd (r := ((M.2.1 48 8) + ((12 : Int32) - (xf_58 (ro_sI M 48 7 ((M.2.1 48 7) + (1 : Int32))) 49 v2 v3)))) ri_107_84 rfl rfl ?_
          refine rs_pf (M2 := (ro_sI (xm_58 (ro_sI M 48 7 ((M.2.1 48 7) + (1 : Int32))) 49 v2 v3) 48 8 ((M.2.1 48 8) + ((12 : Int32) - (xf_58 (ro_sI M 48 7 ((M.2.1 48 7) + (1 : Int32))) 49 v2 v3))))) ri_107_85 rfl (by decide) (ro_kf (kd_48 (xl_58 hL (by unfold ro_ip; decide) q4))) (fun h => absurd h (by decide)) (fun f h => h) ?_
          refine rs_iinc (v := (v3 + (1 : Int32))) (lv2 := [(3, .int (v3 + (1 : Int32))), (2, .int v2), (1, .int v1), (0, .ref 48)]) ri_107_88 rfl rfl rfl rm_107.1 (by decide) rfl ?_
          refine rs_goto (t := 27) ri_107_91 rfl ?_
          have e : xg_107_27 (n + 1) M v3 v2 v1 = xg_107_27 n (ro_sI (xm_58 (ro_sI M 48 7 ((M.2.1 48 7) + (1 : Int32))) 49 v2 v3) 48 8 ((M.2.1 48 8) + ((12 : Int32) - (xf_58 (ro_sI M 48 7 ((M.2.1 48 7) + (1 : Int32))) 49 v2 v3)))) (v3 + (1 : Int32)) v2 v1 := by rw [xg_107_27]; first | (simp only [if_neg h2, if_neg h3, if_pos h4]; done) | rfl
          rw [e] at hk
          exact ro_w_lv (ro_sub_c rfl (ro_sub_c rfl (ro_sub_c rfl (ro_sub_c rfl (ro_sub_n rfl))))) (ih (xl_58 hL (by unfold ro_ip; decide) q4)  hp hk)
theorem xl_107_27 : ∀ (n : Nat) {M : ro_Mm} {v3 : Int32} {v2 : Int32} {v1 : Int32} (hL : ro_lay M) (hp : xq_107_27 n M v3 v2 v1), ro_lay (xg_107_27 n M v3 v2 v1).2 := by
  intro n
  induction n with
  | zero => intro M v3 v2 v1 hL hp; exact False.elim hp
  | succ n ih =>
    intro M v3 v2 v1 hL hp
    rw [xq_107_27] at hp
    rw [xg_107_27]
    by_cases hz : v1 ≤ v3
    · have hp := hp.1 hz
      rw [if_pos hz]
      exact hL
    · have hp := hp.2 hz
      rw [if_neg hz]
      by_cases hz : v2 = v3
      · have hp := hp.1 hz
        rw [if_pos hz]
        exact ih hL  hp
      · have hp := hp.2 hz
        rw [if_neg hz]
        by_cases hz : (xf_75 M 49 v2 v3)
        · have hp := hp.1 hz
          rw [if_pos hz]
          obtain ⟨q4, hp⟩ := hp
          exact ih (xl_58 hL (by unfold ro_ip; decide) q4)  hp
        · have hp := hp.2 hz
          rw [if_neg hz]
          exact ih hL  hp
theorem xwI_107_27 : ∀ {n : Nat} {M : ro_Mm} {v3 : Int32} {v2 : Int32} {v1 : Int32} {c j : Nat} (n0 : c ≠ 48) (n1 : c ≠ 21) (n2 : c ≠ 16) (n3 : c ≠ 20), (xg_107_27 n M v3 v2 v1).2.2.1 c j = M.2.1 c j := by
  intro n
  induction n with
  | zero => intro M v3 v2 v1 c j n0 n1 n2 n3; rfl
  | succ n ih =>
    intro M v3 v2 v1 c j n0 n1 n2 n3
    rw [xg_107_27]
    by_cases hz : v1 ≤ v3
    · rw [if_pos hz]
      first | done | exact rfl
    · rw [if_neg hz]
      by_cases hz : v2 = v3
      · rw [if_pos hz]
        first | done | exact (ih n0 n1 n2 n3)
      · rw [if_neg hz]
        by_cases hz : (xf_75 M 49 v2 v3)
        · rw [if_pos hz]
          first | done | exact (((((ih n0 n1 n2 n3)).trans (ro_sI_ne n0)).trans (xwI_58 n1 n2 n3)).trans (ro_sI_ne n0))
        · rw [if_neg hz]
          first | done | exact (ih n0 n1 n2 n3)
theorem xwJ_107_27 : ∀ {n : Nat} {M : ro_Mm} {v3 : Int32} {v2 : Int32} {v1 : Int32} {c j : Nat}, (xg_107_27 n M v3 v2 v1).2.2.2.1 c j = M.2.2.1 c j := by
  intro n
  induction n with
  | zero => intro M v3 v2 v1 c j; rfl
  | succ n ih =>
    intro M v3 v2 v1 c j
    rw [xg_107_27]
    by_cases hz : v1 ≤ v3
    · rw [if_pos hz]
      first | done | exact rfl
    · rw [if_neg hz]
      by_cases hz : v2 = v3
      · rw [if_pos hz]
        first | done | exact (ih)
      · rw [if_neg hz]
        by_cases hz : (xf_75 M 49 v2 v3)
        · rw [if_pos hz]
          first | done | exact (((((ih)).trans (congrFun (congrFun ro_sI_J _) _)).trans (xwJ_58)).trans (congrFun (congrFun ro_sI_J _) _))
        · rw [if_neg hz]
          first | done | exact (ih)
/-- a loop of RefusedOnce$Chances.tally()V -/
noncomputable def xg_107_20 : Nat → ro_Mm → Int32 → Int32 → Int32 × ro_Mm
  | 0, M, v2, v1 => (v2, M)
  | n + 1, M, v2, v1 => (if v1 ≤ v2 then (v2, M) else (xg_107_20 n (xg_107_27 lp_N M (0 : Int32) v2 v1).2 (v2 + (1 : Int32)) v1))
def xq_107_20 : Nat → ro_Mm → Int32 → Int32 → Prop
  | 0, _, _, _ => False
  | n + 1, M, v2, v1 => ((v1 ≤ v2 → True) ∧ (¬ (v1 ≤ v2) → (xq_107_27 lp_N M (0 : Int32) v2 v1 ∧ (xq_107_20 n (xg_107_27 lp_N M (0 : Int32) v2 v1).2 (v2 + (1 : Int32)) v1))))
theorem xt_107_20 {X : ro_Sx} {post : ro_Po} : ∀ (n : Nat) {M : ro_Mm} {v2 : Int32} {v1 : Int32} (hL : ro_lay M) (hp : xq_107_20 n M v2 v1) (hk : ro_w X 3 107 post 100 [(2, .int (xg_107_20 n M v2 v1).1), (1, .int v1), (0, .ref 48)] [] (xg_107_20 n M v2 v1).2 (0, 0)), ro_w X 3 107 post 20 [(2, .int v2), (1, .int v1), (0, .ref 48)] [] M (0, 0) := by
  intro n
  induction n with
  | zero => intro M v2 v1 hL hp hk; exact False.elim hp
  | succ n ih =>
    intro M v2 v1 hL hp hk
    rw [xq_107_20] at hp
    refine rs_iload_n ri_107_20 rfl rfl ?_
    refine rs_iload_n ri_107_21 rfl rfl ?_
    refine rs_icmp_ge (t := 100) ri_107_22 rfl rfl (fun h1 => ?_) (fun h1 => ?_)
    · skip
      have e : xg_107_20 (n + 1) M v2 v1 = (v2, M) := by rw [xg_107_20]; first | (simp only [if_pos h1]; done) | rfl
      rw [e] at hk
      exact ro_w_lv (ro_sub_c rfl (ro_sub_c rfl (ro_sub_c rfl (ro_sub_n rfl)))) hk
    · have hp := hp.2 h1
      refine rs_iconst (v := (0 : Int32)) ri_107_25 rfl (by decide) ?_
      refine rs_istore_n (lv2 := [(3, .int (0 : Int32)), (2, .int v2), (1, .int v1), (0, .ref 48)]) ri_107_26 rfl rm_107.1 (by decide) rfl ?_
      obtain ⟨q5, hp⟩ := hp
      refine xt_107_27 lp_N hL q5 ?_
      refine rs_iinc (v := (v2 + (1 : Int32))) (lv2 := [(2, .int (v2 + (1 : Int32))), (3, .int (xg_107_27 lp_N M (0 : Int32) v2 v1).1), (1, .int v1), (0, .ref 48)]) ri_107_94 rfl rfl rfl rm_107.1 (by decide) rfl ?_
      refine rs_goto (t := 20) ri_107_97 rfl ?_
      have e : xg_107_20 (n + 1) M v2 v1 = xg_107_20 n (xg_107_27 lp_N M (0 : Int32) v2 v1).2 (v2 + (1 : Int32)) v1 := by rw [xg_107_20]; first | (simp only [if_neg h1]; done) | rfl
      rw [e] at hk
      exact ro_w_lv (ro_sub_c rfl (ro_sub_c rfl (ro_sub_c rfl (ro_sub_n rfl)))) (ih (xl_107_27 lp_N hL q5)  hp hk)
theorem xl_107_20 : ∀ (n : Nat) {M : ro_Mm} {v2 : Int32} {v1 : Int32} (hL : ro_lay M) (hp : xq_107_20 n M v2 v1), ro_lay (xg_107_20 n M v2 v1).2 := by
  intro n
  induction n with
  | zero => intro M v2 v1 hL hp; exact False.elim hp
  | succ n ih =>
    intro M v2 v1 hL hp
    rw [xq_107_20] at hp
    rw [xg_107_20]
    by_cases hz : v1 ≤ v2
    · have hp := hp.1 hz
      rw [if_pos hz]
      exact hL
    · have hp := hp.2 hz
      rw [if_neg hz]
      obtain ⟨q5, hp⟩ := hp
      exact ih (xl_107_27 lp_N hL q5)  hp
theorem xwI_107_20 : ∀ {n : Nat} {M : ro_Mm} {v2 : Int32} {v1 : Int32} {c j : Nat} (n0 : c ≠ 48) (n1 : c ≠ 21) (n2 : c ≠ 16) (n3 : c ≠ 20), (xg_107_20 n M v2 v1).2.2.1 c j = M.2.1 c j := by
  intro n
  induction n with
  | zero => intro M v2 v1 c j n0 n1 n2 n3; rfl
  | succ n ih =>
    intro M v2 v1 c j n0 n1 n2 n3
    rw [xg_107_20]
    by_cases hz : v1 ≤ v2
    · rw [if_pos hz]
      first | done | exact rfl
    · rw [if_neg hz]
      first | done | exact (((ih n0 n1 n2 n3)).trans (xwI_107_27 n0 n1 n2 n3))
theorem xwJ_107_20 : ∀ {n : Nat} {M : ro_Mm} {v2 : Int32} {v1 : Int32} {c j : Nat}, (xg_107_20 n M v2 v1).2.2.2.1 c j = M.2.2.1 c j := by
  intro n
  induction n with
  | zero => intro M v2 v1 c j; rfl
  | succ n ih =>
    intro M v2 v1 c j
    rw [xg_107_20]
    by_cases hz : v1 ≤ v2
    · rw [if_pos hz]
      first | done | exact rfl
    · rw [if_neg hz]
      first | done | exact (((ih)).trans (xwJ_107_27))
/-- RefusedOnce$Chances.tally()V -/
noncomputable def xm_107 (M : ro_Mm) : ro_Mm := (xg_107_20 lp_N (ro_sI (ro_sI M 48 7 (0 : Int32)) 48 8 (0 : Int32)) (0 : Int32) (xf_18 (ro_sI (ro_sI M 48 7 (0 : Int32)) 48 8 (0 : Int32)))).2
def xp_107 (M : ro_Mm) : Prop := (xq_107_20 lp_N (ro_sI (ro_sI M 48 7 (0 : Int32)) 48 8 (0 : Int32)) (0 : Int32) (xf_18 (ro_sI (ro_sI M 48 7 (0 : Int32)) 48 8 (0 : Int32))) ∧ True)
theorem xs_107 {X : ro_Sx} {M : ro_Mm} (hL : ro_lay M) (hp : xp_107 M) : ro_cwp X 4 107 [.ref 48] M (fun v M2 => v = none ∧ M2 = xm_107 M) := by
  refine rs_begin (lv0 := [(0, .ref 48)]) (by decide) rfl (by rw [rm_107.1]; exact Nat.le_of_ble_eq_true rfl) rfl ?_
  unfold xp_107 at hp
  refine rs_aload_n ri_107_0 rfl rfl ?_
  refine rs_iconst (v := (0 : Int32)) ri_107_1 rfl (by decide) ?_
  refine rs_pf (M2 := (ro_sI M 48 7 (0 : Int32))) ri_107_2 rfl (by decide) (ro_kf (kd_48 hL)) (fun h => absurd h (by decide)) (fun f h => h) ?_
  refine rs_aload_n ri_107_5 rfl rfl ?_
  refine rs_iconst (v := (0 : Int32)) ri_107_6 rfl (by decide) ?_
  refine rs_pf (M2 := (ro_sI (ro_sI M 48 7 (0 : Int32)) 48 8 (0 : Int32))) ri_107_7 rfl (by decide) (ro_kf (kd_48 hL)) (fun h => absurd h (by decide)) (fun f h => h) ?_
  refine rs_aload_n ri_107_10 rfl rfl ?_
  refine rs_gf (v := .ref 5) ri_107_11 rfl (by decide) (ro_kf (kd_48 hL)) rfl (rf_48_0 hL) ?_
  refine rs_virt (As := []) (r := []) ri_107_14 rfl (by decide) rm_18.2.2.2 rm_18.2.2.1 rfl rfl rfl (by decide) (ro_kf (kd_5 hL)) (Nat.le_of_ble_eq_true rfl) (by decide) (by decide) (xs_18 (X := X) hL) ?_
  rintro _ _ ⟨e1, e2⟩
  rw [e1, e2]
  show ro_w X _ 107 _ 17 [(0, .ref 48)] [.int (xf_18 (ro_sI (ro_sI M 48 7 (0 : Int32)) 48 8 (0 : Int32)))] (ro_sI (ro_sI M 48 7 (0 : Int32)) 48 8 (0 : Int32)) (0, 0)
  refine rs_istore_n (lv2 := [(1, .int (xf_18 (ro_sI (ro_sI M 48 7 (0 : Int32)) 48 8 (0 : Int32)))), (0, .ref 48)]) ri_107_17 rfl rm_107.1 (by decide) rfl ?_
  refine rs_iconst (v := (0 : Int32)) ri_107_18 rfl (by decide) ?_
  refine rs_istore_n (lv2 := [(2, .int (0 : Int32)), (1, .int (xf_18 (ro_sI (ro_sI M 48 7 (0 : Int32)) 48 8 (0 : Int32)))), (0, .ref 48)]) ri_107_19 rfl rm_107.1 (by decide) rfl ?_
  obtain ⟨q6, hp⟩ := hp
  refine xt_107_20 lp_N hL q6 ?_
  refine rs_ret ri_107_100 rm_107.2.1 (by decide) ?_
  exact ⟨by rfl, by rfl⟩
theorem xl_107 {M : ro_Mm} (hL : ro_lay M) (hp : xp_107 M) : ro_lay (xm_107 M) := by
  unfold xp_107 at hp
  unfold xm_107
  obtain ⟨q6, hp⟩ := hp
  exact (xl_107_20 lp_N hL q6)
theorem xwI_107 {M : ro_Mm} {c j : Nat} (n0 : c ≠ 48) (n1 : c ≠ 21) (n2 : c ≠ 16) (n3 : c ≠ 20) : (xm_107 M).2.1 c j = M.2.1 c j := by
  unfold xm_107
  first | done | exact ((((xwI_107_20 n0 n1 n2 n3)).trans (ro_sI_ne n0)).trans (ro_sI_ne n0))
theorem xwJ_107 {M : ro_Mm} {c j : Nat} : (xm_107 M).2.2.1 c j = M.2.2.1 c j := by
  unfold xm_107
  first | done | exact ((((xwJ_107_20)).trans (congrFun (congrFun ro_sI_J _) _)).trans (congrFun (congrFun ro_sI_J _) _))
/-- a loop of RefusedOnce$Chances.takenTwice()J -/
noncomputable def xg_108_22 : Nat → ro_Mm → Int32 → Int32 → Int32 → Int64 → Int32 × Int64 × ro_Mm
  | 0, M, v5, v4, v3, v1 => (v5, v1, M)
  | n + 1, M, v5, v4, v3, v1 => (if v3 ≤ v5 then (v5, v1, M) else (if v4 = v5 then (xg_108_22 n M (v5 + (1 : Int32)) v4 v3 v1) else (if (xf_75 M 49 v4 v5) then (if ((xm_107 (xm_78 (xm_58 M 49 v4 v5) 49 v4 v5)).2.1 48 7) ≤ (0 : Int32) then (xg_108_22 n (xm_78 (xm_107 (xm_78 (xm_58 M 49 v4 v5) 49 v4 v5)) 49 v5 v4) (v5 + (1 : Int32)) v4 v3 (v1 + ((((12 : Int32) - (xf_58 M 49 v4 v5)).toInt64) * (27949074753600 : Int64)))) else (xg_108_22 n (xm_78 (xm_107 (xm_78 (xm_58 M 49 v4 v5) 49 v4 v5)) 49 v5 v4) (v5 + (1 : Int32)) v4 v3 (v1 + ((((12 : Int32) - (xf_58 M 49 v4 v5)).toInt64) * ((((xm_107 (xm_78 (xm_58 M 49 v4 v5) 49 v4 v5)).2.1 48 8).toInt64) * ((2329089562800 : Int64) / (((xm_107 (xm_78 (xm_58 M 49 v4 v5) 49 v4 v5)).2.1 48 7).toInt64))))))) else (xg_108_22 n M (v5 + (1 : Int32)) v4 v3 v1))))
def xq_108_22 : Nat → ro_Mm → Int32 → Int32 → Int32 → Int64 → Prop
  | 0, _, _, _, _, _ => False
  | n + 1, M, v5, v4, v3, v1 => ((v3 ≤ v5 → True) ∧ (¬ (v3 ≤ v5) → ((v4 = v5 → (xq_108_22 n M (v5 + (1 : Int32)) v4 v3 v1)) ∧ (¬ (v4 = v5) → (((xf_75 M 49 v4 v5) → (xp_58 M 49 v4 v5 ∧ (xp_107 (xm_78 (xm_58 M 49 v4 v5) 49 v4 v5) ∧ ((((xm_107 (xm_78 (xm_58 M 49 v4 v5) 49 v4 v5)).2.1 48 7) ≤ (0 : Int32) → (xq_108_22 n (xm_78 (xm_107 (xm_78 (xm_58 M 49 v4 v5) 49 v4 v5)) 49 v5 v4) (v5 + (1 : Int32)) v4 v3 (v1 + ((((12 : Int32) - (xf_58 M 49 v4 v5)).toInt64) * (27949074753600 : Int64))))) ∧ (¬ (((xm_107 (xm_78 (xm_58 M 49 v4 v5) 49 v4 v5)).2.1 48 7) ≤ (0 : Int32)) → (¬ (((xm_107 (xm_78 (xm_58 M 49 v4 v5) 49 v4 v5)).2.1 48 7).toInt64) = 0 ∧ (xq_108_22 n (xm_78 (xm_107 (xm_78 (xm_58 M 49 v4 v5) 49 v4 v5)) 49 v5 v4) (v5 + (1 : Int32)) v4 v3 (v1 + ((((12 : Int32) - (xf_58 M 49 v4 v5)).toInt64) * ((((xm_107 (xm_78 (xm_58 M 49 v4 v5) 49 v4 v5)).2.1 48 8).toInt64) * ((2329089562800 : Int64) / (((xm_107 (xm_78 (xm_58 M 49 v4 v5) 49 v4 v5)).2.1 48 7).toInt64)))))))))))) ∧ (¬ ((xf_75 M 49 v4 v5)) → (xq_108_22 n M (v5 + (1 : Int32)) v4 v3 v1)))))))
theorem xt_108_22 {X : ro_Sx} {post : ro_Po} : ∀ (n : Nat) {M : ro_Mm} {v5 : Int32} {v4 : Int32} {v3 : Int32} {v1 : Int64} (hL : ro_lay M) (hp : xq_108_22 n M v5 v4 v3 v1) (hk : ro_w X 4 108 post 140 [(5, .int (xg_108_22 n M v5 v4 v3 v1).1), (4, .int v4), (3, .int v3), (1, .long (xg_108_22 n M v5 v4 v3 v1).2.1), (0, .ref 48)] [] (xg_108_22 n M v5 v4 v3 v1).2.2 (0, 0)), ro_w X 4 108 post 22 [(5, .int v5), (4, .int v4), (3, .int v3), (1, .long v1), (0, .ref 48)] [] M (0, 0) := by
  intro n
  induction n with
  | zero => intro M v5 v4 v3 v1 hL hp hk; exact False.elim hp
  | succ n ih =>
    intro M v5 v4 v3 v1 hL hp hk
    rw [xq_108_22] at hp
    refine rs_iload ri_108_22 rfl rfl ?_
    refine rs_iload_n ri_108_24 rfl rfl ?_
    refine rs_icmp_ge (t := 140) ri_108_25 rfl rfl (fun h2 => ?_) (fun h2 => ?_)
    · skip
      have e : xg_108_22 (n + 1) M v5 v4 v3 v1 = (v5, v1, M) := by rw [xg_108_22]; first | (simp only [if_pos h2]; done) | rfl
      rw [e] at hk
      exact ro_w_lv (ro_sub_c rfl (ro_sub_c rfl (ro_sub_c rfl (ro_sub_c rfl (ro_sub_c rfl (ro_sub_n rfl)))))) hk
    · have hp := hp.2 h2
      refine rs_iload ri_108_28 rfl rfl ?_
      refine rs_iload ri_108_30 rfl rfl ?_
      refine rs_icmp_eq (t := 134) ri_108_32 rfl rfl (fun h3 => ?_) (fun h3 => ?_)
      · have hp := hp.1 h3
        refine rs_iinc (v := (v5 + (1 : Int32))) (lv2 := [(5, .int (v5 + (1 : Int32))), (4, .int v4), (3, .int v3), (1, .long v1), (0, .ref 48)]) ri_108_134 rfl rfl rfl rm_108.1 (by decide) rfl ?_
        refine rs_goto (t := 22) ri_108_137 rfl ?_
        have e : xg_108_22 (n + 1) M v5 v4 v3 v1 = xg_108_22 n M (v5 + (1 : Int32)) v4 v3 v1 := by rw [xg_108_22]; first | (simp only [if_neg h2, if_pos h3]; done) | rfl
        rw [e] at hk
        exact ro_w_lv (ro_sub_c rfl (ro_sub_c rfl (ro_sub_c rfl (ro_sub_c rfl (ro_sub_c rfl (ro_sub_n rfl)))))) (ih hL  hp hk)
      · have hp := hp.2 h3
        refine rs_aload_n ri_108_35 rfl rfl ?_
        refine rs_gf (v := .ref 49) ri_108_36 rfl (by decide) (ro_kf (kd_48 hL)) rfl (rf_48_2 hL) ?_
        refine rs_iload ri_108_39 rfl rfl ?_
        refine rs_iload ri_108_41 rfl rfl ?_
        refine rs_virt (As := [.int v4, .int v5]) (r := []) ri_108_43 rfl (by decide) rm_75.2.2.2 rm_75.2.2.1 rfl rfl rfl (by decide) (ro_kf (kd_49 hL)) (Nat.le_of_ble_eq_true rfl) (by decide) (by decide) (xs_75 (X := X) hL (by unfold ro_ip; decide)) ?_
        rintro _ _ ⟨e1, e2⟩
        rw [e1, e2]
        show ro_w X _ 108 _ 46 [(5, .int v5), (4, .int v4), (3, .int v3), (1, .long v1), (0, .ref 48)] [.int (ro_b (xf_75 M 49 v4 v5))] M (0, 0)
        refine rs_ifeq_c (t := 134) ri_108_46 rfl rfl (fun h4 => ?_) (fun h4 => ?_)
        · have hp := hp.2 h4
          refine rs_iinc (v := (v5 + (1 : Int32))) (lv2 := [(5, .int (v5 + (1 : Int32))), (4, .int v4), (3, .int v3), (1, .long v1), (0, .ref 48)]) ri_108_134 rfl rfl rfl rm_108.1 (by decide) rfl ?_
          refine rs_goto (t := 22) ri_108_137 rfl ?_
          have e : xg_108_22 (n + 1) M v5 v4 v3 v1 = xg_108_22 n M (v5 + (1 : Int32)) v4 v3 v1 := by rw [xg_108_22]; first | (simp only [if_neg h2, if_neg h3, if_neg h4]; done) | rfl
          rw [e] at hk
          exact ro_w_lv (ro_sub_c rfl (ro_sub_c rfl (ro_sub_c rfl (ro_sub_c rfl (ro_sub_c rfl (ro_sub_n rfl)))))) (ih hL  hp hk)
        · have hp := hp.1 h4
          refine rs_bipush (v := (12 : Int32)) ri_108_49 rfl (by decide) ?_
          refine rs_aload_n ri_108_51 rfl rfl ?_
          refine rs_gf (v := .ref 16) ri_108_52 rfl (by decide) (ro_kf (kd_48 hL)) rfl (rf_48_1 hL) ?_
          refine rs_aload_n ri_108_55 rfl rfl ?_
          refine rs_gf (v := .ref 5) ri_108_56 rfl (by decide) (ro_kf (kd_48 hL)) rfl (rf_48_0 hL) ?_
          refine rs_aload_n ri_108_59 rfl rfl ?_
          refine rs_gf (v := .ref 49) ri_108_60 rfl (by decide) (ro_kf (kd_48 hL)) rfl (rf_48_2 hL) ?_
          refine rs_iload ri_108_63 rfl rfl ?_
          refine rs_iload ri_108_65 rfl rfl ?_
          obtain ⟨q4, hp⟩ := hp
          refine rs_virt (As := [.ref 5, .ref 49, .int v4, .int v5]) (r := [.int (12 : Int32)]) ri_108_67 rfl (by decide) rm_58.2.2.2 rm_58.2.2.1 rfl rfl rfl (by decide) (ro_kf (kd_16 hL)) (Nat.le_of_ble_eq_true rfl) (by decide) (by decide) (xs_58 (X := X) hL (by unfold ro_ip; decide) q4) ?_
          rintro _ _ ⟨e1, e2⟩
          rw [e1, e2]
          show ro_w X _ 108 _ 70 [(5, .int v5), (4, .int v4), (3, .int v3), (1, .long v1), (0, .ref 48)] [.int (xf_58 M 49 v4 v5), .int (12 : Int32)] (xm_58 M 49 v4 v5) (0, 0)
          refine rs_isub (r := ((12 : Int32) - (xf_58 M 49 v4 v5))) ri_108_70 rfl rfl ?_
          refine rs_i2l (r := (((12 : Int32) - (xf_58 M 49 v4 v5)).toInt64)) ri_108_71 rfl rfl ?_
          refine rs_lstore (lv2 := [(6, .long (((12 : Int32) - (xf_58 M 49 v4 v5)).toInt64)), (5, .int v5), (4, .int v4), (3, .int v3), (1, .long v1), (0, .ref 48)]) ri_108_72 rfl rm_108.1 (by decide) rfl ?_
          refine rs_aload_n ri_108_74 rfl rfl ?_
          refine rs_gf (v := .ref 49) ri_108_75 rfl (by decide) (ro_kf (kd_48 (xl_58 hL (by unfold ro_ip; decide) q4))) rfl (rf_48_2 (xl_58 hL (by unfold ro_ip; decide) q4)) ?_
          refine rs_iload ri_108_78 rfl rfl ?_
          refine rs_iload ri_108_80 rfl rfl ?_
          refine rs_virt (As := [.int v4, .int v5]) (r := []) ri_108_82 rfl (by decide) rm_78.2.2.2 rm_78.2.2.1 rfl rfl rfl (by decide) (ro_kf (kd_49 (xl_58 hL (by unfold ro_ip; decide) q4))) (Nat.le_of_ble_eq_true rfl) (by decide) (by decide) (xs_78 (X := X) (xl_58 hL (by unfold ro_ip; decide) q4) (by unfold ro_ip; decide)) ?_
          rintro _ _ ⟨e1, e2⟩
          rw [e1, e2]
          show ro_w X _ 108 _ 85 [(6, .long (((12 : Int32) - (xf_58 M 49 v4 v5)).toInt64)), (5, .int v5), (4, .int v4), (3, .int v3), (1, .long v1), (0, .ref 48)] [] (xm_78 (xm_58 M 49 v4 v5) 49 v4 v5) (0, 0)
          refine rs_aload_n ri_108_85 rfl rfl ?_
          obtain ⟨q5, hp⟩ := hp
          refine rs_virt (As := []) (r := []) ri_108_86 rfl (by decide) rm_107.2.2.2 rm_107.2.2.1 rfl rfl rfl (by decide) (ro_kf (kd_48 (xl_78 (xl_58 hL (by unfold ro_ip; decide) q4) (by unfold ro_ip; decide)))) (Nat.le_of_ble_eq_true rfl) (by decide) (by decide) (xs_107 (X := X) (xl_78 (xl_58 hL (by unfold ro_ip; decide) q4) (by unfold ro_ip; decide)) q5) ?_
          rintro _ _ ⟨e1, e2⟩
          rw [e1, e2]
          show ro_w X _ 108 _ 89 [(6, .long (((12 : Int32) - (xf_58 M 49 v4 v5)).toInt64)), (5, .int v5), (4, .int v4), (3, .int v3), (1, .long v1), (0, .ref 48)] [] (xm_107 (xm_78 (xm_58 M 49 v4 v5) 49 v4 v5)) (0, 0)
          refine rs_aload_n ri_108_89 rfl rfl ?_
          refine rs_gf (v := .ref 49) ri_108_90 rfl (by decide) (ro_kf (kd_48 (xl_107 (xl_78 (xl_58 hL (by unfold ro_ip; decide) q4) (by unfold ro_ip; decide)) q5))) rfl (rf_48_2 (xl_107 (xl_78 (xl_58 hL (by unfold ro_ip; decide) q4) (by unfold ro_ip; decide)) q5)) ?_
          refine rs_iload ri_108_93 rfl rfl ?_
          refine rs_iload ri_108_95 rfl rfl ?_
          refine rs_virt (As := [.int v5, .int v4]) (r := []) ri_108_97 rfl (by decide) rm_78.2.2.2 rm_78.2.2.1 rfl rfl rfl (by decide) (ro_kf (kd_49 (xl_107 (xl_78 (xl_58 hL (by unfold ro_ip; decide) q4) (by unfold ro_ip; decide)) q5))) (Nat.le_of_ble_eq_true rfl) (by decide) (by decide) (xs_78 (X := X) (xl_107 (xl_78 (xl_58 hL (by unfold ro_ip; decide) q4) (by unfold ro_ip; decide)) q5) (by unfold ro_ip; decide)) ?_
          rintro _ _ ⟨e1, e2⟩
          rw [e1, e2]
          show ro_w X _ 108 _ 100 [(6, .long (((12 : Int32) - (xf_58 M 49 v4 v5)).toInt64)), (5, .int v5), (4, .int v4), (3, .int v3), (1, .long v1), (0, .ref 48)] [] (xm_78 (xm_107 (xm_78 (xm_58 M 49 v4 v5) 49 v4 v5)) 49 v5 v4) (0, 0)
          refine rs_lload_n ri_108_100 rfl rfl ?_
          refine rs_lload ri_108_101 rfl rfl ?_
          refine rs_aload_n ri_108_103 rfl rfl ?_
          refine rs_gf (v := .int ((xm_107 (xm_78 (xm_58 M 49 v4 v5) 49 v4 v5)).2.1 48 7)) ri_108_104 rfl (by decide) (ro_kf (kd_48 (xl_78 (xl_107 (xl_78 (xl_58 hL (by unfold ro_ip; decide) q4) (by unfold ro_ip; decide)) q5) (by unfold ro_ip; decide)))) rfl (congrArg Value.int (xwI_78 (by decide))) ?_
          refine rs_if_le (t := 128) ri_108_107 rfl rfl (fun h7 => ?_) (fun h7 => ?_)
          · have hp := hp.1 h7
            refine rs_ldc2 (v := (27949074753600 : Int64)) ri_108_128 rfl rfl rfl ?_
            refine rs_lmul (r := ((((12 : Int32) - (xf_58 M 49 v4 v5)).toInt64) * (27949074753600 : Int64))) ri_108_131 rfl rfl ?_
            refine rs_ladd (r := (v1 + ((((12 : Int32) - (xf_58 M 49 v4 v5)).toInt64) * (27949074753600 : Int64)))) ri_108_132 rfl rfl ?_
            refine rs_lstore_n (lv2 := [(1, .long (v1 + ((((12 : Int32) - (xf_58 M 49 v4 v5)).toInt64) * (27949074753600 : Int64)))), (6, .long (((12 : Int32) - (xf_58 M 49 v4 v5)).toInt64)), (5, .int v5), (4, .int v4), (3, .int v3), (0, .ref 48)]) ri_108_133 rfl rm_108.1 (by decide) rfl ?_
            refine rs_iinc (v := (v5 + (1 : Int32))) (lv2 := [(5, .int (v5 + (1 : Int32))), (1, .long (v1 + ((((12 : Int32) - (xf_58 M 49 v4 v5)).toInt64) * (27949074753600 : Int64)))), (6, .long (((12 : Int32) - (xf_58 M 49 v4 v5)).toInt64)), (4, .int v4), (3, .int v3), (0, .ref 48)]) ri_108_134 rfl rfl rfl rm_108.1 (by decide) rfl ?_
            refine rs_goto (t := 22) ri_108_137 rfl ?_
            have e : xg_108_22 (n + 1) M v5 v4 v3 v1 = xg_108_22 n (xm_78 (xm_107 (xm_78 (xm_58 M 49 v4 v5) 49 v4 v5)) 49 v5 v4) (v5 + (1 : Int32)) v4 v3 (v1 + ((((12 : Int32) - (xf_58 M 49 v4 v5)).toInt64) * (27949074753600 : Int64))) := by rw [xg_108_22]; first | (simp only [if_neg h2, if_neg h3, if_pos h4, if_pos h7]; done) | rfl
            rw [e] at hk
            exact ro_w_lv (ro_sub_c rfl (ro_sub_c rfl (ro_sub_c rfl (ro_sub_c rfl (ro_sub_c rfl (ro_sub_n rfl)))))) (ih (xl_78 (xl_107 (xl_78 (xl_58 hL (by unfold ro_ip; decide) q4) (by unfold ro_ip; decide)) q5) (by unfold ro_ip; decide))  hp hk)
          · have hp := hp.2 h7
            refine rs_aload_n ri_108_110 rfl rfl ?_
            refine rs_gf (v := .int ((xm_107 (xm_78 (xm_58 M 49 v4 v5) 49 v4 v5)).2.1 48 8)) ri_108_111 rfl (by decide) (ro_kf (kd_48 (xl_78 (xl_107 (xl_78 (xl_58 hL (by unfold ro_ip; decide) q4) (by unfold ro_ip; decide)) q5) (by unfold ro_ip; decide)))) rfl (congrArg Value.int (xwI_78 (by decide))) ?_
            refine rs_i2l (r := (((xm_107 (xm_78 (xm_58 M 49 v4 v5) 49 v4 v5)).2.1 48 8).toInt64)) ri_108_114 rfl rfl ?_
            refine rs_ldc2 (v := (2329089562800 : Int64)) ri_108_115 rfl rfl rfl ?_
            refine rs_aload_n ri_108_118 rfl rfl ?_
            refine rs_gf (v := .int ((xm_107 (xm_78 (xm_58 M 49 v4 v5) 49 v4 v5)).2.1 48 7)) ri_108_119 rfl (by decide) (ro_kf (kd_48 (xl_78 (xl_107 (xl_78 (xl_58 hL (by unfold ro_ip; decide) q4) (by unfold ro_ip; decide)) q5) (by unfold ro_ip; decide)))) rfl (congrArg Value.int (xwI_78 (by decide))) ?_
            refine rs_i2l (r := (((xm_107 (xm_78 (xm_58 M 49 v4 v5) 49 v4 v5)).2.1 48 7).toInt64)) ri_108_122 rfl rfl ?_
            obtain ⟨q7, hp⟩ := hp
            refine rs_ldiv (r := ((2329089562800 : Int64) / (((xm_107 (xm_78 (xm_58 M 49 v4 v5) 49 v4 v5)).2.1 48 7).toInt64))) ri_108_123 rfl q7 rfl ?_
            refine rs_lmul (r := ((((xm_107 (xm_78 (xm_58 M 49 v4 v5) 49 v4 v5)).2.1 48 8).toInt64) * ((2329089562800 : Int64) / (((xm_107 (xm_78 (xm_58 M 49 v4 v5) 49 v4 v5)).2.1 48 7).toInt64)))) ri_108_124 rfl rfl ?_
            refine rs_goto (t := 131) ri_108_125 rfl ?_
            refine rs_lmul (r := ((((12 : Int32) - (xf_58 M 49 v4 v5)).toInt64) * ((((xm_107 (xm_78 (xm_58 M 49 v4 v5) 49 v4 v5)).2.1 48 8).toInt64) * ((2329089562800 : Int64) / (((xm_107 (xm_78 (xm_58 M 49 v4 v5) 49 v4 v5)).2.1 48 7).toInt64))))) ri_108_131 rfl rfl ?_
            refine rs_ladd (r := (v1 + ((((12 : Int32) - (xf_58 M 49 v4 v5)).toInt64) * ((((xm_107 (xm_78 (xm_58 M 49 v4 v5) 49 v4 v5)).2.1 48 8).toInt64) * ((2329089562800 : Int64) / (((xm_107 (xm_78 (xm_58 M 49 v4 v5) 49 v4 v5)).2.1 48 7).toInt64)))))) ri_108_132 rfl rfl ?_
            refine rs_lstore_n (lv2 := [(1, .long (v1 + ((((12 : Int32) - (xf_58 M 49 v4 v5)).toInt64) * ((((xm_107 (xm_78 (xm_58 M 49 v4 v5) 49 v4 v5)).2.1 48 8).toInt64) * ((2329089562800 : Int64) / (((xm_107 (xm_78 (xm_58 M 49 v4 v5) 49 v4 v5)).2.1 48 7).toInt64)))))), (6, .long (((12 : Int32) - (xf_58 M 49 v4 v5)).toInt64)), (5, .int v5), (4, .int v4), (3, .int v3), (0, .ref 48)]) ri_108_133 rfl rm_108.1 (by decide) rfl ?_
            refine rs_iinc (v := (v5 + (1 : Int32))) (lv2 := [(5, .int (v5 + (1 : Int32))), (1, .long (v1 + ((((12 : Int32) - (xf_58 M 49 v4 v5)).toInt64) * ((((xm_107 (xm_78 (xm_58 M 49 v4 v5) 49 v4 v5)).2.1 48 8).toInt64) * ((2329089562800 : Int64) / (((xm_107 (xm_78 (xm_58 M 49 v4 v5) 49 v4 v5)).2.1 48 7).toInt64)))))), (6, .long (((12 : Int32) - (xf_58 M 49 v4 v5)).toInt64)), (4, .int v4), (3, .int v3), (0, .ref 48)]) ri_108_134 rfl rfl rfl rm_108.1 (by decide) rfl ?_
            refine rs_goto (t := 22) ri_108_137 rfl ?_
            have e : xg_108_22 (n + 1) M v5 v4 v3 v1 = xg_108_22 n (xm_78 (xm_107 (xm_78 (xm_58 M 49 v4 v5) 49 v4 v5)) 49 v5 v4) (v5 + (1 : Int32)) v4 v3 (v1 + ((((12 : Int32) - (xf_58 M 49 v4 v5)).toInt64) * ((((xm_107 (xm_78 (xm_58 M 49 v4 v5) 49 v4 v5)).2.1 48 8).toInt64) * ((2329089562800 : Int64) / (((xm_107 (xm_78 (xm_58 M 49 v4 v5) 49 v4 v5)).2.1 48 7).toInt64))))) := by rw [xg_108_22]; first | (simp only [if_neg h2, if_neg h3, if_pos h4, if_neg h7]; done) | rfl
            rw [e] at hk
            exact ro_w_lv (ro_sub_c rfl (ro_sub_c rfl (ro_sub_c rfl (ro_sub_c rfl (ro_sub_c rfl (ro_sub_n rfl)))))) (ih (xl_78 (xl_107 (xl_78 (xl_58 hL (by unfold ro_ip; decide) q4) (by unfold ro_ip; decide)) q5) (by unfold ro_ip; decide))  hp hk)
theorem xl_108_22 : ∀ (n : Nat) {M : ro_Mm} {v5 : Int32} {v4 : Int32} {v3 : Int32} {v1 : Int64} (hL : ro_lay M) (hp : xq_108_22 n M v5 v4 v3 v1), ro_lay (xg_108_22 n M v5 v4 v3 v1).2.2 := by
  intro n
  induction n with
  | zero => intro M v5 v4 v3 v1 hL hp; exact False.elim hp
  | succ n ih =>
    intro M v5 v4 v3 v1 hL hp
    rw [xq_108_22] at hp
    rw [xg_108_22]
    by_cases hz : v3 ≤ v5
    · have hp := hp.1 hz
      rw [if_pos hz]
      exact hL
    · have hp := hp.2 hz
      rw [if_neg hz]
      by_cases hz : v4 = v5
      · have hp := hp.1 hz
        rw [if_pos hz]
        exact ih hL  hp
      · have hp := hp.2 hz
        rw [if_neg hz]
        by_cases hz : (xf_75 M 49 v4 v5)
        · have hp := hp.1 hz
          rw [if_pos hz]
          obtain ⟨q4, hp⟩ := hp
          obtain ⟨q5, hp⟩ := hp
          by_cases hz : ((xm_107 (xm_78 (xm_58 M 49 v4 v5) 49 v4 v5)).2.1 48 7) ≤ (0 : Int32)
          · have hp := hp.1 hz
            rw [if_pos hz]
            exact ih (xl_78 (xl_107 (xl_78 (xl_58 hL (by unfold ro_ip; decide) q4) (by unfold ro_ip; decide)) q5) (by unfold ro_ip; decide))  hp
          · have hp := hp.2 hz
            rw [if_neg hz]
            obtain ⟨q7, hp⟩ := hp
            exact ih (xl_78 (xl_107 (xl_78 (xl_58 hL (by unfold ro_ip; decide) q4) (by unfold ro_ip; decide)) q5) (by unfold ro_ip; decide))  hp
        · have hp := hp.2 hz
          rw [if_neg hz]
          exact ih hL  hp
theorem xwI_108_22 : ∀ {n : Nat} {M : ro_Mm} {v5 : Int32} {v4 : Int32} {v3 : Int32} {v1 : Int64} {c j : Nat} (n0 : c ≠ 21) (n1 : c ≠ 16) (n2 : c ≠ 20) (n3 : c ≠ 50) (n4 : c ≠ 48), (xg_108_22 n M v5 v4 v3 v1).2.2.2.1 c j = M.2.1 c j := by
  intro n
  induction n with
  | zero => intro M v5 v4 v3 v1 c j n0 n1 n2 n3 n4; rfl
  | succ n ih =>
    intro M v5 v4 v3 v1 c j n0 n1 n2 n3 n4
    rw [xg_108_22]
    by_cases hz : v3 ≤ v5
    · rw [if_pos hz]
      first | done | exact rfl
    · rw [if_neg hz]
      by_cases hz : v4 = v5
      · rw [if_pos hz]
        first | done | exact (ih n0 n1 n2 n3 n4)
      · rw [if_neg hz]
        by_cases hz : (xf_75 M 49 v4 v5)
        · rw [if_pos hz]
          by_cases hz : ((xm_107 (xm_78 (xm_58 M 49 v4 v5) 49 v4 v5)).2.1 48 7) ≤ (0 : Int32)
          · rw [if_pos hz]
            first | done | exact ((((((ih n0 n1 n2 n3 n4)).trans (xwI_78 n3)).trans (xwI_107 n4 n0 n1 n2)).trans (xwI_78 n3)).trans (xwI_58 n0 n1 n2))
          · rw [if_neg hz]
            first | done | exact ((((((ih n0 n1 n2 n3 n4)).trans (xwI_78 n3)).trans (xwI_107 n4 n0 n1 n2)).trans (xwI_78 n3)).trans (xwI_58 n0 n1 n2))
        · rw [if_neg hz]
          first | done | exact (ih n0 n1 n2 n3 n4)
theorem xwJ_108_22 : ∀ {n : Nat} {M : ro_Mm} {v5 : Int32} {v4 : Int32} {v3 : Int32} {v1 : Int64} {c j : Nat}, (xg_108_22 n M v5 v4 v3 v1).2.2.2.2.1 c j = M.2.2.1 c j := by
  intro n
  induction n with
  | zero => intro M v5 v4 v3 v1 c j; rfl
  | succ n ih =>
    intro M v5 v4 v3 v1 c j
    rw [xg_108_22]
    by_cases hz : v3 ≤ v5
    · rw [if_pos hz]
      first | done | exact rfl
    · rw [if_neg hz]
      by_cases hz : v4 = v5
      · rw [if_pos hz]
        first | done | exact (ih)
      · rw [if_neg hz]
        by_cases hz : (xf_75 M 49 v4 v5)
        · rw [if_pos hz]
          by_cases hz : ((xm_107 (xm_78 (xm_58 M 49 v4 v5) 49 v4 v5)).2.1 48 7) ≤ (0 : Int32)
          · rw [if_pos hz]
            first | done | exact ((((((ih)).trans (xwJ_78)).trans (xwJ_107)).trans (xwJ_78)).trans (xwJ_58))
          · rw [if_neg hz]
            first | done | exact ((((((ih)).trans (xwJ_78)).trans (xwJ_107)).trans (xwJ_78)).trans (xwJ_58))
        · rw [if_neg hz]
          first | done | exact (ih)
/-- a loop of RefusedOnce$Chances.takenTwice()J -/
noncomputable def xg_108_13 : Nat → ro_Mm → Int32 → Int32 → Int64 → Int32 × Int64 × ro_Mm
  | 0, M, v4, v3, v1 => (v4, v1, M)
  | n + 1, M, v4, v3, v1 => (if v3 ≤ v4 then (v4, v1, M) else (xg_108_13 n (xg_108_22 lp_N M (0 : Int32) v4 v3 v1).2.2 (v4 + (1 : Int32)) v3 (xg_108_22 lp_N M (0 : Int32) v4 v3 v1).2.1))
def xq_108_13 : Nat → ro_Mm → Int32 → Int32 → Int64 → Prop
  | 0, _, _, _, _ => False
  | n + 1, M, v4, v3, v1 => ((v3 ≤ v4 → True) ∧ (¬ (v3 ≤ v4) → (xq_108_22 lp_N M (0 : Int32) v4 v3 v1 ∧ (xq_108_13 n (xg_108_22 lp_N M (0 : Int32) v4 v3 v1).2.2 (v4 + (1 : Int32)) v3 (xg_108_22 lp_N M (0 : Int32) v4 v3 v1).2.1))))
theorem xt_108_13 {X : ro_Sx} {post : ro_Po} : ∀ (n : Nat) {M : ro_Mm} {v4 : Int32} {v3 : Int32} {v1 : Int64} (hL : ro_lay M) (hp : xq_108_13 n M v4 v3 v1) (hk : ro_w X 4 108 post 146 [(4, .int (xg_108_13 n M v4 v3 v1).1), (3, .int v3), (1, .long (xg_108_13 n M v4 v3 v1).2.1), (0, .ref 48)] [] (xg_108_13 n M v4 v3 v1).2.2 (0, 0)), ro_w X 4 108 post 13 [(4, .int v4), (3, .int v3), (1, .long v1), (0, .ref 48)] [] M (0, 0) := by
  intro n
  induction n with
  | zero => intro M v4 v3 v1 hL hp hk; exact False.elim hp
  | succ n ih =>
    intro M v4 v3 v1 hL hp hk
    rw [xq_108_13] at hp
    refine rs_iload ri_108_13 rfl rfl ?_
    refine rs_iload_n ri_108_15 rfl rfl ?_
    refine rs_icmp_ge (t := 146) ri_108_16 rfl rfl (fun h1 => ?_) (fun h1 => ?_)
    · skip
      have e : xg_108_13 (n + 1) M v4 v3 v1 = (v4, v1, M) := by rw [xg_108_13]; first | (simp only [if_pos h1]; done) | rfl
      rw [e] at hk
      exact ro_w_lv (ro_sub_c rfl (ro_sub_c rfl (ro_sub_c rfl (ro_sub_c rfl (ro_sub_n rfl))))) hk
    · have hp := hp.2 h1
      refine rs_iconst (v := (0 : Int32)) ri_108_19 rfl (by decide) ?_
      refine rs_istore (lv2 := [(5, .int (0 : Int32)), (4, .int v4), (3, .int v3), (1, .long v1), (0, .ref 48)]) ri_108_20 rfl rm_108.1 (by decide) rfl ?_
      obtain ⟨q8, hp⟩ := hp
      refine xt_108_22 lp_N hL q8 ?_
      refine rs_iinc (v := (v4 + (1 : Int32))) (lv2 := [(4, .int (v4 + (1 : Int32))), (5, .int (xg_108_22 lp_N M (0 : Int32) v4 v3 v1).1), (3, .int v3), (1, .long (xg_108_22 lp_N M (0 : Int32) v4 v3 v1).2.1), (0, .ref 48)]) ri_108_140 rfl rfl rfl rm_108.1 (by decide) rfl ?_
      refine rs_goto (t := 13) ri_108_143 rfl ?_
      have e : xg_108_13 (n + 1) M v4 v3 v1 = xg_108_13 n (xg_108_22 lp_N M (0 : Int32) v4 v3 v1).2.2 (v4 + (1 : Int32)) v3 (xg_108_22 lp_N M (0 : Int32) v4 v3 v1).2.1 := by rw [xg_108_13]; first | (simp only [if_neg h1]; done) | rfl
      rw [e] at hk
      exact ro_w_lv (ro_sub_c rfl (ro_sub_c rfl (ro_sub_c rfl (ro_sub_c rfl (ro_sub_n rfl))))) (ih (xl_108_22 lp_N hL q8)  hp hk)
theorem xl_108_13 : ∀ (n : Nat) {M : ro_Mm} {v4 : Int32} {v3 : Int32} {v1 : Int64} (hL : ro_lay M) (hp : xq_108_13 n M v4 v3 v1), ro_lay (xg_108_13 n M v4 v3 v1).2.2 := by
  intro n
  induction n with
  | zero => intro M v4 v3 v1 hL hp; exact False.elim hp
  | succ n ih =>
    intro M v4 v3 v1 hL hp
    rw [xq_108_13] at hp
    rw [xg_108_13]
    by_cases hz : v3 ≤ v4
    · have hp := hp.1 hz
      rw [if_pos hz]
      exact hL
    · have hp := hp.2 hz
      rw [if_neg hz]
      obtain ⟨q8, hp⟩ := hp
      exact ih (xl_108_22 lp_N hL q8)  hp
theorem xwI_108_13 : ∀ {n : Nat} {M : ro_Mm} {v4 : Int32} {v3 : Int32} {v1 : Int64} {c j : Nat} (n0 : c ≠ 21) (n1 : c ≠ 16) (n2 : c ≠ 20) (n3 : c ≠ 50) (n4 : c ≠ 48), (xg_108_13 n M v4 v3 v1).2.2.2.1 c j = M.2.1 c j := by
  intro n
  induction n with
  | zero => intro M v4 v3 v1 c j n0 n1 n2 n3 n4; rfl
  | succ n ih =>
    intro M v4 v3 v1 c j n0 n1 n2 n3 n4
    rw [xg_108_13]
    by_cases hz : v3 ≤ v4
    · rw [if_pos hz]
      first | done | exact rfl
    · rw [if_neg hz]
      first | done | exact (((ih n0 n1 n2 n3 n4)).trans (xwI_108_22 n0 n1 n2 n3 n4))
theorem xwJ_108_13 : ∀ {n : Nat} {M : ro_Mm} {v4 : Int32} {v3 : Int32} {v1 : Int64} {c j : Nat}, (xg_108_13 n M v4 v3 v1).2.2.2.2.1 c j = M.2.2.1 c j := by
  intro n
  induction n with
  | zero => intro M v4 v3 v1 c j; rfl
  | succ n ih =>
    intro M v4 v3 v1 c j
    rw [xg_108_13]
    by_cases hz : v3 ≤ v4
    · rw [if_pos hz]
      first | done | exact rfl
    · rw [if_neg hz]
      first | done | exact (((ih)).trans (xwJ_108_22))
/-- RefusedOnce$Chances.takenTwice()J -/
noncomputable def xf_108 (M : ro_Mm) : Int64 := (xg_108_13 lp_N M (0 : Int32) (xf_18 M) (0 : Int64)).2.1
noncomputable def xm_108 (M : ro_Mm) : ro_Mm := (xg_108_13 lp_N M (0 : Int32) (xf_18 M) (0 : Int64)).2.2
def xp_108 (M : ro_Mm) : Prop := (xq_108_13 lp_N M (0 : Int32) (xf_18 M) (0 : Int64) ∧ True)
theorem xs_108 {X : ro_Sx} {M : ro_Mm} (hL : ro_lay M) (hp : xp_108 M) : ro_cwp X 5 108 [.ref 48] M (fun v M2 => v = some (.long (xf_108 M)) ∧ M2 = xm_108 M) := by
  refine rs_begin (lv0 := [(0, .ref 48)]) (by decide) rfl (by rw [rm_108.1]; exact Nat.le_of_ble_eq_true rfl) rfl ?_
  unfold xp_108 at hp
  refine rs_lconst (v := (0 : Int64)) ri_108_0 rfl rfl ?_
  refine rs_lstore_n (lv2 := [(1, .long (0 : Int64)), (0, .ref 48)]) ri_108_1 rfl rm_108.1 (by decide) rfl ?_
  refine rs_aload_n ri_108_2 rfl rfl ?_
  refine rs_gf (v := .ref 5) ri_108_3 rfl (by decide) (ro_kf (kd_48 hL)) rfl (rf_48_0 hL) ?_
  refine rs_virt (As := []) (r := []) ri_108_6 rfl (by decide) rm_18.2.2.2 rm_18.2.2.1 rfl rfl rfl (by decide) (ro_kf (kd_5 hL)) (Nat.le_of_ble_eq_true rfl) (by decide) (by decide) (xs_18 (X := X) hL) ?_
  rintro _ _ ⟨e1, e2⟩
  rw [e1, e2]
  show ro_w X _ 108 _ 9 [(1, .long (0 : Int64)), (0, .ref 48)] [.int (xf_18 M)] M (0, 0)
  refine rs_istore_n (lv2 := [(3, .int (xf_18 M)), (1, .long (0 : Int64)), (0, .ref 48)]) ri_108_9 rfl rm_108.1 (by decide) rfl ?_
  refine rs_iconst (v := (0 : Int32)) ri_108_10 rfl (by decide) ?_
  refine rs_istore (lv2 := [(4, .int (0 : Int32)), (3, .int (xf_18 M)), (1, .long (0 : Int64)), (0, .ref 48)]) ri_108_11 rfl rm_108.1 (by decide) rfl ?_
  obtain ⟨q9, hp⟩ := hp
  refine xt_108_13 lp_N hL q9 ?_
  refine rs_lload_n ri_108_146 rfl rfl ?_
  refine rs_lret ri_108_147 rm_108.2.1 (by decide) ?_
  exact ⟨by rfl, by rfl⟩
theorem xl_108 {M : ro_Mm} (hL : ro_lay M) (hp : xp_108 M) : ro_lay (xm_108 M) := by
  unfold xp_108 at hp
  unfold xm_108
  obtain ⟨q9, hp⟩ := hp
  exact (xl_108_13 lp_N hL q9)
theorem xwI_108 {M : ro_Mm} {c j : Nat} (n0 : c ≠ 21) (n1 : c ≠ 16) (n2 : c ≠ 20) (n3 : c ≠ 50) (n4 : c ≠ 48) : (xm_108 M).2.1 c j = M.2.1 c j := by
  unfold xm_108
  first | done | exact (xwI_108_13 n0 n1 n2 n3 n4)
theorem xwJ_108 {M : ro_Mm} {c j : Nat} : (xm_108 M).2.2.1 c j = M.2.2.1 c j := by
  unfold xm_108
  first | done | exact (xwJ_108_13)
/-- a loop of RefusedOnce.hands(II)I -/
noncomputable def xg_109_45 : Nat → ro_Mm → Int32 → Int32 → Int32 → Int32 → Nat → Int32 → Int32 → Int32 × Int32 × Int32
  | 0, M, v7, v6, v5, v4, c3, v1, v2 => (v7, v6, v5)
  | n + 1, M, v7, v6, v5, v4, c3, v1, v2 => (if v4 ≤ v7 then (v7, v6, v5) else (if ((xf_30 M (xf_25 M c3 v7) (2 : Int32)) - (((v4 - (1 : Int32)) - v7) * ((4 : Int32) - (xf_30 M (0 : Int32) (4 : Int32))))) ≤ v5 then (xg_109_45 n M (v7 + (1 : Int32)) v6 v5 v4 c3 v1 v2) else (xg_109_45 n M (v7 + (1 : Int32)) v7 ((xf_30 M (xf_25 M c3 v7) (2 : Int32)) - (((v4 - (1 : Int32)) - v7) * ((4 : Int32) - (xf_30 M (0 : Int32) (4 : Int32))))) v4 c3 v1 v2)))
def xq_109_45 : Nat → ro_Mm → Int32 → Int32 → Int32 → Int32 → Nat → Int32 → Int32 → Prop
  | 0, _, _, _, _, _, _, _, _ => False
  | n + 1, M, v7, v6, v5, v4, c3, v1, v2 => ((v4 ≤ v7 → True) ∧ (¬ (v4 ≤ v7) → ((((xf_30 M (xf_25 M c3 v7) (2 : Int32)) - (((v4 - (1 : Int32)) - v7) * ((4 : Int32) - (xf_30 M (0 : Int32) (4 : Int32))))) ≤ v5 → (xq_109_45 n M (v7 + (1 : Int32)) v6 v5 v4 c3 v1 v2)) ∧ (¬ (((xf_30 M (xf_25 M c3 v7) (2 : Int32)) - (((v4 - (1 : Int32)) - v7) * ((4 : Int32) - (xf_30 M (0 : Int32) (4 : Int32))))) ≤ v5) → (xq_109_45 n M (v7 + (1 : Int32)) v7 ((xf_30 M (xf_25 M c3 v7) (2 : Int32)) - (((v4 - (1 : Int32)) - v7) * ((4 : Int32) - (xf_30 M (0 : Int32) (4 : Int32))))) v4 c3 v1 v2)))))
/-- RefusedOnce.hands(II)I -/
noncomputable def xf_109 (M : ro_Mm) (v1 : Int32) (v2 : Int32) : Int32 := (if ro_bs v1 then (if (xf_13 M v2 (0 : Int32) (1 : Int32)) then (if (xf_22 M (ro_sc v1)) then (if v2 = (0 : Int32) then (xg_109_45 lp_N M (1 : Int32) (0 : Int32) (0 : Int32) (xf_110 M (ro_sc v1)) (ro_sc v1) v1 v2).2.2 else (xg_109_45 lp_N M (1 : Int32) (0 : Int32) (0 : Int32) (xf_110 M (ro_sc v1)) (ro_sc v1) v1 v2).2.1) else (-2000000000 : Int32)) else (-2000000000 : Int32)) else (-2000000000 : Int32))
def xp_109 (M : ro_Mm) (v1 : Int32) (v2 : Int32) : Prop := ((ro_bs v1 → (((xf_13 M v2 (0 : Int32) (1 : Int32)) → (((xf_22 M (ro_sc v1)) → (xp_110 M (ro_sc v1) ∧ (xq_109_45 lp_N M (1 : Int32) (0 : Int32) (0 : Int32) (xf_110 M (ro_sc v1)) (ro_sc v1) v1 v2 ∧ True))) ∧ (¬ ((xf_22 M (ro_sc v1))) → True))) ∧ (¬ ((xf_13 M v2 (0 : Int32) (1 : Int32))) → True))) ∧ (¬ (ro_bs v1) → True))
/-- RefusedOnce.test(III)J -/
noncomputable def xf_111 (M : ro_Mm) (v1 : Int32) (v2 : Int32) (v3 : Int32) : Int64 := (if (xf_29 M v1) then (if (xf_13 M v2 (0 : Int32) (20 : Int32)) then (if (xf_95 M v3) then (xf_102 (xm_112 M v1 v2 (1 : Int32)) v3) else (-9223372036854775808 : Int64)) else (-9223372036854775808 : Int64)) else (-9223372036854775808 : Int64))
noncomputable def xm_111 (M : ro_Mm) (v1 : Int32) (v2 : Int32) (v3 : Int32) : ro_Mm := (if (xf_29 M v1) then (if (xf_13 M v2 (0 : Int32) (20 : Int32)) then (if (xf_95 M v3) then (xm_112 M v1 v2 (1 : Int32)) else M) else M) else M)
def xp_111 (M : ro_Mm) (v1 : Int32) (v2 : Int32) (v3 : Int32) : Prop := (((xf_29 M v1) → (((xf_13 M v2 (0 : Int32) (20 : Int32)) → (((xf_95 M v3) → (xp_112 M v1 v2 (1 : Int32) ∧ True)) ∧ (¬ ((xf_95 M v3)) → True))) ∧ (¬ ((xf_13 M v2 (0 : Int32) (20 : Int32))) → True))) ∧ (¬ ((xf_29 M v1)) → True))
theorem xs_111 {X : ro_Sx} {M : ro_Mm} {v1 : Int32} {v2 : Int32} {v3 : Int32} (hL : ro_lay M) (hp : xp_111 M v1 v2 v3) : ro_cwp X 5 111 [.ref 4, .int v1, .int v2, .int v3] M (fun v M2 => v = some (.long (xf_111 M v1 v2 v3)) ∧ M2 = xm_111 M v1 v2 v3) := by
  refine rs_begin (lv0 := [(0, .ref 4), (1, .int v1), (2, .int v2), (3, .int v3)]) (by decide) rfl (by rw [rm_111.1]; exact Nat.le_of_ble_eq_true rfl) rfl ?_
  unfold xp_111 at hp
  refine rs_aload_n ri_111_0 rfl rfl ?_
  refine rs_gf (v := .ref 5) ri_111_1 rfl (by decide) (ro_kf (kd_4 hL)) rfl (rf_4_0 hL) ?_
  refine rs_iload_n ri_111_4 rfl rfl ?_
  refine rs_virt (As := [.int v1]) (r := []) ri_111_5 rfl (by decide) rm_29.2.2.2 rm_29.2.2.1 rfl rfl rfl (by decide) (ro_kf (kd_5 hL)) (Nat.le_of_ble_eq_true rfl) (by decide) (by decide) (xs_29 (X := X) hL) ?_
  rintro _ _ ⟨e1, e2⟩
  rw [e1, e2]
  show ro_w X _ 111 _ 8 [(0, .ref 4), (1, .int v1), (2, .int v2), (3, .int v3)] [.int (ro_b (xf_29 M v1))] M (0, 0)
  refine rs_ifeq_c (t := 28) ri_111_8 rfl rfl (fun h1 => ?_) (fun h1 => ?_)
  · have hp := hp.2 h1
    refine rs_ldc2 (v := (-9223372036854775808 : Int64)) ri_111_28 rfl rfl rfl ?_
    refine rs_lret ri_111_31 rm_111.2.1 (by decide) ?_
    exact ⟨by unfold xf_111; first | (simp only [if_neg h1]; done) | rfl, by unfold xm_111; first | (simp only [if_neg h1]; done) | rfl⟩
  · have hp := hp.1 h1
    refine rs_iload_n ri_111_11 rfl rfl ?_
    refine rs_iconst (v := (0 : Int32)) ri_111_12 rfl (by decide) ?_
    refine rs_bipush (v := (20 : Int32)) ri_111_13 rfl (by decide) ?_
    refine rs_stat (As := [.int v2, .int (0 : Int32), .int (20 : Int32)]) (r := []) ri_111_15 rfl rm_13.2.2.2 rfl rfl rfl (Nat.le_of_ble_eq_true rfl) (by decide) (by decide) (xs_13 (X := X) hL) ?_
    rintro _ _ ⟨e1, e2⟩
    rw [e1, e2]
    show ro_w X _ 111 _ 18 [(0, .ref 4), (1, .int v1), (2, .int v2), (3, .int v3)] [.int (ro_b (xf_13 M v2 (0 : Int32) (20 : Int32)))] M (0, 0)
    refine rs_ifeq_c (t := 28) ri_111_18 rfl rfl (fun h2 => ?_) (fun h2 => ?_)
    · have hp := hp.2 h2
      refine rs_ldc2 (v := (-9223372036854775808 : Int64)) ri_111_28 rfl rfl rfl ?_
      refine rs_lret ri_111_31 rm_111.2.1 (by decide) ?_
      exact ⟨by unfold xf_111; first | (simp only [if_pos h1, if_neg h2]; done) | rfl, by unfold xm_111; first | (simp only [if_pos h1, if_neg h2]; done) | rfl⟩
    · have hp := hp.1 h2
      refine rs_iload_n ri_111_21 rfl rfl ?_
      refine rs_stat (As := [.int v3]) (r := []) ri_111_22 rfl rm_95.2.2.2 rfl rfl rfl (Nat.le_of_ble_eq_true rfl) (by decide) (by decide) (xs_95 (X := X) hL) ?_
      rintro _ _ ⟨e1, e2⟩
      rw [e1, e2]
      show ro_w X _ 111 _ 25 [(0, .ref 4), (1, .int v1), (2, .int v2), (3, .int v3)] [.int (ro_b (xf_95 M v3))] M (0, 0)
      refine rs_ifne_c (t := 32) ri_111_25 rfl rfl (fun h3 => ?_) (fun h3 => ?_)
      · have hp := hp.1 h3
        refine rs_aload_n ri_111_32 rfl rfl ?_
        refine rs_gf (v := .ref 48) ri_111_33 rfl (by decide) (ro_kf (kd_4 hL)) rfl (rf_4_5 hL) ?_
        refine rs_iload_n ri_111_36 rfl rfl ?_
        refine rs_iload_n ri_111_37 rfl rfl ?_
        refine rs_iconst (v := (1 : Int32)) ri_111_38 rfl (by decide) ?_
        obtain ⟨q3, hp⟩ := hp
        refine rs_virt (As := [.int v1, .int v2, .int (1 : Int32)]) (r := []) ri_111_39 rfl (by decide) rm_112.2.2.2 rm_112.2.2.1 rfl rfl rfl (by decide) (ro_kf (kd_48 hL)) (Nat.le_of_ble_eq_true rfl) (by decide) (by decide) (xs_112 (X := X) hL q3) ?_
        rintro _ _ ⟨e1, e2⟩
        rw [e1, e2]
        show ro_w X _ 111 _ 42 [(0, .ref 4), (1, .int v1), (2, .int v2), (3, .int v3)] [] (xm_112 M v1 v2 (1 : Int32)) (0, 0)
        refine rs_aload_n ri_111_42 rfl rfl ?_
        refine rs_gf (v := .ref 48) ri_111_43 rfl (by decide) (ro_kf (kd_4 (xl_112 hL q3))) rfl (rf_4_5 (xl_112 hL q3)) ?_
        refine rs_iload_n ri_111_46 rfl rfl ?_
        refine rs_virt (As := [.int v3]) (r := []) ri_111_47 rfl (by decide) rm_102.2.2.2 rm_102.2.2.1 rfl rfl rfl (by decide) (ro_kf (kd_48 (xl_112 hL q3))) (Nat.le_of_ble_eq_true rfl) (by decide) (by decide) (xs_102 (X := X) (xl_112 hL q3)) ?_
        rintro _ _ ⟨e1, e2⟩
        rw [e1, e2]
        show ro_w X _ 111 _ 50 [(0, .ref 4), (1, .int v1), (2, .int v2), (3, .int v3)] [.long (xf_102 (xm_112 M v1 v2 (1 : Int32)) v3)] (xm_112 M v1 v2 (1 : Int32)) (0, 0)
        refine rs_lret ri_111_50 rm_111.2.1 (by decide) ?_
        exact ⟨by unfold xf_111; first | (simp only [if_pos h1, if_pos h2, if_pos h3]; done) | rfl, by unfold xm_111; first | (simp only [if_pos h1, if_pos h2, if_pos h3]; done) | rfl⟩
      · have hp := hp.2 h3
        refine rs_ldc2 (v := (-9223372036854775808 : Int64)) ri_111_28 rfl rfl rfl ?_
        refine rs_lret ri_111_31 rm_111.2.1 (by decide) ?_
        exact ⟨by unfold xf_111; first | (simp only [if_pos h1, if_pos h2, if_neg h3]; done) | rfl, by unfold xm_111; first | (simp only [if_pos h1, if_pos h2, if_neg h3]; done) | rfl⟩
theorem xl_111 {M : ro_Mm} {v1 : Int32} {v2 : Int32} {v3 : Int32} (hL : ro_lay M) (hp : xp_111 M v1 v2 v3) : ro_lay (xm_111 M v1 v2 v3) := by
  unfold xp_111 at hp
  unfold xm_111
  by_cases hz : (xf_29 M v1)
  · have hp := hp.1 hz
    rw [if_pos hz]
    by_cases hz : (xf_13 M v2 (0 : Int32) (20 : Int32))
    · have hp := hp.1 hz
      rw [if_pos hz]
      by_cases hz : (xf_95 M v3)
      · have hp := hp.1 hz
        rw [if_pos hz]
        obtain ⟨q3, hp⟩ := hp
        exact (xl_112 hL q3)
      · have hp := hp.2 hz
        rw [if_neg hz]
        exact hL
    · have hp := hp.2 hz
      rw [if_neg hz]
      exact hL
  · have hp := hp.2 hz
    rw [if_neg hz]
    exact hL
theorem xwI_111 {M : ro_Mm} {v1 : Int32} {v2 : Int32} {v3 : Int32} {c j : Nat} : (xm_111 M v1 v2 v3).2.1 c j = M.2.1 c j := by
  unfold xm_111
  by_cases hz : (xf_29 M v1)
  · rw [if_pos hz]
    by_cases hz : (xf_13 M v2 (0 : Int32) (20 : Int32))
    · rw [if_pos hz]
      by_cases hz : (xf_95 M v3)
      · rw [if_pos hz]
        first | done | exact (xwI_112)
      · rw [if_neg hz]
        first | done | exact rfl
    · rw [if_neg hz]
      first | done | exact rfl
  · rw [if_neg hz]
    first | done | exact rfl
theorem xwJ_111 {M : ro_Mm} {v1 : Int32} {v2 : Int32} {v3 : Int32} {c j : Nat} (n0 : c ≠ 48) : (xm_111 M v1 v2 v3).2.2.1 c j = M.2.2.1 c j := by
  unfold xm_111
  by_cases hz : (xf_29 M v1)
  · rw [if_pos hz]
    by_cases hz : (xf_13 M v2 (0 : Int32) (20 : Int32))
    · rw [if_pos hz]
      by_cases hz : (xf_95 M v3)
      · rw [if_pos hz]
        first | done | exact (xwJ_112 n0)
      · rw [if_neg hz]
        first | done | exact rfl
    · rw [if_neg hz]
      first | done | exact rfl
  · rw [if_neg hz]
    first | done | exact rfl
/-- RefusedOnce$Evening.drawOne(II)V -/
noncomputable def xm_142 (M : ro_Mm) (v1 : Int32) (v2 : Int32) : ro_Mm := (if (1 : Int32) ≤ v2 then (if (ro_irem (ro_ushr v1 (8 : Int32)) v2) = (ro_irem (ro_ushr v1 (12 : Int32)) v2) then M else (if (xf_75 M 36 (ro_irem (ro_ushr v1 (8 : Int32)) v2) (ro_irem (ro_ushr v1 (12 : Int32)) v2)) then (if (xf_58 M 36 (ro_irem (ro_ushr v1 (8 : Int32)) v2) (ro_irem (ro_ushr v1 (12 : Int32)) v2)) ≤ (ro_irem (ro_ushr v1 (20 : Int32)) (12 : Int32)) then (xm_76 (xm_58 M 36 (ro_irem (ro_ushr v1 (8 : Int32)) v2) (ro_irem (ro_ushr v1 (12 : Int32)) v2)) (ro_irem (ro_ushr v1 (8 : Int32)) v2) (ro_irem (ro_ushr v1 (12 : Int32)) v2) false) else (xm_76 (xm_58 M 36 (ro_irem (ro_ushr v1 (8 : Int32)) v2) (ro_irem (ro_ushr v1 (12 : Int32)) v2)) (ro_irem (ro_ushr v1 (8 : Int32)) v2) (ro_irem (ro_ushr v1 (12 : Int32)) v2) true)) else M)) else M)
def xp_142 (M : ro_Mm) (v1 : Int32) (v2 : Int32) : Prop := (((1 : Int32) ≤ v2 → (¬ v2 = 0 ∧ (¬ v2 = 0 ∧ (((ro_irem (ro_ushr v1 (8 : Int32)) v2) = (ro_irem (ro_ushr v1 (12 : Int32)) v2) → True) ∧ (¬ ((ro_irem (ro_ushr v1 (8 : Int32)) v2) = (ro_irem (ro_ushr v1 (12 : Int32)) v2)) → (((xf_75 M 36 (ro_irem (ro_ushr v1 (8 : Int32)) v2) (ro_irem (ro_ushr v1 (12 : Int32)) v2)) → (xp_58 M 36 (ro_irem (ro_ushr v1 (8 : Int32)) v2) (ro_irem (ro_ushr v1 (12 : Int32)) v2) ∧ True)) ∧ (¬ ((xf_75 M 36 (ro_irem (ro_ushr v1 (8 : Int32)) v2) (ro_irem (ro_ushr v1 (12 : Int32)) v2))) → True))))))) ∧ (¬ ((1 : Int32) ≤ v2) → True))
theorem xl_142 {M : ro_Mm} {v1 : Int32} {v2 : Int32} (hL : ro_lay M) (hp : xp_142 M v1 v2) : ro_lay (xm_142 M v1 v2) := by
  unfold xp_142 at hp
  unfold xm_142
  by_cases hz : (1 : Int32) ≤ v2
  · have hp := hp.1 hz
    rw [if_pos hz]
    obtain ⟨q1, hp⟩ := hp
    obtain ⟨q2, hp⟩ := hp
    by_cases hz : (ro_irem (ro_ushr v1 (8 : Int32)) v2) = (ro_irem (ro_ushr v1 (12 : Int32)) v2)
    · have hp := hp.1 hz
      rw [if_pos hz]
      exact hL
    · have hp := hp.2 hz
      rw [if_neg hz]
      by_cases hz : (xf_75 M 36 (ro_irem (ro_ushr v1 (8 : Int32)) v2) (ro_irem (ro_ushr v1 (12 : Int32)) v2))
      · have hp := hp.1 hz
        rw [if_pos hz]
        obtain ⟨q5, hp⟩ := hp
        by_cases hz : (xf_58 M 36 (ro_irem (ro_ushr v1 (8 : Int32)) v2) (ro_irem (ro_ushr v1 (12 : Int32)) v2)) ≤ (ro_irem (ro_ushr v1 (20 : Int32)) (12 : Int32))
        · skip
          rw [if_pos hz]
          exact (xl_76 (xl_58 hL (by unfold ro_ip; decide) q5))
        · skip
          rw [if_neg hz]
          exact (xl_76 (xl_58 hL (by unfold ro_ip; decide) q5))
      · have hp := hp.2 hz
        rw [if_neg hz]
        exact hL
  · have hp := hp.2 hz
    rw [if_neg hz]
    exact hL
theorem xwI_142 {M : ro_Mm} {v1 : Int32} {v2 : Int32} {c j : Nat} (n0 : c ≠ 21) (n1 : c ≠ 16) (n2 : c ≠ 20) (n3 : c ≠ 37) (n4 : c ≠ 38) (n5 : c ≠ 35) : (xm_142 M v1 v2).2.1 c j = M.2.1 c j := by
  unfold xm_142
  by_cases hz : (1 : Int32) ≤ v2
  · rw [if_pos hz]
    by_cases hz : (ro_irem (ro_ushr v1 (8 : Int32)) v2) = (ro_irem (ro_ushr v1 (12 : Int32)) v2)
    · rw [if_pos hz]
      first | done | exact rfl
    · rw [if_neg hz]
      by_cases hz : (xf_75 M 36 (ro_irem (ro_ushr v1 (8 : Int32)) v2) (ro_irem (ro_ushr v1 (12 : Int32)) v2))
      · rw [if_pos hz]
        by_cases hz : (xf_58 M 36 (ro_irem (ro_ushr v1 (8 : Int32)) v2) (ro_irem (ro_ushr v1 (12 : Int32)) v2)) ≤ (ro_irem (ro_ushr v1 (20 : Int32)) (12 : Int32))
        · rw [if_pos hz]
          first | done | exact (((xwI_76 n3 n4 n5)).trans (xwI_58 n0 n1 n2))
        · rw [if_neg hz]
          first | done | exact (((xwI_76 n3 n4 n5)).trans (xwI_58 n0 n1 n2))
      · rw [if_neg hz]
        first | done | exact rfl
  · rw [if_neg hz]
    first | done | exact rfl
theorem xwJ_142 {M : ro_Mm} {v1 : Int32} {v2 : Int32} {c j : Nat} : (xm_142 M v1 v2).2.2.1 c j = M.2.2.1 c j := by
  unfold xm_142
  by_cases hz : (1 : Int32) ≤ v2
  · rw [if_pos hz]
    by_cases hz : (ro_irem (ro_ushr v1 (8 : Int32)) v2) = (ro_irem (ro_ushr v1 (12 : Int32)) v2)
    · rw [if_pos hz]
      first | done | exact rfl
    · rw [if_neg hz]
      by_cases hz : (xf_75 M 36 (ro_irem (ro_ushr v1 (8 : Int32)) v2) (ro_irem (ro_ushr v1 (12 : Int32)) v2))
      · rw [if_pos hz]
        by_cases hz : (xf_58 M 36 (ro_irem (ro_ushr v1 (8 : Int32)) v2) (ro_irem (ro_ushr v1 (12 : Int32)) v2)) ≤ (ro_irem (ro_ushr v1 (20 : Int32)) (12 : Int32))
        · rw [if_pos hz]
          first | done | exact (((xwJ_76)).trans (xwJ_58))
        · rw [if_neg hz]
          first | done | exact (((xwJ_76)).trans (xwJ_58))
      · rw [if_neg hz]
        first | done | exact rfl
  · rw [if_neg hz]
    first | done | exact rfl
/-- RefusedOnce.count(I)I -/
noncomputable def xf_190 (M : ro_Mm) (v1 : Int32) : Int32 := (if v1 = (0 : Int32) then (xf_18 M) else (if v1 = (1 : Int32) then (xf_191 M (0 : Int32)) else (if v1 = (2 : Int32) then (xf_191 M (1 : Int32)) else (if v1 = (3 : Int32) then (xf_42 M) else (if v1 = (4 : Int32) then (xf_156 M) else (if v1 = (5 : Int32) then (xf_163 M) else (if v1 = (6 : Int32) then (xf_192 M) else (-1 : Int32))))))))
def xp_190 (M : ro_Mm) (v1 : Int32) : Prop := ((v1 = (0 : Int32) → True) ∧ (¬ (v1 = (0 : Int32)) → ((v1 = (1 : Int32) → (xp_191 M (0 : Int32) ∧ True)) ∧ (¬ (v1 = (1 : Int32)) → ((v1 = (2 : Int32) → (xp_191 M (1 : Int32) ∧ True)) ∧ (¬ (v1 = (2 : Int32)) → True))))))
theorem xs_190 {X : ro_Sx} {M : ro_Mm} {v1 : Int32} (hL : ro_lay M) (hp : xp_190 M v1) : ro_cwp X 4 190 [.ref 4, .int v1] M (fun v M2 => v = some (.int (xf_190 M v1)) ∧ M2 = M) := by
  refine rs_begin (lv0 := [(0, .ref 4), (1, .int v1)]) (by decide) rfl (by rw [rm_190.1]; exact Nat.le_of_ble_eq_true rfl) rfl ?_
  unfold xp_190 at hp
  refine rs_iload_n ri_190_0 rfl rfl ?_
  by_cases h1 : v1 = (0 : Int32)
  · have hp := hp.1 h1
    refine rs_swIn (o := 43) (t := 44) ri_190_1 (by rw [h1]; first | done | decide) (by rw [h1]; first | done | decide) (by rw [h1]; first | done | rfl) rfl ?_
    refine rs_aload_n ri_190_44 rfl rfl ?_
    refine rs_gf (v := .ref 5) ri_190_45 rfl (by decide) (ro_kf (kd_4 hL)) rfl (rf_4_0 hL) ?_
    refine rs_virt (As := []) (r := []) ri_190_48 rfl (by decide) rm_18.2.2.2 rm_18.2.2.1 rfl rfl rfl (by decide) (ro_kf (kd_5 hL)) (Nat.le_of_ble_eq_true rfl) (by decide) (by decide) (xs_18 (X := X) hL) ?_
    rintro _ _ ⟨e1, e2⟩
    rw [e1, e2]
    show ro_w X _ 190 _ 51 [(0, .ref 4), (1, .int v1)] [.int (xf_18 M)] M (0, 0)
    refine rs_iret ri_190_51 rm_190.2.1 (by decide) ?_
    exact ⟨by unfold xf_190; first | (simp only [if_pos h1]; done) | rfl, by rfl⟩
  · have hp := hp.2 h1
    by_cases h2 : v1 = (1 : Int32)
    · have hp := hp.1 h2
      refine rs_swIn (o := 51) (t := 52) ri_190_1 (by rw [h2]; first | done | decide) (by rw [h2]; first | done | decide) (by rw [h2]; first | done | rfl) rfl ?_
      refine rs_aload_n ri_190_52 rfl rfl ?_
      refine rs_gf (v := .ref 5) ri_190_53 rfl (by decide) (ro_kf (kd_4 hL)) rfl (rf_4_0 hL) ?_
      refine rs_iconst (v := (0 : Int32)) ri_190_56 rfl (by decide) ?_
      obtain ⟨q2, hp⟩ := hp
      refine rs_virt (As := [.int (0 : Int32)]) (r := []) ri_190_57 rfl (by decide) rm_191.2.2.2 rm_191.2.2.1 rfl rfl rfl (by decide) (ro_kf (kd_5 hL)) (Nat.le_of_ble_eq_true rfl) (by decide) (by decide) (xs_191 (X := X) hL q2) ?_
      rintro _ _ ⟨e1, e2⟩
      rw [e1, e2]
      show ro_w X _ 190 _ 60 [(0, .ref 4), (1, .int v1)] [.int (xf_191 M (0 : Int32))] M (0, 0)
      refine rs_iret ri_190_60 rm_190.2.1 (by decide) ?_
      exact ⟨by unfold xf_190; first | (simp only [if_neg h1, if_pos h2]; done) | rfl, by rfl⟩
    · have hp := hp.2 h2
      by_cases h4 : v1 = (2 : Int32)
      · have hp := hp.1 h4
        refine rs_swIn (o := 60) (t := 61) ri_190_1 (by rw [h4]; first | done | decide) (by rw [h4]; first | done | decide) (by rw [h4]; first | done | rfl) rfl ?_
        refine rs_aload_n ri_190_61 rfl rfl ?_
        refine rs_gf (v := .ref 5) ri_190_62 rfl (by decide) (ro_kf (kd_4 hL)) rfl (rf_4_0 hL) ?_
        refine rs_iconst (v := (1 : Int32)) ri_190_65 rfl (by decide) ?_
        obtain ⟨q4, hp⟩ := hp
        refine rs_virt (As := [.int (1 : Int32)]) (r := []) ri_190_66 rfl (by decide) rm_191.2.2.2 rm_191.2.2.1 rfl rfl rfl (by decide) (ro_kf (kd_5 hL)) (Nat.le_of_ble_eq_true rfl) (by decide) (by decide) (xs_191 (X := X) hL q4) ?_
        rintro _ _ ⟨e1, e2⟩
        rw [e1, e2]
        show ro_w X _ 190 _ 69 [(0, .ref 4), (1, .int v1)] [.int (xf_191 M (1 : Int32))] M (0, 0)
        refine rs_iret ri_190_69 rm_190.2.1 (by decide) ?_
        exact ⟨by unfold xf_190; first | (simp only [if_neg h1, if_neg h2, if_pos h4]; done) | rfl, by rfl⟩
      · have hp := hp.2 h4
        by_cases h6 : v1 = (3 : Int32)
        · skip
          refine rs_swIn (o := 69) (t := 70) ri_190_1 (by rw [h6]; first | done | decide) (by rw [h6]; first | done | decide) (by rw [h6]; first | done | rfl) rfl ?_
          refine rs_aload_n ri_190_70 rfl rfl ?_
          refine rs_gf (v := .ref 16) ri_190_71 rfl (by decide) (ro_kf (kd_4 hL)) rfl (rf_4_1 hL) ?_
          refine rs_virt (As := []) (r := []) ri_190_74 rfl (by decide) rm_42.2.2.2 rm_42.2.2.1 rfl rfl rfl (by decide) (ro_kf (kd_16 hL)) (Nat.le_of_ble_eq_true rfl) (by decide) (by decide) (xs_42 (X := X) hL) ?_
          rintro _ _ ⟨e1, e2⟩
          rw [e1, e2]
          show ro_w X _ 190 _ 77 [(0, .ref 4), (1, .int v1)] [.int (xf_42 M)] M (0, 0)
          refine rs_iret ri_190_77 rm_190.2.1 (by decide) ?_
          exact ⟨by unfold xf_190; first | (simp only [if_neg h1, if_neg h2, if_neg h4, if_pos h6]; done) | rfl, by rfl⟩
        · skip
          by_cases h7 : v1 = (4 : Int32)
          · skip
            refine rs_swIn (o := 77) (t := 78) ri_190_1 (by rw [h7]; first | done | decide) (by rw [h7]; first | done | decide) (by rw [h7]; first | done | rfl) rfl ?_
            refine rs_aload_n ri_190_78 rfl rfl ?_
            refine rs_gf (v := .ref 54) ri_190_79 rfl (by decide) (ro_kf (kd_4 hL)) rfl (rf_4_6 hL) ?_
            refine rs_virt (As := []) (r := []) ri_190_82 rfl (by decide) rm_156.2.2.2 rm_156.2.2.1 rfl rfl rfl (by decide) (ro_kf (kd_54 hL)) (Nat.le_of_ble_eq_true rfl) (by decide) (by decide) (xs_156 (X := X) hL) ?_
            rintro _ _ ⟨e1, e2⟩
            rw [e1, e2]
            show ro_w X _ 190 _ 85 [(0, .ref 4), (1, .int v1)] [.int (xf_156 M)] M (0, 0)
            refine rs_iret ri_190_85 rm_190.2.1 (by decide) ?_
            exact ⟨by unfold xf_190; first | (simp only [if_neg h1, if_neg h2, if_neg h4, if_neg h6, if_pos h7]; done) | rfl, by rfl⟩
          · skip
            by_cases h8 : v1 = (5 : Int32)
            · skip
              refine rs_swIn (o := 85) (t := 86) ri_190_1 (by rw [h8]; first | done | decide) (by rw [h8]; first | done | decide) (by rw [h8]; first | done | rfl) rfl ?_
              refine rs_aload_n ri_190_86 rfl rfl ?_
              refine rs_gf (v := .ref 59) ri_190_87 rfl (by decide) (ro_kf (kd_4 hL)) rfl (rf_4_7 hL) ?_
              refine rs_virt (As := []) (r := []) ri_190_90 rfl (by decide) rm_163.2.2.2 rm_163.2.2.1 rfl rfl rfl (by decide) (ro_kf (kd_59 hL)) (Nat.le_of_ble_eq_true rfl) (by decide) (by decide) (xs_163 (X := X) hL) ?_
              rintro _ _ ⟨e1, e2⟩
              rw [e1, e2]
              show ro_w X _ 190 _ 93 [(0, .ref 4), (1, .int v1)] [.int (xf_163 M)] M (0, 0)
              refine rs_iret ri_190_93 rm_190.2.1 (by decide) ?_
              exact ⟨by unfold xf_190; first | (simp only [if_neg h1, if_neg h2, if_neg h4, if_neg h6, if_neg h7, if_pos h8]; done) | rfl, by rfl⟩
            · skip
              by_cases h9 : v1 = (6 : Int32)
              · skip
                refine rs_swIn (o := 93) (t := 94) ri_190_1 (by rw [h9]; first | done | decide) (by rw [h9]; first | done | decide) (by rw [h9]; first | done | rfl) rfl ?_
                refine rs_aload_n ri_190_94 rfl rfl ?_
                refine rs_gf (v := .ref 59) ri_190_95 rfl (by decide) (ro_kf (kd_4 hL)) rfl (rf_4_7 hL) ?_
                refine rs_virt (As := []) (r := []) ri_190_98 rfl (by decide) rm_192.2.2.2 rm_192.2.2.1 rfl rfl rfl (by decide) (ro_kf (kd_59 hL)) (Nat.le_of_ble_eq_true rfl) (by decide) (by decide) (xs_192 (X := X) hL) ?_
                rintro _ _ ⟨e1, e2⟩
                rw [e1, e2]
                show ro_w X _ 190 _ 101 [(0, .ref 4), (1, .int v1)] [.int (xf_192 M)] M (0, 0)
                refine rs_iret ri_190_101 rm_190.2.1 (by decide) ?_
                exact ⟨by unfold xf_190; first | (simp only [if_neg h1, if_neg h2, if_neg h4, if_neg h6, if_neg h7, if_neg h8, if_pos h9]; done) | rfl, by rfl⟩
              · skip
                refine rs_swOut (t := 102) ri_190_1 (by have g0 := ro_ne_i (z := 0) h1 rfl; have g1 := ro_ne_i (z := 1) h2 rfl; have g2 := ro_ne_i (z := 2) h4 rfl; have g3 := ro_ne_i (z := 3) h6 rfl; have g4 := ro_ne_i (z := 4) h7 rfl; have g5 := ro_ne_i (z := 5) h8 rfl; have g6 := ro_ne_i (z := 6) h9 rfl; omega) rfl ?_
                refine rs_iconst (v := (-1 : Int32)) ri_190_102 rfl (by decide) ?_
                refine rs_iret ri_190_103 rm_190.2.1 (by decide) ?_
                exact ⟨by unfold xf_190; first | (simp only [if_neg h1, if_neg h2, if_neg h4, if_neg h6, if_neg h7, if_neg h8, if_neg h9]; done) | rfl, by rfl⟩
/-- RefusedOnceModel.mend(III)I -/
noncomputable def xf_202 (M : ro_Mm) (v1 : Int32) (v2 : Int32) (v3 : Int32) : Int32 := (if (xf_203 M v1 v2) then (if (xf_205 M v2 v3) then (xf_206 M v2 v1 v3) else (-1 : Int32)) else (-1 : Int32))
noncomputable def xm_202 (M : ro_Mm) (v1 : Int32) (v2 : Int32) (v3 : Int32) : ro_Mm := (if (xf_203 M v1 v2) then (if (xf_205 M v2 v3) then (xm_206 M v2 v1 v3) else M) else M)
def xp_202 (M : ro_Mm) (v1 : Int32) (v2 : Int32) (v3 : Int32) : Prop := (((xf_203 M v1 v2) → (((xf_205 M v2 v3) → (xp_206 M v2 v1 v3 ∧ True)) ∧ (¬ ((xf_205 M v2 v3)) → True))) ∧ (¬ ((xf_203 M v1 v2)) → True))
theorem xl_202 {M : ro_Mm} {v1 : Int32} {v2 : Int32} {v3 : Int32} (hL : ro_lay M) (hp : xp_202 M v1 v2 v3) : ro_lay (xm_202 M v1 v2 v3) := by
  unfold xp_202 at hp
  unfold xm_202
  by_cases hz : (xf_203 M v1 v2)
  · have hp := hp.1 hz
    rw [if_pos hz]
    by_cases hz : (xf_205 M v2 v3)
    · have hp := hp.1 hz
      rw [if_pos hz]
      obtain ⟨q2, hp⟩ := hp
      exact (xl_206 hL q2)
    · have hp := hp.2 hz
      rw [if_neg hz]
      exact hL
  · have hp := hp.2 hz
    rw [if_neg hz]
    exact hL
theorem xwI_202 {M : ro_Mm} {v1 : Int32} {v2 : Int32} {v3 : Int32} {c j : Nat} (n0 : c ≠ 163) (n1 : c ≠ 169) (n2 : c ≠ 170) (n3 : c ≠ 171) (n4 : c ≠ 172) (n5 : c ≠ 164) (n6 : c ≠ 165) (n7 : c ≠ 166) (n8 : c ≠ 167) (n9 : c ≠ 168) : (xm_202 M v1 v2 v3).2.1 c j = M.2.1 c j := by
  unfold xm_202
  by_cases hz : (xf_203 M v1 v2)
  · rw [if_pos hz]
    by_cases hz : (xf_205 M v2 v3)
    · rw [if_pos hz]
      first | done | exact (xwI_206 n0 n1 n2 n3 n4 n5 n6 n7 n8 n9)
    · rw [if_neg hz]
      first | done | exact rfl
  · rw [if_neg hz]
    first | done | exact rfl
theorem xwJ_202 {M : ro_Mm} {v1 : Int32} {v2 : Int32} {v3 : Int32} {c j : Nat} : (xm_202 M v1 v2 v3).2.2.1 c j = M.2.2.1 c j := by
  unfold xm_202
  by_cases hz : (xf_203 M v1 v2)
  · rw [if_pos hz]
    by_cases hz : (xf_205 M v2 v3)
    · rw [if_pos hz]
      first | done | exact (xwJ_206)
    · rw [if_neg hz]
      first | done | exact rfl
  · rw [if_neg hz]
    first | done | exact rfl
/-- a loop of RefusedOnceModel.gives(I)I -/
noncomputable def xg_230_7 : Nat → ro_Mm → Int32 → Int32 → Int32 → Bool × Int32 × Int32 × Int32 × ro_Mm
  | 0, M, v3, v2, v1 => (false, 0, v3, v2, M)
  | n + 1, M, v3, v2, v1 => (if (((61 : Int32) * v1) + (M.2.1 176 (v1.toNatClampNeg))) ≤ v3 then (false, 0, v3, v2, M) else (if (M.2.1 177 (v3.toNatClampNeg)) = v2 then (true, (xf_231 M v1 (M.2.1 177 (v3.toNatClampNeg)) (M.2.1 178 (v3.toNatClampNeg))), v3, v2, (xm_231 M v1 (M.2.1 177 (v3.toNatClampNeg)) (M.2.1 178 (v3.toNatClampNeg)))) else (if (xf_231 M v1 v2 (M.2.1 177 (v3.toNatClampNeg))) = (0 : Int32) then (xg_230_7 n (xm_231 M v1 v2 (M.2.1 177 (v3.toNatClampNeg))) (v3 + (1 : Int32)) (M.2.1 178 (v3.toNatClampNeg)) v1) else (true, (xf_231 (xm_231 M v1 v2 (M.2.1 177 (v3.toNatClampNeg))) v1 (M.2.1 177 (v3.toNatClampNeg)) (M.2.1 178 (v3.toNatClampNeg))), v3, v2, (xm_231 (xm_231 M v1 v2 (M.2.1 177 (v3.toNatClampNeg))) v1 (M.2.1 177 (v3.toNatClampNeg)) (M.2.1 178 (v3.toNatClampNeg)))))))
def xq_230_7 : Nat → ro_Mm → Int32 → Int32 → Int32 → Prop
  | 0, _, _, _, _ => False
  | n + 1, M, v3, v2, v1 => (vp_in v1 2 ∧ (((((61 : Int32) * v1) + (M.2.1 176 (v1.toNatClampNeg))) ≤ v3 → True) ∧ (¬ ((((61 : Int32) * v1) + (M.2.1 176 (v1.toNatClampNeg))) ≤ v3) → (vp_in v3 122 ∧ (((M.2.1 177 (v3.toNatClampNeg)) = v2 → (vp_in v3 122 ∧ (vp_in v3 122 ∧ (xp_231 M v1 (M.2.1 177 (v3.toNatClampNeg)) (M.2.1 178 (v3.toNatClampNeg)) ∧ True)))) ∧ (¬ ((M.2.1 177 (v3.toNatClampNeg)) = v2) → (vp_in v3 122 ∧ (xp_231 M v1 v2 (M.2.1 177 (v3.toNatClampNeg)) ∧ (((xf_231 M v1 v2 (M.2.1 177 (v3.toNatClampNeg))) = (0 : Int32) → (vp_in v3 122 ∧ (xq_230_7 n (xm_231 M v1 v2 (M.2.1 177 (v3.toNatClampNeg))) (v3 + (1 : Int32)) (M.2.1 178 (v3.toNatClampNeg)) v1))) ∧ (¬ ((xf_231 M v1 v2 (M.2.1 177 (v3.toNatClampNeg))) = (0 : Int32)) → (vp_in v3 122 ∧ (vp_in v3 122 ∧ (xp_231 (xm_231 M v1 v2 (M.2.1 177 (v3.toNatClampNeg))) v1 (M.2.1 177 (v3.toNatClampNeg)) (M.2.1 178 (v3.toNatClampNeg)) ∧ True)))))))))))))
theorem xl_230_7 : ∀ (n : Nat) {M : ro_Mm} {v3 : Int32} {v2 : Int32} {v1 : Int32} (hL : ro_lay M) (hp : xq_230_7 n M v3 v2 v1), ro_lay (xg_230_7 n M v3 v2 v1).2.2.2.2 := by
  intro n
  induction n with
  | zero => intro M v3 v2 v1 hL hp; exact False.elim hp
  | succ n ih =>
    intro M v3 v2 v1 hL hp
    rw [xq_230_7] at hp
    rw [xg_230_7]
    obtain ⟨q0, hp⟩ := hp
    by_cases hz : (((61 : Int32) * v1) + (M.2.1 176 (v1.toNatClampNeg))) ≤ v3
    · have hp := hp.1 hz
      rw [if_pos hz]
      exact hL
    · have hp := hp.2 hz
      rw [if_neg hz]
      obtain ⟨q2, hp⟩ := hp
      by_cases hz : (M.2.1 177 (v3.toNatClampNeg)) = v2
      · have hp := hp.1 hz
        rw [if_pos hz]
        obtain ⟨q4, hp⟩ := hp
        obtain ⟨q5, hp⟩ := hp
        obtain ⟨q6, hp⟩ := hp
        exact (xl_231 hL q6)
      · have hp := hp.2 hz
        rw [if_neg hz]
        obtain ⟨q7, hp⟩ := hp
        obtain ⟨q8, hp⟩ := hp
        by_cases hz : (xf_231 M v1 v2 (M.2.1 177 (v3.toNatClampNeg))) = (0 : Int32)
        · have hp := hp.1 hz
          rw [if_pos hz]
          obtain ⟨q10, hp⟩ := hp
          exact ih (xl_231 hL q8)  hp
        · have hp := hp.2 hz
          rw [if_neg hz]
          obtain ⟨q11, hp⟩ := hp
          obtain ⟨q12, hp⟩ := hp
          obtain ⟨q13, hp⟩ := hp
          exact (xl_231 (xl_231 hL q8) q13)
theorem xwI_230_7 : ∀ {n : Nat} {M : ro_Mm} {v3 : Int32} {v2 : Int32} {v1 : Int32} {c j : Nat} (n0 : c ≠ 180), (xg_230_7 n M v3 v2 v1).2.2.2.2.2.1 c j = M.2.1 c j := by
  intro n
  induction n with
  | zero => intro M v3 v2 v1 c j n0; rfl
  | succ n ih =>
    intro M v3 v2 v1 c j n0
    rw [xg_230_7]
    by_cases hz : (((61 : Int32) * v1) + (M.2.1 176 (v1.toNatClampNeg))) ≤ v3
    · rw [if_pos hz]
      first | done | exact rfl
    · rw [if_neg hz]
      by_cases hz : (M.2.1 177 (v3.toNatClampNeg)) = v2
      · rw [if_pos hz]
        first | done | exact (xwI_231 n0)
      · rw [if_neg hz]
        by_cases hz : (xf_231 M v1 v2 (M.2.1 177 (v3.toNatClampNeg))) = (0 : Int32)
        · rw [if_pos hz]
          first | done | exact (((ih n0)).trans (xwI_231 n0))
        · rw [if_neg hz]
          first | done | exact (((xwI_231 n0)).trans (xwI_231 n0))
theorem xwJ_230_7 : ∀ {n : Nat} {M : ro_Mm} {v3 : Int32} {v2 : Int32} {v1 : Int32} {c j : Nat}, (xg_230_7 n M v3 v2 v1).2.2.2.2.2.2.1 c j = M.2.2.1 c j := by
  intro n
  induction n with
  | zero => intro M v3 v2 v1 c j; rfl
  | succ n ih =>
    intro M v3 v2 v1 c j
    rw [xg_230_7]
    by_cases hz : (((61 : Int32) * v1) + (M.2.1 176 (v1.toNatClampNeg))) ≤ v3
    · rw [if_pos hz]
      first | done | exact rfl
    · rw [if_neg hz]
      by_cases hz : (M.2.1 177 (v3.toNatClampNeg)) = v2
      · rw [if_pos hz]
        first | done | exact (xwJ_231)
      · rw [if_neg hz]
        by_cases hz : (xf_231 M v1 v2 (M.2.1 177 (v3.toNatClampNeg))) = (0 : Int32)
        · rw [if_pos hz]
          first | done | exact (((ih)).trans (xwJ_231))
        · rw [if_neg hz]
          first | done | exact (((xwJ_231)).trans (xwJ_231))
/-- RefusedOnceModel.gives(I)I -/
noncomputable def xf_230 (M : ro_Mm) (v1 : Int32) : Int32 := (if (xg_230_7 lp_N M ((61 : Int32) * v1) (0 : Int32) v1).1 = true then (xg_230_7 lp_N M ((61 : Int32) * v1) (0 : Int32) v1).2.1 else (0 : Int32))
noncomputable def xm_230 (M : ro_Mm) (v1 : Int32) : ro_Mm := (xg_230_7 lp_N M ((61 : Int32) * v1) (0 : Int32) v1).2.2.2.2
def xp_230 (M : ro_Mm) (v1 : Int32) : Prop := (xq_230_7 lp_N M ((61 : Int32) * v1) (0 : Int32) v1 ∧ True)
theorem xl_230 {M : ro_Mm} {v1 : Int32} (hL : ro_lay M) (hp : xp_230 M v1) : ro_lay (xm_230 M v1) := by
  unfold xp_230 at hp
  unfold xm_230
  obtain ⟨q14, hp⟩ := hp
  by_cases hz : (xg_230_7 lp_N M ((61 : Int32) * v1) (0 : Int32) v1).1 = true
  · skip
    exact (xl_230_7 lp_N hL q14)
  · skip
    exact (xl_230_7 lp_N hL q14)
theorem xwI_230 {M : ro_Mm} {v1 : Int32} {c j : Nat} (n0 : c ≠ 180) : (xm_230 M v1).2.1 c j = M.2.1 c j := by
  unfold xm_230
  first | done | exact (xwI_230_7 n0)
theorem xwJ_230 {M : ro_Mm} {v1 : Int32} {c j : Nat} : (xm_230 M v1).2.2.1 c j = M.2.2.1 c j := by
  unfold xm_230
  first | done | exact (xwJ_230_7)
/-- RefusedOnceModel.test(III)J -/
noncomputable def xf_260 (M : ro_Mm) (v1 : Int32) (v2 : Int32) (v3 : Int32) : Int64 := (if (xf_204 M v1) then (if (xf_195 M v2 (0 : Int32) (20 : Int32)) then (if (xf_195 M v3 (0 : Int32) (1 : Int32)) then (xf_254 M (xf_262 M v1 (xf_261 M v1 v2) (1 : Int32)) (xf_263 M (M.2.1 165 (v1.toNatClampNeg)) (xf_261 M v1 v2)) v3) else (-9223372036854775808 : Int64)) else (-9223372036854775808 : Int64)) else (-9223372036854775808 : Int64))
def xp_260 (M : ro_Mm) (v1 : Int32) (v2 : Int32) (v3 : Int32) : Prop := (((xf_204 M v1) → (((xf_195 M v2 (0 : Int32) (20 : Int32)) → (((xf_195 M v3 (0 : Int32) (1 : Int32)) → (xp_261 M v1 v2 ∧ (xp_262 M v1 (xf_261 M v1 v2) (1 : Int32) ∧ (vp_in v1 6 ∧ (xp_263 M (M.2.1 165 (v1.toNatClampNeg)) (xf_261 M v1 v2) ∧ (xp_254 M (xf_262 M v1 (xf_261 M v1 v2) (1 : Int32)) (xf_263 M (M.2.1 165 (v1.toNatClampNeg)) (xf_261 M v1 v2)) v3 ∧ True)))))) ∧ (¬ ((xf_195 M v3 (0 : Int32) (1 : Int32))) → True))) ∧ (¬ ((xf_195 M v2 (0 : Int32) (20 : Int32))) → True))) ∧ (¬ ((xf_204 M v1)) → True))
/-- RefusedOnce.people(III)I -/
noncomputable def xf_19 (M : ro_Mm) (v1 : Int32) (v2 : Int32) (v3 : Int32) : Int32 := (if ro_bs v1 then (if (xf_13 M v3 (1 : Int32) (6 : Int32)) then (if (xf_21 M (ro_sc v1)) then (0 : Int32) else (if (xf_22 M (ro_sc v1)) then (if (0 : Int32) ≤ v2 then (xf_23 M (ro_sc v1) v2 v3) else (0 : Int32)) else (-12 : Int32))) else (-1 : Int32)) else (-1 : Int32))
noncomputable def xm_19 (M : ro_Mm) (v1 : Int32) (v2 : Int32) (v3 : Int32) : ro_Mm := (if ro_bs v1 then (if (xf_13 M v3 (1 : Int32) (6 : Int32)) then (if (xf_21 M (ro_sc v1)) then M else (if (xf_22 M (ro_sc v1)) then (if (0 : Int32) ≤ v2 then (xm_23 M (ro_sc v1) v2 v3) else M) else M)) else M) else M)
def xp_19 (M : ro_Mm) (v1 : Int32) (v2 : Int32) (v3 : Int32) : Prop := ((ro_bs v1 → (((xf_13 M v3 (1 : Int32) (6 : Int32)) → (((xf_21 M (ro_sc v1)) → True) ∧ (¬ ((xf_21 M (ro_sc v1))) → (((xf_22 M (ro_sc v1)) → (((0 : Int32) ≤ v2 → (xp_23 M (ro_sc v1) v2 v3 ∧ True)) ∧ (¬ ((0 : Int32) ≤ v2) → True))) ∧ (¬ ((xf_22 M (ro_sc v1))) → True))))) ∧ (¬ ((xf_13 M v3 (1 : Int32) (6 : Int32))) → True))) ∧ (¬ (ro_bs v1) → True))
theorem xl_19 {M : ro_Mm} {v1 : Int32} {v2 : Int32} {v3 : Int32} (hL : ro_lay M) (hp : xp_19 M v1 v2 v3) : ro_lay (xm_19 M v1 v2 v3) := by
  unfold xp_19 at hp
  unfold xm_19
  by_cases hz : ro_bs v1
  · have hp := hp.1 hz
    rw [if_pos hz]
    by_cases hz : (xf_13 M v3 (1 : Int32) (6 : Int32))
    · have hp := hp.1 hz
      rw [if_pos hz]
      by_cases hz : (xf_21 M (ro_sc v1))
      · have hp := hp.1 hz
        rw [if_pos hz]
        exact hL
      · have hp := hp.2 hz
        rw [if_neg hz]
        by_cases hz : (xf_22 M (ro_sc v1))
        · have hp := hp.1 hz
          rw [if_pos hz]
          by_cases hz : (0 : Int32) ≤ v2
          · have hp := hp.1 hz
            rw [if_pos hz]
            obtain ⟨q5, hp⟩ := hp
            exact (xl_23 hL (ro_sc_is v1) q5)
          · have hp := hp.2 hz
            rw [if_neg hz]
            exact hL
        · have hp := hp.2 hz
          rw [if_neg hz]
          exact hL
    · have hp := hp.2 hz
      rw [if_neg hz]
      exact hL
  · have hp := hp.2 hz
    rw [if_neg hz]
    exact hL
theorem xwI_19 {M : ro_Mm} {v1 : Int32} {v2 : Int32} {v3 : Int32} {c j : Nat} (n0 : c ≠ 7) (n1 : c ≠ 8) (n2 : c ≠ 9) (n3 : c ≠ 10) (n4 : c ≠ 5) : (xm_19 M v1 v2 v3).2.1 c j = M.2.1 c j := by
  unfold xm_19
  by_cases hz : ro_bs v1
  · rw [if_pos hz]
    by_cases hz : (xf_13 M v3 (1 : Int32) (6 : Int32))
    · rw [if_pos hz]
      by_cases hz : (xf_21 M (ro_sc v1))
      · rw [if_pos hz]
        first | done | exact rfl
      · rw [if_neg hz]
        by_cases hz : (xf_22 M (ro_sc v1))
        · rw [if_pos hz]
          by_cases hz : (0 : Int32) ≤ v2
          · rw [if_pos hz]
            first | done | exact (xwI_23 n0 n1 n2 n3 n4)
          · rw [if_neg hz]
            first | done | exact rfl
        · rw [if_neg hz]
          first | done | exact rfl
    · rw [if_neg hz]
      first | done | exact rfl
  · rw [if_neg hz]
    first | done | exact rfl
theorem xwJ_19 {M : ro_Mm} {v1 : Int32} {v2 : Int32} {v3 : Int32} {c j : Nat} : (xm_19 M v1 v2 v3).2.2.1 c j = M.2.2.1 c j := by
  unfold xm_19
  by_cases hz : ro_bs v1
  · rw [if_pos hz]
    by_cases hz : (xf_13 M v3 (1 : Int32) (6 : Int32))
    · rw [if_pos hz]
      by_cases hz : (xf_21 M (ro_sc v1))
      · rw [if_pos hz]
        first | done | exact rfl
      · rw [if_neg hz]
        by_cases hz : (xf_22 M (ro_sc v1))
        · rw [if_pos hz]
          by_cases hz : (0 : Int32) ≤ v2
          · rw [if_pos hz]
            first | done | exact (xwJ_23)
          · rw [if_neg hz]
            first | done | exact rfl
        · rw [if_neg hz]
          first | done | exact rfl
    · rw [if_neg hz]
      first | done | exact rfl
  · rw [if_neg hz]
    first | done | exact rfl
/-- RefusedOnce.odds(I)I -/
noncomputable def xf_55 (M : ro_Mm) (v1 : Int32) : Int32 := (if (xf_56 M v1) then (xf_58 M 6 (v1 / (10 : Int32)) (ro_irem v1 (10 : Int32))) else (-1 : Int32))
noncomputable def xm_55 (M : ro_Mm) (v1 : Int32) : ro_Mm := (if (xf_56 M v1) then (xm_58 M 6 (v1 / (10 : Int32)) (ro_irem v1 (10 : Int32))) else M)
def xp_55 (M : ro_Mm) (v1 : Int32) : Prop := (((xf_56 M v1) → (xp_58 M 6 (v1 / (10 : Int32)) (ro_irem v1 (10 : Int32)) ∧ True)) ∧ (¬ ((xf_56 M v1)) → True))
theorem xs_55 {X : ro_Sx} {M : ro_Mm} {v1 : Int32} (hL : ro_lay M) (hp : xp_55 M v1) : ro_cwp X 4 55 [.ref 4, .int v1] M (fun v M2 => v = some (.int (xf_55 M v1)) ∧ M2 = xm_55 M v1) := by
  refine rs_begin (lv0 := [(0, .ref 4), (1, .int v1)]) (by decide) rfl (by rw [rm_55.1]; exact Nat.le_of_ble_eq_true rfl) rfl ?_
  unfold xp_55 at hp
  refine rs_aload_n ri_55_0 rfl rfl ?_
  refine rs_iload_n ri_55_1 rfl rfl ?_
  refine rs_virt (As := [.int v1]) (r := []) ri_55_2 rfl (by decide) rm_56.2.2.2 rm_56.2.2.1 rfl rfl rfl (by decide) (ro_kf (kd_4 hL)) (Nat.le_of_ble_eq_true rfl) (by decide) (by decide) (xs_56 (X := X) hL) ?_
  rintro _ _ ⟨e1, e2⟩
  rw [e1, e2]
  show ro_w X _ 55 _ 5 [(0, .ref 4), (1, .int v1)] [.int (ro_b (xf_56 M v1))] M (0, 0)
  refine rs_ifeq_c (t := 37) ri_55_5 rfl rfl (fun h1 => ?_) (fun h1 => ?_)
  · have hp := hp.2 h1
    refine rs_iconst (v := (-1 : Int32)) ri_55_37 rfl (by decide) ?_
    refine rs_iret ri_55_38 rm_55.2.1 (by decide) ?_
    exact ⟨by unfold xf_55; first | (simp only [if_neg h1]; done) | rfl, by unfold xm_55; first | (simp only [if_neg h1]; done) | rfl⟩
  · have hp := hp.1 h1
    refine rs_aload_n ri_55_8 rfl rfl ?_
    refine rs_gf (v := .ref 16) ri_55_9 rfl (by decide) (ro_kf (kd_4 hL)) rfl (rf_4_1 hL) ?_
    refine rs_aload_n ri_55_12 rfl rfl ?_
    refine rs_gf (v := .ref 5) ri_55_13 rfl (by decide) (ro_kf (kd_4 hL)) rfl (rf_4_0 hL) ?_
    refine rs_aload_n ri_55_16 rfl rfl ?_
    refine rs_gf (v := .ref 5) ri_55_17 rfl (by decide) (ro_kf (kd_4 hL)) rfl (rf_4_0 hL) ?_
    refine rs_gf (v := .ref 6) ri_55_20 rfl (by decide) (ro_kf (kd_5 hL)) rfl (rf_5_0 hL) ?_
    refine rs_iload_n ri_55_23 rfl rfl ?_
    refine rs_bipush (v := (10 : Int32)) ri_55_24 rfl (by decide) ?_
    refine rs_idiv (r := (v1 / (10 : Int32))) ri_55_26 rfl (by decide) rfl ?_
    refine rs_iload_n ri_55_27 rfl rfl ?_
    refine rs_bipush (v := (10 : Int32)) ri_55_28 rfl (by decide) ?_
    refine rs_irem (r := (ro_irem v1 (10 : Int32))) ri_55_30 rfl (by decide) rfl ?_
    obtain ⟨q1, hp⟩ := hp
    refine rs_virt (As := [.ref 5, .ref 6, .int (v1 / (10 : Int32)), .int (ro_irem v1 (10 : Int32))]) (r := []) ri_55_31 rfl (by decide) rm_58.2.2.2 rm_58.2.2.1 rfl rfl rfl (by decide) (ro_kf (kd_16 hL)) (Nat.le_of_ble_eq_true rfl) (by decide) (by decide) (xs_58 (X := X) hL (by unfold ro_ip; decide) q1) ?_
    rintro _ _ ⟨e1, e2⟩
    rw [e1, e2]
    show ro_w X _ 55 _ 34 [(0, .ref 4), (1, .int v1)] [.int (xf_58 M 6 (v1 / (10 : Int32)) (ro_irem v1 (10 : Int32)))] (xm_58 M 6 (v1 / (10 : Int32)) (ro_irem v1 (10 : Int32))) (0, 0)
    refine rs_goto (t := 38) ri_55_34 rfl ?_
    refine rs_iret ri_55_38 rm_55.2.1 (by decide) ?_
    exact ⟨by unfold xf_55; first | (simp only [if_pos h1]; done) | rfl, by unfold xm_55; first | (simp only [if_pos h1]; done) | rfl⟩
theorem xl_55 {M : ro_Mm} {v1 : Int32} (hL : ro_lay M) (hp : xp_55 M v1) : ro_lay (xm_55 M v1) := by
  unfold xp_55 at hp
  unfold xm_55
  by_cases hz : (xf_56 M v1)
  · have hp := hp.1 hz
    rw [if_pos hz]
    obtain ⟨q1, hp⟩ := hp
    exact (xl_58 hL (by unfold ro_ip; decide) q1)
  · have hp := hp.2 hz
    rw [if_neg hz]
    exact hL
theorem xwI_55 {M : ro_Mm} {v1 : Int32} {c j : Nat} (n0 : c ≠ 21) (n1 : c ≠ 16) (n2 : c ≠ 20) : (xm_55 M v1).2.1 c j = M.2.1 c j := by
  unfold xm_55
  by_cases hz : (xf_56 M v1)
  · rw [if_pos hz]
    first | done | exact (xwI_58 n0 n1 n2)
  · rw [if_neg hz]
    first | done | exact rfl
theorem xwJ_55 {M : ro_Mm} {v1 : Int32} {c j : Nat} : (xm_55 M v1).2.2.1 c j = M.2.2.1 c j := by
  unfold xm_55
  by_cases hz : (xf_56 M v1)
  · rw [if_pos hz]
    first | done | exact (xwJ_58)
  · rw [if_neg hz]
    first | done | exact rfl
/-- a loop of RefusedOnce$Evening.play(I)V -/
noncomputable def xg_67_39 : Nat → ro_Mm → Int32 → Int32 → Int32 × ro_Mm
  | 0, M, v2, v1 => (v2, M)
  | n + 1, M, v2, v1 => (if v1 ≤ v2 then (v2, M) else (if (M.2.1 35 6) ≤ v2 then (v2, M) else (if (xf_72 M (xf_69 M v2) (xf_70 M v2) (xf_71 M v2)) then (xg_67_39 n (xm_72 M (xf_69 M v2) (xf_70 M v2) (xf_71 M v2)) (v2 + (1 : Int32)) v1) else (if ((xm_72 M (xf_69 M v2) (xf_70 M v2) (xf_71 M v2)).2.1 35 8) = (-2 : Int32) then (xg_67_39 n (ro_sI (xm_72 M (xf_69 M v2) (xf_70 M v2) (xf_71 M v2)) 35 8 v2) (v2 + (1 : Int32)) v1) else (xg_67_39 n (xm_72 M (xf_69 M v2) (xf_70 M v2) (xf_71 M v2)) (v2 + (1 : Int32)) v1)))))
def xq_67_39 : Nat → ro_Mm → Int32 → Int32 → Prop
  | 0, _, _, _ => False
  | n + 1, M, v2, v1 => ((v1 ≤ v2 → True) ∧ (¬ (v1 ≤ v2) → (((M.2.1 35 6) ≤ v2 → True) ∧ (¬ ((M.2.1 35 6) ≤ v2) → (xp_72 M (xf_69 M v2) (xf_70 M v2) (xf_71 M v2) ∧ (((xf_72 M (xf_69 M v2) (xf_70 M v2) (xf_71 M v2)) → (xq_67_39 n (xm_72 M (xf_69 M v2) (xf_70 M v2) (xf_71 M v2)) (v2 + (1 : Int32)) v1)) ∧ (¬ ((xf_72 M (xf_69 M v2) (xf_70 M v2) (xf_71 M v2))) → ((((xm_72 M (xf_69 M v2) (xf_70 M v2) (xf_71 M v2)).2.1 35 8) = (-2 : Int32) → (xq_67_39 n (ro_sI (xm_72 M (xf_69 M v2) (xf_70 M v2) (xf_71 M v2)) 35 8 v2) (v2 + (1 : Int32)) v1)) ∧ (¬ (((xm_72 M (xf_69 M v2) (xf_70 M v2) (xf_71 M v2)).2.1 35 8) = (-2 : Int32)) → (xq_67_39 n (xm_72 M (xf_69 M v2) (xf_70 M v2) (xf_71 M v2)) (v2 + (1 : Int32)) v1))))))))))
theorem xt_67_39 {X : ro_Sx} {post : ro_Po} : ∀ (n : Nat) {M : ro_Mm} {v2 : Int32} {v1 : Int32} (hL : ro_lay M) (hp : xq_67_39 n M v2 v1) (hk : ro_w X 4 67 post 94 [(2, .int (xg_67_39 n M v2 v1).1), (0, .ref 35), (1, .int v1)] [] (xg_67_39 n M v2 v1).2 (0, 0)), ro_w X 4 67 post 39 [(2, .int v2), (0, .ref 35), (1, .int v1)] [] M (0, 0) := by
  intro n
  induction n with
  | zero => intro M v2 v1 hL hp hk; exact False.elim hp
  | succ n ih =>
    intro M v2 v1 hL hp hk
    rw [xq_67_39] at hp
    refine rs_iload_n ri_67_39 rfl rfl ?_
    refine rs_iload_n ri_67_40 rfl rfl ?_
    refine rs_icmp_ge (t := 94) ri_67_41 rfl rfl (fun h2 => ?_) (fun h2 => ?_)
    · skip
      have e : xg_67_39 (n + 1) M v2 v1 = (v2, M) := by rw [xg_67_39]; first | (simp only [if_pos h2]; done) | rfl
      rw [e] at hk
      exact ro_w_lv (ro_sub_c rfl (ro_sub_c rfl (ro_sub_c rfl (ro_sub_n rfl)))) hk
    · have hp := hp.2 h2
      refine rs_iload_n ri_67_44 rfl rfl ?_
      refine rs_aload_n ri_67_45 rfl rfl ?_
      refine rs_gf (v := .int (M.2.1 35 6)) ri_67_46 rfl (by decide) (ro_kf (kd_35 hL)) rfl rfl ?_
      refine rs_icmp_ge (t := 94) ri_67_49 rfl rfl (fun h3 => ?_) (fun h3 => ?_)
      · skip
        have e : xg_67_39 (n + 1) M v2 v1 = (v2, M) := by rw [xg_67_39]; first | (simp only [if_neg h2, if_pos h3]; done) | rfl
        rw [e] at hk
        exact ro_w_lv (ro_sub_c rfl (ro_sub_c rfl (ro_sub_c rfl (ro_sub_n rfl)))) hk
      · have hp := hp.2 h3
        refine rs_aload_n ri_67_52 rfl rfl ?_
        refine rs_aload_n ri_67_53 rfl rfl ?_
        refine rs_iload_n ri_67_54 rfl rfl ?_
        refine rs_virt (As := [.int v2]) (r := [.ref 35]) ri_67_55 rfl (by decide) rm_69.2.2.2 rm_69.2.2.1 rfl rfl rfl (by decide) (ro_kf (kd_35 hL)) (Nat.le_of_ble_eq_true rfl) (by decide) (by decide) (xs_69 (X := X) hL) ?_
        rintro _ _ ⟨e1, e2⟩
        rw [e1, e2]
        show ro_w X _ 67 _ 58 [(2, .int v2), (0, .ref 35), (1, .int v1)] [.int (xf_69 M v2), .ref 35] M (0, 0)
        refine rs_aload_n ri_67_58 rfl rfl ?_
        refine rs_iload_n ri_67_59 rfl rfl ?_
        refine rs_virt (As := [.int v2]) (r := [.int (xf_69 M v2), .ref 35]) ri_67_60 rfl (by decide) rm_70.2.2.2 rm_70.2.2.1 rfl rfl rfl (by decide) (ro_kf (kd_35 hL)) (Nat.le_of_ble_eq_true rfl) (by decide) (by decide) (xs_70 (X := X) hL) ?_
        rintro _ _ ⟨e1, e2⟩
        rw [e1, e2]
        show ro_w X _ 67 _ 63 [(2, .int v2), (0, .ref 35), (1, .int v1)] [.int (xf_70 M v2), .int (xf_69 M v2), .ref 35] M (0, 0)
        refine rs_aload_n ri_67_63 rfl rfl ?_
        refine rs_iload_n ri_67_64 rfl rfl ?_
        refine rs_virt (As := [.int v2]) (r := [.int (xf_70 M v2), .int (xf_69 M v2), .ref 35]) ri_67_65 rfl (by decide) rm_71.2.2.2 rm_71.2.2.1 rfl rfl rfl (by decide) (ro_kf (kd_35 hL)) (Nat.le_of_ble_eq_true rfl) (by decide) (by decide) (xs_71 (X := X) hL) ?_
        rintro _ _ ⟨e1, e2⟩
        rw [e1, e2]
        show ro_w X _ 67 _ 68 [(2, .int v2), (0, .ref 35), (1, .int v1)] [.int (ro_b (xf_71 M v2)), .int (xf_70 M v2), .int (xf_69 M v2), .ref 35] M (0, 0)
        obtain ⟨q3, hp⟩ := hp
        refine rs_virt (As := [.int (xf_69 M v2), .int (xf_70 M v2), .int (ro_b (xf_71 M v2))]) (r := []) ri_67_68 rfl (by decide) rm_72.2.2.2 rm_72.2.2.1 rfl rfl rfl (by decide) (ro_kf (kd_35 hL)) (Nat.le_of_ble_eq_true rfl) (by decide) (by decide) (xs_72 (X := X) hL q3) ?_
        rintro _ _ ⟨e1, e2⟩
        rw [e1, e2]
        show ro_w X _ 67 _ 71 [(2, .int v2), (0, .ref 35), (1, .int v1)] [.int (ro_b (xf_72 M (xf_69 M v2) (xf_70 M v2) (xf_71 M v2)))] (xm_72 M (xf_69 M v2) (xf_70 M v2) (xf_71 M v2)) (0, 0)
        refine rs_ifne_c (t := 88) ri_67_71 rfl rfl (fun h5 => ?_) (fun h5 => ?_)
        · have hp := hp.1 h5
          refine rs_iinc (v := (v2 + (1 : Int32))) (lv2 := [(2, .int (v2 + (1 : Int32))), (0, .ref 35), (1, .int v1)]) ri_67_88 rfl rfl rfl rm_67.1 (by decide) rfl ?_
          refine rs_goto (t := 39) ri_67_91 rfl ?_
          have e : xg_67_39 (n + 1) M v2 v1 = xg_67_39 n (xm_72 M (xf_69 M v2) (xf_70 M v2) (xf_71 M v2)) (v2 + (1 : Int32)) v1 := by rw [xg_67_39]; first | (simp only [if_neg h2, if_neg h3, if_pos h5]; done) | rfl
          rw [e] at hk
          exact ro_w_lv (ro_sub_c rfl (ro_sub_c rfl (ro_sub_c rfl (ro_sub_n rfl)))) (ih (xl_72 hL q3)  hp hk)
        · have hp := hp.2 h5
          refine rs_aload_n ri_67_74 rfl rfl ?_
          refine rs_gf (v := .int ((xm_72 M (xf_69 M v2) (xf_70 M v2) (xf_71 M v2)).2.1 35 8)) ri_67_75 rfl (by decide) (ro_kf (kd_35 (xl_72 hL q3))) rfl rfl ?_
          refine rs_bipush (v := (-2 : Int32)) ri_67_78 rfl (by decide) ?_
          refine rs_icmp_ne (t := 88) ri_67_80 rfl rfl (fun h6 => ?_) (fun h6 => ?_)
          · have hp := hp.2 h6
            refine rs_iinc (v := (v2 + (1 : Int32))) (lv2 := [(2, .int (v2 + (1 : Int32))), (0, .ref 35), (1, .int v1)]) ri_67_88 rfl rfl rfl rm_67.1 (by decide) rfl ?_
            refine rs_goto (t := 39) ri_67_91 rfl ?_
            have e : xg_67_39 (n + 1) M v2 v1 = xg_67_39 n (xm_72 M (xf_69 M v2) (xf_70 M v2) (xf_71 M v2)) (v2 + (1 : Int32)) v1 := by rw [xg_67_39]; first | (simp only [if_neg h2, if_neg h3, if_neg h5, if_neg h6]; done) | rfl
            rw [e] at hk
            exact ro_w_lv (ro_sub_c rfl (ro_sub_c rfl (ro_sub_c rfl (ro_sub_n rfl)))) (ih (xl_72 hL q3)  hp hk)
          · have hp := hp.1 h6
            refine rs_aload_n ri_67_83 rfl rfl ?_
            refine rs_iload_n ri_67_84 rfl rfl ?_
            refine rs_pf (M2 := (ro_sI (xm_72 M (xf_69 M v2) (xf_70 M v2) (xf_71 M v2)) 35 8 v2)) ri_67_85 rfl (by decide) (ro_kf (kd_35 (xl_72 hL q3))) (fun h => absurd h (by decide)) (fun f h => h) ?_
            refine rs_iinc (v := (v2 + (1 : Int32))) (lv2 := [(2, .int (v2 + (1 : Int32))), (0, .ref 35), (1, .int v1)]) ri_67_88 rfl rfl rfl rm_67.1 (by decide) rfl ?_
            refine rs_goto (t := 39) ri_67_91 rfl ?_
            have e : xg_67_39 (n + 1) M v2 v1 = xg_67_39 n (ro_sI (xm_72 M (xf_69 M v2) (xf_70 M v2) (xf_71 M v2)) 35 8 v2) (v2 + (1 : Int32)) v1 := by rw [xg_67_39]; first | (simp only [if_neg h2, if_neg h3, if_neg h5, if_pos h6]; done) | rfl
            rw [e] at hk
            exact ro_w_lv (ro_sub_c rfl (ro_sub_c rfl (ro_sub_c rfl (ro_sub_n rfl)))) (ih (xl_72 hL q3)  hp hk)
theorem xl_67_39 : ∀ (n : Nat) {M : ro_Mm} {v2 : Int32} {v1 : Int32} (hL : ro_lay M) (hp : xq_67_39 n M v2 v1), ro_lay (xg_67_39 n M v2 v1).2 := by
  intro n
  induction n with
  | zero => intro M v2 v1 hL hp; exact False.elim hp
  | succ n ih =>
    intro M v2 v1 hL hp
    rw [xq_67_39] at hp
    rw [xg_67_39]
    by_cases hz : v1 ≤ v2
    · have hp := hp.1 hz
      rw [if_pos hz]
      exact hL
    · have hp := hp.2 hz
      rw [if_neg hz]
      by_cases hz : (M.2.1 35 6) ≤ v2
      · have hp := hp.1 hz
        rw [if_pos hz]
        exact hL
      · have hp := hp.2 hz
        rw [if_neg hz]
        obtain ⟨q3, hp⟩ := hp
        by_cases hz : (xf_72 M (xf_69 M v2) (xf_70 M v2) (xf_71 M v2))
        · have hp := hp.1 hz
          rw [if_pos hz]
          exact ih (xl_72 hL q3)  hp
        · have hp := hp.2 hz
          rw [if_neg hz]
          by_cases hz : ((xm_72 M (xf_69 M v2) (xf_70 M v2) (xf_71 M v2)).2.1 35 8) = (-2 : Int32)
          · have hp := hp.1 hz
            rw [if_pos hz]
            exact ih (xl_72 hL q3)  hp
          · have hp := hp.2 hz
            rw [if_neg hz]
            exact ih (xl_72 hL q3)  hp
theorem xwI_67_39 : ∀ {n : Nat} {M : ro_Mm} {v2 : Int32} {v1 : Int32} {c j : Nat} (n0 : c ≠ 21) (n1 : c ≠ 16) (n2 : c ≠ 20) (n3 : c ≠ 37) (n4 : c ≠ 38) (n5 : c ≠ 35), (xg_67_39 n M v2 v1).2.2.1 c j = M.2.1 c j := by
  intro n
  induction n with
  | zero => intro M v2 v1 c j n0 n1 n2 n3 n4 n5; rfl
  | succ n ih =>
    intro M v2 v1 c j n0 n1 n2 n3 n4 n5
    rw [xg_67_39]
    by_cases hz : v1 ≤ v2
    · rw [if_pos hz]
      first | done | exact rfl
    · rw [if_neg hz]
      by_cases hz : (M.2.1 35 6) ≤ v2
      · rw [if_pos hz]
        first | done | exact rfl
      · rw [if_neg hz]
        by_cases hz : (xf_72 M (xf_69 M v2) (xf_70 M v2) (xf_71 M v2))
        · rw [if_pos hz]
          first | done | exact (((ih n0 n1 n2 n3 n4 n5)).trans (xwI_72 n0 n1 n2 n3 n4 n5))
        · rw [if_neg hz]
          by_cases hz : ((xm_72 M (xf_69 M v2) (xf_70 M v2) (xf_71 M v2)).2.1 35 8) = (-2 : Int32)
          · rw [if_pos hz]
            first | done | exact ((((ih n0 n1 n2 n3 n4 n5)).trans (ro_sI_ne n5)).trans (xwI_72 n0 n1 n2 n3 n4 n5))
          · rw [if_neg hz]
            first | done | exact (((ih n0 n1 n2 n3 n4 n5)).trans (xwI_72 n0 n1 n2 n3 n4 n5))
theorem xwJ_67_39 : ∀ {n : Nat} {M : ro_Mm} {v2 : Int32} {v1 : Int32} {c j : Nat}, (xg_67_39 n M v2 v1).2.2.2.1 c j = M.2.2.1 c j := by
  intro n
  induction n with
  | zero => intro M v2 v1 c j; rfl
  | succ n ih =>
    intro M v2 v1 c j
    rw [xg_67_39]
    by_cases hz : v1 ≤ v2
    · rw [if_pos hz]
      first | done | exact rfl
    · rw [if_neg hz]
      by_cases hz : (M.2.1 35 6) ≤ v2
      · rw [if_pos hz]
        first | done | exact rfl
      · rw [if_neg hz]
        by_cases hz : (xf_72 M (xf_69 M v2) (xf_70 M v2) (xf_71 M v2))
        · rw [if_pos hz]
          first | done | exact (((ih)).trans (xwJ_72))
        · rw [if_neg hz]
          by_cases hz : ((xm_72 M (xf_69 M v2) (xf_70 M v2) (xf_71 M v2)).2.1 35 8) = (-2 : Int32)
          · rw [if_pos hz]
            first | done | exact ((((ih)).trans (congrFun (congrFun ro_sI_J _) _)).trans (xwJ_72))
          · rw [if_neg hz]
            first | done | exact (((ih)).trans (xwJ_72))
/-- RefusedOnce$Evening.play(I)V -/
noncomputable def xm_67 (M : ro_Mm) (v1 : Int32) : ro_Mm := (xg_67_39 lp_N (ro_sI (ro_sI (ro_sI (xm_68 M 36 6 (xf_18 M)) 35 7 (0 : Int32)) 35 8 (-2 : Int32)) 35 9 (0 : Int32)) (0 : Int32) v1).2
def xp_67 (M : ro_Mm) (v1 : Int32) : Prop := (xp_68 M 36 6 (xf_18 M) ∧ (xq_67_39 lp_N (ro_sI (ro_sI (ro_sI (xm_68 M 36 6 (xf_18 M)) 35 7 (0 : Int32)) 35 8 (-2 : Int32)) 35 9 (0 : Int32)) (0 : Int32) v1 ∧ True))
theorem xs_67 {X : ro_Sx} {M : ro_Mm} {v1 : Int32} (hL : ro_lay M) (hp : xp_67 M v1) : ro_cwp X 5 67 [.ref 35, .int v1] M (fun v M2 => v = none ∧ M2 = xm_67 M v1) := by
  refine rs_begin (lv0 := [(0, .ref 35), (1, .int v1)]) (by decide) rfl (by rw [rm_67.1]; exact Nat.le_of_ble_eq_true rfl) rfl ?_
  unfold xp_67 at hp
  refine rs_aload_n ri_67_0 rfl rfl ?_
  refine rs_gf (v := .ref 36) ri_67_1 rfl (by decide) (ro_kf (kd_35 hL)) rfl (rf_35_2 hL) ?_
  refine rs_aload_n ri_67_4 rfl rfl ?_
  refine rs_gf (v := .ref 5) ri_67_5 rfl (by decide) (ro_kf (kd_35 hL)) rfl (rf_35_0 hL) ?_
  refine rs_gf (v := .ref 6) ri_67_8 rfl (by decide) (ro_kf (kd_5 hL)) rfl (rf_5_0 hL) ?_
  refine rs_aload_n ri_67_11 rfl rfl ?_
  refine rs_gf (v := .ref 5) ri_67_12 rfl (by decide) (ro_kf (kd_35 hL)) rfl (rf_35_0 hL) ?_
  refine rs_virt (As := []) (r := [.ref 6, .ref 36]) ri_67_15 rfl (by decide) rm_18.2.2.2 rm_18.2.2.1 rfl rfl rfl (by decide) (ro_kf (kd_5 hL)) (Nat.le_of_ble_eq_true rfl) (by decide) (by decide) (xs_18 (X := X) hL) ?_
  rintro _ _ ⟨e1, e2⟩
  rw [e1, e2]
  show ro_w X _ 67 _ 18 [(0, .ref 35), (1, .int v1)] [.int (xf_18 M), .ref 6, .ref 36] M (0, 0)
  obtain ⟨q0, hp⟩ := hp
  refine rs_virt (As := [.ref 6, .int (xf_18 M)]) (r := []) ri_67_18 rfl (by decide) rm_68.2.2.2 rm_68.2.2.1 rfl rfl rfl (by decide) (ro_kf (kd_36 hL)) (Nat.le_of_ble_eq_true rfl) (by decide) (by decide) (xs_68 (X := X) hL (by unfold ro_ip; decide) (by unfold ro_ip; decide) q0) ?_
  rintro _ _ ⟨e1, e2⟩
  rw [e1, e2]
  show ro_w X _ 67 _ 21 [(0, .ref 35), (1, .int v1)] [] (xm_68 M 36 6 (xf_18 M)) (0, 0)
  refine rs_aload_n ri_67_21 rfl rfl ?_
  refine rs_iconst (v := (0 : Int32)) ri_67_22 rfl (by decide) ?_
  refine rs_pf (M2 := (ro_sI (xm_68 M 36 6 (xf_18 M)) 35 7 (0 : Int32))) ri_67_23 rfl (by decide) (ro_kf (kd_35 (xl_68 hL (by unfold ro_ip; decide) (by unfold ro_ip; decide) q0))) (fun h => absurd h (by decide)) (fun f h => h) ?_
  refine rs_aload_n ri_67_26 rfl rfl ?_
  refine rs_bipush (v := (-2 : Int32)) ri_67_27 rfl (by decide) ?_
  refine rs_pf (M2 := (ro_sI (ro_sI (xm_68 M 36 6 (xf_18 M)) 35 7 (0 : Int32)) 35 8 (-2 : Int32))) ri_67_29 rfl (by decide) (ro_kf (kd_35 (xl_68 hL (by unfold ro_ip; decide) (by unfold ro_ip; decide) q0))) (fun h => absurd h (by decide)) (fun f h => h) ?_
  refine rs_aload_n ri_67_32 rfl rfl ?_
  refine rs_iconst (v := (0 : Int32)) ri_67_33 rfl (by decide) ?_
  refine rs_pf (M2 := (ro_sI (ro_sI (ro_sI (xm_68 M 36 6 (xf_18 M)) 35 7 (0 : Int32)) 35 8 (-2 : Int32)) 35 9 (0 : Int32))) ri_67_34 rfl (by decide) (ro_kf (kd_35 (xl_68 hL (by unfold ro_ip; decide) (by unfold ro_ip; decide) q0))) (fun h => absurd h (by decide)) (fun f h => h) ?_
  refine rs_iconst (v := (0 : Int32)) ri_67_37 rfl (by decide) ?_
  refine rs_istore_n (lv2 := [(2, .int (0 : Int32)), (0, .ref 35), (1, .int v1)]) ri_67_38 rfl rm_67.1 (by decide) rfl ?_
  obtain ⟨q6, hp⟩ := hp
  refine xt_67_39 lp_N (xl_68 hL (by unfold ro_ip; decide) (by unfold ro_ip; decide) q0) q6 ?_
  refine rs_ret ri_67_94 rm_67.2.1 (by decide) ?_
  exact ⟨by rfl, by rfl⟩
theorem xl_67 {M : ro_Mm} {v1 : Int32} (hL : ro_lay M) (hp : xp_67 M v1) : ro_lay (xm_67 M v1) := by
  unfold xp_67 at hp
  unfold xm_67
  obtain ⟨q0, hp⟩ := hp
  obtain ⟨q6, hp⟩ := hp
  exact (xl_67_39 lp_N (xl_68 hL (by unfold ro_ip; decide) (by unfold ro_ip; decide) q0) q6)
theorem xwI_67 {M : ro_Mm} {v1 : Int32} {c j : Nat} (n0 : c ≠ 37) (n1 : c ≠ 38) (n2 : c ≠ 35) (n3 : c ≠ 21) (n4 : c ≠ 16) (n5 : c ≠ 20) : (xm_67 M v1).2.1 c j = M.2.1 c j := by
  unfold xm_67
  first | done | exact ((((((xwI_67_39 n3 n4 n5 n0 n1 n2)).trans (ro_sI_ne n2)).trans (ro_sI_ne n2)).trans (ro_sI_ne n2)).trans (xwI_68 n0 n1))
theorem xwJ_67 {M : ro_Mm} {v1 : Int32} {c j : Nat} : (xm_67 M v1).2.2.1 c j = M.2.2.1 c j := by
  unfold xm_67
  first | done | exact ((((((xwJ_67_39)).trans (congrFun (congrFun ro_sI_J _) _)).trans (congrFun (congrFun ro_sI_J _) _)).trans (congrFun (congrFun ro_sI_J _) _)).trans (xwJ_68))
/-- RefusedOnce.evening(III)I -/
noncomputable def xf_79 (M : ro_Mm) (v1 : Int32) (v2 : Int32) (v3 : Int32) : Int32 := (if ro_bs v1 then (if (xf_13 M v2 (0 : Int32) (20 : Int32)) then (if (xf_13 M v3 (0 : Int32) (2 : Int32)) then (if (xf_22 M (ro_sc v1)) then (if v3 = (0 : Int32) then (xf_80 (xm_67 (xm_66 M (ro_sc v1)) v2)) else (if v3 = (1 : Int32) then (xf_81 (xm_67 (xm_66 M (ro_sc v1)) v2)) else (xf_82 (xm_67 (xm_66 M (ro_sc v1)) v2)))) else (xf_65 M (ro_sc v1))) else (-1 : Int32)) else (-1 : Int32)) else (-1 : Int32))
noncomputable def xm_79 (M : ro_Mm) (v1 : Int32) (v2 : Int32) (v3 : Int32) : ro_Mm := (if ro_bs v1 then (if (xf_13 M v2 (0 : Int32) (20 : Int32)) then (if (xf_13 M v3 (0 : Int32) (2 : Int32)) then (if (xf_22 M (ro_sc v1)) then (xm_67 (xm_66 M (ro_sc v1)) v2) else M) else M) else M) else M)
def xp_79 (M : ro_Mm) (v1 : Int32) (v2 : Int32) (v3 : Int32) : Prop := ((ro_bs v1 → (((xf_13 M v2 (0 : Int32) (20 : Int32)) → (((xf_13 M v3 (0 : Int32) (2 : Int32)) → (((xf_22 M (ro_sc v1)) → (xp_66 M (ro_sc v1) ∧ (xp_67 (xm_66 M (ro_sc v1)) v2 ∧ True))) ∧ (¬ ((xf_22 M (ro_sc v1))) → True))) ∧ (¬ ((xf_13 M v3 (0 : Int32) (2 : Int32))) → True))) ∧ (¬ ((xf_13 M v2 (0 : Int32) (20 : Int32))) → True))) ∧ (¬ (ro_bs v1) → True))
theorem xs_79 {X : ro_Sx} {M : ro_Mm} {v1 : Int32} {v2 : Int32} {v3 : Int32} (hL : ro_lay M) (hp : xp_79 M v1 v2 v3) : ro_cwp X 6 79 [.ref 4, .int v1, .int v2, .int v3] M (fun v M2 => v = some (.int (xf_79 M v1 v2 v3)) ∧ M2 = xm_79 M v1 v2 v3) := by
  refine rs_begin (lv0 := [(0, .ref 4), (1, .int v1), (2, .int v2), (3, .int v3)]) (by decide) rfl (by rw [rm_79.1]; exact Nat.le_of_ble_eq_true rfl) rfl ?_
  unfold xp_79 at hp
  refine rs_aload_n ri_79_0 rfl rfl ?_
  refine rs_iload_n ri_79_1 rfl rfl ?_
  by_cases h1 : ro_bs v1 = true
  · have hp := hp.1 h1
    refine rs_virt (As := [.int v1]) (r := []) ri_79_2 rfl (by decide) rm_20.2.2.2 rm_20.2.2.1 rfl rfl rfl (by decide) (ro_kf (kd_4 hL)) (Nat.le_of_ble_eq_true rfl) (by decide) (by decide) (xs_20_t hL h1) ?_
    rintro _ _ ⟨e1, e2⟩
    rw [e1, e2]
    show ro_w X _ 79 _ 5 [(0, .ref 4), (1, .int v1), (2, .int v2), (3, .int v3)] [.ref (ro_sc v1)] M (0, 0)
    refine rs_astore (lv2 := [(4, .ref (ro_sc v1)), (0, .ref 4), (1, .int v1), (2, .int v2), (3, .int v3)]) ri_79_5 rfl rm_79.1 (by decide) rfl ?_
    refine rs_aload ri_79_7 rfl rfl ?_
    refine rs_ifnull (t := 31) ri_79_9 rfl rfl ?_
    refine rs_iload_n ri_79_12 rfl rfl ?_
    refine rs_iconst (v := (0 : Int32)) ri_79_13 rfl (by decide) ?_
    refine rs_bipush (v := (20 : Int32)) ri_79_14 rfl (by decide) ?_
    refine rs_stat (As := [.int v2, .int (0 : Int32), .int (20 : Int32)]) (r := []) ri_79_16 rfl rm_13.2.2.2 rfl rfl rfl (Nat.le_of_ble_eq_true rfl) (by decide) (by decide) (xs_13 (X := X) hL) ?_
    rintro _ _ ⟨e1, e2⟩
    rw [e1, e2]
    show ro_w X _ 79 _ 19 [(4, .ref (ro_sc v1)), (0, .ref 4), (1, .int v1), (2, .int v2), (3, .int v3)] [.int (ro_b (xf_13 M v2 (0 : Int32) (20 : Int32)))] M (0, 0)
    refine rs_ifeq_c (t := 31) ri_79_19 rfl rfl (fun h2 => ?_) (fun h2 => ?_)
    · have hp := hp.2 h2
      refine rs_iconst (v := (-1 : Int32)) ri_79_31 rfl (by decide) ?_
      refine rs_iret ri_79_32 rm_79.2.1 (by decide) ?_
      exact ⟨by unfold xf_79; first | (simp only [if_pos h1, if_neg h2]; done) | rfl, by unfold xm_79; first | (simp only [if_pos h1, if_neg h2]; done) | rfl⟩
    · have hp := hp.1 h2
      refine rs_iload_n ri_79_22 rfl rfl ?_
      refine rs_iconst (v := (0 : Int32)) ri_79_23 rfl (by decide) ?_
      refine rs_iconst (v := (2 : Int32)) ri_79_24 rfl (by decide) ?_
      refine rs_stat (As := [.int v3, .int (0 : Int32), .int (2 : Int32)]) (r := []) ri_79_25 rfl rm_13.2.2.2 rfl rfl rfl (Nat.le_of_ble_eq_true rfl) (by decide) (by decide) (xs_13 (X := X) hL) ?_
      rintro _ _ ⟨e1, e2⟩
      rw [e1, e2]
      show ro_w X _ 79 _ 28 [(4, .ref (ro_sc v1)), (0, .ref 4), (1, .int v1), (2, .int v2), (3, .int v3)] [.int (ro_b (xf_13 M v3 (0 : Int32) (2 : Int32)))] M (0, 0)
      refine rs_ifne_c (t := 33) ri_79_28 rfl rfl (fun h3 => ?_) (fun h3 => ?_)
      · have hp := hp.1 h3
        refine rs_aload ri_79_33 rfl rfl ?_
        refine rs_virt (As := []) (r := []) ri_79_35 rfl (by decide) rm_22.2.2.2 rm_22.2.2.1 rfl rfl rfl (ro_is4 (ro_sc_is v1)) (ro_kf (is_kd hL (ro_sc_is v1))) (Nat.le_of_ble_eq_true rfl) (by decide) (by decide) (xs_22 (X := X) hL (ro_sc_is v1)) ?_
        rintro _ _ ⟨e1, e2⟩
        rw [e1, e2]
        show ro_w X _ 79 _ 38 [(4, .ref (ro_sc v1)), (0, .ref 4), (1, .int v1), (2, .int v2), (3, .int v3)] [.int (ro_b (xf_22 M (ro_sc v1)))] M (0, 0)
        refine rs_ifne_c (t := 47) ri_79_38 rfl rfl (fun h4 => ?_) (fun h4 => ?_)
        · have hp := hp.1 h4
          refine rs_aload_n ri_79_47 rfl rfl ?_
          refine rs_gf (v := .ref 35) ri_79_48 rfl (by decide) (ro_kf (kd_4 hL)) rfl (rf_4_3 hL) ?_
          refine rs_aload ri_79_51 rfl rfl ?_
          obtain ⟨q4, hp⟩ := hp
          refine rs_virt (As := [.ref (ro_sc v1)]) (r := []) ri_79_53 rfl (by decide) rm_66.2.2.2 rm_66.2.2.1 rfl rfl rfl (by decide) (ro_kf (kd_35 hL)) (Nat.le_of_ble_eq_true rfl) (by decide) (by decide) (xs_66 (X := X) hL (ro_sc_is v1) q4) ?_
          rintro _ _ ⟨e1, e2⟩
          rw [e1, e2]
          show ro_w X _ 79 _ 56 [(4, .ref (ro_sc v1)), (0, .ref 4), (1, .int v1), (2, .int v2), (3, .int v3)] [] (xm_66 M (ro_sc v1)) (0, 0)
          refine rs_aload_n ri_79_56 rfl rfl ?_
          refine rs_gf (v := .ref 35) ri_79_57 rfl (by decide) (ro_kf (kd_4 (xl_66 hL (ro_sc_is v1) q4))) rfl (rf_4_3 (xl_66 hL (ro_sc_is v1) q4)) ?_
          refine rs_iload_n ri_79_60 rfl rfl ?_
          obtain ⟨q5, hp⟩ := hp
          refine rs_virt (As := [.int v2]) (r := []) ri_79_61 rfl (by decide) rm_67.2.2.2 rm_67.2.2.1 rfl rfl rfl (by decide) (ro_kf (kd_35 (xl_66 hL (ro_sc_is v1) q4))) (Nat.le_of_ble_eq_true rfl) (by decide) (by decide) (xs_67 (X := X) (xl_66 hL (ro_sc_is v1) q4) q5) ?_
          rintro _ _ ⟨e1, e2⟩
          rw [e1, e2]
          show ro_w X _ 79 _ 64 [(4, .ref (ro_sc v1)), (0, .ref 4), (1, .int v1), (2, .int v2), (3, .int v3)] [] (xm_67 (xm_66 M (ro_sc v1)) v2) (0, 0)
          refine rs_iload_n ri_79_64 rfl rfl ?_
          refine rs_if_ne (t := 76) ri_79_65 rfl rfl (fun h7 => ?_) (fun h7 => ?_)
          · skip
            refine rs_iload_n ri_79_76 rfl rfl ?_
            refine rs_iconst (v := (1 : Int32)) ri_79_77 rfl (by decide) ?_
            refine rs_icmp_ne (t := 91) ri_79_78 rfl rfl (fun h8 => ?_) (fun h8 => ?_)
            · skip
              refine rs_aload_n ri_79_91 rfl rfl ?_
              refine rs_gf (v := .ref 35) ri_79_92 rfl (by decide) (ro_kf (kd_4 (xl_67 (xl_66 hL (ro_sc_is v1) q4) q5))) rfl (rf_4_3 (xl_67 (xl_66 hL (ro_sc_is v1) q4) q5)) ?_
              refine rs_virt (As := []) (r := []) ri_79_95 rfl (by decide) rm_82.2.2.2 rm_82.2.2.1 rfl rfl rfl (by decide) (ro_kf (kd_35 (xl_67 (xl_66 hL (ro_sc_is v1) q4) q5))) (Nat.le_of_ble_eq_true rfl) (by decide) (by decide) (xs_82 (X := X) (xl_67 (xl_66 hL (ro_sc_is v1) q4) q5)) ?_
              rintro _ _ ⟨e1, e2⟩
              rw [e1, e2]
              show ro_w X _ 79 _ 98 [(4, .ref (ro_sc v1)), (0, .ref 4), (1, .int v1), (2, .int v2), (3, .int v3)] [.int (xf_82 (xm_67 (xm_66 M (ro_sc v1)) v2))] (xm_67 (xm_66 M (ro_sc v1)) v2) (0, 0)
              refine rs_iret ri_79_98 rm_79.2.1 (by decide) ?_
              exact ⟨by unfold xf_79; first | (simp only [if_pos h1, if_pos h2, if_pos h3, if_pos h4, if_neg h7, if_neg h8]; done) | rfl, by unfold xm_79; first | (simp only [if_pos h1, if_pos h2, if_pos h3, if_pos h4, if_neg h7, if_neg h8]; done) | rfl⟩
            · skip
              refine rs_aload_n ri_79_81 rfl rfl ?_
              refine rs_gf (v := .ref 35) ri_79_82 rfl (by decide) (ro_kf (kd_4 (xl_67 (xl_66 hL (ro_sc_is v1) q4) q5))) rfl (rf_4_3 (xl_67 (xl_66 hL (ro_sc_is v1) q4) q5)) ?_
              refine rs_virt (As := []) (r := []) ri_79_85 rfl (by decide) rm_81.2.2.2 rm_81.2.2.1 rfl rfl rfl (by decide) (ro_kf (kd_35 (xl_67 (xl_66 hL (ro_sc_is v1) q4) q5))) (Nat.le_of_ble_eq_true rfl) (by decide) (by decide) (xs_81 (X := X) (xl_67 (xl_66 hL (ro_sc_is v1) q4) q5)) ?_
              rintro _ _ ⟨e1, e2⟩
              rw [e1, e2]
              show ro_w X _ 79 _ 88 [(4, .ref (ro_sc v1)), (0, .ref 4), (1, .int v1), (2, .int v2), (3, .int v3)] [.int (xf_81 (xm_67 (xm_66 M (ro_sc v1)) v2))] (xm_67 (xm_66 M (ro_sc v1)) v2) (0, 0)
              refine rs_goto (t := 98) ri_79_88 rfl ?_
              refine rs_iret ri_79_98 rm_79.2.1 (by decide) ?_
              exact ⟨by unfold xf_79; first | (simp only [if_pos h1, if_pos h2, if_pos h3, if_pos h4, if_neg h7, if_pos h8]; done) | rfl, by unfold xm_79; first | (simp only [if_pos h1, if_pos h2, if_pos h3, if_pos h4, if_neg h7, if_pos h8]; done) | rfl⟩
          · skip
            refine rs_aload_n ri_79_68 rfl rfl ?_
            refine rs_gf (v := .ref 35) ri_79_69 rfl (by decide) (ro_kf (kd_4 (xl_67 (xl_66 hL (ro_sc_is v1) q4) q5))) rfl (rf_4_3 (xl_67 (xl_66 hL (ro_sc_is v1) q4) q5)) ?_
            refine rs_virt (As := []) (r := []) ri_79_72 rfl (by decide) rm_80.2.2.2 rm_80.2.2.1 rfl rfl rfl (by decide) (ro_kf (kd_35 (xl_67 (xl_66 hL (ro_sc_is v1) q4) q5))) (Nat.le_of_ble_eq_true rfl) (by decide) (by decide) (xs_80 (X := X) (xl_67 (xl_66 hL (ro_sc_is v1) q4) q5)) ?_
            rintro _ _ ⟨e1, e2⟩
            rw [e1, e2]
            show ro_w X _ 79 _ 75 [(4, .ref (ro_sc v1)), (0, .ref 4), (1, .int v1), (2, .int v2), (3, .int v3)] [.int (xf_80 (xm_67 (xm_66 M (ro_sc v1)) v2))] (xm_67 (xm_66 M (ro_sc v1)) v2) (0, 0)
            refine rs_iret ri_79_75 rm_79.2.1 (by decide) ?_
            exact ⟨by unfold xf_79; first | (simp only [if_pos h1, if_pos h2, if_pos h3, if_pos h4, if_pos h7]; done) | rfl, by unfold xm_79; first | (simp only [if_pos h1, if_pos h2, if_pos h3, if_pos h4, if_pos h7]; done) | rfl⟩
        · have hp := hp.2 h4
          refine rs_aload ri_79_41 rfl rfl ?_
          refine rs_virt (As := []) (r := []) ri_79_43 rfl (by decide) rm_65.2.2.2 rm_65.2.2.1 rfl rfl rfl (ro_is4 (ro_sc_is v1)) (ro_kf (is_kd hL (ro_sc_is v1))) (Nat.le_of_ble_eq_true rfl) (by decide) (by decide) (xs_65 (X := X) hL (ro_sc_is v1)) ?_
          rintro _ _ ⟨e1, e2⟩
          rw [e1, e2]
          show ro_w X _ 79 _ 46 [(4, .ref (ro_sc v1)), (0, .ref 4), (1, .int v1), (2, .int v2), (3, .int v3)] [.int (xf_65 M (ro_sc v1))] M (0, 0)
          refine rs_iret ri_79_46 rm_79.2.1 (by decide) ?_
          exact ⟨by unfold xf_79; first | (simp only [if_pos h1, if_pos h2, if_pos h3, if_neg h4]; done) | rfl, by unfold xm_79; first | (simp only [if_pos h1, if_pos h2, if_pos h3, if_neg h4]; done) | rfl⟩
      · have hp := hp.2 h3
        refine rs_iconst (v := (-1 : Int32)) ri_79_31 rfl (by decide) ?_
        refine rs_iret ri_79_32 rm_79.2.1 (by decide) ?_
        exact ⟨by unfold xf_79; first | (simp only [if_pos h1, if_pos h2, if_neg h3]; done) | rfl, by unfold xm_79; first | (simp only [if_pos h1, if_pos h2, if_neg h3]; done) | rfl⟩
  · have hp := hp.2 h1
    refine rs_virt (As := [.int v1]) (r := []) ri_79_2 rfl (by decide) rm_20.2.2.2 rm_20.2.2.1 rfl rfl rfl (by decide) (ro_kf (kd_4 hL)) (Nat.le_of_ble_eq_true rfl) (by decide) (by decide) (xs_20_f hL h1) ?_
    rintro _ _ ⟨e1, e2⟩
    rw [e1, e2]
    show ro_w X _ 79 _ 5 [(0, .ref 4), (1, .int v1), (2, .int v2), (3, .int v3)] [.null] M (0, 0)
    refine rs_astoreN (lv2 := [(4, .null), (0, .ref 4), (1, .int v1), (2, .int v2), (3, .int v3)]) ri_79_5 rfl rm_79.1 (by decide) rfl ?_
    refine rs_aloadN ri_79_7 rfl rfl ?_
    refine rs_ifnullN (t := 31) ri_79_9 rfl ?_
    refine rs_iconst (v := (-1 : Int32)) ri_79_31 rfl (by decide) ?_
    refine rs_iret ri_79_32 rm_79.2.1 (by decide) ?_
    exact ⟨by unfold xf_79; first | (simp only [if_neg h1]; done) | rfl, by unfold xm_79; first | (simp only [if_neg h1]; done) | rfl⟩
theorem xl_79 {M : ro_Mm} {v1 : Int32} {v2 : Int32} {v3 : Int32} (hL : ro_lay M) (hp : xp_79 M v1 v2 v3) : ro_lay (xm_79 M v1 v2 v3) := by
  unfold xp_79 at hp
  unfold xm_79
  by_cases hz : ro_bs v1
  · have hp := hp.1 hz
    rw [if_pos hz]
    by_cases hz : (xf_13 M v2 (0 : Int32) (20 : Int32))
    · have hp := hp.1 hz
      rw [if_pos hz]
      by_cases hz : (xf_13 M v3 (0 : Int32) (2 : Int32))
      · have hp := hp.1 hz
        rw [if_pos hz]
        by_cases hz : (xf_22 M (ro_sc v1))
        · have hp := hp.1 hz
          rw [if_pos hz]
          obtain ⟨q4, hp⟩ := hp
          obtain ⟨q5, hp⟩ := hp
          by_cases hz : v3 = (0 : Int32)
          · skip
            exact (xl_67 (xl_66 hL (ro_sc_is v1) q4) q5)
          · skip
            by_cases hz : v3 = (1 : Int32)
            · skip
              exact (xl_67 (xl_66 hL (ro_sc_is v1) q4) q5)
            · skip
              exact (xl_67 (xl_66 hL (ro_sc_is v1) q4) q5)
        · have hp := hp.2 hz
          rw [if_neg hz]
          exact hL
      · have hp := hp.2 hz
        rw [if_neg hz]
        exact hL
    · have hp := hp.2 hz
      rw [if_neg hz]
      exact hL
  · have hp := hp.2 hz
    rw [if_neg hz]
    exact hL
theorem xwI_79 {M : ro_Mm} {v1 : Int32} {v2 : Int32} {v3 : Int32} {c j : Nat} (n0 : c ≠ 35) (n1 : c ≠ 39) (n2 : c ≠ 40) (n3 : c ≠ 41) (n4 : c ≠ 37) (n5 : c ≠ 38) (n6 : c ≠ 21) (n7 : c ≠ 16) (n8 : c ≠ 20) : (xm_79 M v1 v2 v3).2.1 c j = M.2.1 c j := by
  unfold xm_79
  by_cases hz : ro_bs v1
  · rw [if_pos hz]
    by_cases hz : (xf_13 M v2 (0 : Int32) (20 : Int32))
    · rw [if_pos hz]
      by_cases hz : (xf_13 M v3 (0 : Int32) (2 : Int32))
      · rw [if_pos hz]
        by_cases hz : (xf_22 M (ro_sc v1))
        · rw [if_pos hz]
          first | done | exact (((xwI_67 n4 n5 n0 n6 n7 n8)).trans (xwI_66 n0 n1 n2 n3))
        · rw [if_neg hz]
          first | done | exact rfl
      · rw [if_neg hz]
        first | done | exact rfl
    · rw [if_neg hz]
      first | done | exact rfl
  · rw [if_neg hz]
    first | done | exact rfl
theorem xwJ_79 {M : ro_Mm} {v1 : Int32} {v2 : Int32} {v3 : Int32} {c j : Nat} : (xm_79 M v1 v2 v3).2.2.1 c j = M.2.2.1 c j := by
  unfold xm_79
  by_cases hz : ro_bs v1
  · rw [if_pos hz]
    by_cases hz : (xf_13 M v2 (0 : Int32) (20 : Int32))
    · rw [if_pos hz]
      by_cases hz : (xf_13 M v3 (0 : Int32) (2 : Int32))
      · rw [if_pos hz]
        by_cases hz : (xf_22 M (ro_sc v1))
        · rw [if_pos hz]
          first | done | exact (((xwJ_67)).trans (xwJ_66))
        · rw [if_neg hz]
          first | done | exact rfl
      · rw [if_neg hz]
        first | done | exact rfl
    · rw [if_neg hz]
      first | done | exact rfl
  · rw [if_neg hz]
    first | done | exact rfl
/-- a loop of RefusedOnce$Chances.weighPayings(III)V -/
noncomputable def xg_97_24 : Nat → ro_Mm → Int32 → Int32 → Int32 → Int32 → Int32 × ro_Mm
  | 0, M, v4, v1, v2, v3 => (v4, M)
  | n + 1, M, v4, v1, v2, v3 => (if (9 : Int32) ≤ v4 then (v4, M) else (if v4 = (0 : Int32) then (xg_97_24 n (ro_sJ (ro_sJ M 52 (v4.toNatClampNeg) (0 : Int64)) 53 (v4.toNatClampNeg) (1 : Int64)) (v4 + (1 : Int32)) v1 v2 v3) else (xg_97_24 n (ro_sJ (ro_sJ M 52 (v4.toNatClampNeg) (0 : Int64)) 53 (v4.toNatClampNeg) (0 : Int64)) (v4 + (1 : Int32)) v1 v2 v3)))
def xq_97_24 : Nat → ro_Mm → Int32 → Int32 → Int32 → Int32 → Prop
  | 0, _, _, _, _, _ => False
  | n + 1, M, v4, v1, v2, v3 => (((9 : Int32) ≤ v4 → True) ∧ (¬ ((9 : Int32) ≤ v4) → (vp_in v4 9 ∧ ((v4 = (0 : Int32) → (vp_in v4 9 ∧ (xq_97_24 n (ro_sJ (ro_sJ M 52 (v4.toNatClampNeg) (0 : Int64)) 53 (v4.toNatClampNeg) (1 : Int64)) (v4 + (1 : Int32)) v1 v2 v3))) ∧ (¬ (v4 = (0 : Int32)) → (vp_in v4 9 ∧ (xq_97_24 n (ro_sJ (ro_sJ M 52 (v4.toNatClampNeg) (0 : Int64)) 53 (v4.toNatClampNeg) (0 : Int64)) (v4 + (1 : Int32)) v1 v2 v3)))))))
theorem xt_97_24 {X : ro_Sx} {post : ro_Po} : ∀ (n : Nat) {M : ro_Mm} {v4 : Int32} {v1 : Int32} {v2 : Int32} {v3 : Int32} (hL : ro_lay M) (hp : xq_97_24 n M v4 v1 v2 v3) (hk : ro_w X 4 97 post 75 [(4, .int (xg_97_24 n M v4 v1 v2 v3).1), (0, .ref 48), (1, .int v1), (2, .int v2), (3, .int v3)] [] (xg_97_24 n M v4 v1 v2 v3).2 (0, 0)), ro_w X 4 97 post 24 [(4, .int v4), (0, .ref 48), (1, .int v1), (2, .int v2), (3, .int v3)] [] M (0, 0) := by
  intro n
  induction n with
  | zero => intro M v4 v1 v2 v3 hL hp hk; exact False.elim hp
  | succ n ih =>
    intro M v4 v1 v2 v3 hL hp hk
    rw [xq_97_24] at hp
    refine rs_iload ri_97_24 rfl rfl ?_
    refine rs_aload_n ri_97_26 rfl rfl ?_
    refine rs_gf (v := .ref 52) ri_97_27 rfl (by decide) (ro_kf (kd_48 hL)) rfl (rf_48_3 hL) ?_
    refine rs_len (v := (9 : Int32)) ri_97_30 rfl (by decide) (kd_52 hL) (by decide) rfl ?_
    refine rs_icmp_ge (t := 75) ri_97_31 rfl rfl (fun h2 => ?_) (fun h2 => ?_)
    · skip
      have e : xg_97_24 (n + 1) M v4 v1 v2 v3 = (v4, M) := by rw [xg_97_24]; first | (simp only [if_pos h2]; done) | rfl
      rw [e] at hk
      exact ro_w_lv (ro_sub_c rfl (ro_sub_c rfl (ro_sub_c rfl (ro_sub_c rfl (ro_sub_c rfl (ro_sub_n rfl)))))) hk
    · have hp := hp.2 h2
      refine rs_iload ri_97_34 rfl rfl ?_
      refine rs_aload_n ri_97_36 rfl rfl ?_
      refine rs_gf (v := .ref 53) ri_97_37 rfl (by decide) (ro_kf (kd_48 hL)) rfl (rf_48_4 hL) ?_
      refine rs_len (v := (9 : Int32)) ri_97_40 rfl (by decide) (kd_53 hL) (by decide) rfl ?_
      refine rs_icmp_ge (t := 75) ri_97_41 rfl rfl (fun h3 => absurd h3 h2) (fun h3 => ?_)
      refine rs_aload_n ri_97_44 rfl rfl ?_
      refine rs_gf (v := .ref 52) ri_97_45 rfl (by decide) (ro_kf (kd_48 hL)) rfl (rf_48_3 hL) ?_
      refine rs_iload ri_97_48 rfl rfl ?_
      refine rs_lconst (v := (0 : Int64)) ri_97_50 rfl rfl ?_
      obtain ⟨q3, hp⟩ := hp
      refine rs_last (j := v4.toNatClampNeg) ri_97_51 rfl (by decide) (kd_52 hL) q3 rfl ?_
      refine rs_aload_n ri_97_52 rfl rfl ?_
      refine rs_gf (v := .ref 53) ri_97_53 rfl (by decide) (ro_kf (kd_48 hL)) rfl (rf_48_4 hL) ?_
      refine rs_iload ri_97_56 rfl rfl ?_
      refine rs_iload ri_97_58 rfl rfl ?_
      refine rs_if_ne (t := 67) ri_97_60 rfl rfl (fun h5 => ?_) (fun h5 => ?_)
      · have hp := hp.2 h5
        refine rs_lconst (v := (0 : Int64)) ri_97_67 rfl rfl ?_
        obtain ⟨q5, hp⟩ := hp
        refine rs_last (j := v4.toNatClampNeg) ri_97_68 rfl (by decide) (kd_53 hL) q5 rfl ?_
        refine rs_iinc (v := (v4 + (1 : Int32))) (lv2 := [(4, .int (v4 + (1 : Int32))), (0, .ref 48), (1, .int v1), (2, .int v2), (3, .int v3)]) ri_97_69 rfl rfl rfl rm_97.1 (by decide) rfl ?_
        refine rs_goto (t := 24) ri_97_72 rfl ?_
        have e : xg_97_24 (n + 1) M v4 v1 v2 v3 = xg_97_24 n (ro_sJ (ro_sJ M 52 (v4.toNatClampNeg) (0 : Int64)) 53 (v4.toNatClampNeg) (0 : Int64)) (v4 + (1 : Int32)) v1 v2 v3 := by rw [xg_97_24]; first | (simp only [if_neg h2, if_neg h5]; done) | rfl
        rw [e] at hk
        exact ro_w_lv (ro_sub_c rfl (ro_sub_c rfl (ro_sub_c rfl (ro_sub_c rfl (ro_sub_c rfl (ro_sub_n rfl)))))) (ih hL  hp hk)
      · have hp := hp.1 h5
        refine rs_lconst (v := (1 : Int64)) ri_97_63 rfl rfl ?_
        refine rs_goto (t := 68) ri_97_64 rfl ?_
        obtain ⟨q6, hp⟩ := hp
        refine rs_last (j := v4.toNatClampNeg) ri_97_68 rfl (by decide) (kd_53 hL) q6 rfl ?_
        refine rs_iinc (v := (v4 + (1 : Int32))) (lv2 := [(4, .int (v4 + (1 : Int32))), (0, .ref 48), (1, .int v1), (2, .int v2), (3, .int v3)]) ri_97_69 rfl rfl rfl rm_97.1 (by decide) rfl ?_
        refine rs_goto (t := 24) ri_97_72 rfl ?_
        have e : xg_97_24 (n + 1) M v4 v1 v2 v3 = xg_97_24 n (ro_sJ (ro_sJ M 52 (v4.toNatClampNeg) (0 : Int64)) 53 (v4.toNatClampNeg) (1 : Int64)) (v4 + (1 : Int32)) v1 v2 v3 := by rw [xg_97_24]; first | (simp only [if_neg h2, if_pos h5]; done) | rfl
        rw [e] at hk
        exact ro_w_lv (ro_sub_c rfl (ro_sub_c rfl (ro_sub_c rfl (ro_sub_c rfl (ro_sub_c rfl (ro_sub_n rfl)))))) (ih hL  hp hk)
theorem xl_97_24 : ∀ (n : Nat) {M : ro_Mm} {v4 : Int32} {v1 : Int32} {v2 : Int32} {v3 : Int32} (hL : ro_lay M) (hp : xq_97_24 n M v4 v1 v2 v3), ro_lay (xg_97_24 n M v4 v1 v2 v3).2 := by
  intro n
  induction n with
  | zero => intro M v4 v1 v2 v3 hL hp; exact False.elim hp
  | succ n ih =>
    intro M v4 v1 v2 v3 hL hp
    rw [xq_97_24] at hp
    rw [xg_97_24]
    by_cases hz : (9 : Int32) ≤ v4
    · have hp := hp.1 hz
      rw [if_pos hz]
      exact hL
    · have hp := hp.2 hz
      rw [if_neg hz]
      obtain ⟨q3, hp⟩ := hp
      by_cases hz : v4 = (0 : Int32)
      · have hp := hp.1 hz
        rw [if_pos hz]
        obtain ⟨q6, hp⟩ := hp
        exact ih hL  hp
      · have hp := hp.2 hz
        rw [if_neg hz]
        obtain ⟨q5, hp⟩ := hp
        exact ih hL  hp
theorem xwI_97_24 : ∀ {n : Nat} {M : ro_Mm} {v4 : Int32} {v1 : Int32} {v2 : Int32} {v3 : Int32} {c j : Nat}, (xg_97_24 n M v4 v1 v2 v3).2.2.1 c j = M.2.1 c j := by
  intro n
  induction n with
  | zero => intro M v4 v1 v2 v3 c j; rfl
  | succ n ih =>
    intro M v4 v1 v2 v3 c j
    rw [xg_97_24]
    by_cases hz : (9 : Int32) ≤ v4
    · rw [if_pos hz]
      first | done | exact rfl
    · rw [if_neg hz]
      by_cases hz : v4 = (0 : Int32)
      · rw [if_pos hz]
        first | done | exact ((((ih)).trans (congrFun (congrFun ro_sJ_I _) _)).trans (congrFun (congrFun ro_sJ_I _) _))
      · rw [if_neg hz]
        first | done | exact ((((ih)).trans (congrFun (congrFun ro_sJ_I _) _)).trans (congrFun (congrFun ro_sJ_I _) _))
theorem xwJ_97_24 : ∀ {n : Nat} {M : ro_Mm} {v4 : Int32} {v1 : Int32} {v2 : Int32} {v3 : Int32} {c j : Nat} (n0 : c ≠ 52) (n1 : c ≠ 53), (xg_97_24 n M v4 v1 v2 v3).2.2.2.1 c j = M.2.2.1 c j := by
  intro n
  induction n with
  | zero => intro M v4 v1 v2 v3 c j n0 n1; rfl
  | succ n ih =>
    intro M v4 v1 v2 v3 c j n0 n1
    rw [xg_97_24]
    by_cases hz : (9 : Int32) ≤ v4
    · rw [if_pos hz]
      first | done | exact rfl
    · rw [if_neg hz]
      by_cases hz : v4 = (0 : Int32)
      · rw [if_pos hz]
        first | done | exact ((((ih n0 n1)).trans (ro_sJ_ne n1)).trans (ro_sJ_ne n0))
      · rw [if_neg hz]
        first | done | exact ((((ih n0 n1)).trans (ro_sJ_ne n1)).trans (ro_sJ_ne n0))
/-- a loop of RefusedOnce$Chances.weighPayings(III)V -/
noncomputable def xg_97_95 : Nat → ro_Mm → Int32 → Int32 → Int32 → Int32 → Int32 → Int32 × ro_Mm
  | 0, M, v5, v4, v1, v2, v3 => (v5, M)
  | n + 1, M, v5, v4, v1, v2, v3 => (if v5 < (0 : Int32) then (v5, M) else (xg_97_95 n (xm_98 M v1 v2 v4 v5 (v3 - v4)) (v5 + (-1 : Int32)) v4 v1 v2 v3))
def xq_97_95 : Nat → ro_Mm → Int32 → Int32 → Int32 → Int32 → Int32 → Prop
  | 0, _, _, _, _, _, _ => False
  | n + 1, M, v5, v4, v1, v2, v3 => ((v5 < (0 : Int32) → True) ∧ (¬ (v5 < (0 : Int32)) → (xp_98 M v1 v2 v4 v5 (v3 - v4) ∧ (xq_97_95 n (xm_98 M v1 v2 v4 v5 (v3 - v4)) (v5 + (-1 : Int32)) v4 v1 v2 v3))))
theorem xt_97_95 {X : ro_Sx} {post : ro_Po} : ∀ (n : Nat) {M : ro_Mm} {v5 : Int32} {v4 : Int32} {v1 : Int32} {v2 : Int32} {v3 : Int32} (hL : ro_lay M) (hp : xq_97_95 n M v5 v4 v1 v2 v3) (hk : ro_w X 4 97 post 120 [(5, .int (xg_97_95 n M v5 v4 v1 v2 v3).1), (4, .int v4), (0, .ref 48), (1, .int v1), (2, .int v2), (3, .int v3)] [] (xg_97_95 n M v5 v4 v1 v2 v3).2 (0, 0)), ro_w X 4 97 post 95 [(5, .int v5), (4, .int v4), (0, .ref 48), (1, .int v1), (2, .int v2), (3, .int v3)] [] M (0, 0) := by
  intro n
  induction n with
  | zero => intro M v5 v4 v1 v2 v3 hL hp hk; exact False.elim hp
  | succ n ih =>
    intro M v5 v4 v1 v2 v3 hL hp hk
    rw [xq_97_95] at hp
    refine rs_iload ri_97_95 rfl rfl ?_
    refine rs_if_lt (t := 120) ri_97_97 rfl rfl (fun h11 => ?_) (fun h11 => ?_)
    · skip
      have e : xg_97_95 (n + 1) M v5 v4 v1 v2 v3 = (v5, M) := by rw [xg_97_95]; first | (simp only [if_pos h11]; done) | rfl
      rw [e] at hk
      exact ro_w_lv (ro_sub_c rfl (ro_sub_c rfl (ro_sub_c rfl (ro_sub_c rfl (ro_sub_c rfl (ro_sub_c rfl (ro_sub_n rfl))))))) hk
    · have hp := hp.2 h11
      refine rs_aload_n ri_97_100 rfl rfl ?_
      refine rs_iload_n ri_97_101 rfl rfl ?_
      refine rs_iload_n ri_97_102 rfl rfl ?_
      refine rs_iload ri_97_103 rfl rfl ?_
      refine rs_iload ri_97_105 rfl rfl ?_
      refine rs_iload_n ri_97_107 rfl rfl ?_
      refine rs_iload ri_97_108 rfl rfl ?_
      refine rs_isub (r := (v3 - v4)) ri_97_110 rfl rfl ?_
      obtain ⟨q11, hp⟩ := hp
      refine rs_virt (As := [.int v1, .int v2, .int v4, .int v5, .int (v3 - v4)]) (r := []) ri_97_111 rfl (by decide) rm_98.2.2.2 rm_98.2.2.1 rfl rfl rfl (by decide) (ro_kf (kd_48 hL)) (Nat.le_of_ble_eq_true rfl) (by decide) (by decide) (xs_98 (X := X) hL q11) ?_
      rintro _ _ ⟨e1, e2⟩
      rw [e1, e2]
      show ro_w X _ 97 _ 114 [(5, .int v5), (4, .int v4), (0, .ref 48), (1, .int v1), (2, .int v2), (3, .int v3)] [] (xm_98 M v1 v2 v4 v5 (v3 - v4)) (0, 0)
      refine rs_iinc (v := (v5 + (-1 : Int32))) (lv2 := [(5, .int (v5 + (-1 : Int32))), (4, .int v4), (0, .ref 48), (1, .int v1), (2, .int v2), (3, .int v3)]) ri_97_114 rfl rfl rfl rm_97.1 (by decide) rfl ?_
      refine rs_goto (t := 95) ri_97_117 rfl ?_
      have e : xg_97_95 (n + 1) M v5 v4 v1 v2 v3 = xg_97_95 n (xm_98 M v1 v2 v4 v5 (v3 - v4)) (v5 + (-1 : Int32)) v4 v1 v2 v3 := by rw [xg_97_95]; first | (simp only [if_neg h11]; done) | rfl
      rw [e] at hk
      exact ro_w_lv (ro_sub_c rfl (ro_sub_c rfl (ro_sub_c rfl (ro_sub_c rfl (ro_sub_c rfl (ro_sub_c rfl (ro_sub_n rfl))))))) (ih (xl_98 hL q11)  hp hk)
theorem xl_97_95 : ∀ (n : Nat) {M : ro_Mm} {v5 : Int32} {v4 : Int32} {v1 : Int32} {v2 : Int32} {v3 : Int32} (hL : ro_lay M) (hp : xq_97_95 n M v5 v4 v1 v2 v3), ro_lay (xg_97_95 n M v5 v4 v1 v2 v3).2 := by
  intro n
  induction n with
  | zero => intro M v5 v4 v1 v2 v3 hL hp; exact False.elim hp
  | succ n ih =>
    intro M v5 v4 v1 v2 v3 hL hp
    rw [xq_97_95] at hp
    rw [xg_97_95]
    by_cases hz : v5 < (0 : Int32)
    · have hp := hp.1 hz
      rw [if_pos hz]
      exact hL
    · have hp := hp.2 hz
      rw [if_neg hz]
      obtain ⟨q11, hp⟩ := hp
      exact ih (xl_98 hL q11)  hp
theorem xwI_97_95 : ∀ {n : Nat} {M : ro_Mm} {v5 : Int32} {v4 : Int32} {v1 : Int32} {v2 : Int32} {v3 : Int32} {c j : Nat} (n0 : c ≠ 50) (n1 : c ≠ 51) (n2 : c ≠ 21) (n3 : c ≠ 16) (n4 : c ≠ 20), (xg_97_95 n M v5 v4 v1 v2 v3).2.2.1 c j = M.2.1 c j := by
  intro n
  induction n with
  | zero => intro M v5 v4 v1 v2 v3 c j n0 n1 n2 n3 n4; rfl
  | succ n ih =>
    intro M v5 v4 v1 v2 v3 c j n0 n1 n2 n3 n4
    rw [xg_97_95]
    by_cases hz : v5 < (0 : Int32)
    · rw [if_pos hz]
      first | done | exact rfl
    · rw [if_neg hz]
      first | done | exact (((ih n0 n1 n2 n3 n4)).trans (xwI_98 n0 n1 n2 n3 n4))
theorem xwJ_97_95 : ∀ {n : Nat} {M : ro_Mm} {v5 : Int32} {v4 : Int32} {v1 : Int32} {v2 : Int32} {v3 : Int32} {c j : Nat} (n0 : c ≠ 53) (n1 : c ≠ 52), (xg_97_95 n M v5 v4 v1 v2 v3).2.2.2.1 c j = M.2.2.1 c j := by
  intro n
  induction n with
  | zero => intro M v5 v4 v1 v2 v3 c j n0 n1; rfl
  | succ n ih =>
    intro M v5 v4 v1 v2 v3 c j n0 n1
    rw [xg_97_95]
    by_cases hz : v5 < (0 : Int32)
    · rw [if_pos hz]
      first | done | exact rfl
    · rw [if_neg hz]
      first | done | exact (((ih n0 n1)).trans (xwJ_98 n0 n1))
/-- a loop of RefusedOnce$Chances.weighPayings(III)V -/
noncomputable def xg_97_78 : Nat → ro_Mm → Int32 → Int32 → Int32 → Int32 → Int32 × ro_Mm
  | 0, M, v4, v1, v2, v3 => (v4, M)
  | n + 1, M, v4, v1, v2, v3 => (if v3 ≤ v4 then (v4, M) else (if (8 : Int32) ≤ v4 then (v4, M) else (xg_97_78 n (xg_97_95 lp_N M v4 v4 v1 v2 v3).2 (v4 + (1 : Int32)) v1 v2 v3)))
def xq_97_78 : Nat → ro_Mm → Int32 → Int32 → Int32 → Int32 → Prop
  | 0, _, _, _, _, _ => False
  | n + 1, M, v4, v1, v2, v3 => ((v3 ≤ v4 → True) ∧ (¬ (v3 ≤ v4) → (((8 : Int32) ≤ v4 → True) ∧ (¬ ((8 : Int32) ≤ v4) → (xq_97_95 lp_N M v4 v4 v1 v2 v3 ∧ (xq_97_78 n (xg_97_95 lp_N M v4 v4 v1 v2 v3).2 (v4 + (1 : Int32)) v1 v2 v3))))))
theorem xt_97_78 {X : ro_Sx} {post : ro_Po} : ∀ (n : Nat) {M : ro_Mm} {v4 : Int32} {v1 : Int32} {v2 : Int32} {v3 : Int32} (hL : ro_lay M) (hp : xq_97_78 n M v4 v1 v2 v3) (hk : ro_w X 4 97 post 126 [(4, .int (xg_97_78 n M v4 v1 v2 v3).1), (0, .ref 48), (1, .int v1), (2, .int v2), (3, .int v3)] [] (xg_97_78 n M v4 v1 v2 v3).2 (0, 0)), ro_w X 4 97 post 78 [(4, .int v4), (0, .ref 48), (1, .int v1), (2, .int v2), (3, .int v3)] [] M (0, 0) := by
  intro n
  induction n with
  | zero => intro M v4 v1 v2 v3 hL hp hk; exact False.elim hp
  | succ n ih =>
    intro M v4 v1 v2 v3 hL hp hk
    rw [xq_97_78] at hp
    refine rs_iload ri_97_78 rfl rfl ?_
    refine rs_iload_n ri_97_80 rfl rfl ?_
    refine rs_icmp_ge (t := 126) ri_97_81 rfl rfl (fun h9 => ?_) (fun h9 => ?_)
    · skip
      have e : xg_97_78 (n + 1) M v4 v1 v2 v3 = (v4, M) := by rw [xg_97_78]; first | (simp only [if_pos h9]; done) | rfl
      rw [e] at hk
      exact ro_w_lv (ro_sub_c rfl (ro_sub_c rfl (ro_sub_c rfl (ro_sub_c rfl (ro_sub_c rfl (ro_sub_n rfl)))))) hk
    · have hp := hp.2 h9
      refine rs_iload ri_97_84 rfl rfl ?_
      refine rs_bipush (v := (8 : Int32)) ri_97_86 rfl (by decide) ?_
      refine rs_icmp_ge (t := 126) ri_97_88 rfl rfl (fun h10 => ?_) (fun h10 => ?_)
      · skip
        have e : xg_97_78 (n + 1) M v4 v1 v2 v3 = (v4, M) := by rw [xg_97_78]; first | (simp only [if_neg h9, if_pos h10]; done) | rfl
        rw [e] at hk
        exact ro_w_lv (ro_sub_c rfl (ro_sub_c rfl (ro_sub_c rfl (ro_sub_c rfl (ro_sub_c rfl (ro_sub_n rfl)))))) hk
      · have hp := hp.2 h10
        refine rs_iload ri_97_91 rfl rfl ?_
        refine rs_istore (lv2 := [(5, .int v4), (4, .int v4), (0, .ref 48), (1, .int v1), (2, .int v2), (3, .int v3)]) ri_97_93 rfl rm_97.1 (by decide) rfl ?_
        obtain ⟨q12, hp⟩ := hp
        refine xt_97_95 lp_N hL q12 ?_
        refine rs_iinc (v := (v4 + (1 : Int32))) (lv2 := [(4, .int (v4 + (1 : Int32))), (5, .int (xg_97_95 lp_N M v4 v4 v1 v2 v3).1), (0, .ref 48), (1, .int v1), (2, .int v2), (3, .int v3)]) ri_97_120 rfl rfl rfl rm_97.1 (by decide) rfl ?_
        refine rs_goto (t := 78) ri_97_123 rfl ?_
        have e : xg_97_78 (n + 1) M v4 v1 v2 v3 = xg_97_78 n (xg_97_95 lp_N M v4 v4 v1 v2 v3).2 (v4 + (1 : Int32)) v1 v2 v3 := by rw [xg_97_78]; first | (simp only [if_neg h9, if_neg h10]; done) | rfl
        rw [e] at hk
        exact ro_w_lv (ro_sub_c rfl (ro_sub_c rfl (ro_sub_c rfl (ro_sub_c rfl (ro_sub_c rfl (ro_sub_n rfl)))))) (ih (xl_97_95 lp_N hL q12)  hp hk)
theorem xl_97_78 : ∀ (n : Nat) {M : ro_Mm} {v4 : Int32} {v1 : Int32} {v2 : Int32} {v3 : Int32} (hL : ro_lay M) (hp : xq_97_78 n M v4 v1 v2 v3), ro_lay (xg_97_78 n M v4 v1 v2 v3).2 := by
  intro n
  induction n with
  | zero => intro M v4 v1 v2 v3 hL hp; exact False.elim hp
  | succ n ih =>
    intro M v4 v1 v2 v3 hL hp
    rw [xq_97_78] at hp
    rw [xg_97_78]
    by_cases hz : v3 ≤ v4
    · have hp := hp.1 hz
      rw [if_pos hz]
      exact hL
    · have hp := hp.2 hz
      rw [if_neg hz]
      by_cases hz : (8 : Int32) ≤ v4
      · have hp := hp.1 hz
        rw [if_pos hz]
        exact hL
      · have hp := hp.2 hz
        rw [if_neg hz]
        obtain ⟨q12, hp⟩ := hp
        exact ih (xl_97_95 lp_N hL q12)  hp
theorem xwI_97_78 : ∀ {n : Nat} {M : ro_Mm} {v4 : Int32} {v1 : Int32} {v2 : Int32} {v3 : Int32} {c j : Nat} (n0 : c ≠ 50) (n1 : c ≠ 51) (n2 : c ≠ 21) (n3 : c ≠ 16) (n4 : c ≠ 20), (xg_97_78 n M v4 v1 v2 v3).2.2.1 c j = M.2.1 c j := by
  intro n
  induction n with
  | zero => intro M v4 v1 v2 v3 c j n0 n1 n2 n3 n4; rfl
  | succ n ih =>
    intro M v4 v1 v2 v3 c j n0 n1 n2 n3 n4
    rw [xg_97_78]
    by_cases hz : v3 ≤ v4
    · rw [if_pos hz]
      first | done | exact rfl
    · rw [if_neg hz]
      by_cases hz : (8 : Int32) ≤ v4
      · rw [if_pos hz]
        first | done | exact rfl
      · rw [if_neg hz]
        first | done | exact (((ih n0 n1 n2 n3 n4)).trans (xwI_97_95 n0 n1 n2 n3 n4))
theorem xwJ_97_78 : ∀ {n : Nat} {M : ro_Mm} {v4 : Int32} {v1 : Int32} {v2 : Int32} {v3 : Int32} {c j : Nat} (n0 : c ≠ 53) (n1 : c ≠ 52), (xg_97_78 n M v4 v1 v2 v3).2.2.2.1 c j = M.2.2.1 c j := by
  intro n
  induction n with
  | zero => intro M v4 v1 v2 v3 c j n0 n1; rfl
  | succ n ih =>
    intro M v4 v1 v2 v3 c j n0 n1
    rw [xg_97_78]
    by_cases hz : v3 ≤ v4
    · rw [if_pos hz]
      first | done | exact rfl
    · rw [if_neg hz]
      by_cases hz : (8 : Int32) ≤ v4
      · rw [if_pos hz]
        first | done | exact rfl
      · rw [if_neg hz]
        first | done | exact (((ih n0 n1)).trans (xwJ_97_95 n0 n1))
/-- a loop of RefusedOnce$Chances.weighPayings(III)V -/
noncomputable def xg_97_129 : Nat → ro_Mm → Int32 → Int32 → Int32 → Int32 → Int32 × ro_Mm
  | 0, M, v4, v1, v2, v3 => (v4, M)
  | n + 1, M, v4, v1, v2, v3 => (if (9 : Int32) ≤ v4 then (v4, M) else (xg_97_129 n (ro_sJ M 52 (v4.toNatClampNeg) ((M.2.2.1 52 (v4.toNatClampNeg)) + (M.2.2.1 53 (v4.toNatClampNeg)))) (v4 + (1 : Int32)) v1 v2 v3))
def xq_97_129 : Nat → ro_Mm → Int32 → Int32 → Int32 → Int32 → Prop
  | 0, _, _, _, _, _ => False
  | n + 1, M, v4, v1, v2, v3 => (((9 : Int32) ≤ v4 → True) ∧ (¬ ((9 : Int32) ≤ v4) → (vp_in v4 9 ∧ (vp_in v4 9 ∧ (vp_in v4 9 ∧ (xq_97_129 n (ro_sJ M 52 (v4.toNatClampNeg) ((M.2.2.1 52 (v4.toNatClampNeg)) + (M.2.2.1 53 (v4.toNatClampNeg)))) (v4 + (1 : Int32)) v1 v2 v3))))))
theorem xt_97_129 {X : ro_Sx} {post : ro_Po} : ∀ (n : Nat) {M : ro_Mm} {v4 : Int32} {v1 : Int32} {v2 : Int32} {v3 : Int32} (hL : ro_lay M) (hp : xq_97_129 n M v4 v1 v2 v3) (hk : ro_w X 4 97 post 172 [(4, .int (xg_97_129 n M v4 v1 v2 v3).1), (0, .ref 48), (1, .int v1), (2, .int v2), (3, .int v3)] [] (xg_97_129 n M v4 v1 v2 v3).2 (0, 0)), ro_w X 4 97 post 129 [(4, .int v4), (0, .ref 48), (1, .int v1), (2, .int v2), (3, .int v3)] [] M (0, 0) := by
  intro n
  induction n with
  | zero => intro M v4 v1 v2 v3 hL hp hk; exact False.elim hp
  | succ n ih =>
    intro M v4 v1 v2 v3 hL hp hk
    rw [xq_97_129] at hp
    refine rs_iload ri_97_129 rfl rfl ?_
    refine rs_aload_n ri_97_131 rfl rfl ?_
    refine rs_gf (v := .ref 52) ri_97_132 rfl (by decide) (ro_kf (kd_48 hL)) rfl (rf_48_3 hL) ?_
    refine rs_len (v := (9 : Int32)) ri_97_135 rfl (by decide) (kd_52 hL) (by decide) rfl ?_
    refine rs_icmp_ge (t := 172) ri_97_136 rfl rfl (fun h15 => ?_) (fun h15 => ?_)
    · skip
      have e : xg_97_129 (n + 1) M v4 v1 v2 v3 = (v4, M) := by rw [xg_97_129]; first | (simp only [if_pos h15]; done) | rfl
      rw [e] at hk
      exact ro_w_lv (ro_sub_c rfl (ro_sub_c rfl (ro_sub_c rfl (ro_sub_c rfl (ro_sub_c rfl (ro_sub_n rfl)))))) hk
    · have hp := hp.2 h15
      refine rs_iload ri_97_139 rfl rfl ?_
      refine rs_aload_n ri_97_141 rfl rfl ?_
      refine rs_gf (v := .ref 53) ri_97_142 rfl (by decide) (ro_kf (kd_48 hL)) rfl (rf_48_4 hL) ?_
      refine rs_len (v := (9 : Int32)) ri_97_145 rfl (by decide) (kd_53 hL) (by decide) rfl ?_
      refine rs_icmp_ge (t := 172) ri_97_146 rfl rfl (fun h16 => absurd h16 h15) (fun h16 => ?_)
      refine rs_aload_n ri_97_149 rfl rfl ?_
      refine rs_gf (v := .ref 52) ri_97_150 rfl (by decide) (ro_kf (kd_48 hL)) rfl (rf_48_3 hL) ?_
      refine rs_iload ri_97_153 rfl rfl ?_
      refine rs_dup2 ri_97_155 rfl rfl rfl ?_
      obtain ⟨q16, hp⟩ := hp
      refine rs_lald (v := (M.2.2.1 52 (v4.toNatClampNeg))) ri_97_156 rfl (by decide) (kd_52 hL) q16 rfl ?_
      refine rs_aload_n ri_97_157 rfl rfl ?_
      refine rs_gf (v := .ref 53) ri_97_158 rfl (by decide) (ro_kf (kd_48 hL)) rfl (rf_48_4 hL) ?_
      refine rs_iload ri_97_161 rfl rfl ?_
      obtain ⟨q17, hp⟩ := hp
      refine rs_lald (v := (M.2.2.1 53 (v4.toNatClampNeg))) ri_97_163 rfl (by decide) (kd_53 hL) q17 rfl ?_
      refine rs_ladd (r := ((M.2.2.1 52 (v4.toNatClampNeg)) + (M.2.2.1 53 (v4.toNatClampNeg)))) ri_97_164 rfl rfl ?_
      obtain ⟨q18, hp⟩ := hp
      refine rs_last (j := v4.toNatClampNeg) ri_97_165 rfl (by decide) (kd_52 hL) q18 rfl ?_
      refine rs_iinc (v := (v4 + (1 : Int32))) (lv2 := [(4, .int (v4 + (1 : Int32))), (0, .ref 48), (1, .int v1), (2, .int v2), (3, .int v3)]) ri_97_166 rfl rfl rfl rm_97.1 (by decide) rfl ?_
      refine rs_goto (t := 129) ri_97_169 rfl ?_
      have e : xg_97_129 (n + 1) M v4 v1 v2 v3 = xg_97_129 n (ro_sJ M 52 (v4.toNatClampNeg) ((M.2.2.1 52 (v4.toNatClampNeg)) + (M.2.2.1 53 (v4.toNatClampNeg)))) (v4 + (1 : Int32)) v1 v2 v3 := by rw [xg_97_129]; first | (simp only [if_neg h15]; done) | rfl
      rw [e] at hk
      exact ro_w_lv (ro_sub_c rfl (ro_sub_c rfl (ro_sub_c rfl (ro_sub_c rfl (ro_sub_c rfl (ro_sub_n rfl)))))) (ih hL  hp hk)
theorem xl_97_129 : ∀ (n : Nat) {M : ro_Mm} {v4 : Int32} {v1 : Int32} {v2 : Int32} {v3 : Int32} (hL : ro_lay M) (hp : xq_97_129 n M v4 v1 v2 v3), ro_lay (xg_97_129 n M v4 v1 v2 v3).2 := by
  intro n
  induction n with
  | zero => intro M v4 v1 v2 v3 hL hp; exact False.elim hp
  | succ n ih =>
    intro M v4 v1 v2 v3 hL hp
    rw [xq_97_129] at hp
    rw [xg_97_129]
    by_cases hz : (9 : Int32) ≤ v4
    · have hp := hp.1 hz
      rw [if_pos hz]
      exact hL
    · have hp := hp.2 hz
      rw [if_neg hz]
      obtain ⟨q16, hp⟩ := hp
      obtain ⟨q17, hp⟩ := hp
      obtain ⟨q18, hp⟩ := hp
      exact ih hL  hp
theorem xwI_97_129 : ∀ {n : Nat} {M : ro_Mm} {v4 : Int32} {v1 : Int32} {v2 : Int32} {v3 : Int32} {c j : Nat}, (xg_97_129 n M v4 v1 v2 v3).2.2.1 c j = M.2.1 c j := by
  intro n
  induction n with
  | zero => intro M v4 v1 v2 v3 c j; rfl
  | succ n ih =>
    intro M v4 v1 v2 v3 c j
    rw [xg_97_129]
    by_cases hz : (9 : Int32) ≤ v4
    · rw [if_pos hz]
      first | done | exact rfl
    · rw [if_neg hz]
      first | done | exact (((ih)).trans (congrFun (congrFun ro_sJ_I _) _))
theorem xwJ_97_129 : ∀ {n : Nat} {M : ro_Mm} {v4 : Int32} {v1 : Int32} {v2 : Int32} {v3 : Int32} {c j : Nat} (n0 : c ≠ 52), (xg_97_129 n M v4 v1 v2 v3).2.2.2.1 c j = M.2.2.1 c j := by
  intro n
  induction n with
  | zero => intro M v4 v1 v2 v3 c j n0; rfl
  | succ n ih =>
    intro M v4 v1 v2 v3 c j n0
    rw [xg_97_129]
    by_cases hz : (9 : Int32) ≤ v4
    · rw [if_pos hz]
      first | done | exact rfl
    · rw [if_neg hz]
      first | done | exact (((ih n0)).trans (ro_sJ_ne n0))
/-- RefusedOnce$Chances.weighPayings(III)V -/
noncomputable def xm_97 (M : ro_Mm) (v1 : Int32) (v2 : Int32) (v3 : Int32) : ro_Mm := (xg_97_129 lp_N (xg_97_78 lp_N (xg_97_24 lp_N (xm_68 M 49 6 (xf_18 M)) (0 : Int32) v1 v2 v3).2 (0 : Int32) v1 v2 v3).2 (0 : Int32) v1 v2 v3).2
def xp_97 (M : ro_Mm) (v1 : Int32) (v2 : Int32) (v3 : Int32) : Prop := (xp_68 M 49 6 (xf_18 M) ∧ (xq_97_24 lp_N (xm_68 M 49 6 (xf_18 M)) (0 : Int32) v1 v2 v3 ∧ (xq_97_78 lp_N (xg_97_24 lp_N (xm_68 M 49 6 (xf_18 M)) (0 : Int32) v1 v2 v3).2 (0 : Int32) v1 v2 v3 ∧ (xq_97_129 lp_N (xg_97_78 lp_N (xg_97_24 lp_N (xm_68 M 49 6 (xf_18 M)) (0 : Int32) v1 v2 v3).2 (0 : Int32) v1 v2 v3).2 (0 : Int32) v1 v2 v3 ∧ True))))
theorem xs_97 {X : ro_Sx} {M : ro_Mm} {v1 : Int32} {v2 : Int32} {v3 : Int32} (hL : ro_lay M) (hp : xp_97 M v1 v2 v3) : ro_cwp X 5 97 [.ref 48, .int v1, .int v2, .int v3] M (fun v M2 => v = none ∧ M2 = xm_97 M v1 v2 v3) := by
  refine rs_begin (lv0 := [(0, .ref 48), (1, .int v1), (2, .int v2), (3, .int v3)]) (by decide) rfl (by rw [rm_97.1]; exact Nat.le_of_ble_eq_true rfl) rfl ?_
  unfold xp_97 at hp
  refine rs_aload_n ri_97_0 rfl rfl ?_
  refine rs_gf (v := .ref 49) ri_97_1 rfl (by decide) (ro_kf (kd_48 hL)) rfl (rf_48_2 hL) ?_
  refine rs_aload_n ri_97_4 rfl rfl ?_
  refine rs_gf (v := .ref 5) ri_97_5 rfl (by decide) (ro_kf (kd_48 hL)) rfl (rf_48_0 hL) ?_
  refine rs_gf (v := .ref 6) ri_97_8 rfl (by decide) (ro_kf (kd_5 hL)) rfl (rf_5_0 hL) ?_
  refine rs_aload_n ri_97_11 rfl rfl ?_
  refine rs_gf (v := .ref 5) ri_97_12 rfl (by decide) (ro_kf (kd_48 hL)) rfl (rf_48_0 hL) ?_
  refine rs_virt (As := []) (r := [.ref 6, .ref 49]) ri_97_15 rfl (by decide) rm_18.2.2.2 rm_18.2.2.1 rfl rfl rfl (by decide) (ro_kf (kd_5 hL)) (Nat.le_of_ble_eq_true rfl) (by decide) (by decide) (xs_18 (X := X) hL) ?_
  rintro _ _ ⟨e1, e2⟩
  rw [e1, e2]
  show ro_w X _ 97 _ 18 [(0, .ref 48), (1, .int v1), (2, .int v2), (3, .int v3)] [.int (xf_18 M), .ref 6, .ref 49] M (0, 0)
  obtain ⟨q0, hp⟩ := hp
  refine rs_virt (As := [.ref 6, .int (xf_18 M)]) (r := []) ri_97_18 rfl (by decide) rm_68.2.2.2 rm_68.2.2.1 rfl rfl rfl (by decide) (ro_kf (kd_49 hL)) (Nat.le_of_ble_eq_true rfl) (by decide) (by decide) (xs_68 (X := X) hL (by unfold ro_ip; decide) (by unfold ro_ip; decide) q0) ?_
  rintro _ _ ⟨e1, e2⟩
  rw [e1, e2]
  show ro_w X _ 97 _ 21 [(0, .ref 48), (1, .int v1), (2, .int v2), (3, .int v3)] [] (xm_68 M 49 6 (xf_18 M)) (0, 0)
  refine rs_iconst (v := (0 : Int32)) ri_97_21 rfl (by decide) ?_
  refine rs_istore (lv2 := [(4, .int (0 : Int32)), (0, .ref 48), (1, .int v1), (2, .int v2), (3, .int v3)]) ri_97_22 rfl rm_97.1 (by decide) rfl ?_
  obtain ⟨q7, hp⟩ := hp
  refine xt_97_24 lp_N (xl_68 hL (by unfold ro_ip; decide) (by unfold ro_ip; decide) q0) q7 ?_
  refine rs_iconst (v := (0 : Int32)) ri_97_75 rfl (by decide) ?_
  refine rs_istore (lv2 := [(4, .int (0 : Int32)), (0, .ref 48), (1, .int v1), (2, .int v2), (3, .int v3)]) ri_97_76 rfl rm_97.1 (by decide) rfl ?_
  obtain ⟨q13, hp⟩ := hp
  refine xt_97_78 lp_N (xl_97_24 lp_N (xl_68 hL (by unfold ro_ip; decide) (by unfold ro_ip; decide) q0) q7) q13 ?_
  refine rs_iconst (v := (0 : Int32)) ri_97_126 rfl (by decide) ?_
  refine rs_istore (lv2 := [(4, .int (0 : Int32)), (0, .ref 48), (1, .int v1), (2, .int v2), (3, .int v3)]) ri_97_127 rfl rm_97.1 (by decide) rfl ?_
  obtain ⟨q19, hp⟩ := hp
  refine xt_97_129 lp_N (xl_97_78 lp_N (xl_97_24 lp_N (xl_68 hL (by unfold ro_ip; decide) (by unfold ro_ip; decide) q0) q7) q13) q19 ?_
  refine rs_ret ri_97_172 rm_97.2.1 (by decide) ?_
  exact ⟨by rfl, by rfl⟩
theorem xl_97 {M : ro_Mm} {v1 : Int32} {v2 : Int32} {v3 : Int32} (hL : ro_lay M) (hp : xp_97 M v1 v2 v3) : ro_lay (xm_97 M v1 v2 v3) := by
  unfold xp_97 at hp
  unfold xm_97
  obtain ⟨q0, hp⟩ := hp
  obtain ⟨q7, hp⟩ := hp
  obtain ⟨q13, hp⟩ := hp
  obtain ⟨q19, hp⟩ := hp
  exact (xl_97_129 lp_N (xl_97_78 lp_N (xl_97_24 lp_N (xl_68 hL (by unfold ro_ip; decide) (by unfold ro_ip; decide) q0) q7) q13) q19)
theorem xwI_97 {M : ro_Mm} {v1 : Int32} {v2 : Int32} {v3 : Int32} {c j : Nat} (n0 : c ≠ 50) (n1 : c ≠ 51) (n2 : c ≠ 21) (n3 : c ≠ 16) (n4 : c ≠ 20) : (xm_97 M v1 v2 v3).2.1 c j = M.2.1 c j := by
  unfold xm_97
  first | done | exact (((((xwI_97_129)).trans (xwI_97_78 n0 n1 n2 n3 n4)).trans (xwI_97_24)).trans (xwI_68 n0 n1))
theorem xwJ_97 {M : ro_Mm} {v1 : Int32} {v2 : Int32} {v3 : Int32} {c j : Nat} (n0 : c ≠ 52) (n1 : c ≠ 53) : (xm_97 M v1 v2 v3).2.2.1 c j = M.2.2.1 c j := by
  unfold xm_97
  first | done | exact (((((xwJ_97_129 n0)).trans (xwJ_97_78 n1 n0)).trans (xwJ_97_24 n0 n1)).trans (xwJ_68))
/-- a loop of RefusedOnce$Chances.meanRefused(III)V -/
noncomputable def xg_104_13 : Nat → ro_Mm → Int32 → Int64 → Int32 → Int32 → Int32 → Int32 × Int64
  | 0, M, v6, v4, v1, v2, v3 => (v6, v4)
  | n + 1, M, v6, v4, v1, v2, v3 => (if (9 : Int32) ≤ v6 then (v6, v4) else (xg_104_13 n M (v6 + (1 : Int32)) (v4 + ((v6.toInt64) * (M.2.2.1 52 (v6.toNatClampNeg)))) v1 v2 v3))
def xq_104_13 : Nat → ro_Mm → Int32 → Int64 → Int32 → Int32 → Int32 → Prop
  | 0, _, _, _, _, _, _ => False
  | n + 1, M, v6, v4, v1, v2, v3 => (((9 : Int32) ≤ v6 → True) ∧ (¬ ((9 : Int32) ≤ v6) → (vp_in v6 9 ∧ (xq_104_13 n M (v6 + (1 : Int32)) (v4 + ((v6.toInt64) * (M.2.2.1 52 (v6.toNatClampNeg)))) v1 v2 v3))))
theorem xt_104_13 {X : ro_Sx} {post : ro_Po} : ∀ (n : Nat) {M : ro_Mm} {v6 : Int32} {v4 : Int64} {v1 : Int32} {v2 : Int32} {v3 : Int32} (hL : ro_lay M) (hp : xq_104_13 n M v6 v4 v1 v2 v3) (hk : ro_w X 5 104 post 45 [(6, .int (xg_104_13 n M v6 v4 v1 v2 v3).1), (4, .long (xg_104_13 n M v6 v4 v1 v2 v3).2), (0, .ref 48), (1, .int v1), (2, .int v2), (3, .int v3)] [] M (0, 0)), ro_w X 5 104 post 13 [(6, .int v6), (4, .long v4), (0, .ref 48), (1, .int v1), (2, .int v2), (3, .int v3)] [] M (0, 0) := by
  intro n
  induction n with
  | zero => intro M v6 v4 v1 v2 v3 hL hp hk; exact False.elim hp
  | succ n ih =>
    intro M v6 v4 v1 v2 v3 hL hp hk
    rw [xq_104_13] at hp
    refine rs_iload ri_104_13 rfl rfl ?_
    refine rs_aload_n ri_104_15 rfl rfl ?_
    refine rs_gf (v := .ref 52) ri_104_16 rfl (by decide) (ro_kf (kd_48 hL)) rfl (rf_48_3 hL) ?_
    refine rs_len (v := (9 : Int32)) ri_104_19 rfl (by decide) (kd_52 hL) (by decide) rfl ?_
    refine rs_icmp_ge (t := 45) ri_104_20 rfl rfl (fun h2 => ?_) (fun h2 => ?_)
    · skip
      have e : xg_104_13 (n + 1) M v6 v4 v1 v2 v3 = (v6, v4) := by rw [xg_104_13]; first | (simp only [if_pos h2]; done) | rfl
      rw [e] at hk
      exact ro_w_lv (ro_sub_c rfl (ro_sub_c rfl (ro_sub_c rfl (ro_sub_c rfl (ro_sub_c rfl (ro_sub_c rfl (ro_sub_n rfl))))))) hk
    · have hp := hp.2 h2
      refine rs_lload ri_104_23 rfl rfl ?_
      refine rs_iload ri_104_25 rfl rfl ?_
      refine rs_i2l (r := (v6.toInt64)) ri_104_27 rfl rfl ?_
      refine rs_aload_n ri_104_28 rfl rfl ?_
      refine rs_gf (v := .ref 52) ri_104_29 rfl (by decide) (ro_kf (kd_48 hL)) rfl (rf_48_3 hL) ?_
      refine rs_iload ri_104_32 rfl rfl ?_
      obtain ⟨q2, hp⟩ := hp
      refine rs_lald (v := (M.2.2.1 52 (v6.toNatClampNeg))) ri_104_34 rfl (by decide) (kd_52 hL) q2 rfl ?_
      refine rs_lmul (r := ((v6.toInt64) * (M.2.2.1 52 (v6.toNatClampNeg)))) ri_104_35 rfl rfl ?_
      refine rs_ladd (r := (v4 + ((v6.toInt64) * (M.2.2.1 52 (v6.toNatClampNeg))))) ri_104_36 rfl rfl ?_
      refine rs_lstore (lv2 := [(4, .long (v4 + ((v6.toInt64) * (M.2.2.1 52 (v6.toNatClampNeg))))), (6, .int v6), (0, .ref 48), (1, .int v1), (2, .int v2), (3, .int v3)]) ri_104_37 rfl rm_104.1 (by decide) rfl ?_
      refine rs_iinc (v := (v6 + (1 : Int32))) (lv2 := [(6, .int (v6 + (1 : Int32))), (4, .long (v4 + ((v6.toInt64) * (M.2.2.1 52 (v6.toNatClampNeg))))), (0, .ref 48), (1, .int v1), (2, .int v2), (3, .int v3)]) ri_104_39 rfl rfl rfl rm_104.1 (by decide) rfl ?_
      refine rs_goto (t := 13) ri_104_42 rfl ?_
      have e : xg_104_13 (n + 1) M v6 v4 v1 v2 v3 = xg_104_13 n M (v6 + (1 : Int32)) (v4 + ((v6.toInt64) * (M.2.2.1 52 (v6.toNatClampNeg)))) v1 v2 v3 := by rw [xg_104_13]; first | (simp only [if_neg h2]; done) | rfl
      rw [e] at hk
      exact ro_w_lv (ro_sub_c rfl (ro_sub_c rfl (ro_sub_c rfl (ro_sub_c rfl (ro_sub_c rfl (ro_sub_c rfl (ro_sub_n rfl))))))) (ih hL  hp hk)
/-- RefusedOnce$Chances.meanRefused(III)V -/
noncomputable def xm_104 (M : ro_Mm) (v1 : Int32) (v2 : Int32) (v3 : Int32) : ro_Mm := (xm_100 (xm_97 M v1 v2 v3) (xg_104_13 lp_N (xm_97 M v1 v2 v3) (1 : Int32) (0 : Int64) v1 v2 v3).2 (xf_99 (xm_97 M v1 v2 v3) v3))
def xp_104 (M : ro_Mm) (v1 : Int32) (v2 : Int32) (v3 : Int32) : Prop := (xp_97 M v1 v2 v3 ∧ (xq_104_13 lp_N (xm_97 M v1 v2 v3) (1 : Int32) (0 : Int64) v1 v2 v3 ∧ (xp_99 (xm_97 M v1 v2 v3) v3 ∧ (xp_100 (xm_97 M v1 v2 v3) (xg_104_13 lp_N (xm_97 M v1 v2 v3) (1 : Int32) (0 : Int64) v1 v2 v3).2 (xf_99 (xm_97 M v1 v2 v3) v3) ∧ True))))
theorem xs_104 {X : ro_Sx} {M : ro_Mm} {v1 : Int32} {v2 : Int32} {v3 : Int32} (hL : ro_lay M) (hp : xp_104 M v1 v2 v3) : ro_cwp X 6 104 [.ref 48, .int v1, .int v2, .int v3] M (fun v M2 => v = none ∧ M2 = xm_104 M v1 v2 v3) := by
  refine rs_begin (lv0 := [(0, .ref 48), (1, .int v1), (2, .int v2), (3, .int v3)]) (by decide) rfl (by rw [rm_104.1]; exact Nat.le_of_ble_eq_true rfl) rfl ?_
  unfold xp_104 at hp
  refine rs_aload_n ri_104_0 rfl rfl ?_
  refine rs_iload_n ri_104_1 rfl rfl ?_
  refine rs_iload_n ri_104_2 rfl rfl ?_
  refine rs_iload_n ri_104_3 rfl rfl ?_
  obtain ⟨q0, hp⟩ := hp
  refine rs_virt (As := [.int v1, .int v2, .int v3]) (r := []) ri_104_4 rfl (by decide) rm_97.2.2.2 rm_97.2.2.1 rfl rfl rfl (by decide) (ro_kf (kd_48 hL)) (Nat.le_of_ble_eq_true rfl) (by decide) (by decide) (xs_97 (X := X) hL q0) ?_
  rintro _ _ ⟨e1, e2⟩
  rw [e1, e2]
  show ro_w X _ 104 _ 7 [(0, .ref 48), (1, .int v1), (2, .int v2), (3, .int v3)] [] (xm_97 M v1 v2 v3) (0, 0)
  refine rs_lconst (v := (0 : Int64)) ri_104_7 rfl rfl ?_
  refine rs_lstore (lv2 := [(4, .long (0 : Int64)), (0, .ref 48), (1, .int v1), (2, .int v2), (3, .int v3)]) ri_104_8 rfl rm_104.1 (by decide) rfl ?_
  refine rs_iconst (v := (1 : Int32)) ri_104_10 rfl (by decide) ?_
  refine rs_istore (lv2 := [(6, .int (1 : Int32)), (4, .long (0 : Int64)), (0, .ref 48), (1, .int v1), (2, .int v2), (3, .int v3)]) ri_104_11 rfl rm_104.1 (by decide) rfl ?_
  obtain ⟨q3, hp⟩ := hp
  refine xt_104_13 lp_N (xl_97 hL q0) q3 ?_
  refine rs_aload_n ri_104_45 rfl rfl ?_
  refine rs_lload ri_104_46 rfl rfl ?_
  refine rs_iload_n ri_104_48 rfl rfl ?_
  obtain ⟨q4, hp⟩ := hp
  refine rs_stat (As := [.int v3]) (r := [.long (xg_104_13 lp_N (xm_97 M v1 v2 v3) (1 : Int32) (0 : Int64) v1 v2 v3).2, .ref 48]) ri_104_49 rfl rm_99.2.2.2 rfl rfl rfl (Nat.le_of_ble_eq_true rfl) (by decide) (by decide) (xs_99 (X := X) (xl_97 hL q0) q4) ?_
  rintro _ _ ⟨e1, e2⟩
  rw [e1, e2]
  show ro_w X _ 104 _ 52 [(6, .int (xg_104_13 lp_N (xm_97 M v1 v2 v3) (1 : Int32) (0 : Int64) v1 v2 v3).1), (4, .long (xg_104_13 lp_N (xm_97 M v1 v2 v3) (1 : Int32) (0 : Int64) v1 v2 v3).2), (0, .ref 48), (1, .int v1), (2, .int v2), (3, .int v3)] [.long (xf_99 (xm_97 M v1 v2 v3) v3), .long (xg_104_13 lp_N (xm_97 M v1 v2 v3) (1 : Int32) (0 : Int64) v1 v2 v3).2, .ref 48] (xm_97 M v1 v2 v3) (0, 0)
  obtain ⟨q5, hp⟩ := hp
  refine rs_virt (As := [.long (xg_104_13 lp_N (xm_97 M v1 v2 v3) (1 : Int32) (0 : Int64) v1 v2 v3).2, .long (xf_99 (xm_97 M v1 v2 v3) v3)]) (r := []) ri_104_52 rfl (by decide) rm_100.2.2.2 rm_100.2.2.1 rfl rfl rfl (by decide) (ro_kf (kd_48 (xl_97 hL q0))) (Nat.le_of_ble_eq_true rfl) (by decide) (by decide) (xs_100 (X := X) (xl_97 hL q0) q5) ?_
  rintro _ _ ⟨e1, e2⟩
  rw [e1, e2]
  show ro_w X _ 104 _ 55 [(6, .int (xg_104_13 lp_N (xm_97 M v1 v2 v3) (1 : Int32) (0 : Int64) v1 v2 v3).1), (4, .long (xg_104_13 lp_N (xm_97 M v1 v2 v3) (1 : Int32) (0 : Int64) v1 v2 v3).2), (0, .ref 48), (1, .int v1), (2, .int v2), (3, .int v3)] [] (xm_100 (xm_97 M v1 v2 v3) (xg_104_13 lp_N (xm_97 M v1 v2 v3) (1 : Int32) (0 : Int64) v1 v2 v3).2 (xf_99 (xm_97 M v1 v2 v3) v3)) (0, 0)
  refine rs_ret ri_104_55 rm_104.2.1 (by decide) ?_
  exact ⟨by rfl, by rfl⟩
theorem xl_104 {M : ro_Mm} {v1 : Int32} {v2 : Int32} {v3 : Int32} (hL : ro_lay M) (hp : xp_104 M v1 v2 v3) : ro_lay (xm_104 M v1 v2 v3) := by
  unfold xp_104 at hp
  unfold xm_104
  obtain ⟨q0, hp⟩ := hp
  obtain ⟨q3, hp⟩ := hp
  obtain ⟨q4, hp⟩ := hp
  obtain ⟨q5, hp⟩ := hp
  exact (xl_100 (xl_97 hL q0) q5)
theorem xwI_104 {M : ro_Mm} {v1 : Int32} {v2 : Int32} {v3 : Int32} {c j : Nat} (n0 : c ≠ 50) (n1 : c ≠ 51) (n2 : c ≠ 21) (n3 : c ≠ 16) (n4 : c ≠ 20) : (xm_104 M v1 v2 v3).2.1 c j = M.2.1 c j := by
  unfold xm_104
  first | done | exact (((xwI_100)).trans (xwI_97 n0 n1 n2 n3 n4))
theorem xwJ_104 {M : ro_Mm} {v1 : Int32} {v2 : Int32} {v3 : Int32} {c j : Nat} (n0 : c ≠ 52) (n1 : c ≠ 53) (n2 : c ≠ 48) : (xm_104 M v1 v2 v3).2.2.1 c j = M.2.2.1 c j := by
  unfold xm_104
  first | done | exact (((xwJ_100 n2)).trans (xwJ_97 n0 n1))
/-- RefusedOnce$Chances.allStayWhole(I)V -/
noncomputable def xm_106 (M : ro_Mm) (v1 : Int32) : ro_Mm := (if v1 ≤ (0 : Int32) then (xm_100 (xm_107 (xm_68 M 49 6 (xf_18 M))) (1 : Int64) (1 : Int64)) else (if ((xm_107 (xm_68 M 49 6 (xf_18 M))).2.1 48 7) = (0 : Int32) then (xm_100 (xm_107 (xm_68 M 49 6 (xf_18 M))) (1 : Int64) (1 : Int64)) else (if v1 = (1 : Int32) then (xm_100 (xm_107 (xm_68 M 49 6 (xf_18 M))) (((xm_107 (xm_68 M 49 6 (xf_18 M))).2.1 48 8).toInt64) ((12 : Int64) * (((xm_107 (xm_68 M 49 6 (xf_18 M))).2.1 48 7).toInt64))) else (xm_100 (xm_108 (xm_107 (xm_68 M 49 6 (xf_18 M)))) (xf_108 (xm_107 (xm_68 M 49 6 (xf_18 M)))) (((144 : Int64) * (((xm_107 (xm_68 M 49 6 (xf_18 M))).2.1 48 7).toInt64)) * (2329089562800 : Int64))))))
def xp_106 (M : ro_Mm) (v1 : Int32) : Prop := (xp_68 M 49 6 (xf_18 M) ∧ (xp_107 (xm_68 M 49 6 (xf_18 M)) ∧ ((v1 ≤ (0 : Int32) → (xp_100 (xm_107 (xm_68 M 49 6 (xf_18 M))) (1 : Int64) (1 : Int64) ∧ True)) ∧ (¬ (v1 ≤ (0 : Int32)) → ((((xm_107 (xm_68 M 49 6 (xf_18 M))).2.1 48 7) = (0 : Int32) → (xp_100 (xm_107 (xm_68 M 49 6 (xf_18 M))) (1 : Int64) (1 : Int64) ∧ True)) ∧ (¬ (((xm_107 (xm_68 M 49 6 (xf_18 M))).2.1 48 7) = (0 : Int32)) → ((v1 = (1 : Int32) → (xp_100 (xm_107 (xm_68 M 49 6 (xf_18 M))) (((xm_107 (xm_68 M 49 6 (xf_18 M))).2.1 48 8).toInt64) ((12 : Int64) * (((xm_107 (xm_68 M 49 6 (xf_18 M))).2.1 48 7).toInt64)) ∧ True)) ∧ (¬ (v1 = (1 : Int32)) → (xp_108 (xm_107 (xm_68 M 49 6 (xf_18 M))) ∧ (xp_100 (xm_108 (xm_107 (xm_68 M 49 6 (xf_18 M)))) (xf_108 (xm_107 (xm_68 M 49 6 (xf_18 M)))) (((144 : Int64) * (((xm_107 (xm_68 M 49 6 (xf_18 M))).2.1 48 7).toInt64)) * (2329089562800 : Int64)) ∧ True))))))))))
theorem xs_106 {X : ro_Sx} {M : ro_Mm} {v1 : Int32} (hL : ro_lay M) (hp : xp_106 M v1) : ro_cwp X 6 106 [.ref 48, .int v1] M (fun v M2 => v = none ∧ M2 = xm_106 M v1) := by
  refine rs_begin (lv0 := [(0, .ref 48), (1, .int v1)]) (by decide) rfl (by rw [rm_106.1]; exact Nat.le_of_ble_eq_true rfl) rfl ?_
  unfold xp_106 at hp
  refine rs_aload_n ri_106_0 rfl rfl ?_
  refine rs_gf (v := .ref 49) ri_106_1 rfl (by decide) (ro_kf (kd_48 hL)) rfl (rf_48_2 hL) ?_
  refine rs_aload_n ri_106_4 rfl rfl ?_
  refine rs_gf (v := .ref 5) ri_106_5 rfl (by decide) (ro_kf (kd_48 hL)) rfl (rf_48_0 hL) ?_
  refine rs_gf (v := .ref 6) ri_106_8 rfl (by decide) (ro_kf (kd_5 hL)) rfl (rf_5_0 hL) ?_
  refine rs_aload_n ri_106_11 rfl rfl ?_
  refine rs_gf (v := .ref 5) ri_106_12 rfl (by decide) (ro_kf (kd_48 hL)) rfl (rf_48_0 hL) ?_
  refine rs_virt (As := []) (r := [.ref 6, .ref 49]) ri_106_15 rfl (by decide) rm_18.2.2.2 rm_18.2.2.1 rfl rfl rfl (by decide) (ro_kf (kd_5 hL)) (Nat.le_of_ble_eq_true rfl) (by decide) (by decide) (xs_18 (X := X) hL) ?_
  rintro _ _ ⟨e1, e2⟩
  rw [e1, e2]
  show ro_w X _ 106 _ 18 [(0, .ref 48), (1, .int v1)] [.int (xf_18 M), .ref 6, .ref 49] M (0, 0)
  obtain ⟨q0, hp⟩ := hp
  refine rs_virt (As := [.ref 6, .int (xf_18 M)]) (r := []) ri_106_18 rfl (by decide) rm_68.2.2.2 rm_68.2.2.1 rfl rfl rfl (by decide) (ro_kf (kd_49 hL)) (Nat.le_of_ble_eq_true rfl) (by decide) (by decide) (xs_68 (X := X) hL (by unfold ro_ip; decide) (by unfold ro_ip; decide) q0) ?_
  rintro _ _ ⟨e1, e2⟩
  rw [e1, e2]
  show ro_w X _ 106 _ 21 [(0, .ref 48), (1, .int v1)] [] (xm_68 M 49 6 (xf_18 M)) (0, 0)
  refine rs_aload_n ri_106_21 rfl rfl ?_
  obtain ⟨q1, hp⟩ := hp
  refine rs_virt (As := []) (r := []) ri_106_22 rfl (by decide) rm_107.2.2.2 rm_107.2.2.1 rfl rfl rfl (by decide) (ro_kf (kd_48 (xl_68 hL (by unfold ro_ip; decide) (by unfold ro_ip; decide) q0))) (Nat.le_of_ble_eq_true rfl) (by decide) (by decide) (xs_107 (X := X) (xl_68 hL (by unfold ro_ip; decide) (by unfold ro_ip; decide) q0) q1) ?_
  rintro _ _ ⟨e1, e2⟩
  rw [e1, e2]
  show ro_w X _ 106 _ 25 [(0, .ref 48), (1, .int v1)] [] (xm_107 (xm_68 M 49 6 (xf_18 M))) (0, 0)
  refine rs_iload_n ri_106_25 rfl rfl ?_
  refine rs_if_le (t := 36) ri_106_26 rfl rfl (fun h3 => ?_) (fun h3 => ?_)
  · have hp := hp.1 h3
    refine rs_aload_n ri_106_36 rfl rfl ?_
    refine rs_lconst (v := (1 : Int64)) ri_106_37 rfl rfl ?_
    refine rs_lconst (v := (1 : Int64)) ri_106_38 rfl rfl ?_
    obtain ⟨q3, hp⟩ := hp
    refine rs_virt (As := [.long (1 : Int64), .long (1 : Int64)]) (r := []) ri_106_39 rfl (by decide) rm_100.2.2.2 rm_100.2.2.1 rfl rfl rfl (by decide) (ro_kf (kd_48 (xl_107 (xl_68 hL (by unfold ro_ip; decide) (by unfold ro_ip; decide) q0) q1))) (Nat.le_of_ble_eq_true rfl) (by decide) (by decide) (xs_100 (X := X) (xl_107 (xl_68 hL (by unfold ro_ip; decide) (by unfold ro_ip; decide) q0) q1) q3) ?_
    rintro _ _ ⟨e1, e2⟩
    rw [e1, e2]
    show ro_w X _ 106 _ 42 [(0, .ref 48), (1, .int v1)] [] (xm_100 (xm_107 (xm_68 M 49 6 (xf_18 M))) (1 : Int64) (1 : Int64)) (0, 0)
    refine rs_goto (t := 94) ri_106_42 rfl ?_
    refine rs_ret ri_106_94 rm_106.2.1 (by decide) ?_
    exact ⟨by rfl, by unfold xm_106; first | (simp only [if_pos h3]; done) | rfl⟩
  · have hp := hp.2 h3
    refine rs_aload_n ri_106_29 rfl rfl ?_
    refine rs_gf (v := .int ((xm_107 (xm_68 M 49 6 (xf_18 M))).2.1 48 7)) ri_106_30 rfl (by decide) (ro_kf (kd_48 (xl_107 (xl_68 hL (by unfold ro_ip; decide) (by unfold ro_ip; decide) q0) q1))) rfl rfl ?_
    refine rs_if_ne (t := 45) ri_106_33 rfl rfl (fun h5 => ?_) (fun h5 => ?_)
    · have hp := hp.2 h5
      refine rs_iload_n ri_106_45 rfl rfl ?_
      refine rs_iconst (v := (1 : Int32)) ri_106_46 rfl (by decide) ?_
      refine rs_icmp_ne (t := 71) ri_106_47 rfl rfl (fun h6 => ?_) (fun h6 => ?_)
      · have hp := hp.2 h6
        refine rs_ldc2 (v := (144 : Int64)) ri_106_71 rfl rfl rfl ?_
        refine rs_aload_n ri_106_74 rfl rfl ?_
        refine rs_gf (v := .int ((xm_107 (xm_68 M 49 6 (xf_18 M))).2.1 48 7)) ri_106_75 rfl (by decide) (ro_kf (kd_48 (xl_107 (xl_68 hL (by unfold ro_ip; decide) (by unfold ro_ip; decide) q0) q1))) rfl rfl ?_
        refine rs_i2l (r := (((xm_107 (xm_68 M 49 6 (xf_18 M))).2.1 48 7).toInt64)) ri_106_78 rfl rfl ?_
        refine rs_lmul (r := ((144 : Int64) * (((xm_107 (xm_68 M 49 6 (xf_18 M))).2.1 48 7).toInt64))) ri_106_79 rfl rfl ?_
        refine rs_ldc2 (v := (2329089562800 : Int64)) ri_106_80 rfl rfl rfl ?_
        refine rs_lmul (r := (((144 : Int64) * (((xm_107 (xm_68 M 49 6 (xf_18 M))).2.1 48 7).toInt64)) * (2329089562800 : Int64))) ri_106_83 rfl rfl ?_
        refine rs_lstore_n (lv2 := [(2, .long (((144 : Int64) * (((xm_107 (xm_68 M 49 6 (xf_18 M))).2.1 48 7).toInt64)) * (2329089562800 : Int64))), (0, .ref 48), (1, .int v1)]) ri_106_84 rfl rm_106.1 (by decide) rfl ?_
        refine rs_aload_n ri_106_85 rfl rfl ?_
        refine rs_aload_n ri_106_86 rfl rfl ?_
        obtain ⟨q6, hp⟩ := hp
        refine rs_virt (As := []) (r := [.ref 48]) ri_106_87 rfl (by decide) rm_108.2.2.2 rm_108.2.2.1 rfl rfl rfl (by decide) (ro_kf (kd_48 (xl_107 (xl_68 hL (by unfold ro_ip; decide) (by unfold ro_ip; decide) q0) q1))) (Nat.le_of_ble_eq_true rfl) (by decide) (by decide) (xs_108 (X := X) (xl_107 (xl_68 hL (by unfold ro_ip; decide) (by unfold ro_ip; decide) q0) q1) q6) ?_
        rintro _ _ ⟨e1, e2⟩
        rw [e1, e2]
        show ro_w X _ 106 _ 90 [(2, .long (((144 : Int64) * (((xm_107 (xm_68 M 49 6 (xf_18 M))).2.1 48 7).toInt64)) * (2329089562800 : Int64))), (0, .ref 48), (1, .int v1)] [.long (xf_108 (xm_107 (xm_68 M 49 6 (xf_18 M)))), .ref 48] (xm_108 (xm_107 (xm_68 M 49 6 (xf_18 M)))) (0, 0)
        refine rs_lload_n ri_106_90 rfl rfl ?_
        obtain ⟨q7, hp⟩ := hp
        refine rs_virt (As := [.long (xf_108 (xm_107 (xm_68 M 49 6 (xf_18 M)))), .long (((144 : Int64) * (((xm_107 (xm_68 M 49 6 (xf_18 M))).2.1 48 7).toInt64)) * (2329089562800 : Int64))]) (r := []) ri_106_91 rfl (by decide) rm_100.2.2.2 rm_100.2.2.1 rfl rfl rfl (by decide) (ro_kf (kd_48 (xl_108 (xl_107 (xl_68 hL (by unfold ro_ip; decide) (by unfold ro_ip; decide) q0) q1) q6))) (Nat.le_of_ble_eq_true rfl) (by decide) (by decide) (xs_100 (X := X) (xl_108 (xl_107 (xl_68 hL (by unfold ro_ip; decide) (by unfold ro_ip; decide) q0) q1) q6) q7) ?_
        rintro _ _ ⟨e1, e2⟩
        rw [e1, e2]
        show ro_w X _ 106 _ 94 [(2, .long (((144 : Int64) * (((xm_107 (xm_68 M 49 6 (xf_18 M))).2.1 48 7).toInt64)) * (2329089562800 : Int64))), (0, .ref 48), (1, .int v1)] [] (xm_100 (xm_108 (xm_107 (xm_68 M 49 6 (xf_18 M)))) (xf_108 (xm_107 (xm_68 M 49 6 (xf_18 M)))) (((144 : Int64) * (((xm_107 (xm_68 M 49 6 (xf_18 M))).2.1 48 7).toInt64)) * (2329089562800 : Int64))) (0, 0)
        refine rs_ret ri_106_94 rm_106.2.1 (by decide) ?_
        exact ⟨by rfl, by unfold xm_106; first | (simp only [if_neg h3, if_neg h5, if_neg h6]; done) | rfl⟩
      · have hp := hp.1 h6
        refine rs_aload_n ri_106_50 rfl rfl ?_
        refine rs_aload_n ri_106_51 rfl rfl ?_
        refine rs_gf (v := .int ((xm_107 (xm_68 M 49 6 (xf_18 M))).2.1 48 8)) ri_106_52 rfl (by decide) (ro_kf (kd_48 (xl_107 (xl_68 hL (by unfold ro_ip; decide) (by unfold ro_ip; decide) q0) q1))) rfl rfl ?_
        refine rs_i2l (r := (((xm_107 (xm_68 M 49 6 (xf_18 M))).2.1 48 8).toInt64)) ri_106_55 rfl rfl ?_
        refine rs_ldc2 (v := (12 : Int64)) ri_106_56 rfl rfl rfl ?_
        refine rs_aload_n ri_106_59 rfl rfl ?_
        refine rs_gf (v := .int ((xm_107 (xm_68 M 49 6 (xf_18 M))).2.1 48 7)) ri_106_60 rfl (by decide) (ro_kf (kd_48 (xl_107 (xl_68 hL (by unfold ro_ip; decide) (by unfold ro_ip; decide) q0) q1))) rfl rfl ?_
        refine rs_i2l (r := (((xm_107 (xm_68 M 49 6 (xf_18 M))).2.1 48 7).toInt64)) ri_106_63 rfl rfl ?_
        refine rs_lmul (r := ((12 : Int64) * (((xm_107 (xm_68 M 49 6 (xf_18 M))).2.1 48 7).toInt64))) ri_106_64 rfl rfl ?_
        obtain ⟨q8, hp⟩ := hp
        refine rs_virt (As := [.long (((xm_107 (xm_68 M 49 6 (xf_18 M))).2.1 48 8).toInt64), .long ((12 : Int64) * (((xm_107 (xm_68 M 49 6 (xf_18 M))).2.1 48 7).toInt64))]) (r := []) ri_106_65 rfl (by decide) rm_100.2.2.2 rm_100.2.2.1 rfl rfl rfl (by decide) (ro_kf (kd_48 (xl_107 (xl_68 hL (by unfold ro_ip; decide) (by unfold ro_ip; decide) q0) q1))) (Nat.le_of_ble_eq_true rfl) (by decide) (by decide) (xs_100 (X := X) (xl_107 (xl_68 hL (by unfold ro_ip; decide) (by unfold ro_ip; decide) q0) q1) q8) ?_
        rintro _ _ ⟨e1, e2⟩
        rw [e1, e2]
        show ro_w X _ 106 _ 68 [(0, .ref 48), (1, .int v1)] [] (xm_100 (xm_107 (xm_68 M 49 6 (xf_18 M))) (((xm_107 (xm_68 M 49 6 (xf_18 M))).2.1 48 8).toInt64) ((12 : Int64) * (((xm_107 (xm_68 M 49 6 (xf_18 M))).2.1 48 7).toInt64))) (0, 0)
        refine rs_goto (t := 94) ri_106_68 rfl ?_
        refine rs_ret ri_106_94 rm_106.2.1 (by decide) ?_
        exact ⟨by rfl, by unfold xm_106; first | (simp only [if_neg h3, if_neg h5, if_pos h6]; done) | rfl⟩
    · have hp := hp.1 h5
      refine rs_aload_n ri_106_36 rfl rfl ?_
      refine rs_lconst (v := (1 : Int64)) ri_106_37 rfl rfl ?_
      refine rs_lconst (v := (1 : Int64)) ri_106_38 rfl rfl ?_
      obtain ⟨q9, hp⟩ := hp
      refine rs_virt (As := [.long (1 : Int64), .long (1 : Int64)]) (r := []) ri_106_39 rfl (by decide) rm_100.2.2.2 rm_100.2.2.1 rfl rfl rfl (by decide) (ro_kf (kd_48 (xl_107 (xl_68 hL (by unfold ro_ip; decide) (by unfold ro_ip; decide) q0) q1))) (Nat.le_of_ble_eq_true rfl) (by decide) (by decide) (xs_100 (X := X) (xl_107 (xl_68 hL (by unfold ro_ip; decide) (by unfold ro_ip; decide) q0) q1) q9) ?_
      rintro _ _ ⟨e1, e2⟩
      rw [e1, e2]
      show ro_w X _ 106 _ 42 [(0, .ref 48), (1, .int v1)] [] (xm_100 (xm_107 (xm_68 M 49 6 (xf_18 M))) (1 : Int64) (1 : Int64)) (0, 0)
      refine rs_goto (t := 94) ri_106_42 rfl ?_
      refine rs_ret ri_106_94 rm_106.2.1 (by decide) ?_
      exact ⟨by rfl, by unfold xm_106; first | (simp only [if_neg h3, if_pos h5]; done) | rfl⟩
theorem xl_106 {M : ro_Mm} {v1 : Int32} (hL : ro_lay M) (hp : xp_106 M v1) : ro_lay (xm_106 M v1) := by
  unfold xp_106 at hp
  unfold xm_106
  obtain ⟨q0, hp⟩ := hp
  obtain ⟨q1, hp⟩ := hp
  by_cases hz : v1 ≤ (0 : Int32)
  · have hp := hp.1 hz
    rw [if_pos hz]
    obtain ⟨q3, hp⟩ := hp
    exact (xl_100 (xl_107 (xl_68 hL (by unfold ro_ip; decide) (by unfold ro_ip; decide) q0) q1) q3)
  · have hp := hp.2 hz
    rw [if_neg hz]
    by_cases hz : ((xm_107 (xm_68 M 49 6 (xf_18 M))).2.1 48 7) = (0 : Int32)
    · have hp := hp.1 hz
      rw [if_pos hz]
      obtain ⟨q9, hp⟩ := hp
      exact (xl_100 (xl_107 (xl_68 hL (by unfold ro_ip; decide) (by unfold ro_ip; decide) q0) q1) q9)
    · have hp := hp.2 hz
      rw [if_neg hz]
      by_cases hz : v1 = (1 : Int32)
      · have hp := hp.1 hz
        rw [if_pos hz]
        obtain ⟨q8, hp⟩ := hp
        exact (xl_100 (xl_107 (xl_68 hL (by unfold ro_ip; decide) (by unfold ro_ip; decide) q0) q1) q8)
      · have hp := hp.2 hz
        rw [if_neg hz]
        obtain ⟨q6, hp⟩ := hp
        obtain ⟨q7, hp⟩ := hp
        exact (xl_100 (xl_108 (xl_107 (xl_68 hL (by unfold ro_ip; decide) (by unfold ro_ip; decide) q0) q1) q6) q7)
theorem xwI_106 {M : ro_Mm} {v1 : Int32} {c j : Nat} (n0 : c ≠ 50) (n1 : c ≠ 51) (n2 : c ≠ 48) (n3 : c ≠ 21) (n4 : c ≠ 16) (n5 : c ≠ 20) : (xm_106 M v1).2.1 c j = M.2.1 c j := by
  unfold xm_106
  by_cases hz : v1 ≤ (0 : Int32)
  · rw [if_pos hz]
    first | done | exact ((((xwI_100)).trans (xwI_107 n2 n3 n4 n5)).trans (xwI_68 n0 n1))
  · rw [if_neg hz]
    by_cases hz : ((xm_107 (xm_68 M 49 6 (xf_18 M))).2.1 48 7) = (0 : Int32)
    · rw [if_pos hz]
      first | done | exact ((((xwI_100)).trans (xwI_107 n2 n3 n4 n5)).trans (xwI_68 n0 n1))
    · rw [if_neg hz]
      by_cases hz : v1 = (1 : Int32)
      · rw [if_pos hz]
        first | done | exact ((((xwI_100)).trans (xwI_107 n2 n3 n4 n5)).trans (xwI_68 n0 n1))
      · rw [if_neg hz]
        first | done | exact (((((xwI_100)).trans (xwI_108 n3 n4 n5 n0 n2)).trans (xwI_107 n2 n3 n4 n5)).trans (xwI_68 n0 n1))
theorem xwJ_106 {M : ro_Mm} {v1 : Int32} {c j : Nat} (n0 : c ≠ 48) : (xm_106 M v1).2.2.1 c j = M.2.2.1 c j := by
  unfold xm_106
  by_cases hz : v1 ≤ (0 : Int32)
  · rw [if_pos hz]
    first | done | exact ((((xwJ_100 n0)).trans (xwJ_107)).trans (xwJ_68))
  · rw [if_neg hz]
    by_cases hz : ((xm_107 (xm_68 M 49 6 (xf_18 M))).2.1 48 7) = (0 : Int32)
    · rw [if_pos hz]
      first | done | exact ((((xwJ_100 n0)).trans (xwJ_107)).trans (xwJ_68))
    · rw [if_neg hz]
      by_cases hz : v1 = (1 : Int32)
      · rw [if_pos hz]
        first | done | exact ((((xwJ_100 n0)).trans (xwJ_107)).trans (xwJ_68))
      · rw [if_neg hz]
        first | done | exact (((((xwJ_100 n0)).trans (xwJ_108)).trans (xwJ_107)).trans (xwJ_68))
/-- a loop of RefusedOnce$Evening.draw(III)V -/
noncomputable def xg_141_55 : Nat → ro_Mm → Int32 → Int32 → Int32 → Int32 → Int32 → Int32 → Int32 → Int32 × Int32 × ro_Mm
  | 0, M, v7, v6, v5, v4, v1, v2, v3 => (v7, v4, M)
  | n + 1, M, v7, v6, v5, v4, v1, v2, v3 => (if v3 ≤ v7 then (v7, v4, M) else (xg_141_55 n (xm_142 M ((v4 * (1103515245 : Int32)) + (12345 : Int32)) v5) (v7 + (1 : Int32)) v6 v5 ((v4 * (1103515245 : Int32)) + (12345 : Int32)) v1 v2 v3))
def xq_141_55 : Nat → ro_Mm → Int32 → Int32 → Int32 → Int32 → Int32 → Int32 → Int32 → Prop
  | 0, _, _, _, _, _, _, _, _ => False
  | n + 1, M, v7, v6, v5, v4, v1, v2, v3 => ((v3 ≤ v7 → True) ∧ (¬ (v3 ≤ v7) → (xp_142 M ((v4 * (1103515245 : Int32)) + (12345 : Int32)) v5 ∧ (xq_141_55 n (xm_142 M ((v4 * (1103515245 : Int32)) + (12345 : Int32)) v5) (v7 + (1 : Int32)) v6 v5 ((v4 * (1103515245 : Int32)) + (12345 : Int32)) v1 v2 v3))))
theorem xl_141_55 : ∀ (n : Nat) {M : ro_Mm} {v7 : Int32} {v6 : Int32} {v5 : Int32} {v4 : Int32} {v1 : Int32} {v2 : Int32} {v3 : Int32} (hL : ro_lay M) (hp : xq_141_55 n M v7 v6 v5 v4 v1 v2 v3), ro_lay (xg_141_55 n M v7 v6 v5 v4 v1 v2 v3).2.2 := by
  intro n
  induction n with
  | zero => intro M v7 v6 v5 v4 v1 v2 v3 hL hp; exact False.elim hp
  | succ n ih =>
    intro M v7 v6 v5 v4 v1 v2 v3 hL hp
    rw [xq_141_55] at hp
    rw [xg_141_55]
    by_cases hz : v3 ≤ v7
    · have hp := hp.1 hz
      rw [if_pos hz]
      exact hL
    · have hp := hp.2 hz
      rw [if_neg hz]
      obtain ⟨q4, hp⟩ := hp
      exact ih (xl_142 hL q4)  hp
theorem xwI_141_55 : ∀ {n : Nat} {M : ro_Mm} {v7 : Int32} {v6 : Int32} {v5 : Int32} {v4 : Int32} {v1 : Int32} {v2 : Int32} {v3 : Int32} {c j : Nat} (n0 : c ≠ 21) (n1 : c ≠ 16) (n2 : c ≠ 20) (n3 : c ≠ 37) (n4 : c ≠ 38) (n5 : c ≠ 35), (xg_141_55 n M v7 v6 v5 v4 v1 v2 v3).2.2.2.1 c j = M.2.1 c j := by
  intro n
  induction n with
  | zero => intro M v7 v6 v5 v4 v1 v2 v3 c j n0 n1 n2 n3 n4 n5; rfl
  | succ n ih =>
    intro M v7 v6 v5 v4 v1 v2 v3 c j n0 n1 n2 n3 n4 n5
    rw [xg_141_55]
    by_cases hz : v3 ≤ v7
    · rw [if_pos hz]
      first | done | exact rfl
    · rw [if_neg hz]
      first | done | exact (((ih n0 n1 n2 n3 n4 n5)).trans (xwI_142 n0 n1 n2 n3 n4 n5))
theorem xwJ_141_55 : ∀ {n : Nat} {M : ro_Mm} {v7 : Int32} {v6 : Int32} {v5 : Int32} {v4 : Int32} {v1 : Int32} {v2 : Int32} {v3 : Int32} {c j : Nat}, (xg_141_55 n M v7 v6 v5 v4 v1 v2 v3).2.2.2.2.1 c j = M.2.2.1 c j := by
  intro n
  induction n with
  | zero => intro M v7 v6 v5 v4 v1 v2 v3 c j; rfl
  | succ n ih =>
    intro M v7 v6 v5 v4 v1 v2 v3 c j
    rw [xg_141_55]
    by_cases hz : v3 ≤ v7
    · rw [if_pos hz]
      first | done | exact rfl
    · rw [if_neg hz]
      first | done | exact (((ih)).trans (xwJ_142))
/-- a loop of RefusedOnce$Evening.draw(III)V -/
noncomputable def xg_141_89 : Nat → ro_Mm → Int32 → Int32 → Int32 → Int32 → Int32 → Int32 → Int32 → Int32 × ro_Mm
  | 0, M, v7, v6, v5, v4, v1, v2, v3 => (v7, M)
  | n + 1, M, v7, v6, v5, v4, v1, v2, v3 => (if v5 ≤ v7 then (v7, M) else (xg_141_89 n (ro_sI M 35 10 ((M.2.1 35 10) + (xf_31 M 36 v7))) (v7 + (1 : Int32)) v6 v5 v4 v1 v2 v3))
def xq_141_89 : Nat → ro_Mm → Int32 → Int32 → Int32 → Int32 → Int32 → Int32 → Int32 → Prop
  | 0, _, _, _, _, _, _, _, _ => False
  | n + 1, M, v7, v6, v5, v4, v1, v2, v3 => ((v5 ≤ v7 → True) ∧ (¬ (v5 ≤ v7) → (xq_141_89 n (ro_sI M 35 10 ((M.2.1 35 10) + (xf_31 M 36 v7))) (v7 + (1 : Int32)) v6 v5 v4 v1 v2 v3)))
theorem xl_141_89 : ∀ (n : Nat) {M : ro_Mm} {v7 : Int32} {v6 : Int32} {v5 : Int32} {v4 : Int32} {v1 : Int32} {v2 : Int32} {v3 : Int32} (hL : ro_lay M) (hp : xq_141_89 n M v7 v6 v5 v4 v1 v2 v3), ro_lay (xg_141_89 n M v7 v6 v5 v4 v1 v2 v3).2 := by
  intro n
  induction n with
  | zero => intro M v7 v6 v5 v4 v1 v2 v3 hL hp; exact False.elim hp
  | succ n ih =>
    intro M v7 v6 v5 v4 v1 v2 v3 hL hp
    rw [xq_141_89] at hp
    rw [xg_141_89]
    by_cases hz : v5 ≤ v7
    · have hp := hp.1 hz
      rw [if_pos hz]
      exact hL
    · have hp := hp.2 hz
      rw [if_neg hz]
      exact ih hL  hp
theorem xwI_141_89 : ∀ {n : Nat} {M : ro_Mm} {v7 : Int32} {v6 : Int32} {v5 : Int32} {v4 : Int32} {v1 : Int32} {v2 : Int32} {v3 : Int32} {c j : Nat} (n0 : c ≠ 35), (xg_141_89 n M v7 v6 v5 v4 v1 v2 v3).2.2.1 c j = M.2.1 c j := by
  intro n
  induction n with
  | zero => intro M v7 v6 v5 v4 v1 v2 v3 c j n0; rfl
  | succ n ih =>
    intro M v7 v6 v5 v4 v1 v2 v3 c j n0
    rw [xg_141_89]
    by_cases hz : v5 ≤ v7
    · rw [if_pos hz]
      first | done | exact rfl
    · rw [if_neg hz]
      first | done | exact (((ih n0)).trans (ro_sI_ne n0))
theorem xwJ_141_89 : ∀ {n : Nat} {M : ro_Mm} {v7 : Int32} {v6 : Int32} {v5 : Int32} {v4 : Int32} {v1 : Int32} {v2 : Int32} {v3 : Int32} {c j : Nat}, (xg_141_89 n M v7 v6 v5 v4 v1 v2 v3).2.2.2.1 c j = M.2.2.1 c j := by
  intro n
  induction n with
  | zero => intro M v7 v6 v5 v4 v1 v2 v3 c j; rfl
  | succ n ih =>
    intro M v7 v6 v5 v4 v1 v2 v3 c j
    rw [xg_141_89]
    by_cases hz : v5 ≤ v7
    · rw [if_pos hz]
      first | done | exact rfl
    · rw [if_neg hz]
      first | done | exact (((ih)).trans (congrFun (congrFun ro_sI_J _) _))
/-- a loop of RefusedOnce$Evening.draw(III)V -/
noncomputable def xg_141_25 : Nat → ro_Mm → Int32 → Int32 → Int32 → Int32 → Int32 → Int32 → Int32 × Int32 × ro_Mm
  | 0, M, v6, v5, v4, v1, v2, v3 => (v6, v4, M)
  | n + 1, M, v6, v5, v4, v1, v2, v3 => (if v2 ≤ v6 then (v6, v4, M) else (if v5 ≤ (0 : Int32) then (v6, v4, M) else (xg_141_25 n (xg_141_89 lp_N (xg_141_55 lp_N (xm_68 M 36 6 v5) (0 : Int32) v6 v5 v4 v1 v2 v3).2.2 (0 : Int32) v6 v5 (xg_141_55 lp_N (xm_68 M 36 6 v5) (0 : Int32) v6 v5 v4 v1 v2 v3).2.1 v1 v2 v3).2 (v6 + (1 : Int32)) v5 (xg_141_55 lp_N (xm_68 M 36 6 v5) (0 : Int32) v6 v5 v4 v1 v2 v3).2.1 v1 v2 v3)))
def xq_141_25 : Nat → ro_Mm → Int32 → Int32 → Int32 → Int32 → Int32 → Int32 → Prop
  | 0, _, _, _, _, _, _, _ => False
  | n + 1, M, v6, v5, v4, v1, v2, v3 => ((v2 ≤ v6 → True) ∧ (¬ (v2 ≤ v6) → ((v5 ≤ (0 : Int32) → True) ∧ (¬ (v5 ≤ (0 : Int32)) → (xp_68 M 36 6 v5 ∧ (xq_141_55 lp_N (xm_68 M 36 6 v5) (0 : Int32) v6 v5 v4 v1 v2 v3 ∧ (xq_141_89 lp_N (xg_141_55 lp_N (xm_68 M 36 6 v5) (0 : Int32) v6 v5 v4 v1 v2 v3).2.2 (0 : Int32) v6 v5 (xg_141_55 lp_N (xm_68 M 36 6 v5) (0 : Int32) v6 v5 v4 v1 v2 v3).2.1 v1 v2 v3 ∧ (xq_141_25 n (xg_141_89 lp_N (xg_141_55 lp_N (xm_68 M 36 6 v5) (0 : Int32) v6 v5 v4 v1 v2 v3).2.2 (0 : Int32) v6 v5 (xg_141_55 lp_N (xm_68 M 36 6 v5) (0 : Int32) v6 v5 v4 v1 v2 v3).2.1 v1 v2 v3).2 (v6 + (1 : Int32)) v5 (xg_141_55 lp_N (xm_68 M 36 6 v5) (0 : Int32) v6 v5 v4 v1 v2 v3).2.1 v1 v2 v3))))))))
theorem xl_141_25 : ∀ (n : Nat) {M : ro_Mm} {v6 : Int32} {v5 : Int32} {v4 : Int32} {v1 : Int32} {v2 : Int32} {v3 : Int32} (hL : ro_lay M) (hp : xq_141_25 n M v6 v5 v4 v1 v2 v3), ro_lay (xg_141_25 n M v6 v5 v4 v1 v2 v3).2.2 := by
  intro n
  induction n with
  | zero => intro M v6 v5 v4 v1 v2 v3 hL hp; exact False.elim hp
  | succ n ih =>
    intro M v6 v5 v4 v1 v2 v3 hL hp
    rw [xq_141_25] at hp
    rw [xg_141_25]
    by_cases hz : v2 ≤ v6
    · have hp := hp.1 hz
      rw [if_pos hz]
      exact hL
    · have hp := hp.2 hz
      rw [if_neg hz]
      by_cases hz : v5 ≤ (0 : Int32)
      · have hp := hp.1 hz
        rw [if_pos hz]
        exact hL
      · have hp := hp.2 hz
        rw [if_neg hz]
        obtain ⟨q2, hp⟩ := hp
        obtain ⟨q5, hp⟩ := hp
        obtain ⟨q7, hp⟩ := hp
        exact ih (xl_141_89 lp_N (xl_141_55 lp_N (xl_68 hL (by unfold ro_ip; decide) (by unfold ro_ip; decide) q2) q5) q7)  hp
theorem xwI_141_25 : ∀ {n : Nat} {M : ro_Mm} {v6 : Int32} {v5 : Int32} {v4 : Int32} {v1 : Int32} {v2 : Int32} {v3 : Int32} {c j : Nat} (n0 : c ≠ 37) (n1 : c ≠ 38) (n2 : c ≠ 21) (n3 : c ≠ 16) (n4 : c ≠ 20) (n5 : c ≠ 35), (xg_141_25 n M v6 v5 v4 v1 v2 v3).2.2.2.1 c j = M.2.1 c j := by
  intro n
  induction n with
  | zero => intro M v6 v5 v4 v1 v2 v3 c j n0 n1 n2 n3 n4 n5; rfl
  | succ n ih =>
    intro M v6 v5 v4 v1 v2 v3 c j n0 n1 n2 n3 n4 n5
    rw [xg_141_25]
    by_cases hz : v2 ≤ v6
    · rw [if_pos hz]
      first | done | exact rfl
    · rw [if_neg hz]
      by_cases hz : v5 ≤ (0 : Int32)
      · rw [if_pos hz]
        first | done | exact rfl
      · rw [if_neg hz]
        first | done | exact (((((ih n0 n1 n2 n3 n4 n5)).trans (xwI_141_89 n5)).trans (xwI_141_55 n2 n3 n4 n0 n1 n5)).trans (xwI_68 n0 n1))
theorem xwJ_141_25 : ∀ {n : Nat} {M : ro_Mm} {v6 : Int32} {v5 : Int32} {v4 : Int32} {v1 : Int32} {v2 : Int32} {v3 : Int32} {c j : Nat}, (xg_141_25 n M v6 v5 v4 v1 v2 v3).2.2.2.2.1 c j = M.2.2.1 c j := by
  intro n
  induction n with
  | zero => intro M v6 v5 v4 v1 v2 v3 c j; rfl
  | succ n ih =>
    intro M v6 v5 v4 v1 v2 v3 c j
    rw [xg_141_25]
    by_cases hz : v2 ≤ v6
    · rw [if_pos hz]
      first | done | exact rfl
    · rw [if_neg hz]
      by_cases hz : v5 ≤ (0 : Int32)
      · rw [if_pos hz]
        first | done | exact rfl
      · rw [if_neg hz]
        first | done | exact (((((ih)).trans (xwJ_141_89)).trans (xwJ_141_55)).trans (xwJ_68))
/-- RefusedOnce$Evening.draw(III)V -/
noncomputable def xm_141 (M : ro_Mm) (v1 : Int32) (v2 : Int32) (v3 : Int32) : ro_Mm := (xg_141_25 lp_N (ro_sI (ro_sI M 35 7 (0 : Int32)) 35 10 (0 : Int32)) (0 : Int32) (xf_18 (ro_sI (ro_sI M 35 7 (0 : Int32)) 35 10 (0 : Int32))) v1 v1 v2 v3).2.2
def xp_141 (M : ro_Mm) (v1 : Int32) (v2 : Int32) (v3 : Int32) : Prop := (xq_141_25 lp_N (ro_sI (ro_sI M 35 7 (0 : Int32)) 35 10 (0 : Int32)) (0 : Int32) (xf_18 (ro_sI (ro_sI M 35 7 (0 : Int32)) 35 10 (0 : Int32))) v1 v1 v2 v3 ∧ True)
theorem xl_141 {M : ro_Mm} {v1 : Int32} {v2 : Int32} {v3 : Int32} (hL : ro_lay M) (hp : xp_141 M v1 v2 v3) : ro_lay (xm_141 M v1 v2 v3) := by
  unfold xp_141 at hp
  unfold xm_141
  obtain ⟨q8, hp⟩ := hp
  exact (xl_141_25 lp_N hL q8)
theorem xwI_141 {M : ro_Mm} {v1 : Int32} {v2 : Int32} {v3 : Int32} {c j : Nat} (n0 : c ≠ 35) (n1 : c ≠ 37) (n2 : c ≠ 38) (n3 : c ≠ 21) (n4 : c ≠ 16) (n5 : c ≠ 20) : (xm_141 M v1 v2 v3).2.1 c j = M.2.1 c j := by
  unfold xm_141
  first | done | exact ((((xwI_141_25 n1 n2 n3 n4 n5 n0)).trans (ro_sI_ne n0)).trans (ro_sI_ne n0))
theorem xwJ_141 {M : ro_Mm} {v1 : Int32} {v2 : Int32} {v3 : Int32} {c j : Nat} : (xm_141 M v1 v2 v3).2.2.1 c j = M.2.2.1 c j := by
  unfold xm_141
  first | done | exact ((((xwJ_141_25)).trans (congrFun (congrFun ro_sI_J _) _)).trans (congrFun (congrFun ro_sI_J _) _))
/-- RefusedOnceModel.oddsOf(II)I -/
noncomputable def xf_229 (M : ro_Mm) (v1 : Int32) (v2 : Int32) : Int32 := (if (M.2.1 163 26) = (0 : Int32) then (if (0 : Int32) ≤ (((M.2.1 166 (v2.toNatClampNeg)) + ((M.2.1 168 1) / (3 : Int32))) - ((M.2.1 166 (v1.toNatClampNeg)) / (4 : Int32))) then (if (((M.2.1 166 (v2.toNatClampNeg)) + ((M.2.1 168 1) / (3 : Int32))) - ((M.2.1 166 (v1.toNatClampNeg)) / (4 : Int32))) ≤ (12 : Int32) then (((M.2.1 166 (v2.toNatClampNeg)) + ((M.2.1 168 1) / (3 : Int32))) - ((M.2.1 166 (v1.toNatClampNeg)) / (4 : Int32))) else (12 : Int32)) else (0 : Int32)) else (if (0 : Int32) ≤ (xf_230 (ro_sI (ro_sI (ro_sI (ro_sI (ro_sI (ro_sI M 179 0 (M.2.1 166 (v2.toNatClampNeg))) 179 1 (M.2.1 166 (v1.toNatClampNeg))) 179 2 (M.2.1 181 (v2.toNatClampNeg))) 179 3 (M.2.1 182 (v2.toNatClampNeg))) 179 4 (M.2.1 168 1)) 179 5 (M.2.1 168 0)) (0 : Int32)) then (if (xf_230 (ro_sI (ro_sI (ro_sI (ro_sI (ro_sI (ro_sI M 179 0 (M.2.1 166 (v2.toNatClampNeg))) 179 1 (M.2.1 166 (v1.toNatClampNeg))) 179 2 (M.2.1 181 (v2.toNatClampNeg))) 179 3 (M.2.1 182 (v2.toNatClampNeg))) 179 4 (M.2.1 168 1)) 179 5 (M.2.1 168 0)) (0 : Int32)) ≤ (12 : Int32) then (xf_230 (ro_sI (ro_sI (ro_sI (ro_sI (ro_sI (ro_sI M 179 0 (M.2.1 166 (v2.toNatClampNeg))) 179 1 (M.2.1 166 (v1.toNatClampNeg))) 179 2 (M.2.1 181 (v2.toNatClampNeg))) 179 3 (M.2.1 182 (v2.toNatClampNeg))) 179 4 (M.2.1 168 1)) 179 5 (M.2.1 168 0)) (0 : Int32)) else (12 : Int32)) else (0 : Int32)))
noncomputable def xm_229 (M : ro_Mm) (v1 : Int32) (v2 : Int32) : ro_Mm := (if (M.2.1 163 26) = (0 : Int32) then M else (xm_230 (ro_sI (ro_sI (ro_sI (ro_sI (ro_sI (ro_sI M 179 0 (M.2.1 166 (v2.toNatClampNeg))) 179 1 (M.2.1 166 (v1.toNatClampNeg))) 179 2 (M.2.1 181 (v2.toNatClampNeg))) 179 3 (M.2.1 182 (v2.toNatClampNeg))) 179 4 (M.2.1 168 1)) 179 5 (M.2.1 168 0)) (0 : Int32)))
def xp_229 (M : ro_Mm) (v1 : Int32) (v2 : Int32) : Prop := (vp_in v2 6 ∧ (vp_in v1 6 ∧ (((M.2.1 163 26) = (0 : Int32) → True) ∧ (¬ ((M.2.1 163 26) = (0 : Int32)) → (vp_in v2 6 ∧ (vp_in v1 6 ∧ (vp_in v2 6 ∧ (vp_in v2 6 ∧ (xp_230 (ro_sI (ro_sI (ro_sI (ro_sI (ro_sI (ro_sI M 179 0 (M.2.1 166 (v2.toNatClampNeg))) 179 1 (M.2.1 166 (v1.toNatClampNeg))) 179 2 (M.2.1 181 (v2.toNatClampNeg))) 179 3 (M.2.1 182 (v2.toNatClampNeg))) 179 4 (M.2.1 168 1)) 179 5 (M.2.1 168 0)) (0 : Int32) ∧ True)))))))))
theorem xl_229 {M : ro_Mm} {v1 : Int32} {v2 : Int32} (hL : ro_lay M) (hp : xp_229 M v1 v2) : ro_lay (xm_229 M v1 v2) := by
  unfold xp_229 at hp
  unfold xm_229
  obtain ⟨q0, hp⟩ := hp
  obtain ⟨q1, hp⟩ := hp
  by_cases hz : (M.2.1 163 26) = (0 : Int32)
  · have hp := hp.1 hz
    rw [if_pos hz]
    by_cases hz : (0 : Int32) ≤ (((M.2.1 166 (v2.toNatClampNeg)) + ((M.2.1 168 1) / (3 : Int32))) - ((M.2.1 166 (v1.toNatClampNeg)) / (4 : Int32)))
    · skip
      by_cases hz : (((M.2.1 166 (v2.toNatClampNeg)) + ((M.2.1 168 1) / (3 : Int32))) - ((M.2.1 166 (v1.toNatClampNeg)) / (4 : Int32))) ≤ (12 : Int32)
      · skip
        exact hL
      · skip
        exact hL
    · skip
      exact hL
  · have hp := hp.2 hz
    rw [if_neg hz]
    obtain ⟨q5, hp⟩ := hp
    obtain ⟨q6, hp⟩ := hp
    obtain ⟨q7, hp⟩ := hp
    obtain ⟨q8, hp⟩ := hp
    obtain ⟨q9, hp⟩ := hp
    by_cases hz : (0 : Int32) ≤ (xf_230 (ro_sI (ro_sI (ro_sI (ro_sI (ro_sI (ro_sI M 179 0 (M.2.1 166 (v2.toNatClampNeg))) 179 1 (M.2.1 166 (v1.toNatClampNeg))) 179 2 (M.2.1 181 (v2.toNatClampNeg))) 179 3 (M.2.1 182 (v2.toNatClampNeg))) 179 4 (M.2.1 168 1)) 179 5 (M.2.1 168 0)) (0 : Int32))
    · skip
      by_cases hz : (xf_230 (ro_sI (ro_sI (ro_sI (ro_sI (ro_sI (ro_sI M 179 0 (M.2.1 166 (v2.toNatClampNeg))) 179 1 (M.2.1 166 (v1.toNatClampNeg))) 179 2 (M.2.1 181 (v2.toNatClampNeg))) 179 3 (M.2.1 182 (v2.toNatClampNeg))) 179 4 (M.2.1 168 1)) 179 5 (M.2.1 168 0)) (0 : Int32)) ≤ (12 : Int32)
      · skip
        exact (xl_230 hL q9)
      · skip
        exact (xl_230 hL q9)
    · skip
      exact (xl_230 hL q9)
theorem xwI_229 {M : ro_Mm} {v1 : Int32} {v2 : Int32} {c j : Nat} (n0 : c ≠ 179) (n1 : c ≠ 180) : (xm_229 M v1 v2).2.1 c j = M.2.1 c j := by
  unfold xm_229
  by_cases hz : (M.2.1 163 26) = (0 : Int32)
  · rw [if_pos hz]
    first | done | exact rfl
  · rw [if_neg hz]
    first | done | exact ((((((((xwI_230 n1)).trans (ro_sI_ne n0)).trans (ro_sI_ne n0)).trans (ro_sI_ne n0)).trans (ro_sI_ne n0)).trans (ro_sI_ne n0)).trans (ro_sI_ne n0))
theorem xwJ_229 {M : ro_Mm} {v1 : Int32} {v2 : Int32} {c j : Nat} : (xm_229 M v1 v2).2.2.1 c j = M.2.2.1 c j := by
  unfold xm_229
  by_cases hz : (M.2.1 163 26) = (0 : Int32)
  · rw [if_pos hz]
    first | done | exact rfl
  · rw [if_neg hz]
    first | done | exact ((((((((xwJ_230)).trans (congrFun (congrFun ro_sI_J _) _)).trans (congrFun (congrFun ro_sI_J _) _)).trans (congrFun (congrFun ro_sI_J _) _)).trans (congrFun (congrFun ro_sI_J _) _)).trans (congrFun (congrFun ro_sI_J _) _)).trans (congrFun (congrFun ro_sI_J _) _))
/-- RefusedOnceModel.byHabit(II)Z -/
noncomputable def xf_243 (M : ro_Mm) (v1 : Int32) (v2 : Int32) : Bool := (if (xf_229 M v1 v2) < (M.2.1 168 2) then false else true)
noncomputable def xm_243 (M : ro_Mm) (v1 : Int32) (v2 : Int32) : ro_Mm := (xm_229 M v1 v2)
def xp_243 (M : ro_Mm) (v1 : Int32) (v2 : Int32) : Prop := (xp_229 M v1 v2 ∧ True)
theorem xl_243 {M : ro_Mm} {v1 : Int32} {v2 : Int32} (hL : ro_lay M) (hp : xp_243 M v1 v2) : ro_lay (xm_243 M v1 v2) := by
  unfold xp_243 at hp
  unfold xm_243
  obtain ⟨q0, hp⟩ := hp
  by_cases hz : (xf_229 M v1 v2) < (M.2.1 168 2)
  · skip
    exact (xl_229 hL q0)
  · skip
    exact (xl_229 hL q0)
theorem xwI_243 {M : ro_Mm} {v1 : Int32} {v2 : Int32} {c j : Nat} (n0 : c ≠ 179) (n1 : c ≠ 180) : (xm_243 M v1 v2).2.1 c j = M.2.1 c j := by
  unfold xm_243
  first | done | exact (xwI_229 n0 n1)
theorem xwJ_243 {M : ro_Mm} {v1 : Int32} {v2 : Int32} {c j : Nat} : (xm_243 M v1 v2).2.2.1 c j = M.2.2.1 c j := by
  unfold xm_243
  first | done | exact (xwJ_229)
/-- a loop of RefusedOnceModel.goRound(III)I -/
noncomputable def xg_249_10 : Nat → ro_Mm → Int32 → Int32 → Int32 → Int32 → Int32 → Bool × Int32 × Int32 × Int32 × ro_Mm
  | 0, M, v5, v4, v1, v2, v3 => (false, 0, v5, v4, M)
  | n + 1, M, v5, v4, v1, v2, v3 => (if v2 ≤ v5 then (false, 0, v5, v4, M) else (if ((v3 >>> (((v2 - (1 : Int32)) - v5) &&& 31)) &&& (1 : Int32)) = (1 : Int32) then (if (xf_240 M (xf_238 M v1 ((2 : Int32) * v5)) (xf_238 M v1 (((2 : Int32) * v5) + (1 : Int32)))) then (xg_249_10 n (xm_242 M (xf_238 M v1 ((2 : Int32) * v5)) (xf_238 M v1 (((2 : Int32) * v5) + (1 : Int32)))) (v5 + (1 : Int32)) v4 v1 v2 v3) else (true, (-2 : Int32), v5, v4, M)) else (if (xf_241 M (xf_238 M v1 ((2 : Int32) * v5)) (xf_238 M v1 (((2 : Int32) * v5) + (1 : Int32)))) then (if (xf_243 M (xf_238 M v1 ((2 : Int32) * v5)) (xf_238 M v1 (((2 : Int32) * v5) + (1 : Int32)))) then (if (xf_240 (xm_244 (xm_243 M (xf_238 M v1 ((2 : Int32) * v5)) (xf_238 M v1 (((2 : Int32) * v5) + (1 : Int32)))) (xf_238 M v1 ((2 : Int32) * v5))) (xf_238 M v1 ((2 : Int32) * v5)) (xf_238 M v1 (((2 : Int32) * v5) + (1 : Int32)))) then (xg_249_10 n (xm_242 (xm_244 (xm_243 M (xf_238 M v1 ((2 : Int32) * v5)) (xf_238 M v1 (((2 : Int32) * v5) + (1 : Int32)))) (xf_238 M v1 ((2 : Int32) * v5))) (xf_238 M v1 ((2 : Int32) * v5)) (xf_238 M v1 (((2 : Int32) * v5) + (1 : Int32)))) (v5 + (1 : Int32)) (v4 + (1 : Int32)) v1 v2 v3) else (true, (-2 : Int32), v5, v4, (xm_244 (xm_243 M (xf_238 M v1 ((2 : Int32) * v5)) (xf_238 M v1 (((2 : Int32) * v5) + (1 : Int32)))) (xf_238 M v1 ((2 : Int32) * v5))))) else (xg_249_10 n (xm_245 (xm_243 M (xf_238 M v1 ((2 : Int32) * v5)) (xf_238 M v1 (((2 : Int32) * v5) + (1 : Int32)))) (xf_238 M v1 ((2 : Int32) * v5)) (xf_238 M v1 (((2 : Int32) * v5) + (1 : Int32)))) (v5 + (1 : Int32)) v4 v1 v2 v3)) else (true, (-2 : Int32), v5, v4, M))))
def xq_249_10 : Nat → ro_Mm → Int32 → Int32 → Int32 → Int32 → Int32 → Prop
  | 0, _, _, _, _, _, _ => False
  | n + 1, M, v5, v4, v1, v2, v3 => ((v2 ≤ v5 → True) ∧ (¬ (v2 ≤ v5) → (xp_238 M v1 ((2 : Int32) * v5) ∧ (xp_238 M v1 (((2 : Int32) * v5) + (1 : Int32)) ∧ ((((v3 >>> (((v2 - (1 : Int32)) - v5) &&& 31)) &&& (1 : Int32)) = (1 : Int32) → (xp_240 M (xf_238 M v1 ((2 : Int32) * v5)) (xf_238 M v1 (((2 : Int32) * v5) + (1 : Int32))) ∧ (((xf_240 M (xf_238 M v1 ((2 : Int32) * v5)) (xf_238 M v1 (((2 : Int32) * v5) + (1 : Int32)))) → (xp_242 M (xf_238 M v1 ((2 : Int32) * v5)) (xf_238 M v1 (((2 : Int32) * v5) + (1 : Int32))) ∧ (xq_249_10 n (xm_242 M (xf_238 M v1 ((2 : Int32) * v5)) (xf_238 M v1 (((2 : Int32) * v5) + (1 : Int32)))) (v5 + (1 : Int32)) v4 v1 v2 v3))) ∧ (¬ ((xf_240 M (xf_238 M v1 ((2 : Int32) * v5)) (xf_238 M v1 (((2 : Int32) * v5) + (1 : Int32))))) → True)))) ∧ (¬ (((v3 >>> (((v2 - (1 : Int32)) - v5) &&& 31)) &&& (1 : Int32)) = (1 : Int32)) → (xp_241 M (xf_238 M v1 ((2 : Int32) * v5)) (xf_238 M v1 (((2 : Int32) * v5) + (1 : Int32))) ∧ (((xf_241 M (xf_238 M v1 ((2 : Int32) * v5)) (xf_238 M v1 (((2 : Int32) * v5) + (1 : Int32)))) → (xp_243 M (xf_238 M v1 ((2 : Int32) * v5)) (xf_238 M v1 (((2 : Int32) * v5) + (1 : Int32))) ∧ (((xf_243 M (xf_238 M v1 ((2 : Int32) * v5)) (xf_238 M v1 (((2 : Int32) * v5) + (1 : Int32)))) → (xp_244 (xm_243 M (xf_238 M v1 ((2 : Int32) * v5)) (xf_238 M v1 (((2 : Int32) * v5) + (1 : Int32)))) (xf_238 M v1 ((2 : Int32) * v5)) ∧ (xp_240 (xm_244 (xm_243 M (xf_238 M v1 ((2 : Int32) * v5)) (xf_238 M v1 (((2 : Int32) * v5) + (1 : Int32)))) (xf_238 M v1 ((2 : Int32) * v5))) (xf_238 M v1 ((2 : Int32) * v5)) (xf_238 M v1 (((2 : Int32) * v5) + (1 : Int32))) ∧ (((xf_240 (xm_244 (xm_243 M (xf_238 M v1 ((2 : Int32) * v5)) (xf_238 M v1 (((2 : Int32) * v5) + (1 : Int32)))) (xf_238 M v1 ((2 : Int32) * v5))) (xf_238 M v1 ((2 : Int32) * v5)) (xf_238 M v1 (((2 : Int32) * v5) + (1 : Int32)))) → (xp_242 (xm_244 (xm_243 M (xf_238 M v1 ((2 : Int32) * v5)) (xf_238 M v1 (((2 : Int32) * v5) + (1 : Int32)))) (xf_238 M v1 ((2 : Int32) * v5))) (xf_238 M v1 ((2 : Int32) * v5)) (xf_238 M v1 (((2 : Int32) * v5) + (1 : Int32))) ∧ (xq_249_10 n (xm_242 (xm_244 (xm_243 M (xf_238 M v1 ((2 : Int32) * v5)) (xf_238 M v1 (((2 : Int32) * v5) + (1 : Int32)))) (xf_238 M v1 ((2 : Int32) * v5))) (xf_238 M v1 ((2 : Int32) * v5)) (xf_238 M v1 (((2 : Int32) * v5) + (1 : Int32)))) (v5 + (1 : Int32)) (v4 + (1 : Int32)) v1 v2 v3))) ∧ (¬ ((xf_240 (xm_244 (xm_243 M (xf_238 M v1 ((2 : Int32) * v5)) (xf_238 M v1 (((2 : Int32) * v5) + (1 : Int32)))) (xf_238 M v1 ((2 : Int32) * v5))) (xf_238 M v1 ((2 : Int32) * v5)) (xf_238 M v1 (((2 : Int32) * v5) + (1 : Int32))))) → True))))) ∧ (¬ ((xf_243 M (xf_238 M v1 ((2 : Int32) * v5)) (xf_238 M v1 (((2 : Int32) * v5) + (1 : Int32))))) → (xp_245 (xm_243 M (xf_238 M v1 ((2 : Int32) * v5)) (xf_238 M v1 (((2 : Int32) * v5) + (1 : Int32)))) (xf_238 M v1 ((2 : Int32) * v5)) (xf_238 M v1 (((2 : Int32) * v5) + (1 : Int32))) ∧ (xq_249_10 n (xm_245 (xm_243 M (xf_238 M v1 ((2 : Int32) * v5)) (xf_238 M v1 (((2 : Int32) * v5) + (1 : Int32)))) (xf_238 M v1 ((2 : Int32) * v5)) (xf_238 M v1 (((2 : Int32) * v5) + (1 : Int32)))) (v5 + (1 : Int32)) v4 v1 v2 v3)))))) ∧ (¬ ((xf_241 M (xf_238 M v1 ((2 : Int32) * v5)) (xf_238 M v1 (((2 : Int32) * v5) + (1 : Int32))))) → True)))))))))
theorem xl_249_10 : ∀ (n : Nat) {M : ro_Mm} {v5 : Int32} {v4 : Int32} {v1 : Int32} {v2 : Int32} {v3 : Int32} (hL : ro_lay M) (hp : xq_249_10 n M v5 v4 v1 v2 v3), ro_lay (xg_249_10 n M v5 v4 v1 v2 v3).2.2.2.2 := by
  intro n
  induction n with
  | zero => intro M v5 v4 v1 v2 v3 hL hp; exact False.elim hp
  | succ n ih =>
    intro M v5 v4 v1 v2 v3 hL hp
    rw [xq_249_10] at hp
    rw [xg_249_10]
    by_cases hz : v2 ≤ v5
    · have hp := hp.1 hz
      rw [if_pos hz]
      exact hL
    · have hp := hp.2 hz
      rw [if_neg hz]
      obtain ⟨q2, hp⟩ := hp
      obtain ⟨q3, hp⟩ := hp
      by_cases hz : ((v3 >>> (((v2 - (1 : Int32)) - v5) &&& 31)) &&& (1 : Int32)) = (1 : Int32)
      · have hp := hp.1 hz
        rw [if_pos hz]
        obtain ⟨q14, hp⟩ := hp
        by_cases hz : (xf_240 M (xf_238 M v1 ((2 : Int32) * v5)) (xf_238 M v1 (((2 : Int32) * v5) + (1 : Int32))))
        · have hp := hp.1 hz
          rw [if_pos hz]
          obtain ⟨q16, hp⟩ := hp
          exact ih (xl_242 hL q16)  hp
        · have hp := hp.2 hz
          rw [if_neg hz]
          exact hL
      · have hp := hp.2 hz
        rw [if_neg hz]
        obtain ⟨q5, hp⟩ := hp
        by_cases hz : (xf_241 M (xf_238 M v1 ((2 : Int32) * v5)) (xf_238 M v1 (((2 : Int32) * v5) + (1 : Int32))))
        · have hp := hp.1 hz
          rw [if_pos hz]
          obtain ⟨q7, hp⟩ := hp
          by_cases hz : (xf_243 M (xf_238 M v1 ((2 : Int32) * v5)) (xf_238 M v1 (((2 : Int32) * v5) + (1 : Int32))))
          · have hp := hp.1 hz
            rw [if_pos hz]
            obtain ⟨q9, hp⟩ := hp
            obtain ⟨q10, hp⟩ := hp
            by_cases hz : (xf_240 (xm_244 (xm_243 M (xf_238 M v1 ((2 : Int32) * v5)) (xf_238 M v1 (((2 : Int32) * v5) + (1 : Int32)))) (xf_238 M v1 ((2 : Int32) * v5))) (xf_238 M v1 ((2 : Int32) * v5)) (xf_238 M v1 (((2 : Int32) * v5) + (1 : Int32))))
            · have hp := hp.1 hz
              rw [if_pos hz]
              obtain ⟨q12, hp⟩ := hp
              exact ih (xl_242 (xl_244 (xl_243 hL q7) q9) q12)  hp
            · have hp := hp.2 hz
              rw [if_neg hz]
              exact (xl_244 (xl_243 hL q7) q9)
          · have hp := hp.2 hz
            rw [if_neg hz]
            obtain ⟨q13, hp⟩ := hp
            exact ih (xl_245 (xl_243 hL q7) q13)  hp
        · have hp := hp.2 hz
          rw [if_neg hz]
          exact hL
theorem xwI_249_10 : ∀ {n : Nat} {M : ro_Mm} {v5 : Int32} {v4 : Int32} {v1 : Int32} {v2 : Int32} {v3 : Int32} {c j : Nat} (n0 : c ≠ 179) (n1 : c ≠ 180) (n2 : c ≠ 181) (n3 : c ≠ 182), (xg_249_10 n M v5 v4 v1 v2 v3).2.2.2.2.2.1 c j = M.2.1 c j := by
  intro n
  induction n with
  | zero => intro M v5 v4 v1 v2 v3 c j n0 n1 n2 n3; rfl
  | succ n ih =>
    intro M v5 v4 v1 v2 v3 c j n0 n1 n2 n3
    rw [xg_249_10]
    by_cases hz : v2 ≤ v5
    · rw [if_pos hz]
      first | done | exact rfl
    · rw [if_neg hz]
      by_cases hz : ((v3 >>> (((v2 - (1 : Int32)) - v5) &&& 31)) &&& (1 : Int32)) = (1 : Int32)
      · rw [if_pos hz]
        by_cases hz : (xf_240 M (xf_238 M v1 ((2 : Int32) * v5)) (xf_238 M v1 (((2 : Int32) * v5) + (1 : Int32))))
        · rw [if_pos hz]
          first | done | exact (((ih n0 n1 n2 n3)).trans (xwI_242 n3))
        · rw [if_neg hz]
          first | done | exact rfl
      · rw [if_neg hz]
        by_cases hz : (xf_241 M (xf_238 M v1 ((2 : Int32) * v5)) (xf_238 M v1 (((2 : Int32) * v5) + (1 : Int32))))
        · rw [if_pos hz]
          by_cases hz : (xf_243 M (xf_238 M v1 ((2 : Int32) * v5)) (xf_238 M v1 (((2 : Int32) * v5) + (1 : Int32))))
          · rw [if_pos hz]
            by_cases hz : (xf_240 (xm_244 (xm_243 M (xf_238 M v1 ((2 : Int32) * v5)) (xf_238 M v1 (((2 : Int32) * v5) + (1 : Int32)))) (xf_238 M v1 ((2 : Int32) * v5))) (xf_238 M v1 ((2 : Int32) * v5)) (xf_238 M v1 (((2 : Int32) * v5) + (1 : Int32))))
            · rw [if_pos hz]
              first | done | exact (((((ih n0 n1 n2 n3)).trans (xwI_242 n3)).trans (xwI_244 n2 n3)).trans (xwI_243 n0 n1))
            · rw [if_neg hz]
              first | done | exact (((xwI_244 n2 n3)).trans (xwI_243 n0 n1))
          · rw [if_neg hz]
            first | done | exact ((((ih n0 n1 n2 n3)).trans (xwI_245 n2)).trans (xwI_243 n0 n1))
        · rw [if_neg hz]
          first | done | exact rfl
theorem xwJ_249_10 : ∀ {n : Nat} {M : ro_Mm} {v5 : Int32} {v4 : Int32} {v1 : Int32} {v2 : Int32} {v3 : Int32} {c j : Nat}, (xg_249_10 n M v5 v4 v1 v2 v3).2.2.2.2.2.2.1 c j = M.2.2.1 c j := by
  intro n
  induction n with
  | zero => intro M v5 v4 v1 v2 v3 c j; rfl
  | succ n ih =>
    intro M v5 v4 v1 v2 v3 c j
    rw [xg_249_10]
    by_cases hz : v2 ≤ v5
    · rw [if_pos hz]
      first | done | exact rfl
    · rw [if_neg hz]
      by_cases hz : ((v3 >>> (((v2 - (1 : Int32)) - v5) &&& 31)) &&& (1 : Int32)) = (1 : Int32)
      · rw [if_pos hz]
        by_cases hz : (xf_240 M (xf_238 M v1 ((2 : Int32) * v5)) (xf_238 M v1 (((2 : Int32) * v5) + (1 : Int32))))
        · rw [if_pos hz]
          first | done | exact (((ih)).trans (xwJ_242))
        · rw [if_neg hz]
          first | done | exact rfl
      · rw [if_neg hz]
        by_cases hz : (xf_241 M (xf_238 M v1 ((2 : Int32) * v5)) (xf_238 M v1 (((2 : Int32) * v5) + (1 : Int32))))
        · rw [if_pos hz]
          by_cases hz : (xf_243 M (xf_238 M v1 ((2 : Int32) * v5)) (xf_238 M v1 (((2 : Int32) * v5) + (1 : Int32))))
          · rw [if_pos hz]
            by_cases hz : (xf_240 (xm_244 (xm_243 M (xf_238 M v1 ((2 : Int32) * v5)) (xf_238 M v1 (((2 : Int32) * v5) + (1 : Int32)))) (xf_238 M v1 ((2 : Int32) * v5))) (xf_238 M v1 ((2 : Int32) * v5)) (xf_238 M v1 (((2 : Int32) * v5) + (1 : Int32))))
            · rw [if_pos hz]
              first | done | exact (((((ih)).trans (xwJ_242)).trans (xwJ_244)).trans (xwJ_243))
            · rw [if_neg hz]
              first | done | exact (((xwJ_244)).trans (xwJ_243))
          · rw [if_neg hz]
            first | done | exact ((((ih)).trans (xwJ_245)).trans (xwJ_243))
        · rw [if_neg hz]
          first | done | exact rfl
/-- RefusedOnceModel.goRound(III)I -/
noncomputable def xf_249 (M : ro_Mm) (v1 : Int32) (v2 : Int32) (v3 : Int32) : Int32 := (if (xg_249_10 lp_N (xm_228 M) (0 : Int32) (0 : Int32) v1 v2 v3).1 = true then (xg_249_10 lp_N (xm_228 M) (0 : Int32) (0 : Int32) v1 v2 v3).2.1 else (xg_249_10 lp_N (xm_228 M) (0 : Int32) (0 : Int32) v1 v2 v3).2.2.2.1)
noncomputable def xm_249 (M : ro_Mm) (v1 : Int32) (v2 : Int32) (v3 : Int32) : ro_Mm := (xg_249_10 lp_N (xm_228 M) (0 : Int32) (0 : Int32) v1 v2 v3).2.2.2.2
def xp_249 (M : ro_Mm) (v1 : Int32) (v2 : Int32) (v3 : Int32) : Prop := (xp_228 M ∧ (xq_249_10 lp_N (xm_228 M) (0 : Int32) (0 : Int32) v1 v2 v3 ∧ True))
theorem xl_249 {M : ro_Mm} {v1 : Int32} {v2 : Int32} {v3 : Int32} (hL : ro_lay M) (hp : xp_249 M v1 v2 v3) : ro_lay (xm_249 M v1 v2 v3) := by
  unfold xp_249 at hp
  unfold xm_249
  obtain ⟨q0, hp⟩ := hp
  obtain ⟨q17, hp⟩ := hp
  by_cases hz : (xg_249_10 lp_N (xm_228 M) (0 : Int32) (0 : Int32) v1 v2 v3).1 = true
  · skip
    exact (xl_249_10 lp_N (xl_228 hL q0) q17)
  · skip
    exact (xl_249_10 lp_N (xl_228 hL q0) q17)
theorem xwI_249 {M : ro_Mm} {v1 : Int32} {v2 : Int32} {v3 : Int32} {c j : Nat} (n0 : c ≠ 181) (n1 : c ≠ 182) (n2 : c ≠ 179) (n3 : c ≠ 180) : (xm_249 M v1 v2 v3).2.1 c j = M.2.1 c j := by
  unfold xm_249
  first | done | exact (((xwI_249_10 n2 n3 n0 n1)).trans (xwI_228 n0 n1))
theorem xwJ_249 {M : ro_Mm} {v1 : Int32} {v2 : Int32} {v3 : Int32} {c j : Nat} : (xm_249 M v1 v2 v3).2.2.1 c j = M.2.2.1 c j := by
  unfold xm_249
  first | done | exact (((xwJ_249_10)).trans (xwJ_228))
/-- a loop of RefusedOnceModel.cleanest(I)I -/
noncomputable def xg_250_35 : Nat → ro_Mm → Int32 → Int32 → Int32 → Int32 → Int32 × Int32 × ro_Mm
  | 0, M, v4, v3, v2, v1 => (v4, v3, M)
  | n + 1, M, v4, v3, v2, v1 => (if ((1 : Int32) <<< (v2 &&& 31)) ≤ v4 then (v4, v3, M) else (if v2 ≤ (0 : Int32) then (v4, v3, M) else (if (0 : Int32) ≤ (xf_249 M v1 v2 v4) then (if (((4 : Int32) * ((xm_249 M v1 v2 v4).2.1 181 ((xf_238 (xm_249 M v1 v2 v4) v1 (0 : Int32)).toNatClampNeg))) + ((M.2.1 168 0) * ((xm_249 M v1 v2 v4).2.1 182 ((xf_238 (xm_249 M v1 v2 v4) v1 (0 : Int32)).toNatClampNeg)))) ≤ v3 then (xg_250_35 n (xm_249 M v1 v2 v4) (v4 + (1 : Int32)) v3 v2 v1) else (xg_250_35 n (xm_249 M v1 v2 v4) (v4 + (1 : Int32)) (((4 : Int32) * ((xm_249 M v1 v2 v4).2.1 181 ((xf_238 (xm_249 M v1 v2 v4) v1 (0 : Int32)).toNatClampNeg))) + ((M.2.1 168 0) * ((xm_249 M v1 v2 v4).2.1 182 ((xf_238 (xm_249 M v1 v2 v4) v1 (0 : Int32)).toNatClampNeg)))) v2 v1)) else (xg_250_35 n (xm_249 M v1 v2 v4) (v4 + (1 : Int32)) v3 v2 v1))))
def xq_250_35 : Nat → ro_Mm → Int32 → Int32 → Int32 → Int32 → Prop
  | 0, _, _, _, _, _ => False
  | n + 1, M, v4, v3, v2, v1 => ((((1 : Int32) <<< (v2 &&& 31)) ≤ v4 → True) ∧ (¬ (((1 : Int32) <<< (v2 &&& 31)) ≤ v4) → ((v2 ≤ (0 : Int32) → True) ∧ (¬ (v2 ≤ (0 : Int32)) → (xp_249 M v1 v2 v4 ∧ (((0 : Int32) ≤ (xf_249 M v1 v2 v4) → (xp_238 (xm_249 M v1 v2 v4) v1 (0 : Int32) ∧ (vp_in (xf_238 (xm_249 M v1 v2 v4) v1 (0 : Int32)) 6 ∧ (vp_in (xf_238 (xm_249 M v1 v2 v4) v1 (0 : Int32)) 6 ∧ (((((4 : Int32) * ((xm_249 M v1 v2 v4).2.1 181 ((xf_238 (xm_249 M v1 v2 v4) v1 (0 : Int32)).toNatClampNeg))) + ((M.2.1 168 0) * ((xm_249 M v1 v2 v4).2.1 182 ((xf_238 (xm_249 M v1 v2 v4) v1 (0 : Int32)).toNatClampNeg)))) ≤ v3 → (xq_250_35 n (xm_249 M v1 v2 v4) (v4 + (1 : Int32)) v3 v2 v1)) ∧ (¬ ((((4 : Int32) * ((xm_249 M v1 v2 v4).2.1 181 ((xf_238 (xm_249 M v1 v2 v4) v1 (0 : Int32)).toNatClampNeg))) + ((M.2.1 168 0) * ((xm_249 M v1 v2 v4).2.1 182 ((xf_238 (xm_249 M v1 v2 v4) v1 (0 : Int32)).toNatClampNeg)))) ≤ v3) → (xq_250_35 n (xm_249 M v1 v2 v4) (v4 + (1 : Int32)) (((4 : Int32) * ((xm_249 M v1 v2 v4).2.1 181 ((xf_238 (xm_249 M v1 v2 v4) v1 (0 : Int32)).toNatClampNeg))) + ((M.2.1 168 0) * ((xm_249 M v1 v2 v4).2.1 182 ((xf_238 (xm_249 M v1 v2 v4) v1 (0 : Int32)).toNatClampNeg)))) v2 v1))))))) ∧ (¬ ((0 : Int32) ≤ (xf_249 M v1 v2 v4)) → (xq_250_35 n (xm_249 M v1 v2 v4) (v4 + (1 : Int32)) v3 v2 v1))))))))
theorem xl_250_35 : ∀ (n : Nat) {M : ro_Mm} {v4 : Int32} {v3 : Int32} {v2 : Int32} {v1 : Int32} (hL : ro_lay M) (hp : xq_250_35 n M v4 v3 v2 v1), ro_lay (xg_250_35 n M v4 v3 v2 v1).2.2 := by
  intro n
  induction n with
  | zero => intro M v4 v3 v2 v1 hL hp; exact False.elim hp
  | succ n ih =>
    intro M v4 v3 v2 v1 hL hp
    rw [xq_250_35] at hp
    rw [xg_250_35]
    by_cases hz : ((1 : Int32) <<< (v2 &&& 31)) ≤ v4
    · have hp := hp.1 hz
      rw [if_pos hz]
      exact hL
    · have hp := hp.2 hz
      rw [if_neg hz]
      by_cases hz : v2 ≤ (0 : Int32)
      · have hp := hp.1 hz
        rw [if_pos hz]
        exact hL
      · have hp := hp.2 hz
        rw [if_neg hz]
        obtain ⟨q6, hp⟩ := hp
        by_cases hz : (0 : Int32) ≤ (xf_249 M v1 v2 v4)
        · have hp := hp.1 hz
          rw [if_pos hz]
          obtain ⟨q8, hp⟩ := hp
          obtain ⟨q9, hp⟩ := hp
          obtain ⟨q10, hp⟩ := hp
          by_cases hz : (((4 : Int32) * ((xm_249 M v1 v2 v4).2.1 181 ((xf_238 (xm_249 M v1 v2 v4) v1 (0 : Int32)).toNatClampNeg))) + ((M.2.1 168 0) * ((xm_249 M v1 v2 v4).2.1 182 ((xf_238 (xm_249 M v1 v2 v4) v1 (0 : Int32)).toNatClampNeg)))) ≤ v3
          · have hp := hp.1 hz
            rw [if_pos hz]
            exact ih (xl_249 hL q6)  hp
          · have hp := hp.2 hz
            rw [if_neg hz]
            exact ih (xl_249 hL q6)  hp
        · have hp := hp.2 hz
          rw [if_neg hz]
          exact ih (xl_249 hL q6)  hp
theorem xwI_250_35 : ∀ {n : Nat} {M : ro_Mm} {v4 : Int32} {v3 : Int32} {v2 : Int32} {v1 : Int32} {c j : Nat} (n0 : c ≠ 181) (n1 : c ≠ 182) (n2 : c ≠ 179) (n3 : c ≠ 180), (xg_250_35 n M v4 v3 v2 v1).2.2.2.1 c j = M.2.1 c j := by
  intro n
  induction n with
  | zero => intro M v4 v3 v2 v1 c j n0 n1 n2 n3; rfl
  | succ n ih =>
    intro M v4 v3 v2 v1 c j n0 n1 n2 n3
    rw [xg_250_35]
    by_cases hz : ((1 : Int32) <<< (v2 &&& 31)) ≤ v4
    · rw [if_pos hz]
      first | done | exact rfl
    · rw [if_neg hz]
      by_cases hz : v2 ≤ (0 : Int32)
      · rw [if_pos hz]
        first | done | exact rfl
      · rw [if_neg hz]
        by_cases hz : (0 : Int32) ≤ (xf_249 M v1 v2 v4)
        · rw [if_pos hz]
          by_cases hz : (((4 : Int32) * ((xm_249 M v1 v2 v4).2.1 181 ((xf_238 (xm_249 M v1 v2 v4) v1 (0 : Int32)).toNatClampNeg))) + ((M.2.1 168 0) * ((xm_249 M v1 v2 v4).2.1 182 ((xf_238 (xm_249 M v1 v2 v4) v1 (0 : Int32)).toNatClampNeg)))) ≤ v3
          · rw [if_pos hz]
            first | done | exact (((ih n0 n1 n2 n3)).trans (xwI_249 n0 n1 n2 n3))
          · rw [if_neg hz]
            first | done | exact (((ih n0 n1 n2 n3)).trans (xwI_249 n0 n1 n2 n3))
        · rw [if_neg hz]
          first | done | exact (((ih n0 n1 n2 n3)).trans (xwI_249 n0 n1 n2 n3))
theorem xwJ_250_35 : ∀ {n : Nat} {M : ro_Mm} {v4 : Int32} {v3 : Int32} {v2 : Int32} {v1 : Int32} {c j : Nat}, (xg_250_35 n M v4 v3 v2 v1).2.2.2.2.1 c j = M.2.2.1 c j := by
  intro n
  induction n with
  | zero => intro M v4 v3 v2 v1 c j; rfl
  | succ n ih =>
    intro M v4 v3 v2 v1 c j
    rw [xg_250_35]
    by_cases hz : ((1 : Int32) <<< (v2 &&& 31)) ≤ v4
    · rw [if_pos hz]
      first | done | exact rfl
    · rw [if_neg hz]
      by_cases hz : v2 ≤ (0 : Int32)
      · rw [if_pos hz]
        first | done | exact rfl
      · rw [if_neg hz]
        by_cases hz : (0 : Int32) ≤ (xf_249 M v1 v2 v4)
        · rw [if_pos hz]
          by_cases hz : (((4 : Int32) * ((xm_249 M v1 v2 v4).2.1 181 ((xf_238 (xm_249 M v1 v2 v4) v1 (0 : Int32)).toNatClampNeg))) + ((M.2.1 168 0) * ((xm_249 M v1 v2 v4).2.1 182 ((xf_238 (xm_249 M v1 v2 v4) v1 (0 : Int32)).toNatClampNeg)))) ≤ v3
          · rw [if_pos hz]
            first | done | exact (((ih)).trans (xwJ_249))
          · rw [if_neg hz]
            first | done | exact (((ih)).trans (xwJ_249))
        · rw [if_neg hz]
          first | done | exact (((ih)).trans (xwJ_249))
/-- RefusedOnceModel.cleanest(I)I -/
noncomputable def xf_250 (M : ro_Mm) (v1 : Int32) : Int32 := (if (xf_198 M v1) then (if (0 : Int32) ≤ (xf_235 M v1) then (xg_250_35 lp_N M (0 : Int32) (-2 : Int32) (xf_248 M v1) v1).2.1 else (xf_235 M v1)) else (-1 : Int32))
noncomputable def xm_250 (M : ro_Mm) (v1 : Int32) : ro_Mm := (if (xf_198 M v1) then (if (0 : Int32) ≤ (xf_235 M v1) then (xg_250_35 lp_N M (0 : Int32) (-2 : Int32) (xf_248 M v1) v1).2.2 else M) else M)
def xp_250 (M : ro_Mm) (v1 : Int32) : Prop := (((xf_198 M v1) → (xp_235 M v1 ∧ (((0 : Int32) ≤ (xf_235 M v1) → (xp_248 M v1 ∧ (xq_250_35 lp_N M (0 : Int32) (-2 : Int32) (xf_248 M v1) v1 ∧ True))) ∧ (¬ ((0 : Int32) ≤ (xf_235 M v1)) → (xp_235 M v1 ∧ True))))) ∧ (¬ ((xf_198 M v1)) → True))
theorem xl_250 {M : ro_Mm} {v1 : Int32} (hL : ro_lay M) (hp : xp_250 M v1) : ro_lay (xm_250 M v1) := by
  unfold xp_250 at hp
  unfold xm_250
  by_cases hz : (xf_198 M v1)
  · have hp := hp.1 hz
    rw [if_pos hz]
    obtain ⟨q1, hp⟩ := hp
    by_cases hz : (0 : Int32) ≤ (xf_235 M v1)
    · have hp := hp.1 hz
      rw [if_pos hz]
      obtain ⟨q3, hp⟩ := hp
      obtain ⟨q12, hp⟩ := hp
      exact (xl_250_35 lp_N hL q12)
    · have hp := hp.2 hz
      rw [if_neg hz]
      obtain ⟨q13, hp⟩ := hp
      exact hL
  · have hp := hp.2 hz
    rw [if_neg hz]
    exact hL
theorem xwI_250 {M : ro_Mm} {v1 : Int32} {c j : Nat} (n0 : c ≠ 181) (n1 : c ≠ 182) (n2 : c ≠ 179) (n3 : c ≠ 180) : (xm_250 M v1).2.1 c j = M.2.1 c j := by
  unfold xm_250
  by_cases hz : (xf_198 M v1)
  · rw [if_pos hz]
    by_cases hz : (0 : Int32) ≤ (xf_235 M v1)
    · rw [if_pos hz]
      first | done | exact (xwI_250_35 n0 n1 n2 n3)
    · rw [if_neg hz]
      first | done | exact rfl
  · rw [if_neg hz]
    first | done | exact rfl
theorem xwJ_250 {M : ro_Mm} {v1 : Int32} {c j : Nat} : (xm_250 M v1).2.2.1 c j = M.2.2.1 c j := by
  unfold xm_250
  by_cases hz : (xf_198 M v1)
  · rw [if_pos hz]
    by_cases hz : (0 : Int32) ≤ (xf_235 M v1)
    · rw [if_pos hz]
      first | done | exact (xwJ_250_35)
    · rw [if_neg hz]
      first | done | exact rfl
  · rw [if_neg hz]
    first | done | exact rfl

