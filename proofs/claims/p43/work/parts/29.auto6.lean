/-! methods with loops, by program (wip/whole/walk2.py, mk28.py 24 48) -/
/-- a loop of RefusedOnce$Law.number()V -/
noncomputable def xg_50_4 : Nat → ro_Mm → Int32 → Int32 → Int32 × Int32 × ro_Mm
  | 0, M, v2, v1 => (v2, v1, M)
  | n + 1, M, v2, v1 => (if (4 : Int32) ≤ v2 then (v2, v1, M) else (if (xf_49 M (xf_48 M)) then (xg_50_4 n (ro_sI M 16 6 ((M.2.1 16 6) + (1 : Int32))) (v2 + (1 : Int32)) (((v1 * (10 : Int32)) + (xf_48 M)) - (48 : Int32))) else (v2, v1, M)))
def xq_50_4 : Nat → ro_Mm → Int32 → Int32 → Prop
  | 0, _, _, _ => False
  | n + 1, M, v2, v1 => (((4 : Int32) ≤ v2 → True) ∧ (¬ ((4 : Int32) ≤ v2) → (((xf_49 M (xf_48 M)) → (xq_50_4 n (ro_sI M 16 6 ((M.2.1 16 6) + (1 : Int32))) (v2 + (1 : Int32)) (((v1 * (10 : Int32)) + (xf_48 M)) - (48 : Int32)))) ∧ (¬ ((xf_49 M (xf_48 M))) → True))))
theorem xt_50_4 {X : ro_Sx} {post : ro_Po} : ∀ (n : Nat) {M : ro_Mm} {v2 : Int32} {v1 : Int32} (hL : ro_lay M) (hp : xq_50_4 n M v2 v1) (hk : ro_w X 1 50 post 48 [(2, .int (xg_50_4 n M v2 v1).1), (1, .int (xg_50_4 n M v2 v1).2.1), (0, .ref 16)] [] (xg_50_4 n M v2 v1).2.2 (0, 0)), ro_w X 1 50 post 4 [(2, .int v2), (1, .int v1), (0, .ref 16)] [] M (0, 0) := by
  intro n
  induction n with
  | zero => intro M v2 v1 hL hp hk; exact False.elim hp
  | succ n ih =>
    intro M v2 v1 hL hp hk
    rw [xq_50_4] at hp
    refine rs_iload_n ri_50_4 rfl rfl ?_
    refine rs_iconst (v := (4 : Int32)) ri_50_5 rfl (by decide) ?_
    refine rs_icmp_ge (t := 48) ri_50_6 rfl rfl (fun h1 => ?_) (fun h1 => ?_)
    · skip
      have e : xg_50_4 (n + 1) M v2 v1 = (v2, v1, M) := by rw [xg_50_4]; first | (simp only [if_pos h1]; done) | rfl
      rw [e] at hk
      exact ro_w_lv (ro_sub_c rfl (ro_sub_c rfl (ro_sub_c rfl (ro_sub_n rfl)))) hk
    · have hp := hp.2 h1
      refine rs_aload_n ri_50_9 rfl rfl ?_
      refine rs_virt (As := []) (r := []) ri_50_10 rfl (by decide) rm_48.2.2.2 rm_48.2.2.1 rfl rfl rfl (by decide) (ro_kf (kd_16 hL)) (Nat.le_of_ble_eq_true rfl) (by decide) (by decide) (xs_48 (X := X) hL) ?_
      rintro _ _ ⟨e1, e2⟩
      rw [e1, e2]
      show ro_w X _ 50 _ 13 [(2, .int v2), (1, .int v1), (0, .ref 16)] [.int (xf_48 M)] M (0, 0)
      refine rs_stat (As := [.int (xf_48 M)]) (r := []) ri_50_13 rfl rm_49.2.2.2 rfl rfl rfl (Nat.le_of_ble_eq_true rfl) (by decide) (by decide) (xs_49 (X := X) hL) ?_
      rintro _ _ ⟨e1, e2⟩
      rw [e1, e2]
      show ro_w X _ 50 _ 16 [(2, .int v2), (1, .int v1), (0, .ref 16)] [.int (ro_b (xf_49 M (xf_48 M)))] M (0, 0)
      refine rs_ifeq_c (t := 48) ri_50_16 rfl rfl (fun h2 => ?_) (fun h2 => ?_)
      · skip
        have e : xg_50_4 (n + 1) M v2 v1 = (v2, v1, M) := by rw [xg_50_4]; first | (simp only [if_neg h1, if_neg h2]; done) | rfl
        rw [e] at hk
        exact ro_w_lv (ro_sub_c rfl (ro_sub_c rfl (ro_sub_c rfl (ro_sub_n rfl)))) hk
      · have hp := hp.1 h2
        refine rs_iload_n ri_50_19 rfl rfl ?_
        refine rs_bipush (v := (10 : Int32)) ri_50_20 rfl (by decide) ?_
        refine rs_imul (r := (v1 * (10 : Int32))) ri_50_22 rfl rfl ?_
        refine rs_aload_n ri_50_23 rfl rfl ?_
        refine rs_virt (As := []) (r := [.int (v1 * (10 : Int32))]) ri_50_24 rfl (by decide) rm_48.2.2.2 rm_48.2.2.1 rfl rfl rfl (by decide) (ro_kf (kd_16 hL)) (Nat.le_of_ble_eq_true rfl) (by decide) (by decide) (xs_48 (X := X) hL) ?_
        rintro _ _ ⟨e1, e2⟩
        rw [e1, e2]
        show ro_w X _ 50 _ 27 [(2, .int v2), (1, .int v1), (0, .ref 16)] [.int (xf_48 M), .int (v1 * (10 : Int32))] M (0, 0)
        refine rs_iadd (r := ((v1 * (10 : Int32)) + (xf_48 M))) ri_50_27 rfl rfl ?_
        refine rs_bipush (v := (48 : Int32)) ri_50_28 rfl (by decide) ?_
        refine rs_isub (r := (((v1 * (10 : Int32)) + (xf_48 M)) - (48 : Int32))) ri_50_30 rfl rfl ?_
        refine rs_istore_n (lv2 := [(1, .int (((v1 * (10 : Int32)) + (xf_48 M)) - (48 : Int32))), (2, .int v2), (0, .ref 16)]) ri_50_31 rfl rm_50.1 (by decide) rfl ?_
        refine rs_aload_n ri_50_32 rfl rfl ?_
        refine rs_dup ri_50_33 rfl rfl ?_
        refine rs_gf (v := .int (M.2.1 16 6)) ri_50_34 rfl (by decide) (ro_kf (kd_16 hL)) rfl rfl ?_
        refine rs_iconst (v := (1 : Int32)) ri_50_37 rfl (by decide) ?_
        refine rs_iadd (r := ((M.2.1 16 6) + (1 : Int32))) ri_50_38 rfl rfl ?_
        refine rs_pf (M2 := (ro_sI M 16 6 ((M.2.1 16 6) + (1 : Int32)))) ri_50_39 rfl (by decide) (ro_kf (kd_16 hL)) (fun h => absurd h (by decide)) (fun f h => h) ?_
        refine rs_iinc (v := (v2 + (1 : Int32))) (lv2 := [(2, .int (v2 + (1 : Int32))), (1, .int (((v1 * (10 : Int32)) + (xf_48 M)) - (48 : Int32))), (0, .ref 16)]) ri_50_42 rfl rfl rfl rm_50.1 (by decide) rfl ?_
        refine rs_goto (t := 4) ri_50_45 rfl ?_
        have e : xg_50_4 (n + 1) M v2 v1 = xg_50_4 n (ro_sI M 16 6 ((M.2.1 16 6) + (1 : Int32))) (v2 + (1 : Int32)) (((v1 * (10 : Int32)) + (xf_48 M)) - (48 : Int32)) := by rw [xg_50_4]; first | (simp only [if_neg h1, if_pos h2]; done) | rfl
        rw [e] at hk
        exact ro_w_lv (ro_sub_c rfl (ro_sub_c rfl (ro_sub_c rfl (ro_sub_n rfl)))) (ih hL  hp hk)
theorem xl_50_4 : ∀ (n : Nat) {M : ro_Mm} {v2 : Int32} {v1 : Int32} (hL : ro_lay M) (hp : xq_50_4 n M v2 v1), ro_lay (xg_50_4 n M v2 v1).2.2 := by
  intro n
  induction n with
  | zero => intro M v2 v1 hL hp; exact False.elim hp
  | succ n ih =>
    intro M v2 v1 hL hp
    rw [xq_50_4] at hp
    rw [xg_50_4]
    by_cases hz : (4 : Int32) ≤ v2
    · have hp := hp.1 hz
      rw [if_pos hz]
      exact hL
    · have hp := hp.2 hz
      rw [if_neg hz]
      by_cases hz : (xf_49 M (xf_48 M))
      · have hp := hp.1 hz
        rw [if_pos hz]
        exact ih hL  hp
      · have hp := hp.2 hz
        rw [if_neg hz]
        exact hL
theorem xwI_50_4 : ∀ {n : Nat} {M : ro_Mm} {v2 : Int32} {v1 : Int32} {c j : Nat} (n0 : c ≠ 16), (xg_50_4 n M v2 v1).2.2.2.1 c j = M.2.1 c j := by
  intro n
  induction n with
  | zero => intro M v2 v1 c j n0; rfl
  | succ n ih =>
    intro M v2 v1 c j n0
    rw [xg_50_4]
    by_cases hz : (4 : Int32) ≤ v2
    · rw [if_pos hz]
      first | done | exact rfl
    · rw [if_neg hz]
      by_cases hz : (xf_49 M (xf_48 M))
      · rw [if_pos hz]
        first | done | exact (((ih n0)).trans (ro_sI_ne n0))
      · rw [if_neg hz]
        first | done | exact rfl
theorem xwJ_50_4 : ∀ {n : Nat} {M : ro_Mm} {v2 : Int32} {v1 : Int32} {c j : Nat}, (xg_50_4 n M v2 v1).2.2.2.2.1 c j = M.2.2.1 c j := by
  intro n
  induction n with
  | zero => intro M v2 v1 c j; rfl
  | succ n ih =>
    intro M v2 v1 c j
    rw [xg_50_4]
    by_cases hz : (4 : Int32) ≤ v2
    · rw [if_pos hz]
      first | done | exact rfl
    · rw [if_neg hz]
      by_cases hz : (xf_49 M (xf_48 M))
      · rw [if_pos hz]
        first | done | exact (((ih)).trans (congrFun (congrFun ro_sI_J _) _))
      · rw [if_neg hz]
        first | done | exact rfl
/-- RefusedOnce$Law.number()V -/
noncomputable def xm_50 (M : ro_Mm) : ro_Mm := (xm_51 (xg_50_4 lp_N M (0 : Int32) (0 : Int32)).2.2 (xg_50_4 lp_N M (0 : Int32) (0 : Int32)).2.1)
def xp_50 (M : ro_Mm) : Prop := (xq_50_4 lp_N M (0 : Int32) (0 : Int32) ∧ True)
theorem xs_50 {X : ro_Sx} {M : ro_Mm} (hL : ro_lay M) (hp : xp_50 M) : ro_cwp X 2 50 [.ref 16] M (fun v M2 => v = none ∧ M2 = xm_50 M) := by
  refine rs_begin (lv0 := [(0, .ref 16)]) (by decide) rfl (by rw [rm_50.1]; exact Nat.le_of_ble_eq_true rfl) rfl ?_
  unfold xp_50 at hp
  refine rs_iconst (v := (0 : Int32)) ri_50_0 rfl (by decide) ?_
  refine rs_istore_n (lv2 := [(1, .int (0 : Int32)), (0, .ref 16)]) ri_50_1 rfl rm_50.1 (by decide) rfl ?_
  refine rs_iconst (v := (0 : Int32)) ri_50_2 rfl (by decide) ?_
  refine rs_istore_n (lv2 := [(2, .int (0 : Int32)), (1, .int (0 : Int32)), (0, .ref 16)]) ri_50_3 rfl rm_50.1 (by decide) rfl ?_
  obtain ⟨q2, hp⟩ := hp
  refine xt_50_4 lp_N hL q2 ?_
  refine rs_aload_n ri_50_48 rfl rfl ?_
  refine rs_iload_n ri_50_49 rfl rfl ?_
  refine rs_virt (As := [.int (xg_50_4 lp_N M (0 : Int32) (0 : Int32)).2.1]) (r := []) ri_50_50 rfl (by decide) rm_51.2.2.2 rm_51.2.2.1 rfl rfl rfl (by decide) (ro_kf (kd_16 (xl_50_4 lp_N hL q2))) (Nat.le_of_ble_eq_true rfl) (by decide) (by decide) (xs_51 (X := X) (xl_50_4 lp_N hL q2)) ?_
  rintro _ _ ⟨e1, e2⟩
  rw [e1, e2]
  show ro_w X _ 50 _ 53 [(2, .int (xg_50_4 lp_N M (0 : Int32) (0 : Int32)).1), (1, .int (xg_50_4 lp_N M (0 : Int32) (0 : Int32)).2.1), (0, .ref 16)] [] (xm_51 (xg_50_4 lp_N M (0 : Int32) (0 : Int32)).2.2 (xg_50_4 lp_N M (0 : Int32) (0 : Int32)).2.1) (0, 0)
  refine rs_ret ri_50_53 rm_50.2.1 (by decide) ?_
  exact ⟨by rfl, by rfl⟩
theorem xl_50 {M : ro_Mm} (hL : ro_lay M) (hp : xp_50 M) : ro_lay (xm_50 M) := by
  unfold xp_50 at hp
  unfold xm_50
  obtain ⟨q2, hp⟩ := hp
  exact (xl_51 (xl_50_4 lp_N hL q2))
theorem xwI_50 {M : ro_Mm} {c j : Nat} (n0 : c ≠ 16) (n1 : c ≠ 18) : (xm_50 M).2.1 c j = M.2.1 c j := by
  unfold xm_50
  first | done | exact (((xwI_51 n1 n0)).trans (xwI_50_4 n0))
theorem xwJ_50 {M : ro_Mm} {c j : Nat} : (xm_50 M).2.2.1 c j = M.2.2.1 c j := by
  unfold xm_50
  first | done | exact (((xwJ_51)).trans (xwJ_50_4))
/-- a loop of RefusedOnce$Law.worked()I -/
noncomputable def xg_60_7 : Nat → ro_Mm → Int32 → Bool × Int32 × Int32 × ro_Mm
  | 0, M, v1 => (false, 0, v1, M)
  | n + 1, M, v1 => (if (M.2.1 16 8) ≤ v1 then (false, 0, v1, M) else (if (121 : Int32) ≤ v1 then (false, 0, v1, M) else (if (M.2.1 19 (v1.toNatClampNeg)) = (-59 : Int32) then (true, (xf_61 M), v1, (xm_61 M)) else (if (M.2.1 19 (v1.toNatClampNeg)) = (-63 : Int32) then (if (xf_61 (xm_61 M)) = (0 : Int32) then (xg_60_7 n (xm_61 (xm_61 M)) (v1 + (1 : Int32))) else (true, (xf_61 M), v1, (xm_61 (xm_61 M)))) else (if (M.2.1 19 (v1.toNatClampNeg)) < (0 : Int32) then (if (xf_52 M (-(M.2.1 19 (v1.toNatClampNeg)))) < (0 : Int32) then (if (M.2.1 19 (v1.toNatClampNeg)) = (-33 : Int32) then (if (xf_61 M) = (0 : Int32) then (xg_60_7 n (xm_62 (xm_61 M) (1 : Int32)) (v1 + (1 : Int32))) else (xg_60_7 n (xm_62 (xm_61 M) (0 : Int32)) (v1 + (1 : Int32)))) else (if (M.2.1 19 (v1.toNatClampNeg)) = (-126 : Int32) then (xg_60_7 n (xm_62 (xm_61 M) (-(xf_61 M))) (v1 + (1 : Int32))) else (xg_60_7 n (xm_62 (xm_61 (xm_61 M)) (xf_63 (xm_61 (xm_61 M)) (-(M.2.1 19 (v1.toNatClampNeg))) (xf_61 (xm_61 M)) (xf_61 M))) (v1 + (1 : Int32))))) else (if (6 : Int32) ≤ (xf_52 M (-(M.2.1 19 (v1.toNatClampNeg)))) then (if (M.2.1 19 (v1.toNatClampNeg)) = (-33 : Int32) then (if (xf_61 M) = (0 : Int32) then (xg_60_7 n (xm_62 (xm_61 M) (1 : Int32)) (v1 + (1 : Int32))) else (xg_60_7 n (xm_62 (xm_61 M) (0 : Int32)) (v1 + (1 : Int32)))) else (if (M.2.1 19 (v1.toNatClampNeg)) = (-126 : Int32) then (xg_60_7 n (xm_62 (xm_61 M) (-(xf_61 M))) (v1 + (1 : Int32))) else (xg_60_7 n (xm_62 (xm_61 (xm_61 M)) (xf_63 (xm_61 (xm_61 M)) (-(M.2.1 19 (v1.toNatClampNeg))) (xf_61 (xm_61 M)) (xf_61 M))) (v1 + (1 : Int32))))) else (xg_60_7 n (xm_62 M (M.2.1 21 ((xf_52 M (-(M.2.1 19 (v1.toNatClampNeg)))).toNatClampNeg))) (v1 + (1 : Int32))))) else (xg_60_7 n (xm_62 M (M.2.1 19 (v1.toNatClampNeg))) (v1 + (1 : Int32))))))))
def xq_60_7 : Nat → ro_Mm → Int32 → Prop
  | 0, _, _ => False
  | n + 1, M, v1 => (((M.2.1 16 8) ≤ v1 → True) ∧ (¬ ((M.2.1 16 8) ≤ v1) → (((121 : Int32) ≤ v1 → True) ∧ (¬ ((121 : Int32) ≤ v1) → (vp_in v1 121 ∧ (((M.2.1 19 (v1.toNatClampNeg)) = (-59 : Int32) → (xp_61 M ∧ True)) ∧ (¬ ((M.2.1 19 (v1.toNatClampNeg)) = (-59 : Int32)) → (((M.2.1 19 (v1.toNatClampNeg)) = (-63 : Int32) → (xp_61 M ∧ (xp_61 (xm_61 M) ∧ (((xf_61 (xm_61 M)) = (0 : Int32) → (xq_60_7 n (xm_61 (xm_61 M)) (v1 + (1 : Int32)))) ∧ (¬ ((xf_61 (xm_61 M)) = (0 : Int32)) → True))))) ∧ (¬ ((M.2.1 19 (v1.toNatClampNeg)) = (-63 : Int32)) → (((M.2.1 19 (v1.toNatClampNeg)) < (0 : Int32) → (((xf_52 M (-(M.2.1 19 (v1.toNatClampNeg)))) < (0 : Int32) → (((M.2.1 19 (v1.toNatClampNeg)) = (-33 : Int32) → (xp_61 M ∧ (((xf_61 M) = (0 : Int32) → (xq_60_7 n (xm_62 (xm_61 M) (1 : Int32)) (v1 + (1 : Int32)))) ∧ (¬ ((xf_61 M) = (0 : Int32)) → (xq_60_7 n (xm_62 (xm_61 M) (0 : Int32)) (v1 + (1 : Int32))))))) ∧ (¬ ((M.2.1 19 (v1.toNatClampNeg)) = (-33 : Int32)) → (((M.2.1 19 (v1.toNatClampNeg)) = (-126 : Int32) → (xp_61 M ∧ (xq_60_7 n (xm_62 (xm_61 M) (-(xf_61 M))) (v1 + (1 : Int32))))) ∧ (¬ ((M.2.1 19 (v1.toNatClampNeg)) = (-126 : Int32)) → (xp_61 M ∧ (xp_61 (xm_61 M) ∧ (xq_60_7 n (xm_62 (xm_61 (xm_61 M)) (xf_63 (xm_61 (xm_61 M)) (-(M.2.1 19 (v1.toNatClampNeg))) (xf_61 (xm_61 M)) (xf_61 M))) (v1 + (1 : Int32)))))))))) ∧ (¬ ((xf_52 M (-(M.2.1 19 (v1.toNatClampNeg)))) < (0 : Int32)) → (((6 : Int32) ≤ (xf_52 M (-(M.2.1 19 (v1.toNatClampNeg)))) → (((M.2.1 19 (v1.toNatClampNeg)) = (-33 : Int32) → (xp_61 M ∧ (((xf_61 M) = (0 : Int32) → (xq_60_7 n (xm_62 (xm_61 M) (1 : Int32)) (v1 + (1 : Int32)))) ∧ (¬ ((xf_61 M) = (0 : Int32)) → (xq_60_7 n (xm_62 (xm_61 M) (0 : Int32)) (v1 + (1 : Int32))))))) ∧ (¬ ((M.2.1 19 (v1.toNatClampNeg)) = (-33 : Int32)) → (((M.2.1 19 (v1.toNatClampNeg)) = (-126 : Int32) → (xp_61 M ∧ (xq_60_7 n (xm_62 (xm_61 M) (-(xf_61 M))) (v1 + (1 : Int32))))) ∧ (¬ ((M.2.1 19 (v1.toNatClampNeg)) = (-126 : Int32)) → (xp_61 M ∧ (xp_61 (xm_61 M) ∧ (xq_60_7 n (xm_62 (xm_61 (xm_61 M)) (xf_63 (xm_61 (xm_61 M)) (-(M.2.1 19 (v1.toNatClampNeg))) (xf_61 (xm_61 M)) (xf_61 M))) (v1 + (1 : Int32)))))))))) ∧ (¬ ((6 : Int32) ≤ (xf_52 M (-(M.2.1 19 (v1.toNatClampNeg))))) → (xq_60_7 n (xm_62 M (M.2.1 21 ((xf_52 M (-(M.2.1 19 (v1.toNatClampNeg)))).toNatClampNeg))) (v1 + (1 : Int32)))))))) ∧ (¬ ((M.2.1 19 (v1.toNatClampNeg)) < (0 : Int32)) → (xq_60_7 n (xm_62 M (M.2.1 19 (v1.toNatClampNeg))) (v1 + (1 : Int32))))))))))))))
theorem xt_60_7 {X : ro_Sx} {post : ro_Po} : ∀ (n : Nat) {M : ro_Mm} {v1 : Int32} (hL : ro_lay M) (hp : xq_60_7 n M v1) (hk : ¬ (xg_60_7 n M v1).1 = true → ro_w X 1 60 post 181 [(1, .int (xg_60_7 n M v1).2.2.1), (0, .ref 16)] [] (xg_60_7 n M v1).2.2.2 (0, 0)) (hr : (xg_60_7 n M v1).1 = true → post (some (.int (xg_60_7 n M v1).2.1)) (xg_60_7 n M v1).2.2.2), ro_w X 1 60 post 7 [(1, .int v1), (0, .ref 16)] [] M (0, 0) := by
  intro n
  induction n with
  | zero => intro M v1 hL hp hk hr; exact False.elim hp
  | succ n ih =>
    intro M v1 hL hp hk hr
    rw [xq_60_7] at hp
    refine rs_iload_n ri_60_7 rfl rfl ?_
    refine rs_aload_n ri_60_8 rfl rfl ?_
    refine rs_gf (v := .int (M.2.1 16 8)) ri_60_9 rfl (by decide) (ro_kf (kd_16 hL)) rfl rfl ?_
    refine rs_icmp_ge (t := 181) ri_60_12 rfl rfl (fun h1 => ?_) (fun h1 => ?_)
    · skip
      have e : xg_60_7 (n + 1) M v1 = (false, 0, v1, M) := by rw [xg_60_7]; first | (simp only [if_pos h1]; done) | rfl
      rw [e] at hk hr
      exact ro_w_lv (ro_sub_c rfl (ro_sub_c rfl (ro_sub_n rfl))) (hk (fun z => Bool.noConfusion z))
    · have hp := hp.2 h1
      refine rs_iload_n ri_60_15 rfl rfl ?_
      refine rs_aload_n ri_60_16 rfl rfl ?_
      refine rs_gf (v := .ref 19) ri_60_17 rfl (by decide) (ro_kf (kd_16 hL)) rfl (rf_16_2 hL) ?_
      refine rs_len (v := (121 : Int32)) ri_60_20 rfl (by decide) (kd_19 hL) (by decide) rfl ?_
      refine rs_icmp_ge (t := 181) ri_60_21 rfl rfl (fun h2 => ?_) (fun h2 => ?_)
      · skip
        have e : xg_60_7 (n + 1) M v1 = (false, 0, v1, M) := by rw [xg_60_7]; first | (simp only [if_neg h1, if_pos h2]; done) | rfl
        rw [e] at hk hr
        exact ro_w_lv (ro_sub_c rfl (ro_sub_c rfl (ro_sub_n rfl))) (hk (fun z => Bool.noConfusion z))
      · have hp := hp.2 h2
        refine rs_aload_n ri_60_24 rfl rfl ?_
        refine rs_gf (v := .ref 19) ri_60_25 rfl (by decide) (ro_kf (kd_16 hL)) rfl (rf_16_2 hL) ?_
        refine rs_iload_n ri_60_28 rfl rfl ?_
        obtain ⟨q2, hp⟩ := hp
        refine rs_iald (v := (M.2.1 19 (v1.toNatClampNeg))) ri_60_29 rfl (by decide) (kd_19 hL) q2 rfl ?_
        refine rs_istore_n (lv2 := [(2, .int (M.2.1 19 (v1.toNatClampNeg))), (1, .int v1), (0, .ref 16)]) ri_60_30 rfl rm_60.1 (by decide) rfl ?_
        refine rs_iload_n ri_60_31 rfl rfl ?_
        refine rs_ineg (r := (-(M.2.1 19 (v1.toNatClampNeg)))) ri_60_32 rfl rfl ?_
        refine rs_stat (As := [.int (-(M.2.1 19 (v1.toNatClampNeg)))]) (r := []) ri_60_33 rfl rm_52.2.2.2 rfl rfl rfl (Nat.le_of_ble_eq_true rfl) (by decide) (by decide) (xs_52 (X := X) hL) ?_
        rintro _ _ ⟨e1, e2⟩
        rw [e1, e2]
        show ro_w X _ 60 _ 36 [(2, .int (M.2.1 19 (v1.toNatClampNeg))), (1, .int v1), (0, .ref 16)] [.int (xf_52 M (-(M.2.1 19 (v1.toNatClampNeg))))] M (0, 0)
        refine rs_istore_n (lv2 := [(3, .int (xf_52 M (-(M.2.1 19 (v1.toNatClampNeg))))), (2, .int (M.2.1 19 (v1.toNatClampNeg))), (1, .int v1), (0, .ref 16)]) ri_60_36 rfl rm_60.1 (by decide) rfl ?_
        refine rs_iload_n ri_60_37 rfl rfl ?_
        refine rs_bipush (v := (-59 : Int32)) ri_60_38 rfl (by decide) ?_
        refine rs_icmp_ne (t := 48) ri_60_40 rfl rfl (fun h4 => ?_) (fun h4 => ?_)
        · have hp := hp.2 h4
          refine rs_iload_n ri_60_48 rfl rfl ?_
          refine rs_bipush (v := (-63 : Int32)) ri_60_49 rfl (by decide) ?_
          refine rs_icmp_ne (t := 73) ri_60_51 rfl rfl (fun h5 => ?_) (fun h5 => ?_)
          · have hp := hp.2 h5
            refine rs_iload_n ri_60_73 rfl rfl ?_
            refine rs_if_lt (t := 85) ri_60_74 rfl rfl (fun h6 => ?_) (fun h6 => ?_)
            · have hp := hp.1 h6
              refine rs_iload_n ri_60_85 rfl rfl ?_
              refine rs_if_lt (t := 111) ri_60_86 rfl rfl (fun h7 => ?_) (fun h7 => ?_)
              · have hp := hp.1 h7
                refine rs_iload_n ri_60_111 rfl rfl ?_
                refine rs_bipush (v := (-33 : Int32)) ri_60_112 rfl (by decide) ?_
                refine rs_icmp_ne (t := 136) ri_60_114 rfl rfl (fun h8 => ?_) (fun h8 => ?_)
                · have hp := hp.2 h8
                  refine rs_iload_n ri_60_136 rfl rfl ?_
                  refine rs_bipush (v := (-126 : Int32)) ri_60_137 rfl (by decide) ?_
                  refine rs_icmp_ne (t := 154) ri_60_139 rfl rfl (fun h9 => ?_) (fun h9 => ?_)
                  · have hp := hp.2 h9
                    refine rs_aload_n ri_60_154 rfl rfl ?_
                    obtain ⟨q9, hp⟩ := hp
                    refine rs_virt (As := []) (r := []) ri_60_155 rfl (by decide) rm_61.2.2.2 rm_61.2.2.1 rfl rfl rfl (by decide) (ro_kf (kd_16 hL)) (Nat.le_of_ble_eq_true rfl) (by decide) (by decide) (xs_61 (X := X) hL q9) ?_
                    rintro _ _ ⟨e1, e2⟩
                    rw [e1, e2]
                    show ro_w X _ 60 _ 158 [(3, .int (xf_52 M (-(M.2.1 19 (v1.toNatClampNeg))))), (2, .int (M.2.1 19 (v1.toNatClampNeg))), (1, .int v1), (0, .ref 16)] [.int (xf_61 M)] (xm_61 M) (0, 0)
                    refine rs_istore (lv2 := [(4, .int (xf_61 M)), (3, .int (xf_52 M (-(M.2.1 19 (v1.toNatClampNeg))))), (2, .int (M.2.1 19 (v1.toNatClampNeg))), (1, .int v1), (0, .ref 16)]) ri_60_158 rfl rm_60.1 (by decide) rfl ?_
                    refine rs_aload_n ri_60_160 rfl rfl ?_
                    refine rs_iload_n ri_60_161 rfl rfl ?_
                    refine rs_ineg (r := (-(M.2.1 19 (v1.toNatClampNeg)))) ri_60_162 rfl rfl ?_
                    refine rs_aload_n ri_60_163 rfl rfl ?_
                    obtain ⟨q10, hp⟩ := hp
                    refine rs_virt (As := []) (r := [.int (-(M.2.1 19 (v1.toNatClampNeg))), .ref 16]) ri_60_164 rfl (by decide) rm_61.2.2.2 rm_61.2.2.1 rfl rfl rfl (by decide) (ro_kf (kd_16 (xl_61 hL q9))) (Nat.le_of_ble_eq_true rfl) (by decide) (by decide) (xs_61 (X := X) (xl_61 hL q9) q10) ?_
                    rintro _ _ ⟨e1, e2⟩
                    rw [e1, e2]
                    show ro_w X _ 60 _ 167 [(4, .int (xf_61 M)), (3, .int (xf_52 M (-(M.2.1 19 (v1.toNatClampNeg))))), (2, .int (M.2.1 19 (v1.toNatClampNeg))), (1, .int v1), (0, .ref 16)] [.int (xf_61 (xm_61 M)), .int (-(M.2.1 19 (v1.toNatClampNeg))), .ref 16] (xm_61 (xm_61 M)) (0, 0)
                    refine rs_iload ri_60_167 rfl rfl ?_
                    refine rs_stat (As := [.int (-(M.2.1 19 (v1.toNatClampNeg))), .int (xf_61 (xm_61 M)), .int (xf_61 M)]) (r := [.ref 16]) ri_60_169 rfl rm_63.2.2.2 rfl rfl rfl (Nat.le_of_ble_eq_true rfl) (by decide) (by decide) (xs_63 (X := X) (xl_61 (xl_61 hL q9) q10)) ?_
                    rintro _ _ ⟨e1, e2⟩
                    rw [e1, e2]
                    show ro_w X _ 60 _ 172 [(4, .int (xf_61 M)), (3, .int (xf_52 M (-(M.2.1 19 (v1.toNatClampNeg))))), (2, .int (M.2.1 19 (v1.toNatClampNeg))), (1, .int v1), (0, .ref 16)] [.int (xf_63 (xm_61 (xm_61 M)) (-(M.2.1 19 (v1.toNatClampNeg))) (xf_61 (xm_61 M)) (xf_61 M)), .ref 16] (xm_61 (xm_61 M)) (0, 0)
                    refine rs_virt (As := [.int (xf_63 (xm_61 (xm_61 M)) (-(M.2.1 19 (v1.toNatClampNeg))) (xf_61 (xm_61 M)) (xf_61 M))]) (r := []) ri_60_172 rfl (by decide) rm_62.2.2.2 rm_62.2.2.1 rfl rfl rfl (by decide) (ro_kf (kd_16 (xl_61 (xl_61 hL q9) q10))) (Nat.le_of_ble_eq_true rfl) (by decide) (by decide) (xs_62 (X := X) (xl_61 (xl_61 hL q9) q10)) ?_
                    rintro _ _ ⟨e1, e2⟩
                    rw [e1, e2]
                    show ro_w X _ 60 _ 175 [(4, .int (xf_61 M)), (3, .int (xf_52 M (-(M.2.1 19 (v1.toNatClampNeg))))), (2, .int (M.2.1 19 (v1.toNatClampNeg))), (1, .int v1), (0, .ref 16)] [] (xm_62 (xm_61 (xm_61 M)) (xf_63 (xm_61 (xm_61 M)) (-(M.2.1 19 (v1.toNatClampNeg))) (xf_61 (xm_61 M)) (xf_61 M))) (0, 0)
                    refine rs_iinc (v := (v1 + (1 : Int32))) (lv2 := [(1, .int (v1 + (1 : Int32))), (4, .int (xf_61 M)), (3, .int (xf_52 M (-(M.2.1 19 (v1.toNatClampNeg))))), (2, .int (M.2.1 19 (v1.toNatClampNeg))), (0, .ref 16)]) ri_60_175 rfl rfl rfl rm_60.1 (by decide) rfl ?_
                    refine rs_goto (t := 7) ri_60_178 rfl ?_
                    have e : xg_60_7 (n + 1) M v1 = xg_60_7 n (xm_62 (xm_61 (xm_61 M)) (xf_63 (xm_61 (xm_61 M)) (-(M.2.1 19 (v1.toNatClampNeg))) (xf_61 (xm_61 M)) (xf_61 M))) (v1 + (1 : Int32)) := by rw [xg_60_7]; first | (simp only [if_neg h1, if_neg h2, if_neg h4, if_neg h5, if_pos h6, if_pos h7, if_neg h8, if_neg h9]; done) | rfl
                    rw [e] at hk hr
                    exact ro_w_lv (ro_sub_c rfl (ro_sub_c rfl (ro_sub_n rfl))) (ih (xl_62 (xl_61 (xl_61 hL q9) q10))  hp hk hr)
                  · have hp := hp.1 h9
                    refine rs_aload_n ri_60_142 rfl rfl ?_
                    refine rs_aload_n ri_60_143 rfl rfl ?_
                    obtain ⟨q11, hp⟩ := hp
                    refine rs_virt (As := []) (r := [.ref 16]) ri_60_144 rfl (by decide) rm_61.2.2.2 rm_61.2.2.1 rfl rfl rfl (by decide) (ro_kf (kd_16 hL)) (Nat.le_of_ble_eq_true rfl) (by decide) (by decide) (xs_61 (X := X) hL q11) ?_
                    rintro _ _ ⟨e1, e2⟩
                    rw [e1, e2]
                    show ro_w X _ 60 _ 147 [(3, .int (xf_52 M (-(M.2.1 19 (v1.toNatClampNeg))))), (2, .int (M.2.1 19 (v1.toNatClampNeg))), (1, .int v1), (0, .ref 16)] [.int (xf_61 M), .ref 16] (xm_61 M) (0, 0)
                    refine rs_ineg (r := (-(xf_61 M))) ri_60_147 rfl rfl ?_
                    refine rs_virt (As := [.int (-(xf_61 M))]) (r := []) ri_60_148 rfl (by decide) rm_62.2.2.2 rm_62.2.2.1 rfl rfl rfl (by decide) (ro_kf (kd_16 (xl_61 hL q11))) (Nat.le_of_ble_eq_true rfl) (by decide) (by decide) (xs_62 (X := X) (xl_61 hL q11)) ?_
                    rintro _ _ ⟨e1, e2⟩
                    rw [e1, e2]
                    show ro_w X _ 60 _ 151 [(3, .int (xf_52 M (-(M.2.1 19 (v1.toNatClampNeg))))), (2, .int (M.2.1 19 (v1.toNatClampNeg))), (1, .int v1), (0, .ref 16)] [] (xm_62 (xm_61 M) (-(xf_61 M))) (0, 0)
                    refine rs_goto (t := 175) ri_60_151 rfl ?_
                    refine rs_iinc (v := (v1 + (1 : Int32))) (lv2 := [(1, .int (v1 + (1 : Int32))), (3, .int (xf_52 M (-(M.2.1 19 (v1.toNatClampNeg))))), (2, .int (M.2.1 19 (v1.toNatClampNeg))), (0, .ref 16)]) ri_60_175 rfl rfl rfl rm_60.1 (by decide) rfl ?_
                    refine rs_goto (t := 7) ri_60_178 rfl ?_
                    have e : xg_60_7 (n + 1) M v1 = xg_60_7 n (xm_62 (xm_61 M) (-(xf_61 M))) (v1 + (1 : Int32)) := by rw [xg_60_7]; first | (simp only [if_neg h1, if_neg h2, if_neg h4, if_neg h5, if_pos h6, if_pos h7, if_neg h8, if_pos h9]; done) | rfl
                    rw [e] at hk hr
                    exact ro_w_lv (ro_sub_c rfl (ro_sub_c rfl (ro_sub_n rfl))) (ih (xl_62 (xl_61 hL q11))  hp hk hr)
                · have hp := hp.1 h8
                  refine rs_aload_n ri_60_117 rfl rfl ?_
                  refine rs_aload_n ri_60_118 rfl rfl ?_
                  obtain ⟨q12, hp⟩ := hp
                  refine rs_virt (As := []) (r := [.ref 16]) ri_60_119 rfl (by decide) rm_61.2.2.2 rm_61.2.2.1 rfl rfl rfl (by decide) (ro_kf (kd_16 hL)) (Nat.le_of_ble_eq_true rfl) (by decide) (by decide) (xs_61 (X := X) hL q12) ?_
                  rintro _ _ ⟨e1, e2⟩
                  rw [e1, e2]
                  show ro_w X _ 60 _ 122 [(3, .int (xf_52 M (-(M.2.1 19 (v1.toNatClampNeg))))), (2, .int (M.2.1 19 (v1.toNatClampNeg))), (1, .int v1), (0, .ref 16)] [.int (xf_61 M), .ref 16] (xm_61 M) (0, 0)
                  refine rs_if_ne (t := 129) ri_60_122 rfl rfl (fun h14 => ?_) (fun h14 => ?_)
                  · have hp := hp.2 h14
                    refine rs_iconst (v := (0 : Int32)) ri_60_129 rfl (by decide) ?_
                    refine rs_virt (As := [.int (0 : Int32)]) (r := []) ri_60_130 rfl (by decide) rm_62.2.2.2 rm_62.2.2.1 rfl rfl rfl (by decide) (ro_kf (kd_16 (xl_61 hL q12))) (Nat.le_of_ble_eq_true rfl) (by decide) (by decide) (xs_62 (X := X) (xl_61 hL q12)) ?_
                    rintro _ _ ⟨e1, e2⟩
                    rw [e1, e2]
                    show ro_w X _ 60 _ 133 [(3, .int (xf_52 M (-(M.2.1 19 (v1.toNatClampNeg))))), (2, .int (M.2.1 19 (v1.toNatClampNeg))), (1, .int v1), (0, .ref 16)] [] (xm_62 (xm_61 M) (0 : Int32)) (0, 0)
                    refine rs_goto (t := 175) ri_60_133 rfl ?_
                    refine rs_iinc (v := (v1 + (1 : Int32))) (lv2 := [(1, .int (v1 + (1 : Int32))), (3, .int (xf_52 M (-(M.2.1 19 (v1.toNatClampNeg))))), (2, .int (M.2.1 19 (v1.toNatClampNeg))), (0, .ref 16)]) ri_60_175 rfl rfl rfl rm_60.1 (by decide) rfl ?_
                    refine rs_goto (t := 7) ri_60_178 rfl ?_
                    have e : xg_60_7 (n + 1) M v1 = xg_60_7 n (xm_62 (xm_61 M) (0 : Int32)) (v1 + (1 : Int32)) := by rw [xg_60_7]; first | (simp only [if_neg h1, if_neg h2, if_neg h4, if_neg h5, if_pos h6, if_pos h7, if_pos h8, if_neg h14]; done) | rfl
                    rw [e] at hk hr
                    exact ro_w_lv (ro_sub_c rfl (ro_sub_c rfl (ro_sub_n rfl))) (ih (xl_62 (xl_61 hL q12))  hp hk hr)
                  · have hp := hp.1 h14
                    refine rs_iconst (v := (1 : Int32)) ri_60_125 rfl (by decide) ?_
                    refine rs_goto (t := 130) ri_60_126 rfl ?_
                    refine rs_virt (As := [.int (1 : Int32)]) (r := []) ri_60_130 rfl (by decide) rm_62.2.2.2 rm_62.2.2.1 rfl rfl rfl (by decide) (ro_kf (kd_16 (xl_61 hL q12))) (Nat.le_of_ble_eq_true rfl) (by decide) (by decide) (xs_62 (X := X) (xl_61 hL q12)) ?_
                    rintro _ _ ⟨e1, e2⟩
                    rw [e1, e2]
                    show ro_w X _ 60 _ 133 [(3, .int (xf_52 M (-(M.2.1 19 (v1.toNatClampNeg))))), (2, .int (M.2.1 19 (v1.toNatClampNeg))), (1, .int v1), (0, .ref 16)] [] (xm_62 (xm_61 M) (1 : Int32)) (0, 0)
                    refine rs_goto (t := 175) ri_60_133 rfl ?_
                    refine rs_iinc (v := (v1 + (1 : Int32))) (lv2 := [(1, .int (v1 + (1 : Int32))), (3, .int (xf_52 M (-(M.2.1 19 (v1.toNatClampNeg))))), (2, .int (M.2.1 19 (v1.toNatClampNeg))), (0, .ref 16)]) ri_60_175 rfl rfl rfl rm_60.1 (by decide) rfl ?_
                    refine rs_goto (t := 7) ri_60_178 rfl ?_
                    have e : xg_60_7 (n + 1) M v1 = xg_60_7 n (xm_62 (xm_61 M) (1 : Int32)) (v1 + (1 : Int32)) := by rw [xg_60_7]; first | (simp only [if_neg h1, if_neg h2, if_neg h4, if_neg h5, if_pos h6, if_pos h7, if_pos h8, if_pos h14]; done) | rfl
                    rw [e] at hk hr
                    exact ro_w_lv (ro_sub_c rfl (ro_sub_c rfl (ro_sub_n rfl))) (ih (xl_62 (xl_61 hL q12))  hp hk hr)
              · have hp := hp.2 h7
                refine rs_iload_n ri_60_89 rfl rfl ?_
                refine rs_aload_n ri_60_90 rfl rfl ?_
                refine rs_gf (v := .ref 21) ri_60_91 rfl (by decide) (ro_kf (kd_16 hL)) rfl (rf_16_4 hL) ?_
                refine rs_len (v := (6 : Int32)) ri_60_94 rfl (by decide) (kd_21 hL) (by decide) rfl ?_
                refine rs_icmp_ge (t := 111) ri_60_95 rfl rfl (fun h15 => ?_) (fun h15 => ?_)
                · have hp := hp.1 h15
                  refine rs_iload_n ri_60_111 rfl rfl ?_
                  refine rs_bipush (v := (-33 : Int32)) ri_60_112 rfl (by decide) ?_
                  refine rs_icmp_ne (t := 136) ri_60_114 rfl rfl (fun h16 => ?_) (fun h16 => ?_)
                  · have hp := hp.2 h16
                    refine rs_iload_n ri_60_136 rfl rfl ?_
                    refine rs_bipush (v := (-126 : Int32)) ri_60_137 rfl (by decide) ?_
                    refine rs_icmp_ne (t := 154) ri_60_139 rfl rfl (fun h17 => ?_) (fun h17 => ?_)
                    · have hp := hp.2 h17
                      refine rs_aload_n ri_60_154 rfl rfl ?_
                      obtain ⟨q17, hp⟩ := hp
                      refine rs_virt (As := []) (r := []) ri_60_155 rfl (by decide) rm_61.2.2.2 rm_61.2.2.1 rfl rfl rfl (by decide) (ro_kf (kd_16 hL)) (Nat.le_of_ble_eq_true rfl) (by decide) (by decide) (xs_61 (X := X) hL q17) ?_
                      rintro _ _ ⟨e1, e2⟩
                      rw [e1, e2]
                      show ro_w X _ 60 _ 158 [(3, .int (xf_52 M (-(M.2.1 19 (v1.toNatClampNeg))))), (2, .int (M.2.1 19 (v1.toNatClampNeg))), (1, .int v1), (0, .ref 16)] [.int (xf_61 M)] (xm_61 M) (0, 0)
                      refine rs_istore (lv2 := [(4, .int (xf_61 M)), (3, .int (xf_52 M (-(M.2.1 19 (v1.toNatClampNeg))))), (2, .int (M.2.1 19 (v1.toNatClampNeg))), (1, .int v1), (0, .ref 16)]) ri_60_158 rfl rm_60.1 (by decide) rfl ?_
                      refine rs_aload_n ri_60_160 rfl rfl ?_
                      refine rs_iload_n ri_60_161 rfl rfl ?_
                      refine rs_ineg (r := (-(M.2.1 19 (v1.toNatClampNeg)))) ri_60_162 rfl rfl ?_
                      refine rs_aload_n ri_60_163 rfl rfl ?_
                      obtain ⟨q18, hp⟩ := hp
                      refine rs_virt (As := []) (r := [.int (-(M.2.1 19 (v1.toNatClampNeg))), .ref 16]) ri_60_164 rfl (by decide) rm_61.2.2.2 rm_61.2.2.1 rfl rfl rfl (by decide) (ro_kf (kd_16 (xl_61 hL q17))) (Nat.le_of_ble_eq_true rfl) (by decide) (by decide) (xs_61 (X := X) (xl_61 hL q17) q18) ?_
                      rintro _ _ ⟨e1, e2⟩
                      rw [e1, e2]
                      show ro_w X _ 60 _ 167 [(4, .int (xf_61 M)), (3, .int (xf_52 M (-(M.2.1 19 (v1.toNatClampNeg))))), (2, .int (M.2.1 19 (v1.toNatClampNeg))), (1, .int v1), (0, .ref 16)] [.int (xf_61 (xm_61 M)), .int (-(M.2.1 19 (v1.toNatClampNeg))), .ref 16] (xm_61 (xm_61 M)) (0, 0)
                      refine rs_iload ri_60_167 rfl rfl ?_
                      refine rs_stat (As := [.int (-(M.2.1 19 (v1.toNatClampNeg))), .int (xf_61 (xm_61 M)), .int (xf_61 M)]) (r := [.ref 16]) ri_60_169 rfl rm_63.2.2.2 rfl rfl rfl (Nat.le_of_ble_eq_true rfl) (by decide) (by decide) (xs_63 (X := X) (xl_61 (xl_61 hL q17) q18)) ?_
                      rintro _ _ ⟨e1, e2⟩
                      rw [e1, e2]
                      show ro_w X _ 60 _ 172 [(4, .int (xf_61 M)), (3, .int (xf_52 M (-(M.2.1 19 (v1.toNatClampNeg))))), (2, .int (M.2.1 19 (v1.toNatClampNeg))), (1, .int v1), (0, .ref 16)] [.int (xf_63 (xm_61 (xm_61 M)) (-(M.2.1 19 (v1.toNatClampNeg))) (xf_61 (xm_61 M)) (xf_61 M)), .ref 16] (xm_61 (xm_61 M)) (0, 0)
                      refine rs_virt (As := [.int (xf_63 (xm_61 (xm_61 M)) (-(M.2.1 19 (v1.toNatClampNeg))) (xf_61 (xm_61 M)) (xf_61 M))]) (r := []) ri_60_172 rfl (by decide) rm_62.2.2.2 rm_62.2.2.1 rfl rfl rfl (by decide) (ro_kf (kd_16 (xl_61 (xl_61 hL q17) q18))) (Nat.le_of_ble_eq_true rfl) (by decide) (by decide) (xs_62 (X := X) (xl_61 (xl_61 hL q17) q18)) ?_
                      rintro _ _ ⟨e1, e2⟩
                      rw [e1, e2]
                      show ro_w X _ 60 _ 175 [(4, .int (xf_61 M)), (3, .int (xf_52 M (-(M.2.1 19 (v1.toNatClampNeg))))), (2, .int (M.2.1 19 (v1.toNatClampNeg))), (1, .int v1), (0, .ref 16)] [] (xm_62 (xm_61 (xm_61 M)) (xf_63 (xm_61 (xm_61 M)) (-(M.2.1 19 (v1.toNatClampNeg))) (xf_61 (xm_61 M)) (xf_61 M))) (0, 0)
                      refine rs_iinc (v := (v1 + (1 : Int32))) (lv2 := [(1, .int (v1 + (1 : Int32))), (4, .int (xf_61 M)), (3, .int (xf_52 M (-(M.2.1 19 (v1.toNatClampNeg))))), (2, .int (M.2.1 19 (v1.toNatClampNeg))), (0, .ref 16)]) ri_60_175 rfl rfl rfl rm_60.1 (by decide) rfl ?_
                      refine rs_goto (t := 7) ri_60_178 rfl ?_
                      have e : xg_60_7 (n + 1) M v1 = xg_60_7 n (xm_62 (xm_61 (xm_61 M)) (xf_63 (xm_61 (xm_61 M)) (-(M.2.1 19 (v1.toNatClampNeg))) (xf_61 (xm_61 M)) (xf_61 M))) (v1 + (1 : Int32)) := by rw [xg_60_7]; first | (simp only [if_neg h1, if_neg h2, if_neg h4, if_neg h5, if_pos h6, if_neg h7, if_pos h15, if_neg h16, if_neg h17]; done) | rfl
                      rw [e] at hk hr
                      exact ro_w_lv (ro_sub_c rfl (ro_sub_c rfl (ro_sub_n rfl))) (ih (xl_62 (xl_61 (xl_61 hL q17) q18))  hp hk hr)
                    · have hp := hp.1 h17
                      refine rs_aload_n ri_60_142 rfl rfl ?_
                      refine rs_aload_n ri_60_143 rfl rfl ?_
                      obtain ⟨q19, hp⟩ := hp
                      refine rs_virt (As := []) (r := [.ref 16]) ri_60_144 rfl (by decide) rm_61.2.2.2 rm_61.2.2.1 rfl rfl rfl (by decide) (ro_kf (kd_16 hL)) (Nat.le_of_ble_eq_true rfl) (by decide) (by decide) (xs_61 (X := X) hL q19) ?_
                      rintro _ _ ⟨e1, e2⟩
                      rw [e1, e2]
                      show ro_w X _ 60 _ 147 [(3, .int (xf_52 M (-(M.2.1 19 (v1.toNatClampNeg))))), (2, .int (M.2.1 19 (v1.toNatClampNeg))), (1, .int v1), (0, .ref 16)] [.int (xf_61 M), .ref 16] (xm_61 M) (0, 0)
                      refine rs_ineg (r := (-(xf_61 M))) ri_60_147 rfl rfl ?_
                      refine rs_virt (As := [.int (-(xf_61 M))]) (r := []) ri_60_148 rfl (by decide) rm_62.2.2.2 rm_62.2.2.1 rfl rfl rfl (by decide) (ro_kf (kd_16 (xl_61 hL q19))) (Nat.le_of_ble_eq_true rfl) (by decide) (by decide) (xs_62 (X := X) (xl_61 hL q19)) ?_
                      rintro _ _ ⟨e1, e2⟩
                      rw [e1, e2]
                      show ro_w X _ 60 _ 151 [(3, .int (xf_52 M (-(M.2.1 19 (v1.toNatClampNeg))))), (2, .int (M.2.1 19 (v1.toNatClampNeg))), (1, .int v1), (0, .ref 16)] [] (xm_62 (xm_61 M) (-(xf_61 M))) (0, 0)
                      refine rs_goto (t := 175) ri_60_151 rfl ?_
                      refine rs_iinc (v := (v1 + (1 : Int32))) (lv2 := [(1, .int (v1 + (1 : Int32))), (3, .int (xf_52 M (-(M.2.1 19 (v1.toNatClampNeg))))), (2, .int (M.2.1 19 (v1.toNatClampNeg))), (0, .ref 16)]) ri_60_175 rfl rfl rfl rm_60.1 (by decide) rfl ?_
                      refine rs_goto (t := 7) ri_60_178 rfl ?_
                      have e : xg_60_7 (n + 1) M v1 = xg_60_7 n (xm_62 (xm_61 M) (-(xf_61 M))) (v1 + (1 : Int32)) := by rw [xg_60_7]; first | (simp only [if_neg h1, if_neg h2, if_neg h4, if_neg h5, if_pos h6, if_neg h7, if_pos h15, if_neg h16, if_pos h17]; done) | rfl
                      rw [e] at hk hr
                      exact ro_w_lv (ro_sub_c rfl (ro_sub_c rfl (ro_sub_n rfl))) (ih (xl_62 (xl_61 hL q19))  hp hk hr)
                  · have hp := hp.1 h16
                    refine rs_aload_n ri_60_117 rfl rfl ?_
                    refine rs_aload_n ri_60_118 rfl rfl ?_
                    obtain ⟨q20, hp⟩ := hp
                    refine rs_virt (As := []) (r := [.ref 16]) ri_60_119 rfl (by decide) rm_61.2.2.2 rm_61.2.2.1 rfl rfl rfl (by decide) (ro_kf (kd_16 hL)) (Nat.le_of_ble_eq_true rfl) (by decide) (by decide) (xs_61 (X := X) hL q20) ?_
                    rintro _ _ ⟨e1, e2⟩
                    rw [e1, e2]
                    show ro_w X _ 60 _ 122 [(3, .int (xf_52 M (-(M.2.1 19 (v1.toNatClampNeg))))), (2, .int (M.2.1 19 (v1.toNatClampNeg))), (1, .int v1), (0, .ref 16)] [.int (xf_61 M), .ref 16] (xm_61 M) (0, 0)
                    refine rs_if_ne (t := 129) ri_60_122 rfl rfl (fun h22 => ?_) (fun h22 => ?_)
                    · have hp := hp.2 h22
                      refine rs_iconst (v := (0 : Int32)) ri_60_129 rfl (by decide) ?_
                      refine rs_virt (As := [.int (0 : Int32)]) (r := []) ri_60_130 rfl (by decide) rm_62.2.2.2 rm_62.2.2.1 rfl rfl rfl (by decide) (ro_kf (kd_16 (xl_61 hL q20))) (Nat.le_of_ble_eq_true rfl) (by decide) (by decide) (xs_62 (X := X) (xl_61 hL q20)) ?_
                      rintro _ _ ⟨e1, e2⟩
                      rw [e1, e2]
                      show ro_w X _ 60 _ 133 [(3, .int (xf_52 M (-(M.2.1 19 (v1.toNatClampNeg))))), (2, .int (M.2.1 19 (v1.toNatClampNeg))), (1, .int v1), (0, .ref 16)] [] (xm_62 (xm_61 M) (0 : Int32)) (0, 0)
                      refine rs_goto (t := 175) ri_60_133 rfl ?_
                      refine rs_iinc (v := (v1 + (1 : Int32))) (lv2 := [(1, .int (v1 + (1 : Int32))), (3, .int (xf_52 M (-(M.2.1 19 (v1.toNatClampNeg))))), (2, .int (M.2.1 19 (v1.toNatClampNeg))), (0, .ref 16)]) ri_60_175 rfl rfl rfl rm_60.1 (by decide) rfl ?_
                      refine rs_goto (t := 7) ri_60_178 rfl ?_
                      have e : xg_60_7 (n + 1) M v1 = xg_60_7 n (xm_62 (xm_61 M) (0 : Int32)) (v1 + (1 : Int32)) := by rw [xg_60_7]; first | (simp only [if_neg h1, if_neg h2, if_neg h4, if_neg h5, if_pos h6, if_neg h7, if_pos h15, if_pos h16, if_neg h22]; done) | rfl
                      rw [e] at hk hr
                      exact ro_w_lv (ro_sub_c rfl (ro_sub_c rfl (ro_sub_n rfl))) (ih (xl_62 (xl_61 hL q20))  hp hk hr)
                    · have hp := hp.1 h22
                      refine rs_iconst (v := (1 : Int32)) ri_60_125 rfl (by decide) ?_
                      refine rs_goto (t := 130) ri_60_126 rfl ?_
                      refine rs_virt (As := [.int (1 : Int32)]) (r := []) ri_60_130 rfl (by decide) rm_62.2.2.2 rm_62.2.2.1 rfl rfl rfl (by decide) (ro_kf (kd_16 (xl_61 hL q20))) (Nat.le_of_ble_eq_true rfl) (by decide) (by decide) (xs_62 (X := X) (xl_61 hL q20)) ?_
                      rintro _ _ ⟨e1, e2⟩
                      rw [e1, e2]
                      show ro_w X _ 60 _ 133 [(3, .int (xf_52 M (-(M.2.1 19 (v1.toNatClampNeg))))), (2, .int (M.2.1 19 (v1.toNatClampNeg))), (1, .int v1), (0, .ref 16)] [] (xm_62 (xm_61 M) (1 : Int32)) (0, 0)
                      refine rs_goto (t := 175) ri_60_133 rfl ?_
                      refine rs_iinc (v := (v1 + (1 : Int32))) (lv2 := [(1, .int (v1 + (1 : Int32))), (3, .int (xf_52 M (-(M.2.1 19 (v1.toNatClampNeg))))), (2, .int (M.2.1 19 (v1.toNatClampNeg))), (0, .ref 16)]) ri_60_175 rfl rfl rfl rm_60.1 (by decide) rfl ?_
                      refine rs_goto (t := 7) ri_60_178 rfl ?_
                      have e : xg_60_7 (n + 1) M v1 = xg_60_7 n (xm_62 (xm_61 M) (1 : Int32)) (v1 + (1 : Int32)) := by rw [xg_60_7]; first | (simp only [if_neg h1, if_neg h2, if_neg h4, if_neg h5, if_pos h6, if_neg h7, if_pos h15, if_pos h16, if_pos h22]; done) | rfl
                      rw [e] at hk hr
                      exact ro_w_lv (ro_sub_c rfl (ro_sub_c rfl (ro_sub_n rfl))) (ih (xl_62 (xl_61 hL q20))  hp hk hr)
                · have hp := hp.2 h15
                  refine rs_aload_n ri_60_98 rfl rfl ?_
                  refine rs_aload_n ri_60_99 rfl rfl ?_
                  refine rs_gf (v := .ref 21) ri_60_100 rfl (by decide) (ro_kf (kd_16 hL)) rfl (rf_16_4 hL) ?_
                  refine rs_iload_n ri_60_103 rfl rfl ?_
                  refine rs_iald (v := (M.2.1 21 ((xf_52 M (-(M.2.1 19 (v1.toNatClampNeg)))).toNatClampNeg))) ri_60_104 rfl (by decide) (kd_21 hL) (vp_in_iff.mpr ⟨(ro_lo1 h7), (ro_hi2 h15 (by decide))⟩) rfl ?_
                  refine rs_virt (As := [.int (M.2.1 21 ((xf_52 M (-(M.2.1 19 (v1.toNatClampNeg)))).toNatClampNeg))]) (r := []) ri_60_105 rfl (by decide) rm_62.2.2.2 rm_62.2.2.1 rfl rfl rfl (by decide) (ro_kf (kd_16 hL)) (Nat.le_of_ble_eq_true rfl) (by decide) (by decide) (xs_62 (X := X) hL) ?_
                  rintro _ _ ⟨e1, e2⟩
                  rw [e1, e2]
                  show ro_w X _ 60 _ 108 [(3, .int (xf_52 M (-(M.2.1 19 (v1.toNatClampNeg))))), (2, .int (M.2.1 19 (v1.toNatClampNeg))), (1, .int v1), (0, .ref 16)] [] (xm_62 M (M.2.1 21 ((xf_52 M (-(M.2.1 19 (v1.toNatClampNeg)))).toNatClampNeg))) (0, 0)
                  refine rs_goto (t := 175) ri_60_108 rfl ?_
                  refine rs_iinc (v := (v1 + (1 : Int32))) (lv2 := [(1, .int (v1 + (1 : Int32))), (3, .int (xf_52 M (-(M.2.1 19 (v1.toNatClampNeg))))), (2, .int (M.2.1 19 (v1.toNatClampNeg))), (0, .ref 16)]) ri_60_175 rfl rfl rfl rm_60.1 (by decide) rfl ?_
                  refine rs_goto (t := 7) ri_60_178 rfl ?_
                  have e : xg_60_7 (n + 1) M v1 = xg_60_7 n (xm_62 M (M.2.1 21 ((xf_52 M (-(M.2.1 19 (v1.toNatClampNeg)))).toNatClampNeg))) (v1 + (1 : Int32)) := by rw [xg_60_7]; first | (simp only [if_neg h1, if_neg h2, if_neg h4, if_neg h5, if_pos h6, if_neg h7, if_neg h15]; done) | rfl
                  rw [e] at hk hr
                  exact ro_w_lv (ro_sub_c rfl (ro_sub_c rfl (ro_sub_n rfl))) (ih (xl_62 hL)  hp hk hr)
            · have hp := hp.2 h6
              refine rs_aload_n ri_60_77 rfl rfl ?_
              refine rs_iload_n ri_60_78 rfl rfl ?_
              refine rs_virt (As := [.int (M.2.1 19 (v1.toNatClampNeg))]) (r := []) ri_60_79 rfl (by decide) rm_62.2.2.2 rm_62.2.2.1 rfl rfl rfl (by decide) (ro_kf (kd_16 hL)) (Nat.le_of_ble_eq_true rfl) (by decide) (by decide) (xs_62 (X := X) hL) ?_
              rintro _ _ ⟨e1, e2⟩
              rw [e1, e2]
              show ro_w X _ 60 _ 82 [(3, .int (xf_52 M (-(M.2.1 19 (v1.toNatClampNeg))))), (2, .int (M.2.1 19 (v1.toNatClampNeg))), (1, .int v1), (0, .ref 16)] [] (xm_62 M (M.2.1 19 (v1.toNatClampNeg))) (0, 0)
              refine rs_goto (t := 175) ri_60_82 rfl ?_
              refine rs_iinc (v := (v1 + (1 : Int32))) (lv2 := [(1, .int (v1 + (1 : Int32))), (3, .int (xf_52 M (-(M.2.1 19 (v1.toNatClampNeg))))), (2, .int (M.2.1 19 (v1.toNatClampNeg))), (0, .ref 16)]) ri_60_175 rfl rfl rfl rm_60.1 (by decide) rfl ?_
              refine rs_goto (t := 7) ri_60_178 rfl ?_
              have e : xg_60_7 (n + 1) M v1 = xg_60_7 n (xm_62 M (M.2.1 19 (v1.toNatClampNeg))) (v1 + (1 : Int32)) := by rw [xg_60_7]; first | (simp only [if_neg h1, if_neg h2, if_neg h4, if_neg h5, if_neg h6]; done) | rfl
              rw [e] at hk hr
              exact ro_w_lv (ro_sub_c rfl (ro_sub_c rfl (ro_sub_n rfl))) (ih (xl_62 hL)  hp hk hr)
          · have hp := hp.1 h5
            refine rs_aload_n ri_60_54 rfl rfl ?_
            obtain ⟨q22, hp⟩ := hp
            refine rs_virt (As := []) (r := []) ri_60_55 rfl (by decide) rm_61.2.2.2 rm_61.2.2.1 rfl rfl rfl (by decide) (ro_kf (kd_16 hL)) (Nat.le_of_ble_eq_true rfl) (by decide) (by decide) (xs_61 (X := X) hL q22) ?_
            rintro _ _ ⟨e1, e2⟩
            rw [e1, e2]
            show ro_w X _ 60 _ 58 [(3, .int (xf_52 M (-(M.2.1 19 (v1.toNatClampNeg))))), (2, .int (M.2.1 19 (v1.toNatClampNeg))), (1, .int v1), (0, .ref 16)] [.int (xf_61 M)] (xm_61 M) (0, 0)
            refine rs_istore (lv2 := [(4, .int (xf_61 M)), (3, .int (xf_52 M (-(M.2.1 19 (v1.toNatClampNeg))))), (2, .int (M.2.1 19 (v1.toNatClampNeg))), (1, .int v1), (0, .ref 16)]) ri_60_58 rfl rm_60.1 (by decide) rfl ?_
            refine rs_aload_n ri_60_60 rfl rfl ?_
            obtain ⟨q23, hp⟩ := hp
            refine rs_virt (As := []) (r := []) ri_60_61 rfl (by decide) rm_61.2.2.2 rm_61.2.2.1 rfl rfl rfl (by decide) (ro_kf (kd_16 (xl_61 hL q22))) (Nat.le_of_ble_eq_true rfl) (by decide) (by decide) (xs_61 (X := X) (xl_61 hL q22) q23) ?_
            rintro _ _ ⟨e1, e2⟩
            rw [e1, e2]
            show ro_w X _ 60 _ 64 [(4, .int (xf_61 M)), (3, .int (xf_52 M (-(M.2.1 19 (v1.toNatClampNeg))))), (2, .int (M.2.1 19 (v1.toNatClampNeg))), (1, .int v1), (0, .ref 16)] [.int (xf_61 (xm_61 M))] (xm_61 (xm_61 M)) (0, 0)
            refine rs_if_eq (t := 70) ri_60_64 rfl rfl (fun h25 => ?_) (fun h25 => ?_)
            · have hp := hp.1 h25
              refine rs_goto (t := 175) ri_60_70 rfl ?_
              refine rs_iinc (v := (v1 + (1 : Int32))) (lv2 := [(1, .int (v1 + (1 : Int32))), (4, .int (xf_61 M)), (3, .int (xf_52 M (-(M.2.1 19 (v1.toNatClampNeg))))), (2, .int (M.2.1 19 (v1.toNatClampNeg))), (0, .ref 16)]) ri_60_175 rfl rfl rfl rm_60.1 (by decide) rfl ?_
              refine rs_goto (t := 7) ri_60_178 rfl ?_
              have e : xg_60_7 (n + 1) M v1 = xg_60_7 n (xm_61 (xm_61 M)) (v1 + (1 : Int32)) := by rw [xg_60_7]; first | (simp only [if_neg h1, if_neg h2, if_neg h4, if_pos h5, if_pos h25]; done) | rfl
              rw [e] at hk hr
              exact ro_w_lv (ro_sub_c rfl (ro_sub_c rfl (ro_sub_n rfl))) (ih (xl_61 (xl_61 hL q22) q23)  hp hk hr)
            · skip
              refine rs_iload ri_60_67 rfl rfl ?_
              refine rs_iret ri_60_69 rm_60.2.1 (by decide) ?_
              have e : xg_60_7 (n + 1) M v1 = (true, (xf_61 M), v1, (xm_61 (xm_61 M))) := by rw [xg_60_7]; first | (simp only [if_neg h1, if_neg h2, if_neg h4, if_pos h5, if_neg h25]; done) | rfl
              rw [e] at hk hr
              exact hr rfl
        · have hp := hp.1 h4
          refine rs_aload_n ri_60_43 rfl rfl ?_
          obtain ⟨q25, hp⟩ := hp
          refine rs_virt (As := []) (r := []) ri_60_44 rfl (by decide) rm_61.2.2.2 rm_61.2.2.1 rfl rfl rfl (by decide) (ro_kf (kd_16 hL)) (Nat.le_of_ble_eq_true rfl) (by decide) (by decide) (xs_61 (X := X) hL q25) ?_
          rintro _ _ ⟨e1, e2⟩
          rw [e1, e2]
          show ro_w X _ 60 _ 47 [(3, .int (xf_52 M (-(M.2.1 19 (v1.toNatClampNeg))))), (2, .int (M.2.1 19 (v1.toNatClampNeg))), (1, .int v1), (0, .ref 16)] [.int (xf_61 M)] (xm_61 M) (0, 0)
          refine rs_iret ri_60_47 rm_60.2.1 (by decide) ?_
          have e : xg_60_7 (n + 1) M v1 = (true, (xf_61 M), v1, (xm_61 M)) := by rw [xg_60_7]; first | (simp only [if_neg h1, if_neg h2, if_pos h4]; done) | rfl
          rw [e] at hk hr
          exact hr rfl
theorem xl_60_7 : ∀ (n : Nat) {M : ro_Mm} {v1 : Int32} (hL : ro_lay M) (hp : xq_60_7 n M v1), ro_lay (xg_60_7 n M v1).2.2.2 := by
  intro n
  induction n with
  | zero => intro M v1 hL hp; exact False.elim hp
  | succ n ih =>
    intro M v1 hL hp
    rw [xq_60_7] at hp
    rw [xg_60_7]
    by_cases hz : (M.2.1 16 8) ≤ v1
    · have hp := hp.1 hz
      rw [if_pos hz]
      exact hL
    · have hp := hp.2 hz
      rw [if_neg hz]
      by_cases hz : (121 : Int32) ≤ v1
      · have hp := hp.1 hz
        rw [if_pos hz]
        exact hL
      · have hp := hp.2 hz
        rw [if_neg hz]
        obtain ⟨q2, hp⟩ := hp
        by_cases hz : (M.2.1 19 (v1.toNatClampNeg)) = (-59 : Int32)
        · have hp := hp.1 hz
          rw [if_pos hz]
          obtain ⟨q25, hp⟩ := hp
          exact (xl_61 hL q25)
        · have hp := hp.2 hz
          rw [if_neg hz]
          by_cases hz : (M.2.1 19 (v1.toNatClampNeg)) = (-63 : Int32)
          · have hp := hp.1 hz
            rw [if_pos hz]
            obtain ⟨q22, hp⟩ := hp
            obtain ⟨q23, hp⟩ := hp
            by_cases hz : (xf_61 (xm_61 M)) = (0 : Int32)
            · have hp := hp.1 hz
              rw [if_pos hz]
              exact ih (xl_61 (xl_61 hL q22) q23)  hp
            · have hp := hp.2 hz
              rw [if_neg hz]
              exact (xl_61 (xl_61 hL q22) q23)
          · have hp := hp.2 hz
            rw [if_neg hz]
            by_cases hz : (M.2.1 19 (v1.toNatClampNeg)) < (0 : Int32)
            · have hp := hp.1 hz
              rw [if_pos hz]
              by_cases hz : (xf_52 M (-(M.2.1 19 (v1.toNatClampNeg)))) < (0 : Int32)
              · have hp := hp.1 hz
                rw [if_pos hz]
                by_cases hz : (M.2.1 19 (v1.toNatClampNeg)) = (-33 : Int32)
                · have hp := hp.1 hz
                  rw [if_pos hz]
                  obtain ⟨q12, hp⟩ := hp
                  by_cases hz : (xf_61 M) = (0 : Int32)
                  · have hp := hp.1 hz
                    rw [if_pos hz]
                    exact ih (xl_62 (xl_61 hL q12))  hp
                  · have hp := hp.2 hz
                    rw [if_neg hz]
                    exact ih (xl_62 (xl_61 hL q12))  hp
                · have hp := hp.2 hz
                  rw [if_neg hz]
                  by_cases hz : (M.2.1 19 (v1.toNatClampNeg)) = (-126 : Int32)
                  · have hp := hp.1 hz
                    rw [if_pos hz]
                    obtain ⟨q11, hp⟩ := hp
                    exact ih (xl_62 (xl_61 hL q11))  hp
                  · have hp := hp.2 hz
                    rw [if_neg hz]
                    obtain ⟨q9, hp⟩ := hp
                    obtain ⟨q10, hp⟩ := hp
                    exact ih (xl_62 (xl_61 (xl_61 hL q9) q10))  hp
              · have hp := hp.2 hz
                rw [if_neg hz]
                by_cases hz : (6 : Int32) ≤ (xf_52 M (-(M.2.1 19 (v1.toNatClampNeg))))
                · have hp := hp.1 hz
                  rw [if_pos hz]
                  by_cases hz : (M.2.1 19 (v1.toNatClampNeg)) = (-33 : Int32)
                  · have hp := hp.1 hz
                    rw [if_pos hz]
                    obtain ⟨q20, hp⟩ := hp
                    by_cases hz : (xf_61 M) = (0 : Int32)
                    · have hp := hp.1 hz
                      rw [if_pos hz]
                      exact ih (xl_62 (xl_61 hL q20))  hp
                    · have hp := hp.2 hz
                      rw [if_neg hz]
                      exact ih (xl_62 (xl_61 hL q20))  hp
                  · have hp := hp.2 hz
                    rw [if_neg hz]
                    by_cases hz : (M.2.1 19 (v1.toNatClampNeg)) = (-126 : Int32)
                    · have hp := hp.1 hz
                      rw [if_pos hz]
                      obtain ⟨q19, hp⟩ := hp
                      exact ih (xl_62 (xl_61 hL q19))  hp
                    · have hp := hp.2 hz
                      rw [if_neg hz]
                      obtain ⟨q17, hp⟩ := hp
                      obtain ⟨q18, hp⟩ := hp
                      exact ih (xl_62 (xl_61 (xl_61 hL q17) q18))  hp
                · have hp := hp.2 hz
                  rw [if_neg hz]
                  exact ih (xl_62 hL)  hp
            · have hp := hp.2 hz
              rw [if_neg hz]
              exact ih (xl_62 hL)  hp
theorem xwI_60_7 : ∀ {n : Nat} {M : ro_Mm} {v1 : Int32} {c j : Nat} (n0 : c ≠ 16) (n1 : c ≠ 20), (xg_60_7 n M v1).2.2.2.2.1 c j = M.2.1 c j := by
  intro n
  induction n with
  | zero => intro M v1 c j n0 n1; rfl
  | succ n ih =>
    intro M v1 c j n0 n1
    rw [xg_60_7]
    by_cases hz : (M.2.1 16 8) ≤ v1
    · rw [if_pos hz]
      first | done | exact rfl
    · rw [if_neg hz]
      by_cases hz : (121 : Int32) ≤ v1
      · rw [if_pos hz]
        first | done | exact rfl
      · rw [if_neg hz]
        by_cases hz : (M.2.1 19 (v1.toNatClampNeg)) = (-59 : Int32)
        · rw [if_pos hz]
          first | done | exact (xwI_61 n0)
        · rw [if_neg hz]
          by_cases hz : (M.2.1 19 (v1.toNatClampNeg)) = (-63 : Int32)
          · rw [if_pos hz]
            by_cases hz : (xf_61 (xm_61 M)) = (0 : Int32)
            · rw [if_pos hz]
              first | done | exact ((((ih n0 n1)).trans (xwI_61 n0)).trans (xwI_61 n0))
            · rw [if_neg hz]
              first | done | exact (((xwI_61 n0)).trans (xwI_61 n0))
          · rw [if_neg hz]
            by_cases hz : (M.2.1 19 (v1.toNatClampNeg)) < (0 : Int32)
            · rw [if_pos hz]
              by_cases hz : (xf_52 M (-(M.2.1 19 (v1.toNatClampNeg)))) < (0 : Int32)
              · rw [if_pos hz]
                by_cases hz : (M.2.1 19 (v1.toNatClampNeg)) = (-33 : Int32)
                · rw [if_pos hz]
                  by_cases hz : (xf_61 M) = (0 : Int32)
                  · rw [if_pos hz]
                    first | done | exact ((((ih n0 n1)).trans (xwI_62 n1 n0)).trans (xwI_61 n0))
                  · rw [if_neg hz]
                    first | done | exact ((((ih n0 n1)).trans (xwI_62 n1 n0)).trans (xwI_61 n0))
                · rw [if_neg hz]
                  by_cases hz : (M.2.1 19 (v1.toNatClampNeg)) = (-126 : Int32)
                  · rw [if_pos hz]
                    first | done | exact ((((ih n0 n1)).trans (xwI_62 n1 n0)).trans (xwI_61 n0))
                  · rw [if_neg hz]
                    first | done | exact (((((ih n0 n1)).trans (xwI_62 n1 n0)).trans (xwI_61 n0)).trans (xwI_61 n0))
              · rw [if_neg hz]
                by_cases hz : (6 : Int32) ≤ (xf_52 M (-(M.2.1 19 (v1.toNatClampNeg))))
                · rw [if_pos hz]
                  by_cases hz : (M.2.1 19 (v1.toNatClampNeg)) = (-33 : Int32)
                  · rw [if_pos hz]
                    by_cases hz : (xf_61 M) = (0 : Int32)
                    · rw [if_pos hz]
                      first | done | exact ((((ih n0 n1)).trans (xwI_62 n1 n0)).trans (xwI_61 n0))
                    · rw [if_neg hz]
                      first | done | exact ((((ih n0 n1)).trans (xwI_62 n1 n0)).trans (xwI_61 n0))
                  · rw [if_neg hz]
                    by_cases hz : (M.2.1 19 (v1.toNatClampNeg)) = (-126 : Int32)
                    · rw [if_pos hz]
                      first | done | exact ((((ih n0 n1)).trans (xwI_62 n1 n0)).trans (xwI_61 n0))
                    · rw [if_neg hz]
                      first | done | exact (((((ih n0 n1)).trans (xwI_62 n1 n0)).trans (xwI_61 n0)).trans (xwI_61 n0))
                · rw [if_neg hz]
                  first | done | exact (((ih n0 n1)).trans (xwI_62 n1 n0))
            · rw [if_neg hz]
              first | done | exact (((ih n0 n1)).trans (xwI_62 n1 n0))
theorem xwJ_60_7 : ∀ {n : Nat} {M : ro_Mm} {v1 : Int32} {c j : Nat}, (xg_60_7 n M v1).2.2.2.2.2.1 c j = M.2.2.1 c j := by
  intro n
  induction n with
  | zero => intro M v1 c j; rfl
  | succ n ih =>
    intro M v1 c j
    rw [xg_60_7]
    by_cases hz : (M.2.1 16 8) ≤ v1
    · rw [if_pos hz]
      first | done | exact rfl
    · rw [if_neg hz]
      by_cases hz : (121 : Int32) ≤ v1
      · rw [if_pos hz]
        first | done | exact rfl
      · rw [if_neg hz]
        by_cases hz : (M.2.1 19 (v1.toNatClampNeg)) = (-59 : Int32)
        · rw [if_pos hz]
          first | done | exact (xwJ_61)
        · rw [if_neg hz]
          by_cases hz : (M.2.1 19 (v1.toNatClampNeg)) = (-63 : Int32)
          · rw [if_pos hz]
            by_cases hz : (xf_61 (xm_61 M)) = (0 : Int32)
            · rw [if_pos hz]
              first | done | exact ((((ih)).trans (xwJ_61)).trans (xwJ_61))
            · rw [if_neg hz]
              first | done | exact (((xwJ_61)).trans (xwJ_61))
          · rw [if_neg hz]
            by_cases hz : (M.2.1 19 (v1.toNatClampNeg)) < (0 : Int32)
            · rw [if_pos hz]
              by_cases hz : (xf_52 M (-(M.2.1 19 (v1.toNatClampNeg)))) < (0 : Int32)
              · rw [if_pos hz]
                by_cases hz : (M.2.1 19 (v1.toNatClampNeg)) = (-33 : Int32)
                · rw [if_pos hz]
                  by_cases hz : (xf_61 M) = (0 : Int32)
                  · rw [if_pos hz]
                    first | done | exact ((((ih)).trans (xwJ_62)).trans (xwJ_61))
                  · rw [if_neg hz]
                    first | done | exact ((((ih)).trans (xwJ_62)).trans (xwJ_61))
                · rw [if_neg hz]
                  by_cases hz : (M.2.1 19 (v1.toNatClampNeg)) = (-126 : Int32)
                  · rw [if_pos hz]
                    first | done | exact ((((ih)).trans (xwJ_62)).trans (xwJ_61))
                  · rw [if_neg hz]
                    first | done | exact (((((ih)).trans (xwJ_62)).trans (xwJ_61)).trans (xwJ_61))
              · rw [if_neg hz]
                by_cases hz : (6 : Int32) ≤ (xf_52 M (-(M.2.1 19 (v1.toNatClampNeg))))
                · rw [if_pos hz]
                  by_cases hz : (M.2.1 19 (v1.toNatClampNeg)) = (-33 : Int32)
                  · rw [if_pos hz]
                    by_cases hz : (xf_61 M) = (0 : Int32)
                    · rw [if_pos hz]
                      first | done | exact ((((ih)).trans (xwJ_62)).trans (xwJ_61))
                    · rw [if_neg hz]
                      first | done | exact ((((ih)).trans (xwJ_62)).trans (xwJ_61))
                  · rw [if_neg hz]
                    by_cases hz : (M.2.1 19 (v1.toNatClampNeg)) = (-126 : Int32)
                    · rw [if_pos hz]
                      first | done | exact ((((ih)).trans (xwJ_62)).trans (xwJ_61))
                    · rw [if_neg hz]
                      first | done | exact (((((ih)).trans (xwJ_62)).trans (xwJ_61)).trans (xwJ_61))
                · rw [if_neg hz]
                  first | done | exact (((ih)).trans (xwJ_62))
            · rw [if_neg hz]
              first | done | exact (((ih)).trans (xwJ_62))
/-- RefusedOnce$Law.worked()I -/
noncomputable def xf_60 (M : ro_Mm) : Int32 := (if (xg_60_7 lp_N (ro_sI M 16 9 (0 : Int32)) (0 : Int32)).1 = true then (xg_60_7 lp_N (ro_sI M 16 9 (0 : Int32)) (0 : Int32)).2.1 else (0 : Int32))
noncomputable def xm_60 (M : ro_Mm) : ro_Mm := (xg_60_7 lp_N (ro_sI M 16 9 (0 : Int32)) (0 : Int32)).2.2.2
def xp_60 (M : ro_Mm) : Prop := (xq_60_7 lp_N (ro_sI M 16 9 (0 : Int32)) (0 : Int32) ∧ True)
theorem xs_60 {X : ro_Sx} {M : ro_Mm} (hL : ro_lay M) (hp : xp_60 M) : ro_cwp X 2 60 [.ref 16] M (fun v M2 => v = some (.int (xf_60 M)) ∧ M2 = xm_60 M) := by
  refine rs_begin (lv0 := [(0, .ref 16)]) (by decide) rfl (by rw [rm_60.1]; exact Nat.le_of_ble_eq_true rfl) rfl ?_
  unfold xp_60 at hp
  refine rs_aload_n ri_60_0 rfl rfl ?_
  refine rs_iconst (v := (0 : Int32)) ri_60_1 rfl (by decide) ?_
  refine rs_pf (M2 := (ro_sI M 16 9 (0 : Int32))) ri_60_2 rfl (by decide) (ro_kf (kd_16 hL)) (fun h => absurd h (by decide)) (fun f h => h) ?_
  refine rs_iconst (v := (0 : Int32)) ri_60_5 rfl (by decide) ?_
  refine rs_istore_n (lv2 := [(1, .int (0 : Int32)), (0, .ref 16)]) ri_60_6 rfl rm_60.1 (by decide) rfl ?_
  obtain ⟨q26, hp⟩ := hp
  refine xt_60_7 lp_N hL q26 (fun h28 => ?_) (fun h28 => ?_)
  · skip
    refine rs_iconst (v := (0 : Int32)) ri_60_181 rfl (by decide) ?_
    refine rs_iret ri_60_182 rm_60.2.1 (by decide) ?_
    exact ⟨by unfold xf_60; first | (simp only [if_neg h28]; done) | rfl, by unfold xm_60; first | (simp only [if_neg h28]; done) | rfl⟩
  · skip
    exact ⟨by unfold xf_60; first | (simp only [if_pos h28]; done) | rfl, by unfold xm_60; first | (simp only [if_pos h28]; done) | rfl⟩
theorem xl_60 {M : ro_Mm} (hL : ro_lay M) (hp : xp_60 M) : ro_lay (xm_60 M) := by
  unfold xp_60 at hp
  unfold xm_60
  obtain ⟨q26, hp⟩ := hp
  by_cases hz : (xg_60_7 lp_N (ro_sI M 16 9 (0 : Int32)) (0 : Int32)).1 = true
  · skip
    exact (xl_60_7 lp_N hL q26)
  · skip
    exact (xl_60_7 lp_N hL q26)
theorem xwI_60 {M : ro_Mm} {c j : Nat} (n0 : c ≠ 16) (n1 : c ≠ 20) : (xm_60 M).2.1 c j = M.2.1 c j := by
  unfold xm_60
  first | done | exact (((xwI_60_7 n0 n1)).trans (ro_sI_ne n0))
theorem xwJ_60 {M : ro_Mm} {c j : Nat} : (xm_60 M).2.2.1 c j = M.2.2.1 c j := by
  unfold xm_60
  first | done | exact (((xwJ_60_7)).trans (congrFun (congrFun ro_sI_J _) _))
/-- a loop of RefusedOnce$Evening.read(LRefusedOnce$Shelf;)V -/
noncomputable def xg_66_5 : Nat → ro_Mm → Nat → Bool × ro_Mm
  | 0, M, c1 => (false, M)
  | n + 1, M, c1 => (if (20 : Int32) ≤ (M.2.1 35 6) then (false, M) else (if (xf_24 M c1) ≤ (M.2.1 35 6) then (false, M) else (if (xf_25 M c1 (M.2.1 35 6)) < (0 : Int32) then (true, M) else (if (xf_57 M ((xf_25 M c1 (M.2.1 35 6)) / (20 : Int32)) ((ro_irem (xf_25 M c1 (M.2.1 35 6)) (20 : Int32)) / (2 : Int32))) then (xg_66_5 n (ro_sI (ro_sI (ro_sI (ro_sI M 39 ((M.2.1 35 6).toNatClampNeg) ((xf_25 M c1 (M.2.1 35 6)) / (20 : Int32))) 40 ((M.2.1 35 6).toNatClampNeg) ((ro_irem (xf_25 M c1 (M.2.1 35 6)) (20 : Int32)) / (2 : Int32))) 41 ((M.2.1 35 6).toNatClampNeg) (ro_irem (xf_25 M c1 (M.2.1 35 6)) (2 : Int32))) 35 6 ((M.2.1 35 6) + (1 : Int32))) c1) else (true, M)))))
def xq_66_5 : Nat → ro_Mm → Nat → Prop
  | 0, _, _ => False
  | n + 1, M, c1 => (((20 : Int32) ≤ (M.2.1 35 6) → True) ∧ (¬ ((20 : Int32) ≤ (M.2.1 35 6)) → (((xf_24 M c1) ≤ (M.2.1 35 6) → True) ∧ (¬ ((xf_24 M c1) ≤ (M.2.1 35 6)) → (((xf_25 M c1 (M.2.1 35 6)) < (0 : Int32) → True) ∧ (¬ ((xf_25 M c1 (M.2.1 35 6)) < (0 : Int32)) → (((xf_57 M ((xf_25 M c1 (M.2.1 35 6)) / (20 : Int32)) ((ro_irem (xf_25 M c1 (M.2.1 35 6)) (20 : Int32)) / (2 : Int32))) → (vp_in (M.2.1 35 6) 20 ∧ (vp_in (M.2.1 35 6) 20 ∧ (vp_in (M.2.1 35 6) 20 ∧ (xq_66_5 n (ro_sI (ro_sI (ro_sI (ro_sI M 39 ((M.2.1 35 6).toNatClampNeg) ((xf_25 M c1 (M.2.1 35 6)) / (20 : Int32))) 40 ((M.2.1 35 6).toNatClampNeg) ((ro_irem (xf_25 M c1 (M.2.1 35 6)) (20 : Int32)) / (2 : Int32))) 41 ((M.2.1 35 6).toNatClampNeg) (ro_irem (xf_25 M c1 (M.2.1 35 6)) (2 : Int32))) 35 6 ((M.2.1 35 6) + (1 : Int32))) c1))))) ∧ (¬ ((xf_57 M ((xf_25 M c1 (M.2.1 35 6)) / (20 : Int32)) ((ro_irem (xf_25 M c1 (M.2.1 35 6)) (20 : Int32)) / (2 : Int32)))) → True))))))))
theorem xt_66_5 {X : ro_Sx} {post : ro_Po} : ∀ (n : Nat) {M : ro_Mm} {c1 : Nat} (hL : ro_lay M) (hc1 : ro_is c1) (hp : xq_66_5 n M c1) (hk : ¬ (xg_66_5 n M c1).1 = true → ro_w X 2 66 post 112 [(0, .ref 35), (1, .ref c1)] [] (xg_66_5 n M c1).2 (0, 0)) (hr : (xg_66_5 n M c1).1 = true → post (none) (xg_66_5 n M c1).2), ro_w X 2 66 post 5 [(0, .ref 35), (1, .ref c1)] [] M (0, 0) := by
  intro n
  induction n with
  | zero => intro M c1 hL hc1 hp hk hr; exact False.elim hp
  | succ n ih =>
    intro M c1 hL hc1 hp hk hr
    rw [xq_66_5] at hp
    refine rs_aload_n ri_66_5 rfl rfl ?_
    refine rs_gf (v := .int (M.2.1 35 6)) ri_66_6 rfl (by decide) (ro_kf (kd_35 hL)) rfl rfl ?_
    refine rs_bipush (v := (20 : Int32)) ri_66_9 rfl (by decide) ?_
    refine rs_icmp_ge (t := 112) ri_66_11 rfl rfl (fun h1 => ?_) (fun h1 => ?_)
    · skip
      have e : xg_66_5 (n + 1) M c1 = (false, M) := by rw [xg_66_5]; first | (simp only [if_pos h1]; done) | rfl
      rw [e] at hk hr
      exact ro_w_lv (ro_sub_c rfl (ro_sub_c rfl (ro_sub_n rfl))) (hk (fun z => Bool.noConfusion z))
    · have hp := hp.2 h1
      refine rs_aload_n ri_66_14 rfl rfl ?_
      refine rs_gf (v := .int (M.2.1 35 6)) ri_66_15 rfl (by decide) (ro_kf (kd_35 hL)) rfl rfl ?_
      refine rs_aload_n ri_66_18 rfl rfl ?_
      refine rs_virt (As := []) (r := [.int (M.2.1 35 6)]) ri_66_19 rfl (by decide) rm_24.2.2.2 rm_24.2.2.1 rfl rfl rfl (ro_is4 hc1) (ro_kf (is_kd hL hc1)) (Nat.le_of_ble_eq_true rfl) (by decide) (by decide) (xs_24 (X := X) hL hc1) ?_
      rintro _ _ ⟨e1, e2⟩
      rw [e1, e2]
      show ro_w X _ 66 _ 22 [(0, .ref 35), (1, .ref c1)] [.int (xf_24 M c1), .int (M.2.1 35 6)] M (0, 0)
      refine rs_icmp_ge (t := 112) ri_66_22 rfl rfl (fun h2 => ?_) (fun h2 => ?_)
      · skip
        have e : xg_66_5 (n + 1) M c1 = (false, M) := by rw [xg_66_5]; first | (simp only [if_neg h1, if_pos h2]; done) | rfl
        rw [e] at hk hr
        exact ro_w_lv (ro_sub_c rfl (ro_sub_c rfl (ro_sub_n rfl))) (hk (fun z => Bool.noConfusion z))
      · have hp := hp.2 h2
        refine rs_aload_n ri_66_25 rfl rfl ?_
        refine rs_aload_n ri_66_26 rfl rfl ?_
        refine rs_gf (v := .int (M.2.1 35 6)) ri_66_27 rfl (by decide) (ro_kf (kd_35 hL)) rfl rfl ?_
        refine rs_virt (As := [.int (M.2.1 35 6)]) (r := []) ri_66_30 rfl (by decide) rm_25.2.2.2 rm_25.2.2.1 rfl rfl rfl (ro_is4 hc1) (ro_kf (is_kd hL hc1)) (Nat.le_of_ble_eq_true rfl) (by decide) (by decide) (xs_25 (X := X) hL hc1) ?_
        rintro _ _ ⟨e1, e2⟩
        rw [e1, e2]
        show ro_w X _ 66 _ 33 [(0, .ref 35), (1, .ref c1)] [.int (xf_25 M c1 (M.2.1 35 6))] M (0, 0)
        refine rs_istore_n (lv2 := [(2, .int (xf_25 M c1 (M.2.1 35 6))), (0, .ref 35), (1, .ref c1)]) ri_66_33 rfl rm_66.1 (by decide) rfl ?_
        refine rs_iload_n ri_66_34 rfl rfl ?_
        refine rs_if_lt (t := 58) ri_66_35 rfl rfl (fun h3 => ?_) (fun h3 => ?_)
        · skip
          refine rs_ret ri_66_58 rm_66.2.1 (by decide) ?_
          have e : xg_66_5 (n + 1) M c1 = (true, M) := by rw [xg_66_5]; first | (simp only [if_neg h1, if_neg h2, if_pos h3]; done) | rfl
          rw [e] at hk hr
          exact hr rfl
        · have hp := hp.2 h3
          refine rs_aload_n ri_66_38 rfl rfl ?_
          refine rs_gf (v := .ref 5) ri_66_39 rfl (by decide) (ro_kf (kd_35 hL)) rfl (rf_35_0 hL) ?_
          refine rs_iload_n ri_66_42 rfl rfl ?_
          refine rs_bipush (v := (20 : Int32)) ri_66_43 rfl (by decide) ?_
          refine rs_idiv (r := ((xf_25 M c1 (M.2.1 35 6)) / (20 : Int32))) ri_66_45 rfl (by decide) rfl ?_
          refine rs_iload_n ri_66_46 rfl rfl ?_
          refine rs_bipush (v := (20 : Int32)) ri_66_47 rfl (by decide) ?_
          refine rs_irem (r := (ro_irem (xf_25 M c1 (M.2.1 35 6)) (20 : Int32))) ri_66_49 rfl (by decide) rfl ?_
          refine rs_iconst (v := (2 : Int32)) ri_66_50 rfl (by decide) ?_
          refine rs_idiv (r := ((ro_irem (xf_25 M c1 (M.2.1 35 6)) (20 : Int32)) / (2 : Int32))) ri_66_51 rfl (by decide) rfl ?_
          refine rs_virt (As := [.int ((xf_25 M c1 (M.2.1 35 6)) / (20 : Int32)), .int ((ro_irem (xf_25 M c1 (M.2.1 35 6)) (20 : Int32)) / (2 : Int32))]) (r := []) ri_66_52 rfl (by decide) rm_57.2.2.2 rm_57.2.2.1 rfl rfl rfl (by decide) (ro_kf (kd_5 hL)) (Nat.le_of_ble_eq_true rfl) (by decide) (by decide) (xs_57 (X := X) hL) ?_
          rintro _ _ ⟨e1, e2⟩
          rw [e1, e2]
          show ro_w X _ 66 _ 55 [(2, .int (xf_25 M c1 (M.2.1 35 6))), (0, .ref 35), (1, .ref c1)] [.int (ro_b (xf_57 M ((xf_25 M c1 (M.2.1 35 6)) / (20 : Int32)) ((ro_irem (xf_25 M c1 (M.2.1 35 6)) (20 : Int32)) / (2 : Int32))))] M (0, 0)
          refine rs_ifne_c (t := 59) ri_66_55 rfl rfl (fun h4 => ?_) (fun h4 => ?_)
          · have hp := hp.1 h4
            refine rs_aload_n ri_66_59 rfl rfl ?_
            refine rs_gf (v := .ref 39) ri_66_60 rfl (by decide) (ro_kf (kd_35 hL)) rfl (rf_35_3 hL) ?_
            refine rs_aload_n ri_66_63 rfl rfl ?_
            refine rs_gf (v := .int (M.2.1 35 6)) ri_66_64 rfl (by decide) (ro_kf (kd_35 hL)) rfl rfl ?_
            refine rs_iload_n ri_66_67 rfl rfl ?_
            refine rs_bipush (v := (20 : Int32)) ri_66_68 rfl (by decide) ?_
            refine rs_idiv (r := ((xf_25 M c1 (M.2.1 35 6)) / (20 : Int32))) ri_66_70 rfl (by decide) rfl ?_
            obtain ⟨q4, hp⟩ := hp
            refine rs_iast (j := (M.2.1 35 6).toNatClampNeg) ri_66_71 rfl (by decide) (kd_39 hL) q4 rfl ?_
            refine rs_aload_n ri_66_72 rfl rfl ?_
            refine rs_gf (v := .ref 40) ri_66_73 rfl (by decide) (ro_kf (kd_35 hL)) rfl (rf_35_4 hL) ?_
            refine rs_aload_n ri_66_76 rfl rfl ?_
            refine rs_gf (v := .int (M.2.1 35 6)) ri_66_77 rfl (by decide) (ro_kf (kd_35 hL)) rfl rfl ?_
            refine rs_iload_n ri_66_80 rfl rfl ?_
            refine rs_bipush (v := (20 : Int32)) ri_66_81 rfl (by decide) ?_
            refine rs_irem (r := (ro_irem (xf_25 M c1 (M.2.1 35 6)) (20 : Int32))) ri_66_83 rfl (by decide) rfl ?_
            refine rs_iconst (v := (2 : Int32)) ri_66_84 rfl (by decide) ?_
            refine rs_idiv (r := ((ro_irem (xf_25 M c1 (M.2.1 35 6)) (20 : Int32)) / (2 : Int32))) ri_66_85 rfl (by decide) rfl ?_
            obtain ⟨q5, hp⟩ := hp
            refine rs_iast (j := (M.2.1 35 6).toNatClampNeg) ri_66_86 rfl (by decide) (kd_40 hL) q5 rfl ?_
            refine rs_aload_n ri_66_87 rfl rfl ?_
            refine rs_gf (v := .ref 41) ri_66_88 rfl (by decide) (ro_kf (kd_35 hL)) rfl (rf_35_5 hL) ?_
            refine rs_aload_n ri_66_91 rfl rfl ?_
            refine rs_gf (v := .int (M.2.1 35 6)) ri_66_92 rfl (by decide) (ro_kf (kd_35 hL)) rfl rfl ?_
            refine rs_iload_n ri_66_95 rfl rfl ?_
            refine rs_iconst (v := (2 : Int32)) ri_66_96 rfl (by decide) ?_
            refine rs_irem (r := (ro_irem (xf_25 M c1 (M.2.1 35 6)) (2 : Int32))) ri_66_97 rfl (by decide) rfl ?_
            obtain ⟨q6, hp⟩ := hp
            refine rs_iast (j := (M.2.1 35 6).toNatClampNeg) ri_66_98 rfl (by decide) (kd_41 hL) q6 rfl ?_
            refine rs_aload_n ri_66_99 rfl rfl ?_
            refine rs_dup ri_66_100 rfl rfl ?_
            refine rs_gf (v := .int (M.2.1 35 6)) ri_66_101 rfl (by decide) (ro_kf (kd_35 hL)) rfl rfl ?_
            refine rs_iconst (v := (1 : Int32)) ri_66_104 rfl (by decide) ?_
            refine rs_iadd (r := ((M.2.1 35 6) + (1 : Int32))) ri_66_105 rfl rfl ?_
            refine rs_pf (M2 := (ro_sI (ro_sI (ro_sI (ro_sI M 39 ((M.2.1 35 6).toNatClampNeg) ((xf_25 M c1 (M.2.1 35 6)) / (20 : Int32))) 40 ((M.2.1 35 6).toNatClampNeg) ((ro_irem (xf_25 M c1 (M.2.1 35 6)) (20 : Int32)) / (2 : Int32))) 41 ((M.2.1 35 6).toNatClampNeg) (ro_irem (xf_25 M c1 (M.2.1 35 6)) (2 : Int32))) 35 6 ((M.2.1 35 6) + (1 : Int32)))) ri_66_106 rfl (by decide) (ro_kf (kd_35 hL)) (fun h => absurd h (by decide)) (fun f h => h) ?_
            refine rs_goto (t := 5) ri_66_109 rfl ?_
            have e : xg_66_5 (n + 1) M c1 = xg_66_5 n (ro_sI (ro_sI (ro_sI (ro_sI M 39 ((M.2.1 35 6).toNatClampNeg) ((xf_25 M c1 (M.2.1 35 6)) / (20 : Int32))) 40 ((M.2.1 35 6).toNatClampNeg) ((ro_irem (xf_25 M c1 (M.2.1 35 6)) (20 : Int32)) / (2 : Int32))) 41 ((M.2.1 35 6).toNatClampNeg) (ro_irem (xf_25 M c1 (M.2.1 35 6)) (2 : Int32))) 35 6 ((M.2.1 35 6) + (1 : Int32))) c1 := by rw [xg_66_5]; first | (simp only [if_neg h1, if_neg h2, if_neg h3, if_pos h4]; done) | rfl
            rw [e] at hk hr
            exact ro_w_lv (ro_sub_c rfl (ro_sub_c rfl (ro_sub_n rfl))) (ih hL hc1 hp hk hr)
          · skip
            refine rs_ret ri_66_58 rm_66.2.1 (by decide) ?_
            have e : xg_66_5 (n + 1) M c1 = (true, M) := by rw [xg_66_5]; first | (simp only [if_neg h1, if_neg h2, if_neg h3, if_neg h4]; done) | rfl
            rw [e] at hk hr
            exact hr rfl
theorem xl_66_5 : ∀ (n : Nat) {M : ro_Mm} {c1 : Nat} (hL : ro_lay M) (hc1 : ro_is c1) (hp : xq_66_5 n M c1), ro_lay (xg_66_5 n M c1).2 := by
  intro n
  induction n with
  | zero => intro M c1 hL hc1 hp; exact False.elim hp
  | succ n ih =>
    intro M c1 hL hc1 hp
    rw [xq_66_5] at hp
    rw [xg_66_5]
    by_cases hz : (20 : Int32) ≤ (M.2.1 35 6)
    · have hp := hp.1 hz
      rw [if_pos hz]
      exact hL
    · have hp := hp.2 hz
      rw [if_neg hz]
      by_cases hz : (xf_24 M c1) ≤ (M.2.1 35 6)
      · have hp := hp.1 hz
        rw [if_pos hz]
        exact hL
      · have hp := hp.2 hz
        rw [if_neg hz]
        by_cases hz : (xf_25 M c1 (M.2.1 35 6)) < (0 : Int32)
        · have hp := hp.1 hz
          rw [if_pos hz]
          exact hL
        · have hp := hp.2 hz
          rw [if_neg hz]
          by_cases hz : (xf_57 M ((xf_25 M c1 (M.2.1 35 6)) / (20 : Int32)) ((ro_irem (xf_25 M c1 (M.2.1 35 6)) (20 : Int32)) / (2 : Int32)))
          · have hp := hp.1 hz
            rw [if_pos hz]
            obtain ⟨q4, hp⟩ := hp
            obtain ⟨q5, hp⟩ := hp
            obtain ⟨q6, hp⟩ := hp
            exact ih hL hc1 hp
          · have hp := hp.2 hz
            rw [if_neg hz]
            exact hL
theorem xwI_66_5 : ∀ {n : Nat} {M : ro_Mm} {c1 : Nat} {c j : Nat} (n0 : c ≠ 39) (n1 : c ≠ 40) (n2 : c ≠ 41) (n3 : c ≠ 35), (xg_66_5 n M c1).2.2.1 c j = M.2.1 c j := by
  intro n
  induction n with
  | zero => intro M c1 c j n0 n1 n2 n3; rfl
  | succ n ih =>
    intro M c1 c j n0 n1 n2 n3
    rw [xg_66_5]
    by_cases hz : (20 : Int32) ≤ (M.2.1 35 6)
    · rw [if_pos hz]
      first | done | exact rfl
    · rw [if_neg hz]
      by_cases hz : (xf_24 M c1) ≤ (M.2.1 35 6)
      · rw [if_pos hz]
        first | done | exact rfl
      · rw [if_neg hz]
        by_cases hz : (xf_25 M c1 (M.2.1 35 6)) < (0 : Int32)
        · rw [if_pos hz]
          first | done | exact rfl
        · rw [if_neg hz]
          by_cases hz : (xf_57 M ((xf_25 M c1 (M.2.1 35 6)) / (20 : Int32)) ((ro_irem (xf_25 M c1 (M.2.1 35 6)) (20 : Int32)) / (2 : Int32)))
          · rw [if_pos hz]
            first | done | exact ((((((ih n0 n1 n2 n3)).trans (ro_sI_ne n3)).trans (ro_sI_ne n2)).trans (ro_sI_ne n1)).trans (ro_sI_ne n0))
          · rw [if_neg hz]
            first | done | exact rfl
theorem xwJ_66_5 : ∀ {n : Nat} {M : ro_Mm} {c1 : Nat} {c j : Nat}, (xg_66_5 n M c1).2.2.2.1 c j = M.2.2.1 c j := by
  intro n
  induction n with
  | zero => intro M c1 c j; rfl
  | succ n ih =>
    intro M c1 c j
    rw [xg_66_5]
    by_cases hz : (20 : Int32) ≤ (M.2.1 35 6)
    · rw [if_pos hz]
      first | done | exact rfl
    · rw [if_neg hz]
      by_cases hz : (xf_24 M c1) ≤ (M.2.1 35 6)
      · rw [if_pos hz]
        first | done | exact rfl
      · rw [if_neg hz]
        by_cases hz : (xf_25 M c1 (M.2.1 35 6)) < (0 : Int32)
        · rw [if_pos hz]
          first | done | exact rfl
        · rw [if_neg hz]
          by_cases hz : (xf_57 M ((xf_25 M c1 (M.2.1 35 6)) / (20 : Int32)) ((ro_irem (xf_25 M c1 (M.2.1 35 6)) (20 : Int32)) / (2 : Int32)))
          · rw [if_pos hz]
            first | done | exact ((((((ih)).trans (congrFun (congrFun ro_sI_J _) _)).trans (congrFun (congrFun ro_sI_J _) _)).trans (congrFun (congrFun ro_sI_J _) _)).trans (congrFun (congrFun ro_sI_J _) _))
          · rw [if_neg hz]
            first | done | exact rfl
/-- RefusedOnce$Evening.read(LRefusedOnce$Shelf;)V -/
noncomputable def xm_66 (M : ro_Mm) (c1 : Nat) : ro_Mm := (xg_66_5 lp_N (ro_sI M 35 6 (0 : Int32)) c1).2
def xp_66 (M : ro_Mm) (c1 : Nat) : Prop := (xq_66_5 lp_N (ro_sI M 35 6 (0 : Int32)) c1 ∧ True)
theorem xs_66 {X : ro_Sx} {M : ro_Mm} {c1 : Nat} (hL : ro_lay M) (hc1 : ro_is c1) (hp : xp_66 M c1) : ro_cwp X 3 66 [.ref 35, .ref c1] M (fun v M2 => v = none ∧ M2 = xm_66 M c1) := by
  refine rs_begin (lv0 := [(0, .ref 35), (1, .ref c1)]) (by decide) rfl (by rw [rm_66.1]; exact Nat.le_of_ble_eq_true rfl) rfl ?_
  unfold xp_66 at hp
  refine rs_aload_n ri_66_0 rfl rfl ?_
  refine rs_iconst (v := (0 : Int32)) ri_66_1 rfl (by decide) ?_
  refine rs_pf (M2 := (ro_sI M 35 6 (0 : Int32))) ri_66_2 rfl (by decide) (ro_kf (kd_35 hL)) (fun h => absurd h (by decide)) (fun f h => h) ?_
  obtain ⟨q7, hp⟩ := hp
  refine xt_66_5 lp_N hL hc1 q7 (fun h9 => ?_) (fun h9 => ?_)
  · skip
    refine rs_ret ri_66_112 rm_66.2.1 (by decide) ?_
    exact ⟨by rfl, by unfold xm_66; first | (simp only [if_neg h9]; done) | rfl⟩
  · skip
    exact ⟨by rfl, by unfold xm_66; first | (simp only [if_pos h9]; done) | rfl⟩
theorem xl_66 {M : ro_Mm} {c1 : Nat} (hL : ro_lay M) (hc1 : ro_is c1) (hp : xp_66 M c1) : ro_lay (xm_66 M c1) := by
  unfold xp_66 at hp
  unfold xm_66
  obtain ⟨q7, hp⟩ := hp
  by_cases hz : (xg_66_5 lp_N (ro_sI M 35 6 (0 : Int32)) c1).1 = true
  · skip
    exact (xl_66_5 lp_N hL hc1 q7)
  · skip
    exact (xl_66_5 lp_N hL hc1 q7)
theorem xwI_66 {M : ro_Mm} {c1 : Nat} {c j : Nat} (n0 : c ≠ 35) (n1 : c ≠ 39) (n2 : c ≠ 40) (n3 : c ≠ 41) : (xm_66 M c1).2.1 c j = M.2.1 c j := by
  unfold xm_66
  first | done | exact (((xwI_66_5 n1 n2 n3 n0)).trans (ro_sI_ne n0))
theorem xwJ_66 {M : ro_Mm} {c1 : Nat} {c j : Nat} : (xm_66 M c1).2.2.1 c j = M.2.2.1 c j := by
  unfold xm_66
  first | done | exact (((xwJ_66_5)).trans (congrFun (congrFun ro_sI_J _) _))
/-- a loop of RefusedOnce$Payings.read(LRefusedOnce$Shelf;)V -/
noncomputable def xg_84_5 : Nat → ro_Mm → Nat → Bool × ro_Mm
  | 0, M, c1 => (false, M)
  | n + 1, M, c1 => (if (10 : Int32) ≤ (M.2.1 42 5) then (false, M) else (if (xf_24 M c1) ≤ (((2 : Int32) * (M.2.1 42 5)) + (1 : Int32)) then (false, M) else (if (xf_57 M (xf_25 M c1 ((2 : Int32) * (M.2.1 42 5))) (xf_25 M c1 (((2 : Int32) * (M.2.1 42 5)) + (1 : Int32)))) then (xg_84_5 n (ro_sI (ro_sI (ro_sI M 46 ((M.2.1 42 5).toNatClampNeg) (xf_25 M c1 ((2 : Int32) * (M.2.1 42 5)))) 47 ((M.2.1 42 5).toNatClampNeg) (xf_25 M c1 (((2 : Int32) * (M.2.1 42 5)) + (1 : Int32)))) 42 5 ((M.2.1 42 5) + (1 : Int32))) c1) else (true, M))))
def xq_84_5 : Nat → ro_Mm → Nat → Prop
  | 0, _, _ => False
  | n + 1, M, c1 => (((10 : Int32) ≤ (M.2.1 42 5) → True) ∧ (¬ ((10 : Int32) ≤ (M.2.1 42 5)) → (((xf_24 M c1) ≤ (((2 : Int32) * (M.2.1 42 5)) + (1 : Int32)) → True) ∧ (¬ ((xf_24 M c1) ≤ (((2 : Int32) * (M.2.1 42 5)) + (1 : Int32))) → (((xf_57 M (xf_25 M c1 ((2 : Int32) * (M.2.1 42 5))) (xf_25 M c1 (((2 : Int32) * (M.2.1 42 5)) + (1 : Int32)))) → (vp_in (M.2.1 42 5) 10 ∧ (vp_in (M.2.1 42 5) 10 ∧ (xq_84_5 n (ro_sI (ro_sI (ro_sI M 46 ((M.2.1 42 5).toNatClampNeg) (xf_25 M c1 ((2 : Int32) * (M.2.1 42 5)))) 47 ((M.2.1 42 5).toNatClampNeg) (xf_25 M c1 (((2 : Int32) * (M.2.1 42 5)) + (1 : Int32)))) 42 5 ((M.2.1 42 5) + (1 : Int32))) c1)))) ∧ (¬ ((xf_57 M (xf_25 M c1 ((2 : Int32) * (M.2.1 42 5))) (xf_25 M c1 (((2 : Int32) * (M.2.1 42 5)) + (1 : Int32))))) → True))))))
theorem xt_84_5 {X : ro_Sx} {post : ro_Po} : ∀ (n : Nat) {M : ro_Mm} {c1 : Nat} (hL : ro_lay M) (hc1 : ro_is c1) (hp : xq_84_5 n M c1) (hk : ¬ (xg_84_5 n M c1).1 = true → ro_w X 2 84 post 99 [(0, .ref 42), (1, .ref c1)] [] (xg_84_5 n M c1).2 (0, 0)) (hr : (xg_84_5 n M c1).1 = true → post (none) (xg_84_5 n M c1).2), ro_w X 2 84 post 5 [(0, .ref 42), (1, .ref c1)] [] M (0, 0) := by
  intro n
  induction n with
  | zero => intro M c1 hL hc1 hp hk hr; exact False.elim hp
  | succ n ih =>
    intro M c1 hL hc1 hp hk hr
    rw [xq_84_5] at hp
    refine rs_aload_n ri_84_5 rfl rfl ?_
    refine rs_gf (v := .int (M.2.1 42 5)) ri_84_6 rfl (by decide) (ro_kf (kd_42 hL)) rfl rfl ?_
    refine rs_bipush (v := (10 : Int32)) ri_84_9 rfl (by decide) ?_
    refine rs_icmp_ge (t := 99) ri_84_11 rfl rfl (fun h1 => ?_) (fun h1 => ?_)
    · skip
      have e : xg_84_5 (n + 1) M c1 = (false, M) := by rw [xg_84_5]; first | (simp only [if_pos h1]; done) | rfl
      rw [e] at hk hr
      exact ro_w_lv (ro_sub_c rfl (ro_sub_c rfl (ro_sub_n rfl))) (hk (fun z => Bool.noConfusion z))
    · have hp := hp.2 h1
      refine rs_iconst (v := (2 : Int32)) ri_84_14 rfl (by decide) ?_
      refine rs_aload_n ri_84_15 rfl rfl ?_
      refine rs_gf (v := .int (M.2.1 42 5)) ri_84_16 rfl (by decide) (ro_kf (kd_42 hL)) rfl rfl ?_
      refine rs_imul (r := ((2 : Int32) * (M.2.1 42 5))) ri_84_19 rfl rfl ?_
      refine rs_iconst (v := (1 : Int32)) ri_84_20 rfl (by decide) ?_
      refine rs_iadd (r := (((2 : Int32) * (M.2.1 42 5)) + (1 : Int32))) ri_84_21 rfl rfl ?_
      refine rs_aload_n ri_84_22 rfl rfl ?_
      refine rs_virt (As := []) (r := [.int (((2 : Int32) * (M.2.1 42 5)) + (1 : Int32))]) ri_84_23 rfl (by decide) rm_24.2.2.2 rm_24.2.2.1 rfl rfl rfl (ro_is4 hc1) (ro_kf (is_kd hL hc1)) (Nat.le_of_ble_eq_true rfl) (by decide) (by decide) (xs_24 (X := X) hL hc1) ?_
      rintro _ _ ⟨e1, e2⟩
      rw [e1, e2]
      show ro_w X _ 84 _ 26 [(0, .ref 42), (1, .ref c1)] [.int (xf_24 M c1), .int (((2 : Int32) * (M.2.1 42 5)) + (1 : Int32))] M (0, 0)
      refine rs_icmp_ge (t := 99) ri_84_26 rfl rfl (fun h2 => ?_) (fun h2 => ?_)
      · skip
        have e : xg_84_5 (n + 1) M c1 = (false, M) := by rw [xg_84_5]; first | (simp only [if_neg h1, if_pos h2]; done) | rfl
        rw [e] at hk hr
        exact ro_w_lv (ro_sub_c rfl (ro_sub_c rfl (ro_sub_n rfl))) (hk (fun z => Bool.noConfusion z))
      · have hp := hp.2 h2
        refine rs_aload_n ri_84_29 rfl rfl ?_
        refine rs_iconst (v := (2 : Int32)) ri_84_30 rfl (by decide) ?_
        refine rs_aload_n ri_84_31 rfl rfl ?_
        refine rs_gf (v := .int (M.2.1 42 5)) ri_84_32 rfl (by decide) (ro_kf (kd_42 hL)) rfl rfl ?_
        refine rs_imul (r := ((2 : Int32) * (M.2.1 42 5))) ri_84_35 rfl rfl ?_
        refine rs_virt (As := [.int ((2 : Int32) * (M.2.1 42 5))]) (r := []) ri_84_36 rfl (by decide) rm_25.2.2.2 rm_25.2.2.1 rfl rfl rfl (ro_is4 hc1) (ro_kf (is_kd hL hc1)) (Nat.le_of_ble_eq_true rfl) (by decide) (by decide) (xs_25 (X := X) hL hc1) ?_
        rintro _ _ ⟨e1, e2⟩
        rw [e1, e2]
        show ro_w X _ 84 _ 39 [(0, .ref 42), (1, .ref c1)] [.int (xf_25 M c1 ((2 : Int32) * (M.2.1 42 5)))] M (0, 0)
        refine rs_istore_n (lv2 := [(2, .int (xf_25 M c1 ((2 : Int32) * (M.2.1 42 5)))), (0, .ref 42), (1, .ref c1)]) ri_84_39 rfl rm_84.1 (by decide) rfl ?_
        refine rs_aload_n ri_84_40 rfl rfl ?_
        refine rs_iconst (v := (2 : Int32)) ri_84_41 rfl (by decide) ?_
        refine rs_aload_n ri_84_42 rfl rfl ?_
        refine rs_gf (v := .int (M.2.1 42 5)) ri_84_43 rfl (by decide) (ro_kf (kd_42 hL)) rfl rfl ?_
        refine rs_imul (r := ((2 : Int32) * (M.2.1 42 5))) ri_84_46 rfl rfl ?_
        refine rs_iconst (v := (1 : Int32)) ri_84_47 rfl (by decide) ?_
        refine rs_iadd (r := (((2 : Int32) * (M.2.1 42 5)) + (1 : Int32))) ri_84_48 rfl rfl ?_
        refine rs_virt (As := [.int (((2 : Int32) * (M.2.1 42 5)) + (1 : Int32))]) (r := []) ri_84_49 rfl (by decide) rm_25.2.2.2 rm_25.2.2.1 rfl rfl rfl (ro_is4 hc1) (ro_kf (is_kd hL hc1)) (Nat.le_of_ble_eq_true rfl) (by decide) (by decide) (xs_25 (X := X) hL hc1) ?_
        rintro _ _ ⟨e1, e2⟩
        rw [e1, e2]
        show ro_w X _ 84 _ 52 [(2, .int (xf_25 M c1 ((2 : Int32) * (M.2.1 42 5)))), (0, .ref 42), (1, .ref c1)] [.int (xf_25 M c1 (((2 : Int32) * (M.2.1 42 5)) + (1 : Int32)))] M (0, 0)
        refine rs_istore_n (lv2 := [(3, .int (xf_25 M c1 (((2 : Int32) * (M.2.1 42 5)) + (1 : Int32)))), (2, .int (xf_25 M c1 ((2 : Int32) * (M.2.1 42 5)))), (0, .ref 42), (1, .ref c1)]) ri_84_52 rfl rm_84.1 (by decide) rfl ?_
        refine rs_aload_n ri_84_53 rfl rfl ?_
        refine rs_gf (v := .ref 5) ri_84_54 rfl (by decide) (ro_kf (kd_42 hL)) rfl (rf_42_0 hL) ?_
        refine rs_iload_n ri_84_57 rfl rfl ?_
        refine rs_iload_n ri_84_58 rfl rfl ?_
        refine rs_virt (As := [.int (xf_25 M c1 ((2 : Int32) * (M.2.1 42 5))), .int (xf_25 M c1 (((2 : Int32) * (M.2.1 42 5)) + (1 : Int32)))]) (r := []) ri_84_59 rfl (by decide) rm_57.2.2.2 rm_57.2.2.1 rfl rfl rfl (by decide) (ro_kf (kd_5 hL)) (Nat.le_of_ble_eq_true rfl) (by decide) (by decide) (xs_57 (X := X) hL) ?_
        rintro _ _ ⟨e1, e2⟩
        rw [e1, e2]
        show ro_w X _ 84 _ 62 [(3, .int (xf_25 M c1 (((2 : Int32) * (M.2.1 42 5)) + (1 : Int32)))), (2, .int (xf_25 M c1 ((2 : Int32) * (M.2.1 42 5)))), (0, .ref 42), (1, .ref c1)] [.int (ro_b (xf_57 M (xf_25 M c1 ((2 : Int32) * (M.2.1 42 5))) (xf_25 M c1 (((2 : Int32) * (M.2.1 42 5)) + (1 : Int32)))))] M (0, 0)
        refine rs_ifne_c (t := 66) ri_84_62 rfl rfl (fun h3 => ?_) (fun h3 => ?_)
        · have hp := hp.1 h3
          refine rs_aload_n ri_84_66 rfl rfl ?_
          refine rs_gf (v := .ref 46) ri_84_67 rfl (by decide) (ro_kf (kd_42 hL)) rfl (rf_42_3 hL) ?_
          refine rs_aload_n ri_84_70 rfl rfl ?_
          refine rs_gf (v := .int (M.2.1 42 5)) ri_84_71 rfl (by decide) (ro_kf (kd_42 hL)) rfl rfl ?_
          refine rs_iload_n ri_84_74 rfl rfl ?_
          obtain ⟨q3, hp⟩ := hp
          refine rs_iast (j := (M.2.1 42 5).toNatClampNeg) ri_84_75 rfl (by decide) (kd_46 hL) q3 rfl ?_
          refine rs_aload_n ri_84_76 rfl rfl ?_
          refine rs_gf (v := .ref 47) ri_84_77 rfl (by decide) (ro_kf (kd_42 hL)) rfl (rf_42_4 hL) ?_
          refine rs_aload_n ri_84_80 rfl rfl ?_
          refine rs_gf (v := .int (M.2.1 42 5)) ri_84_81 rfl (by decide) (ro_kf (kd_42 hL)) rfl rfl ?_
          refine rs_iload_n ri_84_84 rfl rfl ?_
          obtain ⟨q4, hp⟩ := hp
          refine rs_iast (j := (M.2.1 42 5).toNatClampNeg) ri_84_85 rfl (by decide) (kd_47 hL) q4 rfl ?_
          refine rs_aload_n ri_84_86 rfl rfl ?_
          refine rs_dup ri_84_87 rfl rfl ?_
          refine rs_gf (v := .int (M.2.1 42 5)) ri_84_88 rfl (by decide) (ro_kf (kd_42 hL)) rfl rfl ?_
          refine rs_iconst (v := (1 : Int32)) ri_84_91 rfl (by decide) ?_
          refine rs_iadd (r := ((M.2.1 42 5) + (1 : Int32))) ri_84_92 rfl rfl ?_
          refine rs_pf (M2 := (ro_sI (ro_sI (ro_sI M 46 ((M.2.1 42 5).toNatClampNeg) (xf_25 M c1 ((2 : Int32) * (M.2.1 42 5)))) 47 ((M.2.1 42 5).toNatClampNeg) (xf_25 M c1 (((2 : Int32) * (M.2.1 42 5)) + (1 : Int32)))) 42 5 ((M.2.1 42 5) + (1 : Int32)))) ri_84_93 rfl (by decide) (ro_kf (kd_42 hL)) (fun h => absurd h (by decide)) (fun f h => h) ?_
          refine rs_goto (t := 5) ri_84_96 rfl ?_
          have e : xg_84_5 (n + 1) M c1 = xg_84_5 n (ro_sI (ro_sI (ro_sI M 46 ((M.2.1 42 5).toNatClampNeg) (xf_25 M c1 ((2 : Int32) * (M.2.1 42 5)))) 47 ((M.2.1 42 5).toNatClampNeg) (xf_25 M c1 (((2 : Int32) * (M.2.1 42 5)) + (1 : Int32)))) 42 5 ((M.2.1 42 5) + (1 : Int32))) c1 := by rw [xg_84_5]; first | (simp only [if_neg h1, if_neg h2, if_pos h3]; done) | rfl
          rw [e] at hk hr
          exact ro_w_lv (ro_sub_c rfl (ro_sub_c rfl (ro_sub_n rfl))) (ih hL hc1 hp hk hr)
        · skip
          refine rs_ret ri_84_65 rm_84.2.1 (by decide) ?_
          have e : xg_84_5 (n + 1) M c1 = (true, M) := by rw [xg_84_5]; first | (simp only [if_neg h1, if_neg h2, if_neg h3]; done) | rfl
          rw [e] at hk hr
          exact hr rfl
theorem xl_84_5 : ∀ (n : Nat) {M : ro_Mm} {c1 : Nat} (hL : ro_lay M) (hc1 : ro_is c1) (hp : xq_84_5 n M c1), ro_lay (xg_84_5 n M c1).2 := by
  intro n
  induction n with
  | zero => intro M c1 hL hc1 hp; exact False.elim hp
  | succ n ih =>
    intro M c1 hL hc1 hp
    rw [xq_84_5] at hp
    rw [xg_84_5]
    by_cases hz : (10 : Int32) ≤ (M.2.1 42 5)
    · have hp := hp.1 hz
      rw [if_pos hz]
      exact hL
    · have hp := hp.2 hz
      rw [if_neg hz]
      by_cases hz : (xf_24 M c1) ≤ (((2 : Int32) * (M.2.1 42 5)) + (1 : Int32))
      · have hp := hp.1 hz
        rw [if_pos hz]
        exact hL
      · have hp := hp.2 hz
        rw [if_neg hz]
        by_cases hz : (xf_57 M (xf_25 M c1 ((2 : Int32) * (M.2.1 42 5))) (xf_25 M c1 (((2 : Int32) * (M.2.1 42 5)) + (1 : Int32))))
        · have hp := hp.1 hz
          rw [if_pos hz]
          obtain ⟨q3, hp⟩ := hp
          obtain ⟨q4, hp⟩ := hp
          exact ih hL hc1 hp
        · have hp := hp.2 hz
          rw [if_neg hz]
          exact hL
theorem xwI_84_5 : ∀ {n : Nat} {M : ro_Mm} {c1 : Nat} {c j : Nat} (n0 : c ≠ 46) (n1 : c ≠ 47) (n2 : c ≠ 42), (xg_84_5 n M c1).2.2.1 c j = M.2.1 c j := by
  intro n
  induction n with
  | zero => intro M c1 c j n0 n1 n2; rfl
  | succ n ih =>
    intro M c1 c j n0 n1 n2
    rw [xg_84_5]
    by_cases hz : (10 : Int32) ≤ (M.2.1 42 5)
    · rw [if_pos hz]
      first | done | exact rfl
    · rw [if_neg hz]
      by_cases hz : (xf_24 M c1) ≤ (((2 : Int32) * (M.2.1 42 5)) + (1 : Int32))
      · rw [if_pos hz]
        first | done | exact rfl
      · rw [if_neg hz]
        by_cases hz : (xf_57 M (xf_25 M c1 ((2 : Int32) * (M.2.1 42 5))) (xf_25 M c1 (((2 : Int32) * (M.2.1 42 5)) + (1 : Int32))))
        · rw [if_pos hz]
          first | done | exact (((((ih n0 n1 n2)).trans (ro_sI_ne n2)).trans (ro_sI_ne n1)).trans (ro_sI_ne n0))
        · rw [if_neg hz]
          first | done | exact rfl
theorem xwJ_84_5 : ∀ {n : Nat} {M : ro_Mm} {c1 : Nat} {c j : Nat}, (xg_84_5 n M c1).2.2.2.1 c j = M.2.2.1 c j := by
  intro n
  induction n with
  | zero => intro M c1 c j; rfl
  | succ n ih =>
    intro M c1 c j
    rw [xg_84_5]
    by_cases hz : (10 : Int32) ≤ (M.2.1 42 5)
    · rw [if_pos hz]
      first | done | exact rfl
    · rw [if_neg hz]
      by_cases hz : (xf_24 M c1) ≤ (((2 : Int32) * (M.2.1 42 5)) + (1 : Int32))
      · rw [if_pos hz]
        first | done | exact rfl
      · rw [if_neg hz]
        by_cases hz : (xf_57 M (xf_25 M c1 ((2 : Int32) * (M.2.1 42 5))) (xf_25 M c1 (((2 : Int32) * (M.2.1 42 5)) + (1 : Int32))))
        · rw [if_pos hz]
          first | done | exact (((((ih)).trans (congrFun (congrFun ro_sI_J _) _)).trans (congrFun (congrFun ro_sI_J _) _)).trans (congrFun (congrFun ro_sI_J _) _))
        · rw [if_neg hz]
          first | done | exact rfl
/-- RefusedOnce$Payings.read(LRefusedOnce$Shelf;)V -/
noncomputable def xm_84 (M : ro_Mm) (c1 : Nat) : ro_Mm := (xg_84_5 lp_N (ro_sI M 42 5 (0 : Int32)) c1).2
def xp_84 (M : ro_Mm) (c1 : Nat) : Prop := (xq_84_5 lp_N (ro_sI M 42 5 (0 : Int32)) c1 ∧ True)
theorem xs_84 {X : ro_Sx} {M : ro_Mm} {c1 : Nat} (hL : ro_lay M) (hc1 : ro_is c1) (hp : xp_84 M c1) : ro_cwp X 3 84 [.ref 42, .ref c1] M (fun v M2 => v = none ∧ M2 = xm_84 M c1) := by
  refine rs_begin (lv0 := [(0, .ref 42), (1, .ref c1)]) (by decide) rfl (by rw [rm_84.1]; exact Nat.le_of_ble_eq_true rfl) rfl ?_
  unfold xp_84 at hp
  refine rs_aload_n ri_84_0 rfl rfl ?_
  refine rs_iconst (v := (0 : Int32)) ri_84_1 rfl (by decide) ?_
  refine rs_pf (M2 := (ro_sI M 42 5 (0 : Int32))) ri_84_2 rfl (by decide) (ro_kf (kd_42 hL)) (fun h => absurd h (by decide)) (fun f h => h) ?_
  obtain ⟨q5, hp⟩ := hp
  refine xt_84_5 lp_N hL hc1 q5 (fun h7 => ?_) (fun h7 => ?_)
  · skip
    refine rs_ret ri_84_99 rm_84.2.1 (by decide) ?_
    exact ⟨by rfl, by unfold xm_84; first | (simp only [if_neg h7]; done) | rfl⟩
  · skip
    exact ⟨by rfl, by unfold xm_84; first | (simp only [if_pos h7]; done) | rfl⟩
theorem xl_84 {M : ro_Mm} {c1 : Nat} (hL : ro_lay M) (hc1 : ro_is c1) (hp : xp_84 M c1) : ro_lay (xm_84 M c1) := by
  unfold xp_84 at hp
  unfold xm_84
  obtain ⟨q5, hp⟩ := hp
  by_cases hz : (xg_84_5 lp_N (ro_sI M 42 5 (0 : Int32)) c1).1 = true
  · skip
    exact (xl_84_5 lp_N hL hc1 q5)
  · skip
    exact (xl_84_5 lp_N hL hc1 q5)
theorem xwI_84 {M : ro_Mm} {c1 : Nat} {c j : Nat} (n0 : c ≠ 42) (n1 : c ≠ 46) (n2 : c ≠ 47) : (xm_84 M c1).2.1 c j = M.2.1 c j := by
  unfold xm_84
  first | done | exact (((xwI_84_5 n1 n2 n0)).trans (ro_sI_ne n0))
theorem xwJ_84 {M : ro_Mm} {c1 : Nat} {c j : Nat} : (xm_84 M c1).2.2.1 c j = M.2.2.1 c j := by
  unfold xm_84
  first | done | exact (((xwJ_84_5)).trans (congrFun (congrFun ro_sI_J _) _))
/-- RefusedOnce$Chances.set(JJ)V -/
noncomputable def xm_100 (M : ro_Mm) (v1 : Int64) (v3 : Int64) : ro_Mm := (ro_sJ (ro_sJ M 48 5 (v1 / (ro_maxl (1 : Int64) (xf_101 M v1 v3)))) 48 6 (v3 / (ro_maxl (1 : Int64) (xf_101 M v1 v3))))
def xp_100 (M : ro_Mm) (v1 : Int64) (v3 : Int64) : Prop := (xp_101 M v1 v3 ∧ (¬ (ro_maxl (1 : Int64) (xf_101 M v1 v3)) = 0 ∧ (¬ (ro_maxl (1 : Int64) (xf_101 M v1 v3)) = 0 ∧ True)))
theorem xs_100 {X : ro_Sx} {M : ro_Mm} {v1 : Int64} {v3 : Int64} (hL : ro_lay M) (hp : xp_100 M v1 v3) : ro_cwp X 2 100 [.ref 48, .long v1, .long v3] M (fun v M2 => v = none ∧ M2 = xm_100 M v1 v3) := by
  refine rs_begin (lv0 := [(0, .ref 48), (1, .long v1), (3, .long v3)]) (by decide) rfl (by rw [rm_100.1]; exact Nat.le_of_ble_eq_true rfl) rfl ?_
  unfold xp_100 at hp
  refine rs_lconst (v := (1 : Int64)) ri_100_0 rfl rfl ?_
  refine rs_lload_n ri_100_1 rfl rfl ?_
  refine rs_lload_n ri_100_2 rfl rfl ?_
  obtain ⟨q0, hp⟩ := hp
  refine rs_stat (As := [.long v1, .long v3]) (r := [.long (1 : Int64)]) ri_100_3 rfl rm_101.2.2.2 rfl rfl rfl (Nat.le_of_ble_eq_true rfl) (by decide) (by decide) (xs_101 (X := X) hL q0) ?_
  rintro _ _ ⟨e1, e2⟩
  rw [e1, e2]
  show ro_w X _ 100 _ 6 [(0, .ref 48), (1, .long v1), (3, .long v3)] [.long (xf_101 M v1 v3), .long (1 : Int64)] M (0, 0)
  refine rs_maxl (r := (ro_maxl (1 : Int64) (xf_101 M v1 v3))) ri_100_6 rfl (Nat.le_of_ble_eq_true rfl) rfl ?_
  refine rs_lstore (lv2 := [(5, .long (ro_maxl (1 : Int64) (xf_101 M v1 v3))), (0, .ref 48), (1, .long v1), (3, .long v3)]) ri_100_9 rfl rm_100.1 (by decide) rfl ?_
  refine rs_aload_n ri_100_11 rfl rfl ?_
  refine rs_lload_n ri_100_12 rfl rfl ?_
  refine rs_lload ri_100_13 rfl rfl ?_
  obtain ⟨q1, hp⟩ := hp
  refine rs_ldiv (r := (v1 / (ro_maxl (1 : Int64) (xf_101 M v1 v3)))) ri_100_15 rfl q1 rfl ?_
  refine rs_pf (M2 := (ro_sJ M 48 5 (v1 / (ro_maxl (1 : Int64) (xf_101 M v1 v3))))) ri_100_16 rfl (by decide) (ro_kf (kd_48 hL)) (fun h => absurd h (by decide)) (fun f h => h) ?_
  refine rs_aload_n ri_100_19 rfl rfl ?_
  refine rs_lload_n ri_100_20 rfl rfl ?_
  refine rs_lload ri_100_21 rfl rfl ?_
  obtain ⟨q2, hp⟩ := hp
  refine rs_ldiv (r := (v3 / (ro_maxl (1 : Int64) (xf_101 M v1 v3)))) ri_100_23 rfl q2 rfl ?_
  refine rs_pf (M2 := (ro_sJ (ro_sJ M 48 5 (v1 / (ro_maxl (1 : Int64) (xf_101 M v1 v3)))) 48 6 (v3 / (ro_maxl (1 : Int64) (xf_101 M v1 v3))))) ri_100_24 rfl (by decide) (ro_kf (kd_48 hL)) (fun h => absurd h (by decide)) (fun f h => h) ?_
  refine rs_ret ri_100_27 rm_100.2.1 (by decide) ?_
  exact ⟨by rfl, by rfl⟩
theorem xl_100 {M : ro_Mm} {v1 : Int64} {v3 : Int64} (hL : ro_lay M) (hp : xp_100 M v1 v3) : ro_lay (xm_100 M v1 v3) := by
  unfold xp_100 at hp
  unfold xm_100
  obtain ⟨q0, hp⟩ := hp
  obtain ⟨q1, hp⟩ := hp
  obtain ⟨q2, hp⟩ := hp
  exact hL
theorem xwI_100 {M : ro_Mm} {v1 : Int64} {v3 : Int64} {c j : Nat} : (xm_100 M v1 v3).2.1 c j = M.2.1 c j := by
  unfold xm_100
  first | done | exact rfl
theorem xwJ_100 {M : ro_Mm} {v1 : Int64} {v3 : Int64} {c j : Nat} (n0 : c ≠ 48) : (xm_100 M v1 v3).2.2.1 c j = M.2.2.1 c j := by
  unfold xm_100
  first | done | exact (((ro_sJ_ne n0)).trans (ro_sJ_ne n0))
/-- a loop of RefusedOnce.handsOn(LRefusedOnce$Shelf;)I -/
noncomputable def xg_110_2 : Nat → ro_Mm → Int32 → Nat → Int32
  | 0, M, v2, c1 => v2
  | n + 1, M, v2, c1 => (if (10 : Int32) ≤ v2 then v2 else (if (xf_24 M c1) ≤ v2 then v2 else (if (xf_29 M (xf_25 M c1 v2)) then (xg_110_2 n M (v2 + (1 : Int32)) c1) else v2)))
def xq_110_2 : Nat → ro_Mm → Int32 → Nat → Prop
  | 0, _, _, _ => False
  | n + 1, M, v2, c1 => (((10 : Int32) ≤ v2 → True) ∧ (¬ ((10 : Int32) ≤ v2) → (((xf_24 M c1) ≤ v2 → True) ∧ (¬ ((xf_24 M c1) ≤ v2) → (((xf_29 M (xf_25 M c1 v2)) → (xq_110_2 n M (v2 + (1 : Int32)) c1)) ∧ (¬ ((xf_29 M (xf_25 M c1 v2))) → True))))))
/-- RefusedOnce.handsOn(LRefusedOnce$Shelf;)I -/
noncomputable def xf_110 (M : ro_Mm) (c1 : Nat) : Int32 := (xg_110_2 lp_N M (0 : Int32) c1)
def xp_110 (M : ro_Mm) (c1 : Nat) : Prop := (xq_110_2 lp_N M (0 : Int32) c1 ∧ True)
/-- a loop of RefusedOnce$Chances.forgedFound(III)V -/
noncomputable def xg_112_35 : Nat → ro_Mm → Int32 → Int64 → Int32 → Int32 → Int32 → Int32 → Int32 → Int32 → Int32 × Int64
  | 0, M, v9, v7, v6, v5, v4, v1, v2, v3 => (v9, v7)
  | n + 1, M, v9, v7, v6, v5, v4, v1, v2, v3 => (if v6 < v9 then (v9, v7) else (if (20 : Int32) < v9 then (v9, v7) else (xg_112_35 n M (v9 + (1 : Int32)) (v7 + ((xf_113 M v5 v9) * (xf_113 M (v4 - v5) (v6 - v9)))) v6 v5 v4 v1 v2 v3)))
def xq_112_35 : Nat → ro_Mm → Int32 → Int64 → Int32 → Int32 → Int32 → Int32 → Int32 → Int32 → Prop
  | 0, _, _, _, _, _, _, _, _, _ => False
  | n + 1, M, v9, v7, v6, v5, v4, v1, v2, v3 => ((v6 < v9 → True) ∧ (¬ (v6 < v9) → (((20 : Int32) < v9 → True) ∧ (¬ ((20 : Int32) < v9) → (xp_113 M v5 v9 ∧ (xp_113 M (v4 - v5) (v6 - v9) ∧ (xq_112_35 n M (v9 + (1 : Int32)) (v7 + ((xf_113 M v5 v9) * (xf_113 M (v4 - v5) (v6 - v9)))) v6 v5 v4 v1 v2 v3)))))))
theorem xt_112_35 {X : ro_Sx} {post : ro_Po} : ∀ (n : Nat) {M : ro_Mm} {v9 : Int32} {v7 : Int64} {v6 : Int32} {v5 : Int32} {v4 : Int32} {v1 : Int32} {v2 : Int32} {v3 : Int32} (hL : ro_lay M) (hp : xq_112_35 n M v9 v7 v6 v5 v4 v1 v2 v3) (hk : ro_w X 3 112 post 81 [(9, .int (xg_112_35 n M v9 v7 v6 v5 v4 v1 v2 v3).1), (7, .long (xg_112_35 n M v9 v7 v6 v5 v4 v1 v2 v3).2), (6, .int v6), (5, .int v5), (4, .int v4), (0, .ref 48), (1, .int v1), (2, .int v2), (3, .int v3)] [] M (0, 0)), ro_w X 3 112 post 35 [(9, .int v9), (7, .long v7), (6, .int v6), (5, .int v5), (4, .int v4), (0, .ref 48), (1, .int v1), (2, .int v2), (3, .int v3)] [] M (0, 0) := by
  intro n
  induction n with
  | zero => intro M v9 v7 v6 v5 v4 v1 v2 v3 hL hp hk; exact False.elim hp
  | succ n ih =>
    intro M v9 v7 v6 v5 v4 v1 v2 v3 hL hp hk
    rw [xq_112_35] at hp
    refine rs_iload ri_112_35 rfl rfl ?_
    refine rs_iload ri_112_37 rfl rfl ?_
    refine rs_icmp_gt (t := 81) ri_112_39 rfl rfl (fun h1 => ?_) (fun h1 => ?_)
    · skip
      have e : xg_112_35 (n + 1) M v9 v7 v6 v5 v4 v1 v2 v3 = (v9, v7) := by rw [xg_112_35]; first | (simp only [if_pos h1]; done) | rfl
      rw [e] at hk
      exact ro_w_lv (ro_sub_c rfl (ro_sub_c rfl (ro_sub_c rfl (ro_sub_c rfl (ro_sub_c rfl (ro_sub_c rfl (ro_sub_c rfl (ro_sub_c rfl (ro_sub_c rfl (ro_sub_n rfl)))))))))) hk
    · have hp := hp.2 h1
      refine rs_iload ri_112_42 rfl rfl ?_
      refine rs_bipush (v := (20 : Int32)) ri_112_44 rfl (by decide) ?_
      refine rs_icmp_gt (t := 81) ri_112_46 rfl rfl (fun h2 => ?_) (fun h2 => ?_)
      · skip
        have e : xg_112_35 (n + 1) M v9 v7 v6 v5 v4 v1 v2 v3 = (v9, v7) := by rw [xg_112_35]; first | (simp only [if_neg h1, if_pos h2]; done) | rfl
        rw [e] at hk
        exact ro_w_lv (ro_sub_c rfl (ro_sub_c rfl (ro_sub_c rfl (ro_sub_c rfl (ro_sub_c rfl (ro_sub_c rfl (ro_sub_c rfl (ro_sub_c rfl (ro_sub_c rfl (ro_sub_n rfl)))))))))) hk
      · have hp := hp.2 h2
        refine rs_lload ri_112_49 rfl rfl ?_
        refine rs_iload ri_112_51 rfl rfl ?_
        refine rs_iload ri_112_53 rfl rfl ?_
        obtain ⟨q2, hp⟩ := hp
        refine rs_stat (As := [.int v5, .int v9]) (r := [.long v7]) ri_112_55 rfl rm_113.2.2.2 rfl rfl rfl (Nat.le_of_ble_eq_true rfl) (by decide) (by decide) (xs_113 (X := X) hL q2) ?_
        rintro _ _ ⟨e1, e2⟩
        rw [e1, e2]
        show ro_w X _ 112 _ 58 [(9, .int v9), (7, .long v7), (6, .int v6), (5, .int v5), (4, .int v4), (0, .ref 48), (1, .int v1), (2, .int v2), (3, .int v3)] [.long (xf_113 M v5 v9), .long v7] M (0, 0)
        refine rs_iload ri_112_58 rfl rfl ?_
        refine rs_iload ri_112_60 rfl rfl ?_
        refine rs_isub (r := (v4 - v5)) ri_112_62 rfl rfl ?_
        refine rs_iload ri_112_63 rfl rfl ?_
        refine rs_iload ri_112_65 rfl rfl ?_
        refine rs_isub (r := (v6 - v9)) ri_112_67 rfl rfl ?_
        obtain ⟨q3, hp⟩ := hp
        refine rs_stat (As := [.int (v4 - v5), .int (v6 - v9)]) (r := [.long (xf_113 M v5 v9), .long v7]) ri_112_68 rfl rm_113.2.2.2 rfl rfl rfl (Nat.le_of_ble_eq_true rfl) (by decide) (by decide) (xs_113 (X := X) hL q3) ?_
        rintro _ _ ⟨e1, e2⟩
        rw [e1, e2]
        show ro_w X _ 112 _ 71 [(9, .int v9), (7, .long v7), (6, .int v6), (5, .int v5), (4, .int v4), (0, .ref 48), (1, .int v1), (2, .int v2), (3, .int v3)] [.long (xf_113 M (v4 - v5) (v6 - v9)), .long (xf_113 M v5 v9), .long v7] M (0, 0)
        refine rs_lmul (r := ((xf_113 M v5 v9) * (xf_113 M (v4 - v5) (v6 - v9)))) ri_112_71 rfl rfl ?_
        refine rs_ladd (r := (v7 + ((xf_113 M v5 v9) * (xf_113 M (v4 - v5) (v6 - v9))))) ri_112_72 rfl rfl ?_
        refine rs_lstore (lv2 := [(7, .long (v7 + ((xf_113 M v5 v9) * (xf_113 M (v4 - v5) (v6 - v9))))), (9, .int v9), (6, .int v6), (5, .int v5), (4, .int v4), (0, .ref 48), (1, .int v1), (2, .int v2), (3, .int v3)]) ri_112_73 rfl rm_112.1 (by decide) rfl ?_
        refine rs_iinc (v := (v9 + (1 : Int32))) (lv2 := [(9, .int (v9 + (1 : Int32))), (7, .long (v7 + ((xf_113 M v5 v9) * (xf_113 M (v4 - v5) (v6 - v9))))), (6, .int v6), (5, .int v5), (4, .int v4), (0, .ref 48), (1, .int v1), (2, .int v2), (3, .int v3)]) ri_112_75 rfl rfl rfl rm_112.1 (by decide) rfl ?_
        refine rs_goto (t := 35) ri_112_78 rfl ?_
        have e : xg_112_35 (n + 1) M v9 v7 v6 v5 v4 v1 v2 v3 = xg_112_35 n M (v9 + (1 : Int32)) (v7 + ((xf_113 M v5 v9) * (xf_113 M (v4 - v5) (v6 - v9)))) v6 v5 v4 v1 v2 v3 := by rw [xg_112_35]; first | (simp only [if_neg h1, if_neg h2]; done) | rfl
        rw [e] at hk
        exact ro_w_lv (ro_sub_c rfl (ro_sub_c rfl (ro_sub_c rfl (ro_sub_c rfl (ro_sub_c rfl (ro_sub_c rfl (ro_sub_c rfl (ro_sub_c rfl (ro_sub_c rfl (ro_sub_n rfl)))))))))) (ih hL  hp hk)
/-- RefusedOnce$Chances.forgedFound(III)V -/
noncomputable def xm_112 (M : ro_Mm) (v1 : Int32) (v2 : Int32) (v3 : Int32) : ro_Mm := (xm_100 M (xg_112_35 lp_N M v3 (0 : Int64) (ro_min v2 (xf_30 M v1 (1 : Int32))) (xf_39 M v1) (xf_30 M v1 (1 : Int32)) v1 v2 v3).2 (xf_113 M (xf_30 M v1 (1 : Int32)) (ro_min v2 (xf_30 M v1 (1 : Int32)))))
def xp_112 (M : ro_Mm) (v1 : Int32) (v2 : Int32) (v3 : Int32) : Prop := (xq_112_35 lp_N M v3 (0 : Int64) (ro_min v2 (xf_30 M v1 (1 : Int32))) (xf_39 M v1) (xf_30 M v1 (1 : Int32)) v1 v2 v3 ∧ (xp_113 M (xf_30 M v1 (1 : Int32)) (ro_min v2 (xf_30 M v1 (1 : Int32))) ∧ (xp_100 M (xg_112_35 lp_N M v3 (0 : Int64) (ro_min v2 (xf_30 M v1 (1 : Int32))) (xf_39 M v1) (xf_30 M v1 (1 : Int32)) v1 v2 v3).2 (xf_113 M (xf_30 M v1 (1 : Int32)) (ro_min v2 (xf_30 M v1 (1 : Int32)))) ∧ True)))
theorem xs_112 {X : ro_Sx} {M : ro_Mm} {v1 : Int32} {v2 : Int32} {v3 : Int32} (hL : ro_lay M) (hp : xp_112 M v1 v2 v3) : ro_cwp X 4 112 [.ref 48, .int v1, .int v2, .int v3] M (fun v M2 => v = none ∧ M2 = xm_112 M v1 v2 v3) := by
  refine rs_begin (lv0 := [(0, .ref 48), (1, .int v1), (2, .int v2), (3, .int v3)]) (by decide) rfl (by rw [rm_112.1]; exact Nat.le_of_ble_eq_true rfl) rfl ?_
  unfold xp_112 at hp
  refine rs_aload_n ri_112_0 rfl rfl ?_
  refine rs_gf (v := .ref 5) ri_112_1 rfl (by decide) (ro_kf (kd_48 hL)) rfl (rf_48_0 hL) ?_
  refine rs_iload_n ri_112_4 rfl rfl ?_
  refine rs_iconst (v := (1 : Int32)) ri_112_5 rfl (by decide) ?_
  refine rs_virt (As := [.int v1, .int (1 : Int32)]) (r := []) ri_112_6 rfl (by decide) rm_30.2.2.2 rm_30.2.2.1 rfl rfl rfl (by decide) (ro_kf (kd_5 hL)) (Nat.le_of_ble_eq_true rfl) (by decide) (by decide) (xs_30 (X := X) hL) ?_
  rintro _ _ ⟨e1, e2⟩
  rw [e1, e2]
  show ro_w X _ 112 _ 9 [(0, .ref 48), (1, .int v1), (2, .int v2), (3, .int v3)] [.int (xf_30 M v1 (1 : Int32))] M (0, 0)
  refine rs_istore (lv2 := [(4, .int (xf_30 M v1 (1 : Int32))), (0, .ref 48), (1, .int v1), (2, .int v2), (3, .int v3)]) ri_112_9 rfl rm_112.1 (by decide) rfl ?_
  refine rs_aload_n ri_112_11 rfl rfl ?_
  refine rs_gf (v := .ref 5) ri_112_12 rfl (by decide) (ro_kf (kd_48 hL)) rfl (rf_48_0 hL) ?_
  refine rs_iload_n ri_112_15 rfl rfl ?_
  refine rs_virt (As := [.int v1]) (r := []) ri_112_16 rfl (by decide) rm_39.2.2.2 rm_39.2.2.1 rfl rfl rfl (by decide) (ro_kf (kd_5 hL)) (Nat.le_of_ble_eq_true rfl) (by decide) (by decide) (xs_39 (X := X) hL) ?_
  rintro _ _ ⟨e1, e2⟩
  rw [e1, e2]
  show ro_w X _ 112 _ 19 [(4, .int (xf_30 M v1 (1 : Int32))), (0, .ref 48), (1, .int v1), (2, .int v2), (3, .int v3)] [.int (xf_39 M v1)] M (0, 0)
  refine rs_istore (lv2 := [(5, .int (xf_39 M v1)), (4, .int (xf_30 M v1 (1 : Int32))), (0, .ref 48), (1, .int v1), (2, .int v2), (3, .int v3)]) ri_112_19 rfl rm_112.1 (by decide) rfl ?_
  refine rs_iload_n ri_112_21 rfl rfl ?_
  refine rs_iload ri_112_22 rfl rfl ?_
  refine rs_min (r := (ro_min v2 (xf_30 M v1 (1 : Int32)))) ri_112_24 rfl (Nat.le_of_ble_eq_true rfl) rfl ?_
  refine rs_istore (lv2 := [(6, .int (ro_min v2 (xf_30 M v1 (1 : Int32)))), (5, .int (xf_39 M v1)), (4, .int (xf_30 M v1 (1 : Int32))), (0, .ref 48), (1, .int v1), (2, .int v2), (3, .int v3)]) ri_112_27 rfl rm_112.1 (by decide) rfl ?_
  refine rs_lconst (v := (0 : Int64)) ri_112_29 rfl rfl ?_
  refine rs_lstore (lv2 := [(7, .long (0 : Int64)), (6, .int (ro_min v2 (xf_30 M v1 (1 : Int32)))), (5, .int (xf_39 M v1)), (4, .int (xf_30 M v1 (1 : Int32))), (0, .ref 48), (1, .int v1), (2, .int v2), (3, .int v3)]) ri_112_30 rfl rm_112.1 (by decide) rfl ?_
  refine rs_iload_n ri_112_32 rfl rfl ?_
  refine rs_istore (lv2 := [(9, .int v3), (7, .long (0 : Int64)), (6, .int (ro_min v2 (xf_30 M v1 (1 : Int32)))), (5, .int (xf_39 M v1)), (4, .int (xf_30 M v1 (1 : Int32))), (0, .ref 48), (1, .int v1), (2, .int v2), (3, .int v3)]) ri_112_33 rfl rm_112.1 (by decide) rfl ?_
  obtain ⟨q4, hp⟩ := hp
  refine xt_112_35 lp_N hL q4 ?_
  refine rs_aload_n ri_112_81 rfl rfl ?_
  refine rs_lload ri_112_82 rfl rfl ?_
  refine rs_iload ri_112_84 rfl rfl ?_
  refine rs_iload ri_112_86 rfl rfl ?_
  obtain ⟨q5, hp⟩ := hp
  refine rs_stat (As := [.int (xf_30 M v1 (1 : Int32)), .int (ro_min v2 (xf_30 M v1 (1 : Int32)))]) (r := [.long (xg_112_35 lp_N M v3 (0 : Int64) (ro_min v2 (xf_30 M v1 (1 : Int32))) (xf_39 M v1) (xf_30 M v1 (1 : Int32)) v1 v2 v3).2, .ref 48]) ri_112_88 rfl rm_113.2.2.2 rfl rfl rfl (Nat.le_of_ble_eq_true rfl) (by decide) (by decide) (xs_113 (X := X) hL q5) ?_
  rintro _ _ ⟨e1, e2⟩
  rw [e1, e2]
  show ro_w X _ 112 _ 91 [(9, .int (xg_112_35 lp_N M v3 (0 : Int64) (ro_min v2 (xf_30 M v1 (1 : Int32))) (xf_39 M v1) (xf_30 M v1 (1 : Int32)) v1 v2 v3).1), (7, .long (xg_112_35 lp_N M v3 (0 : Int64) (ro_min v2 (xf_30 M v1 (1 : Int32))) (xf_39 M v1) (xf_30 M v1 (1 : Int32)) v1 v2 v3).2), (6, .int (ro_min v2 (xf_30 M v1 (1 : Int32)))), (5, .int (xf_39 M v1)), (4, .int (xf_30 M v1 (1 : Int32))), (0, .ref 48), (1, .int v1), (2, .int v2), (3, .int v3)] [.long (xf_113 M (xf_30 M v1 (1 : Int32)) (ro_min v2 (xf_30 M v1 (1 : Int32)))), .long (xg_112_35 lp_N M v3 (0 : Int64) (ro_min v2 (xf_30 M v1 (1 : Int32))) (xf_39 M v1) (xf_30 M v1 (1 : Int32)) v1 v2 v3).2, .ref 48] M (0, 0)
  obtain ⟨q6, hp⟩ := hp
  refine rs_virt (As := [.long (xg_112_35 lp_N M v3 (0 : Int64) (ro_min v2 (xf_30 M v1 (1 : Int32))) (xf_39 M v1) (xf_30 M v1 (1 : Int32)) v1 v2 v3).2, .long (xf_113 M (xf_30 M v1 (1 : Int32)) (ro_min v2 (xf_30 M v1 (1 : Int32))))]) (r := []) ri_112_91 rfl (by decide) rm_100.2.2.2 rm_100.2.2.1 rfl rfl rfl (by decide) (ro_kf (kd_48 hL)) (Nat.le_of_ble_eq_true rfl) (by decide) (by decide) (xs_100 (X := X) hL q6) ?_
  rintro _ _ ⟨e1, e2⟩
  rw [e1, e2]
  show ro_w X _ 112 _ 94 [(9, .int (xg_112_35 lp_N M v3 (0 : Int64) (ro_min v2 (xf_30 M v1 (1 : Int32))) (xf_39 M v1) (xf_30 M v1 (1 : Int32)) v1 v2 v3).1), (7, .long (xg_112_35 lp_N M v3 (0 : Int64) (ro_min v2 (xf_30 M v1 (1 : Int32))) (xf_39 M v1) (xf_30 M v1 (1 : Int32)) v1 v2 v3).2), (6, .int (ro_min v2 (xf_30 M v1 (1 : Int32)))), (5, .int (xf_39 M v1)), (4, .int (xf_30 M v1 (1 : Int32))), (0, .ref 48), (1, .int v1), (2, .int v2), (3, .int v3)] [] (xm_100 M (xg_112_35 lp_N M v3 (0 : Int64) (ro_min v2 (xf_30 M v1 (1 : Int32))) (xf_39 M v1) (xf_30 M v1 (1 : Int32)) v1 v2 v3).2 (xf_113 M (xf_30 M v1 (1 : Int32)) (ro_min v2 (xf_30 M v1 (1 : Int32))))) (0, 0)
  refine rs_ret ri_112_94 rm_112.2.1 (by decide) ?_
  exact ⟨by rfl, by rfl⟩
theorem xl_112 {M : ro_Mm} {v1 : Int32} {v2 : Int32} {v3 : Int32} (hL : ro_lay M) (hp : xp_112 M v1 v2 v3) : ro_lay (xm_112 M v1 v2 v3) := by
  unfold xp_112 at hp
  unfold xm_112
  obtain ⟨q4, hp⟩ := hp
  obtain ⟨q5, hp⟩ := hp
  obtain ⟨q6, hp⟩ := hp
  exact (xl_100 hL q6)
theorem xwI_112 {M : ro_Mm} {v1 : Int32} {v2 : Int32} {v3 : Int32} {c j : Nat} : (xm_112 M v1 v2 v3).2.1 c j = M.2.1 c j := by
  unfold xm_112
  first | done | exact (xwI_100)
theorem xwJ_112 {M : ro_Mm} {v1 : Int32} {v2 : Int32} {v3 : Int32} {c j : Nat} (n0 : c ≠ 48) : (xm_112 M v1 v2 v3).2.2.1 c j = M.2.2.1 c j := by
  unfold xm_112
  first | done | exact (xwJ_100 n0)
/-- a loop of RefusedOnce.enough(II)I -/
noncomputable def xg_114_41 : Nat → ro_Mm → Int32 → Int32 → Int32 → Int32 → Bool × Int32 × Int32 × ro_Mm
  | 0, M, v4, v3, v1, v2 => (false, 0, v4, M)
  | n + 1, M, v4, v3, v1, v2 => (if v3 < v4 then (false, 0, v4, M) else (if (lg_cmp ((xf_102 (xm_112 M v1 v4 (1 : Int32)) (0 : Int32)) * (12 : Int64)) ((xf_102 (xm_112 M v1 v4 (1 : Int32)) (1 : Int32)) * (v2.toInt64))) < (0 : Int32) then (xg_114_41 n (xm_112 M v1 v4 (1 : Int32)) (v4 + (1 : Int32)) v3 v1 v2) else (true, v4, v4, (xm_112 M v1 v4 (1 : Int32)))))
def xq_114_41 : Nat → ro_Mm → Int32 → Int32 → Int32 → Int32 → Prop
  | 0, _, _, _, _, _ => False
  | n + 1, M, v4, v3, v1, v2 => ((v3 < v4 → True) ∧ (¬ (v3 < v4) → (xp_112 M v1 v4 (1 : Int32) ∧ (((lg_cmp ((xf_102 (xm_112 M v1 v4 (1 : Int32)) (0 : Int32)) * (12 : Int64)) ((xf_102 (xm_112 M v1 v4 (1 : Int32)) (1 : Int32)) * (v2.toInt64))) < (0 : Int32) → (xq_114_41 n (xm_112 M v1 v4 (1 : Int32)) (v4 + (1 : Int32)) v3 v1 v2)) ∧ (¬ ((lg_cmp ((xf_102 (xm_112 M v1 v4 (1 : Int32)) (0 : Int32)) * (12 : Int64)) ((xf_102 (xm_112 M v1 v4 (1 : Int32)) (1 : Int32)) * (v2.toInt64))) < (0 : Int32)) → True)))))
theorem xt_114_41 {X : ro_Sx} {post : ro_Po} : ∀ (n : Nat) {M : ro_Mm} {v4 : Int32} {v3 : Int32} {v1 : Int32} {v2 : Int32} (hL : ro_lay M) (hp : xq_114_41 n M v4 v3 v1 v2) (hk : ¬ (xg_114_41 n M v4 v3 v1 v2).1 = true → ro_w X 4 114 post 94 [(4, .int (xg_114_41 n M v4 v3 v1 v2).2.2.1), (3, .int v3), (0, .ref 4), (1, .int v1), (2, .int v2)] [] (xg_114_41 n M v4 v3 v1 v2).2.2.2 (0, 0)) (hr : (xg_114_41 n M v4 v3 v1 v2).1 = true → post (some (.int (xg_114_41 n M v4 v3 v1 v2).2.1)) (xg_114_41 n M v4 v3 v1 v2).2.2.2), ro_w X 4 114 post 41 [(4, .int v4), (3, .int v3), (0, .ref 4), (1, .int v1), (2, .int v2)] [] M (0, 0) := by
  intro n
  induction n with
  | zero => intro M v4 v3 v1 v2 hL hp hk hr; exact False.elim hp
  | succ n ih =>
    intro M v4 v3 v1 v2 hL hp hk hr
    rw [xq_114_41] at hp
    refine rs_iload ri_114_41 rfl rfl ?_
    refine rs_iload_n ri_114_43 rfl rfl ?_
    refine rs_icmp_gt (t := 94) ri_114_44 rfl rfl (fun h3 => ?_) (fun h3 => ?_)
    · skip
      have e : xg_114_41 (n + 1) M v4 v3 v1 v2 = (false, 0, v4, M) := by rw [xg_114_41]; first | (simp only [if_pos h3]; done) | rfl
      rw [e] at hk hr
      exact ro_w_lv (ro_sub_c rfl (ro_sub_c rfl (ro_sub_c rfl (ro_sub_c rfl (ro_sub_c rfl (ro_sub_n rfl)))))) (hk (fun z => Bool.noConfusion z))
    · have hp := hp.2 h3
      refine rs_aload_n ri_114_47 rfl rfl ?_
      refine rs_gf (v := .ref 48) ri_114_48 rfl (by decide) (ro_kf (kd_4 hL)) rfl (rf_4_5 hL) ?_
      refine rs_iload_n ri_114_51 rfl rfl ?_
      refine rs_iload ri_114_52 rfl rfl ?_
      refine rs_iconst (v := (1 : Int32)) ri_114_54 rfl (by decide) ?_
      obtain ⟨q3, hp⟩ := hp
      refine rs_virt (As := [.int v1, .int v4, .int (1 : Int32)]) (r := []) ri_114_55 rfl (by decide) rm_112.2.2.2 rm_112.2.2.1 rfl rfl rfl (by decide) (ro_kf (kd_48 hL)) (Nat.le_of_ble_eq_true rfl) (by decide) (by decide) (xs_112 (X := X) hL q3) ?_
      rintro _ _ ⟨e1, e2⟩
      rw [e1, e2]
      show ro_w X _ 114 _ 58 [(4, .int v4), (3, .int v3), (0, .ref 4), (1, .int v1), (2, .int v2)] [] (xm_112 M v1 v4 (1 : Int32)) (0, 0)
      refine rs_aload_n ri_114_58 rfl rfl ?_
      refine rs_gf (v := .ref 48) ri_114_59 rfl (by decide) (ro_kf (kd_4 (xl_112 hL q3))) rfl (rf_4_5 (xl_112 hL q3)) ?_
      refine rs_iconst (v := (0 : Int32)) ri_114_62 rfl (by decide) ?_
      refine rs_virt (As := [.int (0 : Int32)]) (r := []) ri_114_63 rfl (by decide) rm_102.2.2.2 rm_102.2.2.1 rfl rfl rfl (by decide) (ro_kf (kd_48 (xl_112 hL q3))) (Nat.le_of_ble_eq_true rfl) (by decide) (by decide) (xs_102 (X := X) (xl_112 hL q3)) ?_
      rintro _ _ ⟨e1, e2⟩
      rw [e1, e2]
      show ro_w X _ 114 _ 66 [(4, .int v4), (3, .int v3), (0, .ref 4), (1, .int v1), (2, .int v2)] [.long (xf_102 (xm_112 M v1 v4 (1 : Int32)) (0 : Int32))] (xm_112 M v1 v4 (1 : Int32)) (0, 0)
      refine rs_ldc2 (v := (12 : Int64)) ri_114_66 rfl rfl rfl ?_
      refine rs_lmul (r := ((xf_102 (xm_112 M v1 v4 (1 : Int32)) (0 : Int32)) * (12 : Int64))) ri_114_69 rfl rfl ?_
      refine rs_aload_n ri_114_70 rfl rfl ?_
      refine rs_gf (v := .ref 48) ri_114_71 rfl (by decide) (ro_kf (kd_4 (xl_112 hL q3))) rfl (rf_4_5 (xl_112 hL q3)) ?_
      refine rs_iconst (v := (1 : Int32)) ri_114_74 rfl (by decide) ?_
      refine rs_virt (As := [.int (1 : Int32)]) (r := [.long ((xf_102 (xm_112 M v1 v4 (1 : Int32)) (0 : Int32)) * (12 : Int64))]) ri_114_75 rfl (by decide) rm_102.2.2.2 rm_102.2.2.1 rfl rfl rfl (by decide) (ro_kf (kd_48 (xl_112 hL q3))) (Nat.le_of_ble_eq_true rfl) (by decide) (by decide) (xs_102 (X := X) (xl_112 hL q3)) ?_
      rintro _ _ ⟨e1, e2⟩
      rw [e1, e2]
      show ro_w X _ 114 _ 78 [(4, .int v4), (3, .int v3), (0, .ref 4), (1, .int v1), (2, .int v2)] [.long (xf_102 (xm_112 M v1 v4 (1 : Int32)) (1 : Int32)), .long ((xf_102 (xm_112 M v1 v4 (1 : Int32)) (0 : Int32)) * (12 : Int64))] (xm_112 M v1 v4 (1 : Int32)) (0, 0)
      refine rs_iload_n ri_114_78 rfl rfl ?_
      refine rs_i2l (r := (v2.toInt64)) ri_114_79 rfl rfl ?_
      refine rs_lmul (r := ((xf_102 (xm_112 M v1 v4 (1 : Int32)) (1 : Int32)) * (v2.toInt64))) ri_114_80 rfl rfl ?_
      refine rs_lcmp (r := (lg_cmp ((xf_102 (xm_112 M v1 v4 (1 : Int32)) (0 : Int32)) * (12 : Int64)) ((xf_102 (xm_112 M v1 v4 (1 : Int32)) (1 : Int32)) * (v2.toInt64)))) ri_114_81 rfl rfl ?_
      refine rs_if_lt (t := 88) ri_114_82 rfl rfl (fun h5 => ?_) (fun h5 => ?_)
      · have hp := hp.1 h5
        refine rs_iinc (v := (v4 + (1 : Int32))) (lv2 := [(4, .int (v4 + (1 : Int32))), (3, .int v3), (0, .ref 4), (1, .int v1), (2, .int v2)]) ri_114_88 rfl rfl rfl rm_114.1 (by decide) rfl ?_
        refine rs_goto (t := 41) ri_114_91 rfl ?_
        have e : xg_114_41 (n + 1) M v4 v3 v1 v2 = xg_114_41 n (xm_112 M v1 v4 (1 : Int32)) (v4 + (1 : Int32)) v3 v1 v2 := by rw [xg_114_41]; first | (simp only [if_neg h3, if_pos h5]; done) | rfl
        rw [e] at hk hr
        exact ro_w_lv (ro_sub_c rfl (ro_sub_c rfl (ro_sub_c rfl (ro_sub_c rfl (ro_sub_c rfl (ro_sub_n rfl)))))) (ih (xl_112 hL q3)  hp hk hr)
      · skip
        refine rs_iload ri_114_85 rfl rfl ?_
        refine rs_iret ri_114_87 rm_114.2.1 (by decide) ?_
        have e : xg_114_41 (n + 1) M v4 v3 v1 v2 = (true, v4, v4, (xm_112 M v1 v4 (1 : Int32))) := by rw [xg_114_41]; first | (simp only [if_neg h3, if_neg h5]; done) | rfl
        rw [e] at hk hr
        exact hr rfl
theorem xl_114_41 : ∀ (n : Nat) {M : ro_Mm} {v4 : Int32} {v3 : Int32} {v1 : Int32} {v2 : Int32} (hL : ro_lay M) (hp : xq_114_41 n M v4 v3 v1 v2), ro_lay (xg_114_41 n M v4 v3 v1 v2).2.2.2 := by
  intro n
  induction n with
  | zero => intro M v4 v3 v1 v2 hL hp; exact False.elim hp
  | succ n ih =>
    intro M v4 v3 v1 v2 hL hp
    rw [xq_114_41] at hp
    rw [xg_114_41]
    by_cases hz : v3 < v4
    · have hp := hp.1 hz
      rw [if_pos hz]
      exact hL
    · have hp := hp.2 hz
      rw [if_neg hz]
      obtain ⟨q3, hp⟩ := hp
      by_cases hz : (lg_cmp ((xf_102 (xm_112 M v1 v4 (1 : Int32)) (0 : Int32)) * (12 : Int64)) ((xf_102 (xm_112 M v1 v4 (1 : Int32)) (1 : Int32)) * (v2.toInt64))) < (0 : Int32)
      · have hp := hp.1 hz
        rw [if_pos hz]
        exact ih (xl_112 hL q3)  hp
      · have hp := hp.2 hz
        rw [if_neg hz]
        exact (xl_112 hL q3)
theorem xwI_114_41 : ∀ {n : Nat} {M : ro_Mm} {v4 : Int32} {v3 : Int32} {v1 : Int32} {v2 : Int32} {c j : Nat}, (xg_114_41 n M v4 v3 v1 v2).2.2.2.2.1 c j = M.2.1 c j := by
  intro n
  induction n with
  | zero => intro M v4 v3 v1 v2 c j; rfl
  | succ n ih =>
    intro M v4 v3 v1 v2 c j
    rw [xg_114_41]
    by_cases hz : v3 < v4
    · rw [if_pos hz]
      first | done | exact rfl
    · rw [if_neg hz]
      by_cases hz : (lg_cmp ((xf_102 (xm_112 M v1 v4 (1 : Int32)) (0 : Int32)) * (12 : Int64)) ((xf_102 (xm_112 M v1 v4 (1 : Int32)) (1 : Int32)) * (v2.toInt64))) < (0 : Int32)
      · rw [if_pos hz]
        first | done | exact (((ih)).trans (xwI_112))
      · rw [if_neg hz]
        first | done | exact (xwI_112)
theorem xwJ_114_41 : ∀ {n : Nat} {M : ro_Mm} {v4 : Int32} {v3 : Int32} {v1 : Int32} {v2 : Int32} {c j : Nat} (n0 : c ≠ 48), (xg_114_41 n M v4 v3 v1 v2).2.2.2.2.2.1 c j = M.2.2.1 c j := by
  intro n
  induction n with
  | zero => intro M v4 v3 v1 v2 c j n0; rfl
  | succ n ih =>
    intro M v4 v3 v1 v2 c j n0
    rw [xg_114_41]
    by_cases hz : v3 < v4
    · rw [if_pos hz]
      first | done | exact rfl
    · rw [if_neg hz]
      by_cases hz : (lg_cmp ((xf_102 (xm_112 M v1 v4 (1 : Int32)) (0 : Int32)) * (12 : Int64)) ((xf_102 (xm_112 M v1 v4 (1 : Int32)) (1 : Int32)) * (v2.toInt64))) < (0 : Int32)
      · rw [if_pos hz]
        first | done | exact (((ih n0)).trans (xwJ_112 n0))
      · rw [if_neg hz]
        first | done | exact (xwJ_112 n0)
/-- RefusedOnce.enough(II)I -/
noncomputable def xf_114 (M : ro_Mm) (v1 : Int32) (v2 : Int32) : Int32 := (if (xf_29 M v1) then (if (xf_13 M v2 (0 : Int32) (12 : Int32)) then (if (xg_114_41 lp_N M (0 : Int32) (ro_min (xf_30 M v1 (1 : Int32)) (20 : Int32)) v1 v2).1 = true then (xg_114_41 lp_N M (0 : Int32) (ro_min (xf_30 M v1 (1 : Int32)) (20 : Int32)) v1 v2).2.1 else (-2 : Int32)) else (-1 : Int32)) else (-1 : Int32))
noncomputable def xm_114 (M : ro_Mm) (v1 : Int32) (v2 : Int32) : ro_Mm := (if (xf_29 M v1) then (if (xf_13 M v2 (0 : Int32) (12 : Int32)) then (xg_114_41 lp_N M (0 : Int32) (ro_min (xf_30 M v1 (1 : Int32)) (20 : Int32)) v1 v2).2.2.2 else M) else M)
def xp_114 (M : ro_Mm) (v1 : Int32) (v2 : Int32) : Prop := (((xf_29 M v1) → (((xf_13 M v2 (0 : Int32) (12 : Int32)) → (xq_114_41 lp_N M (0 : Int32) (ro_min (xf_30 M v1 (1 : Int32)) (20 : Int32)) v1 v2 ∧ True)) ∧ (¬ ((xf_13 M v2 (0 : Int32) (12 : Int32))) → True))) ∧ (¬ ((xf_29 M v1)) → True))
theorem xs_114 {X : ro_Sx} {M : ro_Mm} {v1 : Int32} {v2 : Int32} (hL : ro_lay M) (hp : xp_114 M v1 v2) : ro_cwp X 5 114 [.ref 4, .int v1, .int v2] M (fun v M2 => v = some (.int (xf_114 M v1 v2)) ∧ M2 = xm_114 M v1 v2) := by
  refine rs_begin (lv0 := [(0, .ref 4), (1, .int v1), (2, .int v2)]) (by decide) rfl (by rw [rm_114.1]; exact Nat.le_of_ble_eq_true rfl) rfl ?_
  unfold xp_114 at hp
  refine rs_aload_n ri_114_0 rfl rfl ?_
  refine rs_gf (v := .ref 5) ri_114_1 rfl (by decide) (ro_kf (kd_4 hL)) rfl (rf_4_0 hL) ?_
  refine rs_iload_n ri_114_4 rfl rfl ?_
  refine rs_virt (As := [.int v1]) (r := []) ri_114_5 rfl (by decide) rm_29.2.2.2 rm_29.2.2.1 rfl rfl rfl (by decide) (ro_kf (kd_5 hL)) (Nat.le_of_ble_eq_true rfl) (by decide) (by decide) (xs_29 (X := X) hL) ?_
  rintro _ _ ⟨e1, e2⟩
  rw [e1, e2]
  show ro_w X _ 114 _ 8 [(0, .ref 4), (1, .int v1), (2, .int v2)] [.int (ro_b (xf_29 M v1))] M (0, 0)
  refine rs_ifeq_c (t := 21) ri_114_8 rfl rfl (fun h1 => ?_) (fun h1 => ?_)
  · have hp := hp.2 h1
    refine rs_iconst (v := (-1 : Int32)) ri_114_21 rfl (by decide) ?_
    refine rs_iret ri_114_22 rm_114.2.1 (by decide) ?_
    exact ⟨by unfold xf_114; first | (simp only [if_neg h1]; done) | rfl, by unfold xm_114; first | (simp only [if_neg h1]; done) | rfl⟩
  · have hp := hp.1 h1
    refine rs_iload_n ri_114_11 rfl rfl ?_
    refine rs_iconst (v := (0 : Int32)) ri_114_12 rfl (by decide) ?_
    refine rs_bipush (v := (12 : Int32)) ri_114_13 rfl (by decide) ?_
    refine rs_stat (As := [.int v2, .int (0 : Int32), .int (12 : Int32)]) (r := []) ri_114_15 rfl rm_13.2.2.2 rfl rfl rfl (Nat.le_of_ble_eq_true rfl) (by decide) (by decide) (xs_13 (X := X) hL) ?_
    rintro _ _ ⟨e1, e2⟩
    rw [e1, e2]
    show ro_w X _ 114 _ 18 [(0, .ref 4), (1, .int v1), (2, .int v2)] [.int (ro_b (xf_13 M v2 (0 : Int32) (12 : Int32)))] M (0, 0)
    refine rs_ifne_c (t := 23) ri_114_18 rfl rfl (fun h2 => ?_) (fun h2 => ?_)
    · have hp := hp.1 h2
      refine rs_aload_n ri_114_23 rfl rfl ?_
      refine rs_gf (v := .ref 5) ri_114_24 rfl (by decide) (ro_kf (kd_4 hL)) rfl (rf_4_0 hL) ?_
      refine rs_iload_n ri_114_27 rfl rfl ?_
      refine rs_iconst (v := (1 : Int32)) ri_114_28 rfl (by decide) ?_
      refine rs_virt (As := [.int v1, .int (1 : Int32)]) (r := []) ri_114_29 rfl (by decide) rm_30.2.2.2 rm_30.2.2.1 rfl rfl rfl (by decide) (ro_kf (kd_5 hL)) (Nat.le_of_ble_eq_true rfl) (by decide) (by decide) (xs_30 (X := X) hL) ?_
      rintro _ _ ⟨e1, e2⟩
      rw [e1, e2]
      show ro_w X _ 114 _ 32 [(0, .ref 4), (1, .int v1), (2, .int v2)] [.int (xf_30 M v1 (1 : Int32))] M (0, 0)
      refine rs_bipush (v := (20 : Int32)) ri_114_32 rfl (by decide) ?_
      refine rs_min (r := (ro_min (xf_30 M v1 (1 : Int32)) (20 : Int32))) ri_114_34 rfl (Nat.le_of_ble_eq_true rfl) rfl ?_
      refine rs_istore_n (lv2 := [(3, .int (ro_min (xf_30 M v1 (1 : Int32)) (20 : Int32))), (0, .ref 4), (1, .int v1), (2, .int v2)]) ri_114_37 rfl rm_114.1 (by decide) rfl ?_
      refine rs_iconst (v := (0 : Int32)) ri_114_38 rfl (by decide) ?_
      refine rs_istore (lv2 := [(4, .int (0 : Int32)), (3, .int (ro_min (xf_30 M v1 (1 : Int32)) (20 : Int32))), (0, .ref 4), (1, .int v1), (2, .int v2)]) ri_114_39 rfl rm_114.1 (by decide) rfl ?_
      obtain ⟨q5, hp⟩ := hp
      refine xt_114_41 lp_N hL q5 (fun h7 => ?_) (fun h7 => ?_)
      · skip
        refine rs_bipush (v := (-2 : Int32)) ri_114_94 rfl (by decide) ?_
        refine rs_iret ri_114_96 rm_114.2.1 (by decide) ?_
        exact ⟨by unfold xf_114; first | (simp only [if_pos h1, if_pos h2, if_neg h7]; done) | rfl, by unfold xm_114; first | (simp only [if_pos h1, if_pos h2, if_neg h7]; done) | rfl⟩
      · skip
        exact ⟨by unfold xf_114; first | (simp only [if_pos h1, if_pos h2, if_pos h7]; done) | rfl, by unfold xm_114; first | (simp only [if_pos h1, if_pos h2, if_pos h7]; done) | rfl⟩
    · have hp := hp.2 h2
      refine rs_iconst (v := (-1 : Int32)) ri_114_21 rfl (by decide) ?_
      refine rs_iret ri_114_22 rm_114.2.1 (by decide) ?_
      exact ⟨by unfold xf_114; first | (simp only [if_pos h1, if_neg h2]; done) | rfl, by unfold xm_114; first | (simp only [if_pos h1, if_neg h2]; done) | rfl⟩
theorem xl_114 {M : ro_Mm} {v1 : Int32} {v2 : Int32} (hL : ro_lay M) (hp : xp_114 M v1 v2) : ro_lay (xm_114 M v1 v2) := by
  unfold xp_114 at hp
  unfold xm_114
  by_cases hz : (xf_29 M v1)
  · have hp := hp.1 hz
    rw [if_pos hz]
    by_cases hz : (xf_13 M v2 (0 : Int32) (12 : Int32))
    · have hp := hp.1 hz
      rw [if_pos hz]
      obtain ⟨q5, hp⟩ := hp
      by_cases hz : (xg_114_41 lp_N M (0 : Int32) (ro_min (xf_30 M v1 (1 : Int32)) (20 : Int32)) v1 v2).1 = true
      · skip
        exact (xl_114_41 lp_N hL q5)
      · skip
        exact (xl_114_41 lp_N hL q5)
    · have hp := hp.2 hz
      rw [if_neg hz]
      exact hL
  · have hp := hp.2 hz
    rw [if_neg hz]
    exact hL
theorem xwI_114 {M : ro_Mm} {v1 : Int32} {v2 : Int32} {c j : Nat} : (xm_114 M v1 v2).2.1 c j = M.2.1 c j := by
  unfold xm_114
  by_cases hz : (xf_29 M v1)
  · rw [if_pos hz]
    by_cases hz : (xf_13 M v2 (0 : Int32) (12 : Int32))
    · rw [if_pos hz]
      first | done | exact (xwI_114_41)
    · rw [if_neg hz]
      first | done | exact rfl
  · rw [if_neg hz]
    first | done | exact rfl
theorem xwJ_114 {M : ro_Mm} {v1 : Int32} {v2 : Int32} {c j : Nat} (n0 : c ≠ 48) : (xm_114 M v1 v2).2.2.1 c j = M.2.2.1 c j := by
  unfold xm_114
  by_cases hz : (xf_29 M v1)
  · rw [if_pos hz]
    by_cases hz : (xf_13 M v2 (0 : Int32) (12 : Int32))
    · rw [if_pos hz]
      first | done | exact (xwJ_114_41 n0)
    · rw [if_neg hz]
      first | done | exact rfl
  · rw [if_neg hz]
    first | done | exact rfl
/-- RefusedOnce.honest(III)J -/
noncomputable def xf_115 (M : ro_Mm) (v1 : Int32) (v2 : Int32) (v3 : Int32) : Int64 := (if v2 < (0 : Int32) then (-9223372036854775808 : Int64) else (if (xf_13 M (v2 / (10 : Int32)) (0 : Int32) (20 : Int32)) then (if (ro_irem v2 (10 : Int32)) ≤ (0 : Int32) then (-9223372036854775808 : Int64) else (if (xf_29 M v1) then (if (xf_95 M v3) then (xf_102 (xm_112 M v1 (v2 / (10 : Int32)) (ro_irem v2 (10 : Int32))) v3) else (-9223372036854775808 : Int64)) else (-9223372036854775808 : Int64))) else (-9223372036854775808 : Int64)))
noncomputable def xm_115 (M : ro_Mm) (v1 : Int32) (v2 : Int32) (v3 : Int32) : ro_Mm := (if v2 < (0 : Int32) then M else (if (xf_13 M (v2 / (10 : Int32)) (0 : Int32) (20 : Int32)) then (if (ro_irem v2 (10 : Int32)) ≤ (0 : Int32) then M else (if (xf_29 M v1) then (if (xf_95 M v3) then (xm_112 M v1 (v2 / (10 : Int32)) (ro_irem v2 (10 : Int32))) else M) else M)) else M))
def xp_115 (M : ro_Mm) (v1 : Int32) (v2 : Int32) (v3 : Int32) : Prop := ((v2 < (0 : Int32) → True) ∧ (¬ (v2 < (0 : Int32)) → (((xf_13 M (v2 / (10 : Int32)) (0 : Int32) (20 : Int32)) → (((ro_irem v2 (10 : Int32)) ≤ (0 : Int32) → True) ∧ (¬ ((ro_irem v2 (10 : Int32)) ≤ (0 : Int32)) → (((xf_29 M v1) → (((xf_95 M v3) → (xp_112 M v1 (v2 / (10 : Int32)) (ro_irem v2 (10 : Int32)) ∧ True)) ∧ (¬ ((xf_95 M v3)) → True))) ∧ (¬ ((xf_29 M v1)) → True))))) ∧ (¬ ((xf_13 M (v2 / (10 : Int32)) (0 : Int32) (20 : Int32))) → True))))
theorem xs_115 {X : ro_Sx} {M : ro_Mm} {v1 : Int32} {v2 : Int32} {v3 : Int32} (hL : ro_lay M) (hp : xp_115 M v1 v2 v3) : ro_cwp X 5 115 [.ref 4, .int v1, .int v2, .int v3] M (fun v M2 => v = some (.long (xf_115 M v1 v2 v3)) ∧ M2 = xm_115 M v1 v2 v3) := by
  refine rs_begin (lv0 := [(0, .ref 4), (1, .int v1), (2, .int v2), (3, .int v3)]) (by decide) rfl (by rw [rm_115.1]; exact Nat.le_of_ble_eq_true rfl) rfl ?_
  unfold xp_115 at hp
  refine rs_iload_n ri_115_0 rfl rfl ?_
  refine rs_if_lt (t := 28) ri_115_1 rfl rfl (fun h1 => ?_) (fun h1 => ?_)
  · have hp := hp.1 h1
    refine rs_iconst (v := (0 : Int32)) ri_115_28 rfl (by decide) ?_
    refine rs_istore (lv2 := [(4, .int (0 : Int32)), (0, .ref 4), (1, .int v1), (2, .int v2), (3, .int v3)]) ri_115_29 rfl rm_115.1 (by decide) rfl ?_
    refine rs_aload_n ri_115_31 rfl rfl ?_
    refine rs_gf (v := .ref 5) ri_115_32 rfl (by decide) (ro_kf (kd_4 hL)) rfl (rf_4_0 hL) ?_
    refine rs_iload_n ri_115_35 rfl rfl ?_
    refine rs_virt (As := [.int v1]) (r := []) ri_115_36 rfl (by decide) rm_29.2.2.2 rm_29.2.2.1 rfl rfl rfl (by decide) (ro_kf (kd_5 hL)) (Nat.le_of_ble_eq_true rfl) (by decide) (by decide) (xs_29 (X := X) hL) ?_
    rintro _ _ ⟨e1, e2⟩
    rw [e1, e2]
    show ro_w X _ 115 _ 39 [(4, .int (0 : Int32)), (0, .ref 4), (1, .int v1), (2, .int v2), (3, .int v3)] [.int (ro_b (xf_29 M v1))] M (0, 0)
    refine rs_ifeq_c (t := 54) ri_115_39 rfl rfl (fun h2 => ?_) (fun h2 => ?_)
    · skip
      refine rs_ldc2 (v := (-9223372036854775808 : Int64)) ri_115_54 rfl rfl rfl ?_
      refine rs_lret ri_115_57 rm_115.2.1 (by decide) ?_
      exact ⟨by unfold xf_115; first | (simp only [if_pos h1, if_neg h2]; done) | rfl, by unfold xm_115; first | (simp only [if_pos h1, if_neg h2]; done) | rfl⟩
    · skip
      refine rs_iload ri_115_42 rfl rfl ?_
      refine rs_if_eq (t := 54) ri_115_44 rfl rfl (fun h3 => ?_) (fun h3 => absurd (by decide) h3)
      refine rs_ldc2 (v := (-9223372036854775808 : Int64)) ri_115_54 rfl rfl rfl ?_
      refine rs_lret ri_115_57 rm_115.2.1 (by decide) ?_
      exact ⟨by unfold xf_115; first | (simp only [if_pos h1, if_pos h2]; done) | rfl, by unfold xm_115; first | (simp only [if_pos h1, if_pos h2]; done) | rfl⟩
  · have hp := hp.2 h1
    refine rs_iload_n ri_115_4 rfl rfl ?_
    refine rs_bipush (v := (10 : Int32)) ri_115_5 rfl (by decide) ?_
    refine rs_idiv (r := (v2 / (10 : Int32))) ri_115_7 rfl (by decide) rfl ?_
    refine rs_iconst (v := (0 : Int32)) ri_115_8 rfl (by decide) ?_
    refine rs_bipush (v := (20 : Int32)) ri_115_9 rfl (by decide) ?_
    refine rs_stat (As := [.int (v2 / (10 : Int32)), .int (0 : Int32), .int (20 : Int32)]) (r := []) ri_115_11 rfl rm_13.2.2.2 rfl rfl rfl (Nat.le_of_ble_eq_true rfl) (by decide) (by decide) (xs_13 (X := X) hL) ?_
    rintro _ _ ⟨e1, e2⟩
    rw [e1, e2]
    show ro_w X _ 115 _ 14 [(0, .ref 4), (1, .int v1), (2, .int v2), (3, .int v3)] [.int (ro_b (xf_13 M (v2 / (10 : Int32)) (0 : Int32) (20 : Int32)))] M (0, 0)
    refine rs_ifeq_c (t := 28) ri_115_14 rfl rfl (fun h4 => ?_) (fun h4 => ?_)
    · have hp := hp.2 h4
      refine rs_iconst (v := (0 : Int32)) ri_115_28 rfl (by decide) ?_
      refine rs_istore (lv2 := [(4, .int (0 : Int32)), (0, .ref 4), (1, .int v1), (2, .int v2), (3, .int v3)]) ri_115_29 rfl rm_115.1 (by decide) rfl ?_
      refine rs_aload_n ri_115_31 rfl rfl ?_
      refine rs_gf (v := .ref 5) ri_115_32 rfl (by decide) (ro_kf (kd_4 hL)) rfl (rf_4_0 hL) ?_
      refine rs_iload_n ri_115_35 rfl rfl ?_
      refine rs_virt (As := [.int v1]) (r := []) ri_115_36 rfl (by decide) rm_29.2.2.2 rm_29.2.2.1 rfl rfl rfl (by decide) (ro_kf (kd_5 hL)) (Nat.le_of_ble_eq_true rfl) (by decide) (by decide) (xs_29 (X := X) hL) ?_
      rintro _ _ ⟨e1, e2⟩
      rw [e1, e2]
      show ro_w X _ 115 _ 39 [(4, .int (0 : Int32)), (0, .ref 4), (1, .int v1), (2, .int v2), (3, .int v3)] [.int (ro_b (xf_29 M v1))] M (0, 0)
      refine rs_ifeq_c (t := 54) ri_115_39 rfl rfl (fun h5 => ?_) (fun h5 => ?_)
      · skip
        refine rs_ldc2 (v := (-9223372036854775808 : Int64)) ri_115_54 rfl rfl rfl ?_
        refine rs_lret ri_115_57 rm_115.2.1 (by decide) ?_
        exact ⟨by unfold xf_115; first | (simp only [if_neg h1, if_neg h4, if_neg h5]; done) | rfl, by unfold xm_115; first | (simp only [if_neg h1, if_neg h4, if_neg h5]; done) | rfl⟩
      · skip
        refine rs_iload ri_115_42 rfl rfl ?_
        refine rs_if_eq (t := 54) ri_115_44 rfl rfl (fun h6 => ?_) (fun h6 => absurd (by decide) h6)
        refine rs_ldc2 (v := (-9223372036854775808 : Int64)) ri_115_54 rfl rfl rfl ?_
        refine rs_lret ri_115_57 rm_115.2.1 (by decide) ?_
        exact ⟨by unfold xf_115; first | (simp only [if_neg h1, if_neg h4, if_pos h5]; done) | rfl, by unfold xm_115; first | (simp only [if_neg h1, if_neg h4, if_pos h5]; done) | rfl⟩
    · have hp := hp.1 h4
      refine rs_iload_n ri_115_17 rfl rfl ?_
      refine rs_bipush (v := (10 : Int32)) ri_115_18 rfl (by decide) ?_
      refine rs_irem (r := (ro_irem v2 (10 : Int32))) ri_115_20 rfl (by decide) rfl ?_
      refine rs_if_le (t := 28) ri_115_21 rfl rfl (fun h7 => ?_) (fun h7 => ?_)
      · have hp := hp.1 h7
        refine rs_iconst (v := (0 : Int32)) ri_115_28 rfl (by decide) ?_
        refine rs_istore (lv2 := [(4, .int (0 : Int32)), (0, .ref 4), (1, .int v1), (2, .int v2), (3, .int v3)]) ri_115_29 rfl rm_115.1 (by decide) rfl ?_
        refine rs_aload_n ri_115_31 rfl rfl ?_
        refine rs_gf (v := .ref 5) ri_115_32 rfl (by decide) (ro_kf (kd_4 hL)) rfl (rf_4_0 hL) ?_
        refine rs_iload_n ri_115_35 rfl rfl ?_
        refine rs_virt (As := [.int v1]) (r := []) ri_115_36 rfl (by decide) rm_29.2.2.2 rm_29.2.2.1 rfl rfl rfl (by decide) (ro_kf (kd_5 hL)) (Nat.le_of_ble_eq_true rfl) (by decide) (by decide) (xs_29 (X := X) hL) ?_
        rintro _ _ ⟨e1, e2⟩
        rw [e1, e2]
        show ro_w X _ 115 _ 39 [(4, .int (0 : Int32)), (0, .ref 4), (1, .int v1), (2, .int v2), (3, .int v3)] [.int (ro_b (xf_29 M v1))] M (0, 0)
        refine rs_ifeq_c (t := 54) ri_115_39 rfl rfl (fun h8 => ?_) (fun h8 => ?_)
        · skip
          refine rs_ldc2 (v := (-9223372036854775808 : Int64)) ri_115_54 rfl rfl rfl ?_
          refine rs_lret ri_115_57 rm_115.2.1 (by decide) ?_
          exact ⟨by unfold xf_115; first | (simp only [if_neg h1, if_pos h4, if_pos h7, if_neg h8]; done) | rfl, by unfold xm_115; first | (simp only [if_neg h1, if_pos h4, if_pos h7, if_neg h8]; done) | rfl⟩
        · skip
          refine rs_iload ri_115_42 rfl rfl ?_
          refine rs_if_eq (t := 54) ri_115_44 rfl rfl (fun h9 => ?_) (fun h9 => absurd (by decide) h9)
          refine rs_ldc2 (v := (-9223372036854775808 : Int64)) ri_115_54 rfl rfl rfl ?_
          refine rs_lret ri_115_57 rm_115.2.1 (by decide) ?_
          exact ⟨by unfold xf_115; first | (simp only [if_neg h1, if_pos h4, if_pos h7, if_pos h8]; done) | rfl, by unfold xm_115; first | (simp only [if_neg h1, if_pos h4, if_pos h7, if_pos h8]; done) | rfl⟩
      · have hp := hp.2 h7
        refine rs_iconst (v := (1 : Int32)) ri_115_24 rfl (by decide) ?_
        refine rs_goto (t := 29) ri_115_25 rfl ?_
        refine rs_istore (lv2 := [(4, .int (1 : Int32)), (0, .ref 4), (1, .int v1), (2, .int v2), (3, .int v3)]) ri_115_29 rfl rm_115.1 (by decide) rfl ?_
        refine rs_aload_n ri_115_31 rfl rfl ?_
        refine rs_gf (v := .ref 5) ri_115_32 rfl (by decide) (ro_kf (kd_4 hL)) rfl (rf_4_0 hL) ?_
        refine rs_iload_n ri_115_35 rfl rfl ?_
        refine rs_virt (As := [.int v1]) (r := []) ri_115_36 rfl (by decide) rm_29.2.2.2 rm_29.2.2.1 rfl rfl rfl (by decide) (ro_kf (kd_5 hL)) (Nat.le_of_ble_eq_true rfl) (by decide) (by decide) (xs_29 (X := X) hL) ?_
        rintro _ _ ⟨e1, e2⟩
        rw [e1, e2]
        show ro_w X _ 115 _ 39 [(4, .int (1 : Int32)), (0, .ref 4), (1, .int v1), (2, .int v2), (3, .int v3)] [.int (ro_b (xf_29 M v1))] M (0, 0)
        refine rs_ifeq_c (t := 54) ri_115_39 rfl rfl (fun h10 => ?_) (fun h10 => ?_)
        · have hp := hp.2 h10
          refine rs_ldc2 (v := (-9223372036854775808 : Int64)) ri_115_54 rfl rfl rfl ?_
          refine rs_lret ri_115_57 rm_115.2.1 (by decide) ?_
          exact ⟨by unfold xf_115; first | (simp only [if_neg h1, if_pos h4, if_neg h7, if_neg h10]; done) | rfl, by unfold xm_115; first | (simp only [if_neg h1, if_pos h4, if_neg h7, if_neg h10]; done) | rfl⟩
        · have hp := hp.1 h10
          refine rs_iload ri_115_42 rfl rfl ?_
          refine rs_if_eq (t := 54) ri_115_44 rfl rfl (fun h11 => absurd h11 (by decide)) (fun h11 => ?_)
          refine rs_iload_n ri_115_47 rfl rfl ?_
          refine rs_stat (As := [.int v3]) (r := []) ri_115_48 rfl rm_95.2.2.2 rfl rfl rfl (Nat.le_of_ble_eq_true rfl) (by decide) (by decide) (xs_95 (X := X) hL) ?_
          rintro _ _ ⟨e1, e2⟩
          rw [e1, e2]
          show ro_w X _ 115 _ 51 [(4, .int (1 : Int32)), (0, .ref 4), (1, .int v1), (2, .int v2), (3, .int v3)] [.int (ro_b (xf_95 M v3))] M (0, 0)
          refine rs_ifne_c (t := 58) ri_115_51 rfl rfl (fun h12 => ?_) (fun h12 => ?_)
          · have hp := hp.1 h12
            refine rs_aload_n ri_115_58 rfl rfl ?_
            refine rs_gf (v := .ref 48) ri_115_59 rfl (by decide) (ro_kf (kd_4 hL)) rfl (rf_4_5 hL) ?_
            refine rs_iload_n ri_115_62 rfl rfl ?_
            refine rs_iload_n ri_115_63 rfl rfl ?_
            refine rs_bipush (v := (10 : Int32)) ri_115_64 rfl (by decide) ?_
            refine rs_idiv (r := (v2 / (10 : Int32))) ri_115_66 rfl (by decide) rfl ?_
            refine rs_iload_n ri_115_67 rfl rfl ?_
            refine rs_bipush (v := (10 : Int32)) ri_115_68 rfl (by decide) ?_
            refine rs_irem (r := (ro_irem v2 (10 : Int32))) ri_115_70 rfl (by decide) rfl ?_
            obtain ⟨q12, hp⟩ := hp
            refine rs_virt (As := [.int v1, .int (v2 / (10 : Int32)), .int (ro_irem v2 (10 : Int32))]) (r := []) ri_115_71 rfl (by decide) rm_112.2.2.2 rm_112.2.2.1 rfl rfl rfl (by decide) (ro_kf (kd_48 hL)) (Nat.le_of_ble_eq_true rfl) (by decide) (by decide) (xs_112 (X := X) hL q12) ?_
            rintro _ _ ⟨e1, e2⟩
            rw [e1, e2]
            show ro_w X _ 115 _ 74 [(4, .int (1 : Int32)), (0, .ref 4), (1, .int v1), (2, .int v2), (3, .int v3)] [] (xm_112 M v1 (v2 / (10 : Int32)) (ro_irem v2 (10 : Int32))) (0, 0)
            refine rs_aload_n ri_115_74 rfl rfl ?_
            refine rs_gf (v := .ref 48) ri_115_75 rfl (by decide) (ro_kf (kd_4 (xl_112 hL q12))) rfl (rf_4_5 (xl_112 hL q12)) ?_
            refine rs_iload_n ri_115_78 rfl rfl ?_
            refine rs_virt (As := [.int v3]) (r := []) ri_115_79 rfl (by decide) rm_102.2.2.2 rm_102.2.2.1 rfl rfl rfl (by decide) (ro_kf (kd_48 (xl_112 hL q12))) (Nat.le_of_ble_eq_true rfl) (by decide) (by decide) (xs_102 (X := X) (xl_112 hL q12)) ?_
            rintro _ _ ⟨e1, e2⟩
            rw [e1, e2]
            show ro_w X _ 115 _ 82 [(4, .int (1 : Int32)), (0, .ref 4), (1, .int v1), (2, .int v2), (3, .int v3)] [.long (xf_102 (xm_112 M v1 (v2 / (10 : Int32)) (ro_irem v2 (10 : Int32))) v3)] (xm_112 M v1 (v2 / (10 : Int32)) (ro_irem v2 (10 : Int32))) (0, 0)
            refine rs_lret ri_115_82 rm_115.2.1 (by decide) ?_
            exact ⟨by unfold xf_115; first | (simp only [if_neg h1, if_pos h4, if_neg h7, if_pos h10, if_pos h12]; done) | rfl, by unfold xm_115; first | (simp only [if_neg h1, if_pos h4, if_neg h7, if_pos h10, if_pos h12]; done) | rfl⟩
          · have hp := hp.2 h12
            refine rs_ldc2 (v := (-9223372036854775808 : Int64)) ri_115_54 rfl rfl rfl ?_
            refine rs_lret ri_115_57 rm_115.2.1 (by decide) ?_
            exact ⟨by unfold xf_115; first | (simp only [if_neg h1, if_pos h4, if_neg h7, if_pos h10, if_neg h12]; done) | rfl, by unfold xm_115; first | (simp only [if_neg h1, if_pos h4, if_neg h7, if_pos h10, if_neg h12]; done) | rfl⟩
theorem xl_115 {M : ro_Mm} {v1 : Int32} {v2 : Int32} {v3 : Int32} (hL : ro_lay M) (hp : xp_115 M v1 v2 v3) : ro_lay (xm_115 M v1 v2 v3) := by
  unfold xp_115 at hp
  unfold xm_115
  by_cases hz : v2 < (0 : Int32)
  · have hp := hp.1 hz
    rw [if_pos hz]
    by_cases hz : (xf_29 M v1)
    · skip
      exact hL
    · skip
      exact hL
  · have hp := hp.2 hz
    rw [if_neg hz]
    by_cases hz : (xf_13 M (v2 / (10 : Int32)) (0 : Int32) (20 : Int32))
    · have hp := hp.1 hz
      rw [if_pos hz]
      by_cases hz : (ro_irem v2 (10 : Int32)) ≤ (0 : Int32)
      · have hp := hp.1 hz
        rw [if_pos hz]
        by_cases hz : (xf_29 M v1)
        · skip
          exact hL
        · skip
          exact hL
      · have hp := hp.2 hz
        rw [if_neg hz]
        by_cases hz : (xf_29 M v1)
        · have hp := hp.1 hz
          rw [if_pos hz]
          by_cases hz : (xf_95 M v3)
          · have hp := hp.1 hz
            rw [if_pos hz]
            obtain ⟨q12, hp⟩ := hp
            exact (xl_112 hL q12)
          · have hp := hp.2 hz
            rw [if_neg hz]
            exact hL
        · have hp := hp.2 hz
          rw [if_neg hz]
          exact hL
    · have hp := hp.2 hz
      rw [if_neg hz]
      by_cases hz : (xf_29 M v1)
      · skip
        exact hL
      · skip
        exact hL
theorem xwI_115 {M : ro_Mm} {v1 : Int32} {v2 : Int32} {v3 : Int32} {c j : Nat} : (xm_115 M v1 v2 v3).2.1 c j = M.2.1 c j := by
  unfold xm_115
  by_cases hz : v2 < (0 : Int32)
  · rw [if_pos hz]
    first | done | exact rfl
  · rw [if_neg hz]
    by_cases hz : (xf_13 M (v2 / (10 : Int32)) (0 : Int32) (20 : Int32))
    · rw [if_pos hz]
      by_cases hz : (ro_irem v2 (10 : Int32)) ≤ (0 : Int32)
      · rw [if_pos hz]
        first | done | exact rfl
      · rw [if_neg hz]
        by_cases hz : (xf_29 M v1)
        · rw [if_pos hz]
          by_cases hz : (xf_95 M v3)
          · rw [if_pos hz]
            first | done | exact (xwI_112)
          · rw [if_neg hz]
            first | done | exact rfl
        · rw [if_neg hz]
          first | done | exact rfl
    · rw [if_neg hz]
      first | done | exact rfl
theorem xwJ_115 {M : ro_Mm} {v1 : Int32} {v2 : Int32} {v3 : Int32} {c j : Nat} (n0 : c ≠ 48) : (xm_115 M v1 v2 v3).2.2.1 c j = M.2.2.1 c j := by
  unfold xm_115
  by_cases hz : v2 < (0 : Int32)
  · rw [if_pos hz]
    first | done | exact rfl
  · rw [if_neg hz]
    by_cases hz : (xf_13 M (v2 / (10 : Int32)) (0 : Int32) (20 : Int32))
    · rw [if_pos hz]
      by_cases hz : (ro_irem v2 (10 : Int32)) ≤ (0 : Int32)
      · rw [if_pos hz]
        first | done | exact rfl
      · rw [if_neg hz]
        by_cases hz : (xf_29 M v1)
        · rw [if_pos hz]
          by_cases hz : (xf_95 M v3)
          · rw [if_pos hz]
            first | done | exact (xwJ_112 n0)
          · rw [if_neg hz]
            first | done | exact rfl
        · rw [if_neg hz]
          first | done | exact rfl
    · rw [if_neg hz]
      first | done | exact rfl
/-- a loop of RefusedOnce.dowry(II)I -/
noncomputable def xg_116_39 : Nat → ro_Mm → Int32 → Int32 → Int32 → Int32 → Int32 → Int32 × Int32 × Int32
  | 0, M, v5, v4, v3, v1, v2 => (v5, v4, v3)
  | n + 1, M, v5, v4, v3, v1, v2 => (if (xf_18 M) ≤ v5 then (v5, v4, v3) else (if v3 ≤ (0 : Int32) then (v5, v4, v3) else (if ((v1 >>> (v5 &&& 31)) &&& (1 : Int32)) = (0 : Int32) then (xg_116_39 n M (v5 + (1 : Int32)) v4 (v3 - (ro_min (0 : Int32) v3)) v1 v2) else (if (xf_30 M v5 (0 : Int32)) ≤ (0 : Int32) then (xg_116_39 n M (v5 + (1 : Int32)) v4 (v3 - (ro_min (xf_30 M v5 (0 : Int32)) v3)) v1 v2) else (if v3 < (xf_30 M v5 (0 : Int32)) then (xg_116_39 n M (v5 + (1 : Int32)) v4 (v3 - (ro_min (xf_30 M v5 (0 : Int32)) v3)) v1 v2) else (xg_116_39 n M (v5 + (1 : Int32)) (v4 ||| ((1 : Int32) <<< (v5 &&& 31))) (v3 - (ro_min (xf_30 M v5 (0 : Int32)) v3)) v1 v2))))))
def xq_116_39 : Nat → ro_Mm → Int32 → Int32 → Int32 → Int32 → Int32 → Prop
  | 0, _, _, _, _, _, _ => False
  | n + 1, M, v5, v4, v3, v1, v2 => (((xf_18 M) ≤ v5 → True) ∧ (¬ ((xf_18 M) ≤ v5) → ((v3 ≤ (0 : Int32) → True) ∧ (¬ (v3 ≤ (0 : Int32)) → ((((v1 >>> (v5 &&& 31)) &&& (1 : Int32)) = (0 : Int32) → (xq_116_39 n M (v5 + (1 : Int32)) v4 (v3 - (ro_min (0 : Int32) v3)) v1 v2)) ∧ (¬ (((v1 >>> (v5 &&& 31)) &&& (1 : Int32)) = (0 : Int32)) → (((xf_30 M v5 (0 : Int32)) ≤ (0 : Int32) → (xq_116_39 n M (v5 + (1 : Int32)) v4 (v3 - (ro_min (xf_30 M v5 (0 : Int32)) v3)) v1 v2)) ∧ (¬ ((xf_30 M v5 (0 : Int32)) ≤ (0 : Int32)) → ((v3 < (xf_30 M v5 (0 : Int32)) → (xq_116_39 n M (v5 + (1 : Int32)) v4 (v3 - (ro_min (xf_30 M v5 (0 : Int32)) v3)) v1 v2)) ∧ (¬ (v3 < (xf_30 M v5 (0 : Int32))) → (xq_116_39 n M (v5 + (1 : Int32)) (v4 ||| ((1 : Int32) <<< (v5 &&& 31))) (v3 - (ro_min (xf_30 M v5 (0 : Int32)) v3)) v1 v2)))))))))))
/-- RefusedOnce.dowry(II)I -/
noncomputable def xf_116 (M : ro_Mm) (v1 : Int32) (v2 : Int32) : Int32 := (if (xf_13 M v1 (0 : Int32) (((1 : Int32) <<< ((xf_18 M) &&& 31)) - (1 : Int32))) then (if (xf_13 M v2 (0 : Int32) (99 : Int32)) then (if (xg_116_39 lp_N M (0 : Int32) (0 : Int32) v2 v1 v2).2.2 ≤ (0 : Int32) then (xg_116_39 lp_N M (0 : Int32) (0 : Int32) v2 v1 v2).2.1 else (-2 : Int32)) else (-1 : Int32)) else (-1 : Int32))
def xp_116 (M : ro_Mm) (v1 : Int32) (v2 : Int32) : Prop := (((xf_13 M v1 (0 : Int32) (((1 : Int32) <<< ((xf_18 M) &&& 31)) - (1 : Int32))) → (((xf_13 M v2 (0 : Int32) (99 : Int32)) → (xq_116_39 lp_N M (0 : Int32) (0 : Int32) v2 v1 v2 ∧ True)) ∧ (¬ ((xf_13 M v2 (0 : Int32) (99 : Int32))) → True))) ∧ (¬ ((xf_13 M v1 (0 : Int32) (((1 : Int32) <<< ((xf_18 M) &&& 31)) - (1 : Int32)))) → True))
/-- a loop of RefusedOnce.richest(I)I -/
noncomputable def xg_117_17 : Nat → ro_Mm → Int32 → Int32 → Int32 → Int32 × Int32
  | 0, M, v3, v2, v1 => (v3, v2)
  | n + 1, M, v3, v2, v1 => (if (4 : Int32) < v3 then (v3, v2) else (if (xf_118 M v3) = v1 then (xg_117_17 n M (v3 + (1 : Int32)) (v2 ||| ((1 : Int32) <<< (v3 &&& 31))) v1) else (xg_117_17 n M (v3 + (1 : Int32)) v2 v1)))
def xq_117_17 : Nat → ro_Mm → Int32 → Int32 → Int32 → Prop
  | 0, _, _, _, _ => False
  | n + 1, M, v3, v2, v1 => (((4 : Int32) < v3 → True) ∧ (¬ ((4 : Int32) < v3) → (xp_118 M v3 ∧ (((xf_118 M v3) = v1 → (xq_117_17 n M (v3 + (1 : Int32)) (v2 ||| ((1 : Int32) <<< (v3 &&& 31))) v1)) ∧ (¬ ((xf_118 M v3) = v1) → (xq_117_17 n M (v3 + (1 : Int32)) v2 v1))))))
theorem xt_117_17 {X : ro_Sx} {post : ro_Po} : ∀ (n : Nat) {M : ro_Mm} {v3 : Int32} {v2 : Int32} {v1 : Int32} (hL : ro_lay M) (hp : xq_117_17 n M v3 v2 v1) (hk : ro_w X 3 117 post 46 [(3, .int (xg_117_17 n M v3 v2 v1).1), (2, .int (xg_117_17 n M v3 v2 v1).2), (0, .ref 4), (1, .int v1)] [] M (0, 0)), ro_w X 3 117 post 17 [(3, .int v3), (2, .int v2), (0, .ref 4), (1, .int v1)] [] M (0, 0) := by
  intro n
  induction n with
  | zero => intro M v3 v2 v1 hL hp hk; exact False.elim hp
  | succ n ih =>
    intro M v3 v2 v1 hL hp hk
    rw [xq_117_17] at hp
    refine rs_iload_n ri_117_17 rfl rfl ?_
    refine rs_iconst (v := (4 : Int32)) ri_117_18 rfl (by decide) ?_
    refine rs_icmp_gt (t := 46) ri_117_19 rfl rfl (fun h2 => ?_) (fun h2 => ?_)
    · skip
      have e : xg_117_17 (n + 1) M v3 v2 v1 = (v3, v2) := by rw [xg_117_17]; first | (simp only [if_pos h2]; done) | rfl
      rw [e] at hk
      exact ro_w_lv (ro_sub_c rfl (ro_sub_c rfl (ro_sub_c rfl (ro_sub_c rfl (ro_sub_n rfl))))) hk
    · have hp := hp.2 h2
      refine rs_aload_n ri_117_22 rfl rfl ?_
      refine rs_gf (v := .ref 5) ri_117_23 rfl (by decide) (ro_kf (kd_4 hL)) rfl (rf_4_0 hL) ?_
      refine rs_iload_n ri_117_26 rfl rfl ?_
      obtain ⟨q2, hp⟩ := hp
      refine rs_virt (As := [.int v3]) (r := []) ri_117_27 rfl (by decide) rm_118.2.2.2 rm_118.2.2.1 rfl rfl rfl (by decide) (ro_kf (kd_5 hL)) (Nat.le_of_ble_eq_true rfl) (by decide) (by decide) (xs_118 (X := X) hL q2) ?_
      rintro _ _ ⟨e1, e2⟩
      rw [e1, e2]
      show ro_w X _ 117 _ 30 [(3, .int v3), (2, .int v2), (0, .ref 4), (1, .int v1)] [.int (xf_118 M v3)] M (0, 0)
      refine rs_iload_n ri_117_30 rfl rfl ?_
      refine rs_icmp_ne (t := 40) ri_117_31 rfl rfl (fun h4 => ?_) (fun h4 => ?_)
      · have hp := hp.2 h4
        refine rs_iinc (v := (v3 + (1 : Int32))) (lv2 := [(3, .int (v3 + (1 : Int32))), (2, .int v2), (0, .ref 4), (1, .int v1)]) ri_117_40 rfl rfl rfl rm_117.1 (by decide) rfl ?_
        refine rs_goto (t := 17) ri_117_43 rfl ?_
        have e : xg_117_17 (n + 1) M v3 v2 v1 = xg_117_17 n M (v3 + (1 : Int32)) v2 v1 := by rw [xg_117_17]; first | (simp only [if_neg h2, if_neg h4]; done) | rfl
        rw [e] at hk
        exact ro_w_lv (ro_sub_c rfl (ro_sub_c rfl (ro_sub_c rfl (ro_sub_c rfl (ro_sub_n rfl))))) (ih hL  hp hk)
      · have hp := hp.1 h4
        refine rs_iload_n ri_117_34 rfl rfl ?_
        refine rs_iconst (v := (1 : Int32)) ri_117_35 rfl (by decide) ?_
        refine rs_iload_n ri_117_36 rfl rfl ?_
        refine rs_ishl (r := ((1 : Int32) <<< (v3 &&& 31))) ri_117_37 rfl rfl ?_
        refine rs_ior (r := (v2 ||| ((1 : Int32) <<< (v3 &&& 31)))) ri_117_38 rfl rfl ?_
        refine rs_istore_n (lv2 := [(2, .int (v2 ||| ((1 : Int32) <<< (v3 &&& 31)))), (3, .int v3), (0, .ref 4), (1, .int v1)]) ri_117_39 rfl rm_117.1 (by decide) rfl ?_
        refine rs_iinc (v := (v3 + (1 : Int32))) (lv2 := [(3, .int (v3 + (1 : Int32))), (2, .int (v2 ||| ((1 : Int32) <<< (v3 &&& 31)))), (0, .ref 4), (1, .int v1)]) ri_117_40 rfl rfl rfl rm_117.1 (by decide) rfl ?_
        refine rs_goto (t := 17) ri_117_43 rfl ?_
        have e : xg_117_17 (n + 1) M v3 v2 v1 = xg_117_17 n M (v3 + (1 : Int32)) (v2 ||| ((1 : Int32) <<< (v3 &&& 31))) v1 := by rw [xg_117_17]; first | (simp only [if_neg h2, if_pos h4]; done) | rfl
        rw [e] at hk
        exact ro_w_lv (ro_sub_c rfl (ro_sub_c rfl (ro_sub_c rfl (ro_sub_c rfl (ro_sub_n rfl))))) (ih hL  hp hk)
/-- RefusedOnce.richest(I)I -/
noncomputable def xf_117 (M : ro_Mm) (v1 : Int32) : Int32 := (if (xf_29 M v1) then (xg_117_17 lp_N M (0 : Int32) (0 : Int32) v1).2 else (-1 : Int32))
def xp_117 (M : ro_Mm) (v1 : Int32) : Prop := (((xf_29 M v1) → (xq_117_17 lp_N M (0 : Int32) (0 : Int32) v1 ∧ True)) ∧ (¬ ((xf_29 M v1)) → True))
theorem xs_117 {X : ro_Sx} {M : ro_Mm} {v1 : Int32} (hL : ro_lay M) (hp : xp_117 M v1) : ro_cwp X 4 117 [.ref 4, .int v1] M (fun v M2 => v = some (.int (xf_117 M v1)) ∧ M2 = M) := by
  refine rs_begin (lv0 := [(0, .ref 4), (1, .int v1)]) (by decide) rfl (by rw [rm_117.1]; exact Nat.le_of_ble_eq_true rfl) rfl ?_
  unfold xp_117 at hp
  refine rs_aload_n ri_117_0 rfl rfl ?_
  refine rs_gf (v := .ref 5) ri_117_1 rfl (by decide) (ro_kf (kd_4 hL)) rfl (rf_4_0 hL) ?_
  refine rs_iload_n ri_117_4 rfl rfl ?_
  refine rs_virt (As := [.int v1]) (r := []) ri_117_5 rfl (by decide) rm_29.2.2.2 rm_29.2.2.1 rfl rfl rfl (by decide) (ro_kf (kd_5 hL)) (Nat.le_of_ble_eq_true rfl) (by decide) (by decide) (xs_29 (X := X) hL) ?_
  rintro _ _ ⟨e1, e2⟩
  rw [e1, e2]
  show ro_w X _ 117 _ 8 [(0, .ref 4), (1, .int v1)] [.int (ro_b (xf_29 M v1))] M (0, 0)
  refine rs_ifne_c (t := 13) ri_117_8 rfl rfl (fun h1 => ?_) (fun h1 => ?_)
  · have hp := hp.1 h1
    refine rs_iconst (v := (0 : Int32)) ri_117_13 rfl (by decide) ?_
    refine rs_istore_n (lv2 := [(2, .int (0 : Int32)), (0, .ref 4), (1, .int v1)]) ri_117_14 rfl rm_117.1 (by decide) rfl ?_
    refine rs_iconst (v := (0 : Int32)) ri_117_15 rfl (by decide) ?_
    refine rs_istore_n (lv2 := [(3, .int (0 : Int32)), (2, .int (0 : Int32)), (0, .ref 4), (1, .int v1)]) ri_117_16 rfl rm_117.1 (by decide) rfl ?_
    obtain ⟨q4, hp⟩ := hp
    refine xt_117_17 lp_N hL q4 ?_
    refine rs_iload_n ri_117_46 rfl rfl ?_
    refine rs_iret ri_117_47 rm_117.2.1 (by decide) ?_
    exact ⟨by unfold xf_117; first | (simp only [if_pos h1]; done) | rfl, by rfl⟩
  · have hp := hp.2 h1
    refine rs_iconst (v := (-1 : Int32)) ri_117_11 rfl (by decide) ?_
    refine rs_iret ri_117_12 rm_117.2.1 (by decide) ?_
    exact ⟨by unfold xf_117; first | (simp only [if_neg h1]; done) | rfl, by rfl⟩
/-- RefusedOnce.row(III)I -/
noncomputable def xf_177 (M : ro_Mm) (v1 : Int32) (v2 : Int32) (v3 : Int32) : Int32 := (if ro_bs v1 then (if (xf_13 M v2 (0 : Int32) (4 : Int32)) then (if v3 ≤ (60 : Int32) then (if (0 : Int32) ≤ v3 then (1 : Int32) else (-14 : Int32)) else (-1 : Int32)) else (-1 : Int32)) else (-1 : Int32))
noncomputable def xm_177 (M : ro_Mm) (v1 : Int32) (v2 : Int32) (v3 : Int32) : ro_Mm := (if ro_bs v1 then (if (xf_13 M v2 (0 : Int32) (4 : Int32)) then (if v3 ≤ (60 : Int32) then (if (0 : Int32) ≤ v3 then (xm_178 M (ro_sc v1) v2 v3) else M) else M) else M) else M)
def xp_177 (M : ro_Mm) (v1 : Int32) (v2 : Int32) (v3 : Int32) : Prop := ((ro_bs v1 → (((xf_13 M v2 (0 : Int32) (4 : Int32)) → ((v3 ≤ (60 : Int32) → (((0 : Int32) ≤ v3 → (xp_178 M (ro_sc v1) v2 v3 ∧ True)) ∧ (¬ ((0 : Int32) ≤ v3) → True))) ∧ (¬ (v3 ≤ (60 : Int32)) → True))) ∧ (¬ ((xf_13 M v2 (0 : Int32) (4 : Int32))) → True))) ∧ (¬ (ro_bs v1) → True))
theorem xs_177 {X : ro_Sx} {M : ro_Mm} {v1 : Int32} {v2 : Int32} {v3 : Int32} (hL : ro_lay M) (hp : xp_177 M v1 v2 v3) : ro_cwp X 2 177 [.ref 4, .int v1, .int v2, .int v3] M (fun v M2 => v = some (.int (xf_177 M v1 v2 v3)) ∧ M2 = xm_177 M v1 v2 v3) := by
  refine rs_begin (lv0 := [(0, .ref 4), (1, .int v1), (2, .int v2), (3, .int v3)]) (by decide) rfl (by rw [rm_177.1]; exact Nat.le_of_ble_eq_true rfl) rfl ?_
  unfold xp_177 at hp
  refine rs_aload_n ri_177_0 rfl rfl ?_
  refine rs_iload_n ri_177_1 rfl rfl ?_
  by_cases h1 : ro_bs v1 = true
  · have hp := hp.1 h1
    refine rs_virt (As := [.int v1]) (r := []) ri_177_2 rfl (by decide) rm_20.2.2.2 rm_20.2.2.1 rfl rfl rfl (by decide) (ro_kf (kd_4 hL)) (Nat.le_of_ble_eq_true rfl) (by decide) (by decide) (xs_20_t hL h1) ?_
    rintro _ _ ⟨e1, e2⟩
    rw [e1, e2]
    show ro_w X _ 177 _ 5 [(0, .ref 4), (1, .int v1), (2, .int v2), (3, .int v3)] [.ref (ro_sc v1)] M (0, 0)
    refine rs_astore (lv2 := [(4, .ref (ro_sc v1)), (0, .ref 4), (1, .int v1), (2, .int v2), (3, .int v3)]) ri_177_5 rfl rm_177.1 (by decide) rfl ?_
    refine rs_aload ri_177_7 rfl rfl ?_
    refine rs_ifnull (t := 27) ri_177_9 rfl rfl ?_
    refine rs_iload_n ri_177_12 rfl rfl ?_
    refine rs_iconst (v := (0 : Int32)) ri_177_13 rfl (by decide) ?_
    refine rs_iconst (v := (4 : Int32)) ri_177_14 rfl (by decide) ?_
    refine rs_stat (As := [.int v2, .int (0 : Int32), .int (4 : Int32)]) (r := []) ri_177_15 rfl rm_13.2.2.2 rfl rfl rfl (Nat.le_of_ble_eq_true rfl) (by decide) (by decide) (xs_13 (X := X) hL) ?_
    rintro _ _ ⟨e1, e2⟩
    rw [e1, e2]
    show ro_w X _ 177 _ 18 [(4, .ref (ro_sc v1)), (0, .ref 4), (1, .int v1), (2, .int v2), (3, .int v3)] [.int (ro_b (xf_13 M v2 (0 : Int32) (4 : Int32)))] M (0, 0)
    refine rs_ifeq_c (t := 27) ri_177_18 rfl rfl (fun h2 => ?_) (fun h2 => ?_)
    · have hp := hp.2 h2
      refine rs_iconst (v := (-1 : Int32)) ri_177_27 rfl (by decide) ?_
      refine rs_iret ri_177_28 rm_177.2.1 (by decide) ?_
      exact ⟨by unfold xf_177; first | (simp only [if_pos h1, if_neg h2]; done) | rfl, by unfold xm_177; first | (simp only [if_pos h1, if_neg h2]; done) | rfl⟩
    · have hp := hp.1 h2
      refine rs_iload_n ri_177_21 rfl rfl ?_
      refine rs_bipush (v := (60 : Int32)) ri_177_22 rfl (by decide) ?_
      refine rs_icmp_le (t := 29) ri_177_24 rfl rfl (fun h3 => ?_) (fun h3 => ?_)
      · have hp := hp.1 h3
        refine rs_iload_n ri_177_29 rfl rfl ?_
        refine rs_if_ge (t := 36) ri_177_30 rfl rfl (fun h4 => ?_) (fun h4 => ?_)
        · have hp := hp.1 h4
          refine rs_aload ri_177_36 rfl rfl ?_
          refine rs_iload_n ri_177_38 rfl rfl ?_
          refine rs_iload_n ri_177_39 rfl rfl ?_
          obtain ⟨q4, hp⟩ := hp
          refine rs_virt (As := [.int v2, .int v3]) (r := []) ri_177_40 rfl (by decide) rm_178.2.2.2 rm_178.2.2.1 rfl rfl rfl (ro_is4 (ro_sc_is v1)) (ro_kf (is_kd hL (ro_sc_is v1))) (Nat.le_of_ble_eq_true rfl) (by decide) (by decide) (xs_178 (X := X) hL (ro_sc_is v1) q4) ?_
          rintro _ _ ⟨e1, e2⟩
          rw [e1, e2]
          show ro_w X _ 177 _ 43 [(4, .ref (ro_sc v1)), (0, .ref 4), (1, .int v1), (2, .int v2), (3, .int v3)] [] (xm_178 M (ro_sc v1) v2 v3) (0, 0)
          refine rs_iconst (v := (1 : Int32)) ri_177_43 rfl (by decide) ?_
          refine rs_iret ri_177_44 rm_177.2.1 (by decide) ?_
          exact ⟨by unfold xf_177; first | (simp only [if_pos h1, if_pos h2, if_pos h3, if_pos h4]; done) | rfl, by unfold xm_177; first | (simp only [if_pos h1, if_pos h2, if_pos h3, if_pos h4]; done) | rfl⟩
        · have hp := hp.2 h4
          refine rs_bipush (v := (-14 : Int32)) ri_177_33 rfl (by decide) ?_
          refine rs_iret ri_177_35 rm_177.2.1 (by decide) ?_
          exact ⟨by unfold xf_177; first | (simp only [if_pos h1, if_pos h2, if_pos h3, if_neg h4]; done) | rfl, by unfold xm_177; first | (simp only [if_pos h1, if_pos h2, if_pos h3, if_neg h4]; done) | rfl⟩
      · have hp := hp.2 h3
        refine rs_iconst (v := (-1 : Int32)) ri_177_27 rfl (by decide) ?_
        refine rs_iret ri_177_28 rm_177.2.1 (by decide) ?_
        exact ⟨by unfold xf_177; first | (simp only [if_pos h1, if_pos h2, if_neg h3]; done) | rfl, by unfold xm_177; first | (simp only [if_pos h1, if_pos h2, if_neg h3]; done) | rfl⟩
  · have hp := hp.2 h1
    refine rs_virt (As := [.int v1]) (r := []) ri_177_2 rfl (by decide) rm_20.2.2.2 rm_20.2.2.1 rfl rfl rfl (by decide) (ro_kf (kd_4 hL)) (Nat.le_of_ble_eq_true rfl) (by decide) (by decide) (xs_20_f hL h1) ?_
    rintro _ _ ⟨e1, e2⟩
    rw [e1, e2]
    show ro_w X _ 177 _ 5 [(0, .ref 4), (1, .int v1), (2, .int v2), (3, .int v3)] [.null] M (0, 0)
    refine rs_astoreN (lv2 := [(4, .null), (0, .ref 4), (1, .int v1), (2, .int v2), (3, .int v3)]) ri_177_5 rfl rm_177.1 (by decide) rfl ?_
    refine rs_aloadN ri_177_7 rfl rfl ?_
    refine rs_ifnullN (t := 27) ri_177_9 rfl ?_
    refine rs_iconst (v := (-1 : Int32)) ri_177_27 rfl (by decide) ?_
    refine rs_iret ri_177_28 rm_177.2.1 (by decide) ?_
    exact ⟨by unfold xf_177; first | (simp only [if_neg h1]; done) | rfl, by unfold xm_177; first | (simp only [if_neg h1]; done) | rfl⟩
theorem xl_177 {M : ro_Mm} {v1 : Int32} {v2 : Int32} {v3 : Int32} (hL : ro_lay M) (hp : xp_177 M v1 v2 v3) : ro_lay (xm_177 M v1 v2 v3) := by
  unfold xp_177 at hp
  unfold xm_177
  by_cases hz : ro_bs v1
  · have hp := hp.1 hz
    rw [if_pos hz]
    by_cases hz : (xf_13 M v2 (0 : Int32) (4 : Int32))
    · have hp := hp.1 hz
      rw [if_pos hz]
      by_cases hz : v3 ≤ (60 : Int32)
      · have hp := hp.1 hz
        rw [if_pos hz]
        by_cases hz : (0 : Int32) ≤ v3
        · have hp := hp.1 hz
          rw [if_pos hz]
          obtain ⟨q4, hp⟩ := hp
          exact (xl_178 hL (ro_sc_is v1) q4)
        · have hp := hp.2 hz
          rw [if_neg hz]
          exact hL
      · have hp := hp.2 hz
        rw [if_neg hz]
        exact hL
    · have hp := hp.2 hz
      rw [if_neg hz]
      exact hL
  · have hp := hp.2 hz
    rw [if_neg hz]
    exact hL
theorem xwI_177 {M : ro_Mm} {v1 : Int32} {v2 : Int32} {v3 : Int32} {c j : Nat} (n0 : c ≠ (ro_sc v1)) : (xm_177 M v1 v2 v3).2.1 c j = M.2.1 c j := by
  unfold xm_177
  by_cases hz : ro_bs v1
  · rw [if_pos hz]
    by_cases hz : (xf_13 M v2 (0 : Int32) (4 : Int32))
    · rw [if_pos hz]
      by_cases hz : v3 ≤ (60 : Int32)
      · rw [if_pos hz]
        by_cases hz : (0 : Int32) ≤ v3
        · rw [if_pos hz]
          first | done | exact (xwI_178 n0)
        · rw [if_neg hz]
          first | done | exact rfl
      · rw [if_neg hz]
        first | done | exact rfl
    · rw [if_neg hz]
      first | done | exact rfl
  · rw [if_neg hz]
    first | done | exact rfl
theorem xwJ_177 {M : ro_Mm} {v1 : Int32} {v2 : Int32} {v3 : Int32} {c j : Nat} (n0 : c ≠ ((ro_sc v1) + 1)) : (xm_177 M v1 v2 v3).2.2.1 c j = M.2.2.1 c j := by
  unfold xm_177
  by_cases hz : ro_bs v1
  · rw [if_pos hz]
    by_cases hz : (xf_13 M v2 (0 : Int32) (4 : Int32))
    · rw [if_pos hz]
      by_cases hz : v3 ≤ (60 : Int32)
      · rw [if_pos hz]
        by_cases hz : (0 : Int32) ≤ v3
        · rw [if_pos hz]
          first | done | exact (xwJ_178 n0)
        · rw [if_neg hz]
          first | done | exact rfl
      · rw [if_neg hz]
        first | done | exact rfl
    · rw [if_neg hz]
      first | done | exact rfl
  · rw [if_neg hz]
    first | done | exact rfl
/-- RefusedOnce.taken(II)I -/
noncomputable def xf_187 (M : ro_Mm) (v1 : Int32) (v2 : Int32) : Int32 := (if ro_bs v1 then (if (xf_161 M v2) then (if (xf_21 M (ro_sc v1)) then (-11 : Int32) else (if (xf_180 M (ro_sc v1)) then (if (xf_189 M (-1 : Int32) v2) then (-1 : Int32) else (-12 : Int32)) else (if (xf_189 M (xf_166 M (xf_188 M (ro_sc v1))) v2) then (xf_166 M (xf_188 M (ro_sc v1))) else (-12 : Int32)))) else (-1 : Int32)) else (-1 : Int32))
def xp_187 (M : ro_Mm) (v1 : Int32) (v2 : Int32) : Prop := ((ro_bs v1 → (((xf_161 M v2) → (((xf_21 M (ro_sc v1)) → True) ∧ (¬ ((xf_21 M (ro_sc v1))) → (((xf_180 M (ro_sc v1)) → (xp_189 M (-1 : Int32) v2 ∧ True)) ∧ (¬ ((xf_180 M (ro_sc v1))) → (xp_189 M (xf_166 M (xf_188 M (ro_sc v1))) v2 ∧ True)))))) ∧ (¬ ((xf_161 M v2)) → True))) ∧ (¬ (ro_bs v1) → True))
/-- a loop of RefusedOnce$Land.allOf(I)I -/
noncomputable def xg_191_4 : Nat → ro_Mm → Int32 → Int32 → Int32 → Int32 × Int32
  | 0, M, v3, v2, v1 => (v3, v2)
  | n + 1, M, v3, v2, v1 => (if (M.2.1 5 4) ≤ v3 then (v3, v2) else (xg_191_4 n M (v3 + (1 : Int32)) (v2 + (xf_30 M v3 v1)) v1))
def xq_191_4 : Nat → ro_Mm → Int32 → Int32 → Int32 → Prop
  | 0, _, _, _, _ => False
  | n + 1, M, v3, v2, v1 => (((M.2.1 5 4) ≤ v3 → True) ∧ (¬ ((M.2.1 5 4) ≤ v3) → (xq_191_4 n M (v3 + (1 : Int32)) (v2 + (xf_30 M v3 v1)) v1)))
theorem xt_191_4 {X : ro_Sx} {post : ro_Po} : ∀ (n : Nat) {M : ro_Mm} {v3 : Int32} {v2 : Int32} {v1 : Int32} (hL : ro_lay M) (hp : xq_191_4 n M v3 v2 v1) (hk : ro_w X 2 191 post 27 [(3, .int (xg_191_4 n M v3 v2 v1).1), (2, .int (xg_191_4 n M v3 v2 v1).2), (0, .ref 5), (1, .int v1)] [] M (0, 0)), ro_w X 2 191 post 4 [(3, .int v3), (2, .int v2), (0, .ref 5), (1, .int v1)] [] M (0, 0) := by
  intro n
  induction n with
  | zero => intro M v3 v2 v1 hL hp hk; exact False.elim hp
  | succ n ih =>
    intro M v3 v2 v1 hL hp hk
    rw [xq_191_4] at hp
    refine rs_iload_n ri_191_4 rfl rfl ?_
    refine rs_aload_n ri_191_5 rfl rfl ?_
    refine rs_gf (v := .int (M.2.1 5 4)) ri_191_6 rfl (by decide) (ro_kf (kd_5 hL)) rfl rfl ?_
    refine rs_icmp_ge (t := 27) ri_191_9 rfl rfl (fun h1 => ?_) (fun h1 => ?_)
    · skip
      have e : xg_191_4 (n + 1) M v3 v2 v1 = (v3, v2) := by rw [xg_191_4]; first | (simp only [if_pos h1]; done) | rfl
      rw [e] at hk
      exact ro_w_lv (ro_sub_c rfl (ro_sub_c rfl (ro_sub_c rfl (ro_sub_c rfl (ro_sub_n rfl))))) hk
    · have hp := hp.2 h1
      refine rs_iload_n ri_191_12 rfl rfl ?_
      refine rs_aload_n ri_191_13 rfl rfl ?_
      refine rs_iload_n ri_191_14 rfl rfl ?_
      refine rs_iload_n ri_191_15 rfl rfl ?_
      refine rs_virt (As := [.int v3, .int v1]) (r := [.int v2]) ri_191_16 rfl (by decide) rm_30.2.2.2 rm_30.2.2.1 rfl rfl rfl (by decide) (ro_kf (kd_5 hL)) (Nat.le_of_ble_eq_true rfl) (by decide) (by decide) (xs_30 (X := X) hL) ?_
      rintro _ _ ⟨e1, e2⟩
      rw [e1, e2]
      show ro_w X _ 191 _ 19 [(3, .int v3), (2, .int v2), (0, .ref 5), (1, .int v1)] [.int (xf_30 M v3 v1), .int v2] M (0, 0)
      refine rs_iadd (r := (v2 + (xf_30 M v3 v1))) ri_191_19 rfl rfl ?_
      refine rs_istore_n (lv2 := [(2, .int (v2 + (xf_30 M v3 v1))), (3, .int v3), (0, .ref 5), (1, .int v1)]) ri_191_20 rfl rm_191.1 (by decide) rfl ?_
      refine rs_iinc (v := (v3 + (1 : Int32))) (lv2 := [(3, .int (v3 + (1 : Int32))), (2, .int (v2 + (xf_30 M v3 v1))), (0, .ref 5), (1, .int v1)]) ri_191_21 rfl rfl rfl rm_191.1 (by decide) rfl ?_
      refine rs_goto (t := 4) ri_191_24 rfl ?_
      have e : xg_191_4 (n + 1) M v3 v2 v1 = xg_191_4 n M (v3 + (1 : Int32)) (v2 + (xf_30 M v3 v1)) v1 := by rw [xg_191_4]; first | (simp only [if_neg h1]; done) | rfl
      rw [e] at hk
      exact ro_w_lv (ro_sub_c rfl (ro_sub_c rfl (ro_sub_c rfl (ro_sub_c rfl (ro_sub_n rfl))))) (ih hL  hp hk)
/-- RefusedOnce$Land.allOf(I)I -/
noncomputable def xf_191 (M : ro_Mm) (v1 : Int32) : Int32 := (xg_191_4 lp_N M (0 : Int32) (0 : Int32) v1).2
def xp_191 (M : ro_Mm) (v1 : Int32) : Prop := (xq_191_4 lp_N M (0 : Int32) (0 : Int32) v1 ∧ True)
theorem xs_191 {X : ro_Sx} {M : ro_Mm} {v1 : Int32} (hL : ro_lay M) (hp : xp_191 M v1) : ro_cwp X 3 191 [.ref 5, .int v1] M (fun v M2 => v = some (.int (xf_191 M v1)) ∧ M2 = M) := by
  refine rs_begin (lv0 := [(0, .ref 5), (1, .int v1)]) (by decide) rfl (by rw [rm_191.1]; exact Nat.le_of_ble_eq_true rfl) rfl ?_
  unfold xp_191 at hp
  refine rs_iconst (v := (0 : Int32)) ri_191_0 rfl (by decide) ?_
  refine rs_istore_n (lv2 := [(2, .int (0 : Int32)), (0, .ref 5), (1, .int v1)]) ri_191_1 rfl rm_191.1 (by decide) rfl ?_
  refine rs_iconst (v := (0 : Int32)) ri_191_2 rfl (by decide) ?_
  refine rs_istore_n (lv2 := [(3, .int (0 : Int32)), (2, .int (0 : Int32)), (0, .ref 5), (1, .int v1)]) ri_191_3 rfl rm_191.1 (by decide) rfl ?_
  obtain ⟨q1, hp⟩ := hp
  refine xt_191_4 lp_N hL q1 ?_
  refine rs_iload_n ri_191_27 rfl rfl ?_
  refine rs_iret ri_191_28 rm_191.2.1 (by decide) ?_
  exact ⟨by rfl, by rfl⟩
/-- a loop of RefusedOnceModel.people(III)I -/
noncomputable def xg_197_58 : Nat → ro_Mm → Int32 → Int32 → Int32 → Int32 → Bool × Int32 × Int32 × ro_Mm
  | 0, M, v4, v1, v2, v3 => (false, 0, v4, M)
  | n + 1, M, v4, v1, v2, v3 => (if v3 ≤ v4 then (false, 0, v4, M) else (if (lg_cmp ((v2.toInt64) + (((3 : Int32) * v4).toInt64)) (0 : Int64)) < (0 : Int32) then (true, v4, v4, M) else (if (0 : Int32) ≤ (lg_cmp (((v2.toInt64) + (((3 : Int32) * v4).toInt64)) + (2 : Int64)) ((M.2.1 191 (v1.toNatClampNeg)).toInt64)) then (true, v4, v4, M) else (if (M.2.1 163 1) = (6 : Int32) then (true, v4, v4, M) else (if (xf_195 M ((M.2.2.1 192 ((((60 : Int32) * v1) + (((v2.toInt64) + (((3 : Int32) * v4).toInt64)).toInt32)).toNatClampNeg)).toInt32) (0 : Int32) (20 : Int32)) then (if (xf_195 M ((M.2.2.1 192 (((((60 : Int32) * v1) + (((v2.toInt64) + (((3 : Int32) * v4).toInt64)).toInt32)) + (1 : Int32)).toNatClampNeg)).toInt32) (0 : Int32) (20 : Int32)) then (if (xf_195 M ((M.2.2.1 192 (((((60 : Int32) * v1) + (((v2.toInt64) + (((3 : Int32) * v4).toInt64)).toInt32)) + (2 : Int32)).toNatClampNeg)).toInt32) (0 : Int32) (12 : Int32)) then (xg_197_58 n (xm_196 M ((M.2.2.1 192 ((((60 : Int32) * v1) + (((v2.toInt64) + (((3 : Int32) * v4).toInt64)).toInt32)).toNatClampNeg)).toInt32) ((M.2.2.1 192 (((((60 : Int32) * v1) + (((v2.toInt64) + (((3 : Int32) * v4).toInt64)).toInt32)) + (1 : Int32)).toNatClampNeg)).toInt32) ((M.2.2.1 192 (((((60 : Int32) * v1) + (((v2.toInt64) + (((3 : Int32) * v4).toInt64)).toInt32)) + (2 : Int32)).toNatClampNeg)).toInt32)) (v4 + (1 : Int32)) v1 v2 v3) else (true, v4, v4, M)) else (true, v4, v4, M)) else (true, v4, v4, M))))))
def xq_197_58 : Nat → ro_Mm → Int32 → Int32 → Int32 → Int32 → Prop
  | 0, _, _, _, _, _ => False
  | n + 1, M, v4, v1, v2, v3 => ((v3 ≤ v4 → True) ∧ (¬ (v3 ≤ v4) → (((lg_cmp ((v2.toInt64) + (((3 : Int32) * v4).toInt64)) (0 : Int64)) < (0 : Int32) → True) ∧ (¬ ((lg_cmp ((v2.toInt64) + (((3 : Int32) * v4).toInt64)) (0 : Int64)) < (0 : Int32)) → (vp_in v1 6 ∧ (((0 : Int32) ≤ (lg_cmp (((v2.toInt64) + (((3 : Int32) * v4).toInt64)) + (2 : Int64)) ((M.2.1 191 (v1.toNatClampNeg)).toInt64)) → True) ∧ (¬ ((0 : Int32) ≤ (lg_cmp (((v2.toInt64) + (((3 : Int32) * v4).toInt64)) + (2 : Int64)) ((M.2.1 191 (v1.toNatClampNeg)).toInt64))) → (((M.2.1 163 1) = (6 : Int32) → True) ∧ (¬ ((M.2.1 163 1) = (6 : Int32)) → (vp_in (((60 : Int32) * v1) + (((v2.toInt64) + (((3 : Int32) * v4).toInt64)).toInt32)) 360 ∧ (((xf_195 M ((M.2.2.1 192 ((((60 : Int32) * v1) + (((v2.toInt64) + (((3 : Int32) * v4).toInt64)).toInt32)).toNatClampNeg)).toInt32) (0 : Int32) (20 : Int32)) → (vp_in ((((60 : Int32) * v1) + (((v2.toInt64) + (((3 : Int32) * v4).toInt64)).toInt32)) + (1 : Int32)) 360 ∧ (((xf_195 M ((M.2.2.1 192 (((((60 : Int32) * v1) + (((v2.toInt64) + (((3 : Int32) * v4).toInt64)).toInt32)) + (1 : Int32)).toNatClampNeg)).toInt32) (0 : Int32) (20 : Int32)) → (vp_in ((((60 : Int32) * v1) + (((v2.toInt64) + (((3 : Int32) * v4).toInt64)).toInt32)) + (2 : Int32)) 360 ∧ (((xf_195 M ((M.2.2.1 192 (((((60 : Int32) * v1) + (((v2.toInt64) + (((3 : Int32) * v4).toInt64)).toInt32)) + (2 : Int32)).toNatClampNeg)).toInt32) (0 : Int32) (12 : Int32)) → (vp_in (((60 : Int32) * v1) + (((v2.toInt64) + (((3 : Int32) * v4).toInt64)).toInt32)) 360 ∧ (vp_in ((((60 : Int32) * v1) + (((v2.toInt64) + (((3 : Int32) * v4).toInt64)).toInt32)) + (1 : Int32)) 360 ∧ (vp_in ((((60 : Int32) * v1) + (((v2.toInt64) + (((3 : Int32) * v4).toInt64)).toInt32)) + (2 : Int32)) 360 ∧ (xp_196 M ((M.2.2.1 192 ((((60 : Int32) * v1) + (((v2.toInt64) + (((3 : Int32) * v4).toInt64)).toInt32)).toNatClampNeg)).toInt32) ((M.2.2.1 192 (((((60 : Int32) * v1) + (((v2.toInt64) + (((3 : Int32) * v4).toInt64)).toInt32)) + (1 : Int32)).toNatClampNeg)).toInt32) ((M.2.2.1 192 (((((60 : Int32) * v1) + (((v2.toInt64) + (((3 : Int32) * v4).toInt64)).toInt32)) + (2 : Int32)).toNatClampNeg)).toInt32) ∧ (xq_197_58 n (xm_196 M ((M.2.2.1 192 ((((60 : Int32) * v1) + (((v2.toInt64) + (((3 : Int32) * v4).toInt64)).toInt32)).toNatClampNeg)).toInt32) ((M.2.2.1 192 (((((60 : Int32) * v1) + (((v2.toInt64) + (((3 : Int32) * v4).toInt64)).toInt32)) + (1 : Int32)).toNatClampNeg)).toInt32) ((M.2.2.1 192 (((((60 : Int32) * v1) + (((v2.toInt64) + (((3 : Int32) * v4).toInt64)).toInt32)) + (2 : Int32)).toNatClampNeg)).toInt32)) (v4 + (1 : Int32)) v1 v2 v3)))))) ∧ (¬ ((xf_195 M ((M.2.2.1 192 (((((60 : Int32) * v1) + (((v2.toInt64) + (((3 : Int32) * v4).toInt64)).toInt32)) + (2 : Int32)).toNatClampNeg)).toInt32) (0 : Int32) (12 : Int32))) → True)))) ∧ (¬ ((xf_195 M ((M.2.2.1 192 (((((60 : Int32) * v1) + (((v2.toInt64) + (((3 : Int32) * v4).toInt64)).toInt32)) + (1 : Int32)).toNatClampNeg)).toInt32) (0 : Int32) (20 : Int32))) → True)))) ∧ (¬ ((xf_195 M ((M.2.2.1 192 ((((60 : Int32) * v1) + (((v2.toInt64) + (((3 : Int32) * v4).toInt64)).toInt32)).toNatClampNeg)).toInt32) (0 : Int32) (20 : Int32))) → True))))))))))))
theorem xl_197_58 : ∀ (n : Nat) {M : ro_Mm} {v4 : Int32} {v1 : Int32} {v2 : Int32} {v3 : Int32} (hL : ro_lay M) (hp : xq_197_58 n M v4 v1 v2 v3), ro_lay (xg_197_58 n M v4 v1 v2 v3).2.2.2 := by
  intro n
  induction n with
  | zero => intro M v4 v1 v2 v3 hL hp; exact False.elim hp
  | succ n ih =>
    intro M v4 v1 v2 v3 hL hp
    rw [xq_197_58] at hp
    rw [xg_197_58]
    by_cases hz : v3 ≤ v4
    · have hp := hp.1 hz
      rw [if_pos hz]
      exact hL
    · have hp := hp.2 hz
      rw [if_neg hz]
      by_cases hz : (lg_cmp ((v2.toInt64) + (((3 : Int32) * v4).toInt64)) (0 : Int64)) < (0 : Int32)
      · have hp := hp.1 hz
        rw [if_pos hz]
        exact hL
      · have hp := hp.2 hz
        rw [if_neg hz]
        obtain ⟨q12, hp⟩ := hp
        by_cases hz : (0 : Int32) ≤ (lg_cmp (((v2.toInt64) + (((3 : Int32) * v4).toInt64)) + (2 : Int64)) ((M.2.1 191 (v1.toNatClampNeg)).toInt64))
        · have hp := hp.1 hz
          rw [if_pos hz]
          exact hL
        · have hp := hp.2 hz
          rw [if_neg hz]
          by_cases hz : (M.2.1 163 1) = (6 : Int32)
          · have hp := hp.1 hz
            rw [if_pos hz]
            exact hL
          · have hp := hp.2 hz
            rw [if_neg hz]
            obtain ⟨q15, hp⟩ := hp
            by_cases hz : (xf_195 M ((M.2.2.1 192 ((((60 : Int32) * v1) + (((v2.toInt64) + (((3 : Int32) * v4).toInt64)).toInt32)).toNatClampNeg)).toInt32) (0 : Int32) (20 : Int32))
            · have hp := hp.1 hz
              rw [if_pos hz]
              obtain ⟨q17, hp⟩ := hp
              by_cases hz : (xf_195 M ((M.2.2.1 192 (((((60 : Int32) * v1) + (((v2.toInt64) + (((3 : Int32) * v4).toInt64)).toInt32)) + (1 : Int32)).toNatClampNeg)).toInt32) (0 : Int32) (20 : Int32))
              · have hp := hp.1 hz
                rw [if_pos hz]
                obtain ⟨q19, hp⟩ := hp
                by_cases hz : (xf_195 M ((M.2.2.1 192 (((((60 : Int32) * v1) + (((v2.toInt64) + (((3 : Int32) * v4).toInt64)).toInt32)) + (2 : Int32)).toNatClampNeg)).toInt32) (0 : Int32) (12 : Int32))
                · have hp := hp.1 hz
                  rw [if_pos hz]
                  obtain ⟨q21, hp⟩ := hp
                  obtain ⟨q22, hp⟩ := hp
                  obtain ⟨q23, hp⟩ := hp
                  obtain ⟨q24, hp⟩ := hp
                  exact ih (xl_196 hL q24)  hp
                · have hp := hp.2 hz
                  rw [if_neg hz]
                  exact hL
              · have hp := hp.2 hz
                rw [if_neg hz]
                exact hL
            · have hp := hp.2 hz
              rw [if_neg hz]
              exact hL
theorem xwI_197_58 : ∀ {n : Nat} {M : ro_Mm} {v4 : Int32} {v1 : Int32} {v2 : Int32} {v3 : Int32} {c j : Nat} (n0 : c ≠ 164) (n1 : c ≠ 165) (n2 : c ≠ 166) (n3 : c ≠ 167) (n4 : c ≠ 163), (xg_197_58 n M v4 v1 v2 v3).2.2.2.2.1 c j = M.2.1 c j := by
  intro n
  induction n with
  | zero => intro M v4 v1 v2 v3 c j n0 n1 n2 n3 n4; rfl
  | succ n ih =>
    intro M v4 v1 v2 v3 c j n0 n1 n2 n3 n4
    rw [xg_197_58]
    by_cases hz : v3 ≤ v4
    · rw [if_pos hz]
      first | done | exact rfl
    · rw [if_neg hz]
      by_cases hz : (lg_cmp ((v2.toInt64) + (((3 : Int32) * v4).toInt64)) (0 : Int64)) < (0 : Int32)
      · rw [if_pos hz]
        first | done | exact rfl
      · rw [if_neg hz]
        by_cases hz : (0 : Int32) ≤ (lg_cmp (((v2.toInt64) + (((3 : Int32) * v4).toInt64)) + (2 : Int64)) ((M.2.1 191 (v1.toNatClampNeg)).toInt64))
        · rw [if_pos hz]
          first | done | exact rfl
        · rw [if_neg hz]
          by_cases hz : (M.2.1 163 1) = (6 : Int32)
          · rw [if_pos hz]
            first | done | exact rfl
          · rw [if_neg hz]
            by_cases hz : (xf_195 M ((M.2.2.1 192 ((((60 : Int32) * v1) + (((v2.toInt64) + (((3 : Int32) * v4).toInt64)).toInt32)).toNatClampNeg)).toInt32) (0 : Int32) (20 : Int32))
            · rw [if_pos hz]
              by_cases hz : (xf_195 M ((M.2.2.1 192 (((((60 : Int32) * v1) + (((v2.toInt64) + (((3 : Int32) * v4).toInt64)).toInt32)) + (1 : Int32)).toNatClampNeg)).toInt32) (0 : Int32) (20 : Int32))
              · rw [if_pos hz]
                by_cases hz : (xf_195 M ((M.2.2.1 192 (((((60 : Int32) * v1) + (((v2.toInt64) + (((3 : Int32) * v4).toInt64)).toInt32)) + (2 : Int32)).toNatClampNeg)).toInt32) (0 : Int32) (12 : Int32))
                · rw [if_pos hz]
                  first | done | exact (((ih n0 n1 n2 n3 n4)).trans (xwI_196 n0 n1 n2 n3 n4))
                · rw [if_neg hz]
                  first | done | exact rfl
              · rw [if_neg hz]
                first | done | exact rfl
            · rw [if_neg hz]
              first | done | exact rfl
theorem xwJ_197_58 : ∀ {n : Nat} {M : ro_Mm} {v4 : Int32} {v1 : Int32} {v2 : Int32} {v3 : Int32} {c j : Nat}, (xg_197_58 n M v4 v1 v2 v3).2.2.2.2.2.1 c j = M.2.2.1 c j := by
  intro n
  induction n with
  | zero => intro M v4 v1 v2 v3 c j; rfl
  | succ n ih =>
    intro M v4 v1 v2 v3 c j
    rw [xg_197_58]
    by_cases hz : v3 ≤ v4
    · rw [if_pos hz]
      first | done | exact rfl
    · rw [if_neg hz]
      by_cases hz : (lg_cmp ((v2.toInt64) + (((3 : Int32) * v4).toInt64)) (0 : Int64)) < (0 : Int32)
      · rw [if_pos hz]
        first | done | exact rfl
      · rw [if_neg hz]
        by_cases hz : (0 : Int32) ≤ (lg_cmp (((v2.toInt64) + (((3 : Int32) * v4).toInt64)) + (2 : Int64)) ((M.2.1 191 (v1.toNatClampNeg)).toInt64))
        · rw [if_pos hz]
          first | done | exact rfl
        · rw [if_neg hz]
          by_cases hz : (M.2.1 163 1) = (6 : Int32)
          · rw [if_pos hz]
            first | done | exact rfl
          · rw [if_neg hz]
            by_cases hz : (xf_195 M ((M.2.2.1 192 ((((60 : Int32) * v1) + (((v2.toInt64) + (((3 : Int32) * v4).toInt64)).toInt32)).toNatClampNeg)).toInt32) (0 : Int32) (20 : Int32))
            · rw [if_pos hz]
              by_cases hz : (xf_195 M ((M.2.2.1 192 (((((60 : Int32) * v1) + (((v2.toInt64) + (((3 : Int32) * v4).toInt64)).toInt32)) + (1 : Int32)).toNatClampNeg)).toInt32) (0 : Int32) (20 : Int32))
              · rw [if_pos hz]
                by_cases hz : (xf_195 M ((M.2.2.1 192 (((((60 : Int32) * v1) + (((v2.toInt64) + (((3 : Int32) * v4).toInt64)).toInt32)) + (2 : Int32)).toNatClampNeg)).toInt32) (0 : Int32) (12 : Int32))
                · rw [if_pos hz]
                  first | done | exact (((ih)).trans (xwJ_196))
                · rw [if_neg hz]
                  first | done | exact rfl
              · rw [if_neg hz]
                first | done | exact rfl
            · rw [if_neg hz]
              first | done | exact rfl
/-- RefusedOnceModel.people(III)I -/
noncomputable def xf_197 (M : ro_Mm) (v1 : Int32) (v2 : Int32) (v3 : Int32) : Int32 := (if (xf_198 M v1) then (if (xf_195 M v3 (1 : Int32) (6 : Int32)) then (if (M.2.1 190 (v1.toNatClampNeg)) = (-1 : Int32) then (0 : Int32) else (if (M.2.1 190 (v1.toNatClampNeg)) = (-2 : Int32) then (if (xg_197_58 lp_N M (0 : Int32) v1 v2 v3).1 = true then (xg_197_58 lp_N M (0 : Int32) v1 v2 v3).2.1 else v3) else (-12 : Int32))) else (-1 : Int32)) else (-1 : Int32))
noncomputable def xm_197 (M : ro_Mm) (v1 : Int32) (v2 : Int32) (v3 : Int32) : ro_Mm := (if (xf_198 M v1) then (if (xf_195 M v3 (1 : Int32) (6 : Int32)) then (if (M.2.1 190 (v1.toNatClampNeg)) = (-1 : Int32) then M else (if (M.2.1 190 (v1.toNatClampNeg)) = (-2 : Int32) then (xg_197_58 lp_N M (0 : Int32) v1 v2 v3).2.2.2 else M)) else M) else M)
def xp_197 (M : ro_Mm) (v1 : Int32) (v2 : Int32) (v3 : Int32) : Prop := (((xf_198 M v1) → (((xf_195 M v3 (1 : Int32) (6 : Int32)) → (vp_in v1 6 ∧ (((M.2.1 190 (v1.toNatClampNeg)) = (-1 : Int32) → (vp_in v1 6 ∧ True)) ∧ (¬ ((M.2.1 190 (v1.toNatClampNeg)) = (-1 : Int32)) → (vp_in v1 6 ∧ (((M.2.1 190 (v1.toNatClampNeg)) = (-2 : Int32) → (vp_in v1 6 ∧ (xq_197_58 lp_N M (0 : Int32) v1 v2 v3 ∧ True))) ∧ (¬ ((M.2.1 190 (v1.toNatClampNeg)) = (-2 : Int32)) → True))))))) ∧ (¬ ((xf_195 M v3 (1 : Int32) (6 : Int32))) → True))) ∧ (¬ ((xf_198 M v1)) → True))
theorem xl_197 {M : ro_Mm} {v1 : Int32} {v2 : Int32} {v3 : Int32} (hL : ro_lay M) (hp : xp_197 M v1 v2 v3) : ro_lay (xm_197 M v1 v2 v3) := by
  unfold xp_197 at hp
  unfold xm_197
  by_cases hz : (xf_198 M v1)
  · have hp := hp.1 hz
    rw [if_pos hz]
    by_cases hz : (xf_195 M v3 (1 : Int32) (6 : Int32))
    · have hp := hp.1 hz
      rw [if_pos hz]
      obtain ⟨q2, hp⟩ := hp
      by_cases hz : (M.2.1 190 (v1.toNatClampNeg)) = (-1 : Int32)
      · have hp := hp.1 hz
        rw [if_pos hz]
        obtain ⟨q4, hp⟩ := hp
        exact hL
      · have hp := hp.2 hz
        rw [if_neg hz]
        obtain ⟨q6, hp⟩ := hp
        by_cases hz : (M.2.1 190 (v1.toNatClampNeg)) = (-2 : Int32)
        · have hp := hp.1 hz
          rw [if_pos hz]
          obtain ⟨q8, hp⟩ := hp
          obtain ⟨q25, hp⟩ := hp
          by_cases hz : (xg_197_58 lp_N M (0 : Int32) v1 v2 v3).1 = true
          · skip
            exact (xl_197_58 lp_N hL q25)
          · skip
            exact (xl_197_58 lp_N hL q25)
        · have hp := hp.2 hz
          rw [if_neg hz]
          exact hL
    · have hp := hp.2 hz
      rw [if_neg hz]
      exact hL
  · have hp := hp.2 hz
    rw [if_neg hz]
    exact hL
theorem xwI_197 {M : ro_Mm} {v1 : Int32} {v2 : Int32} {v3 : Int32} {c j : Nat} (n0 : c ≠ 164) (n1 : c ≠ 165) (n2 : c ≠ 166) (n3 : c ≠ 167) (n4 : c ≠ 163) : (xm_197 M v1 v2 v3).2.1 c j = M.2.1 c j := by
  unfold xm_197
  by_cases hz : (xf_198 M v1)
  · rw [if_pos hz]
    by_cases hz : (xf_195 M v3 (1 : Int32) (6 : Int32))
    · rw [if_pos hz]
      by_cases hz : (M.2.1 190 (v1.toNatClampNeg)) = (-1 : Int32)
      · rw [if_pos hz]
        first | done | exact rfl
      · rw [if_neg hz]
        by_cases hz : (M.2.1 190 (v1.toNatClampNeg)) = (-2 : Int32)
        · rw [if_pos hz]
          first | done | exact (xwI_197_58 n0 n1 n2 n3 n4)
        · rw [if_neg hz]
          first | done | exact rfl
    · rw [if_neg hz]
      first | done | exact rfl
  · rw [if_neg hz]
    first | done | exact rfl
theorem xwJ_197 {M : ro_Mm} {v1 : Int32} {v2 : Int32} {v3 : Int32} {c j : Nat} : (xm_197 M v1 v2 v3).2.2.1 c j = M.2.2.1 c j := by
  unfold xm_197
  by_cases hz : (xf_198 M v1)
  · rw [if_pos hz]
    by_cases hz : (xf_195 M v3 (1 : Int32) (6 : Int32))
    · rw [if_pos hz]
      by_cases hz : (M.2.1 190 (v1.toNatClampNeg)) = (-1 : Int32)
      · rw [if_pos hz]
        first | done | exact rfl
      · rw [if_neg hz]
        by_cases hz : (M.2.1 190 (v1.toNatClampNeg)) = (-2 : Int32)
        · rw [if_pos hz]
          first | done | exact (xwJ_197_58)
        · rw [if_neg hz]
          first | done | exact rfl
    · rw [if_neg hz]
      first | done | exact rfl
  · rw [if_neg hz]
    first | done | exact rfl
/-- a loop of RefusedOnceModel.changes(III)I -/
noncomputable def xg_206_34 : Nat → ro_Mm → Int32 → Int32 → Int32 → Int32 → Int32 → Int32 × ro_Mm
  | 0, M, v5, v4, v1, v2, v3 => (v5, M)
  | n + 1, M, v5, v4, v1, v2, v3 => (if (40 : Int32) ≤ v5 then (v5, M) else (xg_206_34 n (ro_sI (ro_sI (ro_sI (ro_sI M 169 ((v5 - (1 : Int32)).toNatClampNeg) (M.2.1 169 (v5.toNatClampNeg))) 170 ((v5 - (1 : Int32)).toNatClampNeg) (M.2.1 170 (v5.toNatClampNeg))) 171 ((v5 - (1 : Int32)).toNatClampNeg) (M.2.1 171 (v5.toNatClampNeg))) 172 ((v5 - (1 : Int32)).toNatClampNeg) (M.2.1 172 (v5.toNatClampNeg))) (v5 + (1 : Int32)) v4 v1 v2 v3))
def xq_206_34 : Nat → ro_Mm → Int32 → Int32 → Int32 → Int32 → Int32 → Prop
  | 0, _, _, _, _, _, _ => False
  | n + 1, M, v5, v4, v1, v2, v3 => (((40 : Int32) ≤ v5 → True) ∧ (¬ ((40 : Int32) ≤ v5) → (vp_in v5 40 ∧ (vp_in (v5 - (1 : Int32)) 40 ∧ (vp_in v5 40 ∧ (vp_in (v5 - (1 : Int32)) 40 ∧ (vp_in v5 40 ∧ (vp_in (v5 - (1 : Int32)) 40 ∧ (vp_in v5 40 ∧ (vp_in (v5 - (1 : Int32)) 40 ∧ (xq_206_34 n (ro_sI (ro_sI (ro_sI (ro_sI M 169 ((v5 - (1 : Int32)).toNatClampNeg) (M.2.1 169 (v5.toNatClampNeg))) 170 ((v5 - (1 : Int32)).toNatClampNeg) (M.2.1 170 (v5.toNatClampNeg))) 171 ((v5 - (1 : Int32)).toNatClampNeg) (M.2.1 171 (v5.toNatClampNeg))) 172 ((v5 - (1 : Int32)).toNatClampNeg) (M.2.1 172 (v5.toNatClampNeg))) (v5 + (1 : Int32)) v4 v1 v2 v3)))))))))))
theorem xl_206_34 : ∀ (n : Nat) {M : ro_Mm} {v5 : Int32} {v4 : Int32} {v1 : Int32} {v2 : Int32} {v3 : Int32} (hL : ro_lay M) (hp : xq_206_34 n M v5 v4 v1 v2 v3), ro_lay (xg_206_34 n M v5 v4 v1 v2 v3).2 := by
  intro n
  induction n with
  | zero => intro M v5 v4 v1 v2 v3 hL hp; exact False.elim hp
  | succ n ih =>
    intro M v5 v4 v1 v2 v3 hL hp
    rw [xq_206_34] at hp
    rw [xg_206_34]
    by_cases hz : (40 : Int32) ≤ v5
    · have hp := hp.1 hz
      rw [if_pos hz]
      exact hL
    · have hp := hp.2 hz
      rw [if_neg hz]
      obtain ⟨q9, hp⟩ := hp
      obtain ⟨q10, hp⟩ := hp
      obtain ⟨q11, hp⟩ := hp
      obtain ⟨q12, hp⟩ := hp
      obtain ⟨q13, hp⟩ := hp
      obtain ⟨q14, hp⟩ := hp
      obtain ⟨q15, hp⟩ := hp
      obtain ⟨q16, hp⟩ := hp
      exact ih hL  hp
theorem xwI_206_34 : ∀ {n : Nat} {M : ro_Mm} {v5 : Int32} {v4 : Int32} {v1 : Int32} {v2 : Int32} {v3 : Int32} {c j : Nat} (n0 : c ≠ 169) (n1 : c ≠ 170) (n2 : c ≠ 171) (n3 : c ≠ 172), (xg_206_34 n M v5 v4 v1 v2 v3).2.2.1 c j = M.2.1 c j := by
  intro n
  induction n with
  | zero => intro M v5 v4 v1 v2 v3 c j n0 n1 n2 n3; rfl
  | succ n ih =>
    intro M v5 v4 v1 v2 v3 c j n0 n1 n2 n3
    rw [xg_206_34]
    by_cases hz : (40 : Int32) ≤ v5
    · rw [if_pos hz]
      first | done | exact rfl
    · rw [if_neg hz]
      first | done | exact ((((((ih n0 n1 n2 n3)).trans (ro_sI_ne n3)).trans (ro_sI_ne n2)).trans (ro_sI_ne n1)).trans (ro_sI_ne n0))
theorem xwJ_206_34 : ∀ {n : Nat} {M : ro_Mm} {v5 : Int32} {v4 : Int32} {v1 : Int32} {v2 : Int32} {v3 : Int32} {c j : Nat}, (xg_206_34 n M v5 v4 v1 v2 v3).2.2.2.1 c j = M.2.2.1 c j := by
  intro n
  induction n with
  | zero => intro M v5 v4 v1 v2 v3 c j; rfl
  | succ n ih =>
    intro M v5 v4 v1 v2 v3 c j
    rw [xg_206_34]
    by_cases hz : (40 : Int32) ≤ v5
    · rw [if_pos hz]
      first | done | exact rfl
    · rw [if_neg hz]
      first | done | exact ((((((ih)).trans (congrFun (congrFun ro_sI_J _) _)).trans (congrFun (congrFun ro_sI_J _) _)).trans (congrFun (congrFun ro_sI_J _) _)).trans (congrFun (congrFun ro_sI_J _) _))
/-- RefusedOnceModel.changes(III)I -/
noncomputable def xf_206 (M : ro_Mm) (v1 : Int32) (v2 : Int32) (v3 : Int32) : Int32 := (xf_207 M v1 v2)
noncomputable def xm_206 (M : ro_Mm) (v1 : Int32) (v2 : Int32) (v3 : Int32) : ro_Mm := (if (xf_207 M v1 v2) = v3 then M else (if (M.2.1 163 7) = (40 : Int32) then (xm_200 (ro_sI (ro_sI (ro_sI (ro_sI (ro_sI (ro_sI (xg_206_34 lp_N (ro_sI M 163 8 (0 : Int32)) (1 : Int32) (xf_207 M v1 v2) v1 v2 v3).2 163 7 ((M.2.1 163 7) - (1 : Int32))) 169 (((M.2.1 163 7) - (1 : Int32)).toNatClampNeg) v1) 170 (((M.2.1 163 7) - (1 : Int32)).toNatClampNeg) v2) 171 (((M.2.1 163 7) - (1 : Int32)).toNatClampNeg) (xf_207 M v1 v2)) 172 (((M.2.1 163 7) - (1 : Int32)).toNatClampNeg) v3) 163 7 (((M.2.1 163 7) - (1 : Int32)) + (1 : Int32))) v1 v2 v3) else (xm_200 (ro_sI (ro_sI (ro_sI (ro_sI (ro_sI (ro_sI M 163 8 (0 : Int32)) 169 ((M.2.1 163 7).toNatClampNeg) v1) 170 ((M.2.1 163 7).toNatClampNeg) v2) 171 ((M.2.1 163 7).toNatClampNeg) (xf_207 M v1 v2)) 172 ((M.2.1 163 7).toNatClampNeg) v3) 163 7 ((M.2.1 163 7) + (1 : Int32))) v1 v2 v3)))
def xp_206 (M : ro_Mm) (v1 : Int32) (v2 : Int32) (v3 : Int32) : Prop := (xp_207 M v1 v2 ∧ (((xf_207 M v1 v2) = v3 → True) ∧ (¬ ((xf_207 M v1 v2) = v3) → (((M.2.1 163 7) = (40 : Int32) → (xq_206_34 lp_N (ro_sI M 163 8 (0 : Int32)) (1 : Int32) (xf_207 M v1 v2) v1 v2 v3 ∧ (vp_in ((M.2.1 163 7) - (1 : Int32)) 40 ∧ (vp_in ((M.2.1 163 7) - (1 : Int32)) 40 ∧ (vp_in ((M.2.1 163 7) - (1 : Int32)) 40 ∧ (vp_in ((M.2.1 163 7) - (1 : Int32)) 40 ∧ (xp_200 (ro_sI (ro_sI (ro_sI (ro_sI (ro_sI (ro_sI (xg_206_34 lp_N (ro_sI M 163 8 (0 : Int32)) (1 : Int32) (xf_207 M v1 v2) v1 v2 v3).2 163 7 ((M.2.1 163 7) - (1 : Int32))) 169 (((M.2.1 163 7) - (1 : Int32)).toNatClampNeg) v1) 170 (((M.2.1 163 7) - (1 : Int32)).toNatClampNeg) v2) 171 (((M.2.1 163 7) - (1 : Int32)).toNatClampNeg) (xf_207 M v1 v2)) 172 (((M.2.1 163 7) - (1 : Int32)).toNatClampNeg) v3) 163 7 (((M.2.1 163 7) - (1 : Int32)) + (1 : Int32))) v1 v2 v3 ∧ True))))))) ∧ (¬ ((M.2.1 163 7) = (40 : Int32)) → (vp_in (M.2.1 163 7) 40 ∧ (vp_in (M.2.1 163 7) 40 ∧ (vp_in (M.2.1 163 7) 40 ∧ (vp_in (M.2.1 163 7) 40 ∧ (xp_200 (ro_sI (ro_sI (ro_sI (ro_sI (ro_sI (ro_sI M 163 8 (0 : Int32)) 169 ((M.2.1 163 7).toNatClampNeg) v1) 170 ((M.2.1 163 7).toNatClampNeg) v2) 171 ((M.2.1 163 7).toNatClampNeg) (xf_207 M v1 v2)) 172 ((M.2.1 163 7).toNatClampNeg) v3) 163 7 ((M.2.1 163 7) + (1 : Int32))) v1 v2 v3 ∧ True))))))))))
theorem xl_206 {M : ro_Mm} {v1 : Int32} {v2 : Int32} {v3 : Int32} (hL : ro_lay M) (hp : xp_206 M v1 v2 v3) : ro_lay (xm_206 M v1 v2 v3) := by
  unfold xp_206 at hp
  unfold xm_206
  obtain ⟨q0, hp⟩ := hp
  by_cases hz : (xf_207 M v1 v2) = v3
  · have hp := hp.1 hz
    rw [if_pos hz]
    exact hL
  · have hp := hp.2 hz
    rw [if_neg hz]
    by_cases hz : (M.2.1 163 7) = (40 : Int32)
    · have hp := hp.1 hz
      rw [if_pos hz]
      obtain ⟨q17, hp⟩ := hp
      obtain ⟨q18, hp⟩ := hp
      obtain ⟨q19, hp⟩ := hp
      obtain ⟨q20, hp⟩ := hp
      obtain ⟨q21, hp⟩ := hp
      obtain ⟨q22, hp⟩ := hp
      exact (xl_200 (xl_206_34 lp_N hL q17) q22)
    · have hp := hp.2 hz
      rw [if_neg hz]
      obtain ⟨q3, hp⟩ := hp
      obtain ⟨q4, hp⟩ := hp
      obtain ⟨q5, hp⟩ := hp
      obtain ⟨q6, hp⟩ := hp
      obtain ⟨q7, hp⟩ := hp
      exact (xl_200 hL q7)
theorem xwI_206 {M : ro_Mm} {v1 : Int32} {v2 : Int32} {v3 : Int32} {c j : Nat} (n0 : c ≠ 163) (n1 : c ≠ 169) (n2 : c ≠ 170) (n3 : c ≠ 171) (n4 : c ≠ 172) (n5 : c ≠ 164) (n6 : c ≠ 165) (n7 : c ≠ 166) (n8 : c ≠ 167) (n9 : c ≠ 168) : (xm_206 M v1 v2 v3).2.1 c j = M.2.1 c j := by
  unfold xm_206
  by_cases hz : (xf_207 M v1 v2) = v3
  · rw [if_pos hz]
    first | done | exact rfl
  · rw [if_neg hz]
    by_cases hz : (M.2.1 163 7) = (40 : Int32)
    · rw [if_pos hz]
      first | done | exact ((((((((((xwI_200 n5 n6 n7 n8 n9)).trans (ro_sI_ne n0)).trans (ro_sI_ne n4)).trans (ro_sI_ne n3)).trans (ro_sI_ne n2)).trans (ro_sI_ne n1)).trans (ro_sI_ne n0)).trans (xwI_206_34 n1 n2 n3 n4)).trans (ro_sI_ne n0))
    · rw [if_neg hz]
      first | done | exact ((((((((xwI_200 n5 n6 n7 n8 n9)).trans (ro_sI_ne n0)).trans (ro_sI_ne n4)).trans (ro_sI_ne n3)).trans (ro_sI_ne n2)).trans (ro_sI_ne n1)).trans (ro_sI_ne n0))
theorem xwJ_206 {M : ro_Mm} {v1 : Int32} {v2 : Int32} {v3 : Int32} {c j : Nat} : (xm_206 M v1 v2 v3).2.2.1 c j = M.2.2.1 c j := by
  unfold xm_206
  by_cases hz : (xf_207 M v1 v2) = v3
  · rw [if_pos hz]
    first | done | exact rfl
  · rw [if_neg hz]
    by_cases hz : (M.2.1 163 7) = (40 : Int32)
    · rw [if_pos hz]
      first | done | exact ((((((((((xwJ_200)).trans (congrFun (congrFun ro_sI_J _) _)).trans (congrFun (congrFun ro_sI_J _) _)).trans (congrFun (congrFun ro_sI_J _) _)).trans (congrFun (congrFun ro_sI_J _) _)).trans (congrFun (congrFun ro_sI_J _) _)).trans (congrFun (congrFun ro_sI_J _) _)).trans (xwJ_206_34)).trans (congrFun (congrFun ro_sI_J _) _))
    · rw [if_neg hz]
      first | done | exact ((((((((xwJ_200)).trans (congrFun (congrFun ro_sI_J _) _)).trans (congrFun (congrFun ro_sI_J _) _)).trans (congrFun (congrFun ro_sI_J _) _)).trans (congrFun (congrFun ro_sI_J _) _)).trans (congrFun (congrFun ro_sI_J _) _)).trans (congrFun (congrFun ro_sI_J _) _))
/-- a loop of RefusedOnceModel.worked(III)I -/
noncomputable def xg_231_12 : Nat → ro_Mm → Int32 → Int32 → Int32 → Int32 → Int32 → Int32 × Int32 × ro_Mm
  | 0, M, v5, v4, v1, v2, v3 => (v5, v4, M)
  | n + 1, M, v5, v4, v1, v2, v3 => (if (((130 : Int32) * v1) + v3) ≤ v5 then (v5, v4, M) else (if (M.2.1 174 (v5.toNatClampNeg)) = (1 : Int32) then (xg_231_12 n (ro_sI M 180 (v4.toNatClampNeg) (M.2.1 175 (v5.toNatClampNeg))) (v5 + (1 : Int32)) (v4 + (1 : Int32)) v1 v2 v3) else (if (M.2.1 174 (v5.toNatClampNeg)) = (2 : Int32) then (xg_231_12 n (ro_sI M 180 (v4.toNatClampNeg) (M.2.1 179 ((M.2.1 175 (v5.toNatClampNeg)).toNatClampNeg))) (v5 + (1 : Int32)) (v4 + (1 : Int32)) v1 v2 v3) else (if (M.2.1 174 (v5.toNatClampNeg)) = (3 : Int32) then (if (M.2.1 180 ((v4 - (1 : Int32)).toNatClampNeg)) = (0 : Int32) then (xg_231_12 n (ro_sI M 180 ((v4 - (1 : Int32)).toNatClampNeg) (1 : Int32)) (v5 + (1 : Int32)) v4 v1 v2 v3) else (xg_231_12 n (ro_sI M 180 ((v4 - (1 : Int32)).toNatClampNeg) (0 : Int32)) (v5 + (1 : Int32)) v4 v1 v2 v3)) else (if (M.2.1 174 (v5.toNatClampNeg)) = (4 : Int32) then (xg_231_12 n (ro_sI M 180 ((v4 - (1 : Int32)).toNatClampNeg) (-(M.2.1 180 ((v4 - (1 : Int32)).toNatClampNeg)))) (v5 + (1 : Int32)) v4 v1 v2 v3) else (xg_231_12 n (ro_sI M 180 (((v4 + (-1 : Int32)) - (1 : Int32)).toNatClampNeg) (xf_232 M (M.2.1 174 (v5.toNatClampNeg)) (M.2.1 180 (((v4 + (-1 : Int32)) - (1 : Int32)).toNatClampNeg)) (M.2.1 180 ((v4 + (-1 : Int32)).toNatClampNeg)))) (v5 + (1 : Int32)) (v4 + (-1 : Int32)) v1 v2 v3))))))
def xq_231_12 : Nat → ro_Mm → Int32 → Int32 → Int32 → Int32 → Int32 → Prop
  | 0, _, _, _, _, _, _ => False
  | n + 1, M, v5, v4, v1, v2, v3 => (((((130 : Int32) * v1) + v3) ≤ v5 → True) ∧ (¬ ((((130 : Int32) * v1) + v3) ≤ v5) → (vp_in v5 260 ∧ (((M.2.1 174 (v5.toNatClampNeg)) = (1 : Int32) → (vp_in v5 260 ∧ (vp_in v4 130 ∧ (xq_231_12 n (ro_sI M 180 (v4.toNatClampNeg) (M.2.1 175 (v5.toNatClampNeg))) (v5 + (1 : Int32)) (v4 + (1 : Int32)) v1 v2 v3)))) ∧ (¬ ((M.2.1 174 (v5.toNatClampNeg)) = (1 : Int32)) → (((M.2.1 174 (v5.toNatClampNeg)) = (2 : Int32) → (vp_in v5 260 ∧ (vp_in (M.2.1 175 (v5.toNatClampNeg)) 6 ∧ (vp_in v4 130 ∧ (xq_231_12 n (ro_sI M 180 (v4.toNatClampNeg) (M.2.1 179 ((M.2.1 175 (v5.toNatClampNeg)).toNatClampNeg))) (v5 + (1 : Int32)) (v4 + (1 : Int32)) v1 v2 v3))))) ∧ (¬ ((M.2.1 174 (v5.toNatClampNeg)) = (2 : Int32)) → (((M.2.1 174 (v5.toNatClampNeg)) = (3 : Int32) → (vp_in (v4 - (1 : Int32)) 130 ∧ (((M.2.1 180 ((v4 - (1 : Int32)).toNatClampNeg)) = (0 : Int32) → (vp_in (v4 - (1 : Int32)) 130 ∧ (xq_231_12 n (ro_sI M 180 ((v4 - (1 : Int32)).toNatClampNeg) (1 : Int32)) (v5 + (1 : Int32)) v4 v1 v2 v3))) ∧ (¬ ((M.2.1 180 ((v4 - (1 : Int32)).toNatClampNeg)) = (0 : Int32)) → (vp_in (v4 - (1 : Int32)) 130 ∧ (xq_231_12 n (ro_sI M 180 ((v4 - (1 : Int32)).toNatClampNeg) (0 : Int32)) (v5 + (1 : Int32)) v4 v1 v2 v3)))))) ∧ (¬ ((M.2.1 174 (v5.toNatClampNeg)) = (3 : Int32)) → (((M.2.1 174 (v5.toNatClampNeg)) = (4 : Int32) → (vp_in (v4 - (1 : Int32)) 130 ∧ (vp_in (v4 - (1 : Int32)) 130 ∧ (xq_231_12 n (ro_sI M 180 ((v4 - (1 : Int32)).toNatClampNeg) (-(M.2.1 180 ((v4 - (1 : Int32)).toNatClampNeg)))) (v5 + (1 : Int32)) v4 v1 v2 v3)))) ∧ (¬ ((M.2.1 174 (v5.toNatClampNeg)) = (4 : Int32)) → (vp_in ((v4 + (-1 : Int32)) - (1 : Int32)) 130 ∧ (vp_in (v4 + (-1 : Int32)) 130 ∧ (vp_in ((v4 + (-1 : Int32)) - (1 : Int32)) 130 ∧ (xq_231_12 n (ro_sI M 180 (((v4 + (-1 : Int32)) - (1 : Int32)).toNatClampNeg) (xf_232 M (M.2.1 174 (v5.toNatClampNeg)) (M.2.1 180 (((v4 + (-1 : Int32)) - (1 : Int32)).toNatClampNeg)) (M.2.1 180 ((v4 + (-1 : Int32)).toNatClampNeg)))) (v5 + (1 : Int32)) (v4 + (-1 : Int32)) v1 v2 v3)))))))))))))))
theorem xl_231_12 : ∀ (n : Nat) {M : ro_Mm} {v5 : Int32} {v4 : Int32} {v1 : Int32} {v2 : Int32} {v3 : Int32} (hL : ro_lay M) (hp : xq_231_12 n M v5 v4 v1 v2 v3), ro_lay (xg_231_12 n M v5 v4 v1 v2 v3).2.2 := by
  intro n
  induction n with
  | zero => intro M v5 v4 v1 v2 v3 hL hp; exact False.elim hp
  | succ n ih =>
    intro M v5 v4 v1 v2 v3 hL hp
    rw [xq_231_12] at hp
    rw [xg_231_12]
    by_cases hz : (((130 : Int32) * v1) + v3) ≤ v5
    · have hp := hp.1 hz
      rw [if_pos hz]
      exact hL
    · have hp := hp.2 hz
      rw [if_neg hz]
      obtain ⟨q1, hp⟩ := hp
      by_cases hz : (M.2.1 174 (v5.toNatClampNeg)) = (1 : Int32)
      · have hp := hp.1 hz
        rw [if_pos hz]
        obtain ⟨q4, hp⟩ := hp
        obtain ⟨q5, hp⟩ := hp
        exact ih hL  hp
      · have hp := hp.2 hz
        rw [if_neg hz]
        by_cases hz : (M.2.1 174 (v5.toNatClampNeg)) = (2 : Int32)
        · have hp := hp.1 hz
          rw [if_pos hz]
          obtain ⟨q19, hp⟩ := hp
          obtain ⟨q20, hp⟩ := hp
          obtain ⟨q21, hp⟩ := hp
          exact ih hL  hp
        · have hp := hp.2 hz
          rw [if_neg hz]
          by_cases hz : (M.2.1 174 (v5.toNatClampNeg)) = (3 : Int32)
          · have hp := hp.1 hz
            rw [if_pos hz]
            obtain ⟨q14, hp⟩ := hp
            by_cases hz : (M.2.1 180 ((v4 - (1 : Int32)).toNatClampNeg)) = (0 : Int32)
            · have hp := hp.1 hz
              rw [if_pos hz]
              obtain ⟨q17, hp⟩ := hp
              exact ih hL  hp
            · have hp := hp.2 hz
              rw [if_neg hz]
              obtain ⟨q16, hp⟩ := hp
              exact ih hL  hp
          · have hp := hp.2 hz
            rw [if_neg hz]
            by_cases hz : (M.2.1 174 (v5.toNatClampNeg)) = (4 : Int32)
            · have hp := hp.1 hz
              rw [if_pos hz]
              obtain ⟨q12, hp⟩ := hp
              obtain ⟨q13, hp⟩ := hp
              exact ih hL  hp
            · have hp := hp.2 hz
              rw [if_neg hz]
              obtain ⟨q9, hp⟩ := hp
              obtain ⟨q10, hp⟩ := hp
              obtain ⟨q11, hp⟩ := hp
              exact ih hL  hp
theorem xwI_231_12 : ∀ {n : Nat} {M : ro_Mm} {v5 : Int32} {v4 : Int32} {v1 : Int32} {v2 : Int32} {v3 : Int32} {c j : Nat} (n0 : c ≠ 180), (xg_231_12 n M v5 v4 v1 v2 v3).2.2.2.1 c j = M.2.1 c j := by
  intro n
  induction n with
  | zero => intro M v5 v4 v1 v2 v3 c j n0; rfl
  | succ n ih =>
    intro M v5 v4 v1 v2 v3 c j n0
    rw [xg_231_12]
    by_cases hz : (((130 : Int32) * v1) + v3) ≤ v5
    · rw [if_pos hz]
      first | done | exact rfl
    · rw [if_neg hz]
      by_cases hz : (M.2.1 174 (v5.toNatClampNeg)) = (1 : Int32)
      · rw [if_pos hz]
        first | done | exact (((ih n0)).trans (ro_sI_ne n0))
      · rw [if_neg hz]
        by_cases hz : (M.2.1 174 (v5.toNatClampNeg)) = (2 : Int32)
        · rw [if_pos hz]
          first | done | exact (((ih n0)).trans (ro_sI_ne n0))
        · rw [if_neg hz]
          by_cases hz : (M.2.1 174 (v5.toNatClampNeg)) = (3 : Int32)
          · rw [if_pos hz]
            by_cases hz : (M.2.1 180 ((v4 - (1 : Int32)).toNatClampNeg)) = (0 : Int32)
            · rw [if_pos hz]
              first | done | exact (((ih n0)).trans (ro_sI_ne n0))
            · rw [if_neg hz]
              first | done | exact (((ih n0)).trans (ro_sI_ne n0))
          · rw [if_neg hz]
            by_cases hz : (M.2.1 174 (v5.toNatClampNeg)) = (4 : Int32)
            · rw [if_pos hz]
              first | done | exact (((ih n0)).trans (ro_sI_ne n0))
            · rw [if_neg hz]
              first | done | exact (((ih n0)).trans (ro_sI_ne n0))
theorem xwJ_231_12 : ∀ {n : Nat} {M : ro_Mm} {v5 : Int32} {v4 : Int32} {v1 : Int32} {v2 : Int32} {v3 : Int32} {c j : Nat}, (xg_231_12 n M v5 v4 v1 v2 v3).2.2.2.2.1 c j = M.2.2.1 c j := by
  intro n
  induction n with
  | zero => intro M v5 v4 v1 v2 v3 c j; rfl
  | succ n ih =>
    intro M v5 v4 v1 v2 v3 c j
    rw [xg_231_12]
    by_cases hz : (((130 : Int32) * v1) + v3) ≤ v5
    · rw [if_pos hz]
      first | done | exact rfl
    · rw [if_neg hz]
      by_cases hz : (M.2.1 174 (v5.toNatClampNeg)) = (1 : Int32)
      · rw [if_pos hz]
        first | done | exact (((ih)).trans (congrFun (congrFun ro_sI_J _) _))
      · rw [if_neg hz]
        by_cases hz : (M.2.1 174 (v5.toNatClampNeg)) = (2 : Int32)
        · rw [if_pos hz]
          first | done | exact (((ih)).trans (congrFun (congrFun ro_sI_J _) _))
        · rw [if_neg hz]
          by_cases hz : (M.2.1 174 (v5.toNatClampNeg)) = (3 : Int32)
          · rw [if_pos hz]
            by_cases hz : (M.2.1 180 ((v4 - (1 : Int32)).toNatClampNeg)) = (0 : Int32)
            · rw [if_pos hz]
              first | done | exact (((ih)).trans (congrFun (congrFun ro_sI_J _) _))
            · rw [if_neg hz]
              first | done | exact (((ih)).trans (congrFun (congrFun ro_sI_J _) _))
          · rw [if_neg hz]
            by_cases hz : (M.2.1 174 (v5.toNatClampNeg)) = (4 : Int32)
            · rw [if_pos hz]
              first | done | exact (((ih)).trans (congrFun (congrFun ro_sI_J _) _))
            · rw [if_neg hz]
              first | done | exact (((ih)).trans (congrFun (congrFun ro_sI_J _) _))
/-- RefusedOnceModel.worked(III)I -/
noncomputable def xf_231 (M : ro_Mm) (v1 : Int32) (v2 : Int32) (v3 : Int32) : Int32 := ((xg_231_12 lp_N M (((130 : Int32) * v1) + v2) (0 : Int32) v1 v2 v3).2.2.2.1 180 0)
noncomputable def xm_231 (M : ro_Mm) (v1 : Int32) (v2 : Int32) (v3 : Int32) : ro_Mm := (xg_231_12 lp_N M (((130 : Int32) * v1) + v2) (0 : Int32) v1 v2 v3).2.2
def xp_231 (M : ro_Mm) (v1 : Int32) (v2 : Int32) (v3 : Int32) : Prop := (xq_231_12 lp_N M (((130 : Int32) * v1) + v2) (0 : Int32) v1 v2 v3 ∧ True)
theorem xl_231 {M : ro_Mm} {v1 : Int32} {v2 : Int32} {v3 : Int32} (hL : ro_lay M) (hp : xp_231 M v1 v2 v3) : ro_lay (xm_231 M v1 v2 v3) := by
  unfold xp_231 at hp
  unfold xm_231
  obtain ⟨q22, hp⟩ := hp
  exact (xl_231_12 lp_N hL q22)
theorem xwI_231 {M : ro_Mm} {v1 : Int32} {v2 : Int32} {v3 : Int32} {c j : Nat} (n0 : c ≠ 180) : (xm_231 M v1 v2 v3).2.1 c j = M.2.1 c j := by
  unfold xm_231
  first | done | exact (xwI_231_12 n0)
theorem xwJ_231 {M : ro_Mm} {v1 : Int32} {v2 : Int32} {v3 : Int32} {c j : Nat} : (xm_231 M v1 v2 v3).2.2.1 c j = M.2.2.1 c j := by
  unfold xm_231
  first | done | exact (xwJ_231_12)
/-- a loop of RefusedOnceModel.longOf(II)I -/
noncomputable def xg_237_2 : Nat → ro_Mm → Int32 → Int32 → Int32 → Int32
  | 0, M, v3, v1, v2 => v3
  | n + 1, M, v3, v1, v2 => (if v2 ≤ v3 then v3 else (if (M.2.1 191 (v1.toNatClampNeg)) ≤ v3 then v3 else (if (xf_239 M (xf_238 M v1 v3)) then (xg_237_2 n M (v3 + (1 : Int32)) v1 v2) else v3)))
def xq_237_2 : Nat → ro_Mm → Int32 → Int32 → Int32 → Prop
  | 0, _, _, _, _ => False
  | n + 1, M, v3, v1, v2 => ((v2 ≤ v3 → True) ∧ (¬ (v2 ≤ v3) → (vp_in v1 6 ∧ (((M.2.1 191 (v1.toNatClampNeg)) ≤ v3 → True) ∧ (¬ ((M.2.1 191 (v1.toNatClampNeg)) ≤ v3) → (xp_238 M v1 v3 ∧ (((xf_239 M (xf_238 M v1 v3)) → (xq_237_2 n M (v3 + (1 : Int32)) v1 v2)) ∧ (¬ ((xf_239 M (xf_238 M v1 v3))) → True))))))))
/-- RefusedOnceModel.longOf(II)I -/
noncomputable def xf_237 (M : ro_Mm) (v1 : Int32) (v2 : Int32) : Int32 := (xg_237_2 lp_N M (0 : Int32) v1 v2)
def xp_237 (M : ro_Mm) (v1 : Int32) (v2 : Int32) : Prop := (xq_237_2 lp_N M (0 : Int32) v1 v2 ∧ True)
/-- a loop of RefusedOnceModel.waysFound(III)J -/
noncomputable def xg_262_13 : Nat → ro_Mm → Int32 → Int64 → Int32 → Int32 → Int32 → Int32 → Int32 × Int64
  | 0, M, v7, v5, v4, v1, v2, v3 => (v7, v5)
  | n + 1, M, v7, v5, v4, v1, v2, v3 => (if v2 < v7 then (v7, v5) else (xg_262_13 n M (v7 + (1 : Int32)) (v5 + ((xf_263 M v4 v7) * (xf_263 M ((M.2.1 165 (v1.toNatClampNeg)) - v4) (v2 - v7)))) v4 v1 v2 v3))
def xq_262_13 : Nat → ro_Mm → Int32 → Int64 → Int32 → Int32 → Int32 → Int32 → Prop
  | 0, _, _, _, _, _, _, _ => False
  | n + 1, M, v7, v5, v4, v1, v2, v3 => ((v2 < v7 → True) ∧ (¬ (v2 < v7) → (xp_263 M v4 v7 ∧ (vp_in v1 6 ∧ (xp_263 M ((M.2.1 165 (v1.toNatClampNeg)) - v4) (v2 - v7) ∧ (xq_262_13 n M (v7 + (1 : Int32)) (v5 + ((xf_263 M v4 v7) * (xf_263 M ((M.2.1 165 (v1.toNatClampNeg)) - v4) (v2 - v7)))) v4 v1 v2 v3))))))
/-- RefusedOnceModel.waysFound(III)J -/
noncomputable def xf_262 (M : ro_Mm) (v1 : Int32) (v2 : Int32) (v3 : Int32) : Int64 := (xg_262_13 lp_N M v3 (0 : Int64) (xf_209 M v1) v1 v2 v3).2
def xp_262 (M : ro_Mm) (v1 : Int32) (v2 : Int32) (v3 : Int32) : Prop := (xp_209 M v1 ∧ (xq_262_13 lp_N M v3 (0 : Int64) (xf_209 M v1) v1 v2 v3 ∧ True))
/-- a loop of RefusedOnceModel.enough(II)I -/
noncomputable def xg_264_22 : Nat → ro_Mm → Int32 → Int32 → Int32 → Bool × Int32 × Int32
  | 0, M, v3, v1, v2 => (false, 0, v3)
  | n + 1, M, v3, v1, v2 => (if (M.2.1 165 (v1.toNatClampNeg)) < v3 then (false, 0, v3) else (if (lg_cmp ((12 : Int64) * (xf_262 M v1 v3 (1 : Int32))) ((v2.toInt64) * (xf_263 M (M.2.1 165 (v1.toNatClampNeg)) v3))) < (0 : Int32) then (xg_264_22 n M (v3 + (1 : Int32)) v1 v2) else (true, v3, v3)))
def xq_264_22 : Nat → ro_Mm → Int32 → Int32 → Int32 → Prop
  | 0, _, _, _, _ => False
  | n + 1, M, v3, v1, v2 => (vp_in v1 6 ∧ (((M.2.1 165 (v1.toNatClampNeg)) < v3 → True) ∧ (¬ ((M.2.1 165 (v1.toNatClampNeg)) < v3) → (xp_262 M v1 v3 (1 : Int32) ∧ (vp_in v1 6 ∧ (xp_263 M (M.2.1 165 (v1.toNatClampNeg)) v3 ∧ (((lg_cmp ((12 : Int64) * (xf_262 M v1 v3 (1 : Int32))) ((v2.toInt64) * (xf_263 M (M.2.1 165 (v1.toNatClampNeg)) v3))) < (0 : Int32) → (xq_264_22 n M (v3 + (1 : Int32)) v1 v2)) ∧ (¬ ((lg_cmp ((12 : Int64) * (xf_262 M v1 v3 (1 : Int32))) ((v2.toInt64) * (xf_263 M (M.2.1 165 (v1.toNatClampNeg)) v3))) < (0 : Int32)) → True))))))))
/-- RefusedOnceModel.enough(II)I -/
noncomputable def xf_264 (M : ro_Mm) (v1 : Int32) (v2 : Int32) : Int32 := (if (xf_204 M v1) then (if (xf_195 M v2 (0 : Int32) (12 : Int32)) then (if (xg_264_22 lp_N M (0 : Int32) v1 v2).1 = true then (xg_264_22 lp_N M (0 : Int32) v1 v2).2.1 else (-2 : Int32)) else (-1 : Int32)) else (-1 : Int32))
def xp_264 (M : ro_Mm) (v1 : Int32) (v2 : Int32) : Prop := (((xf_204 M v1) → (((xf_195 M v2 (0 : Int32) (12 : Int32)) → (xq_264_22 lp_N M (0 : Int32) v1 v2 ∧ True)) ∧ (¬ ((xf_195 M v2 (0 : Int32) (12 : Int32))) → True))) ∧ (¬ ((xf_204 M v1)) → True))
/-- RefusedOnceModel.honest(III)J -/
noncomputable def xf_265 (M : ro_Mm) (v1 : Int32) (v2 : Int32) (v3 : Int32) : Int64 := (if (xf_204 M v1) then (if v2 < (0 : Int32) then (-9223372036854775808 : Int64) else (if (xf_195 M (v2 / (10 : Int32)) (0 : Int32) (20 : Int32)) then (if (xf_195 M (ro_irem v2 (10 : Int32)) (1 : Int32) (9 : Int32)) then (if (xf_195 M v3 (0 : Int32) (1 : Int32)) then (xf_254 M (xf_262 M v1 (xf_261 M v1 (v2 / (10 : Int32))) (ro_irem v2 (10 : Int32))) (xf_263 M (M.2.1 165 (v1.toNatClampNeg)) (xf_261 M v1 (v2 / (10 : Int32)))) v3) else (-9223372036854775808 : Int64)) else (-9223372036854775808 : Int64)) else (-9223372036854775808 : Int64))) else (-9223372036854775808 : Int64))
def xp_265 (M : ro_Mm) (v1 : Int32) (v2 : Int32) (v3 : Int32) : Prop := (((xf_204 M v1) → ((v2 < (0 : Int32) → True) ∧ (¬ (v2 < (0 : Int32)) → (((xf_195 M (v2 / (10 : Int32)) (0 : Int32) (20 : Int32)) → (((xf_195 M (ro_irem v2 (10 : Int32)) (1 : Int32) (9 : Int32)) → (((xf_195 M v3 (0 : Int32) (1 : Int32)) → (xp_261 M v1 (v2 / (10 : Int32)) ∧ (xp_262 M v1 (xf_261 M v1 (v2 / (10 : Int32))) (ro_irem v2 (10 : Int32)) ∧ (vp_in v1 6 ∧ (xp_263 M (M.2.1 165 (v1.toNatClampNeg)) (xf_261 M v1 (v2 / (10 : Int32))) ∧ (xp_254 M (xf_262 M v1 (xf_261 M v1 (v2 / (10 : Int32))) (ro_irem v2 (10 : Int32))) (xf_263 M (M.2.1 165 (v1.toNatClampNeg)) (xf_261 M v1 (v2 / (10 : Int32)))) v3 ∧ True)))))) ∧ (¬ ((xf_195 M v3 (0 : Int32) (1 : Int32))) → True))) ∧ (¬ ((xf_195 M (ro_irem v2 (10 : Int32)) (1 : Int32) (9 : Int32))) → True))) ∧ (¬ ((xf_195 M (v2 / (10 : Int32)) (0 : Int32) (20 : Int32))) → True))))) ∧ (¬ ((xf_204 M v1)) → True))
/-- RefusedOnceModel.meetWay(I)V -/
noncomputable def xm_271 (M : ro_Mm) (v1 : Int32) : ro_Mm := (if (M.2.1 163 39) < (0 : Int32) then (ro_sI (ro_sI (ro_sI (ro_sI M 163 38 ((M.2.1 163 38) + (1 : Int32))) 163 41 ((M.2.1 163 41) &&& v1)) 163 39 (xf_272 (ro_sI (ro_sI M 163 38 ((M.2.1 163 38) + (1 : Int32))) 163 41 ((M.2.1 163 41) &&& v1)) v1)) 163 40 v1) else (if (M.2.1 163 39) < (xf_272 (ro_sI (ro_sI M 163 38 ((M.2.1 163 38) + (1 : Int32))) 163 41 ((M.2.1 163 41) &&& v1)) v1) then (ro_sI (ro_sI M 163 38 ((M.2.1 163 38) + (1 : Int32))) 163 41 ((M.2.1 163 41) &&& v1)) else (if (xf_272 (ro_sI (ro_sI M 163 38 ((M.2.1 163 38) + (1 : Int32))) 163 41 ((M.2.1 163 41) &&& v1)) v1) = (M.2.1 163 39) then (if v1 ≤ (M.2.1 163 40) then (ro_sI (ro_sI (ro_sI (ro_sI M 163 38 ((M.2.1 163 38) + (1 : Int32))) 163 41 ((M.2.1 163 41) &&& v1)) 163 39 (xf_272 (ro_sI (ro_sI M 163 38 ((M.2.1 163 38) + (1 : Int32))) 163 41 ((M.2.1 163 41) &&& v1)) v1)) 163 40 v1) else (ro_sI (ro_sI M 163 38 ((M.2.1 163 38) + (1 : Int32))) 163 41 ((M.2.1 163 41) &&& v1))) else (ro_sI (ro_sI (ro_sI (ro_sI M 163 38 ((M.2.1 163 38) + (1 : Int32))) 163 41 ((M.2.1 163 41) &&& v1)) 163 39 (xf_272 (ro_sI (ro_sI M 163 38 ((M.2.1 163 38) + (1 : Int32))) 163 41 ((M.2.1 163 41) &&& v1)) v1)) 163 40 v1))))
def xp_271 (M : ro_Mm) (v1 : Int32) : Prop := (xp_272 (ro_sI (ro_sI M 163 38 ((M.2.1 163 38) + (1 : Int32))) 163 41 ((M.2.1 163 41) &&& v1)) v1 ∧ True)
theorem xl_271 {M : ro_Mm} {v1 : Int32} (hL : ro_lay M) (hp : xp_271 M v1) : ro_lay (xm_271 M v1) := by
  unfold xp_271 at hp
  unfold xm_271
  obtain ⟨q0, hp⟩ := hp
  by_cases hz : (M.2.1 163 39) < (0 : Int32)
  · skip
    rw [if_pos hz]
    exact hL
  · skip
    rw [if_neg hz]
    by_cases hz : (M.2.1 163 39) < (xf_272 (ro_sI (ro_sI M 163 38 ((M.2.1 163 38) + (1 : Int32))) 163 41 ((M.2.1 163 41) &&& v1)) v1)
    · skip
      rw [if_pos hz]
      exact hL
    · skip
      rw [if_neg hz]
      by_cases hz : (xf_272 (ro_sI (ro_sI M 163 38 ((M.2.1 163 38) + (1 : Int32))) 163 41 ((M.2.1 163 41) &&& v1)) v1) = (M.2.1 163 39)
      · skip
        rw [if_pos hz]
        by_cases hz : v1 ≤ (M.2.1 163 40)
        · skip
          rw [if_pos hz]
          exact hL
        · skip
          rw [if_neg hz]
          exact hL
      · skip
        rw [if_neg hz]
        exact hL
theorem xwI_271 {M : ro_Mm} {v1 : Int32} {c j : Nat} (n0 : c ≠ 163) : (xm_271 M v1).2.1 c j = M.2.1 c j := by
  unfold xm_271
  by_cases hz : (M.2.1 163 39) < (0 : Int32)
  · rw [if_pos hz]
    first | done | exact (((((ro_sI_ne n0)).trans (ro_sI_ne n0)).trans (ro_sI_ne n0)).trans (ro_sI_ne n0))
  · rw [if_neg hz]
    by_cases hz : (M.2.1 163 39) < (xf_272 (ro_sI (ro_sI M 163 38 ((M.2.1 163 38) + (1 : Int32))) 163 41 ((M.2.1 163 41) &&& v1)) v1)
    · rw [if_pos hz]
      first | done | exact (((ro_sI_ne n0)).trans (ro_sI_ne n0))
    · rw [if_neg hz]
      by_cases hz : (xf_272 (ro_sI (ro_sI M 163 38 ((M.2.1 163 38) + (1 : Int32))) 163 41 ((M.2.1 163 41) &&& v1)) v1) = (M.2.1 163 39)
      · rw [if_pos hz]
        by_cases hz : v1 ≤ (M.2.1 163 40)
        · rw [if_pos hz]
          first | done | exact (((((ro_sI_ne n0)).trans (ro_sI_ne n0)).trans (ro_sI_ne n0)).trans (ro_sI_ne n0))
        · rw [if_neg hz]
          first | done | exact (((ro_sI_ne n0)).trans (ro_sI_ne n0))
      · rw [if_neg hz]
        first | done | exact (((((ro_sI_ne n0)).trans (ro_sI_ne n0)).trans (ro_sI_ne n0)).trans (ro_sI_ne n0))
theorem xwJ_271 {M : ro_Mm} {v1 : Int32} {c j : Nat} : (xm_271 M v1).2.2.1 c j = M.2.2.1 c j := by
  unfold xm_271
  by_cases hz : (M.2.1 163 39) < (0 : Int32)
  · rw [if_pos hz]
    first | done | exact rfl
  · rw [if_neg hz]
    by_cases hz : (M.2.1 163 39) < (xf_272 (ro_sI (ro_sI M 163 38 ((M.2.1 163 38) + (1 : Int32))) 163 41 ((M.2.1 163 41) &&& v1)) v1)
    · rw [if_pos hz]
      first | done | exact rfl
    · rw [if_neg hz]
      by_cases hz : (xf_272 (ro_sI (ro_sI M 163 38 ((M.2.1 163 38) + (1 : Int32))) 163 41 ((M.2.1 163 41) &&& v1)) v1) = (M.2.1 163 39)
      · rw [if_pos hz]
        by_cases hz : v1 ≤ (M.2.1 163 40)
        · rw [if_pos hz]
          first | done | exact rfl
        · rw [if_neg hz]
          first | done | exact rfl
      · rw [if_neg hz]
        first | done | exact rfl
/-- RefusedOnceModel.offer(II)I -/
noncomputable def xf_274 (M : ro_Mm) (v1 : Int32) (v2 : Int32) : Int32 := (if (xf_227 M v1) then (if (xf_195 M v2 (0 : Int32) (2 : Int32)) then (if v2 = (2 : Int32) then (if (xf_240 (xm_228 M) (v1 / (10 : Int32)) (ro_irem v1 (10 : Int32))) then (ro_irem v1 (10 : Int32)) else (-5 : Int32)) else (if (xf_241 (xm_228 M) (v1 / (10 : Int32)) (ro_irem v1 (10 : Int32))) then (if v2 = (0 : Int32) then (ro_irem v1 (10 : Int32)) else (if v2 = (1 : Int32) then (v1 / (10 : Int32)) else (ro_irem v1 (10 : Int32)))) else (-5 : Int32))) else (-1 : Int32)) else (-1 : Int32))
noncomputable def xm_274 (M : ro_Mm) (v1 : Int32) (v2 : Int32) : ro_Mm := (if (xf_227 M v1) then (if (xf_195 M v2 (0 : Int32) (2 : Int32)) then (if v2 = (2 : Int32) then (if (xf_240 (xm_228 M) (v1 / (10 : Int32)) (ro_irem v1 (10 : Int32))) then (ro_sI (xm_275 (xm_242 (xm_228 M) (v1 / (10 : Int32)) (ro_irem v1 (10 : Int32)))) 184 0 ((M.2.1 184 0) + (1 : Int32))) else (xm_228 M)) else (if (xf_241 (xm_228 M) (v1 / (10 : Int32)) (ro_irem v1 (10 : Int32))) then (if v2 = (0 : Int32) then (ro_sI (xm_275 (xm_245 (xm_228 M) (v1 / (10 : Int32)) (ro_irem v1 (10 : Int32)))) 184 0 ((M.2.1 184 0) + (1 : Int32))) else (if v2 = (1 : Int32) then (ro_sI (ro_sI (xm_275 (xm_244 (xm_228 M) (v1 / (10 : Int32)))) 184 0 ((M.2.1 184 0) + (1 : Int32))) 184 1 ((M.2.1 184 1) + (1 : Int32))) else (ro_sI (xm_275 (xm_242 (xm_228 M) (v1 / (10 : Int32)) (ro_irem v1 (10 : Int32)))) 184 0 ((M.2.1 184 0) + (1 : Int32))))) else (xm_228 M))) else M) else M)
def xp_274 (M : ro_Mm) (v1 : Int32) (v2 : Int32) : Prop := (((xf_227 M v1) → (((xf_195 M v2 (0 : Int32) (2 : Int32)) → (xp_228 M ∧ ((v2 = (2 : Int32) → (xp_240 (xm_228 M) (v1 / (10 : Int32)) (ro_irem v1 (10 : Int32)) ∧ (((xf_240 (xm_228 M) (v1 / (10 : Int32)) (ro_irem v1 (10 : Int32))) → (xp_242 (xm_228 M) (v1 / (10 : Int32)) (ro_irem v1 (10 : Int32)) ∧ (xp_275 (xm_242 (xm_228 M) (v1 / (10 : Int32)) (ro_irem v1 (10 : Int32))) ∧ True))) ∧ (¬ ((xf_240 (xm_228 M) (v1 / (10 : Int32)) (ro_irem v1 (10 : Int32)))) → True)))) ∧ (¬ (v2 = (2 : Int32)) → (xp_241 (xm_228 M) (v1 / (10 : Int32)) (ro_irem v1 (10 : Int32)) ∧ (((xf_241 (xm_228 M) (v1 / (10 : Int32)) (ro_irem v1 (10 : Int32))) → ((v2 = (0 : Int32) → (xp_245 (xm_228 M) (v1 / (10 : Int32)) (ro_irem v1 (10 : Int32)) ∧ (xp_275 (xm_245 (xm_228 M) (v1 / (10 : Int32)) (ro_irem v1 (10 : Int32))) ∧ True))) ∧ (¬ (v2 = (0 : Int32)) → ((v2 = (1 : Int32) → (xp_244 (xm_228 M) (v1 / (10 : Int32)) ∧ (xp_275 (xm_244 (xm_228 M) (v1 / (10 : Int32))) ∧ True))) ∧ (¬ (v2 = (1 : Int32)) → (xp_242 (xm_228 M) (v1 / (10 : Int32)) (ro_irem v1 (10 : Int32)) ∧ (xp_275 (xm_242 (xm_228 M) (v1 / (10 : Int32)) (ro_irem v1 (10 : Int32))) ∧ True))))))) ∧ (¬ ((xf_241 (xm_228 M) (v1 / (10 : Int32)) (ro_irem v1 (10 : Int32)))) → True))))))) ∧ (¬ ((xf_195 M v2 (0 : Int32) (2 : Int32))) → True))) ∧ (¬ ((xf_227 M v1)) → True))
theorem xl_274 {M : ro_Mm} {v1 : Int32} {v2 : Int32} (hL : ro_lay M) (hp : xp_274 M v1 v2) : ro_lay (xm_274 M v1 v2) := by
  unfold xp_274 at hp
  unfold xm_274
  by_cases hz : (xf_227 M v1)
  · have hp := hp.1 hz
    rw [if_pos hz]
    by_cases hz : (xf_195 M v2 (0 : Int32) (2 : Int32))
    · have hp := hp.1 hz
      rw [if_pos hz]
      obtain ⟨q2, hp⟩ := hp
      by_cases hz : v2 = (2 : Int32)
      · have hp := hp.1 hz
        rw [if_pos hz]
        obtain ⟨q20, hp⟩ := hp
        by_cases hz : (xf_240 (xm_228 M) (v1 / (10 : Int32)) (ro_irem v1 (10 : Int32)))
        · have hp := hp.1 hz
          rw [if_pos hz]
          obtain ⟨q24, hp⟩ := hp
          obtain ⟨q25, hp⟩ := hp
          exact (xl_275 (xl_242 (xl_228 hL q2) q24) q25)
        · have hp := hp.2 hz
          rw [if_neg hz]
          exact (xl_228 hL q2)
      · have hp := hp.2 hz
        rw [if_neg hz]
        obtain ⟨q4, hp⟩ := hp
        by_cases hz : (xf_241 (xm_228 M) (v1 / (10 : Int32)) (ro_irem v1 (10 : Int32)))
        · have hp := hp.1 hz
          rw [if_pos hz]
          by_cases hz : v2 = (0 : Int32)
          · have hp := hp.1 hz
            rw [if_pos hz]
            obtain ⟨q16, hp⟩ := hp
            obtain ⟨q17, hp⟩ := hp
            exact (xl_275 (xl_245 (xl_228 hL q2) q16) q17)
          · have hp := hp.2 hz
            rw [if_neg hz]
            by_cases hz : v2 = (1 : Int32)
            · have hp := hp.1 hz
              rw [if_pos hz]
              obtain ⟨q12, hp⟩ := hp
              obtain ⟨q13, hp⟩ := hp
              exact (xl_275 (xl_244 (xl_228 hL q2) q12) q13)
            · have hp := hp.2 hz
              rw [if_neg hz]
              obtain ⟨q8, hp⟩ := hp
              obtain ⟨q9, hp⟩ := hp
              exact (xl_275 (xl_242 (xl_228 hL q2) q8) q9)
        · have hp := hp.2 hz
          rw [if_neg hz]
          exact (xl_228 hL q2)
    · have hp := hp.2 hz
      rw [if_neg hz]
      exact hL
  · have hp := hp.2 hz
    rw [if_neg hz]
    exact hL
theorem xwI_274 {M : ro_Mm} {v1 : Int32} {v2 : Int32} {c j : Nat} (n0 : c ≠ 181) (n1 : c ≠ 182) (n2 : c ≠ 164) (n3 : c ≠ 165) (n4 : c ≠ 184) : (xm_274 M v1 v2).2.1 c j = M.2.1 c j := by
  unfold xm_274
  by_cases hz : (xf_227 M v1)
  · rw [if_pos hz]
    by_cases hz : (xf_195 M v2 (0 : Int32) (2 : Int32))
    · rw [if_pos hz]
      by_cases hz : v2 = (2 : Int32)
      · rw [if_pos hz]
        by_cases hz : (xf_240 (xm_228 M) (v1 / (10 : Int32)) (ro_irem v1 (10 : Int32)))
        · rw [if_pos hz]
          first | done | exact (((((ro_sI_ne n4)).trans (xwI_275 n2 n3)).trans (xwI_242 n1)).trans (xwI_228 n0 n1))
        · rw [if_neg hz]
          first | done | exact (xwI_228 n0 n1)
      · rw [if_neg hz]
        by_cases hz : (xf_241 (xm_228 M) (v1 / (10 : Int32)) (ro_irem v1 (10 : Int32)))
        · rw [if_pos hz]
          by_cases hz : v2 = (0 : Int32)
          · rw [if_pos hz]
            first | done | exact (((((ro_sI_ne n4)).trans (xwI_275 n2 n3)).trans (xwI_245 n0)).trans (xwI_228 n0 n1))
          · rw [if_neg hz]
            by_cases hz : v2 = (1 : Int32)
            · rw [if_pos hz]
              first | done | exact ((((((ro_sI_ne n4)).trans (ro_sI_ne n4)).trans (xwI_275 n2 n3)).trans (xwI_244 n0 n1)).trans (xwI_228 n0 n1))
            · rw [if_neg hz]
              first | done | exact (((((ro_sI_ne n4)).trans (xwI_275 n2 n3)).trans (xwI_242 n1)).trans (xwI_228 n0 n1))
        · rw [if_neg hz]
          first | done | exact (xwI_228 n0 n1)
    · rw [if_neg hz]
      first | done | exact rfl
  · rw [if_neg hz]
    first | done | exact rfl
theorem xwJ_274 {M : ro_Mm} {v1 : Int32} {v2 : Int32} {c j : Nat} : (xm_274 M v1 v2).2.2.1 c j = M.2.2.1 c j := by
  unfold xm_274
  by_cases hz : (xf_227 M v1)
  · rw [if_pos hz]
    by_cases hz : (xf_195 M v2 (0 : Int32) (2 : Int32))
    · rw [if_pos hz]
      by_cases hz : v2 = (2 : Int32)
      · rw [if_pos hz]
        by_cases hz : (xf_240 (xm_228 M) (v1 / (10 : Int32)) (ro_irem v1 (10 : Int32)))
        · rw [if_pos hz]
          first | done | exact (((((congrFun (congrFun ro_sI_J _) _)).trans (xwJ_275)).trans (xwJ_242)).trans (xwJ_228))
        · rw [if_neg hz]
          first | done | exact (xwJ_228)
      · rw [if_neg hz]
        by_cases hz : (xf_241 (xm_228 M) (v1 / (10 : Int32)) (ro_irem v1 (10 : Int32)))
        · rw [if_pos hz]
          by_cases hz : v2 = (0 : Int32)
          · rw [if_pos hz]
            first | done | exact (((((congrFun (congrFun ro_sI_J _) _)).trans (xwJ_275)).trans (xwJ_245)).trans (xwJ_228))
          · rw [if_neg hz]
            by_cases hz : v2 = (1 : Int32)
            · rw [if_pos hz]
              first | done | exact ((((((congrFun (congrFun ro_sI_J _) _)).trans (congrFun (congrFun ro_sI_J _) _)).trans (xwJ_275)).trans (xwJ_244)).trans (xwJ_228))
            · rw [if_neg hz]
              first | done | exact (((((congrFun (congrFun ro_sI_J _) _)).trans (xwJ_275)).trans (xwJ_242)).trans (xwJ_228))
        · rw [if_neg hz]
          first | done | exact (xwJ_228)
    · rw [if_neg hz]
      first | done | exact rfl
  · rw [if_neg hz]
    first | done | exact rfl
/-- RefusedOnceModel.count(I)I -/
noncomputable def xf_298 (M : ro_Mm) (v1 : Int32) : Int32 := (if v1 = (0 : Int32) then (M.2.1 163 1) else (if v1 = (1 : Int32) then (xf_299 M true) else (if v1 = (2 : Int32) then (xf_299 M false) else (if v1 = (3 : Int32) then (M.2.1 163 14) else (if v1 = (4 : Int32) then (M.2.1 163 7) else (if v1 = (5 : Int32) then (M.2.1 163 49) else (if v1 = (6 : Int32) then (M.2.1 163 51) else (-1 : Int32))))))))
def xp_298 (M : ro_Mm) (v1 : Int32) : Prop := ((v1 = (0 : Int32) → True) ∧ (¬ (v1 = (0 : Int32)) → ((v1 = (1 : Int32) → (xp_299 M true ∧ True)) ∧ (¬ (v1 = (1 : Int32)) → ((v1 = (2 : Int32) → (xp_299 M false ∧ True)) ∧ (¬ (v1 = (2 : Int32)) → True))))))
