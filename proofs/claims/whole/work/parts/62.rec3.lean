/-! methods that call themselves, by program (wip/whole/walk3.py, mk47.py) -/
/-- a loop of RefusedOnceModel.product()V -/
noncomputable def xg_218_4 (F219 : ro_Mm → ro_Mm) : Nat → ro_Mm → ro_Mm
  | 0, M => M
  | n + 1, M => (if (0 : Int32) ≤ (M.2.1 163 16) then M else (if (xf_220 M) = (42 : Int32) then (xg_218_4 F219 n (xm_222 (F219 (ro_sI M 163 15 ((M.2.1 163 15) + (1 : Int32)))) (xf_220 M) (0 : Int32))) else (if (xf_220 M) = (47 : Int32) then (xg_218_4 F219 n (xm_222 (F219 (ro_sI M 163 15 ((M.2.1 163 15) + (1 : Int32)))) (xf_220 M) (0 : Int32))) else (if (xf_220 M) = (37 : Int32) then (xg_218_4 F219 n (xm_222 (F219 (ro_sI M 163 15 ((M.2.1 163 15) + (1 : Int32)))) (xf_220 M) (0 : Int32))) else M))))
def xq_218_4 (F219 : ro_Mm → ro_Mm) (P219 : ro_Mm → Prop) : Nat → ro_Mm → Prop
  | 0, _ => False
  | n + 1, M => (((0 : Int32) ≤ (M.2.1 163 16) → True) ∧ (¬ ((0 : Int32) ≤ (M.2.1 163 16)) → (xp_220 M ∧ (((xf_220 M) = (42 : Int32) → (xp_220 M ∧ (P219 (ro_sI M 163 15 ((M.2.1 163 15) + (1 : Int32))) ∧ (xp_222 (F219 (ro_sI M 163 15 ((M.2.1 163 15) + (1 : Int32)))) (xf_220 M) (0 : Int32) ∧ (xq_218_4 F219 P219 n (xm_222 (F219 (ro_sI M 163 15 ((M.2.1 163 15) + (1 : Int32)))) (xf_220 M) (0 : Int32))))))) ∧ (¬ ((xf_220 M) = (42 : Int32)) → (xp_220 M ∧ (((xf_220 M) = (47 : Int32) → (xp_220 M ∧ (P219 (ro_sI M 163 15 ((M.2.1 163 15) + (1 : Int32))) ∧ (xp_222 (F219 (ro_sI M 163 15 ((M.2.1 163 15) + (1 : Int32)))) (xf_220 M) (0 : Int32) ∧ (xq_218_4 F219 P219 n (xm_222 (F219 (ro_sI M 163 15 ((M.2.1 163 15) + (1 : Int32)))) (xf_220 M) (0 : Int32))))))) ∧ (¬ ((xf_220 M) = (47 : Int32)) → (xp_220 M ∧ (((xf_220 M) = (37 : Int32) → (xp_220 M ∧ (P219 (ro_sI M 163 15 ((M.2.1 163 15) + (1 : Int32))) ∧ (xp_222 (F219 (ro_sI M 163 15 ((M.2.1 163 15) + (1 : Int32)))) (xf_220 M) (0 : Int32) ∧ (xq_218_4 F219 P219 n (xm_222 (F219 (ro_sI M 163 15 ((M.2.1 163 15) + (1 : Int32)))) (xf_220 M) (0 : Int32))))))) ∧ (¬ ((xf_220 M) = (37 : Int32)) → True)))))))))))
theorem xt_218_4 {X : ro_Sx} {post : ro_Po} {k : Nat} {F219 : ro_Mm → ro_Mm} {P219 : ro_Mm → Prop} (hF219 : ∀ {M : ro_Mm}, ro_lay M → P219 M → ro_cwp X k 219 [.ref 163] M (fun v M2 => v = none ∧ M2 = (F219 M))) (hl219 : ∀ {M : ro_Mm}, ro_lay M → P219 M → ro_lay (F219 M)) : ∀ (n : Nat) {M : ro_Mm} (hL : ro_lay M) (hp : xq_218_4 F219 P219 n M) (hk : ro_w X (k + 1) 218 post 66 [(0, .ref 163)] [] (xg_218_4 F219 n M) (0, 0)), ro_w X (k + 1) 218 post 4 [(0, .ref 163)] [] M (0, 0) := by
  intro n
  induction n with
  | zero => intro M hL hp hk; exact False.elim hp
  | succ n ih =>
    intro M hL hp hk
    rw [xq_218_4] at hp
    refine rs_aload_n ri_218_4 rfl rfl ?_
    refine rs_gf (v := .int (M.2.1 163 16)) ri_218_5 rfl (by decide) (ro_kf (kd_163 hL)) rfl rfl ?_
    refine rs_if_ge (t := 66) ri_218_8 rfl rfl (fun h2 => ?_) (fun h2 => ?_)
    · skip
      have e : xg_218_4 F219 (n + 1) M = M := by rw [xg_218_4]; first | (simp only [if_pos h2]; done) | rfl
      rw [e] at hk
      exact ro_w_lv (ro_sub_c rfl (ro_sub_n rfl)) hk
    · have hp := hp.2 h2
      refine rs_aload_n ri_218_11 rfl rfl ?_
      obtain ⟨q2, hp⟩ := hp
      refine rs_virt (As := []) (r := []) ri_218_12 rfl (by decide) rm_220.2.2.2 rm_220.2.2.1 rfl rfl rfl (by decide) (ro_kf (kd_163 hL)) (Nat.le_of_ble_eq_true rfl) (by decide) (by omega) (xs_220 (X := X) hL q2) ?_
      rintro _ _ ⟨e1, e2⟩
      rw [e1, e2]
      show ro_w X _ 218 _ 15 [(0, .ref 163)] [.int (xf_220 M)] M (0, 0)
      refine rs_bipush (v := (42 : Int32)) ri_218_15 rfl (by decide) ?_
      refine rs_icmp_eq (t := 38) ri_218_17 rfl rfl (fun h4 => ?_) (fun h4 => ?_)
      · have hp := hp.1 h4
        refine rs_aload_n ri_218_38 rfl rfl ?_
        obtain ⟨q4, hp⟩ := hp
        refine rs_virt (As := []) (r := []) ri_218_39 rfl (by decide) rm_220.2.2.2 rm_220.2.2.1 rfl rfl rfl (by decide) (ro_kf (kd_163 hL)) (Nat.le_of_ble_eq_true rfl) (by decide) (by omega) (xs_220 (X := X) hL q4) ?_
        rintro _ _ ⟨e1, e2⟩
        rw [e1, e2]
        show ro_w X _ 218 _ 42 [(0, .ref 163)] [.int (xf_220 M)] M (0, 0)
        refine rs_istore_n (lv2 := [(1, .int (xf_220 M)), (0, .ref 163)]) ri_218_42 rfl rm_218.1 (by decide) rfl ?_
        refine rs_aload_n ri_218_43 rfl rfl ?_
        refine rs_dup ri_218_44 rfl rfl ?_
        refine rs_gf (v := .int (M.2.1 163 15)) ri_218_45 rfl (by decide) (ro_kf (kd_163 hL)) rfl rfl ?_
        refine rs_iconst (v := (1 : Int32)) ri_218_48 rfl (by decide) ?_
        refine rs_iadd (r := ((M.2.1 163 15) + (1 : Int32))) ri_218_49 rfl rfl ?_
        refine rs_pf (M2 := (ro_sI M 163 15 ((M.2.1 163 15) + (1 : Int32)))) ri_218_50 rfl (by decide) (ro_kf (kd_163 hL)) (fun h => absurd h (by decide)) (fun f h => h) ?_
        refine rs_aload_n ri_218_53 rfl rfl ?_
        obtain ⟨q5, hp⟩ := hp
        refine rs_virt (As := []) (r := []) ri_218_54 rfl (by decide) rm_219.2.2.2 rm_219.2.2.1 rfl rfl rfl (by decide) (ro_kf (kd_163 hL)) (Nat.le_of_ble_eq_true rfl) (by decide) (by omega) (hF219 hL q5) ?_
        rintro _ _ ⟨e1, e2⟩
        rw [e1, e2]
        show ro_w X _ 218 _ 57 [(1, .int (xf_220 M)), (0, .ref 163)] [] (F219 (ro_sI M 163 15 ((M.2.1 163 15) + (1 : Int32)))) (0, 0)
        refine rs_aload_n ri_218_57 rfl rfl ?_
        refine rs_iload_n ri_218_58 rfl rfl ?_
        refine rs_iconst (v := (0 : Int32)) ri_218_59 rfl (by decide) ?_
        obtain ⟨q6, hp⟩ := hp
        refine rs_virt (As := [.int (xf_220 M), .int (0 : Int32)]) (r := []) ri_218_60 rfl (by decide) rm_222.2.2.2 rm_222.2.2.1 rfl rfl rfl (by decide) (ro_kf (kd_163 (hl219 hL q5))) (Nat.le_of_ble_eq_true rfl) (by decide) (by omega) (xs_222 (X := X) (hl219 hL q5) q6) ?_
        rintro _ _ ⟨e1, e2⟩
        rw [e1, e2]
        show ro_w X _ 218 _ 63 [(1, .int (xf_220 M)), (0, .ref 163)] [] (xm_222 (F219 (ro_sI M 163 15 ((M.2.1 163 15) + (1 : Int32)))) (xf_220 M) (0 : Int32)) (0, 0)
        refine rs_goto (t := 4) ri_218_63 rfl ?_
        have e : xg_218_4 F219 (n + 1) M = xg_218_4 F219 n (xm_222 (F219 (ro_sI M 163 15 ((M.2.1 163 15) + (1 : Int32)))) (xf_220 M) (0 : Int32)) := by rw [xg_218_4]; first | (simp only [if_neg h2, if_pos h4]; done) | rfl
        rw [e] at hk
        exact ro_w_lv (ro_sub_c rfl (ro_sub_n rfl)) (ih (xl_222 (hl219 hL q5) q6)  hp hk)
      · have hp := hp.2 h4
        refine rs_aload_n ri_218_20 rfl rfl ?_
        obtain ⟨q7, hp⟩ := hp
        refine rs_virt (As := []) (r := []) ri_218_21 rfl (by decide) rm_220.2.2.2 rm_220.2.2.1 rfl rfl rfl (by decide) (ro_kf (kd_163 hL)) (Nat.le_of_ble_eq_true rfl) (by decide) (by omega) (xs_220 (X := X) hL q7) ?_
        rintro _ _ ⟨e1, e2⟩
        rw [e1, e2]
        show ro_w X _ 218 _ 24 [(0, .ref 163)] [.int (xf_220 M)] M (0, 0)
        refine rs_bipush (v := (47 : Int32)) ri_218_24 rfl (by decide) ?_
        refine rs_icmp_eq (t := 38) ri_218_26 rfl rfl (fun h9 => ?_) (fun h9 => ?_)
        · have hp := hp.1 h9
          refine rs_aload_n ri_218_38 rfl rfl ?_
          obtain ⟨q9, hp⟩ := hp
          refine rs_virt (As := []) (r := []) ri_218_39 rfl (by decide) rm_220.2.2.2 rm_220.2.2.1 rfl rfl rfl (by decide) (ro_kf (kd_163 hL)) (Nat.le_of_ble_eq_true rfl) (by decide) (by omega) (xs_220 (X := X) hL q9) ?_
          rintro _ _ ⟨e1, e2⟩
          rw [e1, e2]
          show ro_w X _ 218 _ 42 [(0, .ref 163)] [.int (xf_220 M)] M (0, 0)
          refine rs_istore_n (lv2 := [(1, .int (xf_220 M)), (0, .ref 163)]) ri_218_42 rfl rm_218.1 (by decide) rfl ?_
          refine rs_aload_n ri_218_43 rfl rfl ?_
          refine rs_dup ri_218_44 rfl rfl ?_
          refine rs_gf (v := .int (M.2.1 163 15)) ri_218_45 rfl (by decide) (ro_kf (kd_163 hL)) rfl rfl ?_
          refine rs_iconst (v := (1 : Int32)) ri_218_48 rfl (by decide) ?_
          refine rs_iadd (r := ((M.2.1 163 15) + (1 : Int32))) ri_218_49 rfl rfl ?_
          refine rs_pf (M2 := (ro_sI M 163 15 ((M.2.1 163 15) + (1 : Int32)))) ri_218_50 rfl (by decide) (ro_kf (kd_163 hL)) (fun h => absurd h (by decide)) (fun f h => h) ?_
          refine rs_aload_n ri_218_53 rfl rfl ?_
          obtain ⟨q10, hp⟩ := hp
          refine rs_virt (As := []) (r := []) ri_218_54 rfl (by decide) rm_219.2.2.2 rm_219.2.2.1 rfl rfl rfl (by decide) (ro_kf (kd_163 hL)) (Nat.le_of_ble_eq_true rfl) (by decide) (by omega) (hF219 hL q10) ?_
          rintro _ _ ⟨e1, e2⟩
          rw [e1, e2]
          show ro_w X _ 218 _ 57 [(1, .int (xf_220 M)), (0, .ref 163)] [] (F219 (ro_sI M 163 15 ((M.2.1 163 15) + (1 : Int32)))) (0, 0)
          refine rs_aload_n ri_218_57 rfl rfl ?_
          refine rs_iload_n ri_218_58 rfl rfl ?_
          refine rs_iconst (v := (0 : Int32)) ri_218_59 rfl (by decide) ?_
          obtain ⟨q11, hp⟩ := hp
          refine rs_virt (As := [.int (xf_220 M), .int (0 : Int32)]) (r := []) ri_218_60 rfl (by decide) rm_222.2.2.2 rm_222.2.2.1 rfl rfl rfl (by decide) (ro_kf (kd_163 (hl219 hL q10))) (Nat.le_of_ble_eq_true rfl) (by decide) (by omega) (xs_222 (X := X) (hl219 hL q10) q11) ?_
          rintro _ _ ⟨e1, e2⟩
          rw [e1, e2]
          show ro_w X _ 218 _ 63 [(1, .int (xf_220 M)), (0, .ref 163)] [] (xm_222 (F219 (ro_sI M 163 15 ((M.2.1 163 15) + (1 : Int32)))) (xf_220 M) (0 : Int32)) (0, 0)
          refine rs_goto (t := 4) ri_218_63 rfl ?_
          have e : xg_218_4 F219 (n + 1) M = xg_218_4 F219 n (xm_222 (F219 (ro_sI M 163 15 ((M.2.1 163 15) + (1 : Int32)))) (xf_220 M) (0 : Int32)) := by rw [xg_218_4]; first | (simp only [if_neg h2, if_neg h4, if_pos h9]; done) | rfl
          rw [e] at hk
          exact ro_w_lv (ro_sub_c rfl (ro_sub_n rfl)) (ih (xl_222 (hl219 hL q10) q11)  hp hk)
        · have hp := hp.2 h9
          refine rs_aload_n ri_218_29 rfl rfl ?_
          obtain ⟨q12, hp⟩ := hp
          refine rs_virt (As := []) (r := []) ri_218_30 rfl (by decide) rm_220.2.2.2 rm_220.2.2.1 rfl rfl rfl (by decide) (ro_kf (kd_163 hL)) (Nat.le_of_ble_eq_true rfl) (by decide) (by omega) (xs_220 (X := X) hL q12) ?_
          rintro _ _ ⟨e1, e2⟩
          rw [e1, e2]
          show ro_w X _ 218 _ 33 [(0, .ref 163)] [.int (xf_220 M)] M (0, 0)
          refine rs_bipush (v := (37 : Int32)) ri_218_33 rfl (by decide) ?_
          refine rs_icmp_ne (t := 66) ri_218_35 rfl rfl (fun h14 => ?_) (fun h14 => ?_)
          · skip
            have e : xg_218_4 F219 (n + 1) M = M := by rw [xg_218_4]; first | (simp only [if_neg h2, if_neg h4, if_neg h9, if_neg h14]; done) | rfl
            rw [e] at hk
            exact ro_w_lv (ro_sub_c rfl (ro_sub_n rfl)) hk
          · have hp := hp.1 h14
            refine rs_aload_n ri_218_38 rfl rfl ?_
            obtain ⟨q14, hp⟩ := hp
            refine rs_virt (As := []) (r := []) ri_218_39 rfl (by decide) rm_220.2.2.2 rm_220.2.2.1 rfl rfl rfl (by decide) (ro_kf (kd_163 hL)) (Nat.le_of_ble_eq_true rfl) (by decide) (by omega) (xs_220 (X := X) hL q14) ?_
            rintro _ _ ⟨e1, e2⟩
            rw [e1, e2]
            show ro_w X _ 218 _ 42 [(0, .ref 163)] [.int (xf_220 M)] M (0, 0)
            refine rs_istore_n (lv2 := [(1, .int (xf_220 M)), (0, .ref 163)]) ri_218_42 rfl rm_218.1 (by decide) rfl ?_
            refine rs_aload_n ri_218_43 rfl rfl ?_
            refine rs_dup ri_218_44 rfl rfl ?_
            refine rs_gf (v := .int (M.2.1 163 15)) ri_218_45 rfl (by decide) (ro_kf (kd_163 hL)) rfl rfl ?_
            refine rs_iconst (v := (1 : Int32)) ri_218_48 rfl (by decide) ?_
            refine rs_iadd (r := ((M.2.1 163 15) + (1 : Int32))) ri_218_49 rfl rfl ?_
            refine rs_pf (M2 := (ro_sI M 163 15 ((M.2.1 163 15) + (1 : Int32)))) ri_218_50 rfl (by decide) (ro_kf (kd_163 hL)) (fun h => absurd h (by decide)) (fun f h => h) ?_
            refine rs_aload_n ri_218_53 rfl rfl ?_
            obtain ⟨q15, hp⟩ := hp
            refine rs_virt (As := []) (r := []) ri_218_54 rfl (by decide) rm_219.2.2.2 rm_219.2.2.1 rfl rfl rfl (by decide) (ro_kf (kd_163 hL)) (Nat.le_of_ble_eq_true rfl) (by decide) (by omega) (hF219 hL q15) ?_
            rintro _ _ ⟨e1, e2⟩
            rw [e1, e2]
            show ro_w X _ 218 _ 57 [(1, .int (xf_220 M)), (0, .ref 163)] [] (F219 (ro_sI M 163 15 ((M.2.1 163 15) + (1 : Int32)))) (0, 0)
            refine rs_aload_n ri_218_57 rfl rfl ?_
            refine rs_iload_n ri_218_58 rfl rfl ?_
            refine rs_iconst (v := (0 : Int32)) ri_218_59 rfl (by decide) ?_
            obtain ⟨q16, hp⟩ := hp
            refine rs_virt (As := [.int (xf_220 M), .int (0 : Int32)]) (r := []) ri_218_60 rfl (by decide) rm_222.2.2.2 rm_222.2.2.1 rfl rfl rfl (by decide) (ro_kf (kd_163 (hl219 hL q15))) (Nat.le_of_ble_eq_true rfl) (by decide) (by omega) (xs_222 (X := X) (hl219 hL q15) q16) ?_
            rintro _ _ ⟨e1, e2⟩
            rw [e1, e2]
            show ro_w X _ 218 _ 63 [(1, .int (xf_220 M)), (0, .ref 163)] [] (xm_222 (F219 (ro_sI M 163 15 ((M.2.1 163 15) + (1 : Int32)))) (xf_220 M) (0 : Int32)) (0, 0)
            refine rs_goto (t := 4) ri_218_63 rfl ?_
            have e : xg_218_4 F219 (n + 1) M = xg_218_4 F219 n (xm_222 (F219 (ro_sI M 163 15 ((M.2.1 163 15) + (1 : Int32)))) (xf_220 M) (0 : Int32)) := by rw [xg_218_4]; first | (simp only [if_neg h2, if_neg h4, if_neg h9, if_pos h14]; done) | rfl
            rw [e] at hk
            exact ro_w_lv (ro_sub_c rfl (ro_sub_n rfl)) (ih (xl_222 (hl219 hL q15) q16)  hp hk)
theorem xl_218_4 {X : ro_Sx} {k : Nat} {F219 : ro_Mm → ro_Mm} {P219 : ro_Mm → Prop} (hF219 : ∀ {M : ro_Mm}, ro_lay M → P219 M → ro_cwp X k 219 [.ref 163] M (fun v M2 => v = none ∧ M2 = (F219 M))) (hl219 : ∀ {M : ro_Mm}, ro_lay M → P219 M → ro_lay (F219 M)) : ∀ (n : Nat) {M : ro_Mm} (hL : ro_lay M) (hp : xq_218_4 F219 P219 n M), ro_lay (xg_218_4 F219 n M) := by
  intro n
  induction n with
  | zero => intro M hL hp; exact False.elim hp
  | succ n ih =>
    intro M hL hp
    rw [xq_218_4] at hp
    rw [xg_218_4]
    by_cases hz : (0 : Int32) ≤ (M.2.1 163 16)
    · have hp := hp.1 hz
      rw [if_pos hz]
      exact hL
    · have hp := hp.2 hz
      rw [if_neg hz]
      obtain ⟨q2, hp⟩ := hp
      by_cases hz : (xf_220 M) = (42 : Int32)
      · have hp := hp.1 hz
        rw [if_pos hz]
        obtain ⟨q4, hp⟩ := hp
        obtain ⟨q5, hp⟩ := hp
        obtain ⟨q6, hp⟩ := hp
        exact ih (xl_222 (hl219 hL q5) q6)  hp
      · have hp := hp.2 hz
        rw [if_neg hz]
        obtain ⟨q7, hp⟩ := hp
        by_cases hz : (xf_220 M) = (47 : Int32)
        · have hp := hp.1 hz
          rw [if_pos hz]
          obtain ⟨q9, hp⟩ := hp
          obtain ⟨q10, hp⟩ := hp
          obtain ⟨q11, hp⟩ := hp
          exact ih (xl_222 (hl219 hL q10) q11)  hp
        · have hp := hp.2 hz
          rw [if_neg hz]
          obtain ⟨q12, hp⟩ := hp
          by_cases hz : (xf_220 M) = (37 : Int32)
          · have hp := hp.1 hz
            rw [if_pos hz]
            obtain ⟨q14, hp⟩ := hp
            obtain ⟨q15, hp⟩ := hp
            obtain ⟨q16, hp⟩ := hp
            exact ih (xl_222 (hl219 hL q15) q16)  hp
          · have hp := hp.2 hz
            rw [if_neg hz]
            exact hL
/-- RefusedOnceModel.product()V -/
noncomputable def xm_218 (F219 : ro_Mm → ro_Mm) (M : ro_Mm) : ro_Mm := (xg_218_4 F219 lp_N (F219 M))
def xp_218 (F219 : ro_Mm → ro_Mm) (P219 : ro_Mm → Prop) (M : ro_Mm) : Prop := (P219 M ∧ (xq_218_4 F219 P219 lp_N (F219 M) ∧ True))
theorem xs_218 {X : ro_Sx} {k : Nat} {F219 : ro_Mm → ro_Mm} {P219 : ro_Mm → Prop} (hF219 : ∀ {M : ro_Mm}, ro_lay M → P219 M → ro_cwp X k 219 [.ref 163] M (fun v M2 => v = none ∧ M2 = (F219 M))) (hl219 : ∀ {M : ro_Mm}, ro_lay M → P219 M → ro_lay (F219 M)) {M : ro_Mm} (hL : ro_lay M) (hp : xp_218 F219 P219 M) : ro_cwp X (k + 2) 218 [.ref 163] M (fun v M2 => v = none ∧ M2 = xm_218 F219 M) := by
  refine rs_begin (lv0 := [(0, .ref 163)]) (by decide) rfl (by rw [rm_218.1]; exact Nat.le_of_ble_eq_true rfl) rfl ?_
  unfold xp_218 at hp
  refine rs_aload_n ri_218_0 rfl rfl ?_
  obtain ⟨q0, hp⟩ := hp
  refine rs_virt (As := []) (r := []) ri_218_1 rfl (by decide) rm_219.2.2.2 rm_219.2.2.1 rfl rfl rfl (by decide) (ro_kf (kd_163 hL)) (Nat.le_of_ble_eq_true rfl) (by decide) (by omega) (hF219 hL q0) ?_
  rintro _ _ ⟨e1, e2⟩
  rw [e1, e2]
  show ro_w X _ 218 _ 4 [(0, .ref 163)] [] (F219 M) (0, 0)
  obtain ⟨q17, hp⟩ := hp
  refine xt_218_4 hF219 hl219 lp_N (hl219 hL q0) q17 ?_
  refine rs_ret ri_218_66 rm_218.2.1 (by decide) ?_
  exact ⟨by rfl, by rfl⟩
theorem xl_218 {X : ro_Sx} {k : Nat} {F219 : ro_Mm → ro_Mm} {P219 : ro_Mm → Prop} (hF219 : ∀ {M : ro_Mm}, ro_lay M → P219 M → ro_cwp X k 219 [.ref 163] M (fun v M2 => v = none ∧ M2 = (F219 M))) (hl219 : ∀ {M : ro_Mm}, ro_lay M → P219 M → ro_lay (F219 M)) {M : ro_Mm} (hL : ro_lay M) (hp : xp_218 F219 P219 M) : ro_lay (xm_218 F219 M) := by
  unfold xp_218 at hp
  unfold xm_218
  obtain ⟨q0, hp⟩ := hp
  obtain ⟨q17, hp⟩ := hp
  first | exact (xl_218_4 hF219 hl219 lp_N (hl219 hL q0) q17) | (have hl := (xl_218_4 hF219 hl219 lp_N (hl219 hL q0) q17); exact hl)
/-- a loop of RefusedOnceModel.sum()V -/
noncomputable def xg_217_4 (F219 : ro_Mm → ro_Mm) : Nat → ro_Mm → ro_Mm
  | 0, M => M
  | n + 1, M => (if (0 : Int32) ≤ (M.2.1 163 16) then M else (if (xf_220 M) = (43 : Int32) then (xg_217_4 F219 n (xm_222 (xm_218 F219 (ro_sI M 163 15 ((M.2.1 163 15) + (1 : Int32)))) (xf_220 M) (0 : Int32))) else (if (xf_220 M) = (45 : Int32) then (xg_217_4 F219 n (xm_222 (xm_218 F219 (ro_sI M 163 15 ((M.2.1 163 15) + (1 : Int32)))) (xf_220 M) (0 : Int32))) else M)))
def xq_217_4 (F219 : ro_Mm → ro_Mm) (P219 : ro_Mm → Prop) : Nat → ro_Mm → Prop
  | 0, _ => False
  | n + 1, M => (((0 : Int32) ≤ (M.2.1 163 16) → True) ∧ (¬ ((0 : Int32) ≤ (M.2.1 163 16)) → (xp_220 M ∧ (((xf_220 M) = (43 : Int32) → (xp_220 M ∧ (xp_218 F219 P219 (ro_sI M 163 15 ((M.2.1 163 15) + (1 : Int32))) ∧ (xp_222 (xm_218 F219 (ro_sI M 163 15 ((M.2.1 163 15) + (1 : Int32)))) (xf_220 M) (0 : Int32) ∧ (xq_217_4 F219 P219 n (xm_222 (xm_218 F219 (ro_sI M 163 15 ((M.2.1 163 15) + (1 : Int32)))) (xf_220 M) (0 : Int32))))))) ∧ (¬ ((xf_220 M) = (43 : Int32)) → (xp_220 M ∧ (((xf_220 M) = (45 : Int32) → (xp_220 M ∧ (xp_218 F219 P219 (ro_sI M 163 15 ((M.2.1 163 15) + (1 : Int32))) ∧ (xp_222 (xm_218 F219 (ro_sI M 163 15 ((M.2.1 163 15) + (1 : Int32)))) (xf_220 M) (0 : Int32) ∧ (xq_217_4 F219 P219 n (xm_222 (xm_218 F219 (ro_sI M 163 15 ((M.2.1 163 15) + (1 : Int32)))) (xf_220 M) (0 : Int32))))))) ∧ (¬ ((xf_220 M) = (45 : Int32)) → True))))))))
theorem xt_217_4 {X : ro_Sx} {post : ro_Po} {k : Nat} {F219 : ro_Mm → ro_Mm} {P219 : ro_Mm → Prop} (hF219 : ∀ {M : ro_Mm}, ro_lay M → P219 M → ro_cwp X k 219 [.ref 163] M (fun v M2 => v = none ∧ M2 = (F219 M))) (hl219 : ∀ {M : ro_Mm}, ro_lay M → P219 M → ro_lay (F219 M)) : ∀ (n : Nat) {M : ro_Mm} (hL : ro_lay M) (hp : xq_217_4 F219 P219 n M) (hk : ro_w X (k + 2) 217 post 57 [(0, .ref 163)] [] (xg_217_4 F219 n M) (0, 0)), ro_w X (k + 2) 217 post 4 [(0, .ref 163)] [] M (0, 0) := by
  intro n
  induction n with
  | zero => intro M hL hp hk; exact False.elim hp
  | succ n ih =>
    intro M hL hp hk
    rw [xq_217_4] at hp
    refine rs_aload_n ri_217_4 rfl rfl ?_
    refine rs_gf (v := .int (M.2.1 163 16)) ri_217_5 rfl (by decide) (ro_kf (kd_163 hL)) rfl rfl ?_
    refine rs_if_ge (t := 57) ri_217_8 rfl rfl (fun h2 => ?_) (fun h2 => ?_)
    · skip
      have e : xg_217_4 F219 (n + 1) M = M := by rw [xg_217_4]; first | (simp only [if_pos h2]; done) | rfl
      rw [e] at hk
      exact ro_w_lv (ro_sub_c rfl (ro_sub_n rfl)) hk
    · have hp := hp.2 h2
      refine rs_aload_n ri_217_11 rfl rfl ?_
      obtain ⟨q2, hp⟩ := hp
      refine rs_virt (As := []) (r := []) ri_217_12 rfl (by decide) rm_220.2.2.2 rm_220.2.2.1 rfl rfl rfl (by decide) (ro_kf (kd_163 hL)) (Nat.le_of_ble_eq_true rfl) (by decide) (by omega) (xs_220 (X := X) hL q2) ?_
      rintro _ _ ⟨e1, e2⟩
      rw [e1, e2]
      show ro_w X _ 217 _ 15 [(0, .ref 163)] [.int (xf_220 M)] M (0, 0)
      refine rs_bipush (v := (43 : Int32)) ri_217_15 rfl (by decide) ?_
      refine rs_icmp_eq (t := 29) ri_217_17 rfl rfl (fun h4 => ?_) (fun h4 => ?_)
      · have hp := hp.1 h4
        refine rs_aload_n ri_217_29 rfl rfl ?_
        obtain ⟨q4, hp⟩ := hp
        refine rs_virt (As := []) (r := []) ri_217_30 rfl (by decide) rm_220.2.2.2 rm_220.2.2.1 rfl rfl rfl (by decide) (ro_kf (kd_163 hL)) (Nat.le_of_ble_eq_true rfl) (by decide) (by omega) (xs_220 (X := X) hL q4) ?_
        rintro _ _ ⟨e1, e2⟩
        rw [e1, e2]
        show ro_w X _ 217 _ 33 [(0, .ref 163)] [.int (xf_220 M)] M (0, 0)
        refine rs_istore_n (lv2 := [(1, .int (xf_220 M)), (0, .ref 163)]) ri_217_33 rfl rm_217.1 (by decide) rfl ?_
        refine rs_aload_n ri_217_34 rfl rfl ?_
        refine rs_dup ri_217_35 rfl rfl ?_
        refine rs_gf (v := .int (M.2.1 163 15)) ri_217_36 rfl (by decide) (ro_kf (kd_163 hL)) rfl rfl ?_
        refine rs_iconst (v := (1 : Int32)) ri_217_39 rfl (by decide) ?_
        refine rs_iadd (r := ((M.2.1 163 15) + (1 : Int32))) ri_217_40 rfl rfl ?_
        refine rs_pf (M2 := (ro_sI M 163 15 ((M.2.1 163 15) + (1 : Int32)))) ri_217_41 rfl (by decide) (ro_kf (kd_163 hL)) (fun h => absurd h (by decide)) (fun f h => h) ?_
        refine rs_aload_n ri_217_44 rfl rfl ?_
        obtain ⟨q5, hp⟩ := hp
        refine rs_virt (As := []) (r := []) ri_217_45 rfl (by decide) rm_218.2.2.2 rm_218.2.2.1 rfl rfl rfl (by decide) (ro_kf (kd_163 hL)) (Nat.le_of_ble_eq_true rfl) (by decide) (by omega) (xs_218 (X := X) hF219 hl219 hL q5) ?_
        rintro _ _ ⟨e1, e2⟩
        rw [e1, e2]
        show ro_w X _ 217 _ 48 [(1, .int (xf_220 M)), (0, .ref 163)] [] (xm_218 F219 (ro_sI M 163 15 ((M.2.1 163 15) + (1 : Int32)))) (0, 0)
        refine rs_aload_n ri_217_48 rfl rfl ?_
        refine rs_iload_n ri_217_49 rfl rfl ?_
        refine rs_iconst (v := (0 : Int32)) ri_217_50 rfl (by decide) ?_
        obtain ⟨q6, hp⟩ := hp
        refine rs_virt (As := [.int (xf_220 M), .int (0 : Int32)]) (r := []) ri_217_51 rfl (by decide) rm_222.2.2.2 rm_222.2.2.1 rfl rfl rfl (by decide) (ro_kf (kd_163 (xl_218 hF219 hl219 hL q5))) (Nat.le_of_ble_eq_true rfl) (by decide) (by omega) (xs_222 (X := X) (xl_218 hF219 hl219 hL q5) q6) ?_
        rintro _ _ ⟨e1, e2⟩
        rw [e1, e2]
        show ro_w X _ 217 _ 54 [(1, .int (xf_220 M)), (0, .ref 163)] [] (xm_222 (xm_218 F219 (ro_sI M 163 15 ((M.2.1 163 15) + (1 : Int32)))) (xf_220 M) (0 : Int32)) (0, 0)
        refine rs_goto (t := 4) ri_217_54 rfl ?_
        have e : xg_217_4 F219 (n + 1) M = xg_217_4 F219 n (xm_222 (xm_218 F219 (ro_sI M 163 15 ((M.2.1 163 15) + (1 : Int32)))) (xf_220 M) (0 : Int32)) := by rw [xg_217_4]; first | (simp only [if_neg h2, if_pos h4]; done) | rfl
        rw [e] at hk
        exact ro_w_lv (ro_sub_c rfl (ro_sub_n rfl)) (ih (xl_222 (xl_218 hF219 hl219 hL q5) q6)  hp hk)
      · have hp := hp.2 h4
        refine rs_aload_n ri_217_20 rfl rfl ?_
        obtain ⟨q7, hp⟩ := hp
        refine rs_virt (As := []) (r := []) ri_217_21 rfl (by decide) rm_220.2.2.2 rm_220.2.2.1 rfl rfl rfl (by decide) (ro_kf (kd_163 hL)) (Nat.le_of_ble_eq_true rfl) (by decide) (by omega) (xs_220 (X := X) hL q7) ?_
        rintro _ _ ⟨e1, e2⟩
        rw [e1, e2]
        show ro_w X _ 217 _ 24 [(0, .ref 163)] [.int (xf_220 M)] M (0, 0)
        refine rs_bipush (v := (45 : Int32)) ri_217_24 rfl (by decide) ?_
        refine rs_icmp_ne (t := 57) ri_217_26 rfl rfl (fun h9 => ?_) (fun h9 => ?_)
        · skip
          have e : xg_217_4 F219 (n + 1) M = M := by rw [xg_217_4]; first | (simp only [if_neg h2, if_neg h4, if_neg h9]; done) | rfl
          rw [e] at hk
          exact ro_w_lv (ro_sub_c rfl (ro_sub_n rfl)) hk
        · have hp := hp.1 h9
          refine rs_aload_n ri_217_29 rfl rfl ?_
          obtain ⟨q9, hp⟩ := hp
          refine rs_virt (As := []) (r := []) ri_217_30 rfl (by decide) rm_220.2.2.2 rm_220.2.2.1 rfl rfl rfl (by decide) (ro_kf (kd_163 hL)) (Nat.le_of_ble_eq_true rfl) (by decide) (by omega) (xs_220 (X := X) hL q9) ?_
          rintro _ _ ⟨e1, e2⟩
          rw [e1, e2]
          show ro_w X _ 217 _ 33 [(0, .ref 163)] [.int (xf_220 M)] M (0, 0)
          refine rs_istore_n (lv2 := [(1, .int (xf_220 M)), (0, .ref 163)]) ri_217_33 rfl rm_217.1 (by decide) rfl ?_
          refine rs_aload_n ri_217_34 rfl rfl ?_
          refine rs_dup ri_217_35 rfl rfl ?_
          refine rs_gf (v := .int (M.2.1 163 15)) ri_217_36 rfl (by decide) (ro_kf (kd_163 hL)) rfl rfl ?_
          refine rs_iconst (v := (1 : Int32)) ri_217_39 rfl (by decide) ?_
          refine rs_iadd (r := ((M.2.1 163 15) + (1 : Int32))) ri_217_40 rfl rfl ?_
          refine rs_pf (M2 := (ro_sI M 163 15 ((M.2.1 163 15) + (1 : Int32)))) ri_217_41 rfl (by decide) (ro_kf (kd_163 hL)) (fun h => absurd h (by decide)) (fun f h => h) ?_
          refine rs_aload_n ri_217_44 rfl rfl ?_
          obtain ⟨q10, hp⟩ := hp
          refine rs_virt (As := []) (r := []) ri_217_45 rfl (by decide) rm_218.2.2.2 rm_218.2.2.1 rfl rfl rfl (by decide) (ro_kf (kd_163 hL)) (Nat.le_of_ble_eq_true rfl) (by decide) (by omega) (xs_218 (X := X) hF219 hl219 hL q10) ?_
          rintro _ _ ⟨e1, e2⟩
          rw [e1, e2]
          show ro_w X _ 217 _ 48 [(1, .int (xf_220 M)), (0, .ref 163)] [] (xm_218 F219 (ro_sI M 163 15 ((M.2.1 163 15) + (1 : Int32)))) (0, 0)
          refine rs_aload_n ri_217_48 rfl rfl ?_
          refine rs_iload_n ri_217_49 rfl rfl ?_
          refine rs_iconst (v := (0 : Int32)) ri_217_50 rfl (by decide) ?_
          obtain ⟨q11, hp⟩ := hp
          refine rs_virt (As := [.int (xf_220 M), .int (0 : Int32)]) (r := []) ri_217_51 rfl (by decide) rm_222.2.2.2 rm_222.2.2.1 rfl rfl rfl (by decide) (ro_kf (kd_163 (xl_218 hF219 hl219 hL q10))) (Nat.le_of_ble_eq_true rfl) (by decide) (by omega) (xs_222 (X := X) (xl_218 hF219 hl219 hL q10) q11) ?_
          rintro _ _ ⟨e1, e2⟩
          rw [e1, e2]
          show ro_w X _ 217 _ 54 [(1, .int (xf_220 M)), (0, .ref 163)] [] (xm_222 (xm_218 F219 (ro_sI M 163 15 ((M.2.1 163 15) + (1 : Int32)))) (xf_220 M) (0 : Int32)) (0, 0)
          refine rs_goto (t := 4) ri_217_54 rfl ?_
          have e : xg_217_4 F219 (n + 1) M = xg_217_4 F219 n (xm_222 (xm_218 F219 (ro_sI M 163 15 ((M.2.1 163 15) + (1 : Int32)))) (xf_220 M) (0 : Int32)) := by rw [xg_217_4]; first | (simp only [if_neg h2, if_neg h4, if_pos h9]; done) | rfl
          rw [e] at hk
          exact ro_w_lv (ro_sub_c rfl (ro_sub_n rfl)) (ih (xl_222 (xl_218 hF219 hl219 hL q10) q11)  hp hk)
theorem xl_217_4 {X : ro_Sx} {k : Nat} {F219 : ro_Mm → ro_Mm} {P219 : ro_Mm → Prop} (hF219 : ∀ {M : ro_Mm}, ro_lay M → P219 M → ro_cwp X k 219 [.ref 163] M (fun v M2 => v = none ∧ M2 = (F219 M))) (hl219 : ∀ {M : ro_Mm}, ro_lay M → P219 M → ro_lay (F219 M)) : ∀ (n : Nat) {M : ro_Mm} (hL : ro_lay M) (hp : xq_217_4 F219 P219 n M), ro_lay (xg_217_4 F219 n M) := by
  intro n
  induction n with
  | zero => intro M hL hp; exact False.elim hp
  | succ n ih =>
    intro M hL hp
    rw [xq_217_4] at hp
    rw [xg_217_4]
    by_cases hz : (0 : Int32) ≤ (M.2.1 163 16)
    · have hp := hp.1 hz
      rw [if_pos hz]
      exact hL
    · have hp := hp.2 hz
      rw [if_neg hz]
      obtain ⟨q2, hp⟩ := hp
      by_cases hz : (xf_220 M) = (43 : Int32)
      · have hp := hp.1 hz
        rw [if_pos hz]
        obtain ⟨q4, hp⟩ := hp
        obtain ⟨q5, hp⟩ := hp
        obtain ⟨q6, hp⟩ := hp
        exact ih (xl_222 (xl_218 hF219 hl219 hL q5) q6)  hp
      · have hp := hp.2 hz
        rw [if_neg hz]
        obtain ⟨q7, hp⟩ := hp
        by_cases hz : (xf_220 M) = (45 : Int32)
        · have hp := hp.1 hz
          rw [if_pos hz]
          obtain ⟨q9, hp⟩ := hp
          obtain ⟨q10, hp⟩ := hp
          obtain ⟨q11, hp⟩ := hp
          exact ih (xl_222 (xl_218 hF219 hl219 hL q10) q11)  hp
        · have hp := hp.2 hz
          rw [if_neg hz]
          exact hL
/-- RefusedOnceModel.sum()V -/
noncomputable def xm_217 (F219 : ro_Mm → ro_Mm) (M : ro_Mm) : ro_Mm := (xg_217_4 F219 lp_N (xm_218 F219 M))
def xp_217 (F219 : ro_Mm → ro_Mm) (P219 : ro_Mm → Prop) (M : ro_Mm) : Prop := (xp_218 F219 P219 M ∧ (xq_217_4 F219 P219 lp_N (xm_218 F219 M) ∧ True))
theorem xs_217 {X : ro_Sx} {k : Nat} {F219 : ro_Mm → ro_Mm} {P219 : ro_Mm → Prop} (hF219 : ∀ {M : ro_Mm}, ro_lay M → P219 M → ro_cwp X k 219 [.ref 163] M (fun v M2 => v = none ∧ M2 = (F219 M))) (hl219 : ∀ {M : ro_Mm}, ro_lay M → P219 M → ro_lay (F219 M)) {M : ro_Mm} (hL : ro_lay M) (hp : xp_217 F219 P219 M) : ro_cwp X (k + 3) 217 [.ref 163] M (fun v M2 => v = none ∧ M2 = xm_217 F219 M) := by
  refine rs_begin (lv0 := [(0, .ref 163)]) (by decide) rfl (by rw [rm_217.1]; exact Nat.le_of_ble_eq_true rfl) rfl ?_
  unfold xp_217 at hp
  refine rs_aload_n ri_217_0 rfl rfl ?_
  obtain ⟨q0, hp⟩ := hp
  refine rs_virt (As := []) (r := []) ri_217_1 rfl (by decide) rm_218.2.2.2 rm_218.2.2.1 rfl rfl rfl (by decide) (ro_kf (kd_163 hL)) (Nat.le_of_ble_eq_true rfl) (by decide) (by omega) (xs_218 (X := X) hF219 hl219 hL q0) ?_
  rintro _ _ ⟨e1, e2⟩
  rw [e1, e2]
  show ro_w X _ 217 _ 4 [(0, .ref 163)] [] (xm_218 F219 M) (0, 0)
  obtain ⟨q12, hp⟩ := hp
  refine xt_217_4 hF219 hl219 lp_N (xl_218 hF219 hl219 hL q0) q12 ?_
  refine rs_ret ri_217_57 rm_217.2.1 (by decide) ?_
  exact ⟨by rfl, by rfl⟩
theorem xl_217 {X : ro_Sx} {k : Nat} {F219 : ro_Mm → ro_Mm} {P219 : ro_Mm → Prop} (hF219 : ∀ {M : ro_Mm}, ro_lay M → P219 M → ro_cwp X k 219 [.ref 163] M (fun v M2 => v = none ∧ M2 = (F219 M))) (hl219 : ∀ {M : ro_Mm}, ro_lay M → P219 M → ro_lay (F219 M)) {M : ro_Mm} (hL : ro_lay M) (hp : xp_217 F219 P219 M) : ro_lay (xm_217 F219 M) := by
  unfold xp_217 at hp
  unfold xm_217
  obtain ⟨q0, hp⟩ := hp
  obtain ⟨q12, hp⟩ := hp
  first | exact (xl_217_4 hF219 hl219 lp_N (xl_218 hF219 hl219 hL q0) q12) | (have hl := (xl_217_4 hF219 hl219 lp_N (xl_218 hF219 hl219 hL q0) q12); exact hl)
/-- RefusedOnceModel.compared()V -/
noncomputable def xm_216 (F219 : ro_Mm → ro_Mm) (M : ro_Mm) : ro_Mm := (if (0 : Int32) ≤ ((xm_217 F219 M).2.1 163 16) then (xm_217 F219 M) else (if (xf_220 (xm_217 F219 M)) = (60 : Int32) then (xm_222 (xm_217 F219 (ro_sI (xm_217 F219 M) 163 15 (((xm_217 F219 M).2.1 163 15) + (1 : Int32)))) (xf_220 (xm_217 F219 M)) (0 : Int32)) else (if (xf_220 (xm_217 F219 M)) = (61 : Int32) then (xm_222 (xm_217 F219 (ro_sI (xm_217 F219 M) 163 15 (((xm_217 F219 M).2.1 163 15) + (1 : Int32)))) (xf_220 (xm_217 F219 M)) (0 : Int32)) else (if (xf_220 (xm_217 F219 M)) = (62 : Int32) then (xm_222 (xm_217 F219 (ro_sI (xm_217 F219 M) 163 15 (((xm_217 F219 M).2.1 163 15) + (1 : Int32)))) (xf_220 (xm_217 F219 M)) (0 : Int32)) else (xm_217 F219 M)))))
def xp_216 (F219 : ro_Mm → ro_Mm) (P219 : ro_Mm → Prop) (M : ro_Mm) : Prop := (xp_217 F219 P219 M ∧ (xp_220 (xm_217 F219 M) ∧ (((0 : Int32) ≤ ((xm_217 F219 M).2.1 163 16) → True) ∧ (¬ ((0 : Int32) ≤ ((xm_217 F219 M).2.1 163 16)) → (((xf_220 (xm_217 F219 M)) = (60 : Int32) → (xp_217 F219 P219 (ro_sI (xm_217 F219 M) 163 15 (((xm_217 F219 M).2.1 163 15) + (1 : Int32))) ∧ (xp_222 (xm_217 F219 (ro_sI (xm_217 F219 M) 163 15 (((xm_217 F219 M).2.1 163 15) + (1 : Int32)))) (xf_220 (xm_217 F219 M)) (0 : Int32) ∧ True))) ∧ (¬ ((xf_220 (xm_217 F219 M)) = (60 : Int32)) → (((xf_220 (xm_217 F219 M)) = (61 : Int32) → (xp_217 F219 P219 (ro_sI (xm_217 F219 M) 163 15 (((xm_217 F219 M).2.1 163 15) + (1 : Int32))) ∧ (xp_222 (xm_217 F219 (ro_sI (xm_217 F219 M) 163 15 (((xm_217 F219 M).2.1 163 15) + (1 : Int32)))) (xf_220 (xm_217 F219 M)) (0 : Int32) ∧ True))) ∧ (¬ ((xf_220 (xm_217 F219 M)) = (61 : Int32)) → (((xf_220 (xm_217 F219 M)) = (62 : Int32) → (xp_217 F219 P219 (ro_sI (xm_217 F219 M) 163 15 (((xm_217 F219 M).2.1 163 15) + (1 : Int32))) ∧ (xp_222 (xm_217 F219 (ro_sI (xm_217 F219 M) 163 15 (((xm_217 F219 M).2.1 163 15) + (1 : Int32)))) (xf_220 (xm_217 F219 M)) (0 : Int32) ∧ True))) ∧ (¬ ((xf_220 (xm_217 F219 M)) = (62 : Int32)) → True))))))))))
theorem xs_216 {X : ro_Sx} {k : Nat} {F219 : ro_Mm → ro_Mm} {P219 : ro_Mm → Prop} (hF219 : ∀ {M : ro_Mm}, ro_lay M → P219 M → ro_cwp X k 219 [.ref 163] M (fun v M2 => v = none ∧ M2 = (F219 M))) (hl219 : ∀ {M : ro_Mm}, ro_lay M → P219 M → ro_lay (F219 M)) {M : ro_Mm} (hL : ro_lay M) (hp : xp_216 F219 P219 M) : ro_cwp X (k + 4) 216 [.ref 163] M (fun v M2 => v = none ∧ M2 = xm_216 F219 M) := by
  refine rs_begin (lv0 := [(0, .ref 163)]) (by decide) rfl (by rw [rm_216.1]; exact Nat.le_of_ble_eq_true rfl) rfl ?_
  unfold xp_216 at hp
  refine rs_aload_n ri_216_0 rfl rfl ?_
  obtain ⟨q0, hp⟩ := hp
  refine rs_virt (As := []) (r := []) ri_216_1 rfl (by decide) rm_217.2.2.2 rm_217.2.2.1 rfl rfl rfl (by decide) (ro_kf (kd_163 hL)) (Nat.le_of_ble_eq_true rfl) (by decide) (by omega) (xs_217 (X := X) hF219 hl219 hL q0) ?_
  rintro _ _ ⟨e1, e2⟩
  rw [e1, e2]
  show ro_w X _ 216 _ 4 [(0, .ref 163)] [] (xm_217 F219 M) (0, 0)
  refine rs_aload_n ri_216_4 rfl rfl ?_
  obtain ⟨q1, hp⟩ := hp
  refine rs_virt (As := []) (r := []) ri_216_5 rfl (by decide) rm_220.2.2.2 rm_220.2.2.1 rfl rfl rfl (by decide) (ro_kf (kd_163 (xl_217 hF219 hl219 hL q0))) (Nat.le_of_ble_eq_true rfl) (by decide) (by omega) (xs_220 (X := X) (xl_217 hF219 hl219 hL q0) q1) ?_
  rintro _ _ ⟨e1, e2⟩
  rw [e1, e2]
  show ro_w X _ 216 _ 8 [(0, .ref 163)] [.int (xf_220 (xm_217 F219 M))] (xm_217 F219 M) (0, 0)
  refine rs_istore_n (lv2 := [(1, .int (xf_220 (xm_217 F219 M))), (0, .ref 163)]) ri_216_8 rfl rm_216.1 (by decide) rfl ?_
  refine rs_aload_n ri_216_9 rfl rfl ?_
  refine rs_gf (v := .int ((xm_217 F219 M).2.1 163 16)) ri_216_10 rfl (by decide) (ro_kf (kd_163 (xl_217 hF219 hl219 hL q0))) rfl rfl ?_
  refine rs_if_ge (t := 34) ri_216_13 rfl rfl (fun h3 => ?_) (fun h3 => ?_)
  · have hp := hp.1 h3
    refine rs_ret ri_216_34 rm_216.2.1 (by decide) ?_
    exact ⟨by rfl, by unfold xm_216; first | (simp only [if_pos h3]; done) | rfl⟩
  · have hp := hp.2 h3
    refine rs_iload_n ri_216_16 rfl rfl ?_
    refine rs_bipush (v := (60 : Int32)) ri_216_17 rfl (by decide) ?_
    refine rs_icmp_eq (t := 35) ri_216_19 rfl rfl (fun h4 => ?_) (fun h4 => ?_)
    · have hp := hp.1 h4
      refine rs_aload_n ri_216_35 rfl rfl ?_
      refine rs_dup ri_216_36 rfl rfl ?_
      refine rs_gf (v := .int ((xm_217 F219 M).2.1 163 15)) ri_216_37 rfl (by decide) (ro_kf (kd_163 (xl_217 hF219 hl219 hL q0))) rfl rfl ?_
      refine rs_iconst (v := (1 : Int32)) ri_216_40 rfl (by decide) ?_
      refine rs_iadd (r := (((xm_217 F219 M).2.1 163 15) + (1 : Int32))) ri_216_41 rfl rfl ?_
      refine rs_pf (M2 := (ro_sI (xm_217 F219 M) 163 15 (((xm_217 F219 M).2.1 163 15) + (1 : Int32)))) ri_216_42 rfl (by decide) (ro_kf (kd_163 (xl_217 hF219 hl219 hL q0))) (fun h => absurd h (by decide)) (fun f h => h) ?_
      refine rs_aload_n ri_216_45 rfl rfl ?_
      obtain ⟨q4, hp⟩ := hp
      refine rs_virt (As := []) (r := []) ri_216_46 rfl (by decide) rm_217.2.2.2 rm_217.2.2.1 rfl rfl rfl (by decide) (ro_kf (kd_163 (xl_217 hF219 hl219 hL q0))) (Nat.le_of_ble_eq_true rfl) (by decide) (by omega) (xs_217 (X := X) hF219 hl219 (xl_217 hF219 hl219 hL q0) q4) ?_
      rintro _ _ ⟨e1, e2⟩
      rw [e1, e2]
      show ro_w X _ 216 _ 49 [(1, .int (xf_220 (xm_217 F219 M))), (0, .ref 163)] [] (xm_217 F219 (ro_sI (xm_217 F219 M) 163 15 (((xm_217 F219 M).2.1 163 15) + (1 : Int32)))) (0, 0)
      refine rs_aload_n ri_216_49 rfl rfl ?_
      refine rs_iload_n ri_216_50 rfl rfl ?_
      refine rs_iconst (v := (0 : Int32)) ri_216_51 rfl (by decide) ?_
      obtain ⟨q5, hp⟩ := hp
      refine rs_virt (As := [.int (xf_220 (xm_217 F219 M)), .int (0 : Int32)]) (r := []) ri_216_52 rfl (by decide) rm_222.2.2.2 rm_222.2.2.1 rfl rfl rfl (by decide) (ro_kf (kd_163 (xl_217 hF219 hl219 (xl_217 hF219 hl219 hL q0) q4))) (Nat.le_of_ble_eq_true rfl) (by decide) (by omega) (xs_222 (X := X) (xl_217 hF219 hl219 (xl_217 hF219 hl219 hL q0) q4) q5) ?_
      rintro _ _ ⟨e1, e2⟩
      rw [e1, e2]
      show ro_w X _ 216 _ 55 [(1, .int (xf_220 (xm_217 F219 M))), (0, .ref 163)] [] (xm_222 (xm_217 F219 (ro_sI (xm_217 F219 M) 163 15 (((xm_217 F219 M).2.1 163 15) + (1 : Int32)))) (xf_220 (xm_217 F219 M)) (0 : Int32)) (0, 0)
      refine rs_ret ri_216_55 rm_216.2.1 (by decide) ?_
      exact ⟨by rfl, by unfold xm_216; first | (simp only [if_neg h3, if_pos h4]; done) | rfl⟩
    · have hp := hp.2 h4
      refine rs_iload_n ri_216_22 rfl rfl ?_
      refine rs_bipush (v := (61 : Int32)) ri_216_23 rfl (by decide) ?_
      refine rs_icmp_eq (t := 35) ri_216_25 rfl rfl (fun h7 => ?_) (fun h7 => ?_)
      · have hp := hp.1 h7
        refine rs_aload_n ri_216_35 rfl rfl ?_
        refine rs_dup ri_216_36 rfl rfl ?_
        refine rs_gf (v := .int ((xm_217 F219 M).2.1 163 15)) ri_216_37 rfl (by decide) (ro_kf (kd_163 (xl_217 hF219 hl219 hL q0))) rfl rfl ?_
        refine rs_iconst (v := (1 : Int32)) ri_216_40 rfl (by decide) ?_
        refine rs_iadd (r := (((xm_217 F219 M).2.1 163 15) + (1 : Int32))) ri_216_41 rfl rfl ?_
        refine rs_pf (M2 := (ro_sI (xm_217 F219 M) 163 15 (((xm_217 F219 M).2.1 163 15) + (1 : Int32)))) ri_216_42 rfl (by decide) (ro_kf (kd_163 (xl_217 hF219 hl219 hL q0))) (fun h => absurd h (by decide)) (fun f h => h) ?_
        refine rs_aload_n ri_216_45 rfl rfl ?_
        obtain ⟨q7, hp⟩ := hp
        refine rs_virt (As := []) (r := []) ri_216_46 rfl (by decide) rm_217.2.2.2 rm_217.2.2.1 rfl rfl rfl (by decide) (ro_kf (kd_163 (xl_217 hF219 hl219 hL q0))) (Nat.le_of_ble_eq_true rfl) (by decide) (by omega) (xs_217 (X := X) hF219 hl219 (xl_217 hF219 hl219 hL q0) q7) ?_
        rintro _ _ ⟨e1, e2⟩
        rw [e1, e2]
        show ro_w X _ 216 _ 49 [(1, .int (xf_220 (xm_217 F219 M))), (0, .ref 163)] [] (xm_217 F219 (ro_sI (xm_217 F219 M) 163 15 (((xm_217 F219 M).2.1 163 15) + (1 : Int32)))) (0, 0)
        refine rs_aload_n ri_216_49 rfl rfl ?_
        refine rs_iload_n ri_216_50 rfl rfl ?_
        refine rs_iconst (v := (0 : Int32)) ri_216_51 rfl (by decide) ?_
        obtain ⟨q8, hp⟩ := hp
        refine rs_virt (As := [.int (xf_220 (xm_217 F219 M)), .int (0 : Int32)]) (r := []) ri_216_52 rfl (by decide) rm_222.2.2.2 rm_222.2.2.1 rfl rfl rfl (by decide) (ro_kf (kd_163 (xl_217 hF219 hl219 (xl_217 hF219 hl219 hL q0) q7))) (Nat.le_of_ble_eq_true rfl) (by decide) (by omega) (xs_222 (X := X) (xl_217 hF219 hl219 (xl_217 hF219 hl219 hL q0) q7) q8) ?_
        rintro _ _ ⟨e1, e2⟩
        rw [e1, e2]
        show ro_w X _ 216 _ 55 [(1, .int (xf_220 (xm_217 F219 M))), (0, .ref 163)] [] (xm_222 (xm_217 F219 (ro_sI (xm_217 F219 M) 163 15 (((xm_217 F219 M).2.1 163 15) + (1 : Int32)))) (xf_220 (xm_217 F219 M)) (0 : Int32)) (0, 0)
        refine rs_ret ri_216_55 rm_216.2.1 (by decide) ?_
        exact ⟨by rfl, by unfold xm_216; first | (simp only [if_neg h3, if_neg h4, if_pos h7]; done) | rfl⟩
      · have hp := hp.2 h7
        refine rs_iload_n ri_216_28 rfl rfl ?_
        refine rs_bipush (v := (62 : Int32)) ri_216_29 rfl (by decide) ?_
        refine rs_icmp_eq (t := 35) ri_216_31 rfl rfl (fun h10 => ?_) (fun h10 => ?_)
        · have hp := hp.1 h10
          refine rs_aload_n ri_216_35 rfl rfl ?_
          refine rs_dup ri_216_36 rfl rfl ?_
          refine rs_gf (v := .int ((xm_217 F219 M).2.1 163 15)) ri_216_37 rfl (by decide) (ro_kf (kd_163 (xl_217 hF219 hl219 hL q0))) rfl rfl ?_
          refine rs_iconst (v := (1 : Int32)) ri_216_40 rfl (by decide) ?_
          refine rs_iadd (r := (((xm_217 F219 M).2.1 163 15) + (1 : Int32))) ri_216_41 rfl rfl ?_
          refine rs_pf (M2 := (ro_sI (xm_217 F219 M) 163 15 (((xm_217 F219 M).2.1 163 15) + (1 : Int32)))) ri_216_42 rfl (by decide) (ro_kf (kd_163 (xl_217 hF219 hl219 hL q0))) (fun h => absurd h (by decide)) (fun f h => h) ?_
          refine rs_aload_n ri_216_45 rfl rfl ?_
          obtain ⟨q10, hp⟩ := hp
          refine rs_virt (As := []) (r := []) ri_216_46 rfl (by decide) rm_217.2.2.2 rm_217.2.2.1 rfl rfl rfl (by decide) (ro_kf (kd_163 (xl_217 hF219 hl219 hL q0))) (Nat.le_of_ble_eq_true rfl) (by decide) (by omega) (xs_217 (X := X) hF219 hl219 (xl_217 hF219 hl219 hL q0) q10) ?_
          rintro _ _ ⟨e1, e2⟩
          rw [e1, e2]
          show ro_w X _ 216 _ 49 [(1, .int (xf_220 (xm_217 F219 M))), (0, .ref 163)] [] (xm_217 F219 (ro_sI (xm_217 F219 M) 163 15 (((xm_217 F219 M).2.1 163 15) + (1 : Int32)))) (0, 0)
          refine rs_aload_n ri_216_49 rfl rfl ?_
          refine rs_iload_n ri_216_50 rfl rfl ?_
          refine rs_iconst (v := (0 : Int32)) ri_216_51 rfl (by decide) ?_
          obtain ⟨q11, hp⟩ := hp
          refine rs_virt (As := [.int (xf_220 (xm_217 F219 M)), .int (0 : Int32)]) (r := []) ri_216_52 rfl (by decide) rm_222.2.2.2 rm_222.2.2.1 rfl rfl rfl (by decide) (ro_kf (kd_163 (xl_217 hF219 hl219 (xl_217 hF219 hl219 hL q0) q10))) (Nat.le_of_ble_eq_true rfl) (by decide) (by omega) (xs_222 (X := X) (xl_217 hF219 hl219 (xl_217 hF219 hl219 hL q0) q10) q11) ?_
          rintro _ _ ⟨e1, e2⟩
          rw [e1, e2]
          show ro_w X _ 216 _ 55 [(1, .int (xf_220 (xm_217 F219 M))), (0, .ref 163)] [] (xm_222 (xm_217 F219 (ro_sI (xm_217 F219 M) 163 15 (((xm_217 F219 M).2.1 163 15) + (1 : Int32)))) (xf_220 (xm_217 F219 M)) (0 : Int32)) (0, 0)
          refine rs_ret ri_216_55 rm_216.2.1 (by decide) ?_
          exact ⟨by rfl, by unfold xm_216; first | (simp only [if_neg h3, if_neg h4, if_neg h7, if_pos h10]; done) | rfl⟩
        · have hp := hp.2 h10
          refine rs_ret ri_216_34 rm_216.2.1 (by decide) ?_
          exact ⟨by rfl, by unfold xm_216; first | (simp only [if_neg h3, if_neg h4, if_neg h7, if_neg h10]; done) | rfl⟩
theorem xl_216 {X : ro_Sx} {k : Nat} {F219 : ro_Mm → ro_Mm} {P219 : ro_Mm → Prop} (hF219 : ∀ {M : ro_Mm}, ro_lay M → P219 M → ro_cwp X k 219 [.ref 163] M (fun v M2 => v = none ∧ M2 = (F219 M))) (hl219 : ∀ {M : ro_Mm}, ro_lay M → P219 M → ro_lay (F219 M)) {M : ro_Mm} (hL : ro_lay M) (hp : xp_216 F219 P219 M) : ro_lay (xm_216 F219 M) := by
  unfold xp_216 at hp
  unfold xm_216
  obtain ⟨q0, hp⟩ := hp
  obtain ⟨q1, hp⟩ := hp
  by_cases hz : (0 : Int32) ≤ ((xm_217 F219 M).2.1 163 16)
  · have hp := hp.1 hz
    rw [if_pos hz]
    first | exact (xl_217 hF219 hl219 hL q0) | (have hl := (xl_217 hF219 hl219 hL q0); exact hl)
  · have hp := hp.2 hz
    rw [if_neg hz]
    by_cases hz : (xf_220 (xm_217 F219 M)) = (60 : Int32)
    · have hp := hp.1 hz
      rw [if_pos hz]
      obtain ⟨q4, hp⟩ := hp
      obtain ⟨q5, hp⟩ := hp
      first | exact (xl_222 (xl_217 hF219 hl219 (xl_217 hF219 hl219 hL q0) q4) q5) | (have hl := (xl_222 (xl_217 hF219 hl219 (xl_217 hF219 hl219 hL q0) q4) q5); exact hl)
    · have hp := hp.2 hz
      rw [if_neg hz]
      by_cases hz : (xf_220 (xm_217 F219 M)) = (61 : Int32)
      · have hp := hp.1 hz
        rw [if_pos hz]
        obtain ⟨q7, hp⟩ := hp
        obtain ⟨q8, hp⟩ := hp
        first | exact (xl_222 (xl_217 hF219 hl219 (xl_217 hF219 hl219 hL q0) q7) q8) | (have hl := (xl_222 (xl_217 hF219 hl219 (xl_217 hF219 hl219 hL q0) q7) q8); exact hl)
      · have hp := hp.2 hz
        rw [if_neg hz]
        by_cases hz : (xf_220 (xm_217 F219 M)) = (62 : Int32)
        · have hp := hp.1 hz
          rw [if_pos hz]
          obtain ⟨q10, hp⟩ := hp
          obtain ⟨q11, hp⟩ := hp
          first | exact (xl_222 (xl_217 hF219 hl219 (xl_217 hF219 hl219 hL q0) q10) q11) | (have hl := (xl_222 (xl_217 hF219 hl219 (xl_217 hF219 hl219 hL q0) q10) q11); exact hl)
        · have hp := hp.2 hz
          rw [if_neg hz]
          first | exact (xl_217 hF219 hl219 hL q0) | (have hl := (xl_217 hF219 hl219 hL q0); exact hl)
/-- a loop of RefusedOnceModel.both()V -/
noncomputable def xg_215_4 (F219 : ro_Mm → ro_Mm) : Nat → ro_Mm → ro_Mm
  | 0, M => M
  | n + 1, M => (if (0 : Int32) ≤ (M.2.1 163 16) then M else (if (xf_220 M) = (38 : Int32) then (xg_215_4 F219 n (xm_222 (xm_216 F219 (ro_sI M 163 15 ((M.2.1 163 15) + (1 : Int32)))) (38 : Int32) (0 : Int32))) else M))
def xq_215_4 (F219 : ro_Mm → ro_Mm) (P219 : ro_Mm → Prop) : Nat → ro_Mm → Prop
  | 0, _ => False
  | n + 1, M => (((0 : Int32) ≤ (M.2.1 163 16) → True) ∧ (¬ ((0 : Int32) ≤ (M.2.1 163 16)) → (xp_220 M ∧ (((xf_220 M) = (38 : Int32) → (xp_216 F219 P219 (ro_sI M 163 15 ((M.2.1 163 15) + (1 : Int32))) ∧ (xp_222 (xm_216 F219 (ro_sI M 163 15 ((M.2.1 163 15) + (1 : Int32)))) (38 : Int32) (0 : Int32) ∧ (xq_215_4 F219 P219 n (xm_222 (xm_216 F219 (ro_sI M 163 15 ((M.2.1 163 15) + (1 : Int32)))) (38 : Int32) (0 : Int32)))))) ∧ (¬ ((xf_220 M) = (38 : Int32)) → True)))))
theorem xt_215_4 {X : ro_Sx} {post : ro_Po} {k : Nat} {F219 : ro_Mm → ro_Mm} {P219 : ro_Mm → Prop} (hF219 : ∀ {M : ro_Mm}, ro_lay M → P219 M → ro_cwp X k 219 [.ref 163] M (fun v M2 => v = none ∧ M2 = (F219 M))) (hl219 : ∀ {M : ro_Mm}, ro_lay M → P219 M → ro_lay (F219 M)) : ∀ (n : Nat) {M : ro_Mm} (hL : ro_lay M) (hp : xq_215_4 F219 P219 n M) (hk : ro_w X (k + 4) 215 post 44 [(0, .ref 163)] [] (xg_215_4 F219 n M) (0, 0)), ro_w X (k + 4) 215 post 4 [(0, .ref 163)] [] M (0, 0) := by
  intro n
  induction n with
  | zero => intro M hL hp hk; exact False.elim hp
  | succ n ih =>
    intro M hL hp hk
    rw [xq_215_4] at hp
    refine rs_aload_n ri_215_4 rfl rfl ?_
    refine rs_gf (v := .int (M.2.1 163 16)) ri_215_5 rfl (by decide) (ro_kf (kd_163 hL)) rfl rfl ?_
    refine rs_if_ge (t := 44) ri_215_8 rfl rfl (fun h2 => ?_) (fun h2 => ?_)
    · skip
      have e : xg_215_4 F219 (n + 1) M = M := by rw [xg_215_4]; first | (simp only [if_pos h2]; done) | rfl
      rw [e] at hk
      exact ro_w_lv (ro_sub_c rfl (ro_sub_n rfl)) hk
    · have hp := hp.2 h2
      refine rs_aload_n ri_215_11 rfl rfl ?_
      obtain ⟨q2, hp⟩ := hp
      refine rs_virt (As := []) (r := []) ri_215_12 rfl (by decide) rm_220.2.2.2 rm_220.2.2.1 rfl rfl rfl (by decide) (ro_kf (kd_163 hL)) (Nat.le_of_ble_eq_true rfl) (by decide) (by omega) (xs_220 (X := X) hL q2) ?_
      rintro _ _ ⟨e1, e2⟩
      rw [e1, e2]
      show ro_w X _ 215 _ 15 [(0, .ref 163)] [.int (xf_220 M)] M (0, 0)
      refine rs_bipush (v := (38 : Int32)) ri_215_15 rfl (by decide) ?_
      refine rs_icmp_ne (t := 44) ri_215_17 rfl rfl (fun h4 => ?_) (fun h4 => ?_)
      · skip
        have e : xg_215_4 F219 (n + 1) M = M := by rw [xg_215_4]; first | (simp only [if_neg h2, if_neg h4]; done) | rfl
        rw [e] at hk
        exact ro_w_lv (ro_sub_c rfl (ro_sub_n rfl)) hk
      · have hp := hp.1 h4
        refine rs_aload_n ri_215_20 rfl rfl ?_
        refine rs_dup ri_215_21 rfl rfl ?_
        refine rs_gf (v := .int (M.2.1 163 15)) ri_215_22 rfl (by decide) (ro_kf (kd_163 hL)) rfl rfl ?_
        refine rs_iconst (v := (1 : Int32)) ri_215_25 rfl (by decide) ?_
        refine rs_iadd (r := ((M.2.1 163 15) + (1 : Int32))) ri_215_26 rfl rfl ?_
        refine rs_pf (M2 := (ro_sI M 163 15 ((M.2.1 163 15) + (1 : Int32)))) ri_215_27 rfl (by decide) (ro_kf (kd_163 hL)) (fun h => absurd h (by decide)) (fun f h => h) ?_
        refine rs_aload_n ri_215_30 rfl rfl ?_
        obtain ⟨q4, hp⟩ := hp
        refine rs_virt (As := []) (r := []) ri_215_31 rfl (by decide) rm_216.2.2.2 rm_216.2.2.1 rfl rfl rfl (by decide) (ro_kf (kd_163 hL)) (Nat.le_of_ble_eq_true rfl) (by decide) (by omega) (xs_216 (X := X) hF219 hl219 hL q4) ?_
        rintro _ _ ⟨e1, e2⟩
        rw [e1, e2]
        show ro_w X _ 215 _ 34 [(0, .ref 163)] [] (xm_216 F219 (ro_sI M 163 15 ((M.2.1 163 15) + (1 : Int32)))) (0, 0)
        refine rs_aload_n ri_215_34 rfl rfl ?_
        refine rs_bipush (v := (38 : Int32)) ri_215_35 rfl (by decide) ?_
        refine rs_iconst (v := (0 : Int32)) ri_215_37 rfl (by decide) ?_
        obtain ⟨q5, hp⟩ := hp
        refine rs_virt (As := [.int (38 : Int32), .int (0 : Int32)]) (r := []) ri_215_38 rfl (by decide) rm_222.2.2.2 rm_222.2.2.1 rfl rfl rfl (by decide) (ro_kf (kd_163 (xl_216 hF219 hl219 hL q4))) (Nat.le_of_ble_eq_true rfl) (by decide) (by omega) (xs_222 (X := X) (xl_216 hF219 hl219 hL q4) q5) ?_
        rintro _ _ ⟨e1, e2⟩
        rw [e1, e2]
        show ro_w X _ 215 _ 41 [(0, .ref 163)] [] (xm_222 (xm_216 F219 (ro_sI M 163 15 ((M.2.1 163 15) + (1 : Int32)))) (38 : Int32) (0 : Int32)) (0, 0)
        refine rs_goto (t := 4) ri_215_41 rfl ?_
        have e : xg_215_4 F219 (n + 1) M = xg_215_4 F219 n (xm_222 (xm_216 F219 (ro_sI M 163 15 ((M.2.1 163 15) + (1 : Int32)))) (38 : Int32) (0 : Int32)) := by rw [xg_215_4]; first | (simp only [if_neg h2, if_pos h4]; done) | rfl
        rw [e] at hk
        exact ro_w_lv (ro_sub_c rfl (ro_sub_n rfl)) (ih (xl_222 (xl_216 hF219 hl219 hL q4) q5)  hp hk)
theorem xl_215_4 {X : ro_Sx} {k : Nat} {F219 : ro_Mm → ro_Mm} {P219 : ro_Mm → Prop} (hF219 : ∀ {M : ro_Mm}, ro_lay M → P219 M → ro_cwp X k 219 [.ref 163] M (fun v M2 => v = none ∧ M2 = (F219 M))) (hl219 : ∀ {M : ro_Mm}, ro_lay M → P219 M → ro_lay (F219 M)) : ∀ (n : Nat) {M : ro_Mm} (hL : ro_lay M) (hp : xq_215_4 F219 P219 n M), ro_lay (xg_215_4 F219 n M) := by
  intro n
  induction n with
  | zero => intro M hL hp; exact False.elim hp
  | succ n ih =>
    intro M hL hp
    rw [xq_215_4] at hp
    rw [xg_215_4]
    by_cases hz : (0 : Int32) ≤ (M.2.1 163 16)
    · have hp := hp.1 hz
      rw [if_pos hz]
      exact hL
    · have hp := hp.2 hz
      rw [if_neg hz]
      obtain ⟨q2, hp⟩ := hp
      by_cases hz : (xf_220 M) = (38 : Int32)
      · have hp := hp.1 hz
        rw [if_pos hz]
        obtain ⟨q4, hp⟩ := hp
        obtain ⟨q5, hp⟩ := hp
        exact ih (xl_222 (xl_216 hF219 hl219 hL q4) q5)  hp
      · have hp := hp.2 hz
        rw [if_neg hz]
        exact hL
/-- RefusedOnceModel.both()V -/
noncomputable def xm_215 (F219 : ro_Mm → ro_Mm) (M : ro_Mm) : ro_Mm := (xg_215_4 F219 lp_N (xm_216 F219 M))
def xp_215 (F219 : ro_Mm → ro_Mm) (P219 : ro_Mm → Prop) (M : ro_Mm) : Prop := (xp_216 F219 P219 M ∧ (xq_215_4 F219 P219 lp_N (xm_216 F219 M) ∧ True))
theorem xs_215 {X : ro_Sx} {k : Nat} {F219 : ro_Mm → ro_Mm} {P219 : ro_Mm → Prop} (hF219 : ∀ {M : ro_Mm}, ro_lay M → P219 M → ro_cwp X k 219 [.ref 163] M (fun v M2 => v = none ∧ M2 = (F219 M))) (hl219 : ∀ {M : ro_Mm}, ro_lay M → P219 M → ro_lay (F219 M)) {M : ro_Mm} (hL : ro_lay M) (hp : xp_215 F219 P219 M) : ro_cwp X (k + 5) 215 [.ref 163] M (fun v M2 => v = none ∧ M2 = xm_215 F219 M) := by
  refine rs_begin (lv0 := [(0, .ref 163)]) (by decide) rfl (by rw [rm_215.1]; exact Nat.le_of_ble_eq_true rfl) rfl ?_
  unfold xp_215 at hp
  refine rs_aload_n ri_215_0 rfl rfl ?_
  obtain ⟨q0, hp⟩ := hp
  refine rs_virt (As := []) (r := []) ri_215_1 rfl (by decide) rm_216.2.2.2 rm_216.2.2.1 rfl rfl rfl (by decide) (ro_kf (kd_163 hL)) (Nat.le_of_ble_eq_true rfl) (by decide) (by omega) (xs_216 (X := X) hF219 hl219 hL q0) ?_
  rintro _ _ ⟨e1, e2⟩
  rw [e1, e2]
  show ro_w X _ 215 _ 4 [(0, .ref 163)] [] (xm_216 F219 M) (0, 0)
  obtain ⟨q6, hp⟩ := hp
  refine xt_215_4 hF219 hl219 lp_N (xl_216 hF219 hl219 hL q0) q6 ?_
  refine rs_ret ri_215_44 rm_215.2.1 (by decide) ?_
  exact ⟨by rfl, by rfl⟩
theorem xl_215 {X : ro_Sx} {k : Nat} {F219 : ro_Mm → ro_Mm} {P219 : ro_Mm → Prop} (hF219 : ∀ {M : ro_Mm}, ro_lay M → P219 M → ro_cwp X k 219 [.ref 163] M (fun v M2 => v = none ∧ M2 = (F219 M))) (hl219 : ∀ {M : ro_Mm}, ro_lay M → P219 M → ro_lay (F219 M)) {M : ro_Mm} (hL : ro_lay M) (hp : xp_215 F219 P219 M) : ro_lay (xm_215 F219 M) := by
  unfold xp_215 at hp
  unfold xm_215
  obtain ⟨q0, hp⟩ := hp
  obtain ⟨q6, hp⟩ := hp
  first | exact (xl_215_4 hF219 hl219 lp_N (xl_216 hF219 hl219 hL q0) q6) | (have hl := (xl_215_4 hF219 hl219 lp_N (xl_216 hF219 hl219 hL q0) q6); exact hl)
/-- a loop of RefusedOnceModel.either()V -/
noncomputable def xg_214_4 (F219 : ro_Mm → ro_Mm) : Nat → ro_Mm → ro_Mm
  | 0, M => M
  | n + 1, M => (if (0 : Int32) ≤ (M.2.1 163 16) then M else (if (xf_220 M) = (124 : Int32) then (xg_214_4 F219 n (xm_222 (xm_215 F219 (ro_sI M 163 15 ((M.2.1 163 15) + (1 : Int32)))) (124 : Int32) (0 : Int32))) else M))
def xq_214_4 (F219 : ro_Mm → ro_Mm) (P219 : ro_Mm → Prop) : Nat → ro_Mm → Prop
  | 0, _ => False
  | n + 1, M => (((0 : Int32) ≤ (M.2.1 163 16) → True) ∧ (¬ ((0 : Int32) ≤ (M.2.1 163 16)) → (xp_220 M ∧ (((xf_220 M) = (124 : Int32) → (xp_215 F219 P219 (ro_sI M 163 15 ((M.2.1 163 15) + (1 : Int32))) ∧ (xp_222 (xm_215 F219 (ro_sI M 163 15 ((M.2.1 163 15) + (1 : Int32)))) (124 : Int32) (0 : Int32) ∧ (xq_214_4 F219 P219 n (xm_222 (xm_215 F219 (ro_sI M 163 15 ((M.2.1 163 15) + (1 : Int32)))) (124 : Int32) (0 : Int32)))))) ∧ (¬ ((xf_220 M) = (124 : Int32)) → True)))))
theorem xt_214_4 {X : ro_Sx} {post : ro_Po} {k : Nat} {F219 : ro_Mm → ro_Mm} {P219 : ro_Mm → Prop} (hF219 : ∀ {M : ro_Mm}, ro_lay M → P219 M → ro_cwp X k 219 [.ref 163] M (fun v M2 => v = none ∧ M2 = (F219 M))) (hl219 : ∀ {M : ro_Mm}, ro_lay M → P219 M → ro_lay (F219 M)) : ∀ (n : Nat) {M : ro_Mm} (hL : ro_lay M) (hp : xq_214_4 F219 P219 n M) (hk : ro_w X (k + 5) 214 post 44 [(0, .ref 163)] [] (xg_214_4 F219 n M) (0, 0)), ro_w X (k + 5) 214 post 4 [(0, .ref 163)] [] M (0, 0) := by
  intro n
  induction n with
  | zero => intro M hL hp hk; exact False.elim hp
  | succ n ih =>
    intro M hL hp hk
    rw [xq_214_4] at hp
    refine rs_aload_n ri_214_4 rfl rfl ?_
    refine rs_gf (v := .int (M.2.1 163 16)) ri_214_5 rfl (by decide) (ro_kf (kd_163 hL)) rfl rfl ?_
    refine rs_if_ge (t := 44) ri_214_8 rfl rfl (fun h2 => ?_) (fun h2 => ?_)
    · skip
      have e : xg_214_4 F219 (n + 1) M = M := by rw [xg_214_4]; first | (simp only [if_pos h2]; done) | rfl
      rw [e] at hk
      exact ro_w_lv (ro_sub_c rfl (ro_sub_n rfl)) hk
    · have hp := hp.2 h2
      refine rs_aload_n ri_214_11 rfl rfl ?_
      obtain ⟨q2, hp⟩ := hp
      refine rs_virt (As := []) (r := []) ri_214_12 rfl (by decide) rm_220.2.2.2 rm_220.2.2.1 rfl rfl rfl (by decide) (ro_kf (kd_163 hL)) (Nat.le_of_ble_eq_true rfl) (by decide) (by omega) (xs_220 (X := X) hL q2) ?_
      rintro _ _ ⟨e1, e2⟩
      rw [e1, e2]
      show ro_w X _ 214 _ 15 [(0, .ref 163)] [.int (xf_220 M)] M (0, 0)
      refine rs_bipush (v := (124 : Int32)) ri_214_15 rfl (by decide) ?_
      refine rs_icmp_ne (t := 44) ri_214_17 rfl rfl (fun h4 => ?_) (fun h4 => ?_)
      · skip
        have e : xg_214_4 F219 (n + 1) M = M := by rw [xg_214_4]; first | (simp only [if_neg h2, if_neg h4]; done) | rfl
        rw [e] at hk
        exact ro_w_lv (ro_sub_c rfl (ro_sub_n rfl)) hk
      · have hp := hp.1 h4
        refine rs_aload_n ri_214_20 rfl rfl ?_
        refine rs_dup ri_214_21 rfl rfl ?_
        refine rs_gf (v := .int (M.2.1 163 15)) ri_214_22 rfl (by decide) (ro_kf (kd_163 hL)) rfl rfl ?_
        refine rs_iconst (v := (1 : Int32)) ri_214_25 rfl (by decide) ?_
        refine rs_iadd (r := ((M.2.1 163 15) + (1 : Int32))) ri_214_26 rfl rfl ?_
        refine rs_pf (M2 := (ro_sI M 163 15 ((M.2.1 163 15) + (1 : Int32)))) ri_214_27 rfl (by decide) (ro_kf (kd_163 hL)) (fun h => absurd h (by decide)) (fun f h => h) ?_
        refine rs_aload_n ri_214_30 rfl rfl ?_
        obtain ⟨q4, hp⟩ := hp
        refine rs_virt (As := []) (r := []) ri_214_31 rfl (by decide) rm_215.2.2.2 rm_215.2.2.1 rfl rfl rfl (by decide) (ro_kf (kd_163 hL)) (Nat.le_of_ble_eq_true rfl) (by decide) (by omega) (xs_215 (X := X) hF219 hl219 hL q4) ?_
        rintro _ _ ⟨e1, e2⟩
        rw [e1, e2]
        show ro_w X _ 214 _ 34 [(0, .ref 163)] [] (xm_215 F219 (ro_sI M 163 15 ((M.2.1 163 15) + (1 : Int32)))) (0, 0)
        refine rs_aload_n ri_214_34 rfl rfl ?_
        refine rs_bipush (v := (124 : Int32)) ri_214_35 rfl (by decide) ?_
        refine rs_iconst (v := (0 : Int32)) ri_214_37 rfl (by decide) ?_
        obtain ⟨q5, hp⟩ := hp
        refine rs_virt (As := [.int (124 : Int32), .int (0 : Int32)]) (r := []) ri_214_38 rfl (by decide) rm_222.2.2.2 rm_222.2.2.1 rfl rfl rfl (by decide) (ro_kf (kd_163 (xl_215 hF219 hl219 hL q4))) (Nat.le_of_ble_eq_true rfl) (by decide) (by omega) (xs_222 (X := X) (xl_215 hF219 hl219 hL q4) q5) ?_
        rintro _ _ ⟨e1, e2⟩
        rw [e1, e2]
        show ro_w X _ 214 _ 41 [(0, .ref 163)] [] (xm_222 (xm_215 F219 (ro_sI M 163 15 ((M.2.1 163 15) + (1 : Int32)))) (124 : Int32) (0 : Int32)) (0, 0)
        refine rs_goto (t := 4) ri_214_41 rfl ?_
        have e : xg_214_4 F219 (n + 1) M = xg_214_4 F219 n (xm_222 (xm_215 F219 (ro_sI M 163 15 ((M.2.1 163 15) + (1 : Int32)))) (124 : Int32) (0 : Int32)) := by rw [xg_214_4]; first | (simp only [if_neg h2, if_pos h4]; done) | rfl
        rw [e] at hk
        exact ro_w_lv (ro_sub_c rfl (ro_sub_n rfl)) (ih (xl_222 (xl_215 hF219 hl219 hL q4) q5)  hp hk)
theorem xl_214_4 {X : ro_Sx} {k : Nat} {F219 : ro_Mm → ro_Mm} {P219 : ro_Mm → Prop} (hF219 : ∀ {M : ro_Mm}, ro_lay M → P219 M → ro_cwp X k 219 [.ref 163] M (fun v M2 => v = none ∧ M2 = (F219 M))) (hl219 : ∀ {M : ro_Mm}, ro_lay M → P219 M → ro_lay (F219 M)) : ∀ (n : Nat) {M : ro_Mm} (hL : ro_lay M) (hp : xq_214_4 F219 P219 n M), ro_lay (xg_214_4 F219 n M) := by
  intro n
  induction n with
  | zero => intro M hL hp; exact False.elim hp
  | succ n ih =>
    intro M hL hp
    rw [xq_214_4] at hp
    rw [xg_214_4]
    by_cases hz : (0 : Int32) ≤ (M.2.1 163 16)
    · have hp := hp.1 hz
      rw [if_pos hz]
      exact hL
    · have hp := hp.2 hz
      rw [if_neg hz]
      obtain ⟨q2, hp⟩ := hp
      by_cases hz : (xf_220 M) = (124 : Int32)
      · have hp := hp.1 hz
        rw [if_pos hz]
        obtain ⟨q4, hp⟩ := hp
        obtain ⟨q5, hp⟩ := hp
        exact ih (xl_222 (xl_215 hF219 hl219 hL q4) q5)  hp
      · have hp := hp.2 hz
        rw [if_neg hz]
        exact hL
/-- RefusedOnceModel.either()V -/
noncomputable def xm_214 (F219 : ro_Mm → ro_Mm) (M : ro_Mm) : ro_Mm := (xg_214_4 F219 lp_N (xm_215 F219 M))
def xp_214 (F219 : ro_Mm → ro_Mm) (P219 : ro_Mm → Prop) (M : ro_Mm) : Prop := (xp_215 F219 P219 M ∧ (xq_214_4 F219 P219 lp_N (xm_215 F219 M) ∧ True))
theorem xs_214 {X : ro_Sx} {k : Nat} {F219 : ro_Mm → ro_Mm} {P219 : ro_Mm → Prop} (hF219 : ∀ {M : ro_Mm}, ro_lay M → P219 M → ro_cwp X k 219 [.ref 163] M (fun v M2 => v = none ∧ M2 = (F219 M))) (hl219 : ∀ {M : ro_Mm}, ro_lay M → P219 M → ro_lay (F219 M)) {M : ro_Mm} (hL : ro_lay M) (hp : xp_214 F219 P219 M) : ro_cwp X (k + 6) 214 [.ref 163] M (fun v M2 => v = none ∧ M2 = xm_214 F219 M) := by
  refine rs_begin (lv0 := [(0, .ref 163)]) (by decide) rfl (by rw [rm_214.1]; exact Nat.le_of_ble_eq_true rfl) rfl ?_
  unfold xp_214 at hp
  refine rs_aload_n ri_214_0 rfl rfl ?_
  obtain ⟨q0, hp⟩ := hp
  refine rs_virt (As := []) (r := []) ri_214_1 rfl (by decide) rm_215.2.2.2 rm_215.2.2.1 rfl rfl rfl (by decide) (ro_kf (kd_163 hL)) (Nat.le_of_ble_eq_true rfl) (by decide) (by omega) (xs_215 (X := X) hF219 hl219 hL q0) ?_
  rintro _ _ ⟨e1, e2⟩
  rw [e1, e2]
  show ro_w X _ 214 _ 4 [(0, .ref 163)] [] (xm_215 F219 M) (0, 0)
  obtain ⟨q6, hp⟩ := hp
  refine xt_214_4 hF219 hl219 lp_N (xl_215 hF219 hl219 hL q0) q6 ?_
  refine rs_ret ri_214_44 rm_214.2.1 (by decide) ?_
  exact ⟨by rfl, by rfl⟩
theorem xl_214 {X : ro_Sx} {k : Nat} {F219 : ro_Mm → ro_Mm} {P219 : ro_Mm → Prop} (hF219 : ∀ {M : ro_Mm}, ro_lay M → P219 M → ro_cwp X k 219 [.ref 163] M (fun v M2 => v = none ∧ M2 = (F219 M))) (hl219 : ∀ {M : ro_Mm}, ro_lay M → P219 M → ro_lay (F219 M)) {M : ro_Mm} (hL : ro_lay M) (hp : xp_214 F219 P219 M) : ro_lay (xm_214 F219 M) := by
  unfold xp_214 at hp
  unfold xm_214
  obtain ⟨q0, hp⟩ := hp
  obtain ⟨q6, hp⟩ := hp
  first | exact (xl_214_4 hF219 hl219 lp_N (xl_215 hF219 hl219 hL q0) q6) | (have hl := (xl_214_4 hF219 hl219 lp_N (xl_215 hF219 hl219 hL q0) q6); exact hl)
/-- RefusedOnceModel.operand()V -/
noncomputable def xmb_219 (F219 : ro_Mm → ro_Mm) (M : ro_Mm) : ro_Mm := (if (xf_221 M (xf_220 M)) < (0 : Int32) then (if (xf_220 M) = (33 : Int32) then (if (xf_223 M) then (xm_222 (ro_sI (F219 (xm_223 M)) 163 17 (((F219 (xm_223 M)).2.1 163 17) - (1 : Int32))) (3 : Int32) (0 : Int32)) else (xm_223 M)) else (if (xf_220 M) = (45 : Int32) then (if (xf_223 M) then (xm_222 (ro_sI (F219 (xm_223 M)) 163 17 (((F219 (xm_223 M)).2.1 163 17) - (1 : Int32))) (4 : Int32) (0 : Int32)) else (xm_223 M)) else (if (xf_220 M) = (40 : Int32) then (if (xf_223 M) then (if ((xm_214 F219 (xm_223 M)).2.1 163 16) < (0 : Int32) then (if (xf_220 (xm_214 F219 (xm_223 M))) = (41 : Int32) then (ro_sI (ro_sI (xm_214 F219 (xm_223 M)) 163 15 (((xm_214 F219 (xm_223 M)).2.1 163 15) + (1 : Int32))) 163 17 (((xm_214 F219 (xm_223 M)).2.1 163 17) - (1 : Int32))) else (xm_224 (xm_214 F219 (xm_223 M)))) else (xm_214 F219 (xm_223 M))) else (xm_223 M)) else (xm_225 M)))) else (ro_sI (xm_222 M (2 : Int32) (xf_221 M (xf_220 M))) 163 15 (((xm_222 M (2 : Int32) (xf_221 M (xf_220 M))).2.1 163 15) + (1 : Int32))))
def xpb_219 (F219 : ro_Mm → ro_Mm) (P219 : ro_Mm → Prop) (M : ro_Mm) : Prop := (xp_220 M ∧ (((xf_221 M (xf_220 M)) < (0 : Int32) → (((xf_220 M) = (33 : Int32) → (((xf_223 M) → (P219 (xm_223 M) ∧ (xp_222 (ro_sI (F219 (xm_223 M)) 163 17 (((F219 (xm_223 M)).2.1 163 17) - (1 : Int32))) (3 : Int32) (0 : Int32) ∧ True))) ∧ (¬ ((xf_223 M)) → True))) ∧ (¬ ((xf_220 M) = (33 : Int32)) → (((xf_220 M) = (45 : Int32) → (((xf_223 M) → (P219 (xm_223 M) ∧ (xp_222 (ro_sI (F219 (xm_223 M)) 163 17 (((F219 (xm_223 M)).2.1 163 17) - (1 : Int32))) (4 : Int32) (0 : Int32) ∧ True))) ∧ (¬ ((xf_223 M)) → True))) ∧ (¬ ((xf_220 M) = (45 : Int32)) → (((xf_220 M) = (40 : Int32) → (((xf_223 M) → (xp_214 F219 P219 (xm_223 M) ∧ ((((xm_214 F219 (xm_223 M)).2.1 163 16) < (0 : Int32) → (xp_220 (xm_214 F219 (xm_223 M)) ∧ True)) ∧ (¬ (((xm_214 F219 (xm_223 M)).2.1 163 16) < (0 : Int32)) → True)))) ∧ (¬ ((xf_223 M)) → True))) ∧ (¬ ((xf_220 M) = (40 : Int32)) → (xp_225 M ∧ True)))))))) ∧ (¬ ((xf_221 M (xf_220 M)) < (0 : Int32)) → (xp_222 M (2 : Int32) (xf_221 M (xf_220 M)) ∧ True))))
theorem xsb_219 {X : ro_Sx} {k : Nat} {F219 : ro_Mm → ro_Mm} {P219 : ro_Mm → Prop} (hF219 : ∀ {M : ro_Mm}, ro_lay M → P219 M → ro_cwp X k 219 [.ref 163] M (fun v M2 => v = none ∧ M2 = (F219 M))) (hl219 : ∀ {M : ro_Mm}, ro_lay M → P219 M → ro_lay (F219 M)) {M : ro_Mm} (hL : ro_lay M) (hp : xpb_219 F219 P219 M) : ro_cwp X (k + 7) 219 [.ref 163] M (fun v M2 => v = none ∧ M2 = xmb_219 F219 M) := by
  refine rs_begin (lv0 := [(0, .ref 163)]) (by decide) rfl (by rw [rm_219.1]; exact Nat.le_of_ble_eq_true rfl) rfl ?_
  unfold xpb_219 at hp
  refine rs_aload_n ri_219_0 rfl rfl ?_
  obtain ⟨q0, hp⟩ := hp
  refine rs_virt (As := []) (r := []) ri_219_1 rfl (by decide) rm_220.2.2.2 rm_220.2.2.1 rfl rfl rfl (by decide) (ro_kf (kd_163 hL)) (Nat.le_of_ble_eq_true rfl) (by decide) (by omega) (xs_220 (X := X) hL q0) ?_
  rintro _ _ ⟨e1, e2⟩
  rw [e1, e2]
  show ro_w X _ 219 _ 4 [(0, .ref 163)] [.int (xf_220 M)] M (0, 0)
  refine rs_istore_n (lv2 := [(1, .int (xf_220 M)), (0, .ref 163)]) ri_219_4 rfl rm_219.1 (by decide) rfl ?_
  refine rs_iload_n ri_219_5 rfl rfl ?_
  refine rs_stat (As := [.int (xf_220 M)]) (r := []) ri_219_6 rfl rm_221.2.2.2 rfl rfl rfl (Nat.le_of_ble_eq_true rfl) (by decide) (by omega) (xs_221 (X := X) hL) ?_
  rintro _ _ ⟨e1, e2⟩
  rw [e1, e2]
  show ro_w X _ 219 _ 9 [(1, .int (xf_220 M)), (0, .ref 163)] [.int (xf_221 M (xf_220 M))] M (0, 0)
  refine rs_if_lt (t := 34) ri_219_9 rfl rfl (fun h2 => ?_) (fun h2 => ?_)
  · have hp := hp.1 h2
    refine rs_iload_n ri_219_34 rfl rfl ?_
    refine rs_bipush (v := (33 : Int32)) ri_219_35 rfl (by decide) ?_
    refine rs_icmp_eq (t := 46) ri_219_37 rfl rfl (fun h3 => ?_) (fun h3 => ?_)
    · have hp := hp.1 h3
      refine rs_aload_n ri_219_46 rfl rfl ?_
      refine rs_virt (As := []) (r := []) ri_219_47 rfl (by decide) rm_223.2.2.2 rm_223.2.2.1 rfl rfl rfl (by decide) (ro_kf (kd_163 hL)) (Nat.le_of_ble_eq_true rfl) (by decide) (by omega) (xs_223 (X := X) hL) ?_
      rintro _ _ ⟨e1, e2⟩
      rw [e1, e2]
      show ro_w X _ 219 _ 50 [(1, .int (xf_220 M)), (0, .ref 163)] [.int (ro_b (xf_223 M))] (xm_223 M) (0, 0)
      refine rs_ifne_c (t := 54) ri_219_50 rfl rfl (fun h4 => ?_) (fun h4 => ?_)
      · have hp := hp.1 h4
        refine rs_aload_n ri_219_54 rfl rfl ?_
        obtain ⟨q4, hp⟩ := hp
        refine rs_virt (As := []) (r := []) ri_219_55 rfl (by decide) rm_219.2.2.2 rm_219.2.2.1 rfl rfl rfl (by decide) (ro_kf (kd_163 (xl_223 hL))) (Nat.le_of_ble_eq_true rfl) (by decide) (by omega) (hF219 (xl_223 hL) q4) ?_
        rintro _ _ ⟨e1, e2⟩
        rw [e1, e2]
        show ro_w X _ 219 _ 58 [(1, .int (xf_220 M)), (0, .ref 163)] [] (F219 (xm_223 M)) (0, 0)
        refine rs_aload_n ri_219_58 rfl rfl ?_
        refine rs_dup ri_219_59 rfl rfl ?_
        refine rs_gf (v := .int ((F219 (xm_223 M)).2.1 163 17)) ri_219_60 rfl (by decide) (ro_kf (kd_163 (hl219 (xl_223 hL) q4))) rfl rfl ?_
        refine rs_iconst (v := (1 : Int32)) ri_219_63 rfl (by decide) ?_
        refine rs_isub (r := (((F219 (xm_223 M)).2.1 163 17) - (1 : Int32))) ri_219_64 rfl rfl ?_
        refine rs_pf (M2 := (ro_sI (F219 (xm_223 M)) 163 17 (((F219 (xm_223 M)).2.1 163 17) - (1 : Int32)))) ri_219_65 rfl (by decide) (ro_kf (kd_163 (hl219 (xl_223 hL) q4))) (fun h => absurd h (by decide)) (fun f h => h) ?_
        refine rs_aload_n ri_219_68 rfl rfl ?_
        refine rs_iload_n ri_219_69 rfl rfl ?_
        refine rs_bipush (v := (33 : Int32)) ri_219_70 rfl (by decide) ?_
        refine rs_icmp_ne (t := 79) ri_219_72 rfl rfl (fun h6 => absurd h3 h6) (fun h6 => ?_)
        refine rs_iconst (v := (3 : Int32)) ri_219_75 rfl (by decide) ?_
        refine rs_goto (t := 80) ri_219_76 rfl ?_
        refine rs_iconst (v := (0 : Int32)) ri_219_80 rfl (by decide) ?_
        obtain ⟨q6, hp⟩ := hp
        refine rs_virt (As := [.int (3 : Int32), .int (0 : Int32)]) (r := []) ri_219_81 rfl (by decide) rm_222.2.2.2 rm_222.2.2.1 rfl rfl rfl (by decide) (ro_kf (kd_163 (hl219 (xl_223 hL) q4))) (Nat.le_of_ble_eq_true rfl) (by decide) (by omega) (xs_222 (X := X) (hl219 (xl_223 hL) q4) q6) ?_
        rintro _ _ ⟨e1, e2⟩
        rw [e1, e2]
        show ro_w X _ 219 _ 84 [(1, .int (xf_220 M)), (0, .ref 163)] [] (xm_222 (ro_sI (F219 (xm_223 M)) 163 17 (((F219 (xm_223 M)).2.1 163 17) - (1 : Int32))) (3 : Int32) (0 : Int32)) (0, 0)
        refine rs_goto (t := 154) ri_219_84 rfl ?_
        refine rs_ret ri_219_154 rm_219.2.1 (by decide) ?_
        exact ⟨by rfl, by unfold xmb_219; first | (simp only [if_pos h2, if_pos h3, if_pos h4]; done) | rfl⟩
      · have hp := hp.2 h4
        refine rs_ret ri_219_53 rm_219.2.1 (by decide) ?_
        exact ⟨by rfl, by unfold xmb_219; first | (simp only [if_pos h2, if_pos h3, if_neg h4]; done) | rfl⟩
    · have hp := hp.2 h3
      refine rs_iload_n ri_219_40 rfl rfl ?_
      refine rs_bipush (v := (45 : Int32)) ri_219_41 rfl (by decide) ?_
      refine rs_icmp_ne (t := 87) ri_219_43 rfl rfl (fun h8 => ?_) (fun h8 => ?_)
      · have hp := hp.2 h8
        refine rs_iload_n ri_219_87 rfl rfl ?_
        refine rs_bipush (v := (40 : Int32)) ri_219_88 rfl (by decide) ?_
        refine rs_icmp_ne (t := 150) ri_219_90 rfl rfl (fun h9 => ?_) (fun h9 => ?_)
        · have hp := hp.2 h9
          refine rs_aload_n ri_219_150 rfl rfl ?_
          obtain ⟨q9, hp⟩ := hp
          refine rs_virt (As := []) (r := []) ri_219_151 rfl (by decide) rm_225.2.2.2 rm_225.2.2.1 rfl rfl rfl (by decide) (ro_kf (kd_163 hL)) (Nat.le_of_ble_eq_true rfl) (by decide) (by omega) (xs_225 (X := X) hL q9) ?_
          rintro _ _ ⟨e1, e2⟩
          rw [e1, e2]
          show ro_w X _ 219 _ 154 [(1, .int (xf_220 M)), (0, .ref 163)] [] (xm_225 M) (0, 0)
          refine rs_ret ri_219_154 rm_219.2.1 (by decide) ?_
          exact ⟨by rfl, by unfold xmb_219; first | (simp only [if_pos h2, if_neg h3, if_neg h8, if_neg h9]; done) | rfl⟩
        · have hp := hp.1 h9
          refine rs_aload_n ri_219_93 rfl rfl ?_
          refine rs_virt (As := []) (r := []) ri_219_94 rfl (by decide) rm_223.2.2.2 rm_223.2.2.1 rfl rfl rfl (by decide) (ro_kf (kd_163 hL)) (Nat.le_of_ble_eq_true rfl) (by decide) (by omega) (xs_223 (X := X) hL) ?_
          rintro _ _ ⟨e1, e2⟩
          rw [e1, e2]
          show ro_w X _ 219 _ 97 [(1, .int (xf_220 M)), (0, .ref 163)] [.int (ro_b (xf_223 M))] (xm_223 M) (0, 0)
          refine rs_ifne_c (t := 101) ri_219_97 rfl rfl (fun h11 => ?_) (fun h11 => ?_)
          · have hp := hp.1 h11
            refine rs_aload_n ri_219_101 rfl rfl ?_
            obtain ⟨q11, hp⟩ := hp
            refine rs_virt (As := []) (r := []) ri_219_102 rfl (by decide) rm_214.2.2.2 rm_214.2.2.1 rfl rfl rfl (by decide) (ro_kf (kd_163 (xl_223 hL))) (Nat.le_of_ble_eq_true rfl) (by decide) (by omega) (xs_214 (X := X) hF219 hl219 (xl_223 hL) q11) ?_
            rintro _ _ ⟨e1, e2⟩
            rw [e1, e2]
            show ro_w X _ 219 _ 105 [(1, .int (xf_220 M)), (0, .ref 163)] [] (xm_214 F219 (xm_223 M)) (0, 0)
            refine rs_aload_n ri_219_105 rfl rfl ?_
            refine rs_gf (v := .int ((xm_214 F219 (xm_223 M)).2.1 163 16)) ri_219_106 rfl (by decide) (ro_kf (kd_163 (xl_214 hF219 hl219 (xl_223 hL) q11))) rfl rfl ?_
            refine rs_if_lt (t := 113) ri_219_109 rfl rfl (fun h13 => ?_) (fun h13 => ?_)
            · have hp := hp.1 h13
              refine rs_aload_n ri_219_113 rfl rfl ?_
              obtain ⟨q13, hp⟩ := hp
              refine rs_virt (As := []) (r := []) ri_219_114 rfl (by decide) rm_220.2.2.2 rm_220.2.2.1 rfl rfl rfl (by decide) (ro_kf (kd_163 (xl_214 hF219 hl219 (xl_223 hL) q11))) (Nat.le_of_ble_eq_true rfl) (by decide) (by omega) (xs_220 (X := X) (xl_214 hF219 hl219 (xl_223 hL) q11) q13) ?_
              rintro _ _ ⟨e1, e2⟩
              rw [e1, e2]
              show ro_w X _ 219 _ 117 [(1, .int (xf_220 M)), (0, .ref 163)] [.int (xf_220 (xm_214 F219 (xm_223 M)))] (xm_214 F219 (xm_223 M)) (0, 0)
              refine rs_bipush (v := (41 : Int32)) ri_219_117 rfl (by decide) ?_
              refine rs_icmp_eq (t := 127) ri_219_119 rfl rfl (fun h15 => ?_) (fun h15 => ?_)
              · skip
                refine rs_aload_n ri_219_127 rfl rfl ?_
                refine rs_dup ri_219_128 rfl rfl ?_
                refine rs_gf (v := .int ((xm_214 F219 (xm_223 M)).2.1 163 15)) ri_219_129 rfl (by decide) (ro_kf (kd_163 (xl_214 hF219 hl219 (xl_223 hL) q11))) rfl rfl ?_
                refine rs_iconst (v := (1 : Int32)) ri_219_132 rfl (by decide) ?_
                refine rs_iadd (r := (((xm_214 F219 (xm_223 M)).2.1 163 15) + (1 : Int32))) ri_219_133 rfl rfl ?_
                refine rs_pf (M2 := (ro_sI (xm_214 F219 (xm_223 M)) 163 15 (((xm_214 F219 (xm_223 M)).2.1 163 15) + (1 : Int32)))) ri_219_134 rfl (by decide) (ro_kf (kd_163 (xl_214 hF219 hl219 (xl_223 hL) q11))) (fun h => absurd h (by decide)) (fun f h => h) ?_
                refine rs_aload_n ri_219_137 rfl rfl ?_
                refine rs_dup ri_219_138 rfl rfl ?_
                refine rs_gf (v := .int ((xm_214 F219 (xm_223 M)).2.1 163 17)) ri_219_139 rfl (by decide) (ro_kf (kd_163 (xl_214 hF219 hl219 (xl_223 hL) q11))) rfl rfl ?_
                refine rs_iconst (v := (1 : Int32)) ri_219_142 rfl (by decide) ?_
                refine rs_isub (r := (((xm_214 F219 (xm_223 M)).2.1 163 17) - (1 : Int32))) ri_219_143 rfl rfl ?_
                refine rs_pf (M2 := (ro_sI (ro_sI (xm_214 F219 (xm_223 M)) 163 15 (((xm_214 F219 (xm_223 M)).2.1 163 15) + (1 : Int32))) 163 17 (((xm_214 F219 (xm_223 M)).2.1 163 17) - (1 : Int32)))) ri_219_144 rfl (by decide) (ro_kf (kd_163 (xl_214 hF219 hl219 (xl_223 hL) q11))) (fun h => absurd h (by decide)) (fun f h => h) ?_
                refine rs_goto (t := 154) ri_219_147 rfl ?_
                refine rs_ret ri_219_154 rm_219.2.1 (by decide) ?_
                exact ⟨by rfl, by unfold xmb_219; first | (simp only [if_pos h2, if_neg h3, if_neg h8, if_pos h9, if_pos h11, if_pos h13, if_pos h15]; done) | rfl⟩
              · skip
                refine rs_aload_n ri_219_122 rfl rfl ?_
                refine rs_virt (As := []) (r := []) ri_219_123 rfl (by decide) rm_224.2.2.2 rm_224.2.2.1 rfl rfl rfl (by decide) (ro_kf (kd_163 (xl_214 hF219 hl219 (xl_223 hL) q11))) (Nat.le_of_ble_eq_true rfl) (by decide) (by omega) (xs_224 (X := X) (xl_214 hF219 hl219 (xl_223 hL) q11)) ?_
                rintro _ _ ⟨e1, e2⟩
                rw [e1, e2]
                show ro_w X _ 219 _ 126 [(1, .int (xf_220 M)), (0, .ref 163)] [] (xm_224 (xm_214 F219 (xm_223 M))) (0, 0)
                refine rs_ret ri_219_126 rm_219.2.1 (by decide) ?_
                exact ⟨by rfl, by unfold xmb_219; first | (simp only [if_pos h2, if_neg h3, if_neg h8, if_pos h9, if_pos h11, if_pos h13, if_neg h15]; done) | rfl⟩
            · have hp := hp.2 h13
              refine rs_ret ri_219_112 rm_219.2.1 (by decide) ?_
              exact ⟨by rfl, by unfold xmb_219; first | (simp only [if_pos h2, if_neg h3, if_neg h8, if_pos h9, if_pos h11, if_neg h13]; done) | rfl⟩
          · have hp := hp.2 h11
            refine rs_ret ri_219_100 rm_219.2.1 (by decide) ?_
            exact ⟨by rfl, by unfold xmb_219; first | (simp only [if_pos h2, if_neg h3, if_neg h8, if_pos h9, if_neg h11]; done) | rfl⟩
      · have hp := hp.1 h8
        refine rs_aload_n ri_219_46 rfl rfl ?_
        refine rs_virt (As := []) (r := []) ri_219_47 rfl (by decide) rm_223.2.2.2 rm_223.2.2.1 rfl rfl rfl (by decide) (ro_kf (kd_163 hL)) (Nat.le_of_ble_eq_true rfl) (by decide) (by omega) (xs_223 (X := X) hL) ?_
        rintro _ _ ⟨e1, e2⟩
        rw [e1, e2]
        show ro_w X _ 219 _ 50 [(1, .int (xf_220 M)), (0, .ref 163)] [.int (ro_b (xf_223 M))] (xm_223 M) (0, 0)
        refine rs_ifne_c (t := 54) ri_219_50 rfl rfl (fun h16 => ?_) (fun h16 => ?_)
        · have hp := hp.1 h16
          refine rs_aload_n ri_219_54 rfl rfl ?_
          obtain ⟨q16, hp⟩ := hp
          refine rs_virt (As := []) (r := []) ri_219_55 rfl (by decide) rm_219.2.2.2 rm_219.2.2.1 rfl rfl rfl (by decide) (ro_kf (kd_163 (xl_223 hL))) (Nat.le_of_ble_eq_true rfl) (by decide) (by omega) (hF219 (xl_223 hL) q16) ?_
          rintro _ _ ⟨e1, e2⟩
          rw [e1, e2]
          show ro_w X _ 219 _ 58 [(1, .int (xf_220 M)), (0, .ref 163)] [] (F219 (xm_223 M)) (0, 0)
          refine rs_aload_n ri_219_58 rfl rfl ?_
          refine rs_dup ri_219_59 rfl rfl ?_
          refine rs_gf (v := .int ((F219 (xm_223 M)).2.1 163 17)) ri_219_60 rfl (by decide) (ro_kf (kd_163 (hl219 (xl_223 hL) q16))) rfl rfl ?_
          refine rs_iconst (v := (1 : Int32)) ri_219_63 rfl (by decide) ?_
          refine rs_isub (r := (((F219 (xm_223 M)).2.1 163 17) - (1 : Int32))) ri_219_64 rfl rfl ?_
          refine rs_pf (M2 := (ro_sI (F219 (xm_223 M)) 163 17 (((F219 (xm_223 M)).2.1 163 17) - (1 : Int32)))) ri_219_65 rfl (by decide) (ro_kf (kd_163 (hl219 (xl_223 hL) q16))) (fun h => absurd h (by decide)) (fun f h => h) ?_
          refine rs_aload_n ri_219_68 rfl rfl ?_
          refine rs_iload_n ri_219_69 rfl rfl ?_
          refine rs_bipush (v := (33 : Int32)) ri_219_70 rfl (by decide) ?_
          refine rs_icmp_ne (t := 79) ri_219_72 rfl rfl (fun h18 => ?_) (fun h18 => absurd h18 (by rw [h8]; decide))
          refine rs_iconst (v := (4 : Int32)) ri_219_79 rfl (by decide) ?_
          refine rs_iconst (v := (0 : Int32)) ri_219_80 rfl (by decide) ?_
          obtain ⟨q18, hp⟩ := hp
          refine rs_virt (As := [.int (4 : Int32), .int (0 : Int32)]) (r := []) ri_219_81 rfl (by decide) rm_222.2.2.2 rm_222.2.2.1 rfl rfl rfl (by decide) (ro_kf (kd_163 (hl219 (xl_223 hL) q16))) (Nat.le_of_ble_eq_true rfl) (by decide) (by omega) (xs_222 (X := X) (hl219 (xl_223 hL) q16) q18) ?_
          rintro _ _ ⟨e1, e2⟩
          rw [e1, e2]
          show ro_w X _ 219 _ 84 [(1, .int (xf_220 M)), (0, .ref 163)] [] (xm_222 (ro_sI (F219 (xm_223 M)) 163 17 (((F219 (xm_223 M)).2.1 163 17) - (1 : Int32))) (4 : Int32) (0 : Int32)) (0, 0)
          refine rs_goto (t := 154) ri_219_84 rfl ?_
          refine rs_ret ri_219_154 rm_219.2.1 (by decide) ?_
          exact ⟨by rfl, by unfold xmb_219; first | (simp only [if_pos h2, if_neg h3, if_pos h8, if_pos h16]; done) | rfl⟩
        · have hp := hp.2 h16
          refine rs_ret ri_219_53 rm_219.2.1 (by decide) ?_
          exact ⟨by rfl, by unfold xmb_219; first | (simp only [if_pos h2, if_neg h3, if_pos h8, if_neg h16]; done) | rfl⟩
  · have hp := hp.2 h2
    refine rs_aload_n ri_219_12 rfl rfl ?_
    refine rs_iconst (v := (2 : Int32)) ri_219_13 rfl (by decide) ?_
    refine rs_iload_n ri_219_14 rfl rfl ?_
    refine rs_stat (As := [.int (xf_220 M)]) (r := [.int (2 : Int32), .ref 163]) ri_219_15 rfl rm_221.2.2.2 rfl rfl rfl (Nat.le_of_ble_eq_true rfl) (by decide) (by omega) (xs_221 (X := X) hL) ?_
    rintro _ _ ⟨e1, e2⟩
    rw [e1, e2]
    show ro_w X _ 219 _ 18 [(1, .int (xf_220 M)), (0, .ref 163)] [.int (xf_221 M (xf_220 M)), .int (2 : Int32), .ref 163] M (0, 0)
    obtain ⟨q19, hp⟩ := hp
    refine rs_virt (As := [.int (2 : Int32), .int (xf_221 M (xf_220 M))]) (r := []) ri_219_18 rfl (by decide) rm_222.2.2.2 rm_222.2.2.1 rfl rfl rfl (by decide) (ro_kf (kd_163 hL)) (Nat.le_of_ble_eq_true rfl) (by decide) (by omega) (xs_222 (X := X) hL q19) ?_
    rintro _ _ ⟨e1, e2⟩
    rw [e1, e2]
    show ro_w X _ 219 _ 21 [(1, .int (xf_220 M)), (0, .ref 163)] [] (xm_222 M (2 : Int32) (xf_221 M (xf_220 M))) (0, 0)
    refine rs_aload_n ri_219_21 rfl rfl ?_
    refine rs_dup ri_219_22 rfl rfl ?_
    refine rs_gf (v := .int ((xm_222 M (2 : Int32) (xf_221 M (xf_220 M))).2.1 163 15)) ri_219_23 rfl (by decide) (ro_kf (kd_163 (xl_222 hL q19))) rfl rfl ?_
    refine rs_iconst (v := (1 : Int32)) ri_219_26 rfl (by decide) ?_
    refine rs_iadd (r := (((xm_222 M (2 : Int32) (xf_221 M (xf_220 M))).2.1 163 15) + (1 : Int32))) ri_219_27 rfl rfl ?_
    refine rs_pf (M2 := (ro_sI (xm_222 M (2 : Int32) (xf_221 M (xf_220 M))) 163 15 (((xm_222 M (2 : Int32) (xf_221 M (xf_220 M))).2.1 163 15) + (1 : Int32)))) ri_219_28 rfl (by decide) (ro_kf (kd_163 (xl_222 hL q19))) (fun h => absurd h (by decide)) (fun f h => h) ?_
    refine rs_goto (t := 154) ri_219_31 rfl ?_
    refine rs_ret ri_219_154 rm_219.2.1 (by decide) ?_
    exact ⟨by rfl, by unfold xmb_219; first | (simp only [if_neg h2]; done) | rfl⟩
theorem xlb_219 {X : ro_Sx} {k : Nat} {F219 : ro_Mm → ro_Mm} {P219 : ro_Mm → Prop} (hF219 : ∀ {M : ro_Mm}, ro_lay M → P219 M → ro_cwp X k 219 [.ref 163] M (fun v M2 => v = none ∧ M2 = (F219 M))) (hl219 : ∀ {M : ro_Mm}, ro_lay M → P219 M → ro_lay (F219 M)) {M : ro_Mm} (hL : ro_lay M) (hp : xpb_219 F219 P219 M) : ro_lay (xmb_219 F219 M) := by
  unfold xpb_219 at hp
  unfold xmb_219
  obtain ⟨q0, hp⟩ := hp
  by_cases hz : (xf_221 M (xf_220 M)) < (0 : Int32)
  · have hp := hp.1 hz
    rw [if_pos hz]
    by_cases hz : (xf_220 M) = (33 : Int32)
    · have hp := hp.1 hz
      rw [if_pos hz]
      by_cases hz : (xf_223 M)
      · have hp := hp.1 hz
        rw [if_pos hz]
        obtain ⟨q4, hp⟩ := hp
        obtain ⟨q6, hp⟩ := hp
        first | exact (xl_222 (hl219 (xl_223 hL) q4) q6) | (have hl := (xl_222 (hl219 (xl_223 hL) q4) q6); exact hl)
      · have hp := hp.2 hz
        rw [if_neg hz]
        first | exact (xl_223 hL) | (have hl := (xl_223 hL); exact hl)
    · have hp := hp.2 hz
      rw [if_neg hz]
      by_cases hz : (xf_220 M) = (45 : Int32)
      · have hp := hp.1 hz
        rw [if_pos hz]
        by_cases hz : (xf_223 M)
        · have hp := hp.1 hz
          rw [if_pos hz]
          obtain ⟨q16, hp⟩ := hp
          obtain ⟨q18, hp⟩ := hp
          first | exact (xl_222 (hl219 (xl_223 hL) q16) q18) | (have hl := (xl_222 (hl219 (xl_223 hL) q16) q18); exact hl)
        · have hp := hp.2 hz
          rw [if_neg hz]
          first | exact (xl_223 hL) | (have hl := (xl_223 hL); exact hl)
      · have hp := hp.2 hz
        rw [if_neg hz]
        by_cases hz : (xf_220 M) = (40 : Int32)
        · have hp := hp.1 hz
          rw [if_pos hz]
          by_cases hz : (xf_223 M)
          · have hp := hp.1 hz
            rw [if_pos hz]
            obtain ⟨q11, hp⟩ := hp
            by_cases hz : ((xm_214 F219 (xm_223 M)).2.1 163 16) < (0 : Int32)
            · have hp := hp.1 hz
              rw [if_pos hz]
              obtain ⟨q13, hp⟩ := hp
              by_cases hz : (xf_220 (xm_214 F219 (xm_223 M))) = (41 : Int32)
              · skip
                rw [if_pos hz]
                first | exact (xl_214 hF219 hl219 (xl_223 hL) q11) | (have hl := (xl_214 hF219 hl219 (xl_223 hL) q11); exact hl)
              · skip
                rw [if_neg hz]
                first | exact (xl_224 (xl_214 hF219 hl219 (xl_223 hL) q11)) | (have hl := (xl_224 (xl_214 hF219 hl219 (xl_223 hL) q11)); exact hl)
            · have hp := hp.2 hz
              rw [if_neg hz]
              first | exact (xl_214 hF219 hl219 (xl_223 hL) q11) | (have hl := (xl_214 hF219 hl219 (xl_223 hL) q11); exact hl)
          · have hp := hp.2 hz
            rw [if_neg hz]
            first | exact (xl_223 hL) | (have hl := (xl_223 hL); exact hl)
        · have hp := hp.2 hz
          rw [if_neg hz]
          obtain ⟨q9, hp⟩ := hp
          first | exact (xl_225 hL q9) | (have hl := (xl_225 hL q9); exact hl)
  · have hp := hp.2 hz
    rw [if_neg hz]
    obtain ⟨q19, hp⟩ := hp
    first | exact (xl_222 hL q19) | (have hl := (xl_222 hL q19); exact hl)
noncomputable def xr_opd : Nat → (ro_Mm → ro_Mm)
  | 0 => fun M => M
  | n + 1 => fun M => (xmb_219 (xr_opd n) M)
def xpr_opd : Nat → (ro_Mm → Prop)
  | 0 => fun _ => False
  | n + 1 => fun M => xpb_219 (xr_opd n) (xpr_opd n) M
theorem xsr_opd {X : ro_Sx} : ∀ n : Nat, (∀ {M : ro_Mm}, ro_lay M → xpr_opd n M → ro_cwp X (9 * n) 219 [.ref 163] M (fun v M2 => v = none ∧ M2 = (xr_opd n M))) ∧ (∀ {M : ro_Mm}, ro_lay M → xpr_opd n M → ro_lay (xr_opd n M)) := by
  intro n
  induction n with
  | zero => exact ⟨fun _ hp => False.elim hp, fun _ hp => False.elim hp⟩
  | succ n ih =>
    obtain ⟨f219, l219⟩ := ih
    refine ⟨?_, ?_⟩
    · intro M hL hp
      exact ro_cwp_up (by omega) (fun _ _ h => h) (xsb_219 f219 l219 hL hp)
    · intro M hL hp
      exact xlb_219 (X := X) f219 l219 hL hp
noncomputable def xm_219 (M : ro_Mm) : ro_Mm := (xr_opd rc_N M)
def xp_219 (M : ro_Mm) : Prop := xpr_opd rc_N M
theorem xs_219 {X : ro_Sx} {M : ro_Mm} (hL : ro_lay M) (hp : xp_219 M) : ro_cwp X 900 219 [.ref 163] M (fun v M2 => v = none ∧ M2 = xm_219 M) :=
  ro_cwp_up (by rw [rc_N_eq]; exact Nat.le_refl _) (fun _ _ h => h) ((xsr_opd (X := X) rc_N).1 hL hp)
theorem xl_219 {M : ro_Mm} (hL : ro_lay M) (hp : xp_219 M) : ro_lay (xm_219 M) := (xsr_opd (X := (0, fun _ => 0)) rc_N).2 hL hp
noncomputable def xm_214o (M : ro_Mm) : ro_Mm := xm_214 (xr_opd rc_N) M
def xp_214o (M : ro_Mm) : Prop := xp_214 (xr_opd rc_N) (xpr_opd rc_N) M
theorem xs_214o {X : ro_Sx} {M : ro_Mm} (hL : ro_lay M) (hp : xp_214o M) : ro_cwp X 906 214 [.ref 163] M (fun v M2 => v = none ∧ M2 = xm_214o M) :=
  ro_cwp_up (by rw [rc_N_eq]; exact Nat.le_refl _) (fun _ _ h => h) (xs_214 (xsr_opd (X := X) rc_N).1 (xsr_opd (X := X) rc_N).2 hL hp)
theorem xl_214o {M : ro_Mm} (hL : ro_lay M) (hp : xp_214o M) : ro_lay (xm_214o M) := xl_214 (xsr_opd (X := (0, fun _ => 0)) rc_N).1 (xsr_opd (X := (0, fun _ => 0)) rc_N).2 hL hp
/-- RefusedOnceModel.line()V -/
noncomputable def xm_213 (M : ro_Mm) : ro_Mm := (if (0 : Int32) ≤ ((xm_214o (ro_sI M 177 (((61 : Int32) + (M.2.1 176 1)).toNatClampNeg) (vp_nar .short ((M.2.1 163 18).toInt16.toInt32)))).2.1 163 16) then (ro_sI (ro_sI (xm_214o (ro_sI M 177 (((61 : Int32) + (M.2.1 176 1)).toNatClampNeg) (vp_nar .short ((M.2.1 163 18).toInt16.toInt32)))) 178 (((61 : Int32) + (M.2.1 176 1)).toNatClampNeg) (vp_nar .short (((xm_214o (ro_sI M 177 (((61 : Int32) + (M.2.1 176 1)).toNatClampNeg) (vp_nar .short ((M.2.1 163 18).toInt16.toInt32)))).2.1 163 18).toInt16.toInt32))) 176 1 (((xm_214o (ro_sI M 177 (((61 : Int32) + (M.2.1 176 1)).toNatClampNeg) (vp_nar .short ((M.2.1 163 18).toInt16.toInt32)))).2.1 176 1) + (1 : Int32))) else (if (xf_220 (xm_214o (ro_sI M 177 (((61 : Int32) + (M.2.1 176 1)).toNatClampNeg) (vp_nar .short ((M.2.1 163 18).toInt16.toInt32))))) = (63 : Int32) then (ro_sI (ro_sI (xm_214o (ro_sI (ro_sI (xm_214o (ro_sI M 177 (((61 : Int32) + (M.2.1 176 1)).toNatClampNeg) (vp_nar .short ((M.2.1 163 18).toInt16.toInt32)))) 163 15 (((xm_214o (ro_sI M 177 (((61 : Int32) + (M.2.1 176 1)).toNatClampNeg) (vp_nar .short ((M.2.1 163 18).toInt16.toInt32)))).2.1 163 15) + (1 : Int32))) 177 (((61 : Int32) + (M.2.1 176 1)).toNatClampNeg) (vp_nar .short (((xm_214o (ro_sI M 177 (((61 : Int32) + (M.2.1 176 1)).toNatClampNeg) (vp_nar .short ((M.2.1 163 18).toInt16.toInt32)))).2.1 163 18).toInt16.toInt32)))) 178 (((61 : Int32) + (M.2.1 176 1)).toNatClampNeg) (vp_nar .short (((xm_214o (ro_sI (ro_sI (xm_214o (ro_sI M 177 (((61 : Int32) + (M.2.1 176 1)).toNatClampNeg) (vp_nar .short ((M.2.1 163 18).toInt16.toInt32)))) 163 15 (((xm_214o (ro_sI M 177 (((61 : Int32) + (M.2.1 176 1)).toNatClampNeg) (vp_nar .short ((M.2.1 163 18).toInt16.toInt32)))).2.1 163 15) + (1 : Int32))) 177 (((61 : Int32) + (M.2.1 176 1)).toNatClampNeg) (vp_nar .short (((xm_214o (ro_sI M 177 (((61 : Int32) + (M.2.1 176 1)).toNatClampNeg) (vp_nar .short ((M.2.1 163 18).toInt16.toInt32)))).2.1 163 18).toInt16.toInt32)))).2.1 163 18).toInt16.toInt32))) 176 1 (((xm_214o (ro_sI (ro_sI (xm_214o (ro_sI M 177 (((61 : Int32) + (M.2.1 176 1)).toNatClampNeg) (vp_nar .short ((M.2.1 163 18).toInt16.toInt32)))) 163 15 (((xm_214o (ro_sI M 177 (((61 : Int32) + (M.2.1 176 1)).toNatClampNeg) (vp_nar .short ((M.2.1 163 18).toInt16.toInt32)))).2.1 163 15) + (1 : Int32))) 177 (((61 : Int32) + (M.2.1 176 1)).toNatClampNeg) (vp_nar .short (((xm_214o (ro_sI M 177 (((61 : Int32) + (M.2.1 176 1)).toNatClampNeg) (vp_nar .short ((M.2.1 163 18).toInt16.toInt32)))).2.1 163 18).toInt16.toInt32)))).2.1 176 1) + (1 : Int32))) else (ro_sI (ro_sI (xm_214o (ro_sI M 177 (((61 : Int32) + (M.2.1 176 1)).toNatClampNeg) (vp_nar .short ((M.2.1 163 18).toInt16.toInt32)))) 178 (((61 : Int32) + (M.2.1 176 1)).toNatClampNeg) (vp_nar .short (((xm_214o (ro_sI M 177 (((61 : Int32) + (M.2.1 176 1)).toNatClampNeg) (vp_nar .short ((M.2.1 163 18).toInt16.toInt32)))).2.1 163 18).toInt16.toInt32))) 176 1 (((xm_214o (ro_sI M 177 (((61 : Int32) + (M.2.1 176 1)).toNatClampNeg) (vp_nar .short ((M.2.1 163 18).toInt16.toInt32)))).2.1 176 1) + (1 : Int32)))))
def xp_213 (M : ro_Mm) : Prop := (vp_in ((61 : Int32) + (M.2.1 176 1)) 122 ∧ (xp_214o (ro_sI M 177 (((61 : Int32) + (M.2.1 176 1)).toNatClampNeg) (vp_nar .short ((M.2.1 163 18).toInt16.toInt32))) ∧ (((0 : Int32) ≤ ((xm_214o (ro_sI M 177 (((61 : Int32) + (M.2.1 176 1)).toNatClampNeg) (vp_nar .short ((M.2.1 163 18).toInt16.toInt32)))).2.1 163 16) → (vp_in ((61 : Int32) + (M.2.1 176 1)) 122 ∧ True)) ∧ (¬ ((0 : Int32) ≤ ((xm_214o (ro_sI M 177 (((61 : Int32) + (M.2.1 176 1)).toNatClampNeg) (vp_nar .short ((M.2.1 163 18).toInt16.toInt32)))).2.1 163 16)) → (xp_220 (xm_214o (ro_sI M 177 (((61 : Int32) + (M.2.1 176 1)).toNatClampNeg) (vp_nar .short ((M.2.1 163 18).toInt16.toInt32)))) ∧ (((xf_220 (xm_214o (ro_sI M 177 (((61 : Int32) + (M.2.1 176 1)).toNatClampNeg) (vp_nar .short ((M.2.1 163 18).toInt16.toInt32))))) = (63 : Int32) → (vp_in ((61 : Int32) + (M.2.1 176 1)) 122 ∧ (xp_214o (ro_sI (ro_sI (xm_214o (ro_sI M 177 (((61 : Int32) + (M.2.1 176 1)).toNatClampNeg) (vp_nar .short ((M.2.1 163 18).toInt16.toInt32)))) 163 15 (((xm_214o (ro_sI M 177 (((61 : Int32) + (M.2.1 176 1)).toNatClampNeg) (vp_nar .short ((M.2.1 163 18).toInt16.toInt32)))).2.1 163 15) + (1 : Int32))) 177 (((61 : Int32) + (M.2.1 176 1)).toNatClampNeg) (vp_nar .short (((xm_214o (ro_sI M 177 (((61 : Int32) + (M.2.1 176 1)).toNatClampNeg) (vp_nar .short ((M.2.1 163 18).toInt16.toInt32)))).2.1 163 18).toInt16.toInt32))) ∧ (vp_in ((61 : Int32) + (M.2.1 176 1)) 122 ∧ True)))) ∧ (¬ ((xf_220 (xm_214o (ro_sI M 177 (((61 : Int32) + (M.2.1 176 1)).toNatClampNeg) (vp_nar .short ((M.2.1 163 18).toInt16.toInt32))))) = (63 : Int32)) → (vp_in ((61 : Int32) + (M.2.1 176 1)) 122 ∧ True))))))))
theorem xs_213 {X : ro_Sx} {M : ro_Mm} (hL : ro_lay M) (hp : xp_213 M) : ro_cwp X 907 213 [.ref 163] M (fun v M2 => v = none ∧ M2 = xm_213 M) := by
  refine rs_begin (lv0 := [(0, .ref 163)]) (by decide) rfl (by rw [rm_213.1]; exact Nat.le_of_ble_eq_true rfl) rfl ?_
  unfold xp_213 at hp
  refine rs_bipush (v := (61 : Int32)) ri_213_0 rfl (by decide) ?_
  refine rs_aload_n ri_213_2 rfl rfl ?_
  refine rs_gf (v := .ref 176) ri_213_3 rfl (by decide) (ro_kf (kd_163 hL)) rfl (rf_163_21 hL) ?_
  refine rs_iconst (v := (1 : Int32)) ri_213_6 rfl (by decide) ?_
  refine rs_iald (v := (M.2.1 176 1)) ri_213_7 rfl (by decide) (kd_176 hL) (vp_in_iff.mpr ⟨by decide, by decide⟩) rfl ?_
  refine rs_iadd (r := ((61 : Int32) + (M.2.1 176 1))) ri_213_8 rfl rfl ?_
  refine rs_istore_n (lv2 := [(1, .int ((61 : Int32) + (M.2.1 176 1))), (0, .ref 163)]) ri_213_9 rfl rm_213.1 (by decide) rfl ?_
  refine rs_aload_n ri_213_10 rfl rfl ?_
  refine rs_gf (v := .ref 177) ri_213_11 rfl (by decide) (ro_kf (kd_163 hL)) rfl (rf_163_22 hL) ?_
  refine rs_iload_n ri_213_14 rfl rfl ?_
  refine rs_aload_n ri_213_15 rfl rfl ?_
  refine rs_gf (v := .int (M.2.1 163 18)) ri_213_16 rfl (by decide) (ro_kf (kd_163 hL)) rfl rfl ?_
  refine rs_i2s (r := ((M.2.1 163 18).toInt16.toInt32)) ri_213_19 rfl rfl ?_
  obtain ⟨q0, hp⟩ := hp
  refine rs_sast (j := ((61 : Int32) + (M.2.1 176 1)).toNatClampNeg) ri_213_20 rfl (by decide) (kd_177 hL) q0 rfl ?_
  refine rs_aload_n ri_213_21 rfl rfl ?_
  obtain ⟨q1, hp⟩ := hp
  refine rs_virt (As := []) (r := []) ri_213_22 rfl (by decide) rm_214.2.2.2 rm_214.2.2.1 rfl rfl rfl (by decide) (ro_kf (kd_163 hL)) (Nat.le_of_ble_eq_true rfl) (by decide) (by decide) (xs_214o (X := X) hL q1) ?_
  rintro _ _ ⟨e1, e2⟩
  rw [e1, e2]
  show ro_w X _ 213 _ 25 [(1, .int ((61 : Int32) + (M.2.1 176 1))), (0, .ref 163)] [] (xm_214o (ro_sI M 177 (((61 : Int32) + (M.2.1 176 1)).toNatClampNeg) (vp_nar .short ((M.2.1 163 18).toInt16.toInt32)))) (0, 0)
  refine rs_aload_n ri_213_25 rfl rfl ?_
  refine rs_gf (v := .int ((xm_214o (ro_sI M 177 (((61 : Int32) + (M.2.1 176 1)).toNatClampNeg) (vp_nar .short ((M.2.1 163 18).toInt16.toInt32)))).2.1 163 16)) ri_213_26 rfl (by decide) (ro_kf (kd_163 (xl_214o hL q1))) rfl rfl ?_
  refine rs_if_ge (t := 66) ri_213_29 rfl rfl (fun h3 => ?_) (fun h3 => ?_)
  · have hp := hp.1 h3
    refine rs_aload_n ri_213_66 rfl rfl ?_
    refine rs_gf (v := .ref 178) ri_213_67 rfl (by decide) (ro_kf (kd_163 (xl_214o hL q1))) rfl (rf_163_23 (xl_214o hL q1)) ?_
    refine rs_iload_n ri_213_70 rfl rfl ?_
    refine rs_aload_n ri_213_71 rfl rfl ?_
    refine rs_gf (v := .int ((xm_214o (ro_sI M 177 (((61 : Int32) + (M.2.1 176 1)).toNatClampNeg) (vp_nar .short ((M.2.1 163 18).toInt16.toInt32)))).2.1 163 18)) ri_213_72 rfl (by decide) (ro_kf (kd_163 (xl_214o hL q1))) rfl rfl ?_
    refine rs_i2s (r := (((xm_214o (ro_sI M 177 (((61 : Int32) + (M.2.1 176 1)).toNatClampNeg) (vp_nar .short ((M.2.1 163 18).toInt16.toInt32)))).2.1 163 18).toInt16.toInt32)) ri_213_75 rfl rfl ?_
    obtain ⟨q3, hp⟩ := hp
    refine rs_sast (j := ((61 : Int32) + (M.2.1 176 1)).toNatClampNeg) ri_213_76 rfl (by decide) (kd_178 (xl_214o hL q1)) q3 rfl ?_
    refine rs_aload_n ri_213_77 rfl rfl ?_
    refine rs_gf (v := .ref 176) ri_213_78 rfl (by decide) (ro_kf (kd_163 (xl_214o hL q1))) rfl (rf_163_21 (xl_214o hL q1)) ?_
    refine rs_iconst (v := (1 : Int32)) ri_213_81 rfl (by decide) ?_
    refine rs_dup2 ri_213_82 rfl rfl rfl ?_
    refine rs_iald (v := ((xm_214o (ro_sI M 177 (((61 : Int32) + (M.2.1 176 1)).toNatClampNeg) (vp_nar .short ((M.2.1 163 18).toInt16.toInt32)))).2.1 176 1)) ri_213_83 rfl (by decide) (kd_176 (xl_214o hL q1)) (vp_in_iff.mpr ⟨by decide, by decide⟩) rfl ?_
    refine rs_iconst (v := (1 : Int32)) ri_213_84 rfl (by decide) ?_
    refine rs_iadd (r := (((xm_214o (ro_sI M 177 (((61 : Int32) + (M.2.1 176 1)).toNatClampNeg) (vp_nar .short ((M.2.1 163 18).toInt16.toInt32)))).2.1 176 1) + (1 : Int32))) ri_213_85 rfl rfl ?_
    refine rs_iast (j := 1) ri_213_86 rfl (by decide) (kd_176 (xl_214o hL q1)) (vp_in_iff.mpr ⟨by decide, by decide⟩) rfl ?_
    refine rs_ret ri_213_87 rm_213.2.1 (by decide) ?_
    exact ⟨by rfl, by unfold xm_213; first | (simp only [if_pos h3]; done) | rfl⟩
  · have hp := hp.2 h3
    refine rs_aload_n ri_213_32 rfl rfl ?_
    obtain ⟨q4, hp⟩ := hp
    refine rs_virt (As := []) (r := []) ri_213_33 rfl (by decide) rm_220.2.2.2 rm_220.2.2.1 rfl rfl rfl (by decide) (ro_kf (kd_163 (xl_214o hL q1))) (Nat.le_of_ble_eq_true rfl) (by decide) (by decide) (xs_220 (X := X) (xl_214o hL q1) q4) ?_
    rintro _ _ ⟨e1, e2⟩
    rw [e1, e2]
    show ro_w X _ 213 _ 36 [(1, .int ((61 : Int32) + (M.2.1 176 1))), (0, .ref 163)] [.int (xf_220 (xm_214o (ro_sI M 177 (((61 : Int32) + (M.2.1 176 1)).toNatClampNeg) (vp_nar .short ((M.2.1 163 18).toInt16.toInt32)))))] (xm_214o (ro_sI M 177 (((61 : Int32) + (M.2.1 176 1)).toNatClampNeg) (vp_nar .short ((M.2.1 163 18).toInt16.toInt32)))) (0, 0)
    refine rs_bipush (v := (63 : Int32)) ri_213_36 rfl (by decide) ?_
    refine rs_icmp_ne (t := 66) ri_213_38 rfl rfl (fun h6 => ?_) (fun h6 => ?_)
    · have hp := hp.2 h6
      refine rs_aload_n ri_213_66 rfl rfl ?_
      refine rs_gf (v := .ref 178) ri_213_67 rfl (by decide) (ro_kf (kd_163 (xl_214o hL q1))) rfl (rf_163_23 (xl_214o hL q1)) ?_
      refine rs_iload_n ri_213_70 rfl rfl ?_
      refine rs_aload_n ri_213_71 rfl rfl ?_
      refine rs_gf (v := .int ((xm_214o (ro_sI M 177 (((61 : Int32) + (M.2.1 176 1)).toNatClampNeg) (vp_nar .short ((M.2.1 163 18).toInt16.toInt32)))).2.1 163 18)) ri_213_72 rfl (by decide) (ro_kf (kd_163 (xl_214o hL q1))) rfl rfl ?_
      refine rs_i2s (r := (((xm_214o (ro_sI M 177 (((61 : Int32) + (M.2.1 176 1)).toNatClampNeg) (vp_nar .short ((M.2.1 163 18).toInt16.toInt32)))).2.1 163 18).toInt16.toInt32)) ri_213_75 rfl rfl ?_
      obtain ⟨q6, hp⟩ := hp
      refine rs_sast (j := ((61 : Int32) + (M.2.1 176 1)).toNatClampNeg) ri_213_76 rfl (by decide) (kd_178 (xl_214o hL q1)) q6 rfl ?_
      refine rs_aload_n ri_213_77 rfl rfl ?_
      refine rs_gf (v := .ref 176) ri_213_78 rfl (by decide) (ro_kf (kd_163 (xl_214o hL q1))) rfl (rf_163_21 (xl_214o hL q1)) ?_
      refine rs_iconst (v := (1 : Int32)) ri_213_81 rfl (by decide) ?_
      refine rs_dup2 ri_213_82 rfl rfl rfl ?_
      refine rs_iald (v := ((xm_214o (ro_sI M 177 (((61 : Int32) + (M.2.1 176 1)).toNatClampNeg) (vp_nar .short ((M.2.1 163 18).toInt16.toInt32)))).2.1 176 1)) ri_213_83 rfl (by decide) (kd_176 (xl_214o hL q1)) (vp_in_iff.mpr ⟨by decide, by decide⟩) rfl ?_
      refine rs_iconst (v := (1 : Int32)) ri_213_84 rfl (by decide) ?_
      refine rs_iadd (r := (((xm_214o (ro_sI M 177 (((61 : Int32) + (M.2.1 176 1)).toNatClampNeg) (vp_nar .short ((M.2.1 163 18).toInt16.toInt32)))).2.1 176 1) + (1 : Int32))) ri_213_85 rfl rfl ?_
      refine rs_iast (j := 1) ri_213_86 rfl (by decide) (kd_176 (xl_214o hL q1)) (vp_in_iff.mpr ⟨by decide, by decide⟩) rfl ?_
      refine rs_ret ri_213_87 rm_213.2.1 (by decide) ?_
      exact ⟨by rfl, by unfold xm_213; first | (simp only [if_neg h3, if_neg h6]; done) | rfl⟩
    · have hp := hp.1 h6
      refine rs_aload_n ri_213_41 rfl rfl ?_
      refine rs_dup ri_213_42 rfl rfl ?_
      refine rs_gf (v := .int ((xm_214o (ro_sI M 177 (((61 : Int32) + (M.2.1 176 1)).toNatClampNeg) (vp_nar .short ((M.2.1 163 18).toInt16.toInt32)))).2.1 163 15)) ri_213_43 rfl (by decide) (ro_kf (kd_163 (xl_214o hL q1))) rfl rfl ?_
      refine rs_iconst (v := (1 : Int32)) ri_213_46 rfl (by decide) ?_
      refine rs_iadd (r := (((xm_214o (ro_sI M 177 (((61 : Int32) + (M.2.1 176 1)).toNatClampNeg) (vp_nar .short ((M.2.1 163 18).toInt16.toInt32)))).2.1 163 15) + (1 : Int32))) ri_213_47 rfl rfl ?_
      refine rs_pf (M2 := (ro_sI (xm_214o (ro_sI M 177 (((61 : Int32) + (M.2.1 176 1)).toNatClampNeg) (vp_nar .short ((M.2.1 163 18).toInt16.toInt32)))) 163 15 (((xm_214o (ro_sI M 177 (((61 : Int32) + (M.2.1 176 1)).toNatClampNeg) (vp_nar .short ((M.2.1 163 18).toInt16.toInt32)))).2.1 163 15) + (1 : Int32)))) ri_213_48 rfl (by decide) (ro_kf (kd_163 (xl_214o hL q1))) (fun h => absurd h (by decide)) (fun f h => h) ?_
      refine rs_aload_n ri_213_51 rfl rfl ?_
      refine rs_gf (v := .ref 177) ri_213_52 rfl (by decide) (ro_kf (kd_163 (xl_214o hL q1))) rfl (rf_163_22 (xl_214o hL q1)) ?_
      refine rs_iload_n ri_213_55 rfl rfl ?_
      refine rs_aload_n ri_213_56 rfl rfl ?_
      refine rs_gf (v := .int ((xm_214o (ro_sI M 177 (((61 : Int32) + (M.2.1 176 1)).toNatClampNeg) (vp_nar .short ((M.2.1 163 18).toInt16.toInt32)))).2.1 163 18)) ri_213_57 rfl (by decide) (ro_kf (kd_163 (xl_214o hL q1))) rfl rfl ?_
      refine rs_i2s (r := (((xm_214o (ro_sI M 177 (((61 : Int32) + (M.2.1 176 1)).toNatClampNeg) (vp_nar .short ((M.2.1 163 18).toInt16.toInt32)))).2.1 163 18).toInt16.toInt32)) ri_213_60 rfl rfl ?_
      obtain ⟨q7, hp⟩ := hp
      refine rs_sast (j := ((61 : Int32) + (M.2.1 176 1)).toNatClampNeg) ri_213_61 rfl (by decide) (kd_177 (xl_214o hL q1)) q7 rfl ?_
      refine rs_aload_n ri_213_62 rfl rfl ?_
      obtain ⟨q8, hp⟩ := hp
      refine rs_virt (As := []) (r := []) ri_213_63 rfl (by decide) rm_214.2.2.2 rm_214.2.2.1 rfl rfl rfl (by decide) (ro_kf (kd_163 (xl_214o hL q1))) (Nat.le_of_ble_eq_true rfl) (by decide) (by decide) (xs_214o (X := X) (xl_214o hL q1) q8) ?_
      rintro _ _ ⟨e1, e2⟩
      rw [e1, e2]
      show ro_w X _ 213 _ 66 [(1, .int ((61 : Int32) + (M.2.1 176 1))), (0, .ref 163)] [] (xm_214o (ro_sI (ro_sI (xm_214o (ro_sI M 177 (((61 : Int32) + (M.2.1 176 1)).toNatClampNeg) (vp_nar .short ((M.2.1 163 18).toInt16.toInt32)))) 163 15 (((xm_214o (ro_sI M 177 (((61 : Int32) + (M.2.1 176 1)).toNatClampNeg) (vp_nar .short ((M.2.1 163 18).toInt16.toInt32)))).2.1 163 15) + (1 : Int32))) 177 (((61 : Int32) + (M.2.1 176 1)).toNatClampNeg) (vp_nar .short (((xm_214o (ro_sI M 177 (((61 : Int32) + (M.2.1 176 1)).toNatClampNeg) (vp_nar .short ((M.2.1 163 18).toInt16.toInt32)))).2.1 163 18).toInt16.toInt32)))) (0, 0)
      refine rs_aload_n ri_213_66 rfl rfl ?_
      refine rs_gf (v := .ref 178) ri_213_67 rfl (by decide) (ro_kf (kd_163 (xl_214o (xl_214o hL q1) q8))) rfl (rf_163_23 (xl_214o (xl_214o hL q1) q8)) ?_
      refine rs_iload_n ri_213_70 rfl rfl ?_
      refine rs_aload_n ri_213_71 rfl rfl ?_
      refine rs_gf (v := .int ((xm_214o (ro_sI (ro_sI (xm_214o (ro_sI M 177 (((61 : Int32) + (M.2.1 176 1)).toNatClampNeg) (vp_nar .short ((M.2.1 163 18).toInt16.toInt32)))) 163 15 (((xm_214o (ro_sI M 177 (((61 : Int32) + (M.2.1 176 1)).toNatClampNeg) (vp_nar .short ((M.2.1 163 18).toInt16.toInt32)))).2.1 163 15) + (1 : Int32))) 177 (((61 : Int32) + (M.2.1 176 1)).toNatClampNeg) (vp_nar .short (((xm_214o (ro_sI M 177 (((61 : Int32) + (M.2.1 176 1)).toNatClampNeg) (vp_nar .short ((M.2.1 163 18).toInt16.toInt32)))).2.1 163 18).toInt16.toInt32)))).2.1 163 18)) ri_213_72 rfl (by decide) (ro_kf (kd_163 (xl_214o (xl_214o hL q1) q8))) rfl rfl ?_
      refine rs_i2s (r := (((xm_214o (ro_sI (ro_sI (xm_214o (ro_sI M 177 (((61 : Int32) + (M.2.1 176 1)).toNatClampNeg) (vp_nar .short ((M.2.1 163 18).toInt16.toInt32)))) 163 15 (((xm_214o (ro_sI M 177 (((61 : Int32) + (M.2.1 176 1)).toNatClampNeg) (vp_nar .short ((M.2.1 163 18).toInt16.toInt32)))).2.1 163 15) + (1 : Int32))) 177 (((61 : Int32) + (M.2.1 176 1)).toNatClampNeg) (vp_nar .short (((xm_214o (ro_sI M 177 (((61 : Int32) + (M.2.1 176 1)).toNatClampNeg) (vp_nar .short ((M.2.1 163 18).toInt16.toInt32)))).2.1 163 18).toInt16.toInt32)))).2.1 163 18).toInt16.toInt32)) ri_213_75 rfl rfl ?_
      obtain ⟨q9, hp⟩ := hp
      refine rs_sast (j := ((61 : Int32) + (M.2.1 176 1)).toNatClampNeg) ri_213_76 rfl (by decide) (kd_178 (xl_214o (xl_214o hL q1) q8)) q9 rfl ?_
      refine rs_aload_n ri_213_77 rfl rfl ?_
      refine rs_gf (v := .ref 176) ri_213_78 rfl (by decide) (ro_kf (kd_163 (xl_214o (xl_214o hL q1) q8))) rfl (rf_163_21 (xl_214o (xl_214o hL q1) q8)) ?_
      refine rs_iconst (v := (1 : Int32)) ri_213_81 rfl (by decide) ?_
      refine rs_dup2 ri_213_82 rfl rfl rfl ?_
      refine rs_iald (v := ((xm_214o (ro_sI (ro_sI (xm_214o (ro_sI M 177 (((61 : Int32) + (M.2.1 176 1)).toNatClampNeg) (vp_nar .short ((M.2.1 163 18).toInt16.toInt32)))) 163 15 (((xm_214o (ro_sI M 177 (((61 : Int32) + (M.2.1 176 1)).toNatClampNeg) (vp_nar .short ((M.2.1 163 18).toInt16.toInt32)))).2.1 163 15) + (1 : Int32))) 177 (((61 : Int32) + (M.2.1 176 1)).toNatClampNeg) (vp_nar .short (((xm_214o (ro_sI M 177 (((61 : Int32) + (M.2.1 176 1)).toNatClampNeg) (vp_nar .short ((M.2.1 163 18).toInt16.toInt32)))).2.1 163 18).toInt16.toInt32)))).2.1 176 1)) ri_213_83 rfl (by decide) (kd_176 (xl_214o (xl_214o hL q1) q8)) (vp_in_iff.mpr ⟨by decide, by decide⟩) rfl ?_
      refine rs_iconst (v := (1 : Int32)) ri_213_84 rfl (by decide) ?_
      refine rs_iadd (r := (((xm_214o (ro_sI (ro_sI (xm_214o (ro_sI M 177 (((61 : Int32) + (M.2.1 176 1)).toNatClampNeg) (vp_nar .short ((M.2.1 163 18).toInt16.toInt32)))) 163 15 (((xm_214o (ro_sI M 177 (((61 : Int32) + (M.2.1 176 1)).toNatClampNeg) (vp_nar .short ((M.2.1 163 18).toInt16.toInt32)))).2.1 163 15) + (1 : Int32))) 177 (((61 : Int32) + (M.2.1 176 1)).toNatClampNeg) (vp_nar .short (((xm_214o (ro_sI M 177 (((61 : Int32) + (M.2.1 176 1)).toNatClampNeg) (vp_nar .short ((M.2.1 163 18).toInt16.toInt32)))).2.1 163 18).toInt16.toInt32)))).2.1 176 1) + (1 : Int32))) ri_213_85 rfl rfl ?_
      refine rs_iast (j := 1) ri_213_86 rfl (by decide) (kd_176 (xl_214o (xl_214o hL q1) q8)) (vp_in_iff.mpr ⟨by decide, by decide⟩) rfl ?_
      refine rs_ret ri_213_87 rm_213.2.1 (by decide) ?_
      exact ⟨by rfl, by unfold xm_213; first | (simp only [if_neg h3, if_pos h6]; done) | rfl⟩
theorem xl_213 {M : ro_Mm} (hL : ro_lay M) (hp : xp_213 M) : ro_lay (xm_213 M) := by
  unfold xp_213 at hp
  unfold xm_213
  obtain ⟨q0, hp⟩ := hp
  obtain ⟨q1, hp⟩ := hp
  by_cases hz : (0 : Int32) ≤ ((xm_214o (ro_sI M 177 (((61 : Int32) + (M.2.1 176 1)).toNatClampNeg) (vp_nar .short ((M.2.1 163 18).toInt16.toInt32)))).2.1 163 16)
  · have hp := hp.1 hz
    rw [if_pos hz]
    obtain ⟨q3, hp⟩ := hp
    exact (xl_214o hL q1)
  · have hp := hp.2 hz
    rw [if_neg hz]
    obtain ⟨q4, hp⟩ := hp
    by_cases hz : (xf_220 (xm_214o (ro_sI M 177 (((61 : Int32) + (M.2.1 176 1)).toNatClampNeg) (vp_nar .short ((M.2.1 163 18).toInt16.toInt32))))) = (63 : Int32)
    · have hp := hp.1 hz
      rw [if_pos hz]
      obtain ⟨q7, hp⟩ := hp
      obtain ⟨q8, hp⟩ := hp
      obtain ⟨q9, hp⟩ := hp
      exact (xl_214o (xl_214o hL q1) q8)
    · have hp := hp.2 hz
      rw [if_neg hz]
      obtain ⟨q6, hp⟩ := hp
      exact (xl_214o hL q1)
/-- a loop of RefusedOnceModel.readText(I)I -/
noncomputable def xg_212_31 : Nat → ro_Mm → Int32 → ro_Mm
  | 0, M, v1 => M
  | n + 1, M, v1 => (if (0 : Int32) ≤ (M.2.1 163 16) then M else (if (xf_220 M) = (59 : Int32) then (xg_212_31 n (xm_213 (ro_sI M 163 15 ((M.2.1 163 15) + (1 : Int32)))) v1) else M))
def xq_212_31 : Nat → ro_Mm → Int32 → Prop
  | 0, _, _ => False
  | n + 1, M, v1 => (((0 : Int32) ≤ (M.2.1 163 16) → True) ∧ (¬ ((0 : Int32) ≤ (M.2.1 163 16)) → (xp_220 M ∧ (((xf_220 M) = (59 : Int32) → (xp_213 (ro_sI M 163 15 ((M.2.1 163 15) + (1 : Int32))) ∧ (xq_212_31 n (xm_213 (ro_sI M 163 15 ((M.2.1 163 15) + (1 : Int32)))) v1))) ∧ (¬ ((xf_220 M) = (59 : Int32)) → True)))))
theorem xt_212_31 {X : ro_Sx} {post : ro_Po} : ∀ (n : Nat) {M : ro_Mm} {v1 : Int32} (hL : ro_lay M) (hp : xq_212_31 n M v1) (hk : ro_w X 907 212 post 64 [(0, .ref 163), (1, .int v1)] [] (xg_212_31 n M v1) (0, 0)), ro_w X 907 212 post 31 [(0, .ref 163), (1, .int v1)] [] M (0, 0) := by
  intro n
  induction n with
  | zero => intro M v1 hL hp hk; exact False.elim hp
  | succ n ih =>
    intro M v1 hL hp hk
    rw [xq_212_31] at hp
    refine rs_aload_n ri_212_31 rfl rfl ?_
    refine rs_gf (v := .int (M.2.1 163 16)) ri_212_32 rfl (by decide) (ro_kf (kd_163 hL)) rfl rfl ?_
    refine rs_if_ge (t := 64) ri_212_35 rfl rfl (fun h2 => ?_) (fun h2 => ?_)
    · skip
      have e : xg_212_31 (n + 1) M v1 = M := by rw [xg_212_31]; first | (simp only [if_pos h2]; done) | rfl
      rw [e] at hk
      exact ro_w_lv (ro_sub_c rfl (ro_sub_c rfl (ro_sub_n rfl))) hk
    · have hp := hp.2 h2
      refine rs_aload_n ri_212_38 rfl rfl ?_
      obtain ⟨q2, hp⟩ := hp
      refine rs_virt (As := []) (r := []) ri_212_39 rfl (by decide) rm_220.2.2.2 rm_220.2.2.1 rfl rfl rfl (by decide) (ro_kf (kd_163 hL)) (Nat.le_of_ble_eq_true rfl) (by decide) (by decide) (xs_220 (X := X) hL q2) ?_
      rintro _ _ ⟨e1, e2⟩
      rw [e1, e2]
      show ro_w X _ 212 _ 42 [(0, .ref 163), (1, .int v1)] [.int (xf_220 M)] M (0, 0)
      refine rs_bipush (v := (59 : Int32)) ri_212_42 rfl (by decide) ?_
      refine rs_icmp_ne (t := 64) ri_212_44 rfl rfl (fun h4 => ?_) (fun h4 => ?_)
      · skip
        have e : xg_212_31 (n + 1) M v1 = M := by rw [xg_212_31]; first | (simp only [if_neg h2, if_neg h4]; done) | rfl
        rw [e] at hk
        exact ro_w_lv (ro_sub_c rfl (ro_sub_c rfl (ro_sub_n rfl))) hk
      · have hp := hp.1 h4
        refine rs_aload_n ri_212_47 rfl rfl ?_
        refine rs_dup ri_212_48 rfl rfl ?_
        refine rs_gf (v := .int (M.2.1 163 15)) ri_212_49 rfl (by decide) (ro_kf (kd_163 hL)) rfl rfl ?_
        refine rs_iconst (v := (1 : Int32)) ri_212_52 rfl (by decide) ?_
        refine rs_iadd (r := ((M.2.1 163 15) + (1 : Int32))) ri_212_53 rfl rfl ?_
        refine rs_pf (M2 := (ro_sI M 163 15 ((M.2.1 163 15) + (1 : Int32)))) ri_212_54 rfl (by decide) (ro_kf (kd_163 hL)) (fun h => absurd h (by decide)) (fun f h => h) ?_
        refine rs_aload_n ri_212_57 rfl rfl ?_
        obtain ⟨q4, hp⟩ := hp
        refine rs_virt (As := []) (r := []) ri_212_58 rfl (by decide) rm_213.2.2.2 rm_213.2.2.1 rfl rfl rfl (by decide) (ro_kf (kd_163 hL)) (Nat.le_of_ble_eq_true rfl) (by decide) (by decide) (xs_213 (X := X) hL q4) ?_
        rintro _ _ ⟨e1, e2⟩
        rw [e1, e2]
        show ro_w X _ 212 _ 61 [(0, .ref 163), (1, .int v1)] [] (xm_213 (ro_sI M 163 15 ((M.2.1 163 15) + (1 : Int32)))) (0, 0)
        refine rs_goto (t := 31) ri_212_61 rfl ?_
        have e : xg_212_31 (n + 1) M v1 = xg_212_31 n (xm_213 (ro_sI M 163 15 ((M.2.1 163 15) + (1 : Int32)))) v1 := by rw [xg_212_31]; first | (simp only [if_neg h2, if_pos h4]; done) | rfl
        rw [e] at hk
        exact ro_w_lv (ro_sub_c rfl (ro_sub_c rfl (ro_sub_n rfl))) (ih (xl_213 hL q4)  hp hk)
theorem xl_212_31 : ∀ (n : Nat) {M : ro_Mm} {v1 : Int32} (hL : ro_lay M) (hp : xq_212_31 n M v1), ro_lay (xg_212_31 n M v1) := by
  intro n
  induction n with
  | zero => intro M v1 hL hp; exact False.elim hp
  | succ n ih =>
    intro M v1 hL hp
    rw [xq_212_31] at hp
    rw [xg_212_31]
    by_cases hz : (0 : Int32) ≤ (M.2.1 163 16)
    · have hp := hp.1 hz
      rw [if_pos hz]
      exact hL
    · have hp := hp.2 hz
      rw [if_neg hz]
      obtain ⟨q2, hp⟩ := hp
      by_cases hz : (xf_220 M) = (59 : Int32)
      · have hp := hp.1 hz
        rw [if_pos hz]
        obtain ⟨q4, hp⟩ := hp
        exact ih (xl_213 hL q4)  hp
      · have hp := hp.2 hz
        rw [if_neg hz]
        exact hL
/-- a loop of RefusedOnceModel.readText(I)I -/
noncomputable def xg_212_105 : Nat → ro_Mm → Int32 → Int32 → Int32 × ro_Mm
  | 0, M, v2, v1 => (v2, M)
  | n + 1, M, v2, v1 => (if (M.2.1 163 18) ≤ v2 then (v2, M) else (xg_212_105 n (ro_sI (ro_sI M 174 ((((130 : Int32) * v1) + v2).toNatClampNeg) (vp_nar .byte (M.2.1 174 (((130 : Int32) + v2).toNatClampNeg)))) 175 ((((130 : Int32) * v1) + v2).toNatClampNeg) (M.2.1 175 (((130 : Int32) + v2).toNatClampNeg))) (v2 + (1 : Int32)) v1))
def xq_212_105 : Nat → ro_Mm → Int32 → Int32 → Prop
  | 0, _, _, _ => False
  | n + 1, M, v2, v1 => (((M.2.1 163 18) ≤ v2 → True) ∧ (¬ ((M.2.1 163 18) ≤ v2) → (vp_in ((130 : Int32) + v2) 260 ∧ (vp_in (((130 : Int32) * v1) + v2) 260 ∧ (vp_in ((130 : Int32) + v2) 260 ∧ (vp_in (((130 : Int32) * v1) + v2) 260 ∧ (xq_212_105 n (ro_sI (ro_sI M 174 ((((130 : Int32) * v1) + v2).toNatClampNeg) (vp_nar .byte (M.2.1 174 (((130 : Int32) + v2).toNatClampNeg)))) 175 ((((130 : Int32) * v1) + v2).toNatClampNeg) (M.2.1 175 (((130 : Int32) + v2).toNatClampNeg))) (v2 + (1 : Int32)) v1)))))))
theorem xt_212_105 {X : ro_Sx} {post : ro_Po} : ∀ (n : Nat) {M : ro_Mm} {v2 : Int32} {v1 : Int32} (hL : ro_lay M) (hp : xq_212_105 n M v2 v1) (hk : ro_w X 907 212 post 163 [(2, .int (xg_212_105 n M v2 v1).1), (0, .ref 163), (1, .int v1)] [] (xg_212_105 n M v2 v1).2 (0, 0)), ro_w X 907 212 post 105 [(2, .int v2), (0, .ref 163), (1, .int v1)] [] M (0, 0) := by
  intro n
  induction n with
  | zero => intro M v2 v1 hL hp hk; exact False.elim hp
  | succ n ih =>
    intro M v2 v1 hL hp hk
    rw [xq_212_105] at hp
    refine rs_iload_n ri_212_105 rfl rfl ?_
    refine rs_aload_n ri_212_106 rfl rfl ?_
    refine rs_gf (v := .int (M.2.1 163 18)) ri_212_107 rfl (by decide) (ro_kf (kd_163 hL)) rfl rfl ?_
    refine rs_icmp_ge (t := 163) ri_212_110 rfl rfl (fun h9 => ?_) (fun h9 => ?_)
    · skip
      have e : xg_212_105 (n + 1) M v2 v1 = (v2, M) := by rw [xg_212_105]; first | (simp only [if_pos h9]; done) | rfl
      rw [e] at hk
      exact ro_w_lv (ro_sub_c rfl (ro_sub_c rfl (ro_sub_c rfl (ro_sub_n rfl)))) hk
    · have hp := hp.2 h9
      refine rs_aload_n ri_212_113 rfl rfl ?_
      refine rs_gf (v := .ref 174) ri_212_114 rfl (by decide) (ro_kf (kd_163 hL)) rfl (rf_163_19 hL) ?_
      refine rs_sipush (v := (130 : Int32)) ri_212_117 rfl (by decide) ?_
      refine rs_iload_n ri_212_120 rfl rfl ?_
      refine rs_imul (r := ((130 : Int32) * v1)) ri_212_121 rfl rfl ?_
      refine rs_iload_n ri_212_122 rfl rfl ?_
      refine rs_iadd (r := (((130 : Int32) * v1) + v2)) ri_212_123 rfl rfl ?_
      refine rs_aload_n ri_212_124 rfl rfl ?_
      refine rs_gf (v := .ref 174) ri_212_125 rfl (by decide) (ro_kf (kd_163 hL)) rfl (rf_163_19 hL) ?_
      refine rs_sipush (v := (130 : Int32)) ri_212_128 rfl (by decide) ?_
      refine rs_iload_n ri_212_131 rfl rfl ?_
      refine rs_iadd (r := ((130 : Int32) + v2)) ri_212_132 rfl rfl ?_
      obtain ⟨q9, hp⟩ := hp
      refine rs_bald (v := (M.2.1 174 (((130 : Int32) + v2).toNatClampNeg))) ri_212_133 rfl (by decide) (kd_174 hL) q9 rfl ?_
      obtain ⟨q10, hp⟩ := hp
      refine rs_bast (j := (((130 : Int32) * v1) + v2).toNatClampNeg) ri_212_134 rfl (by decide) (kd_174 hL) q10 rfl ?_
      refine rs_aload_n ri_212_135 rfl rfl ?_
      refine rs_gf (v := .ref 175) ri_212_136 rfl (by decide) (ro_kf (kd_163 hL)) rfl (rf_163_20 hL) ?_
      refine rs_sipush (v := (130 : Int32)) ri_212_139 rfl (by decide) ?_
      refine rs_iload_n ri_212_142 rfl rfl ?_
      refine rs_imul (r := ((130 : Int32) * v1)) ri_212_143 rfl rfl ?_
      refine rs_iload_n ri_212_144 rfl rfl ?_
      refine rs_iadd (r := (((130 : Int32) * v1) + v2)) ri_212_145 rfl rfl ?_
      refine rs_aload_n ri_212_146 rfl rfl ?_
      refine rs_gf (v := .ref 175) ri_212_147 rfl (by decide) (ro_kf (kd_163 hL)) rfl (rf_163_20 hL) ?_
      refine rs_sipush (v := (130 : Int32)) ri_212_150 rfl (by decide) ?_
      refine rs_iload_n ri_212_153 rfl rfl ?_
      refine rs_iadd (r := ((130 : Int32) + v2)) ri_212_154 rfl rfl ?_
      obtain ⟨q11, hp⟩ := hp
      refine rs_iald (v := (M.2.1 175 (((130 : Int32) + v2).toNatClampNeg))) ri_212_155 rfl (by decide) (kd_175 hL) q11 rfl ?_
      obtain ⟨q12, hp⟩ := hp
      refine rs_iast (j := (((130 : Int32) * v1) + v2).toNatClampNeg) ri_212_156 rfl (by decide) (kd_175 hL) q12 rfl ?_
      refine rs_iinc (v := (v2 + (1 : Int32))) (lv2 := [(2, .int (v2 + (1 : Int32))), (0, .ref 163), (1, .int v1)]) ri_212_157 rfl rfl rfl rm_212.1 (by decide) rfl ?_
      refine rs_goto (t := 105) ri_212_160 rfl ?_
      have e : xg_212_105 (n + 1) M v2 v1 = xg_212_105 n (ro_sI (ro_sI M 174 ((((130 : Int32) * v1) + v2).toNatClampNeg) (vp_nar .byte (M.2.1 174 (((130 : Int32) + v2).toNatClampNeg)))) 175 ((((130 : Int32) * v1) + v2).toNatClampNeg) (M.2.1 175 (((130 : Int32) + v2).toNatClampNeg))) (v2 + (1 : Int32)) v1 := by rw [xg_212_105]; first | (simp only [if_neg h9]; done) | rfl
      rw [e] at hk
      exact ro_w_lv (ro_sub_c rfl (ro_sub_c rfl (ro_sub_c rfl (ro_sub_n rfl)))) (ih hL  hp hk)
theorem xl_212_105 : ∀ (n : Nat) {M : ro_Mm} {v2 : Int32} {v1 : Int32} (hL : ro_lay M) (hp : xq_212_105 n M v2 v1), ro_lay (xg_212_105 n M v2 v1).2 := by
  intro n
  induction n with
  | zero => intro M v2 v1 hL hp; exact False.elim hp
  | succ n ih =>
    intro M v2 v1 hL hp
    rw [xq_212_105] at hp
    rw [xg_212_105]
    by_cases hz : (M.2.1 163 18) ≤ v2
    · have hp := hp.1 hz
      rw [if_pos hz]
      exact hL
    · have hp := hp.2 hz
      rw [if_neg hz]
      obtain ⟨q9, hp⟩ := hp
      obtain ⟨q10, hp⟩ := hp
      obtain ⟨q11, hp⟩ := hp
      obtain ⟨q12, hp⟩ := hp
      exact ih hL  hp
/-- a loop of RefusedOnceModel.readText(I)I -/
noncomputable def xg_212_177 : Nat → ro_Mm → Int32 → Int32 → Int32 × ro_Mm
  | 0, M, v2, v1 => (v2, M)
  | n + 1, M, v2, v1 => (if (M.2.1 176 (v1.toNatClampNeg)) ≤ v2 then (v2, M) else (xg_212_177 n (ro_sI (ro_sI M 177 ((((61 : Int32) * v1) + v2).toNatClampNeg) (vp_nar .short (M.2.1 177 (((61 : Int32) + v2).toNatClampNeg)))) 178 ((((61 : Int32) * v1) + v2).toNatClampNeg) (vp_nar .short (M.2.1 178 (((61 : Int32) + v2).toNatClampNeg)))) (v2 + (1 : Int32)) v1))
def xq_212_177 : Nat → ro_Mm → Int32 → Int32 → Prop
  | 0, _, _, _ => False
  | n + 1, M, v2, v1 => (vp_in v1 2 ∧ (((M.2.1 176 (v1.toNatClampNeg)) ≤ v2 → True) ∧ (¬ ((M.2.1 176 (v1.toNatClampNeg)) ≤ v2) → (vp_in ((61 : Int32) + v2) 122 ∧ (vp_in (((61 : Int32) * v1) + v2) 122 ∧ (vp_in ((61 : Int32) + v2) 122 ∧ (vp_in (((61 : Int32) * v1) + v2) 122 ∧ (xq_212_177 n (ro_sI (ro_sI M 177 ((((61 : Int32) * v1) + v2).toNatClampNeg) (vp_nar .short (M.2.1 177 (((61 : Int32) + v2).toNatClampNeg)))) 178 ((((61 : Int32) * v1) + v2).toNatClampNeg) (vp_nar .short (M.2.1 178 (((61 : Int32) + v2).toNatClampNeg)))) (v2 + (1 : Int32)) v1))))))))
theorem xt_212_177 {X : ro_Sx} {post : ro_Po} : ∀ (n : Nat) {M : ro_Mm} {v2 : Int32} {v1 : Int32} (hL : ro_lay M) (hp : xq_212_177 n M v2 v1) (hk : ro_w X 907 212 post 233 [(2, .int (xg_212_177 n M v2 v1).1), (0, .ref 163), (1, .int v1)] [] (xg_212_177 n M v2 v1).2 (0, 0)), ro_w X 907 212 post 177 [(2, .int v2), (0, .ref 163), (1, .int v1)] [] M (0, 0) := by
  intro n
  induction n with
  | zero => intro M v2 v1 hL hp hk; exact False.elim hp
  | succ n ih =>
    intro M v2 v1 hL hp hk
    rw [xq_212_177] at hp
    refine rs_iload_n ri_212_177 rfl rfl ?_
    refine rs_aload_n ri_212_178 rfl rfl ?_
    refine rs_gf (v := .ref 176) ri_212_179 rfl (by decide) (ro_kf (kd_163 hL)) rfl (rf_163_21 hL) ?_
    refine rs_iload_n ri_212_182 rfl rfl ?_
    obtain ⟨q15, hp⟩ := hp
    refine rs_iald (v := (M.2.1 176 (v1.toNatClampNeg))) ri_212_183 rfl (by decide) (kd_176 hL) q15 rfl ?_
    refine rs_icmp_ge (t := 233) ri_212_184 rfl rfl (fun h17 => ?_) (fun h17 => ?_)
    · skip
      have e : xg_212_177 (n + 1) M v2 v1 = (v2, M) := by rw [xg_212_177]; first | (simp only [if_pos h17]; done) | rfl
      rw [e] at hk
      exact ro_w_lv (ro_sub_c rfl (ro_sub_c rfl (ro_sub_c rfl (ro_sub_n rfl)))) hk
    · have hp := hp.2 h17
      refine rs_aload_n ri_212_187 rfl rfl ?_
      refine rs_gf (v := .ref 177) ri_212_188 rfl (by decide) (ro_kf (kd_163 hL)) rfl (rf_163_22 hL) ?_
      refine rs_bipush (v := (61 : Int32)) ri_212_191 rfl (by decide) ?_
      refine rs_iload_n ri_212_193 rfl rfl ?_
      refine rs_imul (r := ((61 : Int32) * v1)) ri_212_194 rfl rfl ?_
      refine rs_iload_n ri_212_195 rfl rfl ?_
      refine rs_iadd (r := (((61 : Int32) * v1) + v2)) ri_212_196 rfl rfl ?_
      refine rs_aload_n ri_212_197 rfl rfl ?_
      refine rs_gf (v := .ref 177) ri_212_198 rfl (by decide) (ro_kf (kd_163 hL)) rfl (rf_163_22 hL) ?_
      refine rs_bipush (v := (61 : Int32)) ri_212_201 rfl (by decide) ?_
      refine rs_iload_n ri_212_203 rfl rfl ?_
      refine rs_iadd (r := ((61 : Int32) + v2)) ri_212_204 rfl rfl ?_
      obtain ⟨q17, hp⟩ := hp
      refine rs_sald (v := (M.2.1 177 (((61 : Int32) + v2).toNatClampNeg))) ri_212_205 rfl (by decide) (kd_177 hL) q17 rfl ?_
      obtain ⟨q18, hp⟩ := hp
      refine rs_sast (j := (((61 : Int32) * v1) + v2).toNatClampNeg) ri_212_206 rfl (by decide) (kd_177 hL) q18 rfl ?_
      refine rs_aload_n ri_212_207 rfl rfl ?_
      refine rs_gf (v := .ref 178) ri_212_208 rfl (by decide) (ro_kf (kd_163 hL)) rfl (rf_163_23 hL) ?_
      refine rs_bipush (v := (61 : Int32)) ri_212_211 rfl (by decide) ?_
      refine rs_iload_n ri_212_213 rfl rfl ?_
      refine rs_imul (r := ((61 : Int32) * v1)) ri_212_214 rfl rfl ?_
      refine rs_iload_n ri_212_215 rfl rfl ?_
      refine rs_iadd (r := (((61 : Int32) * v1) + v2)) ri_212_216 rfl rfl ?_
      refine rs_aload_n ri_212_217 rfl rfl ?_
      refine rs_gf (v := .ref 178) ri_212_218 rfl (by decide) (ro_kf (kd_163 hL)) rfl (rf_163_23 hL) ?_
      refine rs_bipush (v := (61 : Int32)) ri_212_221 rfl (by decide) ?_
      refine rs_iload_n ri_212_223 rfl rfl ?_
      refine rs_iadd (r := ((61 : Int32) + v2)) ri_212_224 rfl rfl ?_
      obtain ⟨q19, hp⟩ := hp
      refine rs_sald (v := (M.2.1 178 (((61 : Int32) + v2).toNatClampNeg))) ri_212_225 rfl (by decide) (kd_178 hL) q19 rfl ?_
      obtain ⟨q20, hp⟩ := hp
      refine rs_sast (j := (((61 : Int32) * v1) + v2).toNatClampNeg) ri_212_226 rfl (by decide) (kd_178 hL) q20 rfl ?_
      refine rs_iinc (v := (v2 + (1 : Int32))) (lv2 := [(2, .int (v2 + (1 : Int32))), (0, .ref 163), (1, .int v1)]) ri_212_227 rfl rfl rfl rm_212.1 (by decide) rfl ?_
      refine rs_goto (t := 177) ri_212_230 rfl ?_
      have e : xg_212_177 (n + 1) M v2 v1 = xg_212_177 n (ro_sI (ro_sI M 177 ((((61 : Int32) * v1) + v2).toNatClampNeg) (vp_nar .short (M.2.1 177 (((61 : Int32) + v2).toNatClampNeg)))) 178 ((((61 : Int32) * v1) + v2).toNatClampNeg) (vp_nar .short (M.2.1 178 (((61 : Int32) + v2).toNatClampNeg)))) (v2 + (1 : Int32)) v1 := by rw [xg_212_177]; first | (simp only [if_neg h17]; done) | rfl
      rw [e] at hk
      exact ro_w_lv (ro_sub_c rfl (ro_sub_c rfl (ro_sub_c rfl (ro_sub_n rfl)))) (ih hL  hp hk)
theorem xl_212_177 : ∀ (n : Nat) {M : ro_Mm} {v2 : Int32} {v1 : Int32} (hL : ro_lay M) (hp : xq_212_177 n M v2 v1), ro_lay (xg_212_177 n M v2 v1).2 := by
  intro n
  induction n with
  | zero => intro M v2 v1 hL hp; exact False.elim hp
  | succ n ih =>
    intro M v2 v1 hL hp
    rw [xq_212_177] at hp
    rw [xg_212_177]
    obtain ⟨q15, hp⟩ := hp
    by_cases hz : (M.2.1 176 (v1.toNatClampNeg)) ≤ v2
    · have hp := hp.1 hz
      rw [if_pos hz]
      exact hL
    · have hp := hp.2 hz
      rw [if_neg hz]
      obtain ⟨q17, hp⟩ := hp
      obtain ⟨q18, hp⟩ := hp
      obtain ⟨q19, hp⟩ := hp
      obtain ⟨q20, hp⟩ := hp
      exact ih hL  hp
/-- RefusedOnceModel.readText(I)I -/
noncomputable def xf_212 (M : ro_Mm) (v1 : Int32) : Int32 := (if (0 : Int32) ≤ ((xg_212_31 lp_N (xm_213 (ro_sI (ro_sI (ro_sI (ro_sI (ro_sI M 163 15 (0 : Int32)) 163 16 (-1 : Int32)) 163 17 (0 : Int32)) 163 18 (0 : Int32)) 176 1 (0 : Int32))) v1).2.1 163 16) then (if ((xg_212_31 lp_N (xm_213 (ro_sI (ro_sI (ro_sI (ro_sI (ro_sI M 163 15 (0 : Int32)) 163 16 (-1 : Int32)) 163 17 (0 : Int32)) 163 18 (0 : Int32)) 176 1 (0 : Int32))) v1).2.1 163 16) < (0 : Int32) then (-1 : Int32) else ((xg_212_31 lp_N (xm_213 (ro_sI (ro_sI (ro_sI (ro_sI (ro_sI M 163 15 (0 : Int32)) 163 16 (-1 : Int32)) 163 17 (0 : Int32)) 163 18 (0 : Int32)) 176 1 (0 : Int32))) v1).2.1 163 16)) else (if ((xg_212_31 lp_N (xm_213 (ro_sI (ro_sI (ro_sI (ro_sI (ro_sI M 163 15 (0 : Int32)) 163 16 (-1 : Int32)) 163 17 (0 : Int32)) 163 18 (0 : Int32)) 176 1 (0 : Int32))) v1).2.1 163 14) ≤ ((xg_212_31 lp_N (xm_213 (ro_sI (ro_sI (ro_sI (ro_sI (ro_sI M 163 15 (0 : Int32)) 163 16 (-1 : Int32)) 163 17 (0 : Int32)) 163 18 (0 : Int32)) 176 1 (0 : Int32))) v1).2.1 163 15) then (if ((xg_212_31 lp_N (xm_213 (ro_sI (ro_sI (ro_sI (ro_sI (ro_sI M 163 15 (0 : Int32)) 163 16 (-1 : Int32)) 163 17 (0 : Int32)) 163 18 (0 : Int32)) 176 1 (0 : Int32))) v1).2.1 163 16) < (0 : Int32) then (-1 : Int32) else ((xg_212_31 lp_N (xm_213 (ro_sI (ro_sI (ro_sI (ro_sI (ro_sI M 163 15 (0 : Int32)) 163 16 (-1 : Int32)) 163 17 (0 : Int32)) 163 18 (0 : Int32)) 176 1 (0 : Int32))) v1).2.1 163 16)) else (if ((xm_224 (xg_212_31 lp_N (xm_213 (ro_sI (ro_sI (ro_sI (ro_sI (ro_sI M 163 15 (0 : Int32)) 163 16 (-1 : Int32)) 163 17 (0 : Int32)) 163 18 (0 : Int32)) 176 1 (0 : Int32))) v1)).2.1 163 16) < (0 : Int32) then (-1 : Int32) else ((xm_224 (xg_212_31 lp_N (xm_213 (ro_sI (ro_sI (ro_sI (ro_sI (ro_sI M 163 15 (0 : Int32)) 163 16 (-1 : Int32)) 163 17 (0 : Int32)) 163 18 (0 : Int32)) 176 1 (0 : Int32))) v1)).2.1 163 16))))
noncomputable def xm_212 (M : ro_Mm) (v1 : Int32) : ro_Mm := (if (0 : Int32) ≤ ((xg_212_31 lp_N (xm_213 (ro_sI (ro_sI (ro_sI (ro_sI (ro_sI M 163 15 (0 : Int32)) 163 16 (-1 : Int32)) 163 17 (0 : Int32)) 163 18 (0 : Int32)) 176 1 (0 : Int32))) v1).2.1 163 16) then (if ((xg_212_31 lp_N (xm_213 (ro_sI (ro_sI (ro_sI (ro_sI (ro_sI M 163 15 (0 : Int32)) 163 16 (-1 : Int32)) 163 17 (0 : Int32)) 163 18 (0 : Int32)) 176 1 (0 : Int32))) v1).2.1 163 16) < (0 : Int32) then (xg_212_177 lp_N (ro_sI (xg_212_105 lp_N (ro_sI (xg_212_31 lp_N (xm_213 (ro_sI (ro_sI (ro_sI (ro_sI (ro_sI M 163 15 (0 : Int32)) 163 16 (-1 : Int32)) 163 17 (0 : Int32)) 163 18 (0 : Int32)) 176 1 (0 : Int32))) v1) 163 14 (0 : Int32)) (0 : Int32) v1).2 176 (v1.toNatClampNeg) ((xg_212_105 lp_N (ro_sI (xg_212_31 lp_N (xm_213 (ro_sI (ro_sI (ro_sI (ro_sI (ro_sI M 163 15 (0 : Int32)) 163 16 (-1 : Int32)) 163 17 (0 : Int32)) 163 18 (0 : Int32)) 176 1 (0 : Int32))) v1) 163 14 (0 : Int32)) (0 : Int32) v1).2.2.1 176 1)) (0 : Int32) v1).2 else (ro_sI (xg_212_31 lp_N (xm_213 (ro_sI (ro_sI (ro_sI (ro_sI (ro_sI M 163 15 (0 : Int32)) 163 16 (-1 : Int32)) 163 17 (0 : Int32)) 163 18 (0 : Int32)) 176 1 (0 : Int32))) v1) 163 14 (0 : Int32))) else (if ((xg_212_31 lp_N (xm_213 (ro_sI (ro_sI (ro_sI (ro_sI (ro_sI M 163 15 (0 : Int32)) 163 16 (-1 : Int32)) 163 17 (0 : Int32)) 163 18 (0 : Int32)) 176 1 (0 : Int32))) v1).2.1 163 14) ≤ ((xg_212_31 lp_N (xm_213 (ro_sI (ro_sI (ro_sI (ro_sI (ro_sI M 163 15 (0 : Int32)) 163 16 (-1 : Int32)) 163 17 (0 : Int32)) 163 18 (0 : Int32)) 176 1 (0 : Int32))) v1).2.1 163 15) then (if ((xg_212_31 lp_N (xm_213 (ro_sI (ro_sI (ro_sI (ro_sI (ro_sI M 163 15 (0 : Int32)) 163 16 (-1 : Int32)) 163 17 (0 : Int32)) 163 18 (0 : Int32)) 176 1 (0 : Int32))) v1).2.1 163 16) < (0 : Int32) then (xg_212_177 lp_N (ro_sI (xg_212_105 lp_N (ro_sI (xg_212_31 lp_N (xm_213 (ro_sI (ro_sI (ro_sI (ro_sI (ro_sI M 163 15 (0 : Int32)) 163 16 (-1 : Int32)) 163 17 (0 : Int32)) 163 18 (0 : Int32)) 176 1 (0 : Int32))) v1) 163 14 (0 : Int32)) (0 : Int32) v1).2 176 (v1.toNatClampNeg) ((xg_212_105 lp_N (ro_sI (xg_212_31 lp_N (xm_213 (ro_sI (ro_sI (ro_sI (ro_sI (ro_sI M 163 15 (0 : Int32)) 163 16 (-1 : Int32)) 163 17 (0 : Int32)) 163 18 (0 : Int32)) 176 1 (0 : Int32))) v1) 163 14 (0 : Int32)) (0 : Int32) v1).2.2.1 176 1)) (0 : Int32) v1).2 else (ro_sI (xg_212_31 lp_N (xm_213 (ro_sI (ro_sI (ro_sI (ro_sI (ro_sI M 163 15 (0 : Int32)) 163 16 (-1 : Int32)) 163 17 (0 : Int32)) 163 18 (0 : Int32)) 176 1 (0 : Int32))) v1) 163 14 (0 : Int32))) else (if ((xm_224 (xg_212_31 lp_N (xm_213 (ro_sI (ro_sI (ro_sI (ro_sI (ro_sI M 163 15 (0 : Int32)) 163 16 (-1 : Int32)) 163 17 (0 : Int32)) 163 18 (0 : Int32)) 176 1 (0 : Int32))) v1)).2.1 163 16) < (0 : Int32) then (xg_212_177 lp_N (ro_sI (xg_212_105 lp_N (ro_sI (xm_224 (xg_212_31 lp_N (xm_213 (ro_sI (ro_sI (ro_sI (ro_sI (ro_sI M 163 15 (0 : Int32)) 163 16 (-1 : Int32)) 163 17 (0 : Int32)) 163 18 (0 : Int32)) 176 1 (0 : Int32))) v1)) 163 14 (0 : Int32)) (0 : Int32) v1).2 176 (v1.toNatClampNeg) ((xg_212_105 lp_N (ro_sI (xm_224 (xg_212_31 lp_N (xm_213 (ro_sI (ro_sI (ro_sI (ro_sI (ro_sI M 163 15 (0 : Int32)) 163 16 (-1 : Int32)) 163 17 (0 : Int32)) 163 18 (0 : Int32)) 176 1 (0 : Int32))) v1)) 163 14 (0 : Int32)) (0 : Int32) v1).2.2.1 176 1)) (0 : Int32) v1).2 else (ro_sI (xm_224 (xg_212_31 lp_N (xm_213 (ro_sI (ro_sI (ro_sI (ro_sI (ro_sI M 163 15 (0 : Int32)) 163 16 (-1 : Int32)) 163 17 (0 : Int32)) 163 18 (0 : Int32)) 176 1 (0 : Int32))) v1)) 163 14 (0 : Int32)))))
def xp_212 (M : ro_Mm) (v1 : Int32) : Prop := (xp_213 (ro_sI (ro_sI (ro_sI (ro_sI (ro_sI M 163 15 (0 : Int32)) 163 16 (-1 : Int32)) 163 17 (0 : Int32)) 163 18 (0 : Int32)) 176 1 (0 : Int32)) ∧ (xq_212_31 lp_N (xm_213 (ro_sI (ro_sI (ro_sI (ro_sI (ro_sI M 163 15 (0 : Int32)) 163 16 (-1 : Int32)) 163 17 (0 : Int32)) 163 18 (0 : Int32)) 176 1 (0 : Int32))) v1 ∧ (((0 : Int32) ≤ ((xg_212_31 lp_N (xm_213 (ro_sI (ro_sI (ro_sI (ro_sI (ro_sI M 163 15 (0 : Int32)) 163 16 (-1 : Int32)) 163 17 (0 : Int32)) 163 18 (0 : Int32)) 176 1 (0 : Int32))) v1).2.1 163 16) → ((((xg_212_31 lp_N (xm_213 (ro_sI (ro_sI (ro_sI (ro_sI (ro_sI M 163 15 (0 : Int32)) 163 16 (-1 : Int32)) 163 17 (0 : Int32)) 163 18 (0 : Int32)) 176 1 (0 : Int32))) v1).2.1 163 16) < (0 : Int32) → (xq_212_105 lp_N (ro_sI (xg_212_31 lp_N (xm_213 (ro_sI (ro_sI (ro_sI (ro_sI (ro_sI M 163 15 (0 : Int32)) 163 16 (-1 : Int32)) 163 17 (0 : Int32)) 163 18 (0 : Int32)) 176 1 (0 : Int32))) v1) 163 14 (0 : Int32)) (0 : Int32) v1 ∧ (vp_in v1 2 ∧ (xq_212_177 lp_N (ro_sI (xg_212_105 lp_N (ro_sI (xg_212_31 lp_N (xm_213 (ro_sI (ro_sI (ro_sI (ro_sI (ro_sI M 163 15 (0 : Int32)) 163 16 (-1 : Int32)) 163 17 (0 : Int32)) 163 18 (0 : Int32)) 176 1 (0 : Int32))) v1) 163 14 (0 : Int32)) (0 : Int32) v1).2 176 (v1.toNatClampNeg) ((xg_212_105 lp_N (ro_sI (xg_212_31 lp_N (xm_213 (ro_sI (ro_sI (ro_sI (ro_sI (ro_sI M 163 15 (0 : Int32)) 163 16 (-1 : Int32)) 163 17 (0 : Int32)) 163 18 (0 : Int32)) 176 1 (0 : Int32))) v1) 163 14 (0 : Int32)) (0 : Int32) v1).2.2.1 176 1)) (0 : Int32) v1 ∧ True)))) ∧ (¬ (((xg_212_31 lp_N (xm_213 (ro_sI (ro_sI (ro_sI (ro_sI (ro_sI M 163 15 (0 : Int32)) 163 16 (-1 : Int32)) 163 17 (0 : Int32)) 163 18 (0 : Int32)) 176 1 (0 : Int32))) v1).2.1 163 16) < (0 : Int32)) → True))) ∧ (¬ ((0 : Int32) ≤ ((xg_212_31 lp_N (xm_213 (ro_sI (ro_sI (ro_sI (ro_sI (ro_sI M 163 15 (0 : Int32)) 163 16 (-1 : Int32)) 163 17 (0 : Int32)) 163 18 (0 : Int32)) 176 1 (0 : Int32))) v1).2.1 163 16)) → ((((xg_212_31 lp_N (xm_213 (ro_sI (ro_sI (ro_sI (ro_sI (ro_sI M 163 15 (0 : Int32)) 163 16 (-1 : Int32)) 163 17 (0 : Int32)) 163 18 (0 : Int32)) 176 1 (0 : Int32))) v1).2.1 163 14) ≤ ((xg_212_31 lp_N (xm_213 (ro_sI (ro_sI (ro_sI (ro_sI (ro_sI M 163 15 (0 : Int32)) 163 16 (-1 : Int32)) 163 17 (0 : Int32)) 163 18 (0 : Int32)) 176 1 (0 : Int32))) v1).2.1 163 15) → ((((xg_212_31 lp_N (xm_213 (ro_sI (ro_sI (ro_sI (ro_sI (ro_sI M 163 15 (0 : Int32)) 163 16 (-1 : Int32)) 163 17 (0 : Int32)) 163 18 (0 : Int32)) 176 1 (0 : Int32))) v1).2.1 163 16) < (0 : Int32) → (xq_212_105 lp_N (ro_sI (xg_212_31 lp_N (xm_213 (ro_sI (ro_sI (ro_sI (ro_sI (ro_sI M 163 15 (0 : Int32)) 163 16 (-1 : Int32)) 163 17 (0 : Int32)) 163 18 (0 : Int32)) 176 1 (0 : Int32))) v1) 163 14 (0 : Int32)) (0 : Int32) v1 ∧ (vp_in v1 2 ∧ (xq_212_177 lp_N (ro_sI (xg_212_105 lp_N (ro_sI (xg_212_31 lp_N (xm_213 (ro_sI (ro_sI (ro_sI (ro_sI (ro_sI M 163 15 (0 : Int32)) 163 16 (-1 : Int32)) 163 17 (0 : Int32)) 163 18 (0 : Int32)) 176 1 (0 : Int32))) v1) 163 14 (0 : Int32)) (0 : Int32) v1).2 176 (v1.toNatClampNeg) ((xg_212_105 lp_N (ro_sI (xg_212_31 lp_N (xm_213 (ro_sI (ro_sI (ro_sI (ro_sI (ro_sI M 163 15 (0 : Int32)) 163 16 (-1 : Int32)) 163 17 (0 : Int32)) 163 18 (0 : Int32)) 176 1 (0 : Int32))) v1) 163 14 (0 : Int32)) (0 : Int32) v1).2.2.1 176 1)) (0 : Int32) v1 ∧ True)))) ∧ (¬ (((xg_212_31 lp_N (xm_213 (ro_sI (ro_sI (ro_sI (ro_sI (ro_sI M 163 15 (0 : Int32)) 163 16 (-1 : Int32)) 163 17 (0 : Int32)) 163 18 (0 : Int32)) 176 1 (0 : Int32))) v1).2.1 163 16) < (0 : Int32)) → True))) ∧ (¬ (((xg_212_31 lp_N (xm_213 (ro_sI (ro_sI (ro_sI (ro_sI (ro_sI M 163 15 (0 : Int32)) 163 16 (-1 : Int32)) 163 17 (0 : Int32)) 163 18 (0 : Int32)) 176 1 (0 : Int32))) v1).2.1 163 14) ≤ ((xg_212_31 lp_N (xm_213 (ro_sI (ro_sI (ro_sI (ro_sI (ro_sI M 163 15 (0 : Int32)) 163 16 (-1 : Int32)) 163 17 (0 : Int32)) 163 18 (0 : Int32)) 176 1 (0 : Int32))) v1).2.1 163 15)) → ((((xm_224 (xg_212_31 lp_N (xm_213 (ro_sI (ro_sI (ro_sI (ro_sI (ro_sI M 163 15 (0 : Int32)) 163 16 (-1 : Int32)) 163 17 (0 : Int32)) 163 18 (0 : Int32)) 176 1 (0 : Int32))) v1)).2.1 163 16) < (0 : Int32) → (xq_212_105 lp_N (ro_sI (xm_224 (xg_212_31 lp_N (xm_213 (ro_sI (ro_sI (ro_sI (ro_sI (ro_sI M 163 15 (0 : Int32)) 163 16 (-1 : Int32)) 163 17 (0 : Int32)) 163 18 (0 : Int32)) 176 1 (0 : Int32))) v1)) 163 14 (0 : Int32)) (0 : Int32) v1 ∧ (vp_in v1 2 ∧ (xq_212_177 lp_N (ro_sI (xg_212_105 lp_N (ro_sI (xm_224 (xg_212_31 lp_N (xm_213 (ro_sI (ro_sI (ro_sI (ro_sI (ro_sI M 163 15 (0 : Int32)) 163 16 (-1 : Int32)) 163 17 (0 : Int32)) 163 18 (0 : Int32)) 176 1 (0 : Int32))) v1)) 163 14 (0 : Int32)) (0 : Int32) v1).2 176 (v1.toNatClampNeg) ((xg_212_105 lp_N (ro_sI (xm_224 (xg_212_31 lp_N (xm_213 (ro_sI (ro_sI (ro_sI (ro_sI (ro_sI M 163 15 (0 : Int32)) 163 16 (-1 : Int32)) 163 17 (0 : Int32)) 163 18 (0 : Int32)) 176 1 (0 : Int32))) v1)) 163 14 (0 : Int32)) (0 : Int32) v1).2.2.1 176 1)) (0 : Int32) v1 ∧ True)))) ∧ (¬ (((xm_224 (xg_212_31 lp_N (xm_213 (ro_sI (ro_sI (ro_sI (ro_sI (ro_sI M 163 15 (0 : Int32)) 163 16 (-1 : Int32)) 163 17 (0 : Int32)) 163 18 (0 : Int32)) 176 1 (0 : Int32))) v1)).2.1 163 16) < (0 : Int32)) → True))))))))
theorem xs_212 {X : ro_Sx} {M : ro_Mm} {v1 : Int32} (hL : ro_lay M) (hp : xp_212 M v1) : ro_cwp X 908 212 [.ref 163, .int v1] M (fun v M2 => v = some (.int (xf_212 M v1)) ∧ M2 = xm_212 M v1) := by
  refine rs_begin (lv0 := [(0, .ref 163), (1, .int v1)]) (by decide) rfl (by rw [rm_212.1]; exact Nat.le_of_ble_eq_true rfl) rfl ?_
  unfold xp_212 at hp
  refine rs_aload_n ri_212_0 rfl rfl ?_
  refine rs_iconst (v := (0 : Int32)) ri_212_1 rfl (by decide) ?_
  refine rs_pf (M2 := (ro_sI M 163 15 (0 : Int32))) ri_212_2 rfl (by decide) (ro_kf (kd_163 hL)) (fun h => absurd h (by decide)) (fun f h => h) ?_
  refine rs_aload_n ri_212_5 rfl rfl ?_
  refine rs_iconst (v := (-1 : Int32)) ri_212_6 rfl (by decide) ?_
  refine rs_pf (M2 := (ro_sI (ro_sI M 163 15 (0 : Int32)) 163 16 (-1 : Int32))) ri_212_7 rfl (by decide) (ro_kf (kd_163 hL)) (fun h => absurd h (by decide)) (fun f h => h) ?_
  refine rs_aload_n ri_212_10 rfl rfl ?_
  refine rs_iconst (v := (0 : Int32)) ri_212_11 rfl (by decide) ?_
  refine rs_pf (M2 := (ro_sI (ro_sI (ro_sI M 163 15 (0 : Int32)) 163 16 (-1 : Int32)) 163 17 (0 : Int32))) ri_212_12 rfl (by decide) (ro_kf (kd_163 hL)) (fun h => absurd h (by decide)) (fun f h => h) ?_
  refine rs_aload_n ri_212_15 rfl rfl ?_
  refine rs_iconst (v := (0 : Int32)) ri_212_16 rfl (by decide) ?_
  refine rs_pf (M2 := (ro_sI (ro_sI (ro_sI (ro_sI M 163 15 (0 : Int32)) 163 16 (-1 : Int32)) 163 17 (0 : Int32)) 163 18 (0 : Int32))) ri_212_17 rfl (by decide) (ro_kf (kd_163 hL)) (fun h => absurd h (by decide)) (fun f h => h) ?_
  refine rs_aload_n ri_212_20 rfl rfl ?_
  refine rs_gf (v := .ref 176) ri_212_21 rfl (by decide) (ro_kf (kd_163 hL)) rfl (rf_163_21 hL) ?_
  refine rs_iconst (v := (1 : Int32)) ri_212_24 rfl (by decide) ?_
  refine rs_iconst (v := (0 : Int32)) ri_212_25 rfl (by decide) ?_
  refine rs_iast (j := 1) ri_212_26 rfl (by decide) (kd_176 hL) (vp_in_iff.mpr ⟨by decide, by decide⟩) rfl ?_
  refine rs_aload_n ri_212_27 rfl rfl ?_
  obtain ⟨q0, hp⟩ := hp
  refine rs_virt (As := []) (r := []) ri_212_28 rfl (by decide) rm_213.2.2.2 rm_213.2.2.1 rfl rfl rfl (by decide) (ro_kf (kd_163 hL)) (Nat.le_of_ble_eq_true rfl) (by decide) (by decide) (xs_213 (X := X) hL q0) ?_
  rintro _ _ ⟨e1, e2⟩
  rw [e1, e2]
  show ro_w X _ 212 _ 31 [(0, .ref 163), (1, .int v1)] [] (xm_213 (ro_sI (ro_sI (ro_sI (ro_sI (ro_sI M 163 15 (0 : Int32)) 163 16 (-1 : Int32)) 163 17 (0 : Int32)) 163 18 (0 : Int32)) 176 1 (0 : Int32))) (0, 0)
  obtain ⟨q5, hp⟩ := hp
  refine xt_212_31 lp_N (xl_213 hL q0) q5 ?_
  refine rs_aload_n ri_212_64 rfl rfl ?_
  refine rs_gf (v := .int ((xg_212_31 lp_N (xm_213 (ro_sI (ro_sI (ro_sI (ro_sI (ro_sI M 163 15 (0 : Int32)) 163 16 (-1 : Int32)) 163 17 (0 : Int32)) 163 18 (0 : Int32)) 176 1 (0 : Int32))) v1).2.1 163 16)) ri_212_65 rfl (by decide) (ro_kf (kd_163 (xl_212_31 lp_N (xl_213 hL q0) q5))) rfl rfl ?_
  refine rs_if_ge (t := 86) ri_212_68 rfl rfl (fun h7 => ?_) (fun h7 => ?_)
  · have hp := hp.1 h7
    refine rs_aload_n ri_212_86 rfl rfl ?_
    refine rs_iconst (v := (0 : Int32)) ri_212_87 rfl (by decide) ?_
    refine rs_pf (M2 := (ro_sI (xg_212_31 lp_N (xm_213 (ro_sI (ro_sI (ro_sI (ro_sI (ro_sI M 163 15 (0 : Int32)) 163 16 (-1 : Int32)) 163 17 (0 : Int32)) 163 18 (0 : Int32)) 176 1 (0 : Int32))) v1) 163 14 (0 : Int32))) ri_212_88 rfl (by decide) (ro_kf (kd_163 (xl_212_31 lp_N (xl_213 hL q0) q5))) (fun h => absurd h (by decide)) (fun f h => h) ?_
    refine rs_aload_n ri_212_91 rfl rfl ?_
    refine rs_gf (v := .int ((xg_212_31 lp_N (xm_213 (ro_sI (ro_sI (ro_sI (ro_sI (ro_sI M 163 15 (0 : Int32)) 163 16 (-1 : Int32)) 163 17 (0 : Int32)) 163 18 (0 : Int32)) 176 1 (0 : Int32))) v1).2.1 163 16)) ri_212_92 rfl (by decide) (ro_kf (kd_163 (xl_212_31 lp_N (xl_213 hL q0) q5))) rfl rfl ?_
    refine rs_if_lt (t := 103) ri_212_95 rfl rfl (fun h8 => ?_) (fun h8 => ?_)
    · have hp := hp.1 h8
      refine rs_iconst (v := (0 : Int32)) ri_212_103 rfl (by decide) ?_
      refine rs_istore_n (lv2 := [(2, .int (0 : Int32)), (0, .ref 163), (1, .int v1)]) ri_212_104 rfl rm_212.1 (by decide) rfl ?_
      obtain ⟨q13, hp⟩ := hp
      refine xt_212_105 lp_N (xl_212_31 lp_N (xl_213 hL q0) q5) q13 ?_
      refine rs_aload_n ri_212_163 rfl rfl ?_
      refine rs_gf (v := .ref 176) ri_212_164 rfl (by decide) (ro_kf (kd_163 (xl_212_105 lp_N (xl_212_31 lp_N (xl_213 hL q0) q5) q13))) rfl (rf_163_21 (xl_212_105 lp_N (xl_212_31 lp_N (xl_213 hL q0) q5) q13)) ?_
      refine rs_iload_n ri_212_167 rfl rfl ?_
      refine rs_aload_n ri_212_168 rfl rfl ?_
      refine rs_gf (v := .ref 176) ri_212_169 rfl (by decide) (ro_kf (kd_163 (xl_212_105 lp_N (xl_212_31 lp_N (xl_213 hL q0) q5) q13))) rfl (rf_163_21 (xl_212_105 lp_N (xl_212_31 lp_N (xl_213 hL q0) q5) q13)) ?_
      refine rs_iconst (v := (1 : Int32)) ri_212_172 rfl (by decide) ?_
      refine rs_iald (v := ((xg_212_105 lp_N (ro_sI (xg_212_31 lp_N (xm_213 (ro_sI (ro_sI (ro_sI (ro_sI (ro_sI M 163 15 (0 : Int32)) 163 16 (-1 : Int32)) 163 17 (0 : Int32)) 163 18 (0 : Int32)) 176 1 (0 : Int32))) v1) 163 14 (0 : Int32)) (0 : Int32) v1).2.2.1 176 1)) ri_212_173 rfl (by decide) (kd_176 (xl_212_105 lp_N (xl_212_31 lp_N (xl_213 hL q0) q5) q13)) (vp_in_iff.mpr ⟨by decide, by decide⟩) rfl ?_
      obtain ⟨q14, hp⟩ := hp
      refine rs_iast (j := v1.toNatClampNeg) ri_212_174 rfl (by decide) (kd_176 (xl_212_105 lp_N (xl_212_31 lp_N (xl_213 hL q0) q5) q13)) q14 rfl ?_
      refine rs_iconst (v := (0 : Int32)) ri_212_175 rfl (by decide) ?_
      refine rs_istore_n (lv2 := [(2, .int (0 : Int32)), (0, .ref 163), (1, .int v1)]) ri_212_176 rfl rm_212.1 (by decide) rfl ?_
      obtain ⟨q21, hp⟩ := hp
      refine xt_212_177 lp_N (xl_212_105 lp_N (xl_212_31 lp_N (xl_213 hL q0) q5) q13) q21 ?_
      refine rs_iconst (v := (-1 : Int32)) ri_212_233 rfl (by decide) ?_
      refine rs_iret ri_212_234 rm_212.2.1 (by decide) ?_
      exact ⟨by unfold xf_212; first | (simp only [if_pos h7, if_pos h8]; done) | rfl, by unfold xm_212; first | (simp only [if_pos h7, if_pos h8]; done) | rfl⟩
    · have hp := hp.2 h8
      refine rs_aload_n ri_212_98 rfl rfl ?_
      refine rs_gf (v := .int ((xg_212_31 lp_N (xm_213 (ro_sI (ro_sI (ro_sI (ro_sI (ro_sI M 163 15 (0 : Int32)) 163 16 (-1 : Int32)) 163 17 (0 : Int32)) 163 18 (0 : Int32)) 176 1 (0 : Int32))) v1).2.1 163 16)) ri_212_99 rfl (by decide) (ro_kf (kd_163 (xl_212_31 lp_N (xl_213 hL q0) q5))) rfl rfl ?_
      refine rs_iret ri_212_102 rm_212.2.1 (by decide) ?_
      exact ⟨by unfold xf_212; first | (simp only [if_pos h7, if_neg h8]; done) | rfl, by unfold xm_212; first | (simp only [if_pos h7, if_neg h8]; done) | rfl⟩
  · have hp := hp.2 h7
    refine rs_aload_n ri_212_71 rfl rfl ?_
    refine rs_gf (v := .int ((xg_212_31 lp_N (xm_213 (ro_sI (ro_sI (ro_sI (ro_sI (ro_sI M 163 15 (0 : Int32)) 163 16 (-1 : Int32)) 163 17 (0 : Int32)) 163 18 (0 : Int32)) 176 1 (0 : Int32))) v1).2.1 163 15)) ri_212_72 rfl (by decide) (ro_kf (kd_163 (xl_212_31 lp_N (xl_213 hL q0) q5))) rfl rfl ?_
    refine rs_aload_n ri_212_75 rfl rfl ?_
    refine rs_gf (v := .int ((xg_212_31 lp_N (xm_213 (ro_sI (ro_sI (ro_sI (ro_sI (ro_sI M 163 15 (0 : Int32)) 163 16 (-1 : Int32)) 163 17 (0 : Int32)) 163 18 (0 : Int32)) 176 1 (0 : Int32))) v1).2.1 163 14)) ri_212_76 rfl (by decide) (ro_kf (kd_163 (xl_212_31 lp_N (xl_213 hL q0) q5))) rfl rfl ?_
    refine rs_icmp_ge (t := 86) ri_212_79 rfl rfl (fun h23 => ?_) (fun h23 => ?_)
    · have hp := hp.1 h23
      refine rs_aload_n ri_212_86 rfl rfl ?_
      refine rs_iconst (v := (0 : Int32)) ri_212_87 rfl (by decide) ?_
      refine rs_pf (M2 := (ro_sI (xg_212_31 lp_N (xm_213 (ro_sI (ro_sI (ro_sI (ro_sI (ro_sI M 163 15 (0 : Int32)) 163 16 (-1 : Int32)) 163 17 (0 : Int32)) 163 18 (0 : Int32)) 176 1 (0 : Int32))) v1) 163 14 (0 : Int32))) ri_212_88 rfl (by decide) (ro_kf (kd_163 (xl_212_31 lp_N (xl_213 hL q0) q5))) (fun h => absurd h (by decide)) (fun f h => h) ?_
      refine rs_aload_n ri_212_91 rfl rfl ?_
      refine rs_gf (v := .int ((xg_212_31 lp_N (xm_213 (ro_sI (ro_sI (ro_sI (ro_sI (ro_sI M 163 15 (0 : Int32)) 163 16 (-1 : Int32)) 163 17 (0 : Int32)) 163 18 (0 : Int32)) 176 1 (0 : Int32))) v1).2.1 163 16)) ri_212_92 rfl (by decide) (ro_kf (kd_163 (xl_212_31 lp_N (xl_213 hL q0) q5))) rfl rfl ?_
      refine rs_if_lt (t := 103) ri_212_95 rfl rfl (fun h24 => ?_) (fun h24 => ?_)
      · have hp := hp.1 h24
        refine rs_iconst (v := (0 : Int32)) ri_212_103 rfl (by decide) ?_
        refine rs_istore_n (lv2 := [(2, .int (0 : Int32)), (0, .ref 163), (1, .int v1)]) ri_212_104 rfl rm_212.1 (by decide) rfl ?_
        obtain ⟨q29, hp⟩ := hp
        refine xt_212_105 lp_N (xl_212_31 lp_N (xl_213 hL q0) q5) q29 ?_
        refine rs_aload_n ri_212_163 rfl rfl ?_
        refine rs_gf (v := .ref 176) ri_212_164 rfl (by decide) (ro_kf (kd_163 (xl_212_105 lp_N (xl_212_31 lp_N (xl_213 hL q0) q5) q29))) rfl (rf_163_21 (xl_212_105 lp_N (xl_212_31 lp_N (xl_213 hL q0) q5) q29)) ?_
        refine rs_iload_n ri_212_167 rfl rfl ?_
        refine rs_aload_n ri_212_168 rfl rfl ?_
        refine rs_gf (v := .ref 176) ri_212_169 rfl (by decide) (ro_kf (kd_163 (xl_212_105 lp_N (xl_212_31 lp_N (xl_213 hL q0) q5) q29))) rfl (rf_163_21 (xl_212_105 lp_N (xl_212_31 lp_N (xl_213 hL q0) q5) q29)) ?_
        refine rs_iconst (v := (1 : Int32)) ri_212_172 rfl (by decide) ?_
        refine rs_iald (v := ((xg_212_105 lp_N (ro_sI (xg_212_31 lp_N (xm_213 (ro_sI (ro_sI (ro_sI (ro_sI (ro_sI M 163 15 (0 : Int32)) 163 16 (-1 : Int32)) 163 17 (0 : Int32)) 163 18 (0 : Int32)) 176 1 (0 : Int32))) v1) 163 14 (0 : Int32)) (0 : Int32) v1).2.2.1 176 1)) ri_212_173 rfl (by decide) (kd_176 (xl_212_105 lp_N (xl_212_31 lp_N (xl_213 hL q0) q5) q29)) (vp_in_iff.mpr ⟨by decide, by decide⟩) rfl ?_
        obtain ⟨q30, hp⟩ := hp
        refine rs_iast (j := v1.toNatClampNeg) ri_212_174 rfl (by decide) (kd_176 (xl_212_105 lp_N (xl_212_31 lp_N (xl_213 hL q0) q5) q29)) q30 rfl ?_
        refine rs_iconst (v := (0 : Int32)) ri_212_175 rfl (by decide) ?_
        refine rs_istore_n (lv2 := [(2, .int (0 : Int32)), (0, .ref 163), (1, .int v1)]) ri_212_176 rfl rm_212.1 (by decide) rfl ?_
        obtain ⟨q37, hp⟩ := hp
        refine xt_212_177 lp_N (xl_212_105 lp_N (xl_212_31 lp_N (xl_213 hL q0) q5) q29) q37 ?_
        refine rs_iconst (v := (-1 : Int32)) ri_212_233 rfl (by decide) ?_
        refine rs_iret ri_212_234 rm_212.2.1 (by decide) ?_
        exact ⟨by unfold xf_212; first | (simp only [if_neg h7, if_pos h23, if_pos h24]; done) | rfl, by unfold xm_212; first | (simp only [if_neg h7, if_pos h23, if_pos h24]; done) | rfl⟩
      · have hp := hp.2 h24
        refine rs_aload_n ri_212_98 rfl rfl ?_
        refine rs_gf (v := .int ((xg_212_31 lp_N (xm_213 (ro_sI (ro_sI (ro_sI (ro_sI (ro_sI M 163 15 (0 : Int32)) 163 16 (-1 : Int32)) 163 17 (0 : Int32)) 163 18 (0 : Int32)) 176 1 (0 : Int32))) v1).2.1 163 16)) ri_212_99 rfl (by decide) (ro_kf (kd_163 (xl_212_31 lp_N (xl_213 hL q0) q5))) rfl rfl ?_
        refine rs_iret ri_212_102 rm_212.2.1 (by decide) ?_
        exact ⟨by unfold xf_212; first | (simp only [if_neg h7, if_pos h23, if_neg h24]; done) | rfl, by unfold xm_212; first | (simp only [if_neg h7, if_pos h23, if_neg h24]; done) | rfl⟩
    · have hp := hp.2 h23
      refine rs_aload_n ri_212_82 rfl rfl ?_
      refine rs_virt (As := []) (r := []) ri_212_83 rfl (by decide) rm_224.2.2.2 rm_224.2.2.1 rfl rfl rfl (by decide) (ro_kf (kd_163 (xl_212_31 lp_N (xl_213 hL q0) q5))) (Nat.le_of_ble_eq_true rfl) (by decide) (by decide) (xs_224 (X := X) (xl_212_31 lp_N (xl_213 hL q0) q5)) ?_
      rintro _ _ ⟨e1, e2⟩
      rw [e1, e2]
      show ro_w X _ 212 _ 86 [(0, .ref 163), (1, .int v1)] [] (xm_224 (xg_212_31 lp_N (xm_213 (ro_sI (ro_sI (ro_sI (ro_sI (ro_sI M 163 15 (0 : Int32)) 163 16 (-1 : Int32)) 163 17 (0 : Int32)) 163 18 (0 : Int32)) 176 1 (0 : Int32))) v1)) (0, 0)
      refine rs_aload_n ri_212_86 rfl rfl ?_
      refine rs_iconst (v := (0 : Int32)) ri_212_87 rfl (by decide) ?_
      refine rs_pf (M2 := (ro_sI (xm_224 (xg_212_31 lp_N (xm_213 (ro_sI (ro_sI (ro_sI (ro_sI (ro_sI M 163 15 (0 : Int32)) 163 16 (-1 : Int32)) 163 17 (0 : Int32)) 163 18 (0 : Int32)) 176 1 (0 : Int32))) v1)) 163 14 (0 : Int32))) ri_212_88 rfl (by decide) (ro_kf (kd_163 (xl_224 (xl_212_31 lp_N (xl_213 hL q0) q5)))) (fun h => absurd h (by decide)) (fun f h => h) ?_
      refine rs_aload_n ri_212_91 rfl rfl ?_
      refine rs_gf (v := .int ((xm_224 (xg_212_31 lp_N (xm_213 (ro_sI (ro_sI (ro_sI (ro_sI (ro_sI M 163 15 (0 : Int32)) 163 16 (-1 : Int32)) 163 17 (0 : Int32)) 163 18 (0 : Int32)) 176 1 (0 : Int32))) v1)).2.1 163 16)) ri_212_92 rfl (by decide) (ro_kf (kd_163 (xl_224 (xl_212_31 lp_N (xl_213 hL q0) q5)))) rfl rfl ?_
      refine rs_if_lt (t := 103) ri_212_95 rfl rfl (fun h39 => ?_) (fun h39 => ?_)
      · have hp := hp.1 h39
        refine rs_iconst (v := (0 : Int32)) ri_212_103 rfl (by decide) ?_
        refine rs_istore_n (lv2 := [(2, .int (0 : Int32)), (0, .ref 163), (1, .int v1)]) ri_212_104 rfl rm_212.1 (by decide) rfl ?_
        obtain ⟨q44, hp⟩ := hp
        refine xt_212_105 lp_N (xl_224 (xl_212_31 lp_N (xl_213 hL q0) q5)) q44 ?_
        refine rs_aload_n ri_212_163 rfl rfl ?_
        refine rs_gf (v := .ref 176) ri_212_164 rfl (by decide) (ro_kf (kd_163 (xl_212_105 lp_N (xl_224 (xl_212_31 lp_N (xl_213 hL q0) q5)) q44))) rfl (rf_163_21 (xl_212_105 lp_N (xl_224 (xl_212_31 lp_N (xl_213 hL q0) q5)) q44)) ?_
        refine rs_iload_n ri_212_167 rfl rfl ?_
        refine rs_aload_n ri_212_168 rfl rfl ?_
        refine rs_gf (v := .ref 176) ri_212_169 rfl (by decide) (ro_kf (kd_163 (xl_212_105 lp_N (xl_224 (xl_212_31 lp_N (xl_213 hL q0) q5)) q44))) rfl (rf_163_21 (xl_212_105 lp_N (xl_224 (xl_212_31 lp_N (xl_213 hL q0) q5)) q44)) ?_
        refine rs_iconst (v := (1 : Int32)) ri_212_172 rfl (by decide) ?_
        refine rs_iald (v := ((xg_212_105 lp_N (ro_sI (xm_224 (xg_212_31 lp_N (xm_213 (ro_sI (ro_sI (ro_sI (ro_sI (ro_sI M 163 15 (0 : Int32)) 163 16 (-1 : Int32)) 163 17 (0 : Int32)) 163 18 (0 : Int32)) 176 1 (0 : Int32))) v1)) 163 14 (0 : Int32)) (0 : Int32) v1).2.2.1 176 1)) ri_212_173 rfl (by decide) (kd_176 (xl_212_105 lp_N (xl_224 (xl_212_31 lp_N (xl_213 hL q0) q5)) q44)) (vp_in_iff.mpr ⟨by decide, by decide⟩) rfl ?_
        obtain ⟨q45, hp⟩ := hp
        refine rs_iast (j := v1.toNatClampNeg) ri_212_174 rfl (by decide) (kd_176 (xl_212_105 lp_N (xl_224 (xl_212_31 lp_N (xl_213 hL q0) q5)) q44)) q45 rfl ?_
        refine rs_iconst (v := (0 : Int32)) ri_212_175 rfl (by decide) ?_
        refine rs_istore_n (lv2 := [(2, .int (0 : Int32)), (0, .ref 163), (1, .int v1)]) ri_212_176 rfl rm_212.1 (by decide) rfl ?_
        obtain ⟨q52, hp⟩ := hp
        refine xt_212_177 lp_N (xl_212_105 lp_N (xl_224 (xl_212_31 lp_N (xl_213 hL q0) q5)) q44) q52 ?_
        refine rs_iconst (v := (-1 : Int32)) ri_212_233 rfl (by decide) ?_
        refine rs_iret ri_212_234 rm_212.2.1 (by decide) ?_
        exact ⟨by unfold xf_212; first | (simp only [if_neg h7, if_neg h23, if_pos h39]; done) | rfl, by unfold xm_212; first | (simp only [if_neg h7, if_neg h23, if_pos h39]; done) | rfl⟩
      · have hp := hp.2 h39
        refine rs_aload_n ri_212_98 rfl rfl ?_
        refine rs_gf (v := .int ((xm_224 (xg_212_31 lp_N (xm_213 (ro_sI (ro_sI (ro_sI (ro_sI (ro_sI M 163 15 (0 : Int32)) 163 16 (-1 : Int32)) 163 17 (0 : Int32)) 163 18 (0 : Int32)) 176 1 (0 : Int32))) v1)).2.1 163 16)) ri_212_99 rfl (by decide) (ro_kf (kd_163 (xl_224 (xl_212_31 lp_N (xl_213 hL q0) q5)))) rfl rfl ?_
        refine rs_iret ri_212_102 rm_212.2.1 (by decide) ?_
        exact ⟨by unfold xf_212; first | (simp only [if_neg h7, if_neg h23, if_neg h39]; done) | rfl, by unfold xm_212; first | (simp only [if_neg h7, if_neg h23, if_neg h39]; done) | rfl⟩
theorem xl_212 {M : ro_Mm} {v1 : Int32} (hL : ro_lay M) (hp : xp_212 M v1) : ro_lay (xm_212 M v1) := by
  unfold xp_212 at hp
  unfold xm_212
  obtain ⟨q0, hp⟩ := hp
  obtain ⟨q5, hp⟩ := hp
  by_cases hz : (0 : Int32) ≤ ((xg_212_31 lp_N (xm_213 (ro_sI (ro_sI (ro_sI (ro_sI (ro_sI M 163 15 (0 : Int32)) 163 16 (-1 : Int32)) 163 17 (0 : Int32)) 163 18 (0 : Int32)) 176 1 (0 : Int32))) v1).2.1 163 16)
  · have hp := hp.1 hz
    rw [if_pos hz]
    by_cases hz : ((xg_212_31 lp_N (xm_213 (ro_sI (ro_sI (ro_sI (ro_sI (ro_sI M 163 15 (0 : Int32)) 163 16 (-1 : Int32)) 163 17 (0 : Int32)) 163 18 (0 : Int32)) 176 1 (0 : Int32))) v1).2.1 163 16) < (0 : Int32)
    · have hp := hp.1 hz
      rw [if_pos hz]
      obtain ⟨q13, hp⟩ := hp
      obtain ⟨q14, hp⟩ := hp
      obtain ⟨q21, hp⟩ := hp
      exact (xl_212_177 lp_N (xl_212_105 lp_N (xl_212_31 lp_N (xl_213 hL q0) q5) q13) q21)
    · have hp := hp.2 hz
      rw [if_neg hz]
      exact (xl_212_31 lp_N (xl_213 hL q0) q5)
  · have hp := hp.2 hz
    rw [if_neg hz]
    by_cases hz : ((xg_212_31 lp_N (xm_213 (ro_sI (ro_sI (ro_sI (ro_sI (ro_sI M 163 15 (0 : Int32)) 163 16 (-1 : Int32)) 163 17 (0 : Int32)) 163 18 (0 : Int32)) 176 1 (0 : Int32))) v1).2.1 163 14) ≤ ((xg_212_31 lp_N (xm_213 (ro_sI (ro_sI (ro_sI (ro_sI (ro_sI M 163 15 (0 : Int32)) 163 16 (-1 : Int32)) 163 17 (0 : Int32)) 163 18 (0 : Int32)) 176 1 (0 : Int32))) v1).2.1 163 15)
    · have hp := hp.1 hz
      rw [if_pos hz]
      by_cases hz : ((xg_212_31 lp_N (xm_213 (ro_sI (ro_sI (ro_sI (ro_sI (ro_sI M 163 15 (0 : Int32)) 163 16 (-1 : Int32)) 163 17 (0 : Int32)) 163 18 (0 : Int32)) 176 1 (0 : Int32))) v1).2.1 163 16) < (0 : Int32)
      · have hp := hp.1 hz
        rw [if_pos hz]
        obtain ⟨q29, hp⟩ := hp
        obtain ⟨q30, hp⟩ := hp
        obtain ⟨q37, hp⟩ := hp
        exact (xl_212_177 lp_N (xl_212_105 lp_N (xl_212_31 lp_N (xl_213 hL q0) q5) q29) q37)
      · have hp := hp.2 hz
        rw [if_neg hz]
        exact (xl_212_31 lp_N (xl_213 hL q0) q5)
    · have hp := hp.2 hz
      rw [if_neg hz]
      by_cases hz : ((xm_224 (xg_212_31 lp_N (xm_213 (ro_sI (ro_sI (ro_sI (ro_sI (ro_sI M 163 15 (0 : Int32)) 163 16 (-1 : Int32)) 163 17 (0 : Int32)) 163 18 (0 : Int32)) 176 1 (0 : Int32))) v1)).2.1 163 16) < (0 : Int32)
      · have hp := hp.1 hz
        rw [if_pos hz]
        obtain ⟨q44, hp⟩ := hp
        obtain ⟨q45, hp⟩ := hp
        obtain ⟨q52, hp⟩ := hp
        exact (xl_212_177 lp_N (xl_212_105 lp_N (xl_224 (xl_212_31 lp_N (xl_213 hL q0) q5)) q44) q52)
      · have hp := hp.2 hz
        rw [if_neg hz]
        exact (xl_224 (xl_212_31 lp_N (xl_213 hL q0) q5))
/-- RefusedOnceModel.law()I -/
noncomputable def xf_211 (M : ro_Mm) : Int32 := (if (xf_212 M (0 : Int32)) < (0 : Int32) then (1 : Int32) else ((-100 : Int32) - (xf_212 M (0 : Int32))))
noncomputable def xm_211 (M : ro_Mm) : ro_Mm := (if (xf_212 M (0 : Int32)) < (0 : Int32) then (ro_sI (xm_212 M (0 : Int32)) 163 26 (1 : Int32)) else (xm_212 M (0 : Int32)))
def xp_211 (M : ro_Mm) : Prop := (xp_212 M (0 : Int32) ∧ True)
theorem xs_211 {X : ro_Sx} {M : ro_Mm} (hL : ro_lay M) (hp : xp_211 M) : ro_cwp X 909 211 [.ref 163] M (fun v M2 => v = some (.int (xf_211 M)) ∧ M2 = xm_211 M) := by
  refine rs_begin (lv0 := [(0, .ref 163)]) (by decide) rfl (by rw [rm_211.1]; exact Nat.le_of_ble_eq_true rfl) rfl ?_
  unfold xp_211 at hp
  refine rs_aload_n ri_211_0 rfl rfl ?_
  refine rs_iconst (v := (0 : Int32)) ri_211_1 rfl (by decide) ?_
  obtain ⟨q0, hp⟩ := hp
  refine rs_virt (As := [.int (0 : Int32)]) (r := []) ri_211_2 rfl (by decide) rm_212.2.2.2 rm_212.2.2.1 rfl rfl rfl (by decide) (ro_kf (kd_163 hL)) (Nat.le_of_ble_eq_true rfl) (by decide) (by decide) (xs_212 (X := X) hL q0) ?_
  rintro _ _ ⟨e1, e2⟩
  rw [e1, e2]
  show ro_w X _ 211 _ 5 [(0, .ref 163)] [.int (xf_212 M (0 : Int32))] (xm_212 M (0 : Int32)) (0, 0)
  refine rs_istore_n (lv2 := [(1, .int (xf_212 M (0 : Int32))), (0, .ref 163)]) ri_211_5 rfl rm_211.1 (by decide) rfl ?_
  refine rs_iload_n ri_211_6 rfl rfl ?_
  refine rs_if_lt (t := 15) ri_211_7 rfl rfl (fun h2 => ?_) (fun h2 => ?_)
  · skip
    refine rs_aload_n ri_211_15 rfl rfl ?_
    refine rs_iconst (v := (1 : Int32)) ri_211_16 rfl (by decide) ?_
    refine rs_pf (M2 := (ro_sI (xm_212 M (0 : Int32)) 163 26 (1 : Int32))) ri_211_17 rfl (by decide) (ro_kf (kd_163 (xl_212 hL q0))) (fun h => absurd h (by decide)) (fun f h => ⟨by decide, h⟩) ?_
    refine rs_iconst (v := (1 : Int32)) ri_211_20 rfl (by decide) ?_
    refine rs_iret ri_211_21 rm_211.2.1 (by decide) ?_
    exact ⟨by unfold xf_211; first | (simp only [if_pos h2]; done) | rfl, by unfold xm_211; first | (simp only [if_pos h2]; done) | rfl⟩
  · skip
    refine rs_bipush (v := (-100 : Int32)) ri_211_10 rfl (by decide) ?_
    refine rs_iload_n ri_211_12 rfl rfl ?_
    refine rs_isub (r := ((-100 : Int32) - (xf_212 M (0 : Int32)))) ri_211_13 rfl rfl ?_
    refine rs_iret ri_211_14 rm_211.2.1 (by decide) ?_
    exact ⟨by unfold xf_211; first | (simp only [if_neg h2]; done) | rfl, by unfold xm_211; first | (simp only [if_neg h2]; done) | rfl⟩
theorem xl_211 {M : ro_Mm} (hL : ro_lay M) (hp : xp_211 M) : ro_lay (xm_211 M) := by
  unfold xp_211 at hp
  unfold xm_211
  obtain ⟨q0, hp⟩ := hp
  by_cases hz : (xf_212 M (0 : Int32)) < (0 : Int32)
  · skip
    rw [if_pos hz]
    exact (xl_212 hL q0)
  · skip
    rw [if_neg hz]
    exact (xl_212 hL q0)
