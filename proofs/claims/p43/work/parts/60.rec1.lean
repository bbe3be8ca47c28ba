/-! methods that call themselves, by program (wip/whole/walk3.py, mk47.py) -/
theorem rc_ex : ∃ n : Nat, n = 100 := ⟨_, rfl⟩
noncomputable def rc_N : Nat := Classical.choose rc_ex
theorem rc_N_eq : rc_N = 100 := Classical.choose_spec rc_ex
/-- RefusedOnce$Law.inner(I)Z -/
def xf_53 (F46 : ro_Mm → Int32 → Int32 → Bool × ro_Mm) (F47 : ro_Mm → Int32 → Bool × ro_Mm) (M : ro_Mm) (v1 : Int32) : Bool := (if (F46 (ro_sI M 16 6 ((M.2.1 16 6) + (1 : Int32))) (0 : Int32) v1).1 then (if (xf_48 (F46 (ro_sI M 16 6 ((M.2.1 16 6) + (1 : Int32))) (0 : Int32) v1).2) = (41 : Int32) then true else false) else false)
def xm_53 (F46 : ro_Mm → Int32 → Int32 → Bool × ro_Mm) (F47 : ro_Mm → Int32 → Bool × ro_Mm) (M : ro_Mm) (v1 : Int32) : ro_Mm := (if (F46 (ro_sI M 16 6 ((M.2.1 16 6) + (1 : Int32))) (0 : Int32) v1).1 then (if (xf_48 (F46 (ro_sI M 16 6 ((M.2.1 16 6) + (1 : Int32))) (0 : Int32) v1).2) = (41 : Int32) then (ro_sI (F46 (ro_sI M 16 6 ((M.2.1 16 6) + (1 : Int32))) (0 : Int32) v1).2 16 6 (((F46 (ro_sI M 16 6 ((M.2.1 16 6) + (1 : Int32))) (0 : Int32) v1).2.2.1 16 6) + (1 : Int32))) else (F46 (ro_sI M 16 6 ((M.2.1 16 6) + (1 : Int32))) (0 : Int32) v1).2) else (F46 (ro_sI M 16 6 ((M.2.1 16 6) + (1 : Int32))) (0 : Int32) v1).2)
def xp_53 (F46 : ro_Mm → Int32 → Int32 → Bool × ro_Mm) (P46 : ro_Mm → Int32 → Int32 → Prop) (F47 : ro_Mm → Int32 → Bool × ro_Mm) (P47 : ro_Mm → Int32 → Prop) (M : ro_Mm) (v1 : Int32) : Prop := (P46 (ro_sI M 16 6 ((M.2.1 16 6) + (1 : Int32))) (0 : Int32) v1 ∧ True)
theorem xs_53 {X : ro_Sx} {k : Nat} {F46 : ro_Mm → Int32 → Int32 → Bool × ro_Mm} {P46 : ro_Mm → Int32 → Int32 → Prop} (hF46 : ∀ {M : ro_Mm} {v1 : Int32} {v2 : Int32}, ro_lay M → P46 M v1 v2 → ro_cwp X k 46 [.ref 16, .int v1, .int v2] M (fun v M2 => v = some (.int (ro_b (F46 M v1 v2).1)) ∧ M2 = (F46 M v1 v2).2)) (hl46 : ∀ {M : ro_Mm} {v1 : Int32} {v2 : Int32}, ro_lay M → P46 M v1 v2 → ro_lay (F46 M v1 v2).2) {F47 : ro_Mm → Int32 → Bool × ro_Mm} {P47 : ro_Mm → Int32 → Prop} (hF47 : ∀ {M : ro_Mm} {v1 : Int32}, ro_lay M → P47 M v1 → ro_cwp X k 47 [.ref 16, .int v1] M (fun v M2 => v = some (.int (ro_b (F47 M v1).1)) ∧ M2 = (F47 M v1).2)) (hl47 : ∀ {M : ro_Mm} {v1 : Int32}, ro_lay M → P47 M v1 → ro_lay (F47 M v1).2) {M : ro_Mm} {v1 : Int32} (hL : ro_lay M) (hp : xp_53 F46 P46 F47 P47 M v1) : ro_cwp X (k + 2) 53 [.ref 16, .int v1] M (fun v M2 => v = some (.int (ro_b (xf_53 F46 F47 M v1))) ∧ M2 = xm_53 F46 F47 M v1) := by
  refine rs_begin (lv0 := [(0, .ref 16), (1, .int v1)]) (by decide) rfl (by rw [rm_53.1]; exact Nat.le_of_ble_eq_true rfl) rfl ?_
  unfold xp_53 at hp
  refine rs_aload_n ri_53_0 rfl rfl ?_
  refine rs_dup ri_53_1 rfl rfl ?_
  refine rs_gf (v := .int (M.2.1 16 6)) ri_53_2 rfl (by decide) (ro_kf (kd_16 hL)) rfl rfl ?_
  refine rs_iconst (v := (1 : Int32)) ri_53_5 rfl (by decide) ?_
  refine rs_iadd (r := ((M.2.1 16 6) + (1 : Int32))) ri_53_6 rfl rfl ?_
  refine rs_pf (M2 := (ro_sI M 16 6 ((M.2.1 16 6) + (1 : Int32)))) ri_53_7 rfl (by decide) (ro_kf (kd_16 hL)) (fun h => absurd h (by decide)) (fun f h => h) ?_
  refine rs_aload_n ri_53_10 rfl rfl ?_
  refine rs_iconst (v := (0 : Int32)) ri_53_11 rfl (by decide) ?_
  refine rs_iload_n ri_53_12 rfl rfl ?_
  obtain ⟨q0, hp⟩ := hp
  refine rs_virt (As := [.int (0 : Int32), .int v1]) (r := []) ri_53_13 rfl (by decide) rm_46.2.2.2 rm_46.2.2.1 rfl rfl rfl (by decide) (ro_kf (kd_16 hL)) (Nat.le_of_ble_eq_true rfl) (by decide) (by omega) (hF46 hL q0) ?_
  rintro _ _ ⟨e1, e2⟩
  rw [e1, e2]
  show ro_w X _ 53 _ 16 [(0, .ref 16), (1, .int v1)] [.int (ro_b (F46 (ro_sI M 16 6 ((M.2.1 16 6) + (1 : Int32))) (0 : Int32) v1).1)] (F46 (ro_sI M 16 6 ((M.2.1 16 6) + (1 : Int32))) (0 : Int32) v1).2 (0, 0)
  refine rs_ifeq_c (t := 28) ri_53_16 rfl rfl (fun h2 => ?_) (fun h2 => ?_)
  · skip
    refine rs_iconst (v := (0 : Int32)) ri_53_28 rfl (by decide) ?_
    refine rs_zret (p := false) ri_53_29 rm_53.2.1 (by decide) rfl ?_
    exact ⟨by unfold xf_53; first | (simp only [if_neg h2]; done) | rfl, by unfold xm_53; first | (simp only [if_neg h2]; done) | rfl⟩
  · skip
    refine rs_aload_n ri_53_19 rfl rfl ?_
    refine rs_virt (As := []) (r := []) ri_53_20 rfl (by decide) rm_48.2.2.2 rm_48.2.2.1 rfl rfl rfl (by decide) (ro_kf (kd_16 (hl46 hL q0))) (Nat.le_of_ble_eq_true rfl) (by decide) (by omega) (xs_48 (X := X) (hl46 hL q0)) ?_
    rintro _ _ ⟨e1, e2⟩
    rw [e1, e2]
    show ro_w X _ 53 _ 23 [(0, .ref 16), (1, .int v1)] [.int (xf_48 (F46 (ro_sI M 16 6 ((M.2.1 16 6) + (1 : Int32))) (0 : Int32) v1).2)] (F46 (ro_sI M 16 6 ((M.2.1 16 6) + (1 : Int32))) (0 : Int32) v1).2 (0, 0)
    refine rs_bipush (v := (41 : Int32)) ri_53_23 rfl (by decide) ?_
    refine rs_icmp_eq (t := 30) ri_53_25 rfl rfl (fun h3 => ?_) (fun h3 => ?_)
    · skip
      refine rs_aload_n ri_53_30 rfl rfl ?_
      refine rs_dup ri_53_31 rfl rfl ?_
      refine rs_gf (v := .int ((F46 (ro_sI M 16 6 ((M.2.1 16 6) + (1 : Int32))) (0 : Int32) v1).2.2.1 16 6)) ri_53_32 rfl (by decide) (ro_kf (kd_16 (hl46 hL q0))) rfl rfl ?_
      refine rs_iconst (v := (1 : Int32)) ri_53_35 rfl (by decide) ?_
      refine rs_iadd (r := (((F46 (ro_sI M 16 6 ((M.2.1 16 6) + (1 : Int32))) (0 : Int32) v1).2.2.1 16 6) + (1 : Int32))) ri_53_36 rfl rfl ?_
      refine rs_pf (M2 := (ro_sI (F46 (ro_sI M 16 6 ((M.2.1 16 6) + (1 : Int32))) (0 : Int32) v1).2 16 6 (((F46 (ro_sI M 16 6 ((M.2.1 16 6) + (1 : Int32))) (0 : Int32) v1).2.2.1 16 6) + (1 : Int32)))) ri_53_37 rfl (by decide) (ro_kf (kd_16 (hl46 hL q0))) (fun h => absurd h (by decide)) (fun f h => h) ?_
      refine rs_iconst (v := (1 : Int32)) ri_53_40 rfl (by decide) ?_
      refine rs_zret (p := true) ri_53_41 rm_53.2.1 (by decide) rfl ?_
      exact ⟨by unfold xf_53; first | (simp only [if_pos h2, if_pos h3]; done) | rfl, by unfold xm_53; first | (simp only [if_pos h2, if_pos h3]; done) | rfl⟩
    · skip
      refine rs_iconst (v := (0 : Int32)) ri_53_28 rfl (by decide) ?_
      refine rs_zret (p := false) ri_53_29 rm_53.2.1 (by decide) rfl ?_
      exact ⟨by unfold xf_53; first | (simp only [if_pos h2, if_neg h3]; done) | rfl, by unfold xm_53; first | (simp only [if_pos h2, if_neg h3]; done) | rfl⟩
theorem xl_53 {X : ro_Sx} {k : Nat} {F46 : ro_Mm → Int32 → Int32 → Bool × ro_Mm} {P46 : ro_Mm → Int32 → Int32 → Prop} (hF46 : ∀ {M : ro_Mm} {v1 : Int32} {v2 : Int32}, ro_lay M → P46 M v1 v2 → ro_cwp X k 46 [.ref 16, .int v1, .int v2] M (fun v M2 => v = some (.int (ro_b (F46 M v1 v2).1)) ∧ M2 = (F46 M v1 v2).2)) (hl46 : ∀ {M : ro_Mm} {v1 : Int32} {v2 : Int32}, ro_lay M → P46 M v1 v2 → ro_lay (F46 M v1 v2).2) {F47 : ro_Mm → Int32 → Bool × ro_Mm} {P47 : ro_Mm → Int32 → Prop} (hF47 : ∀ {M : ro_Mm} {v1 : Int32}, ro_lay M → P47 M v1 → ro_cwp X k 47 [.ref 16, .int v1] M (fun v M2 => v = some (.int (ro_b (F47 M v1).1)) ∧ M2 = (F47 M v1).2)) (hl47 : ∀ {M : ro_Mm} {v1 : Int32}, ro_lay M → P47 M v1 → ro_lay (F47 M v1).2) {M : ro_Mm} {v1 : Int32} (hL : ro_lay M) (hp : xp_53 F46 P46 F47 P47 M v1) : ro_lay (xm_53 F46 F47 M v1) := by
  unfold xp_53 at hp
  unfold xm_53
  obtain ⟨q0, hp⟩ := hp
  by_cases hz : (F46 (ro_sI M 16 6 ((M.2.1 16 6) + (1 : Int32))) (0 : Int32) v1).1
  · skip
    rw [if_pos hz]
    by_cases hz : (xf_48 (F46 (ro_sI M 16 6 ((M.2.1 16 6) + (1 : Int32))) (0 : Int32) v1).2) = (41 : Int32)
    · skip
      rw [if_pos hz]
      first | exact (hl46 hL q0) | (have hl := (hl46 hL q0); exact hl)
    · skip
      rw [if_neg hz]
      first | exact (hl46 hL q0) | (have hl := (hl46 hL q0); exact hl)
  · skip
    rw [if_neg hz]
    first | exact (hl46 hL q0) | (have hl := (hl46 hL q0); exact hl)
/-- a loop of RefusedOnce$Law.joined(II)Z -/
noncomputable def xg_46_26 (F46 : ro_Mm → Int32 → Int32 → Bool × ro_Mm) (F47 : ro_Mm → Int32 → Bool × ro_Mm) : Nat → ro_Mm → Int32 → Int32 → Int32 → Bool × Bool × Int32 × ro_Mm
  | 0, M, v3, v1, v2 => (false, false, v3, M)
  | n + 1, M, v3, v1, v2 => (if (120 : Int32) ≤ v3 then (false, false, v3, M) else (if (xf_54 M v1 (xf_48 M)) then (if (F46 (ro_sI M 16 6 ((M.2.1 16 6) + (1 : Int32))) (v1 + (1 : Int32)) v2).1 then (if v1 = (2 : Int32) then (true, true, v3, (xm_51 (F46 (ro_sI M 16 6 ((M.2.1 16 6) + (1 : Int32))) (v1 + (1 : Int32)) v2).2 (-(xf_48 M)))) else (xg_46_26 F46 F47 n (xm_51 (F46 (ro_sI M 16 6 ((M.2.1 16 6) + (1 : Int32))) (v1 + (1 : Int32)) v2).2 (-(xf_48 M))) (v3 + (1 : Int32)) v1 v2)) else (true, false, v3, (F46 (ro_sI M 16 6 ((M.2.1 16 6) + (1 : Int32))) (v1 + (1 : Int32)) v2).2)) else (false, false, v3, M)))
def xq_46_26 (F46 : ro_Mm → Int32 → Int32 → Bool × ro_Mm) (P46 : ro_Mm → Int32 → Int32 → Prop) (F47 : ro_Mm → Int32 → Bool × ro_Mm) (P47 : ro_Mm → Int32 → Prop) : Nat → ro_Mm → Int32 → Int32 → Int32 → Prop
  | 0, _, _, _, _ => False
  | n + 1, M, v3, v1, v2 => (((120 : Int32) ≤ v3 → True) ∧ (¬ ((120 : Int32) ≤ v3) → (((xf_54 M v1 (xf_48 M)) → (P46 (ro_sI M 16 6 ((M.2.1 16 6) + (1 : Int32))) (v1 + (1 : Int32)) v2 ∧ (((F46 (ro_sI M 16 6 ((M.2.1 16 6) + (1 : Int32))) (v1 + (1 : Int32)) v2).1 → ((v1 = (2 : Int32) → True) ∧ (¬ (v1 = (2 : Int32)) → (xq_46_26 F46 P46 F47 P47 n (xm_51 (F46 (ro_sI M 16 6 ((M.2.1 16 6) + (1 : Int32))) (v1 + (1 : Int32)) v2).2 (-(xf_48 M))) (v3 + (1 : Int32)) v1 v2)))) ∧ (¬ ((F46 (ro_sI M 16 6 ((M.2.1 16 6) + (1 : Int32))) (v1 + (1 : Int32)) v2).1) → True)))) ∧ (¬ ((xf_54 M v1 (xf_48 M))) → True))))
theorem xt_46_26 {X : ro_Sx} {post : ro_Po} {k : Nat} {F46 : ro_Mm → Int32 → Int32 → Bool × ro_Mm} {P46 : ro_Mm → Int32 → Int32 → Prop} (hF46 : ∀ {M : ro_Mm} {v1 : Int32} {v2 : Int32}, ro_lay M → P46 M v1 v2 → ro_cwp X k 46 [.ref 16, .int v1, .int v2] M (fun v M2 => v = some (.int (ro_b (F46 M v1 v2).1)) ∧ M2 = (F46 M v1 v2).2)) (hl46 : ∀ {M : ro_Mm} {v1 : Int32} {v2 : Int32}, ro_lay M → P46 M v1 v2 → ro_lay (F46 M v1 v2).2) {F47 : ro_Mm → Int32 → Bool × ro_Mm} {P47 : ro_Mm → Int32 → Prop} (hF47 : ∀ {M : ro_Mm} {v1 : Int32}, ro_lay M → P47 M v1 → ro_cwp X k 47 [.ref 16, .int v1] M (fun v M2 => v = some (.int (ro_b (F47 M v1).1)) ∧ M2 = (F47 M v1).2)) (hl47 : ∀ {M : ro_Mm} {v1 : Int32}, ro_lay M → P47 M v1 → ro_lay (F47 M v1).2) : ∀ (n : Nat) {M : ro_Mm} {v3 : Int32} {v1 : Int32} {v2 : Int32} (hL : ro_lay M) (hp : xq_46_26 F46 P46 F47 P47 n M v3 v1 v2) (hk : ¬ (xg_46_26 F46 F47 n M v3 v1 v2).1 = true → ro_w X (k + 1) 46 post 92 [(3, .int (xg_46_26 F46 F47 n M v3 v1 v2).2.2.1), (0, .ref 16), (1, .int v1), (2, .int v2)] [] (xg_46_26 F46 F47 n M v3 v1 v2).2.2.2 (0, 0)) (hr : (xg_46_26 F46 F47 n M v3 v1 v2).1 = true → post (some (.int (ro_b (xg_46_26 F46 F47 n M v3 v1 v2).2.1))) (xg_46_26 F46 F47 n M v3 v1 v2).2.2.2), ro_w X (k + 1) 46 post 26 [(3, .int v3), (0, .ref 16), (1, .int v1), (2, .int v2)] [] M (0, 0) := by
  intro n
  induction n with
  | zero => intro M v3 v1 v2 hL hp hk hr; exact False.elim hp
  | succ n ih =>
    intro M v3 v1 v2 hL hp hk hr
    rw [xq_46_26] at hp
    refine rs_iload_n ri_46_26 rfl rfl ?_
    refine rs_bipush (v := (120 : Int32)) ri_46_27 rfl (by decide) ?_
    refine rs_icmp_ge (t := 92) ri_46_29 rfl rfl (fun h4 => ?_) (fun h4 => ?_)
    · skip
      have e : xg_46_26 F46 F47 (n + 1) M v3 v1 v2 = (false, false, v3, M) := by rw [xg_46_26]; first | (simp only [if_pos h4]; done) | rfl
      rw [e] at hk hr
      exact ro_w_lv (ro_sub_c rfl (ro_sub_c rfl (ro_sub_c rfl (ro_sub_c rfl (ro_sub_n rfl))))) (hk (fun z => Bool.noConfusion z))
    · have hp := hp.2 h4
      refine rs_iload_n ri_46_32 rfl rfl ?_
      refine rs_aload_n ri_46_33 rfl rfl ?_
      refine rs_virt (As := []) (r := [.int v1]) ri_46_34 rfl (by decide) rm_48.2.2.2 rm_48.2.2.1 rfl rfl rfl (by decide) (ro_kf (kd_16 hL)) (Nat.le_of_ble_eq_true rfl) (by decide) (by omega) (xs_48 (X := X) hL) ?_
      rintro _ _ ⟨e1, e2⟩
      rw [e1, e2]
      show ro_w X _ 46 _ 37 [(3, .int v3), (0, .ref 16), (1, .int v1), (2, .int v2)] [.int (xf_48 M), .int v1] M (0, 0)
      refine rs_stat (As := [.int v1, .int (xf_48 M)]) (r := []) ri_46_37 rfl rm_54.2.2.2 rfl rfl rfl (Nat.le_of_ble_eq_true rfl) (by decide) (by omega) (xs_54 (X := X) hL) ?_
      rintro _ _ ⟨e1, e2⟩
      rw [e1, e2]
      show ro_w X _ 46 _ 40 [(3, .int v3), (0, .ref 16), (1, .int v1), (2, .int v2)] [.int (ro_b (xf_54 M v1 (xf_48 M)))] M (0, 0)
      refine rs_ifeq_c (t := 92) ri_46_40 rfl rfl (fun h5 => ?_) (fun h5 => ?_)
      · skip
        have e : xg_46_26 F46 F47 (n + 1) M v3 v1 v2 = (false, false, v3, M) := by rw [xg_46_26]; first | (simp only [if_neg h4, if_neg h5]; done) | rfl
        rw [e] at hk hr
        exact ro_w_lv (ro_sub_c rfl (ro_sub_c rfl (ro_sub_c rfl (ro_sub_c rfl (ro_sub_n rfl))))) (hk (fun z => Bool.noConfusion z))
      · have hp := hp.1 h5
        refine rs_aload_n ri_46_43 rfl rfl ?_
        refine rs_virt (As := []) (r := []) ri_46_44 rfl (by decide) rm_48.2.2.2 rm_48.2.2.1 rfl rfl rfl (by decide) (ro_kf (kd_16 hL)) (Nat.le_of_ble_eq_true rfl) (by decide) (by omega) (xs_48 (X := X) hL) ?_
        rintro _ _ ⟨e1, e2⟩
        rw [e1, e2]
        show ro_w X _ 46 _ 47 [(3, .int v3), (0, .ref 16), (1, .int v1), (2, .int v2)] [.int (xf_48 M)] M (0, 0)
        refine rs_istore (lv2 := [(4, .int (xf_48 M)), (3, .int v3), (0, .ref 16), (1, .int v1), (2, .int v2)]) ri_46_47 rfl rm_46.1 (by decide) rfl ?_
        refine rs_aload_n ri_46_49 rfl rfl ?_
        refine rs_dup ri_46_50 rfl rfl ?_
        refine rs_gf (v := .int (M.2.1 16 6)) ri_46_51 rfl (by decide) (ro_kf (kd_16 hL)) rfl rfl ?_
        refine rs_iconst (v := (1 : Int32)) ri_46_54 rfl (by decide) ?_
        refine rs_iadd (r := ((M.2.1 16 6) + (1 : Int32))) ri_46_55 rfl rfl ?_
        refine rs_pf (M2 := (ro_sI M 16 6 ((M.2.1 16 6) + (1 : Int32)))) ri_46_56 rfl (by decide) (ro_kf (kd_16 hL)) (fun h => absurd h (by decide)) (fun f h => h) ?_
        refine rs_aload_n ri_46_59 rfl rfl ?_
        refine rs_iload_n ri_46_60 rfl rfl ?_
        refine rs_iconst (v := (1 : Int32)) ri_46_61 rfl (by decide) ?_
        refine rs_iadd (r := (v1 + (1 : Int32))) ri_46_62 rfl rfl ?_
        refine rs_iload_n ri_46_63 rfl rfl ?_
        obtain ⟨q5, hp⟩ := hp
        refine rs_virt (As := [.int (v1 + (1 : Int32)), .int v2]) (r := []) ri_46_64 rfl (by decide) rm_46.2.2.2 rm_46.2.2.1 rfl rfl rfl (by decide) (ro_kf (kd_16 hL)) (Nat.le_of_ble_eq_true rfl) (by decide) (by omega) (hF46 hL q5) ?_
        rintro _ _ ⟨e1, e2⟩
        rw [e1, e2]
        show ro_w X _ 46 _ 67 [(4, .int (xf_48 M)), (3, .int v3), (0, .ref 16), (1, .int v1), (2, .int v2)] [.int (ro_b (F46 (ro_sI M 16 6 ((M.2.1 16 6) + (1 : Int32))) (v1 + (1 : Int32)) v2).1)] (F46 (ro_sI M 16 6 ((M.2.1 16 6) + (1 : Int32))) (v1 + (1 : Int32)) v2).2 (0, 0)
        refine rs_ifne_c (t := 72) ri_46_67 rfl rfl (fun h7 => ?_) (fun h7 => ?_)
        · have hp := hp.1 h7
          refine rs_aload_n ri_46_72 rfl rfl ?_
          refine rs_iload ri_46_73 rfl rfl ?_
          refine rs_ineg (r := (-(xf_48 M))) ri_46_75 rfl rfl ?_
          refine rs_virt (As := [.int (-(xf_48 M))]) (r := []) ri_46_76 rfl (by decide) rm_51.2.2.2 rm_51.2.2.1 rfl rfl rfl (by decide) (ro_kf (kd_16 (hl46 hL q5))) (Nat.le_of_ble_eq_true rfl) (by decide) (by omega) (xs_51 (X := X) (hl46 hL q5)) ?_
          rintro _ _ ⟨e1, e2⟩
          rw [e1, e2]
          show ro_w X _ 46 _ 79 [(4, .int (xf_48 M)), (3, .int v3), (0, .ref 16), (1, .int v1), (2, .int v2)] [] (xm_51 (F46 (ro_sI M 16 6 ((M.2.1 16 6) + (1 : Int32))) (v1 + (1 : Int32)) v2).2 (-(xf_48 M))) (0, 0)
          refine rs_iload_n ri_46_79 rfl rfl ?_
          refine rs_iconst (v := (2 : Int32)) ri_46_80 rfl (by decide) ?_
          refine rs_icmp_ne (t := 86) ri_46_81 rfl rfl (fun h8 => ?_) (fun h8 => ?_)
          · have hp := hp.2 h8
            refine rs_iinc (v := (v3 + (1 : Int32))) (lv2 := [(3, .int (v3 + (1 : Int32))), (4, .int (xf_48 M)), (0, .ref 16), (1, .int v1), (2, .int v2)]) ri_46_86 rfl rfl rfl rm_46.1 (by decide) rfl ?_
            refine rs_goto (t := 26) ri_46_89 rfl ?_
            have e : xg_46_26 F46 F47 (n + 1) M v3 v1 v2 = xg_46_26 F46 F47 n (xm_51 (F46 (ro_sI M 16 6 ((M.2.1 16 6) + (1 : Int32))) (v1 + (1 : Int32)) v2).2 (-(xf_48 M))) (v3 + (1 : Int32)) v1 v2 := by rw [xg_46_26]; first | (simp only [if_neg h4, if_pos h5, if_pos h7, if_neg h8]; done) | rfl
            rw [e] at hk hr
            exact ro_w_lv (ro_sub_c rfl (ro_sub_c rfl (ro_sub_c rfl (ro_sub_c rfl (ro_sub_n rfl))))) (ih (xl_51 (hl46 hL q5))  hp hk hr)
          · skip
            refine rs_iconst (v := (1 : Int32)) ri_46_84 rfl (by decide) ?_
            refine rs_zret (p := true) ri_46_85 rm_46.2.1 (by decide) rfl ?_
            have e : xg_46_26 F46 F47 (n + 1) M v3 v1 v2 = (true, true, v3, (xm_51 (F46 (ro_sI M 16 6 ((M.2.1 16 6) + (1 : Int32))) (v1 + (1 : Int32)) v2).2 (-(xf_48 M)))) := by rw [xg_46_26]; first | (simp only [if_neg h4, if_pos h5, if_pos h7, if_pos h8]; done) | rfl
            rw [e] at hk hr
            exact hr rfl
        · skip
          refine rs_iconst (v := (0 : Int32)) ri_46_70 rfl (by decide) ?_
          refine rs_zret (p := false) ri_46_71 rm_46.2.1 (by decide) rfl ?_
          have e : xg_46_26 F46 F47 (n + 1) M v3 v1 v2 = (true, false, v3, (F46 (ro_sI M 16 6 ((M.2.1 16 6) + (1 : Int32))) (v1 + (1 : Int32)) v2).2) := by rw [xg_46_26]; first | (simp only [if_neg h4, if_pos h5, if_neg h7]; done) | rfl
          rw [e] at hk hr
          exact hr rfl
theorem xl_46_26 {X : ro_Sx} {k : Nat} {F46 : ro_Mm → Int32 → Int32 → Bool × ro_Mm} {P46 : ro_Mm → Int32 → Int32 → Prop} (hF46 : ∀ {M : ro_Mm} {v1 : Int32} {v2 : Int32}, ro_lay M → P46 M v1 v2 → ro_cwp X k 46 [.ref 16, .int v1, .int v2] M (fun v M2 => v = some (.int (ro_b (F46 M v1 v2).1)) ∧ M2 = (F46 M v1 v2).2)) (hl46 : ∀ {M : ro_Mm} {v1 : Int32} {v2 : Int32}, ro_lay M → P46 M v1 v2 → ro_lay (F46 M v1 v2).2) {F47 : ro_Mm → Int32 → Bool × ro_Mm} {P47 : ro_Mm → Int32 → Prop} (hF47 : ∀ {M : ro_Mm} {v1 : Int32}, ro_lay M → P47 M v1 → ro_cwp X k 47 [.ref 16, .int v1] M (fun v M2 => v = some (.int (ro_b (F47 M v1).1)) ∧ M2 = (F47 M v1).2)) (hl47 : ∀ {M : ro_Mm} {v1 : Int32}, ro_lay M → P47 M v1 → ro_lay (F47 M v1).2) : ∀ (n : Nat) {M : ro_Mm} {v3 : Int32} {v1 : Int32} {v2 : Int32} (hL : ro_lay M) (hp : xq_46_26 F46 P46 F47 P47 n M v3 v1 v2), ro_lay (xg_46_26 F46 F47 n M v3 v1 v2).2.2.2 := by
  intro n
  induction n with
  | zero => intro M v3 v1 v2 hL hp; exact False.elim hp
  | succ n ih =>
    intro M v3 v1 v2 hL hp
    rw [xq_46_26] at hp
    rw [xg_46_26]
    by_cases hz : (120 : Int32) ≤ v3
    · have hp := hp.1 hz
      rw [if_pos hz]
      exact hL
    · have hp := hp.2 hz
      rw [if_neg hz]
      by_cases hz : (xf_54 M v1 (xf_48 M))
      · have hp := hp.1 hz
        rw [if_pos hz]
        obtain ⟨q5, hp⟩ := hp
        by_cases hz : (F46 (ro_sI M 16 6 ((M.2.1 16 6) + (1 : Int32))) (v1 + (1 : Int32)) v2).1
        · have hp := hp.1 hz
          rw [if_pos hz]
          by_cases hz : v1 = (2 : Int32)
          · have hp := hp.1 hz
            rw [if_pos hz]
            exact (xl_51 (hl46 hL q5))
          · have hp := hp.2 hz
            rw [if_neg hz]
            exact ih (xl_51 (hl46 hL q5))  hp
        · have hp := hp.2 hz
          rw [if_neg hz]
          exact (hl46 hL q5)
      · have hp := hp.2 hz
        rw [if_neg hz]
        exact hL
/-- RefusedOnce$Law.joined(II)Z -/
noncomputable def xfb_46 (F46 : ro_Mm → Int32 → Int32 → Bool × ro_Mm) (F47 : ro_Mm → Int32 → Bool × ro_Mm) (M : ro_Mm) (v1 : Int32) (v2 : Int32) : Bool := (if v1 ≤ (4 : Int32) then (if (F46 M (v1 + (1 : Int32)) v2).1 then (if (xg_46_26 F46 F47 lp_N (F46 M (v1 + (1 : Int32)) v2).2 (0 : Int32) v1 v2).1 = true then (xg_46_26 F46 F47 lp_N (F46 M (v1 + (1 : Int32)) v2).2 (0 : Int32) v1 v2).2.1 else true) else false) else (F47 M v2).1)
noncomputable def xmb_46 (F46 : ro_Mm → Int32 → Int32 → Bool × ro_Mm) (F47 : ro_Mm → Int32 → Bool × ro_Mm) (M : ro_Mm) (v1 : Int32) (v2 : Int32) : ro_Mm := (if v1 ≤ (4 : Int32) then (if (F46 M (v1 + (1 : Int32)) v2).1 then (xg_46_26 F46 F47 lp_N (F46 M (v1 + (1 : Int32)) v2).2 (0 : Int32) v1 v2).2.2.2 else (F46 M (v1 + (1 : Int32)) v2).2) else (F47 M v2).2)
def xpb_46 (F46 : ro_Mm → Int32 → Int32 → Bool × ro_Mm) (P46 : ro_Mm → Int32 → Int32 → Prop) (F47 : ro_Mm → Int32 → Bool × ro_Mm) (P47 : ro_Mm → Int32 → Prop) (M : ro_Mm) (v1 : Int32) (v2 : Int32) : Prop := ((v1 ≤ (4 : Int32) → (P46 M (v1 + (1 : Int32)) v2 ∧ (((F46 M (v1 + (1 : Int32)) v2).1 → (xq_46_26 F46 P46 F47 P47 lp_N (F46 M (v1 + (1 : Int32)) v2).2 (0 : Int32) v1 v2 ∧ True)) ∧ (¬ ((F46 M (v1 + (1 : Int32)) v2).1) → True)))) ∧ (¬ (v1 ≤ (4 : Int32)) → (P47 M v2 ∧ True)))
theorem xsb_46 {X : ro_Sx} {k : Nat} {F46 : ro_Mm → Int32 → Int32 → Bool × ro_Mm} {P46 : ro_Mm → Int32 → Int32 → Prop} (hF46 : ∀ {M : ro_Mm} {v1 : Int32} {v2 : Int32}, ro_lay M → P46 M v1 v2 → ro_cwp X k 46 [.ref 16, .int v1, .int v2] M (fun v M2 => v = some (.int (ro_b (F46 M v1 v2).1)) ∧ M2 = (F46 M v1 v2).2)) (hl46 : ∀ {M : ro_Mm} {v1 : Int32} {v2 : Int32}, ro_lay M → P46 M v1 v2 → ro_lay (F46 M v1 v2).2) {F47 : ro_Mm → Int32 → Bool × ro_Mm} {P47 : ro_Mm → Int32 → Prop} (hF47 : ∀ {M : ro_Mm} {v1 : Int32}, ro_lay M → P47 M v1 → ro_cwp X k 47 [.ref 16, .int v1] M (fun v M2 => v = some (.int (ro_b (F47 M v1).1)) ∧ M2 = (F47 M v1).2)) (hl47 : ∀ {M : ro_Mm} {v1 : Int32}, ro_lay M → P47 M v1 → ro_lay (F47 M v1).2) {M : ro_Mm} {v1 : Int32} {v2 : Int32} (hL : ro_lay M) (hp : xpb_46 F46 P46 F47 P47 M v1 v2) : ro_cwp X (k + 2) 46 [.ref 16, .int v1, .int v2] M (fun v M2 => v = some (.int (ro_b (xfb_46 F46 F47 M v1 v2))) ∧ M2 = xmb_46 F46 F47 M v1 v2) := by
  refine rs_begin (lv0 := [(0, .ref 16), (1, .int v1), (2, .int v2)]) (by decide) rfl (by rw [rm_46.1]; exact Nat.le_of_ble_eq_true rfl) rfl ?_
  unfold xpb_46 at hp
  refine rs_iload_n ri_46_0 rfl rfl ?_
  refine rs_iconst (v := (4 : Int32)) ri_46_1 rfl (by decide) ?_
  refine rs_icmp_le (t := 11) ri_46_2 rfl rfl (fun h1 => ?_) (fun h1 => ?_)
  · have hp := hp.1 h1
    refine rs_aload_n ri_46_11 rfl rfl ?_
    refine rs_iload_n ri_46_12 rfl rfl ?_
    refine rs_iconst (v := (1 : Int32)) ri_46_13 rfl (by decide) ?_
    refine rs_iadd (r := (v1 + (1 : Int32))) ri_46_14 rfl rfl ?_
    refine rs_iload_n ri_46_15 rfl rfl ?_
    obtain ⟨q1, hp⟩ := hp
    refine rs_virt (As := [.int (v1 + (1 : Int32)), .int v2]) (r := []) ri_46_16 rfl (by decide) rm_46.2.2.2 rm_46.2.2.1 rfl rfl rfl (by decide) (ro_kf (kd_16 hL)) (Nat.le_of_ble_eq_true rfl) (by decide) (by omega) (hF46 hL q1) ?_
    rintro _ _ ⟨e1, e2⟩
    rw [e1, e2]
    show ro_w X _ 46 _ 19 [(0, .ref 16), (1, .int v1), (2, .int v2)] [.int (ro_b (F46 M (v1 + (1 : Int32)) v2).1)] (F46 M (v1 + (1 : Int32)) v2).2 (0, 0)
    refine rs_ifne_c (t := 24) ri_46_19 rfl rfl (fun h3 => ?_) (fun h3 => ?_)
    · have hp := hp.1 h3
      refine rs_iconst (v := (0 : Int32)) ri_46_24 rfl (by decide) ?_
      refine rs_istore_n (lv2 := [(3, .int (0 : Int32)), (0, .ref 16), (1, .int v1), (2, .int v2)]) ri_46_25 rfl rm_46.1 (by decide) rfl ?_
      obtain ⟨q8, hp⟩ := hp
      refine xt_46_26 hF46 hl46 hF47 hl47 lp_N (hl46 hL q1) q8 (fun h10 => ?_) (fun h10 => ?_)
      · skip
        refine rs_iconst (v := (1 : Int32)) ri_46_92 rfl (by decide) ?_
        refine rs_zret (p := true) ri_46_93 rm_46.2.1 (by decide) rfl ?_
        exact ⟨by unfold xfb_46; first | (simp only [if_pos h1, if_pos h3, if_neg h10]; done) | rfl, by unfold xmb_46; first | (simp only [if_pos h1, if_pos h3, if_neg h10]; done) | rfl⟩
      · skip
        exact ⟨by unfold xfb_46; first | (simp only [if_pos h1, if_pos h3, if_pos h10]; done) | rfl, by unfold xmb_46; first | (simp only [if_pos h1, if_pos h3, if_pos h10]; done) | rfl⟩
    · have hp := hp.2 h3
      refine rs_iconst (v := (0 : Int32)) ri_46_22 rfl (by decide) ?_
      refine rs_zret (p := false) ri_46_23 rm_46.2.1 (by decide) rfl ?_
      exact ⟨by unfold xfb_46; first | (simp only [if_pos h1, if_neg h3]; done) | rfl, by unfold xmb_46; first | (simp only [if_pos h1, if_neg h3]; done) | rfl⟩
  · have hp := hp.2 h1
    refine rs_aload_n ri_46_5 rfl rfl ?_
    refine rs_iload_n ri_46_6 rfl rfl ?_
    obtain ⟨q10, hp⟩ := hp
    refine rs_virt (As := [.int v2]) (r := []) ri_46_7 rfl (by decide) rm_47.2.2.2 rm_47.2.2.1 rfl rfl rfl (by decide) (ro_kf (kd_16 hL)) (Nat.le_of_ble_eq_true rfl) (by decide) (by omega) (hF47 hL q10) ?_
    rintro _ _ ⟨e1, e2⟩
    rw [e1, e2]
    show ro_w X _ 46 _ 10 [(0, .ref 16), (1, .int v1), (2, .int v2)] [.int (ro_b (F47 M v2).1)] (F47 M v2).2 (0, 0)
    refine rs_zret (p := (F47 M v2).1) ri_46_10 rm_46.2.1 (by decide) rfl ?_
    exact ⟨by unfold xfb_46; first | (simp only [if_neg h1]; done) | rfl, by unfold xmb_46; first | (simp only [if_neg h1]; done) | rfl⟩
theorem xlb_46 {X : ro_Sx} {k : Nat} {F46 : ro_Mm → Int32 → Int32 → Bool × ro_Mm} {P46 : ro_Mm → Int32 → Int32 → Prop} (hF46 : ∀ {M : ro_Mm} {v1 : Int32} {v2 : Int32}, ro_lay M → P46 M v1 v2 → ro_cwp X k 46 [.ref 16, .int v1, .int v2] M (fun v M2 => v = some (.int (ro_b (F46 M v1 v2).1)) ∧ M2 = (F46 M v1 v2).2)) (hl46 : ∀ {M : ro_Mm} {v1 : Int32} {v2 : Int32}, ro_lay M → P46 M v1 v2 → ro_lay (F46 M v1 v2).2) {F47 : ro_Mm → Int32 → Bool × ro_Mm} {P47 : ro_Mm → Int32 → Prop} (hF47 : ∀ {M : ro_Mm} {v1 : Int32}, ro_lay M → P47 M v1 → ro_cwp X k 47 [.ref 16, .int v1] M (fun v M2 => v = some (.int (ro_b (F47 M v1).1)) ∧ M2 = (F47 M v1).2)) (hl47 : ∀ {M : ro_Mm} {v1 : Int32}, ro_lay M → P47 M v1 → ro_lay (F47 M v1).2) {M : ro_Mm} {v1 : Int32} {v2 : Int32} (hL : ro_lay M) (hp : xpb_46 F46 P46 F47 P47 M v1 v2) : ro_lay (xmb_46 F46 F47 M v1 v2) := by
  unfold xpb_46 at hp
  unfold xmb_46
  by_cases hz : v1 ≤ (4 : Int32)
  · have hp := hp.1 hz
    rw [if_pos hz]
    obtain ⟨q1, hp⟩ := hp
    by_cases hz : (F46 M (v1 + (1 : Int32)) v2).1
    · have hp := hp.1 hz
      rw [if_pos hz]
      obtain ⟨q8, hp⟩ := hp
      by_cases hz : (xg_46_26 F46 F47 lp_N (F46 M (v1 + (1 : Int32)) v2).2 (0 : Int32) v1 v2).1 = true
      · skip
        first | exact (xl_46_26 hF46 hl46 hF47 hl47 lp_N (hl46 hL q1) q8) | (have hl := (xl_46_26 hF46 hl46 hF47 hl47 lp_N (hl46 hL q1) q8); exact hl)
      · skip
        first | exact (xl_46_26 hF46 hl46 hF47 hl47 lp_N (hl46 hL q1) q8) | (have hl := (xl_46_26 hF46 hl46 hF47 hl47 lp_N (hl46 hL q1) q8); exact hl)
    · have hp := hp.2 hz
      rw [if_neg hz]
      first | exact (hl46 hL q1) | (have hl := (hl46 hL q1); exact hl)
  · have hp := hp.2 hz
    rw [if_neg hz]
    obtain ⟨q10, hp⟩ := hp
    first | exact (hl47 hL q10) | (have hl := (hl47 hL q10); exact hl)
/-- RefusedOnce$Law.operand(I)Z -/
noncomputable def xfb_47 (F46 : ro_Mm → Int32 → Int32 → Bool × ro_Mm) (F47 : ro_Mm → Int32 → Bool × ro_Mm) (M : ro_Mm) (v1 : Int32) : Bool := (if (xf_49 M (xf_48 M)) then true else (if (xf_52 M (xf_48 M)) < (0 : Int32) then (if v1 < (6 : Int32) then (if (xf_48 M) = (40 : Int32) then (xf_53 F46 F47 M (v1 + (1 : Int32))) else (if (xf_48 M) = (33 : Int32) then (if (F47 (ro_sI M 16 6 ((M.2.1 16 6) + (1 : Int32))) (v1 + (1 : Int32))).1 then true else false) else (if (xf_48 M) = (45 : Int32) then (if (F47 (ro_sI M 16 6 ((M.2.1 16 6) + (1 : Int32))) (v1 + (1 : Int32))).1 then true else false) else false))) else false) else true))
noncomputable def xmb_47 (F46 : ro_Mm → Int32 → Int32 → Bool × ro_Mm) (F47 : ro_Mm → Int32 → Bool × ro_Mm) (M : ro_Mm) (v1 : Int32) : ro_Mm := (if (xf_49 M (xf_48 M)) then (xm_50 M) else (if (xf_52 M (xf_48 M)) < (0 : Int32) then (if v1 < (6 : Int32) then (if (xf_48 M) = (40 : Int32) then (xm_53 F46 F47 M (v1 + (1 : Int32))) else (if (xf_48 M) = (33 : Int32) then (if (F47 (ro_sI M 16 6 ((M.2.1 16 6) + (1 : Int32))) (v1 + (1 : Int32))).1 then (xm_51 (F47 (ro_sI M 16 6 ((M.2.1 16 6) + (1 : Int32))) (v1 + (1 : Int32))).2 (-33 : Int32)) else (F47 (ro_sI M 16 6 ((M.2.1 16 6) + (1 : Int32))) (v1 + (1 : Int32))).2) else (if (xf_48 M) = (45 : Int32) then (if (F47 (ro_sI M 16 6 ((M.2.1 16 6) + (1 : Int32))) (v1 + (1 : Int32))).1 then (xm_51 (F47 (ro_sI M 16 6 ((M.2.1 16 6) + (1 : Int32))) (v1 + (1 : Int32))).2 (-126 : Int32)) else (F47 (ro_sI M 16 6 ((M.2.1 16 6) + (1 : Int32))) (v1 + (1 : Int32))).2) else M))) else M) else (xm_51 (ro_sI M 16 6 ((M.2.1 16 6) + (1 : Int32))) (-(xf_48 M)))))
def xpb_47 (F46 : ro_Mm → Int32 → Int32 → Bool × ro_Mm) (P46 : ro_Mm → Int32 → Int32 → Prop) (F47 : ro_Mm → Int32 → Bool × ro_Mm) (P47 : ro_Mm → Int32 → Prop) (M : ro_Mm) (v1 : Int32) : Prop := (((xf_49 M (xf_48 M)) → (xp_50 M ∧ True)) ∧ (¬ ((xf_49 M (xf_48 M))) → (((xf_52 M (xf_48 M)) < (0 : Int32) → ((v1 < (6 : Int32) → (((xf_48 M) = (40 : Int32) → (xp_53 F46 P46 F47 P47 M (v1 + (1 : Int32)) ∧ True)) ∧ (¬ ((xf_48 M) = (40 : Int32)) → (((xf_48 M) = (33 : Int32) → (P47 (ro_sI M 16 6 ((M.2.1 16 6) + (1 : Int32))) (v1 + (1 : Int32)) ∧ True)) ∧ (¬ ((xf_48 M) = (33 : Int32)) → (((xf_48 M) = (45 : Int32) → (P47 (ro_sI M 16 6 ((M.2.1 16 6) + (1 : Int32))) (v1 + (1 : Int32)) ∧ True)) ∧ (¬ ((xf_48 M) = (45 : Int32)) → True))))))) ∧ (¬ (v1 < (6 : Int32)) → True))) ∧ (¬ ((xf_52 M (xf_48 M)) < (0 : Int32)) → True))))
theorem xsb_47 {X : ro_Sx} {k : Nat} {F46 : ro_Mm → Int32 → Int32 → Bool × ro_Mm} {P46 : ro_Mm → Int32 → Int32 → Prop} (hF46 : ∀ {M : ro_Mm} {v1 : Int32} {v2 : Int32}, ro_lay M → P46 M v1 v2 → ro_cwp X k 46 [.ref 16, .int v1, .int v2] M (fun v M2 => v = some (.int (ro_b (F46 M v1 v2).1)) ∧ M2 = (F46 M v1 v2).2)) (hl46 : ∀ {M : ro_Mm} {v1 : Int32} {v2 : Int32}, ro_lay M → P46 M v1 v2 → ro_lay (F46 M v1 v2).2) {F47 : ro_Mm → Int32 → Bool × ro_Mm} {P47 : ro_Mm → Int32 → Prop} (hF47 : ∀ {M : ro_Mm} {v1 : Int32}, ro_lay M → P47 M v1 → ro_cwp X k 47 [.ref 16, .int v1] M (fun v M2 => v = some (.int (ro_b (F47 M v1).1)) ∧ M2 = (F47 M v1).2)) (hl47 : ∀ {M : ro_Mm} {v1 : Int32}, ro_lay M → P47 M v1 → ro_lay (F47 M v1).2) {M : ro_Mm} {v1 : Int32} (hL : ro_lay M) (hp : xpb_47 F46 P46 F47 P47 M v1) : ro_cwp X (k + 3) 47 [.ref 16, .int v1] M (fun v M2 => v = some (.int (ro_b (xfb_47 F46 F47 M v1))) ∧ M2 = xmb_47 F46 F47 M v1) := by
  refine rs_begin (lv0 := [(0, .ref 16), (1, .int v1)]) (by decide) rfl (by rw [rm_47.1]; exact Nat.le_of_ble_eq_true rfl) rfl ?_
  unfold xpb_47 at hp
  refine rs_aload_n ri_47_0 rfl rfl ?_
  refine rs_virt (As := []) (r := []) ri_47_1 rfl (by decide) rm_48.2.2.2 rm_48.2.2.1 rfl rfl rfl (by decide) (ro_kf (kd_16 hL)) (Nat.le_of_ble_eq_true rfl) (by decide) (by omega) (xs_48 (X := X) hL) ?_
  rintro _ _ ⟨e1, e2⟩
  rw [e1, e2]
  show ro_w X _ 47 _ 4 [(0, .ref 16), (1, .int v1)] [.int (xf_48 M)] M (0, 0)
  refine rs_istore_n (lv2 := [(2, .int (xf_48 M)), (0, .ref 16), (1, .int v1)]) ri_47_4 rfl rm_47.1 (by decide) rfl ?_
  refine rs_iload_n ri_47_5 rfl rfl ?_
  refine rs_stat (As := [.int (xf_48 M)]) (r := []) ri_47_6 rfl rm_49.2.2.2 rfl rfl rfl (Nat.le_of_ble_eq_true rfl) (by decide) (by omega) (xs_49 (X := X) hL) ?_
  rintro _ _ ⟨e1, e2⟩
  rw [e1, e2]
  show ro_w X _ 47 _ 9 [(2, .int (xf_48 M)), (0, .ref 16), (1, .int v1)] [.int (ro_b (xf_49 M (xf_48 M)))] M (0, 0)
  refine rs_ifeq_c (t := 18) ri_47_9 rfl rfl (fun h1 => ?_) (fun h1 => ?_)
  · have hp := hp.2 h1
    refine rs_iload_n ri_47_18 rfl rfl ?_
    refine rs_stat (As := [.int (xf_48 M)]) (r := []) ri_47_19 rfl rm_52.2.2.2 rfl rfl rfl (Nat.le_of_ble_eq_true rfl) (by decide) (by omega) (xs_52 (X := X) hL) ?_
    rintro _ _ ⟨e1, e2⟩
    rw [e1, e2]
    show ro_w X _ 47 _ 22 [(2, .int (xf_48 M)), (0, .ref 16), (1, .int v1)] [.int (xf_52 M (xf_48 M))] M (0, 0)
    refine rs_if_lt (t := 43) ri_47_22 rfl rfl (fun h2 => ?_) (fun h2 => ?_)
    · have hp := hp.1 h2
      refine rs_iload_n ri_47_43 rfl rfl ?_
      refine rs_bipush (v := (6 : Int32)) ri_47_44 rfl (by decide) ?_
      refine rs_icmp_lt (t := 51) ri_47_46 rfl rfl (fun h3 => ?_) (fun h3 => ?_)
      · have hp := hp.1 h3
        refine rs_iload_n ri_47_51 rfl rfl ?_
        refine rs_bipush (v := (40 : Int32)) ri_47_52 rfl (by decide) ?_
        refine rs_icmp_ne (t := 65) ri_47_54 rfl rfl (fun h4 => ?_) (fun h4 => ?_)
        · have hp := hp.2 h4
          refine rs_iload_n ri_47_65 rfl rfl ?_
          refine rs_bipush (v := (33 : Int32)) ri_47_66 rfl (by decide) ?_
          refine rs_icmp_eq (t := 79) ri_47_68 rfl rfl (fun h5 => ?_) (fun h5 => ?_)
          · have hp := hp.1 h5
            refine rs_aload_n ri_47_79 rfl rfl ?_
            refine rs_dup ri_47_80 rfl rfl ?_
            refine rs_gf (v := .int (M.2.1 16 6)) ri_47_81 rfl (by decide) (ro_kf (kd_16 hL)) rfl rfl ?_
            refine rs_iconst (v := (1 : Int32)) ri_47_84 rfl (by decide) ?_
            refine rs_iadd (r := ((M.2.1 16 6) + (1 : Int32))) ri_47_85 rfl rfl ?_
            refine rs_pf (M2 := (ro_sI M 16 6 ((M.2.1 16 6) + (1 : Int32)))) ri_47_86 rfl (by decide) (ro_kf (kd_16 hL)) (fun h => absurd h (by decide)) (fun f h => h) ?_
            refine rs_aload_n ri_47_89 rfl rfl ?_
            refine rs_iload_n ri_47_90 rfl rfl ?_
            refine rs_iconst (v := (1 : Int32)) ri_47_91 rfl (by decide) ?_
            refine rs_iadd (r := (v1 + (1 : Int32))) ri_47_92 rfl rfl ?_
            obtain ⟨q5, hp⟩ := hp
            refine rs_virt (As := [.int (v1 + (1 : Int32))]) (r := []) ri_47_93 rfl (by decide) rm_47.2.2.2 rm_47.2.2.1 rfl rfl rfl (by decide) (ro_kf (kd_16 hL)) (Nat.le_of_ble_eq_true rfl) (by decide) (by omega) (hF47 hL q5) ?_
            rintro _ _ ⟨e1, e2⟩
            rw [e1, e2]
            show ro_w X _ 47 _ 96 [(2, .int (xf_48 M)), (0, .ref 16), (1, .int v1)] [.int (ro_b (F47 (ro_sI M 16 6 ((M.2.1 16 6) + (1 : Int32))) (v1 + (1 : Int32))).1)] (F47 (ro_sI M 16 6 ((M.2.1 16 6) + (1 : Int32))) (v1 + (1 : Int32))).2 (0, 0)
            refine rs_ifne_c (t := 101) ri_47_96 rfl rfl (fun h7 => ?_) (fun h7 => ?_)
            · skip
              refine rs_aload_n ri_47_101 rfl rfl ?_
              refine rs_iload_n ri_47_102 rfl rfl ?_
              refine rs_bipush (v := (33 : Int32)) ri_47_103 rfl (by decide) ?_
              refine rs_icmp_ne (t := 113) ri_47_105 rfl rfl (fun h8 => absurd h5 h8) (fun h8 => ?_)
              refine rs_bipush (v := (-33 : Int32)) ri_47_108 rfl (by decide) ?_
              refine rs_goto (t := 115) ri_47_110 rfl ?_
              refine rs_virt (As := [.int (-33 : Int32)]) (r := []) ri_47_115 rfl (by decide) rm_51.2.2.2 rm_51.2.2.1 rfl rfl rfl (by decide) (ro_kf (kd_16 (hl47 hL q5))) (Nat.le_of_ble_eq_true rfl) (by decide) (by omega) (xs_51 (X := X) (hl47 hL q5)) ?_
              rintro _ _ ⟨e1, e2⟩
              rw [e1, e2]
              show ro_w X _ 47 _ 118 [(2, .int (xf_48 M)), (0, .ref 16), (1, .int v1)] [] (xm_51 (F47 (ro_sI M 16 6 ((M.2.1 16 6) + (1 : Int32))) (v1 + (1 : Int32))).2 (-33 : Int32)) (0, 0)
              refine rs_iconst (v := (1 : Int32)) ri_47_118 rfl (by decide) ?_
              refine rs_zret (p := true) ri_47_119 rm_47.2.1 (by decide) rfl ?_
              exact ⟨by unfold xfb_47; first | (simp only [if_neg h1, if_pos h2, if_pos h3, if_neg h4, if_pos h5, if_pos h7]; done) | rfl, by unfold xmb_47; first | (simp only [if_neg h1, if_pos h2, if_pos h3, if_neg h4, if_pos h5, if_pos h7]; done) | rfl⟩
            · skip
              refine rs_iconst (v := (0 : Int32)) ri_47_99 rfl (by decide) ?_
              refine rs_zret (p := false) ri_47_100 rm_47.2.1 (by decide) rfl ?_
              exact ⟨by unfold xfb_47; first | (simp only [if_neg h1, if_pos h2, if_pos h3, if_neg h4, if_pos h5, if_neg h7]; done) | rfl, by unfold xmb_47; first | (simp only [if_neg h1, if_pos h2, if_pos h3, if_neg h4, if_pos h5, if_neg h7]; done) | rfl⟩
          · have hp := hp.2 h5
            refine rs_iload_n ri_47_71 rfl rfl ?_
            refine rs_bipush (v := (45 : Int32)) ri_47_72 rfl (by decide) ?_
            refine rs_icmp_eq (t := 79) ri_47_74 rfl rfl (fun h9 => ?_) (fun h9 => ?_)
            · have hp := hp.1 h9
              refine rs_aload_n ri_47_79 rfl rfl ?_
              refine rs_dup ri_47_80 rfl rfl ?_
              refine rs_gf (v := .int (M.2.1 16 6)) ri_47_81 rfl (by decide) (ro_kf (kd_16 hL)) rfl rfl ?_
              refine rs_iconst (v := (1 : Int32)) ri_47_84 rfl (by decide) ?_
              refine rs_iadd (r := ((M.2.1 16 6) + (1 : Int32))) ri_47_85 rfl rfl ?_
              refine rs_pf (M2 := (ro_sI M 16 6 ((M.2.1 16 6) + (1 : Int32)))) ri_47_86 rfl (by decide) (ro_kf (kd_16 hL)) (fun h => absurd h (by decide)) (fun f h => h) ?_
              refine rs_aload_n ri_47_89 rfl rfl ?_
              refine rs_iload_n ri_47_90 rfl rfl ?_
              refine rs_iconst (v := (1 : Int32)) ri_47_91 rfl (by decide) ?_
              refine rs_iadd (r := (v1 + (1 : Int32))) ri_47_92 rfl rfl ?_
              obtain ⟨q9, hp⟩ := hp
              refine rs_virt (As := [.int (v1 + (1 : Int32))]) (r := []) ri_47_93 rfl (by decide) rm_47.2.2.2 rm_47.2.2.1 rfl rfl rfl (by decide) (ro_kf (kd_16 hL)) (Nat.le_of_ble_eq_true rfl) (by decide) (by omega) (hF47 hL q9) ?_
              rintro _ _ ⟨e1, e2⟩
              rw [e1, e2]
              show ro_w X _ 47 _ 96 [(2, .int (xf_48 M)), (0, .ref 16), (1, .int v1)] [.int (ro_b (F47 (ro_sI M 16 6 ((M.2.1 16 6) + (1 : Int32))) (v1 + (1 : Int32))).1)] (F47 (ro_sI M 16 6 ((M.2.1 16 6) + (1 : Int32))) (v1 + (1 : Int32))).2 (0, 0)
              refine rs_ifne_c (t := 101) ri_47_96 rfl rfl (fun h11 => ?_) (fun h11 => ?_)
              · skip
                refine rs_aload_n ri_47_101 rfl rfl ?_
                refine rs_iload_n ri_47_102 rfl rfl ?_
                refine rs_bipush (v := (33 : Int32)) ri_47_103 rfl (by decide) ?_
                refine rs_icmp_ne (t := 113) ri_47_105 rfl rfl (fun h12 => ?_) (fun h12 => absurd h12 (by rw [h9]; decide))
                refine rs_bipush (v := (-126 : Int32)) ri_47_113 rfl (by decide) ?_
                refine rs_virt (As := [.int (-126 : Int32)]) (r := []) ri_47_115 rfl (by decide) rm_51.2.2.2 rm_51.2.2.1 rfl rfl rfl (by decide) (ro_kf (kd_16 (hl47 hL q9))) (Nat.le_of_ble_eq_true rfl) (by decide) (by omega) (xs_51 (X := X) (hl47 hL q9)) ?_
                rintro _ _ ⟨e1, e2⟩
                rw [e1, e2]
                show ro_w X _ 47 _ 118 [(2, .int (xf_48 M)), (0, .ref 16), (1, .int v1)] [] (xm_51 (F47 (ro_sI M 16 6 ((M.2.1 16 6) + (1 : Int32))) (v1 + (1 : Int32))).2 (-126 : Int32)) (0, 0)
                refine rs_iconst (v := (1 : Int32)) ri_47_118 rfl (by decide) ?_
                refine rs_zret (p := true) ri_47_119 rm_47.2.1 (by decide) rfl ?_
                exact ⟨by unfold xfb_47; first | (simp only [if_neg h1, if_pos h2, if_pos h3, if_neg h4, if_neg h5, if_pos h9, if_pos h11]; done) | rfl, by unfold xmb_47; first | (simp only [if_neg h1, if_pos h2, if_pos h3, if_neg h4, if_neg h5, if_pos h9, if_pos h11]; done) | rfl⟩
              · skip
                refine rs_iconst (v := (0 : Int32)) ri_47_99 rfl (by decide) ?_
                refine rs_zret (p := false) ri_47_100 rm_47.2.1 (by decide) rfl ?_
                exact ⟨by unfold xfb_47; first | (simp only [if_neg h1, if_pos h2, if_pos h3, if_neg h4, if_neg h5, if_pos h9, if_neg h11]; done) | rfl, by unfold xmb_47; first | (simp only [if_neg h1, if_pos h2, if_pos h3, if_neg h4, if_neg h5, if_pos h9, if_neg h11]; done) | rfl⟩
            · have hp := hp.2 h9
              refine rs_iconst (v := (0 : Int32)) ri_47_77 rfl (by decide) ?_
              refine rs_zret (p := false) ri_47_78 rm_47.2.1 (by decide) rfl ?_
              exact ⟨by unfold xfb_47; first | (simp only [if_neg h1, if_pos h2, if_pos h3, if_neg h4, if_neg h5, if_neg h9]; done) | rfl, by unfold xmb_47; first | (simp only [if_neg h1, if_pos h2, if_pos h3, if_neg h4, if_neg h5, if_neg h9]; done) | rfl⟩
        · have hp := hp.1 h4
          refine rs_aload_n ri_47_57 rfl rfl ?_
          refine rs_iload_n ri_47_58 rfl rfl ?_
          refine rs_iconst (v := (1 : Int32)) ri_47_59 rfl (by decide) ?_
          refine rs_iadd (r := (v1 + (1 : Int32))) ri_47_60 rfl rfl ?_
          obtain ⟨q12, hp⟩ := hp
          refine rs_virt (As := [.int (v1 + (1 : Int32))]) (r := []) ri_47_61 rfl (by decide) rm_53.2.2.2 rm_53.2.2.1 rfl rfl rfl (by decide) (ro_kf (kd_16 hL)) (Nat.le_of_ble_eq_true rfl) (by decide) (by omega) (xs_53 (X := X) hF46 hl46 hF47 hl47 hL q12) ?_
          rintro _ _ ⟨e1, e2⟩
          rw [e1, e2]
          show ro_w X _ 47 _ 64 [(2, .int (xf_48 M)), (0, .ref 16), (1, .int v1)] [.int (ro_b (xf_53 F46 F47 M (v1 + (1 : Int32))))] (xm_53 F46 F47 M (v1 + (1 : Int32))) (0, 0)
          refine rs_zret (p := (xf_53 F46 F47 M (v1 + (1 : Int32)))) ri_47_64 rm_47.2.1 (by decide) rfl ?_
          exact ⟨by unfold xfb_47; first | (simp only [if_neg h1, if_pos h2, if_pos h3, if_pos h4]; done) | rfl, by unfold xmb_47; first | (simp only [if_neg h1, if_pos h2, if_pos h3, if_pos h4]; done) | rfl⟩
      · have hp := hp.2 h3
        refine rs_iconst (v := (0 : Int32)) ri_47_49 rfl (by decide) ?_
        refine rs_zret (p := false) ri_47_50 rm_47.2.1 (by decide) rfl ?_
        exact ⟨by unfold xfb_47; first | (simp only [if_neg h1, if_pos h2, if_neg h3]; done) | rfl, by unfold xmb_47; first | (simp only [if_neg h1, if_pos h2, if_neg h3]; done) | rfl⟩
    · have hp := hp.2 h2
      refine rs_aload_n ri_47_25 rfl rfl ?_
      refine rs_dup ri_47_26 rfl rfl ?_
      refine rs_gf (v := .int (M.2.1 16 6)) ri_47_27 rfl (by decide) (ro_kf (kd_16 hL)) rfl rfl ?_
      refine rs_iconst (v := (1 : Int32)) ri_47_30 rfl (by decide) ?_
      refine rs_iadd (r := ((M.2.1 16 6) + (1 : Int32))) ri_47_31 rfl rfl ?_
      refine rs_pf (M2 := (ro_sI M 16 6 ((M.2.1 16 6) + (1 : Int32)))) ri_47_32 rfl (by decide) (ro_kf (kd_16 hL)) (fun h => absurd h (by decide)) (fun f h => h) ?_
      refine rs_aload_n ri_47_35 rfl rfl ?_
      refine rs_iload_n ri_47_36 rfl rfl ?_
      refine rs_ineg (r := (-(xf_48 M))) ri_47_37 rfl rfl ?_
      refine rs_virt (As := [.int (-(xf_48 M))]) (r := []) ri_47_38 rfl (by decide) rm_51.2.2.2 rm_51.2.2.1 rfl rfl rfl (by decide) (ro_kf (kd_16 hL)) (Nat.le_of_ble_eq_true rfl) (by decide) (by omega) (xs_51 (X := X) hL) ?_
      rintro _ _ ⟨e1, e2⟩
      rw [e1, e2]
      show ro_w X _ 47 _ 41 [(2, .int (xf_48 M)), (0, .ref 16), (1, .int v1)] [] (xm_51 (ro_sI M 16 6 ((M.2.1 16 6) + (1 : Int32))) (-(xf_48 M))) (0, 0)
      refine rs_iconst (v := (1 : Int32)) ri_47_41 rfl (by decide) ?_
      refine rs_zret (p := true) ri_47_42 rm_47.2.1 (by decide) rfl ?_
      exact ⟨by unfold xfb_47; first | (simp only [if_neg h1, if_neg h2]; done) | rfl, by unfold xmb_47; first | (simp only [if_neg h1, if_neg h2]; done) | rfl⟩
  · have hp := hp.1 h1
    refine rs_aload_n ri_47_12 rfl rfl ?_
    obtain ⟨q13, hp⟩ := hp
    refine rs_virt (As := []) (r := []) ri_47_13 rfl (by decide) rm_50.2.2.2 rm_50.2.2.1 rfl rfl rfl (by decide) (ro_kf (kd_16 hL)) (Nat.le_of_ble_eq_true rfl) (by decide) (by omega) (xs_50 (X := X) hL q13) ?_
    rintro _ _ ⟨e1, e2⟩
    rw [e1, e2]
    show ro_w X _ 47 _ 16 [(2, .int (xf_48 M)), (0, .ref 16), (1, .int v1)] [] (xm_50 M) (0, 0)
    refine rs_iconst (v := (1 : Int32)) ri_47_16 rfl (by decide) ?_
    refine rs_zret (p := true) ri_47_17 rm_47.2.1 (by decide) rfl ?_
    exact ⟨by unfold xfb_47; first | (simp only [if_pos h1]; done) | rfl, by unfold xmb_47; first | (simp only [if_pos h1]; done) | rfl⟩
theorem xlb_47 {X : ro_Sx} {k : Nat} {F46 : ro_Mm → Int32 → Int32 → Bool × ro_Mm} {P46 : ro_Mm → Int32 → Int32 → Prop} (hF46 : ∀ {M : ro_Mm} {v1 : Int32} {v2 : Int32}, ro_lay M → P46 M v1 v2 → ro_cwp X k 46 [.ref 16, .int v1, .int v2] M (fun v M2 => v = some (.int (ro_b (F46 M v1 v2).1)) ∧ M2 = (F46 M v1 v2).2)) (hl46 : ∀ {M : ro_Mm} {v1 : Int32} {v2 : Int32}, ro_lay M → P46 M v1 v2 → ro_lay (F46 M v1 v2).2) {F47 : ro_Mm → Int32 → Bool × ro_Mm} {P47 : ro_Mm → Int32 → Prop} (hF47 : ∀ {M : ro_Mm} {v1 : Int32}, ro_lay M → P47 M v1 → ro_cwp X k 47 [.ref 16, .int v1] M (fun v M2 => v = some (.int (ro_b (F47 M v1).1)) ∧ M2 = (F47 M v1).2)) (hl47 : ∀ {M : ro_Mm} {v1 : Int32}, ro_lay M → P47 M v1 → ro_lay (F47 M v1).2) {M : ro_Mm} {v1 : Int32} (hL : ro_lay M) (hp : xpb_47 F46 P46 F47 P47 M v1) : ro_lay (xmb_47 F46 F47 M v1) := by
  unfold xpb_47 at hp
  unfold xmb_47
  by_cases hz : (xf_49 M (xf_48 M))
  · have hp := hp.1 hz
    rw [if_pos hz]
    obtain ⟨q13, hp⟩ := hp
    first | exact (xl_50 hL q13) | (have hl := (xl_50 hL q13); exact hl)
  · have hp := hp.2 hz
    rw [if_neg hz]
    by_cases hz : (xf_52 M (xf_48 M)) < (0 : Int32)
    · have hp := hp.1 hz
      rw [if_pos hz]
      by_cases hz : v1 < (6 : Int32)
      · have hp := hp.1 hz
        rw [if_pos hz]
        by_cases hz : (xf_48 M) = (40 : Int32)
        · have hp := hp.1 hz
          rw [if_pos hz]
          obtain ⟨q12, hp⟩ := hp
          first | exact (xl_53 hF46 hl46 hF47 hl47 hL q12) | (have hl := (xl_53 hF46 hl46 hF47 hl47 hL q12); exact hl)
        · have hp := hp.2 hz
          rw [if_neg hz]
          by_cases hz : (xf_48 M) = (33 : Int32)
          · have hp := hp.1 hz
            rw [if_pos hz]
            obtain ⟨q5, hp⟩ := hp
            by_cases hz : (F47 (ro_sI M 16 6 ((M.2.1 16 6) + (1 : Int32))) (v1 + (1 : Int32))).1
            · skip
              rw [if_pos hz]
              first | exact (xl_51 (hl47 hL q5)) | (have hl := (xl_51 (hl47 hL q5)); exact hl)
            · skip
              rw [if_neg hz]
              first | exact (hl47 hL q5) | (have hl := (hl47 hL q5); exact hl)
          · have hp := hp.2 hz
            rw [if_neg hz]
            by_cases hz : (xf_48 M) = (45 : Int32)
            · have hp := hp.1 hz
              rw [if_pos hz]
              obtain ⟨q9, hp⟩ := hp
              by_cases hz : (F47 (ro_sI M 16 6 ((M.2.1 16 6) + (1 : Int32))) (v1 + (1 : Int32))).1
              · skip
                rw [if_pos hz]
                first | exact (xl_51 (hl47 hL q9)) | (have hl := (xl_51 (hl47 hL q9)); exact hl)
              · skip
                rw [if_neg hz]
                first | exact (hl47 hL q9) | (have hl := (hl47 hL q9); exact hl)
            · have hp := hp.2 hz
              rw [if_neg hz]
              first | exact hL | (have hl := hL; exact hl)
      · have hp := hp.2 hz
        rw [if_neg hz]
        first | exact hL | (have hl := hL; exact hl)
    · have hp := hp.2 hz
      rw [if_neg hz]
      first | exact (xl_51 hL) | (have hl := (xl_51 hL); exact hl)
noncomputable def xr_par : Nat → (ro_Mm → Int32 → Int32 → Bool × ro_Mm) × (ro_Mm → Int32 → Bool × ro_Mm)
  | 0 => (fun M v1 v2 => (false, M), fun M v1 => (false, M))
  | n + 1 => (fun M v1 v2 => (xfb_46 (xr_par n).1 (xr_par n).2 M v1 v2, (xmb_46 (xr_par n).1 (xr_par n).2 M v1 v2)), fun M v1 => (xfb_47 (xr_par n).1 (xr_par n).2 M v1, (xmb_47 (xr_par n).1 (xr_par n).2 M v1)))
def xpr_par : Nat → (ro_Mm → Int32 → Int32 → Prop) × (ro_Mm → Int32 → Prop)
  | 0 => (fun _ _ _ => False, fun _ _ => False)
  | n + 1 => (fun M v1 v2 => xpb_46 (xr_par n).1 (xpr_par n).1 (xr_par n).2 (xpr_par n).2 M v1 v2, fun M v1 => xpb_47 (xr_par n).1 (xpr_par n).1 (xr_par n).2 (xpr_par n).2 M v1)
theorem xsr_par {X : ro_Sx} : ∀ n : Nat, (∀ {M : ro_Mm} {v1 : Int32} {v2 : Int32}, ro_lay M → (xpr_par n).1 M v1 v2 → ro_cwp X (4 * n) 46 [.ref 16, .int v1, .int v2] M (fun v M2 => v = some (.int (ro_b ((xr_par n).1 M v1 v2).1)) ∧ M2 = ((xr_par n).1 M v1 v2).2)) ∧ (∀ {M : ro_Mm} {v1 : Int32} {v2 : Int32}, ro_lay M → (xpr_par n).1 M v1 v2 → ro_lay ((xr_par n).1 M v1 v2).2) ∧ (∀ {M : ro_Mm} {v1 : Int32}, ro_lay M → (xpr_par n).2 M v1 → ro_cwp X (4 * n) 47 [.ref 16, .int v1] M (fun v M2 => v = some (.int (ro_b ((xr_par n).2 M v1).1)) ∧ M2 = ((xr_par n).2 M v1).2)) ∧ (∀ {M : ro_Mm} {v1 : Int32}, ro_lay M → (xpr_par n).2 M v1 → ro_lay ((xr_par n).2 M v1).2) := by
  intro n
  induction n with
  | zero => exact ⟨fun _ hp => False.elim hp, fun _ hp => False.elim hp, fun _ hp => False.elim hp, fun _ hp => False.elim hp⟩
  | succ n ih =>
    obtain ⟨f46, l46, f47, l47⟩ := ih
    refine ⟨?_, ?_, ?_, ?_⟩
    · intro M v1 v2 hL hp
      exact ro_cwp_up (by omega) (fun _ _ h => h) (xsb_46 f46 l46 f47 l47 hL hp)
    · intro M v1 v2 hL hp
      exact xlb_46 (X := X) f46 l46 f47 l47 hL hp
    · intro M v1 hL hp
      exact ro_cwp_up (by omega) (fun _ _ h => h) (xsb_47 f46 l46 f47 l47 hL hp)
    · intro M v1 hL hp
      exact xlb_47 (X := X) f46 l46 f47 l47 hL hp
noncomputable def xf_46 (M : ro_Mm) (v1 : Int32) (v2 : Int32) : Bool := ((xr_par rc_N).1 M v1 v2).1
noncomputable def xm_46 (M : ro_Mm) (v1 : Int32) (v2 : Int32) : ro_Mm := ((xr_par rc_N).1 M v1 v2).2
def xp_46 (M : ro_Mm) (v1 : Int32) (v2 : Int32) : Prop := (xpr_par rc_N).1 M v1 v2
theorem xs_46 {X : ro_Sx} {M : ro_Mm} {v1 : Int32} {v2 : Int32} (hL : ro_lay M) (hp : xp_46 M v1 v2) : ro_cwp X 400 46 [.ref 16, .int v1, .int v2] M (fun v M2 => v = some (.int (ro_b (xf_46 M v1 v2))) ∧ M2 = xm_46 M v1 v2) :=
  ro_cwp_up (by rw [rc_N_eq]; exact Nat.le_refl _) (fun _ _ h => h) ((xsr_par (X := X) rc_N).1 hL hp)
theorem xl_46 {M : ro_Mm} {v1 : Int32} {v2 : Int32} (hL : ro_lay M) (hp : xp_46 M v1 v2) : ro_lay (xm_46 M v1 v2) := (xsr_par (X := (0, fun _ => 0)) rc_N).2.1 hL hp
noncomputable def xf_47 (M : ro_Mm) (v1 : Int32) : Bool := ((xr_par rc_N).2 M v1).1
noncomputable def xm_47 (M : ro_Mm) (v1 : Int32) : ro_Mm := ((xr_par rc_N).2 M v1).2
def xp_47 (M : ro_Mm) (v1 : Int32) : Prop := (xpr_par rc_N).2 M v1
theorem xs_47 {X : ro_Sx} {M : ro_Mm} {v1 : Int32} (hL : ro_lay M) (hp : xp_47 M v1) : ro_cwp X 400 47 [.ref 16, .int v1] M (fun v M2 => v = some (.int (ro_b (xf_47 M v1))) ∧ M2 = xm_47 M v1) :=
  ro_cwp_up (by rw [rc_N_eq]; exact Nat.le_refl _) (fun _ _ h => h) ((xsr_par (X := X) rc_N).2.2.1 hL hp)
theorem xl_47 {M : ro_Mm} {v1 : Int32} (hL : ro_lay M) (hp : xp_47 M v1) : ro_lay (xm_47 M v1) := (xsr_par (X := (0, fun _ => 0)) rc_N).2.2.2 hL hp
/-- a loop of RefusedOnce$Law.lines()Z -/
noncomputable def xg_45_2 : Nat → ro_Mm → Int32 → Bool × Bool × Int32 × ro_Mm
  | 0, M, v1 => (false, false, v1, M)
  | n + 1, M, v1 => (if (120 : Int32) < v1 then (false, false, v1, M) else (if (xf_46 M (0 : Int32) (0 : Int32)) then (if (xf_48 (xm_46 M (0 : Int32) (0 : Int32))) = (63 : Int32) then (if (xf_46 (ro_sI (xm_46 M (0 : Int32) (0 : Int32)) 16 6 (((xm_46 M (0 : Int32) (0 : Int32)).2.1 16 6) + (1 : Int32))) (0 : Int32) (0 : Int32)) then (if (xf_48 (xm_51 (xm_46 (ro_sI (xm_46 M (0 : Int32) (0 : Int32)) 16 6 (((xm_46 M (0 : Int32) (0 : Int32)).2.1 16 6) + (1 : Int32))) (0 : Int32) (0 : Int32)) (-63 : Int32))) = (59 : Int32) then (xg_45_2 n (ro_sI (xm_51 (xm_46 (ro_sI (xm_46 M (0 : Int32) (0 : Int32)) 16 6 (((xm_46 M (0 : Int32) (0 : Int32)).2.1 16 6) + (1 : Int32))) (0 : Int32) (0 : Int32)) (-63 : Int32)) 16 6 (((xm_51 (xm_46 (ro_sI (xm_46 M (0 : Int32) (0 : Int32)) 16 6 (((xm_46 M (0 : Int32) (0 : Int32)).2.1 16 6) + (1 : Int32))) (0 : Int32) (0 : Int32)) (-63 : Int32)).2.1 16 6) + (1 : Int32))) (v1 + (1 : Int32))) else (if ((xm_51 (xm_46 (ro_sI (xm_46 M (0 : Int32) (0 : Int32)) 16 6 (((xm_46 M (0 : Int32) (0 : Int32)).2.1 16 6) + (1 : Int32))) (0 : Int32) (0 : Int32)) (-63 : Int32)).2.1 16 6) = ((xm_51 (xm_46 (ro_sI (xm_46 M (0 : Int32) (0 : Int32)) 16 6 (((xm_46 M (0 : Int32) (0 : Int32)).2.1 16 6) + (1 : Int32))) (0 : Int32) (0 : Int32)) (-63 : Int32)).2.1 16 5) then (true, true, v1, (xm_51 (xm_46 (ro_sI (xm_46 M (0 : Int32) (0 : Int32)) 16 6 (((xm_46 M (0 : Int32) (0 : Int32)).2.1 16 6) + (1 : Int32))) (0 : Int32) (0 : Int32)) (-63 : Int32))) else (true, false, v1, (xm_51 (xm_46 (ro_sI (xm_46 M (0 : Int32) (0 : Int32)) 16 6 (((xm_46 M (0 : Int32) (0 : Int32)).2.1 16 6) + (1 : Int32))) (0 : Int32) (0 : Int32)) (-63 : Int32))))) else (true, false, v1, (xm_46 (ro_sI (xm_46 M (0 : Int32) (0 : Int32)) 16 6 (((xm_46 M (0 : Int32) (0 : Int32)).2.1 16 6) + (1 : Int32))) (0 : Int32) (0 : Int32)))) else (if (xf_48 (xm_51 (xm_46 M (0 : Int32) (0 : Int32)) (-59 : Int32))) = (59 : Int32) then (xg_45_2 n (ro_sI (xm_51 (xm_46 M (0 : Int32) (0 : Int32)) (-59 : Int32)) 16 6 (((xm_51 (xm_46 M (0 : Int32) (0 : Int32)) (-59 : Int32)).2.1 16 6) + (1 : Int32))) (v1 + (1 : Int32))) else (if ((xm_51 (xm_46 M (0 : Int32) (0 : Int32)) (-59 : Int32)).2.1 16 6) = ((xm_51 (xm_46 M (0 : Int32) (0 : Int32)) (-59 : Int32)).2.1 16 5) then (true, true, v1, (xm_51 (xm_46 M (0 : Int32) (0 : Int32)) (-59 : Int32))) else (true, false, v1, (xm_51 (xm_46 M (0 : Int32) (0 : Int32)) (-59 : Int32)))))) else (true, false, v1, (xm_46 M (0 : Int32) (0 : Int32)))))
def xq_45_2 : Nat → ro_Mm → Int32 → Prop
  | 0, _, _ => False
  | n + 1, M, v1 => (((120 : Int32) < v1 → True) ∧ (¬ ((120 : Int32) < v1) → (xp_46 M (0 : Int32) (0 : Int32) ∧ (((xf_46 M (0 : Int32) (0 : Int32)) → (((xf_48 (xm_46 M (0 : Int32) (0 : Int32))) = (63 : Int32) → (xp_46 (ro_sI (xm_46 M (0 : Int32) (0 : Int32)) 16 6 (((xm_46 M (0 : Int32) (0 : Int32)).2.1 16 6) + (1 : Int32))) (0 : Int32) (0 : Int32) ∧ (((xf_46 (ro_sI (xm_46 M (0 : Int32) (0 : Int32)) 16 6 (((xm_46 M (0 : Int32) (0 : Int32)).2.1 16 6) + (1 : Int32))) (0 : Int32) (0 : Int32)) → (((xf_48 (xm_51 (xm_46 (ro_sI (xm_46 M (0 : Int32) (0 : Int32)) 16 6 (((xm_46 M (0 : Int32) (0 : Int32)).2.1 16 6) + (1 : Int32))) (0 : Int32) (0 : Int32)) (-63 : Int32))) = (59 : Int32) → (xq_45_2 n (ro_sI (xm_51 (xm_46 (ro_sI (xm_46 M (0 : Int32) (0 : Int32)) 16 6 (((xm_46 M (0 : Int32) (0 : Int32)).2.1 16 6) + (1 : Int32))) (0 : Int32) (0 : Int32)) (-63 : Int32)) 16 6 (((xm_51 (xm_46 (ro_sI (xm_46 M (0 : Int32) (0 : Int32)) 16 6 (((xm_46 M (0 : Int32) (0 : Int32)).2.1 16 6) + (1 : Int32))) (0 : Int32) (0 : Int32)) (-63 : Int32)).2.1 16 6) + (1 : Int32))) (v1 + (1 : Int32)))) ∧ (¬ ((xf_48 (xm_51 (xm_46 (ro_sI (xm_46 M (0 : Int32) (0 : Int32)) 16 6 (((xm_46 M (0 : Int32) (0 : Int32)).2.1 16 6) + (1 : Int32))) (0 : Int32) (0 : Int32)) (-63 : Int32))) = (59 : Int32)) → True))) ∧ (¬ ((xf_46 (ro_sI (xm_46 M (0 : Int32) (0 : Int32)) 16 6 (((xm_46 M (0 : Int32) (0 : Int32)).2.1 16 6) + (1 : Int32))) (0 : Int32) (0 : Int32))) → True)))) ∧ (¬ ((xf_48 (xm_46 M (0 : Int32) (0 : Int32))) = (63 : Int32)) → (((xf_48 (xm_51 (xm_46 M (0 : Int32) (0 : Int32)) (-59 : Int32))) = (59 : Int32) → (xq_45_2 n (ro_sI (xm_51 (xm_46 M (0 : Int32) (0 : Int32)) (-59 : Int32)) 16 6 (((xm_51 (xm_46 M (0 : Int32) (0 : Int32)) (-59 : Int32)).2.1 16 6) + (1 : Int32))) (v1 + (1 : Int32)))) ∧ (¬ ((xf_48 (xm_51 (xm_46 M (0 : Int32) (0 : Int32)) (-59 : Int32))) = (59 : Int32)) → True))))) ∧ (¬ ((xf_46 M (0 : Int32) (0 : Int32))) → True)))))
theorem xt_45_2 {X : ro_Sx} {post : ro_Po} : ∀ (n : Nat) {M : ro_Mm} {v1 : Int32} (hL : ro_lay M) (hp : xq_45_2 n M v1) (hk : ¬ (xg_45_2 n M v1).1 = true → ro_w X 400 45 post 102 [(1, .int (xg_45_2 n M v1).2.2.1), (0, .ref 16)] [] (xg_45_2 n M v1).2.2.2 (0, 0)) (hr : (xg_45_2 n M v1).1 = true → post (some (.int (ro_b (xg_45_2 n M v1).2.1))) (xg_45_2 n M v1).2.2.2), ro_w X 400 45 post 2 [(1, .int v1), (0, .ref 16)] [] M (0, 0) := by
  intro n
  induction n with
  | zero => intro M v1 hL hp hk hr; exact False.elim hp
  | succ n ih =>
    intro M v1 hL hp hk hr
    rw [xq_45_2] at hp
    refine rs_iload_n ri_45_2 rfl rfl ?_
    refine rs_bipush (v := (120 : Int32)) ri_45_3 rfl (by decide) ?_
    refine rs_icmp_gt (t := 102) ri_45_5 rfl rfl (fun h1 => ?_) (fun h1 => ?_)
    · skip
      have e : xg_45_2 (n + 1) M v1 = (false, false, v1, M) := by rw [xg_45_2]; first | (simp only [if_pos h1]; done) | rfl
      rw [e] at hk hr
      exact ro_w_lv (ro_sub_c rfl (ro_sub_c rfl (ro_sub_n rfl))) (hk (fun z => Bool.noConfusion z))
    · have hp := hp.2 h1
      refine rs_bipush (v := (-59 : Int32)) ri_45_8 rfl (by decide) ?_
      refine rs_istore_n (lv2 := [(2, .int (-59 : Int32)), (1, .int v1), (0, .ref 16)]) ri_45_10 rfl rm_45.1 (by decide) rfl ?_
      refine rs_aload_n ri_45_11 rfl rfl ?_
      refine rs_iconst (v := (0 : Int32)) ri_45_12 rfl (by decide) ?_
      refine rs_iconst (v := (0 : Int32)) ri_45_13 rfl (by decide) ?_
      obtain ⟨q1, hp⟩ := hp
      refine rs_virt (As := [.int (0 : Int32), .int (0 : Int32)]) (r := []) ri_45_14 rfl (by decide) rm_46.2.2.2 rm_46.2.2.1 rfl rfl rfl (by decide) (ro_kf (kd_16 hL)) (Nat.le_of_ble_eq_true rfl) (by decide) (by decide) (xs_46 (X := X) hL q1) ?_
      rintro _ _ ⟨e1, e2⟩
      rw [e1, e2]
      show ro_w X _ 45 _ 17 [(2, .int (-59 : Int32)), (1, .int v1), (0, .ref 16)] [.int (ro_b (xf_46 M (0 : Int32) (0 : Int32)))] (xm_46 M (0 : Int32) (0 : Int32)) (0, 0)
      refine rs_ifne_c (t := 22) ri_45_17 rfl rfl (fun h3 => ?_) (fun h3 => ?_)
      · have hp := hp.1 h3
        refine rs_aload_n ri_45_22 rfl rfl ?_
        refine rs_virt (As := []) (r := []) ri_45_23 rfl (by decide) rm_48.2.2.2 rm_48.2.2.1 rfl rfl rfl (by decide) (ro_kf (kd_16 (xl_46 hL q1))) (Nat.le_of_ble_eq_true rfl) (by decide) (by decide) (xs_48 (X := X) (xl_46 hL q1)) ?_
        rintro _ _ ⟨e1, e2⟩
        rw [e1, e2]
        show ro_w X _ 45 _ 26 [(2, .int (-59 : Int32)), (1, .int v1), (0, .ref 16)] [.int (xf_48 (xm_46 M (0 : Int32) (0 : Int32)))] (xm_46 M (0 : Int32) (0 : Int32)) (0, 0)
        refine rs_bipush (v := (63 : Int32)) ri_45_26 rfl (by decide) ?_
        refine rs_icmp_ne (t := 55) ri_45_28 rfl rfl (fun h4 => ?_) (fun h4 => ?_)
        · have hp := hp.2 h4
          refine rs_aload_n ri_45_55 rfl rfl ?_
          refine rs_iload_n ri_45_56 rfl rfl ?_
          refine rs_virt (As := [.int (-59 : Int32)]) (r := []) ri_45_57 rfl (by decide) rm_51.2.2.2 rm_51.2.2.1 rfl rfl rfl (by decide) (ro_kf (kd_16 (xl_46 hL q1))) (Nat.le_of_ble_eq_true rfl) (by decide) (by decide) (xs_51 (X := X) (xl_46 hL q1)) ?_
          rintro _ _ ⟨e1, e2⟩
          rw [e1, e2]
          show ro_w X _ 45 _ 60 [(2, .int (-59 : Int32)), (1, .int v1), (0, .ref 16)] [] (xm_51 (xm_46 M (0 : Int32) (0 : Int32)) (-59 : Int32)) (0, 0)
          refine rs_aload_n ri_45_60 rfl rfl ?_
          refine rs_virt (As := []) (r := []) ri_45_61 rfl (by decide) rm_48.2.2.2 rm_48.2.2.1 rfl rfl rfl (by decide) (ro_kf (kd_16 (xl_51 (xl_46 hL q1)))) (Nat.le_of_ble_eq_true rfl) (by decide) (by decide) (xs_48 (X := X) (xl_51 (xl_46 hL q1))) ?_
          rintro _ _ ⟨e1, e2⟩
          rw [e1, e2]
          show ro_w X _ 45 _ 64 [(2, .int (-59 : Int32)), (1, .int v1), (0, .ref 16)] [.int (xf_48 (xm_51 (xm_46 M (0 : Int32) (0 : Int32)) (-59 : Int32)))] (xm_51 (xm_46 M (0 : Int32) (0 : Int32)) (-59 : Int32)) (0, 0)
          refine rs_bipush (v := (59 : Int32)) ri_45_64 rfl (by decide) ?_
          refine rs_icmp_eq (t := 86) ri_45_66 rfl rfl (fun h5 => ?_) (fun h5 => ?_)
          · have hp := hp.1 h5
            refine rs_aload_n ri_45_86 rfl rfl ?_
            refine rs_dup ri_45_87 rfl rfl ?_
            refine rs_gf (v := .int ((xm_51 (xm_46 M (0 : Int32) (0 : Int32)) (-59 : Int32)).2.1 16 6)) ri_45_88 rfl (by decide) (ro_kf (kd_16 (xl_51 (xl_46 hL q1)))) rfl rfl ?_
            refine rs_iconst (v := (1 : Int32)) ri_45_91 rfl (by decide) ?_
            refine rs_iadd (r := (((xm_51 (xm_46 M (0 : Int32) (0 : Int32)) (-59 : Int32)).2.1 16 6) + (1 : Int32))) ri_45_92 rfl rfl ?_
            refine rs_pf (M2 := (ro_sI (xm_51 (xm_46 M (0 : Int32) (0 : Int32)) (-59 : Int32)) 16 6 (((xm_51 (xm_46 M (0 : Int32) (0 : Int32)) (-59 : Int32)).2.1 16 6) + (1 : Int32)))) ri_45_93 rfl (by decide) (ro_kf (kd_16 (xl_51 (xl_46 hL q1)))) (fun h => absurd h (by decide)) (fun f h => h) ?_
            refine rs_iinc (v := (v1 + (1 : Int32))) (lv2 := [(1, .int (v1 + (1 : Int32))), (2, .int (-59 : Int32)), (0, .ref 16)]) ri_45_96 rfl rfl rfl rm_45.1 (by decide) rfl ?_
            refine rs_goto (t := 2) ri_45_99 rfl ?_
            have e : xg_45_2 (n + 1) M v1 = xg_45_2 n (ro_sI (xm_51 (xm_46 M (0 : Int32) (0 : Int32)) (-59 : Int32)) 16 6 (((xm_51 (xm_46 M (0 : Int32) (0 : Int32)) (-59 : Int32)).2.1 16 6) + (1 : Int32))) (v1 + (1 : Int32)) := by rw [xg_45_2]; first | (simp only [if_neg h1, if_pos h3, if_neg h4, if_pos h5]; done) | rfl
            rw [e] at hk hr
            exact ro_w_lv (ro_sub_c rfl (ro_sub_c rfl (ro_sub_n rfl))) (ih (xl_51 (xl_46 hL q1))  hp hk hr)
          · skip
            refine rs_aload_n ri_45_69 rfl rfl ?_
            refine rs_gf (v := .int ((xm_51 (xm_46 M (0 : Int32) (0 : Int32)) (-59 : Int32)).2.1 16 6)) ri_45_70 rfl (by decide) (ro_kf (kd_16 (xl_51 (xl_46 hL q1)))) rfl rfl ?_
            refine rs_aload_n ri_45_73 rfl rfl ?_
            refine rs_gf (v := .int ((xm_51 (xm_46 M (0 : Int32) (0 : Int32)) (-59 : Int32)).2.1 16 5)) ri_45_74 rfl (by decide) (ro_kf (kd_16 (xl_51 (xl_46 hL q1)))) rfl rfl ?_
            refine rs_icmp_ne (t := 84) ri_45_77 rfl rfl (fun h6 => ?_) (fun h6 => ?_)
            · skip
              refine rs_iconst (v := (0 : Int32)) ri_45_84 rfl (by decide) ?_
              refine rs_zret (p := false) ri_45_85 rm_45.2.1 (by decide) rfl ?_
              have e : xg_45_2 (n + 1) M v1 = (true, false, v1, (xm_51 (xm_46 M (0 : Int32) (0 : Int32)) (-59 : Int32))) := by rw [xg_45_2]; first | (simp only [if_neg h1, if_pos h3, if_neg h4, if_neg h5, if_neg h6]; done) | rfl
              rw [e] at hk hr
              exact hr rfl
            · skip
              refine rs_iconst (v := (1 : Int32)) ri_45_80 rfl (by decide) ?_
              refine rs_goto (t := 85) ri_45_81 rfl ?_
              refine rs_zret (p := true) ri_45_85 rm_45.2.1 (by decide) rfl ?_
              have e : xg_45_2 (n + 1) M v1 = (true, true, v1, (xm_51 (xm_46 M (0 : Int32) (0 : Int32)) (-59 : Int32))) := by rw [xg_45_2]; first | (simp only [if_neg h1, if_pos h3, if_neg h4, if_neg h5, if_pos h6]; done) | rfl
              rw [e] at hk hr
              exact hr rfl
        · have hp := hp.1 h4
          refine rs_aload_n ri_45_31 rfl rfl ?_
          refine rs_dup ri_45_32 rfl rfl ?_
          refine rs_gf (v := .int ((xm_46 M (0 : Int32) (0 : Int32)).2.1 16 6)) ri_45_33 rfl (by decide) (ro_kf (kd_16 (xl_46 hL q1))) rfl rfl ?_
          refine rs_iconst (v := (1 : Int32)) ri_45_36 rfl (by decide) ?_
          refine rs_iadd (r := (((xm_46 M (0 : Int32) (0 : Int32)).2.1 16 6) + (1 : Int32))) ri_45_37 rfl rfl ?_
          refine rs_pf (M2 := (ro_sI (xm_46 M (0 : Int32) (0 : Int32)) 16 6 (((xm_46 M (0 : Int32) (0 : Int32)).2.1 16 6) + (1 : Int32)))) ri_45_38 rfl (by decide) (ro_kf (kd_16 (xl_46 hL q1))) (fun h => absurd h (by decide)) (fun f h => h) ?_
          refine rs_bipush (v := (-63 : Int32)) ri_45_41 rfl (by decide) ?_
          refine rs_istore_n (lv2 := [(2, .int (-63 : Int32)), (1, .int v1), (0, .ref 16)]) ri_45_43 rfl rm_45.1 (by decide) rfl ?_
          refine rs_aload_n ri_45_44 rfl rfl ?_
          refine rs_iconst (v := (0 : Int32)) ri_45_45 rfl (by decide) ?_
          refine rs_iconst (v := (0 : Int32)) ri_45_46 rfl (by decide) ?_
          obtain ⟨q6, hp⟩ := hp
          refine rs_virt (As := [.int (0 : Int32), .int (0 : Int32)]) (r := []) ri_45_47 rfl (by decide) rm_46.2.2.2 rm_46.2.2.1 rfl rfl rfl (by decide) (ro_kf (kd_16 (xl_46 hL q1))) (Nat.le_of_ble_eq_true rfl) (by decide) (by decide) (xs_46 (X := X) (xl_46 hL q1) q6) ?_
          rintro _ _ ⟨e1, e2⟩
          rw [e1, e2]
          show ro_w X _ 45 _ 50 [(2, .int (-63 : Int32)), (1, .int v1), (0, .ref 16)] [.int (ro_b (xf_46 (ro_sI (xm_46 M (0 : Int32) (0 : Int32)) 16 6 (((xm_46 M (0 : Int32) (0 : Int32)).2.1 16 6) + (1 : Int32))) (0 : Int32) (0 : Int32)))] (xm_46 (ro_sI (xm_46 M (0 : Int32) (0 : Int32)) 16 6 (((xm_46 M (0 : Int32) (0 : Int32)).2.1 16 6) + (1 : Int32))) (0 : Int32) (0 : Int32)) (0, 0)
          refine rs_ifne_c (t := 55) ri_45_50 rfl rfl (fun h8 => ?_) (fun h8 => ?_)
          · have hp := hp.1 h8
            refine rs_aload_n ri_45_55 rfl rfl ?_
            refine rs_iload_n ri_45_56 rfl rfl ?_
            refine rs_virt (As := [.int (-63 : Int32)]) (r := []) ri_45_57 rfl (by decide) rm_51.2.2.2 rm_51.2.2.1 rfl rfl rfl (by decide) (ro_kf (kd_16 (xl_46 (xl_46 hL q1) q6))) (Nat.le_of_ble_eq_true rfl) (by decide) (by decide) (xs_51 (X := X) (xl_46 (xl_46 hL q1) q6)) ?_
            rintro _ _ ⟨e1, e2⟩
            rw [e1, e2]
            show ro_w X _ 45 _ 60 [(2, .int (-63 : Int32)), (1, .int v1), (0, .ref 16)] [] (xm_51 (xm_46 (ro_sI (xm_46 M (0 : Int32) (0 : Int32)) 16 6 (((xm_46 M (0 : Int32) (0 : Int32)).2.1 16 6) + (1 : Int32))) (0 : Int32) (0 : Int32)) (-63 : Int32)) (0, 0)
            refine rs_aload_n ri_45_60 rfl rfl ?_
            refine rs_virt (As := []) (r := []) ri_45_61 rfl (by decide) rm_48.2.2.2 rm_48.2.2.1 rfl rfl rfl (by decide) (ro_kf (kd_16 (xl_51 (xl_46 (xl_46 hL q1) q6)))) (Nat.le_of_ble_eq_true rfl) (by decide) (by decide) (xs_48 (X := X) (xl_51 (xl_46 (xl_46 hL q1) q6))) ?_
            rintro _ _ ⟨e1, e2⟩
            rw [e1, e2]
            show ro_w X _ 45 _ 64 [(2, .int (-63 : Int32)), (1, .int v1), (0, .ref 16)] [.int (xf_48 (xm_51 (xm_46 (ro_sI (xm_46 M (0 : Int32) (0 : Int32)) 16 6 (((xm_46 M (0 : Int32) (0 : Int32)).2.1 16 6) + (1 : Int32))) (0 : Int32) (0 : Int32)) (-63 : Int32)))] (xm_51 (xm_46 (ro_sI (xm_46 M (0 : Int32) (0 : Int32)) 16 6 (((xm_46 M (0 : Int32) (0 : Int32)).2.1 16 6) + (1 : Int32))) (0 : Int32) (0 : Int32)) (-63 : Int32)) (0, 0)
            refine rs_bipush (v := (59 : Int32)) ri_45_64 rfl (by decide) ?_
            refine rs_icmp_eq (t := 86) ri_45_66 rfl rfl (fun h9 => ?_) (fun h9 => ?_)
            · have hp := hp.1 h9
              refine rs_aload_n ri_45_86 rfl rfl ?_
              refine rs_dup ri_45_87 rfl rfl ?_
              refine rs_gf (v := .int ((xm_51 (xm_46 (ro_sI (xm_46 M (0 : Int32) (0 : Int32)) 16 6 (((xm_46 M (0 : Int32) (0 : Int32)).2.1 16 6) + (1 : Int32))) (0 : Int32) (0 : Int32)) (-63 : Int32)).2.1 16 6)) ri_45_88 rfl (by decide) (ro_kf (kd_16 (xl_51 (xl_46 (xl_46 hL q1) q6)))) rfl rfl ?_
              refine rs_iconst (v := (1 : Int32)) ri_45_91 rfl (by decide) ?_
              refine rs_iadd (r := (((xm_51 (xm_46 (ro_sI (xm_46 M (0 : Int32) (0 : Int32)) 16 6 (((xm_46 M (0 : Int32) (0 : Int32)).2.1 16 6) + (1 : Int32))) (0 : Int32) (0 : Int32)) (-63 : Int32)).2.1 16 6) + (1 : Int32))) ri_45_92 rfl rfl ?_
              refine rs_pf (M2 := (ro_sI (xm_51 (xm_46 (ro_sI (xm_46 M (0 : Int32) (0 : Int32)) 16 6 (((xm_46 M (0 : Int32) (0 : Int32)).2.1 16 6) + (1 : Int32))) (0 : Int32) (0 : Int32)) (-63 : Int32)) 16 6 (((xm_51 (xm_46 (ro_sI (xm_46 M (0 : Int32) (0 : Int32)) 16 6 (((xm_46 M (0 : Int32) (0 : Int32)).2.1 16 6) + (1 : Int32))) (0 : Int32) (0 : Int32)) (-63 : Int32)).2.1 16 6) + (1 : Int32)))) ri_45_93 rfl (by decide) (ro_kf (kd_16 (xl_51 (xl_46 (xl_46 hL q1) q6)))) (fun h => absurd h (by decide)) (fun f h => h) ?_
              refine rs_iinc (v := (v1 + (1 : Int32))) (lv2 := [(1, .int (v1 + (1 : Int32))), (2, .int (-63 : Int32)), (0, .ref 16)]) ri_45_96 rfl rfl rfl rm_45.1 (by decide) rfl ?_
              refine rs_goto (t := 2) ri_45_99 rfl ?_
              have e : xg_45_2 (n + 1) M v1 = xg_45_2 n (ro_sI (xm_51 (xm_46 (ro_sI (xm_46 M (0 : Int32) (0 : Int32)) 16 6 (((xm_46 M (0 : Int32) (0 : Int32)).2.1 16 6) + (1 : Int32))) (0 : Int32) (0 : Int32)) (-63 : Int32)) 16 6 (((xm_51 (xm_46 (ro_sI (xm_46 M (0 : Int32) (0 : Int32)) 16 6 (((xm_46 M (0 : Int32) (0 : Int32)).2.1 16 6) + (1 : Int32))) (0 : Int32) (0 : Int32)) (-63 : Int32)).2.1 16 6) + (1 : Int32))) (v1 + (1 : Int32)) := by rw [xg_45_2]; first | (simp only [if_neg h1, if_pos h3, if_pos h4, if_pos h8, if_pos h9]; done) | rfl
              rw [e] at hk hr
              exact ro_w_lv (ro_sub_c rfl (ro_sub_c rfl (ro_sub_n rfl))) (ih (xl_51 (xl_46 (xl_46 hL q1) q6))  hp hk hr)
            · skip
              refine rs_aload_n ri_45_69 rfl rfl ?_
              refine rs_gf (v := .int ((xm_51 (xm_46 (ro_sI (xm_46 M (0 : Int32) (0 : Int32)) 16 6 (((xm_46 M (0 : Int32) (0 : Int32)).2.1 16 6) + (1 : Int32))) (0 : Int32) (0 : Int32)) (-63 : Int32)).2.1 16 6)) ri_45_70 rfl (by decide) (ro_kf (kd_16 (xl_51 (xl_46 (xl_46 hL q1) q6)))) rfl rfl ?_
              refine rs_aload_n ri_45_73 rfl rfl ?_
              refine rs_gf (v := .int ((xm_51 (xm_46 (ro_sI (xm_46 M (0 : Int32) (0 : Int32)) 16 6 (((xm_46 M (0 : Int32) (0 : Int32)).2.1 16 6) + (1 : Int32))) (0 : Int32) (0 : Int32)) (-63 : Int32)).2.1 16 5)) ri_45_74 rfl (by decide) (ro_kf (kd_16 (xl_51 (xl_46 (xl_46 hL q1) q6)))) rfl rfl ?_
              refine rs_icmp_ne (t := 84) ri_45_77 rfl rfl (fun h10 => ?_) (fun h10 => ?_)
              · skip
                refine rs_iconst (v := (0 : Int32)) ri_45_84 rfl (by decide) ?_
                refine rs_zret (p := false) ri_45_85 rm_45.2.1 (by decide) rfl ?_
                have e : xg_45_2 (n + 1) M v1 = (true, false, v1, (xm_51 (xm_46 (ro_sI (xm_46 M (0 : Int32) (0 : Int32)) 16 6 (((xm_46 M (0 : Int32) (0 : Int32)).2.1 16 6) + (1 : Int32))) (0 : Int32) (0 : Int32)) (-63 : Int32))) := by rw [xg_45_2]; first | (simp only [if_neg h1, if_pos h3, if_pos h4, if_pos h8, if_neg h9, if_neg h10]; done) | rfl
                rw [e] at hk hr
                exact hr rfl
              · skip
                refine rs_iconst (v := (1 : Int32)) ri_45_80 rfl (by decide) ?_
                refine rs_goto (t := 85) ri_45_81 rfl ?_
                refine rs_zret (p := true) ri_45_85 rm_45.2.1 (by decide) rfl ?_
                have e : xg_45_2 (n + 1) M v1 = (true, true, v1, (xm_51 (xm_46 (ro_sI (xm_46 M (0 : Int32) (0 : Int32)) 16 6 (((xm_46 M (0 : Int32) (0 : Int32)).2.1 16 6) + (1 : Int32))) (0 : Int32) (0 : Int32)) (-63 : Int32))) := by rw [xg_45_2]; first | (simp only [if_neg h1, if_pos h3, if_pos h4, if_pos h8, if_neg h9, if_pos h10]; done) | rfl
                rw [e] at hk hr
                exact hr rfl
          · skip
            refine rs_iconst (v := (0 : Int32)) ri_45_53 rfl (by decide) ?_
            refine rs_zret (p := false) ri_45_54 rm_45.2.1 (by decide) rfl ?_
            have e : xg_45_2 (n + 1) M v1 = (true, false, v1, (xm_46 (ro_sI (xm_46 M (0 : Int32) (0 : Int32)) 16 6 (((xm_46 M (0 : Int32) (0 : Int32)).2.1 16 6) + (1 : Int32))) (0 : Int32) (0 : Int32))) := by rw [xg_45_2]; first | (simp only [if_neg h1, if_pos h3, if_pos h4, if_neg h8]; done) | rfl
            rw [e] at hk hr
            exact hr rfl
      · skip
        refine rs_iconst (v := (0 : Int32)) ri_45_20 rfl (by decide) ?_
        refine rs_zret (p := false) ri_45_21 rm_45.2.1 (by decide) rfl ?_
        have e : xg_45_2 (n + 1) M v1 = (true, false, v1, (xm_46 M (0 : Int32) (0 : Int32))) := by rw [xg_45_2]; first | (simp only [if_neg h1, if_neg h3]; done) | rfl
        rw [e] at hk hr
        exact hr rfl
theorem xl_45_2 : ∀ (n : Nat) {M : ro_Mm} {v1 : Int32} (hL : ro_lay M) (hp : xq_45_2 n M v1), ro_lay (xg_45_2 n M v1).2.2.2 := by
  intro n
  induction n with
  | zero => intro M v1 hL hp; exact False.elim hp
  | succ n ih =>
    intro M v1 hL hp
    rw [xq_45_2] at hp
    rw [xg_45_2]
    by_cases hz : (120 : Int32) < v1
    · have hp := hp.1 hz
      rw [if_pos hz]
      exact hL
    · have hp := hp.2 hz
      rw [if_neg hz]
      obtain ⟨q1, hp⟩ := hp
      by_cases hz : (xf_46 M (0 : Int32) (0 : Int32))
      · have hp := hp.1 hz
        rw [if_pos hz]
        by_cases hz : (xf_48 (xm_46 M (0 : Int32) (0 : Int32))) = (63 : Int32)
        · have hp := hp.1 hz
          rw [if_pos hz]
          obtain ⟨q6, hp⟩ := hp
          by_cases hz : (xf_46 (ro_sI (xm_46 M (0 : Int32) (0 : Int32)) 16 6 (((xm_46 M (0 : Int32) (0 : Int32)).2.1 16 6) + (1 : Int32))) (0 : Int32) (0 : Int32))
          · have hp := hp.1 hz
            rw [if_pos hz]
            by_cases hz : (xf_48 (xm_51 (xm_46 (ro_sI (xm_46 M (0 : Int32) (0 : Int32)) 16 6 (((xm_46 M (0 : Int32) (0 : Int32)).2.1 16 6) + (1 : Int32))) (0 : Int32) (0 : Int32)) (-63 : Int32))) = (59 : Int32)
            · have hp := hp.1 hz
              rw [if_pos hz]
              exact ih (xl_51 (xl_46 (xl_46 hL q1) q6))  hp
            · have hp := hp.2 hz
              rw [if_neg hz]
              by_cases hz : ((xm_51 (xm_46 (ro_sI (xm_46 M (0 : Int32) (0 : Int32)) 16 6 (((xm_46 M (0 : Int32) (0 : Int32)).2.1 16 6) + (1 : Int32))) (0 : Int32) (0 : Int32)) (-63 : Int32)).2.1 16 6) = ((xm_51 (xm_46 (ro_sI (xm_46 M (0 : Int32) (0 : Int32)) 16 6 (((xm_46 M (0 : Int32) (0 : Int32)).2.1 16 6) + (1 : Int32))) (0 : Int32) (0 : Int32)) (-63 : Int32)).2.1 16 5)
              · skip
                rw [if_pos hz]
                exact (xl_51 (xl_46 (xl_46 hL q1) q6))
              · skip
                rw [if_neg hz]
                exact (xl_51 (xl_46 (xl_46 hL q1) q6))
          · have hp := hp.2 hz
            rw [if_neg hz]
            exact (xl_46 (xl_46 hL q1) q6)
        · have hp := hp.2 hz
          rw [if_neg hz]
          by_cases hz : (xf_48 (xm_51 (xm_46 M (0 : Int32) (0 : Int32)) (-59 : Int32))) = (59 : Int32)
          · have hp := hp.1 hz
            rw [if_pos hz]
            exact ih (xl_51 (xl_46 hL q1))  hp
          · have hp := hp.2 hz
            rw [if_neg hz]
            by_cases hz : ((xm_51 (xm_46 M (0 : Int32) (0 : Int32)) (-59 : Int32)).2.1 16 6) = ((xm_51 (xm_46 M (0 : Int32) (0 : Int32)) (-59 : Int32)).2.1 16 5)
            · skip
              rw [if_pos hz]
              exact (xl_51 (xl_46 hL q1))
            · skip
              rw [if_neg hz]
              exact (xl_51 (xl_46 hL q1))
      · have hp := hp.2 hz
        rw [if_neg hz]
        exact (xl_46 hL q1)
/-- RefusedOnce$Law.lines()Z -/
noncomputable def xf_45 (M : ro_Mm) : Bool := (if (xg_45_2 lp_N M (0 : Int32)).1 = true then (xg_45_2 lp_N M (0 : Int32)).2.1 else false)
noncomputable def xm_45 (M : ro_Mm) : ro_Mm := (xg_45_2 lp_N M (0 : Int32)).2.2.2
def xp_45 (M : ro_Mm) : Prop := (xq_45_2 lp_N M (0 : Int32) ∧ True)
theorem xs_45 {X : ro_Sx} {M : ro_Mm} (hL : ro_lay M) (hp : xp_45 M) : ro_cwp X 401 45 [.ref 16] M (fun v M2 => v = some (.int (ro_b (xf_45 M))) ∧ M2 = xm_45 M) := by
  refine rs_begin (lv0 := [(0, .ref 16)]) (by decide) rfl (by rw [rm_45.1]; exact Nat.le_of_ble_eq_true rfl) rfl ?_
  unfold xp_45 at hp
  refine rs_iconst (v := (0 : Int32)) ri_45_0 rfl (by decide) ?_
  refine rs_istore_n (lv2 := [(1, .int (0 : Int32)), (0, .ref 16)]) ri_45_1 rfl rm_45.1 (by decide) rfl ?_
  obtain ⟨q10, hp⟩ := hp
  refine xt_45_2 lp_N hL q10 (fun h12 => ?_) (fun h12 => ?_)
  · skip
    refine rs_iconst (v := (0 : Int32)) ri_45_102 rfl (by decide) ?_
    refine rs_zret (p := false) ri_45_103 rm_45.2.1 (by decide) rfl ?_
    exact ⟨by unfold xf_45; first | (simp only [if_neg h12]; done) | rfl, by unfold xm_45; first | (simp only [if_neg h12]; done) | rfl⟩
  · skip
    exact ⟨by unfold xf_45; first | (simp only [if_pos h12]; done) | rfl, by unfold xm_45; first | (simp only [if_pos h12]; done) | rfl⟩
theorem xl_45 {M : ro_Mm} (hL : ro_lay M) (hp : xp_45 M) : ro_lay (xm_45 M) := by
  unfold xp_45 at hp
  unfold xm_45
  obtain ⟨q10, hp⟩ := hp
  by_cases hz : (xg_45_2 lp_N M (0 : Int32)).1 = true
  · skip
    exact (xl_45_2 lp_N hL q10)
  · skip
    exact (xl_45_2 lp_N hL q10)
/-- a loop of RefusedOnce$Law.read()I -/
noncomputable def xg_44_31 : Nat → ro_Mm → Int32 → Int32 → Int32 × ro_Mm
  | 0, M, v2, v1 => (v2, M)
  | n + 1, M, v2, v1 => (if (M.2.1 16 7) ≤ v2 then (v2, M) else (if (121 : Int32) ≤ v2 then (v2, M) else (xg_44_31 n (ro_sI M 19 (v2.toNatClampNeg) (M.2.1 18 (v2.toNatClampNeg))) (v2 + (1 : Int32)) v1)))
def xq_44_31 : Nat → ro_Mm → Int32 → Int32 → Prop
  | 0, _, _, _ => False
  | n + 1, M, v2, v1 => (((M.2.1 16 7) ≤ v2 → True) ∧ (¬ ((M.2.1 16 7) ≤ v2) → (((121 : Int32) ≤ v2 → True) ∧ (¬ ((121 : Int32) ≤ v2) → (vp_in v2 121 ∧ (vp_in v2 121 ∧ (xq_44_31 n (ro_sI M 19 (v2.toNatClampNeg) (M.2.1 18 (v2.toNatClampNeg))) (v2 + (1 : Int32)) v1)))))))
theorem xt_44_31 {X : ro_Sx} {post : ro_Po} : ∀ (n : Nat) {M : ro_Mm} {v2 : Int32} {v1 : Int32} (hL : ro_lay M) (hp : xq_44_31 n M v2 v1) (hk : ro_w X 401 44 post 63 [(2, .int (xg_44_31 n M v2 v1).1), (1, .int v1), (0, .ref 16)] [] (xg_44_31 n M v2 v1).2 (0, 0)), ro_w X 401 44 post 31 [(2, .int v2), (1, .int v1), (0, .ref 16)] [] M (0, 0) := by
  intro n
  induction n with
  | zero => intro M v2 v1 hL hp hk; exact False.elim hp
  | succ n ih =>
    intro M v2 v1 hL hp hk
    rw [xq_44_31] at hp
    refine rs_iload_n ri_44_31 rfl rfl ?_
    refine rs_aload_n ri_44_32 rfl rfl ?_
    refine rs_gf (v := .int (M.2.1 16 7)) ri_44_33 rfl (by decide) (ro_kf (kd_16 hL)) rfl rfl ?_
    refine rs_icmp_ge (t := 63) ri_44_36 rfl rfl (fun h3 => ?_) (fun h3 => ?_)
    · skip
      have e : xg_44_31 (n + 1) M v2 v1 = (v2, M) := by rw [xg_44_31]; first | (simp only [if_pos h3]; done) | rfl
      rw [e] at hk
      exact ro_w_lv (ro_sub_c rfl (ro_sub_c rfl (ro_sub_c rfl (ro_sub_n rfl)))) hk
    · have hp := hp.2 h3
      refine rs_iload_n ri_44_39 rfl rfl ?_
      refine rs_bipush (v := (121 : Int32)) ri_44_40 rfl (by decide) ?_
      refine rs_icmp_ge (t := 63) ri_44_42 rfl rfl (fun h4 => ?_) (fun h4 => ?_)
      · skip
        have e : xg_44_31 (n + 1) M v2 v1 = (v2, M) := by rw [xg_44_31]; first | (simp only [if_neg h3, if_pos h4]; done) | rfl
        rw [e] at hk
        exact ro_w_lv (ro_sub_c rfl (ro_sub_c rfl (ro_sub_c rfl (ro_sub_n rfl)))) hk
      · have hp := hp.2 h4
        refine rs_aload_n ri_44_45 rfl rfl ?_
        refine rs_gf (v := .ref 19) ri_44_46 rfl (by decide) (ro_kf (kd_16 hL)) rfl (rf_16_2 hL) ?_
        refine rs_iload_n ri_44_49 rfl rfl ?_
        refine rs_aload_n ri_44_50 rfl rfl ?_
        refine rs_gf (v := .ref 18) ri_44_51 rfl (by decide) (ro_kf (kd_16 hL)) rfl (rf_16_1 hL) ?_
        refine rs_iload_n ri_44_54 rfl rfl ?_
        obtain ⟨q4, hp⟩ := hp
        refine rs_iald (v := (M.2.1 18 (v2.toNatClampNeg))) ri_44_55 rfl (by decide) (kd_18 hL) q4 rfl ?_
        obtain ⟨q5, hp⟩ := hp
        refine rs_iast (j := v2.toNatClampNeg) ri_44_56 rfl (by decide) (kd_19 hL) q5 rfl ?_
        refine rs_iinc (v := (v2 + (1 : Int32))) (lv2 := [(2, .int (v2 + (1 : Int32))), (1, .int v1), (0, .ref 16)]) ri_44_57 rfl rfl rfl rm_44.1 (by decide) rfl ?_
        refine rs_goto (t := 31) ri_44_60 rfl ?_
        have e : xg_44_31 (n + 1) M v2 v1 = xg_44_31 n (ro_sI M 19 (v2.toNatClampNeg) (M.2.1 18 (v2.toNatClampNeg))) (v2 + (1 : Int32)) v1 := by rw [xg_44_31]; first | (simp only [if_neg h3, if_neg h4]; done) | rfl
        rw [e] at hk
        exact ro_w_lv (ro_sub_c rfl (ro_sub_c rfl (ro_sub_c rfl (ro_sub_n rfl)))) (ih hL  hp hk)
theorem xl_44_31 : ∀ (n : Nat) {M : ro_Mm} {v2 : Int32} {v1 : Int32} (hL : ro_lay M) (hp : xq_44_31 n M v2 v1), ro_lay (xg_44_31 n M v2 v1).2 := by
  intro n
  induction n with
  | zero => intro M v2 v1 hL hp; exact False.elim hp
  | succ n ih =>
    intro M v2 v1 hL hp
    rw [xq_44_31] at hp
    rw [xg_44_31]
    by_cases hz : (M.2.1 16 7) ≤ v2
    · have hp := hp.1 hz
      rw [if_pos hz]
      exact hL
    · have hp := hp.2 hz
      rw [if_neg hz]
      by_cases hz : (121 : Int32) ≤ v2
      · have hp := hp.1 hz
        rw [if_pos hz]
        exact hL
      · have hp := hp.2 hz
        rw [if_neg hz]
        obtain ⟨q4, hp⟩ := hp
        obtain ⟨q5, hp⟩ := hp
        exact ih hL  hp
/-- RefusedOnce$Law.read()I -/
noncomputable def xf_44 (M : ro_Mm) : Int32 := (if (xf_45 (ro_sI (ro_sI M 16 6 (0 : Int32)) 16 7 (0 : Int32))) then (-1 : Int32) else ((xm_45 (ro_sI (ro_sI M 16 6 (0 : Int32)) 16 7 (0 : Int32))).2.1 16 6))
noncomputable def xm_44 (M : ro_Mm) : ro_Mm := (if (xf_45 (ro_sI (ro_sI M 16 6 (0 : Int32)) 16 7 (0 : Int32))) then (ro_sI (xg_44_31 lp_N (ro_sI (xm_45 (ro_sI (ro_sI M 16 6 (0 : Int32)) 16 7 (0 : Int32))) 16 5 (0 : Int32)) (0 : Int32) (ro_b (xf_45 (ro_sI (ro_sI M 16 6 (0 : Int32)) 16 7 (0 : Int32))))).2 16 8 ((xg_44_31 lp_N (ro_sI (xm_45 (ro_sI (ro_sI M 16 6 (0 : Int32)) 16 7 (0 : Int32))) 16 5 (0 : Int32)) (0 : Int32) (ro_b (xf_45 (ro_sI (ro_sI M 16 6 (0 : Int32)) 16 7 (0 : Int32))))).2.2.1 16 7)) else (ro_sI (xm_45 (ro_sI (ro_sI M 16 6 (0 : Int32)) 16 7 (0 : Int32))) 16 5 (0 : Int32)))
def xp_44 (M : ro_Mm) : Prop := (xp_45 (ro_sI (ro_sI M 16 6 (0 : Int32)) 16 7 (0 : Int32)) ∧ (((xf_45 (ro_sI (ro_sI M 16 6 (0 : Int32)) 16 7 (0 : Int32))) → (xq_44_31 lp_N (ro_sI (xm_45 (ro_sI (ro_sI M 16 6 (0 : Int32)) 16 7 (0 : Int32))) 16 5 (0 : Int32)) (0 : Int32) (ro_b (xf_45 (ro_sI (ro_sI M 16 6 (0 : Int32)) 16 7 (0 : Int32)))) ∧ True)) ∧ (¬ ((xf_45 (ro_sI (ro_sI M 16 6 (0 : Int32)) 16 7 (0 : Int32)))) → True)))
theorem xs_44 {X : ro_Sx} {M : ro_Mm} (hL : ro_lay M) (hp : xp_44 M) : ro_cwp X 402 44 [.ref 16] M (fun v M2 => v = some (.int (xf_44 M)) ∧ M2 = xm_44 M) := by
  refine rs_begin (lv0 := [(0, .ref 16)]) (by decide) rfl (by rw [rm_44.1]; exact Nat.le_of_ble_eq_true rfl) rfl ?_
  unfold xp_44 at hp
  refine rs_aload_n ri_44_0 rfl rfl ?_
  refine rs_iconst (v := (0 : Int32)) ri_44_1 rfl (by decide) ?_
  refine rs_pf (M2 := (ro_sI M 16 6 (0 : Int32))) ri_44_2 rfl (by decide) (ro_kf (kd_16 hL)) (fun h => absurd h (by decide)) (fun f h => h) ?_
  refine rs_aload_n ri_44_5 rfl rfl ?_
  refine rs_iconst (v := (0 : Int32)) ri_44_6 rfl (by decide) ?_
  refine rs_pf (M2 := (ro_sI (ro_sI M 16 6 (0 : Int32)) 16 7 (0 : Int32))) ri_44_7 rfl (by decide) (ro_kf (kd_16 hL)) (fun h => absurd h (by decide)) (fun f h => h) ?_
  refine rs_aload_n ri_44_10 rfl rfl ?_
  obtain ⟨q0, hp⟩ := hp
  refine rs_virt (As := []) (r := []) ri_44_11 rfl (by decide) rm_45.2.2.2 rm_45.2.2.1 rfl rfl rfl (by decide) (ro_kf (kd_16 hL)) (Nat.le_of_ble_eq_true rfl) (by decide) (by decide) (xs_45 (X := X) hL q0) ?_
  rintro _ _ ⟨e1, e2⟩
  rw [e1, e2]
  show ro_w X _ 44 _ 14 [(0, .ref 16)] [.int (ro_b (xf_45 (ro_sI (ro_sI M 16 6 (0 : Int32)) 16 7 (0 : Int32))))] (xm_45 (ro_sI (ro_sI M 16 6 (0 : Int32)) 16 7 (0 : Int32))) (0, 0)
  refine rs_istore_n (lv2 := [(1, .int (ro_b (xf_45 (ro_sI (ro_sI M 16 6 (0 : Int32)) 16 7 (0 : Int32))))), (0, .ref 16)]) ri_44_14 rfl rm_44.1 (by decide) rfl ?_
  refine rs_aload_n ri_44_15 rfl rfl ?_
  refine rs_iconst (v := (0 : Int32)) ri_44_16 rfl (by decide) ?_
  refine rs_pf (M2 := (ro_sI (xm_45 (ro_sI (ro_sI M 16 6 (0 : Int32)) 16 7 (0 : Int32))) 16 5 (0 : Int32))) ri_44_17 rfl (by decide) (ro_kf (kd_16 (xl_45 hL q0))) (fun h => absurd h (by decide)) (fun f h => h) ?_
  refine rs_iload_n ri_44_20 rfl rfl ?_
  refine rs_ifne_c (t := 29) ri_44_21 rfl rfl (fun h2 => ?_) (fun h2 => ?_)
  · have hp := hp.1 h2
    refine rs_iconst (v := (0 : Int32)) ri_44_29 rfl (by decide) ?_
    refine rs_istore_n (lv2 := [(2, .int (0 : Int32)), (1, .int (ro_b (xf_45 (ro_sI (ro_sI M 16 6 (0 : Int32)) 16 7 (0 : Int32))))), (0, .ref 16)]) ri_44_30 rfl rm_44.1 (by decide) rfl ?_
    obtain ⟨q6, hp⟩ := hp
    refine xt_44_31 lp_N (xl_45 hL q0) q6 ?_
    refine rs_aload_n ri_44_63 rfl rfl ?_
    refine rs_aload_n ri_44_64 rfl rfl ?_
    refine rs_gf (v := .int ((xg_44_31 lp_N (ro_sI (xm_45 (ro_sI (ro_sI M 16 6 (0 : Int32)) 16 7 (0 : Int32))) 16 5 (0 : Int32)) (0 : Int32) (ro_b (xf_45 (ro_sI (ro_sI M 16 6 (0 : Int32)) 16 7 (0 : Int32))))).2.2.1 16 7)) ri_44_65 rfl (by decide) (ro_kf (kd_16 (xl_44_31 lp_N (xl_45 hL q0) q6))) rfl rfl ?_
    refine rs_pf (M2 := (ro_sI (xg_44_31 lp_N (ro_sI (xm_45 (ro_sI (ro_sI M 16 6 (0 : Int32)) 16 7 (0 : Int32))) 16 5 (0 : Int32)) (0 : Int32) (ro_b (xf_45 (ro_sI (ro_sI M 16 6 (0 : Int32)) 16 7 (0 : Int32))))).2 16 8 ((xg_44_31 lp_N (ro_sI (xm_45 (ro_sI (ro_sI M 16 6 (0 : Int32)) 16 7 (0 : Int32))) 16 5 (0 : Int32)) (0 : Int32) (ro_b (xf_45 (ro_sI (ro_sI M 16 6 (0 : Int32)) 16 7 (0 : Int32))))).2.2.1 16 7))) ri_44_68 rfl (by decide) (ro_kf (kd_16 (xl_44_31 lp_N (xl_45 hL q0) q6))) (fun h => absurd h (by decide)) (fun f h => h) ?_
    refine rs_iconst (v := (-1 : Int32)) ri_44_71 rfl (by decide) ?_
    refine rs_iret ri_44_72 rm_44.2.1 (by decide) ?_
    exact ⟨by unfold xf_44; first | (simp only [if_pos h2]; done) | rfl, by unfold xm_44; first | (simp only [if_pos h2]; done) | rfl⟩
  · have hp := hp.2 h2
    refine rs_aload_n ri_44_24 rfl rfl ?_
    refine rs_gf (v := .int ((xm_45 (ro_sI (ro_sI M 16 6 (0 : Int32)) 16 7 (0 : Int32))).2.1 16 6)) ri_44_25 rfl (by decide) (ro_kf (kd_16 (xl_45 hL q0))) rfl rfl ?_
    refine rs_iret ri_44_28 rm_44.2.1 (by decide) ?_
    exact ⟨by unfold xf_44; first | (simp only [if_neg h2]; done) | rfl, by unfold xm_44; first | (simp only [if_neg h2]; done) | rfl⟩
theorem xl_44 {M : ro_Mm} (hL : ro_lay M) (hp : xp_44 M) : ro_lay (xm_44 M) := by
  unfold xp_44 at hp
  unfold xm_44
  obtain ⟨q0, hp⟩ := hp
  by_cases hz : (xf_45 (ro_sI (ro_sI M 16 6 (0 : Int32)) 16 7 (0 : Int32)))
  · have hp := hp.1 hz
    rw [if_pos hz]
    obtain ⟨q6, hp⟩ := hp
    exact (xl_44_31 lp_N (xl_45 hL q0) q6)
  · have hp := hp.2 hz
    rw [if_neg hz]
    exact (xl_45 hL q0)
/-- RefusedOnce.law()I -/
noncomputable def xf_43 (M : ro_Mm) : Int32 := (if (0 : Int32) ≤ (xf_44 M) then ((-100 : Int32) - (xf_44 M)) else (1 : Int32))
noncomputable def xm_43 (M : ro_Mm) : ro_Mm := (xm_44 M)
def xp_43 (M : ro_Mm) : Prop := (xp_44 M ∧ True)
theorem xs_43 {X : ro_Sx} {M : ro_Mm} (hL : ro_lay M) (hp : xp_43 M) : ro_cwp X 403 43 [.ref 4] M (fun v M2 => v = some (.int (xf_43 M)) ∧ M2 = xm_43 M) := by
  refine rs_begin (lv0 := [(0, .ref 4)]) (by decide) rfl (by rw [rm_43.1]; exact Nat.le_of_ble_eq_true rfl) rfl ?_
  unfold xp_43 at hp
  refine rs_aload_n ri_43_0 rfl rfl ?_
  refine rs_gf (v := .ref 16) ri_43_1 rfl (by decide) (ro_kf (kd_4 hL)) rfl (rf_4_1 hL) ?_
  obtain ⟨q0, hp⟩ := hp
  refine rs_virt (As := []) (r := []) ri_43_4 rfl (by decide) rm_44.2.2.2 rm_44.2.2.1 rfl rfl rfl (by decide) (ro_kf (kd_16 hL)) (Nat.le_of_ble_eq_true rfl) (by decide) (by decide) (xs_44 (X := X) hL q0) ?_
  rintro _ _ ⟨e1, e2⟩
  rw [e1, e2]
  show ro_w X _ 43 _ 7 [(0, .ref 4)] [.int (xf_44 M)] (xm_44 M) (0, 0)
  refine rs_istore_n (lv2 := [(1, .int (xf_44 M)), (0, .ref 4)]) ri_43_7 rfl rm_43.1 (by decide) rfl ?_
  refine rs_iload_n ri_43_8 rfl rfl ?_
  refine rs_if_ge (t := 16) ri_43_9 rfl rfl (fun h2 => ?_) (fun h2 => ?_)
  · skip
    refine rs_bipush (v := (-100 : Int32)) ri_43_16 rfl (by decide) ?_
    refine rs_iload_n ri_43_18 rfl rfl ?_
    refine rs_isub (r := ((-100 : Int32) - (xf_44 M))) ri_43_19 rfl rfl ?_
    refine rs_iret ri_43_20 rm_43.2.1 (by decide) ?_
    exact ⟨by unfold xf_43; first | (simp only [if_pos h2]; done) | rfl, by unfold xm_43; first | (simp only [if_pos h2]; done) | rfl⟩
  · skip
    refine rs_iconst (v := (1 : Int32)) ri_43_12 rfl (by decide) ?_
    refine rs_goto (t := 20) ri_43_13 rfl ?_
    refine rs_iret ri_43_20 rm_43.2.1 (by decide) ?_
    exact ⟨by unfold xf_43; first | (simp only [if_neg h2]; done) | rfl, by unfold xm_43; first | (simp only [if_neg h2]; done) | rfl⟩
theorem xl_43 {M : ro_Mm} (hL : ro_lay M) (hp : xp_43 M) : ro_lay (xm_43 M) := by
  unfold xp_43 at hp
  unfold xm_43
  obtain ⟨q0, hp⟩ := hp
  by_cases hz : (0 : Int32) ≤ (xf_44 M)
  · skip
    exact (xl_44 hL q0)
  · skip
    exact (xl_44 hL q0)

