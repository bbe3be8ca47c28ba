/-! methods with loops, by program (wip/whole/walk2.py, mk28.py 0 24) -/
/-- how often a loop may go round, at most -/
theorem lp_ex : ∃ n : Nat, n = 100000 := ⟨_, rfl⟩
noncomputable def lp_N : Nat := Classical.choose lp_ex
theorem lp_N_eq : lp_N = 100000 := Classical.choose_spec lp_ex
/-- a loop of RefusedOnce$Purses.copyFirst(LRefusedOnce$Purses;I)V -/
noncomputable def xg_68_2 : Nat → ro_Mm → Int32 → Nat → Nat → Int32 → Int32 × ro_Mm
  | 0, M, v3, c0, c1, v2 => (v3, M)
  | n + 1, M, v3, c0, c1, v2 => (if v2 ≤ v3 then (v3, M) else (if (6 : Int32) ≤ v3 then (v3, M) else (xg_68_2 n (xm_17 (xm_16 M c0 v3 (xf_31 M c1 v3)) c0 v3 (xf_32 (xm_16 M c0 v3 (xf_31 M c1 v3)) c1 v3)) (v3 + (1 : Int32)) c0 c1 v2)))
def xq_68_2 : Nat → ro_Mm → Int32 → Nat → Nat → Int32 → Prop
  | 0, _, _, _, _, _ => False
  | n + 1, M, v3, c0, c1, v2 => ((v2 ≤ v3 → True) ∧ (¬ (v2 ≤ v3) → (((6 : Int32) ≤ v3 → True) ∧ (¬ ((6 : Int32) ≤ v3) → (xq_68_2 n (xm_17 (xm_16 M c0 v3 (xf_31 M c1 v3)) c0 v3 (xf_32 (xm_16 M c0 v3 (xf_31 M c1 v3)) c1 v3)) (v3 + (1 : Int32)) c0 c1 v2)))))
theorem xt_68_2 {X : ro_Sx} {post : ro_Po} : ∀ (n : Nat) {M : ro_Mm} {v3 : Int32} {c0 : Nat} {c1 : Nat} {v2 : Int32} (hL : ro_lay M) (hc0 : ro_ip c0) (hc1 : ro_ip c1) (hp : xq_68_2 n M v3 c0 c1 v2) (hk : ro_w X 1 68 post 39 [(3, .int (xg_68_2 n M v3 c0 c1 v2).1), (0, .ref c0), (1, .ref c1), (2, .int v2)] [] (xg_68_2 n M v3 c0 c1 v2).2 (0, 0)), ro_w X 1 68 post 2 [(3, .int v3), (0, .ref c0), (1, .ref c1), (2, .int v2)] [] M (0, 0) := by
  intro n
  induction n with
  | zero => intro M v3 c0 c1 v2 hL hc0 hc1 hp hk; exact False.elim hp
  | succ n ih =>
    intro M v3 c0 c1 v2 hL hc0 hc1 hp hk
    rw [xq_68_2] at hp
    refine rs_iload_n ri_68_2 rfl rfl ?_
    refine rs_iload_n ri_68_3 rfl rfl ?_
    refine rs_icmp_ge (t := 39) ri_68_4 rfl rfl (fun h1 => ?_) (fun h1 => ?_)
    · skip
      have e : xg_68_2 (n + 1) M v3 c0 c1 v2 = (v3, M) := by rw [xg_68_2]; first | (simp only [if_pos h1]; done) | rfl
      rw [e] at hk
      exact ro_w_lv (ro_sub_c rfl (ro_sub_c rfl (ro_sub_c rfl (ro_sub_c rfl (ro_sub_n rfl))))) hk
    · have hp := hp.2 h1
      refine rs_iload_n ri_68_7 rfl rfl ?_
      refine rs_bipush (v := (6 : Int32)) ri_68_8 rfl (by decide) ?_
      refine rs_icmp_ge (t := 39) ri_68_10 rfl rfl (fun h2 => ?_) (fun h2 => ?_)
      · skip
        have e : xg_68_2 (n + 1) M v3 c0 c1 v2 = (v3, M) := by rw [xg_68_2]; first | (simp only [if_neg h1, if_pos h2]; done) | rfl
        rw [e] at hk
        exact ro_w_lv (ro_sub_c rfl (ro_sub_c rfl (ro_sub_c rfl (ro_sub_c rfl (ro_sub_n rfl))))) hk
      · have hp := hp.2 h2
        refine rs_aload_n ri_68_13 rfl rfl ?_
        refine rs_iload_n ri_68_14 rfl rfl ?_
        refine rs_aload_n ri_68_15 rfl rfl ?_
        refine rs_iload_n ri_68_16 rfl rfl ?_
        refine rs_virt (As := [.int v3]) (r := [.int v3, .ref c0]) ri_68_17 rfl (by decide) rm_31.2.2.2 rm_31.2.2.1 rfl rfl rfl (ro_ip4 hc1) (ro_kf (ip_kd hL hc1)) (Nat.le_of_ble_eq_true rfl) (by decide) (by decide) (xs_31 (X := X) hL hc1) ?_
        rintro _ _ ⟨e1, e2⟩
        rw [e1, e2]
        show ro_w X _ 68 _ 20 [(3, .int v3), (0, .ref c0), (1, .ref c1), (2, .int v2)] [.int (xf_31 M c1 v3), .int v3, .ref c0] M (0, 0)
        refine rs_virt (As := [.int v3, .int (xf_31 M c1 v3)]) (r := []) ri_68_20 rfl (by decide) rm_16.2.2.2 rm_16.2.2.1 rfl rfl rfl (ro_ip4 hc0) (ro_kf (ip_kd hL hc0)) (Nat.le_of_ble_eq_true rfl) (by decide) (by decide) (xs_16 (X := X) hL hc0) ?_
        rintro _ _ ⟨e1, e2⟩
        rw [e1, e2]
        show ro_w X _ 68 _ 23 [(3, .int v3), (0, .ref c0), (1, .ref c1), (2, .int v2)] [] (xm_16 M c0 v3 (xf_31 M c1 v3)) (0, 0)
        refine rs_aload_n ri_68_23 rfl rfl ?_
        refine rs_iload_n ri_68_24 rfl rfl ?_
        refine rs_aload_n ri_68_25 rfl rfl ?_
        refine rs_iload_n ri_68_26 rfl rfl ?_
        refine rs_virt (As := [.int v3]) (r := [.int v3, .ref c0]) ri_68_27 rfl (by decide) rm_32.2.2.2 rm_32.2.2.1 rfl rfl rfl (ro_ip4 hc1) (ro_kf (ip_kd (xl_16 hL hc0) hc1)) (Nat.le_of_ble_eq_true rfl) (by decide) (by decide) (xs_32 (X := X) (xl_16 hL hc0) hc1) ?_
        rintro _ _ ⟨e1, e2⟩
        rw [e1, e2]
        show ro_w X _ 68 _ 30 [(3, .int v3), (0, .ref c0), (1, .ref c1), (2, .int v2)] [.int (xf_32 (xm_16 M c0 v3 (xf_31 M c1 v3)) c1 v3), .int v3, .ref c0] (xm_16 M c0 v3 (xf_31 M c1 v3)) (0, 0)
        refine rs_virt (As := [.int v3, .int (xf_32 (xm_16 M c0 v3 (xf_31 M c1 v3)) c1 v3)]) (r := []) ri_68_30 rfl (by decide) rm_17.2.2.2 rm_17.2.2.1 rfl rfl rfl (ro_ip4 hc0) (ro_kf (ip_kd (xl_16 hL hc0) hc0)) (Nat.le_of_ble_eq_true rfl) (by decide) (by decide) (xs_17 (X := X) (xl_16 hL hc0) hc0) ?_
        rintro _ _ ⟨e1, e2⟩
        rw [e1, e2]
        show ro_w X _ 68 _ 33 [(3, .int v3), (0, .ref c0), (1, .ref c1), (2, .int v2)] [] (xm_17 (xm_16 M c0 v3 (xf_31 M c1 v3)) c0 v3 (xf_32 (xm_16 M c0 v3 (xf_31 M c1 v3)) c1 v3)) (0, 0)
        refine rs_iinc (v := (v3 + (1 : Int32))) (lv2 := [(3, .int (v3 + (1 : Int32))), (0, .ref c0), (1, .ref c1), (2, .int v2)]) ri_68_33 rfl rfl rfl rm_68.1 (by decide) rfl ?_
        refine rs_goto (t := 2) ri_68_36 rfl ?_
        have e : xg_68_2 (n + 1) M v3 c0 c1 v2 = xg_68_2 n (xm_17 (xm_16 M c0 v3 (xf_31 M c1 v3)) c0 v3 (xf_32 (xm_16 M c0 v3 (xf_31 M c1 v3)) c1 v3)) (v3 + (1 : Int32)) c0 c1 v2 := by rw [xg_68_2]; first | (simp only [if_neg h1, if_neg h2]; done) | rfl
        rw [e] at hk
        exact ro_w_lv (ro_sub_c rfl (ro_sub_c rfl (ro_sub_c rfl (ro_sub_c rfl (ro_sub_n rfl))))) (ih (xl_17 (xl_16 hL hc0) hc0) hc0 hc1 hp hk)
theorem xl_68_2 : ∀ (n : Nat) {M : ro_Mm} {v3 : Int32} {c0 : Nat} {c1 : Nat} {v2 : Int32} (hL : ro_lay M) (hc0 : ro_ip c0) (hc1 : ro_ip c1) (hp : xq_68_2 n M v3 c0 c1 v2), ro_lay (xg_68_2 n M v3 c0 c1 v2).2 := by
  intro n
  induction n with
  | zero => intro M v3 c0 c1 v2 hL hc0 hc1 hp; exact False.elim hp
  | succ n ih =>
    intro M v3 c0 c1 v2 hL hc0 hc1 hp
    rw [xq_68_2] at hp
    rw [xg_68_2]
    by_cases hz : v2 ≤ v3
    · have hp := hp.1 hz
      rw [if_pos hz]
      exact hL
    · have hp := hp.2 hz
      rw [if_neg hz]
      by_cases hz : (6 : Int32) ≤ v3
      · have hp := hp.1 hz
        rw [if_pos hz]
        exact hL
      · have hp := hp.2 hz
        rw [if_neg hz]
        exact ih (xl_17 (xl_16 hL hc0) hc0) hc0 hc1 hp
theorem xwI_68_2 : ∀ {n : Nat} {M : ro_Mm} {v3 : Int32} {c0 : Nat} {c1 : Nat} {v2 : Int32} {c j : Nat} (n0 : c ≠ (c0 + 1)) (n1 : c ≠ (c0 + 2)), (xg_68_2 n M v3 c0 c1 v2).2.2.1 c j = M.2.1 c j := by
  intro n
  induction n with
  | zero => intro M v3 c0 c1 v2 c j n0 n1; rfl
  | succ n ih =>
    intro M v3 c0 c1 v2 c j n0 n1
    rw [xg_68_2]
    by_cases hz : v2 ≤ v3
    · rw [if_pos hz]
      first | done | exact rfl
    · rw [if_neg hz]
      by_cases hz : (6 : Int32) ≤ v3
      · rw [if_pos hz]
        first | done | exact rfl
      · rw [if_neg hz]
        first | done | exact ((((ih n0 n1)).trans (xwI_17 n1)).trans (xwI_16 n0))
theorem xwJ_68_2 : ∀ {n : Nat} {M : ro_Mm} {v3 : Int32} {c0 : Nat} {c1 : Nat} {v2 : Int32} {c j : Nat}, (xg_68_2 n M v3 c0 c1 v2).2.2.2.1 c j = M.2.2.1 c j := by
  intro n
  induction n with
  | zero => intro M v3 c0 c1 v2 c j; rfl
  | succ n ih =>
    intro M v3 c0 c1 v2 c j
    rw [xg_68_2]
    by_cases hz : v2 ≤ v3
    · rw [if_pos hz]
      first | done | exact rfl
    · rw [if_neg hz]
      by_cases hz : (6 : Int32) ≤ v3
      · rw [if_pos hz]
        first | done | exact rfl
      · rw [if_neg hz]
        first | done | exact ((((ih)).trans (xwJ_17)).trans (xwJ_16))
/-- RefusedOnce$Purses.copyFirst(LRefusedOnce$Purses;I)V -/
noncomputable def xm_68 (M : ro_Mm) (c0 : Nat) (c1 : Nat) (v2 : Int32) : ro_Mm := (xg_68_2 lp_N M (0 : Int32) c0 c1 v2).2
def xp_68 (M : ro_Mm) (c0 : Nat) (c1 : Nat) (v2 : Int32) : Prop := (xq_68_2 lp_N M (0 : Int32) c0 c1 v2 ∧ True)
theorem xs_68 {X : ro_Sx} {M : ro_Mm} {c0 : Nat} {c1 : Nat} {v2 : Int32} (hL : ro_lay M) (hc0 : ro_ip c0) (hc1 : ro_ip c1) (hp : xp_68 M c0 c1 v2) : ro_cwp X 2 68 [.ref c0, .ref c1, .int v2] M (fun v M2 => v = none ∧ M2 = xm_68 M c0 c1 v2) := by
  refine rs_begin (lv0 := [(0, .ref c0), (1, .ref c1), (2, .int v2)]) (by decide) rfl (by rw [rm_68.1]; exact Nat.le_of_ble_eq_true rfl) rfl ?_
  unfold xp_68 at hp
  refine rs_iconst (v := (0 : Int32)) ri_68_0 rfl (by decide) ?_
  refine rs_istore_n (lv2 := [(3, .int (0 : Int32)), (0, .ref c0), (1, .ref c1), (2, .int v2)]) ri_68_1 rfl rm_68.1 (by decide) rfl ?_
  obtain ⟨q2, hp⟩ := hp
  refine xt_68_2 lp_N hL hc0 hc1 q2 ?_
  refine rs_ret ri_68_39 rm_68.2.1 (by decide) ?_
  exact ⟨by rfl, by rfl⟩
theorem xl_68 {M : ro_Mm} {c0 : Nat} {c1 : Nat} {v2 : Int32} (hL : ro_lay M) (hc0 : ro_ip c0) (hc1 : ro_ip c1) (hp : xp_68 M c0 c1 v2) : ro_lay (xm_68 M c0 c1 v2) := by
  unfold xp_68 at hp
  unfold xm_68
  obtain ⟨q2, hp⟩ := hp
  exact (xl_68_2 lp_N hL hc0 hc1 q2)
theorem xwI_68 {M : ro_Mm} {c0 : Nat} {c1 : Nat} {v2 : Int32} {c j : Nat} (n0 : c ≠ (c0 + 1)) (n1 : c ≠ (c0 + 2)) : (xm_68 M c0 c1 v2).2.1 c j = M.2.1 c j := by
  unfold xm_68
  first | done | exact (xwI_68_2 n0 n1)
theorem xwJ_68 {M : ro_Mm} {c0 : Nat} {c1 : Nat} {v2 : Int32} {c j : Nat} : (xm_68 M c0 c1 v2).2.2.1 c j = M.2.2.1 c j := by
  unfold xm_68
  first | done | exact (xwJ_68_2)
/-- a loop of RefusedOnce$Chances.twelveBy(I)J -/
noncomputable def xg_99_4 : Nat → ro_Mm → Int32 → Int64 → Int32 → Int32 × Int64
  | 0, M, v3, v1, v0 => (v3, v1)
  | n + 1, M, v3, v1, v0 => (if v0 ≤ v3 then (v3, v1) else (if (8 : Int32) ≤ v3 then (v3, v1) else (xg_99_4 n M (v3 + (1 : Int32)) (v1 * (12 : Int64)) v0)))
def xq_99_4 : Nat → ro_Mm → Int32 → Int64 → Int32 → Prop
  | 0, _, _, _, _ => False
  | n + 1, M, v3, v1, v0 => ((v0 ≤ v3 → True) ∧ (¬ (v0 ≤ v3) → (((8 : Int32) ≤ v3 → True) ∧ (¬ ((8 : Int32) ≤ v3) → (xq_99_4 n M (v3 + (1 : Int32)) (v1 * (12 : Int64)) v0)))))
theorem xt_99_4 {X : ro_Sx} {post : ro_Po} : ∀ (n : Nat) {M : ro_Mm} {v3 : Int32} {v1 : Int64} {v0 : Int32} (hL : ro_lay M) (hp : xq_99_4 n M v3 v1 v0) (hk : ro_w X 0 99 post 27 [(3, .int (xg_99_4 n M v3 v1 v0).1), (1, .long (xg_99_4 n M v3 v1 v0).2), (0, .int v0)] [] M (0, 0)), ro_w X 0 99 post 4 [(3, .int v3), (1, .long v1), (0, .int v0)] [] M (0, 0) := by
  intro n
  induction n with
  | zero => intro M v3 v1 v0 hL hp hk; exact False.elim hp
  | succ n ih =>
    intro M v3 v1 v0 hL hp hk
    rw [xq_99_4] at hp
    refine rs_iload_n ri_99_4 rfl rfl ?_
    refine rs_iload_n ri_99_5 rfl rfl ?_
    refine rs_icmp_ge (t := 27) ri_99_6 rfl rfl (fun h1 => ?_) (fun h1 => ?_)
    · skip
      have e : xg_99_4 (n + 1) M v3 v1 v0 = (v3, v1) := by rw [xg_99_4]; first | (simp only [if_pos h1]; done) | rfl
      rw [e] at hk
      exact ro_w_lv (ro_sub_c rfl (ro_sub_c rfl (ro_sub_c rfl (ro_sub_n rfl)))) hk
    · have hp := hp.2 h1
      refine rs_iload_n ri_99_9 rfl rfl ?_
      refine rs_bipush (v := (8 : Int32)) ri_99_10 rfl (by decide) ?_
      refine rs_icmp_ge (t := 27) ri_99_12 rfl rfl (fun h2 => ?_) (fun h2 => ?_)
      · skip
        have e : xg_99_4 (n + 1) M v3 v1 v0 = (v3, v1) := by rw [xg_99_4]; first | (simp only [if_neg h1, if_pos h2]; done) | rfl
        rw [e] at hk
        exact ro_w_lv (ro_sub_c rfl (ro_sub_c rfl (ro_sub_c rfl (ro_sub_n rfl)))) hk
      · have hp := hp.2 h2
        refine rs_lload_n ri_99_15 rfl rfl ?_
        refine rs_ldc2 (v := (12 : Int64)) ri_99_16 rfl rfl rfl ?_
        refine rs_lmul (r := (v1 * (12 : Int64))) ri_99_19 rfl rfl ?_
        refine rs_lstore_n (lv2 := [(1, .long (v1 * (12 : Int64))), (3, .int v3), (0, .int v0)]) ri_99_20 rfl rm_99.1 (by decide) rfl ?_
        refine rs_iinc (v := (v3 + (1 : Int32))) (lv2 := [(3, .int (v3 + (1 : Int32))), (1, .long (v1 * (12 : Int64))), (0, .int v0)]) ri_99_21 rfl rfl rfl rm_99.1 (by decide) rfl ?_
        refine rs_goto (t := 4) ri_99_24 rfl ?_
        have e : xg_99_4 (n + 1) M v3 v1 v0 = xg_99_4 n M (v3 + (1 : Int32)) (v1 * (12 : Int64)) v0 := by rw [xg_99_4]; first | (simp only [if_neg h1, if_neg h2]; done) | rfl
        rw [e] at hk
        exact ro_w_lv (ro_sub_c rfl (ro_sub_c rfl (ro_sub_c rfl (ro_sub_n rfl)))) (ih hL  hp hk)
/-- RefusedOnce$Chances.twelveBy(I)J -/
noncomputable def xf_99 (M : ro_Mm) (v0 : Int32) : Int64 := (xg_99_4 lp_N M (0 : Int32) (1 : Int64) v0).2
def xp_99 (M : ro_Mm) (v0 : Int32) : Prop := (xq_99_4 lp_N M (0 : Int32) (1 : Int64) v0 ∧ True)
theorem xs_99 {X : ro_Sx} {M : ro_Mm} {v0 : Int32} (hL : ro_lay M) (hp : xp_99 M v0) : ro_cwp X 1 99 [.int v0] M (fun v M2 => v = some (.long (xf_99 M v0)) ∧ M2 = M) := by
  refine rs_begin (lv0 := [(0, .int v0)]) (by decide) rfl (by rw [rm_99.1]; exact Nat.le_of_ble_eq_true rfl) rfl ?_
  unfold xp_99 at hp
  refine rs_lconst (v := (1 : Int64)) ri_99_0 rfl rfl ?_
  refine rs_lstore_n (lv2 := [(1, .long (1 : Int64)), (0, .int v0)]) ri_99_1 rfl rm_99.1 (by decide) rfl ?_
  refine rs_iconst (v := (0 : Int32)) ri_99_2 rfl (by decide) ?_
  refine rs_istore_n (lv2 := [(3, .int (0 : Int32)), (1, .long (1 : Int64)), (0, .int v0)]) ri_99_3 rfl rm_99.1 (by decide) rfl ?_
  obtain ⟨q2, hp⟩ := hp
  refine xt_99_4 lp_N hL q2 ?_
  refine rs_lload_n ri_99_27 rfl rfl ?_
  refine rs_lret ri_99_28 rm_99.2.1 (by decide) ?_
  exact ⟨by rfl, by rfl⟩
/-- a loop of RefusedOnce$Chances.sharedBy(JJ)J -/
noncomputable def xg_101_3 : Nat → ro_Mm → Int32 → Int64 → Int64 → Int32 × Int64 × Int64
  | 0, M, v4, v0, v2 => (v4, v0, v2)
  | n + 1, M, v4, v0, v2 => (if (200 : Int32) ≤ v4 then (v4, v0, v2) else (if (lg_cmp v2 (0 : Int64)) = (0 : Int32) then (v4, v0, v2) else (xg_101_3 n M (v4 + (1 : Int32)) v2 (ro_lrem v0 v2))))
def xq_101_3 : Nat → ro_Mm → Int32 → Int64 → Int64 → Prop
  | 0, _, _, _, _ => False
  | n + 1, M, v4, v0, v2 => (((200 : Int32) ≤ v4 → True) ∧ (¬ ((200 : Int32) ≤ v4) → (((lg_cmp v2 (0 : Int64)) = (0 : Int32) → True) ∧ (¬ ((lg_cmp v2 (0 : Int64)) = (0 : Int32)) → (¬ v2 = 0 ∧ (xq_101_3 n M (v4 + (1 : Int32)) v2 (ro_lrem v0 v2)))))))
theorem xt_101_3 {X : ro_Sx} {post : ro_Po} : ∀ (n : Nat) {M : ro_Mm} {v4 : Int32} {v0 : Int64} {v2 : Int64} (hL : ro_lay M) (hp : xq_101_3 n M v4 v0 v2) (hk : ro_w X 0 101 post 33 [(4, .int (xg_101_3 n M v4 v0 v2).1), (0, .long (xg_101_3 n M v4 v0 v2).2.1), (2, .long (xg_101_3 n M v4 v0 v2).2.2)] [] M (0, 0)), ro_w X 0 101 post 3 [(4, .int v4), (0, .long v0), (2, .long v2)] [] M (0, 0) := by
  intro n
  induction n with
  | zero => intro M v4 v0 v2 hL hp hk; exact False.elim hp
  | succ n ih =>
    intro M v4 v0 v2 hL hp hk
    rw [xq_101_3] at hp
    refine rs_iload ri_101_3 rfl rfl ?_
    refine rs_sipush (v := (200 : Int32)) ri_101_5 rfl (by decide) ?_
    refine rs_icmp_ge (t := 33) ri_101_8 rfl rfl (fun h1 => ?_) (fun h1 => ?_)
    · skip
      have e : xg_101_3 (n + 1) M v4 v0 v2 = (v4, v0, v2) := by rw [xg_101_3]; first | (simp only [if_pos h1]; done) | rfl
      rw [e] at hk
      exact ro_w_lv (ro_sub_c rfl (ro_sub_c rfl (ro_sub_c rfl (ro_sub_n rfl)))) hk
    · have hp := hp.2 h1
      refine rs_lload_n ri_101_11 rfl rfl ?_
      refine rs_lconst (v := (0 : Int64)) ri_101_12 rfl rfl ?_
      refine rs_lcmp (r := (lg_cmp v2 (0 : Int64))) ri_101_13 rfl rfl ?_
      refine rs_if_eq (t := 33) ri_101_14 rfl rfl (fun h2 => ?_) (fun h2 => ?_)
      · skip
        have e : xg_101_3 (n + 1) M v4 v0 v2 = (v4, v0, v2) := by rw [xg_101_3]; first | (simp only [if_neg h1, if_pos h2]; done) | rfl
        rw [e] at hk
        exact ro_w_lv (ro_sub_c rfl (ro_sub_c rfl (ro_sub_c rfl (ro_sub_n rfl)))) hk
      · have hp := hp.2 h2
        refine rs_lload_n ri_101_17 rfl rfl ?_
        refine rs_lload_n ri_101_18 rfl rfl ?_
        obtain ⟨q2, hp⟩ := hp
        refine rs_lrem (r := (ro_lrem v0 v2)) ri_101_19 rfl q2 rfl ?_
        refine rs_lstore (lv2 := [(5, .long (ro_lrem v0 v2)), (4, .int v4), (0, .long v0), (2, .long v2)]) ri_101_20 rfl rm_101.1 (by decide) rfl ?_
        refine rs_lload_n ri_101_22 rfl rfl ?_
        refine rs_lstore_n (lv2 := [(0, .long v2), (5, .long (ro_lrem v0 v2)), (4, .int v4), (2, .long v2)]) ri_101_23 rfl rm_101.1 (by decide) rfl ?_
        refine rs_lload ri_101_24 rfl rfl ?_
        refine rs_lstore_n (lv2 := [(2, .long (ro_lrem v0 v2)), (0, .long v2), (5, .long (ro_lrem v0 v2)), (4, .int v4)]) ri_101_26 rfl rm_101.1 (by decide) rfl ?_
        refine rs_iinc (v := (v4 + (1 : Int32))) (lv2 := [(4, .int (v4 + (1 : Int32))), (2, .long (ro_lrem v0 v2)), (0, .long v2), (5, .long (ro_lrem v0 v2))]) ri_101_27 rfl rfl rfl rm_101.1 (by decide) rfl ?_
        refine rs_goto (t := 3) ri_101_30 rfl ?_
        have e : xg_101_3 (n + 1) M v4 v0 v2 = xg_101_3 n M (v4 + (1 : Int32)) v2 (ro_lrem v0 v2) := by rw [xg_101_3]; first | (simp only [if_neg h1, if_neg h2]; done) | rfl
        rw [e] at hk
        exact ro_w_lv (ro_sub_c rfl (ro_sub_c rfl (ro_sub_c rfl (ro_sub_n rfl)))) (ih hL  hp hk)
/-- RefusedOnce$Chances.sharedBy(JJ)J -/
noncomputable def xf_101 (M : ro_Mm) (v0 : Int64) (v2 : Int64) : Int64 := (xg_101_3 lp_N M (0 : Int32) v0 v2).2.1
def xp_101 (M : ro_Mm) (v0 : Int64) (v2 : Int64) : Prop := (xq_101_3 lp_N M (0 : Int32) v0 v2 ∧ True)
theorem xs_101 {X : ro_Sx} {M : ro_Mm} {v0 : Int64} {v2 : Int64} (hL : ro_lay M) (hp : xp_101 M v0 v2) : ro_cwp X 1 101 [.long v0, .long v2] M (fun v M2 => v = some (.long (xf_101 M v0 v2)) ∧ M2 = M) := by
  refine rs_begin (lv0 := [(0, .long v0), (2, .long v2)]) (by decide) rfl (by rw [rm_101.1]; exact Nat.le_of_ble_eq_true rfl) rfl ?_
  unfold xp_101 at hp
  refine rs_iconst (v := (0 : Int32)) ri_101_0 rfl (by decide) ?_
  refine rs_istore (lv2 := [(4, .int (0 : Int32)), (0, .long v0), (2, .long v2)]) ri_101_1 rfl rm_101.1 (by decide) rfl ?_
  obtain ⟨q3, hp⟩ := hp
  refine xt_101_3 lp_N hL q3 ?_
  refine rs_lload_n ri_101_33 rfl rfl ?_
  refine rs_lret ri_101_34 rm_101.2.1 (by decide) ?_
  exact ⟨by rfl, by rfl⟩
/-- a loop of RefusedOnce$Chances.choices(II)J -/
noncomputable def xg_113_16 : Nat → ro_Mm → Int32 → Int64 → Int32 → Int32 → Int32 × Int64
  | 0, M, v4, v2, v0, v1 => (v4, v2)
  | n + 1, M, v4, v2, v0, v1 => (if v1 ≤ v4 then (v4, v2) else (if (20 : Int32) ≤ v4 then (v4, v2) else (xg_113_16 n M (v4 + (1 : Int32)) ((v2 * ((v0 - v4).toInt64)) / ((v4 + (1 : Int32)).toInt64)) v0 v1)))
def xq_113_16 : Nat → ro_Mm → Int32 → Int64 → Int32 → Int32 → Prop
  | 0, _, _, _, _, _ => False
  | n + 1, M, v4, v2, v0, v1 => ((v1 ≤ v4 → True) ∧ (¬ (v1 ≤ v4) → (((20 : Int32) ≤ v4 → True) ∧ (¬ ((20 : Int32) ≤ v4) → (¬ ((v4 + (1 : Int32)).toInt64) = 0 ∧ (xq_113_16 n M (v4 + (1 : Int32)) ((v2 * ((v0 - v4).toInt64)) / ((v4 + (1 : Int32)).toInt64)) v0 v1))))))
theorem xt_113_16 {X : ro_Sx} {post : ro_Po} : ∀ (n : Nat) {M : ro_Mm} {v4 : Int32} {v2 : Int64} {v0 : Int32} {v1 : Int32} (hL : ro_lay M) (hp : xq_113_16 n M v4 v2 v0 v1) (hk : ro_w X 0 113 post 49 [(4, .int (xg_113_16 n M v4 v2 v0 v1).1), (2, .long (xg_113_16 n M v4 v2 v0 v1).2), (0, .int v0), (1, .int v1)] [] M (0, 0)), ro_w X 0 113 post 16 [(4, .int v4), (2, .long v2), (0, .int v0), (1, .int v1)] [] M (0, 0) := by
  intro n
  induction n with
  | zero => intro M v4 v2 v0 v1 hL hp hk; exact False.elim hp
  | succ n ih =>
    intro M v4 v2 v0 v1 hL hp hk
    rw [xq_113_16] at hp
    refine rs_iload ri_113_16 rfl rfl ?_
    refine rs_iload_n ri_113_18 rfl rfl ?_
    refine rs_icmp_ge (t := 49) ri_113_19 rfl rfl (fun h3 => ?_) (fun h3 => ?_)
    · skip
      have e : xg_113_16 (n + 1) M v4 v2 v0 v1 = (v4, v2) := by rw [xg_113_16]; first | (simp only [if_pos h3]; done) | rfl
      rw [e] at hk
      exact ro_w_lv (ro_sub_c rfl (ro_sub_c rfl (ro_sub_c rfl (ro_sub_c rfl (ro_sub_n rfl))))) hk
    · have hp := hp.2 h3
      refine rs_iload ri_113_22 rfl rfl ?_
      refine rs_bipush (v := (20 : Int32)) ri_113_24 rfl (by decide) ?_
      refine rs_icmp_ge (t := 49) ri_113_26 rfl rfl (fun h4 => ?_) (fun h4 => ?_)
      · skip
        have e : xg_113_16 (n + 1) M v4 v2 v0 v1 = (v4, v2) := by rw [xg_113_16]; first | (simp only [if_neg h3, if_pos h4]; done) | rfl
        rw [e] at hk
        exact ro_w_lv (ro_sub_c rfl (ro_sub_c rfl (ro_sub_c rfl (ro_sub_c rfl (ro_sub_n rfl))))) hk
      · have hp := hp.2 h4
        refine rs_lload_n ri_113_29 rfl rfl ?_
        refine rs_iload_n ri_113_30 rfl rfl ?_
        refine rs_iload ri_113_31 rfl rfl ?_
        refine rs_isub (r := (v0 - v4)) ri_113_33 rfl rfl ?_
        refine rs_i2l (r := ((v0 - v4).toInt64)) ri_113_34 rfl rfl ?_
        refine rs_lmul (r := (v2 * ((v0 - v4).toInt64))) ri_113_35 rfl rfl ?_
        refine rs_iload ri_113_36 rfl rfl ?_
        refine rs_iconst (v := (1 : Int32)) ri_113_38 rfl (by decide) ?_
        refine rs_iadd (r := (v4 + (1 : Int32))) ri_113_39 rfl rfl ?_
        refine rs_i2l (r := ((v4 + (1 : Int32)).toInt64)) ri_113_40 rfl rfl ?_
        obtain ⟨q4, hp⟩ := hp
        refine rs_ldiv (r := ((v2 * ((v0 - v4).toInt64)) / ((v4 + (1 : Int32)).toInt64))) ri_113_41 rfl q4 rfl ?_
        refine rs_lstore_n (lv2 := [(2, .long ((v2 * ((v0 - v4).toInt64)) / ((v4 + (1 : Int32)).toInt64))), (4, .int v4), (0, .int v0), (1, .int v1)]) ri_113_42 rfl rm_113.1 (by decide) rfl ?_
        refine rs_iinc (v := (v4 + (1 : Int32))) (lv2 := [(4, .int (v4 + (1 : Int32))), (2, .long ((v2 * ((v0 - v4).toInt64)) / ((v4 + (1 : Int32)).toInt64))), (0, .int v0), (1, .int v1)]) ri_113_43 rfl rfl rfl rm_113.1 (by decide) rfl ?_
        refine rs_goto (t := 16) ri_113_46 rfl ?_
        have e : xg_113_16 (n + 1) M v4 v2 v0 v1 = xg_113_16 n M (v4 + (1 : Int32)) ((v2 * ((v0 - v4).toInt64)) / ((v4 + (1 : Int32)).toInt64)) v0 v1 := by rw [xg_113_16]; first | (simp only [if_neg h3, if_neg h4]; done) | rfl
        rw [e] at hk
        exact ro_w_lv (ro_sub_c rfl (ro_sub_c rfl (ro_sub_c rfl (ro_sub_c rfl (ro_sub_n rfl))))) (ih hL  hp hk)
/-- RefusedOnce$Chances.choices(II)J -/
noncomputable def xf_113 (M : ro_Mm) (v0 : Int32) (v1 : Int32) : Int64 := (if v1 < (0 : Int32) then (0 : Int64) else (if v1 ≤ v0 then (xg_113_16 lp_N M (0 : Int32) (1 : Int64) v0 v1).2 else (0 : Int64)))
def xp_113 (M : ro_Mm) (v0 : Int32) (v1 : Int32) : Prop := ((v1 < (0 : Int32) → True) ∧ (¬ (v1 < (0 : Int32)) → ((v1 ≤ v0 → (xq_113_16 lp_N M (0 : Int32) (1 : Int64) v0 v1 ∧ True)) ∧ (¬ (v1 ≤ v0) → True))))
theorem xs_113 {X : ro_Sx} {M : ro_Mm} {v0 : Int32} {v1 : Int32} (hL : ro_lay M) (hp : xp_113 M v0 v1) : ro_cwp X 1 113 [.int v0, .int v1] M (fun v M2 => v = some (.long (xf_113 M v0 v1)) ∧ M2 = M) := by
  refine rs_begin (lv0 := [(0, .int v0), (1, .int v1)]) (by decide) rfl (by rw [rm_113.1]; exact Nat.le_of_ble_eq_true rfl) rfl ?_
  unfold xp_113 at hp
  refine rs_iload_n ri_113_0 rfl rfl ?_
  refine rs_if_lt (t := 9) ri_113_1 rfl rfl (fun h1 => ?_) (fun h1 => ?_)
  · have hp := hp.1 h1
    refine rs_lconst (v := (0 : Int64)) ri_113_9 rfl rfl ?_
    refine rs_lret ri_113_10 rm_113.2.1 (by decide) ?_
    exact ⟨by unfold xf_113; first | (simp only [if_pos h1]; done) | rfl, by rfl⟩
  · have hp := hp.2 h1
    refine rs_iload_n ri_113_4 rfl rfl ?_
    refine rs_iload_n ri_113_5 rfl rfl ?_
    refine rs_icmp_le (t := 11) ri_113_6 rfl rfl (fun h2 => ?_) (fun h2 => ?_)
    · have hp := hp.1 h2
      refine rs_lconst (v := (1 : Int64)) ri_113_11 rfl rfl ?_
      refine rs_lstore_n (lv2 := [(2, .long (1 : Int64)), (0, .int v0), (1, .int v1)]) ri_113_12 rfl rm_113.1 (by decide) rfl ?_
      refine rs_iconst (v := (0 : Int32)) ri_113_13 rfl (by decide) ?_
      refine rs_istore (lv2 := [(4, .int (0 : Int32)), (2, .long (1 : Int64)), (0, .int v0), (1, .int v1)]) ri_113_14 rfl rm_113.1 (by decide) rfl ?_
      obtain ⟨q5, hp⟩ := hp
      refine xt_113_16 lp_N hL q5 ?_
      refine rs_lload_n ri_113_49 rfl rfl ?_
      refine rs_lret ri_113_50 rm_113.2.1 (by decide) ?_
      exact ⟨by unfold xf_113; first | (simp only [if_neg h1, if_pos h2]; done) | rfl, by rfl⟩
    · have hp := hp.2 h2
      refine rs_lconst (v := (0 : Int64)) ri_113_9 rfl rfl ?_
      refine rs_lret ri_113_10 rm_113.2.1 (by decide) ?_
      exact ⟨by unfold xf_113; first | (simp only [if_neg h1, if_neg h2]; done) | rfl, by rfl⟩
/-- a loop of RefusedOnce$Land.richestBy(I)I -/
noncomputable def xg_118_4 : Nat → ro_Mm → Int32 → Int32 → Int32 → Int32 × Int32
  | 0, M, v3, v2, v1 => (v3, v2)
  | n + 1, M, v3, v2, v1 => (if (M.2.1 5 4) ≤ v3 then (v3, v2) else (if (xf_38 M 6 v3 v1) ≤ (xf_38 M 6 v2 v1) then (xg_118_4 n M (v3 + (1 : Int32)) v2 v1) else (xg_118_4 n M (v3 + (1 : Int32)) v3 v1)))
def xq_118_4 : Nat → ro_Mm → Int32 → Int32 → Int32 → Prop
  | 0, _, _, _, _ => False
  | n + 1, M, v3, v2, v1 => (((M.2.1 5 4) ≤ v3 → True) ∧ (¬ ((M.2.1 5 4) ≤ v3) → (((xf_38 M 6 v3 v1) ≤ (xf_38 M 6 v2 v1) → (xq_118_4 n M (v3 + (1 : Int32)) v2 v1)) ∧ (¬ ((xf_38 M 6 v3 v1) ≤ (xf_38 M 6 v2 v1)) → (xq_118_4 n M (v3 + (1 : Int32)) v3 v1)))))
theorem xt_118_4 {X : ro_Sx} {post : ro_Po} : ∀ (n : Nat) {M : ro_Mm} {v3 : Int32} {v2 : Int32} {v1 : Int32} (hL : ro_lay M) (hp : xq_118_4 n M v3 v2 v1) (hk : ro_w X 2 118 post 41 [(3, .int (xg_118_4 n M v3 v2 v1).1), (2, .int (xg_118_4 n M v3 v2 v1).2), (0, .ref 5), (1, .int v1)] [] M (0, 0)), ro_w X 2 118 post 4 [(3, .int v3), (2, .int v2), (0, .ref 5), (1, .int v1)] [] M (0, 0) := by
  intro n
  induction n with
  | zero => intro M v3 v2 v1 hL hp hk; exact False.elim hp
  | succ n ih =>
    intro M v3 v2 v1 hL hp hk
    rw [xq_118_4] at hp
    refine rs_iload_n ri_118_4 rfl rfl ?_
    refine rs_aload_n ri_118_5 rfl rfl ?_
    refine rs_gf (v := .int (M.2.1 5 4)) ri_118_6 rfl (by decide) (ro_kf (kd_5 hL)) rfl rfl ?_
    refine rs_icmp_ge (t := 41) ri_118_9 rfl rfl (fun h1 => ?_) (fun h1 => ?_)
    · skip
      have e : xg_118_4 (n + 1) M v3 v2 v1 = (v3, v2) := by rw [xg_118_4]; first | (simp only [if_pos h1]; done) | rfl
      rw [e] at hk
      exact ro_w_lv (ro_sub_c rfl (ro_sub_c rfl (ro_sub_c rfl (ro_sub_c rfl (ro_sub_n rfl))))) hk
    · have hp := hp.2 h1
      refine rs_aload_n ri_118_12 rfl rfl ?_
      refine rs_gf (v := .ref 6) ri_118_13 rfl (by decide) (ro_kf (kd_5 hL)) rfl (rf_5_0 hL) ?_
      refine rs_iload_n ri_118_16 rfl rfl ?_
      refine rs_iload_n ri_118_17 rfl rfl ?_
      refine rs_stat (As := [.ref 6, .int v3, .int v1]) (r := []) ri_118_18 rfl rm_38.2.2.2 rfl rfl rfl (Nat.le_of_ble_eq_true rfl) (by decide) (by decide) (xs_38 (X := X) hL (by unfold ro_ip; decide)) ?_
      rintro _ _ ⟨e1, e2⟩
      rw [e1, e2]
      show ro_w X _ 118 _ 21 [(3, .int v3), (2, .int v2), (0, .ref 5), (1, .int v1)] [.int (xf_38 M 6 v3 v1)] M (0, 0)
      refine rs_aload_n ri_118_21 rfl rfl ?_
      refine rs_gf (v := .ref 6) ri_118_22 rfl (by decide) (ro_kf (kd_5 hL)) rfl (rf_5_0 hL) ?_
      refine rs_iload_n ri_118_25 rfl rfl ?_
      refine rs_iload_n ri_118_26 rfl rfl ?_
      refine rs_stat (As := [.ref 6, .int v2, .int v1]) (r := [.int (xf_38 M 6 v3 v1)]) ri_118_27 rfl rm_38.2.2.2 rfl rfl rfl (Nat.le_of_ble_eq_true rfl) (by decide) (by decide) (xs_38 (X := X) hL (by unfold ro_ip; decide)) ?_
      rintro _ _ ⟨e1, e2⟩
      rw [e1, e2]
      show ro_w X _ 118 _ 30 [(3, .int v3), (2, .int v2), (0, .ref 5), (1, .int v1)] [.int (xf_38 M 6 v2 v1), .int (xf_38 M 6 v3 v1)] M (0, 0)
      refine rs_icmp_le (t := 35) ri_118_30 rfl rfl (fun h2 => ?_) (fun h2 => ?_)
      · have hp := hp.1 h2
        refine rs_iinc (v := (v3 + (1 : Int32))) (lv2 := [(3, .int (v3 + (1 : Int32))), (2, .int v2), (0, .ref 5), (1, .int v1)]) ri_118_35 rfl rfl rfl rm_118.1 (by decide) rfl ?_
        refine rs_goto (t := 4) ri_118_38 rfl ?_
        have e : xg_118_4 (n + 1) M v3 v2 v1 = xg_118_4 n M (v3 + (1 : Int32)) v2 v1 := by rw [xg_118_4]; first | (simp only [if_neg h1, if_pos h2]; done) | rfl
        rw [e] at hk
        exact ro_w_lv (ro_sub_c rfl (ro_sub_c rfl (ro_sub_c rfl (ro_sub_c rfl (ro_sub_n rfl))))) (ih hL  hp hk)
      · have hp := hp.2 h2
        refine rs_iload_n ri_118_33 rfl rfl ?_
        refine rs_istore_n (lv2 := [(2, .int v3), (3, .int v3), (0, .ref 5), (1, .int v1)]) ri_118_34 rfl rm_118.1 (by decide) rfl ?_
        refine rs_iinc (v := (v3 + (1 : Int32))) (lv2 := [(3, .int (v3 + (1 : Int32))), (2, .int v3), (0, .ref 5), (1, .int v1)]) ri_118_35 rfl rfl rfl rm_118.1 (by decide) rfl ?_
        refine rs_goto (t := 4) ri_118_38 rfl ?_
        have e : xg_118_4 (n + 1) M v3 v2 v1 = xg_118_4 n M (v3 + (1 : Int32)) v3 v1 := by rw [xg_118_4]; first | (simp only [if_neg h1, if_neg h2]; done) | rfl
        rw [e] at hk
        exact ro_w_lv (ro_sub_c rfl (ro_sub_c rfl (ro_sub_c rfl (ro_sub_c rfl (ro_sub_n rfl))))) (ih hL  hp hk)
/-- RefusedOnce$Land.richestBy(I)I -/
noncomputable def xf_118 (M : ro_Mm) (v1 : Int32) : Int32 := (xg_118_4 lp_N M (1 : Int32) (0 : Int32) v1).2
def xp_118 (M : ro_Mm) (v1 : Int32) : Prop := (xq_118_4 lp_N M (1 : Int32) (0 : Int32) v1 ∧ True)
theorem xs_118 {X : ro_Sx} {M : ro_Mm} {v1 : Int32} (hL : ro_lay M) (hp : xp_118 M v1) : ro_cwp X 3 118 [.ref 5, .int v1] M (fun v M2 => v = some (.int (xf_118 M v1)) ∧ M2 = M) := by
  refine rs_begin (lv0 := [(0, .ref 5), (1, .int v1)]) (by decide) rfl (by rw [rm_118.1]; exact Nat.le_of_ble_eq_true rfl) rfl ?_
  unfold xp_118 at hp
  refine rs_iconst (v := (0 : Int32)) ri_118_0 rfl (by decide) ?_
  refine rs_istore_n (lv2 := [(2, .int (0 : Int32)), (0, .ref 5), (1, .int v1)]) ri_118_1 rfl rm_118.1 (by decide) rfl ?_
  refine rs_iconst (v := (1 : Int32)) ri_118_2 rfl (by decide) ?_
  refine rs_istore_n (lv2 := [(3, .int (1 : Int32)), (2, .int (0 : Int32)), (0, .ref 5), (1, .int v1)]) ri_118_3 rfl rm_118.1 (by decide) rfl ?_
  obtain ⟨q2, hp⟩ := hp
  refine xt_118_4 lp_N hL q2 ?_
  refine rs_iload_n ri_118_41 rfl rfl ?_
  refine rs_iret ri_118_42 rm_118.2.1 (by decide) ?_
  exact ⟨by rfl, by rfl⟩
/-- a loop of RefusedOnce$Shelf.becomeRow(II)V -/
noncomputable def xg_178_12 : Nat → ro_Mm → Int32 → Nat → Int32 → Int32 → Int32 × ro_Mm
  | 0, M, v3, c0, v1, v2 => (v3, M)
  | n + 1, M, v3, c0, v1, v2 => (if v2 ≤ v3 then (v3, M) else (if (60 : Int32) ≤ v3 then (v3, M) else (xg_178_12 n (ro_sJ M (c0 + 1) (v3.toNatClampNeg) (0 : Int64)) (v3 + (1 : Int32)) c0 v1 v2)))
def xq_178_12 : Nat → ro_Mm → Int32 → Nat → Int32 → Int32 → Prop
  | 0, _, _, _, _, _ => False
  | n + 1, M, v3, c0, v1, v2 => ((v2 ≤ v3 → True) ∧ (¬ (v2 ≤ v3) → (((60 : Int32) ≤ v3 → True) ∧ (¬ ((60 : Int32) ≤ v3) → (vp_in v3 60 ∧ (xq_178_12 n (ro_sJ M (c0 + 1) (v3.toNatClampNeg) (0 : Int64)) (v3 + (1 : Int32)) c0 v1 v2))))))
theorem xt_178_12 {X : ro_Sx} {post : ro_Po} : ∀ (n : Nat) {M : ro_Mm} {v3 : Int32} {c0 : Nat} {v1 : Int32} {v2 : Int32} (hL : ro_lay M) (hc0 : ro_is c0) (hp : xq_178_12 n M v3 c0 v1 v2) (hk : ro_w X 0 178 post 39 [(3, .int (xg_178_12 n M v3 c0 v1 v2).1), (0, .ref c0), (1, .int v1), (2, .int v2)] [] (xg_178_12 n M v3 c0 v1 v2).2 (0, 0)), ro_w X 0 178 post 12 [(3, .int v3), (0, .ref c0), (1, .int v1), (2, .int v2)] [] M (0, 0) := by
  intro n
  induction n with
  | zero => intro M v3 c0 v1 v2 hL hc0 hp hk; exact False.elim hp
  | succ n ih =>
    intro M v3 c0 v1 v2 hL hc0 hp hk
    rw [xq_178_12] at hp
    refine rs_iload_n ri_178_12 rfl rfl ?_
    refine rs_iload_n ri_178_13 rfl rfl ?_
    refine rs_icmp_ge (t := 39) ri_178_14 rfl rfl (fun h1 => ?_) (fun h1 => ?_)
    · skip
      have e : xg_178_12 (n + 1) M v3 c0 v1 v2 = (v3, M) := by rw [xg_178_12]; first | (simp only [if_pos h1]; done) | rfl
      rw [e] at hk
      exact ro_w_lv (ro_sub_c rfl (ro_sub_c rfl (ro_sub_c rfl (ro_sub_c rfl (ro_sub_n rfl))))) hk
    · have hp := hp.2 h1
      refine rs_iload_n ri_178_17 rfl rfl ?_
      refine rs_aload_n ri_178_18 rfl rfl ?_
      refine rs_gf (v := .ref (c0 + 1)) ri_178_19 rfl (ro_is4 hc0) (ro_kf (is_kd hL hc0)) rfl (is_r0 hL hc0) ?_
      refine rs_len (v := (60 : Int32)) ri_178_22 rfl (by have := ro_is4 hc0; omega) (is_kd1 hL hc0) (by decide) rfl ?_
      refine rs_icmp_ge (t := 39) ri_178_23 rfl rfl (fun h2 => ?_) (fun h2 => ?_)
      · skip
        have e : xg_178_12 (n + 1) M v3 c0 v1 v2 = (v3, M) := by rw [xg_178_12]; first | (simp only [if_neg h1, if_pos h2]; done) | rfl
        rw [e] at hk
        exact ro_w_lv (ro_sub_c rfl (ro_sub_c rfl (ro_sub_c rfl (ro_sub_c rfl (ro_sub_n rfl))))) hk
      · have hp := hp.2 h2
        refine rs_aload_n ri_178_26 rfl rfl ?_
        refine rs_gf (v := .ref (c0 + 1)) ri_178_27 rfl (ro_is4 hc0) (ro_kf (is_kd hL hc0)) rfl (is_r0 hL hc0) ?_
        refine rs_iload_n ri_178_30 rfl rfl ?_
        refine rs_lconst (v := (0 : Int64)) ri_178_31 rfl rfl ?_
        obtain ⟨q2, hp⟩ := hp
        refine rs_last (j := v3.toNatClampNeg) ri_178_32 rfl (by have := ro_is4 hc0; omega) (is_kd1 hL hc0) q2 rfl ?_
        refine rs_iinc (v := (v3 + (1 : Int32))) (lv2 := [(3, .int (v3 + (1 : Int32))), (0, .ref c0), (1, .int v1), (2, .int v2)]) ri_178_33 rfl rfl rfl rm_178.1 (by decide) rfl ?_
        refine rs_goto (t := 12) ri_178_36 rfl ?_
        have e : xg_178_12 (n + 1) M v3 c0 v1 v2 = xg_178_12 n (ro_sJ M (c0 + 1) (v3.toNatClampNeg) (0 : Int64)) (v3 + (1 : Int32)) c0 v1 v2 := by rw [xg_178_12]; first | (simp only [if_neg h1, if_neg h2]; done) | rfl
        rw [e] at hk
        exact ro_w_lv (ro_sub_c rfl (ro_sub_c rfl (ro_sub_c rfl (ro_sub_c rfl (ro_sub_n rfl))))) (ih hL hc0 hp hk)
theorem xl_178_12 : ∀ (n : Nat) {M : ro_Mm} {v3 : Int32} {c0 : Nat} {v1 : Int32} {v2 : Int32} (hL : ro_lay M) (hc0 : ro_is c0) (hp : xq_178_12 n M v3 c0 v1 v2), ro_lay (xg_178_12 n M v3 c0 v1 v2).2 := by
  intro n
  induction n with
  | zero => intro M v3 c0 v1 v2 hL hc0 hp; exact False.elim hp
  | succ n ih =>
    intro M v3 c0 v1 v2 hL hc0 hp
    rw [xq_178_12] at hp
    rw [xg_178_12]
    by_cases hz : v2 ≤ v3
    · have hp := hp.1 hz
      rw [if_pos hz]
      exact hL
    · have hp := hp.2 hz
      rw [if_neg hz]
      by_cases hz : (60 : Int32) ≤ v3
      · have hp := hp.1 hz
        rw [if_pos hz]
        exact hL
      · have hp := hp.2 hz
        rw [if_neg hz]
        obtain ⟨q2, hp⟩ := hp
        exact ih hL hc0 hp
theorem xwI_178_12 : ∀ {n : Nat} {M : ro_Mm} {v3 : Int32} {c0 : Nat} {v1 : Int32} {v2 : Int32} {c j : Nat}, (xg_178_12 n M v3 c0 v1 v2).2.2.1 c j = M.2.1 c j := by
  intro n
  induction n with
  | zero => intro M v3 c0 v1 v2 c j; rfl
  | succ n ih =>
    intro M v3 c0 v1 v2 c j
    rw [xg_178_12]
    by_cases hz : v2 ≤ v3
    · rw [if_pos hz]
      first | done | exact rfl
    · rw [if_neg hz]
      by_cases hz : (60 : Int32) ≤ v3
      · rw [if_pos hz]
        first | done | exact rfl
      · rw [if_neg hz]
        first | done | exact (((ih)).trans (congrFun (congrFun ro_sJ_I _) _))
theorem xwJ_178_12 : ∀ {n : Nat} {M : ro_Mm} {v3 : Int32} {c0 : Nat} {v1 : Int32} {v2 : Int32} {c j : Nat} (n0 : c ≠ (c0 + 1)), (xg_178_12 n M v3 c0 v1 v2).2.2.2.1 c j = M.2.2.1 c j := by
  intro n
  induction n with
  | zero => intro M v3 c0 v1 v2 c j n0; rfl
  | succ n ih =>
    intro M v3 c0 v1 v2 c j n0
    rw [xg_178_12]
    by_cases hz : v2 ≤ v3
    · rw [if_pos hz]
      first | done | exact rfl
    · rw [if_neg hz]
      by_cases hz : (60 : Int32) ≤ v3
      · rw [if_pos hz]
        first | done | exact rfl
      · rw [if_neg hz]
        first | done | exact (((ih n0)).trans (ro_sJ_ne n0))
/-- RefusedOnce$Shelf.becomeRow(II)V -/
noncomputable def xm_178 (M : ro_Mm) (c0 : Nat) (v1 : Int32) (v2 : Int32) : ro_Mm := (xg_178_12 lp_N (ro_sI (ro_sI M c0 1 v1) c0 2 v2) (0 : Int32) c0 v1 v2).2
def xp_178 (M : ro_Mm) (c0 : Nat) (v1 : Int32) (v2 : Int32) : Prop := (xq_178_12 lp_N (ro_sI (ro_sI M c0 1 v1) c0 2 v2) (0 : Int32) c0 v1 v2 ∧ True)
theorem xs_178 {X : ro_Sx} {M : ro_Mm} {c0 : Nat} {v1 : Int32} {v2 : Int32} (hL : ro_lay M) (hc0 : ro_is c0) (hp : xp_178 M c0 v1 v2) : ro_cwp X 1 178 [.ref c0, .int v1, .int v2] M (fun v M2 => v = none ∧ M2 = xm_178 M c0 v1 v2) := by
  refine rs_begin (lv0 := [(0, .ref c0), (1, .int v1), (2, .int v2)]) (by decide) rfl (by rw [rm_178.1]; exact Nat.le_of_ble_eq_true rfl) rfl ?_
  unfold xp_178 at hp
  refine rs_aload_n ri_178_0 rfl rfl ?_
  refine rs_iload_n ri_178_1 rfl rfl ?_
  refine rs_pf (M2 := (ro_sI M c0 1 v1)) ri_178_2 rfl (ro_is4 hc0) (ro_kf (is_kd hL hc0)) (fun h => absurd h (by decide)) (fun f h => h) ?_
  refine rs_aload_n ri_178_5 rfl rfl ?_
  refine rs_iload_n ri_178_6 rfl rfl ?_
  refine rs_pf (M2 := (ro_sI (ro_sI M c0 1 v1) c0 2 v2)) ri_178_7 rfl (ro_is4 hc0) (ro_kf (is_kd hL hc0)) (fun h => absurd h (by decide)) (fun f h => h) ?_
  refine rs_iconst (v := (0 : Int32)) ri_178_10 rfl (by decide) ?_
  refine rs_istore_n (lv2 := [(3, .int (0 : Int32)), (0, .ref c0), (1, .int v1), (2, .int v2)]) ri_178_11 rfl rm_178.1 (by decide) rfl ?_
  obtain ⟨q3, hp⟩ := hp
  refine xt_178_12 lp_N hL hc0 q3 ?_
  refine rs_ret ri_178_39 rm_178.2.1 (by decide) ?_
  exact ⟨by rfl, by rfl⟩
theorem xl_178 {M : ro_Mm} {c0 : Nat} {v1 : Int32} {v2 : Int32} (hL : ro_lay M) (hc0 : ro_is c0) (hp : xp_178 M c0 v1 v2) : ro_lay (xm_178 M c0 v1 v2) := by
  unfold xp_178 at hp
  unfold xm_178
  obtain ⟨q3, hp⟩ := hp
  exact (xl_178_12 lp_N hL hc0 q3)
theorem xwI_178 {M : ro_Mm} {c0 : Nat} {v1 : Int32} {v2 : Int32} {c j : Nat} (n0 : c ≠ c0) : (xm_178 M c0 v1 v2).2.1 c j = M.2.1 c j := by
  unfold xm_178
  first | done | exact ((((xwI_178_12)).trans (ro_sI_ne n0)).trans (ro_sI_ne n0))
theorem xwJ_178 {M : ro_Mm} {c0 : Nat} {v1 : Int32} {v2 : Int32} {c j : Nat} (n0 : c ≠ (c0 + 1)) : (xm_178 M c0 v1 v2).2.2.1 c j = M.2.2.1 c j := by
  unfold xm_178
  first | done | exact ((((xwJ_178_12 n0)).trans (congrFun (congrFun ro_sI_J _) _)).trans (congrFun (congrFun ro_sI_J _) _))
/-- a loop of RefusedOnce$Bodies.isUnder(II)Z -/
noncomputable def xg_189_4 : Nat → ro_Mm → Int32 → Int32 → Int32 → Int32 → Bool × Bool × Int32 × Int32
  | 0, M, v3, v2, v0, v1 => (false, false, v3, v2)
  | n + 1, M, v3, v2, v0, v1 => (if (8 : Int32) ≤ v3 then (false, false, v3, v2) else (if v2 < (0 : Int32) then (false, false, v3, v2) else (if (8 : Int32) ≤ v2 then (false, false, v3, v2) else (if v2 = v1 then (true, true, v3, v2) else (xg_189_4 n M (v3 + (1 : Int32)) (ro_xv (0, fun _ => 0) 3 v2.toNatClampNeg) v0 v1)))))
def xq_189_4 : Nat → ro_Mm → Int32 → Int32 → Int32 → Int32 → Prop
  | 0, _, _, _, _, _ => False
  | n + 1, M, v3, v2, v0, v1 => (((8 : Int32) ≤ v3 → True) ∧ (¬ ((8 : Int32) ≤ v3) → ((v2 < (0 : Int32) → True) ∧ (¬ (v2 < (0 : Int32)) → (((8 : Int32) ≤ v2 → True) ∧ (¬ ((8 : Int32) ≤ v2) → ((v2 = v1 → True) ∧ (¬ (v2 = v1) → (xq_189_4 n M (v3 + (1 : Int32)) (ro_xv (0, fun _ => 0) 3 v2.toNatClampNeg) v0 v1)))))))))
/-- RefusedOnce$Bodies.isUnder(II)Z -/
noncomputable def xf_189 (M : ro_Mm) (v0 : Int32) (v1 : Int32) : Bool := (if (xg_189_4 lp_N M (0 : Int32) v0 v0 v1).1 = true then (xg_189_4 lp_N M (0 : Int32) v0 v0 v1).2.1 else false)
def xp_189 (M : ro_Mm) (v0 : Int32) (v1 : Int32) : Prop := (xq_189_4 lp_N M (0 : Int32) v0 v0 v1 ∧ True)
/-- a loop of RefusedOnceModel.figure()V -/
noncomputable def xg_225_4 : Nat → ro_Mm → Int32 → Int32 → Int32 × Int32 × ro_Mm
  | 0, M, v2, v1 => (v2, v1, M)
  | n + 1, M, v2, v1 => (if (4 : Int32) ≤ v2 then (v2, v1, M) else (if (xf_195 M (xf_220 M) (48 : Int32) (57 : Int32)) then (xg_225_4 n (ro_sI M 163 15 ((M.2.1 163 15) + (1 : Int32))) (v2 + (1 : Int32)) ((((10 : Int32) * v1) + (xf_220 M)) - (48 : Int32))) else (v2, v1, M)))
def xq_225_4 : Nat → ro_Mm → Int32 → Int32 → Prop
  | 0, _, _, _ => False
  | n + 1, M, v2, v1 => (((4 : Int32) ≤ v2 → True) ∧ (¬ ((4 : Int32) ≤ v2) → (xp_220 M ∧ (((xf_195 M (xf_220 M) (48 : Int32) (57 : Int32)) → (xp_220 M ∧ (xq_225_4 n (ro_sI M 163 15 ((M.2.1 163 15) + (1 : Int32))) (v2 + (1 : Int32)) ((((10 : Int32) * v1) + (xf_220 M)) - (48 : Int32))))) ∧ (¬ ((xf_195 M (xf_220 M) (48 : Int32) (57 : Int32))) → True)))))
theorem xl_225_4 : ∀ (n : Nat) {M : ro_Mm} {v2 : Int32} {v1 : Int32} (hL : ro_lay M) (hp : xq_225_4 n M v2 v1), ro_lay (xg_225_4 n M v2 v1).2.2 := by
  intro n
  induction n with
  | zero => intro M v2 v1 hL hp; exact False.elim hp
  | succ n ih =>
    intro M v2 v1 hL hp
    rw [xq_225_4] at hp
    rw [xg_225_4]
    by_cases hz : (4 : Int32) ≤ v2
    · have hp := hp.1 hz
      rw [if_pos hz]
      exact hL
    · have hp := hp.2 hz
      rw [if_neg hz]
      obtain ⟨q1, hp⟩ := hp
      by_cases hz : (xf_195 M (xf_220 M) (48 : Int32) (57 : Int32))
      · have hp := hp.1 hz
        rw [if_pos hz]
        obtain ⟨q3, hp⟩ := hp
        exact ih hL  hp
      · have hp := hp.2 hz
        rw [if_neg hz]
        exact hL
theorem xwI_225_4 : ∀ {n : Nat} {M : ro_Mm} {v2 : Int32} {v1 : Int32} {c j : Nat} (n0 : c ≠ 163), (xg_225_4 n M v2 v1).2.2.2.1 c j = M.2.1 c j := by
  intro n
  induction n with
  | zero => intro M v2 v1 c j n0; rfl
  | succ n ih =>
    intro M v2 v1 c j n0
    rw [xg_225_4]
    by_cases hz : (4 : Int32) ≤ v2
    · rw [if_pos hz]
      first | done | exact rfl
    · rw [if_neg hz]
      by_cases hz : (xf_195 M (xf_220 M) (48 : Int32) (57 : Int32))
      · rw [if_pos hz]
        first | done | exact (((ih n0)).trans (ro_sI_ne n0))
      · rw [if_neg hz]
        first | done | exact rfl
theorem xwJ_225_4 : ∀ {n : Nat} {M : ro_Mm} {v2 : Int32} {v1 : Int32} {c j : Nat}, (xg_225_4 n M v2 v1).2.2.2.2.1 c j = M.2.2.1 c j := by
  intro n
  induction n with
  | zero => intro M v2 v1 c j; rfl
  | succ n ih =>
    intro M v2 v1 c j
    rw [xg_225_4]
    by_cases hz : (4 : Int32) ≤ v2
    · rw [if_pos hz]
      first | done | exact rfl
    · rw [if_neg hz]
      by_cases hz : (xf_195 M (xf_220 M) (48 : Int32) (57 : Int32))
      · rw [if_pos hz]
        first | done | exact (((ih)).trans (congrFun (congrFun ro_sI_J _) _))
      · rw [if_neg hz]
        first | done | exact rfl
/-- RefusedOnceModel.figure()V -/
noncomputable def xm_225 (M : ro_Mm) : ro_Mm := (if (xg_225_4 lp_N M (0 : Int32) (0 : Int32)).1 = (0 : Int32) then (xm_222 (xm_224 (xg_225_4 lp_N M (0 : Int32) (0 : Int32)).2.2) (1 : Int32) (xg_225_4 lp_N M (0 : Int32) (0 : Int32)).2.1) else (if (xf_195 (xg_225_4 lp_N M (0 : Int32) (0 : Int32)).2.2 (xf_220 (xg_225_4 lp_N M (0 : Int32) (0 : Int32)).2.2) (48 : Int32) (57 : Int32)) then (xm_222 (xm_224 (xg_225_4 lp_N M (0 : Int32) (0 : Int32)).2.2) (1 : Int32) (xg_225_4 lp_N M (0 : Int32) (0 : Int32)).2.1) else (xm_222 (xg_225_4 lp_N M (0 : Int32) (0 : Int32)).2.2 (1 : Int32) (xg_225_4 lp_N M (0 : Int32) (0 : Int32)).2.1)))
def xp_225 (M : ro_Mm) : Prop := (xq_225_4 lp_N M (0 : Int32) (0 : Int32) ∧ (((xg_225_4 lp_N M (0 : Int32) (0 : Int32)).1 = (0 : Int32) → (xp_222 (xm_224 (xg_225_4 lp_N M (0 : Int32) (0 : Int32)).2.2) (1 : Int32) (xg_225_4 lp_N M (0 : Int32) (0 : Int32)).2.1 ∧ True)) ∧ (¬ ((xg_225_4 lp_N M (0 : Int32) (0 : Int32)).1 = (0 : Int32)) → (xp_220 (xg_225_4 lp_N M (0 : Int32) (0 : Int32)).2.2 ∧ (((xf_195 (xg_225_4 lp_N M (0 : Int32) (0 : Int32)).2.2 (xf_220 (xg_225_4 lp_N M (0 : Int32) (0 : Int32)).2.2) (48 : Int32) (57 : Int32)) → (xp_222 (xm_224 (xg_225_4 lp_N M (0 : Int32) (0 : Int32)).2.2) (1 : Int32) (xg_225_4 lp_N M (0 : Int32) (0 : Int32)).2.1 ∧ True)) ∧ (¬ ((xf_195 (xg_225_4 lp_N M (0 : Int32) (0 : Int32)).2.2 (xf_220 (xg_225_4 lp_N M (0 : Int32) (0 : Int32)).2.2) (48 : Int32) (57 : Int32))) → (xp_222 (xg_225_4 lp_N M (0 : Int32) (0 : Int32)).2.2 (1 : Int32) (xg_225_4 lp_N M (0 : Int32) (0 : Int32)).2.1 ∧ True)))))))
theorem xl_225 {M : ro_Mm} (hL : ro_lay M) (hp : xp_225 M) : ro_lay (xm_225 M) := by
  unfold xp_225 at hp
  unfold xm_225
  obtain ⟨q4, hp⟩ := hp
  by_cases hz : (xg_225_4 lp_N M (0 : Int32) (0 : Int32)).1 = (0 : Int32)
  · have hp := hp.1 hz
    rw [if_pos hz]
    obtain ⟨q6, hp⟩ := hp
    exact (xl_222 (xl_224 (xl_225_4 lp_N hL q4)) q6)
  · have hp := hp.2 hz
    rw [if_neg hz]
    obtain ⟨q7, hp⟩ := hp
    by_cases hz : (xf_195 (xg_225_4 lp_N M (0 : Int32) (0 : Int32)).2.2 (xf_220 (xg_225_4 lp_N M (0 : Int32) (0 : Int32)).2.2) (48 : Int32) (57 : Int32))
    · have hp := hp.1 hz
      rw [if_pos hz]
      obtain ⟨q10, hp⟩ := hp
      exact (xl_222 (xl_224 (xl_225_4 lp_N hL q4)) q10)
    · have hp := hp.2 hz
      rw [if_neg hz]
      obtain ⟨q9, hp⟩ := hp
      exact (xl_222 (xl_225_4 lp_N hL q4) q9)
theorem xwI_225 {M : ro_Mm} {c j : Nat} (n0 : c ≠ 163) (n1 : c ≠ 174) (n2 : c ≠ 175) : (xm_225 M).2.1 c j = M.2.1 c j := by
  unfold xm_225
  by_cases hz : (xg_225_4 lp_N M (0 : Int32) (0 : Int32)).1 = (0 : Int32)
  · rw [if_pos hz]
    first | done | exact ((((xwI_222 n1 n2 n0)).trans (xwI_224 n0)).trans (xwI_225_4 n0))
  · rw [if_neg hz]
    by_cases hz : (xf_195 (xg_225_4 lp_N M (0 : Int32) (0 : Int32)).2.2 (xf_220 (xg_225_4 lp_N M (0 : Int32) (0 : Int32)).2.2) (48 : Int32) (57 : Int32))
    · rw [if_pos hz]
      first | done | exact ((((xwI_222 n1 n2 n0)).trans (xwI_224 n0)).trans (xwI_225_4 n0))
    · rw [if_neg hz]
      first | done | exact (((xwI_222 n1 n2 n0)).trans (xwI_225_4 n0))
theorem xwJ_225 {M : ro_Mm} {c j : Nat} : (xm_225 M).2.2.1 c j = M.2.2.1 c j := by
  unfold xm_225
  by_cases hz : (xg_225_4 lp_N M (0 : Int32) (0 : Int32)).1 = (0 : Int32)
  · rw [if_pos hz]
    first | done | exact ((((xwJ_222)).trans (xwJ_224)).trans (xwJ_225_4))
  · rw [if_neg hz]
    by_cases hz : (xf_195 (xg_225_4 lp_N M (0 : Int32) (0 : Int32)).2.2 (xf_220 (xg_225_4 lp_N M (0 : Int32) (0 : Int32)).2.2) (48 : Int32) (57 : Int32))
    · rw [if_pos hz]
      first | done | exact ((((xwJ_222)).trans (xwJ_224)).trans (xwJ_225_4))
    · rw [if_neg hz]
      first | done | exact (((xwJ_222)).trans (xwJ_225_4))
/-- a loop of RefusedOnceModel.layNow()V -/
noncomputable def xg_228_2 : Nat → ro_Mm → Int32 → Int32 × ro_Mm
  | 0, M, v1 => (v1, M)
  | n + 1, M, v1 => (if (M.2.1 163 1) ≤ v1 then (v1, M) else (xg_228_2 n (ro_sI (ro_sI M 181 (v1.toNatClampNeg) (M.2.1 164 (v1.toNatClampNeg))) 182 (v1.toNatClampNeg) (M.2.1 165 (v1.toNatClampNeg))) (v1 + (1 : Int32))))
def xq_228_2 : Nat → ro_Mm → Int32 → Prop
  | 0, _, _ => False
  | n + 1, M, v1 => (((M.2.1 163 1) ≤ v1 → True) ∧ (¬ ((M.2.1 163 1) ≤ v1) → (vp_in v1 6 ∧ (vp_in v1 6 ∧ (vp_in v1 6 ∧ (vp_in v1 6 ∧ (xq_228_2 n (ro_sI (ro_sI M 181 (v1.toNatClampNeg) (M.2.1 164 (v1.toNatClampNeg))) 182 (v1.toNatClampNeg) (M.2.1 165 (v1.toNatClampNeg))) (v1 + (1 : Int32)))))))))
theorem xl_228_2 : ∀ (n : Nat) {M : ro_Mm} {v1 : Int32} (hL : ro_lay M) (hp : xq_228_2 n M v1), ro_lay (xg_228_2 n M v1).2 := by
  intro n
  induction n with
  | zero => intro M v1 hL hp; exact False.elim hp
  | succ n ih =>
    intro M v1 hL hp
    rw [xq_228_2] at hp
    rw [xg_228_2]
    by_cases hz : (M.2.1 163 1) ≤ v1
    · have hp := hp.1 hz
      rw [if_pos hz]
      exact hL
    · have hp := hp.2 hz
      rw [if_neg hz]
      obtain ⟨q1, hp⟩ := hp
      obtain ⟨q2, hp⟩ := hp
      obtain ⟨q3, hp⟩ := hp
      obtain ⟨q4, hp⟩ := hp
      exact ih hL  hp
theorem xwI_228_2 : ∀ {n : Nat} {M : ro_Mm} {v1 : Int32} {c j : Nat} (n0 : c ≠ 181) (n1 : c ≠ 182), (xg_228_2 n M v1).2.2.1 c j = M.2.1 c j := by
  intro n
  induction n with
  | zero => intro M v1 c j n0 n1; rfl
  | succ n ih =>
    intro M v1 c j n0 n1
    rw [xg_228_2]
    by_cases hz : (M.2.1 163 1) ≤ v1
    · rw [if_pos hz]
      first | done | exact rfl
    · rw [if_neg hz]
      first | done | exact ((((ih n0 n1)).trans (ro_sI_ne n1)).trans (ro_sI_ne n0))
theorem xwJ_228_2 : ∀ {n : Nat} {M : ro_Mm} {v1 : Int32} {c j : Nat}, (xg_228_2 n M v1).2.2.2.1 c j = M.2.2.1 c j := by
  intro n
  induction n with
  | zero => intro M v1 c j; rfl
  | succ n ih =>
    intro M v1 c j
    rw [xg_228_2]
    by_cases hz : (M.2.1 163 1) ≤ v1
    · rw [if_pos hz]
      first | done | exact rfl
    · rw [if_neg hz]
      first | done | exact ((((ih)).trans (congrFun (congrFun ro_sI_J _) _)).trans (congrFun (congrFun ro_sI_J _) _))
/-- RefusedOnceModel.layNow()V -/
noncomputable def xm_228 (M : ro_Mm) : ro_Mm := (xg_228_2 lp_N M (0 : Int32)).2
def xp_228 (M : ro_Mm) : Prop := (xq_228_2 lp_N M (0 : Int32) ∧ True)
theorem xl_228 {M : ro_Mm} (hL : ro_lay M) (hp : xp_228 M) : ro_lay (xm_228 M) := by
  unfold xp_228 at hp
  unfold xm_228
  obtain ⟨q5, hp⟩ := hp
  exact (xl_228_2 lp_N hL q5)
theorem xwI_228 {M : ro_Mm} {c j : Nat} (n0 : c ≠ 181) (n1 : c ≠ 182) : (xm_228 M).2.1 c j = M.2.1 c j := by
  unfold xm_228
  first | done | exact (xwI_228_2 n0 n1)
theorem xwJ_228 {M : ro_Mm} {c j : Nat} : (xm_228 M).2.2.1 c j = M.2.2.1 c j := by
  unfold xm_228
  first | done | exact (xwJ_228_2)
/-- a loop of RefusedOnceModel.paysOf(I)I -/
noncomputable def xg_248_2 : Nat → ro_Mm → Int32 → Int32 → Int32
  | 0, M, v2, v1 => v2
  | n + 1, M, v2, v1 => (if (10 : Int32) ≤ v2 then v2 else (if (M.2.1 191 (v1.toNatClampNeg)) ≤ (((2 : Int32) * v2) + (1 : Int32)) then v2 else (if (xf_204 M (xf_238 M v1 ((2 : Int32) * v2))) then (if (xf_204 M (xf_238 M v1 (((2 : Int32) * v2) + (1 : Int32)))) then (if (xf_238 M v1 ((2 : Int32) * v2)) = (xf_238 M v1 (((2 : Int32) * v2) + (1 : Int32))) then v2 else (xg_248_2 n M (v2 + (1 : Int32)) v1)) else v2) else v2)))
def xq_248_2 : Nat → ro_Mm → Int32 → Int32 → Prop
  | 0, _, _, _ => False
  | n + 1, M, v2, v1 => (((10 : Int32) ≤ v2 → True) ∧ (¬ ((10 : Int32) ≤ v2) → (vp_in v1 6 ∧ (((M.2.1 191 (v1.toNatClampNeg)) ≤ (((2 : Int32) * v2) + (1 : Int32)) → True) ∧ (¬ ((M.2.1 191 (v1.toNatClampNeg)) ≤ (((2 : Int32) * v2) + (1 : Int32))) → (xp_238 M v1 ((2 : Int32) * v2) ∧ (((xf_204 M (xf_238 M v1 ((2 : Int32) * v2))) → (xp_238 M v1 (((2 : Int32) * v2) + (1 : Int32)) ∧ (((xf_204 M (xf_238 M v1 (((2 : Int32) * v2) + (1 : Int32)))) → (xp_238 M v1 ((2 : Int32) * v2) ∧ (xp_238 M v1 (((2 : Int32) * v2) + (1 : Int32)) ∧ (((xf_238 M v1 ((2 : Int32) * v2)) = (xf_238 M v1 (((2 : Int32) * v2) + (1 : Int32))) → True) ∧ (¬ ((xf_238 M v1 ((2 : Int32) * v2)) = (xf_238 M v1 (((2 : Int32) * v2) + (1 : Int32)))) → (xq_248_2 n M (v2 + (1 : Int32)) v1)))))) ∧ (¬ ((xf_204 M (xf_238 M v1 (((2 : Int32) * v2) + (1 : Int32))))) → True)))) ∧ (¬ ((xf_204 M (xf_238 M v1 ((2 : Int32) * v2)))) → True))))))))
/-- RefusedOnceModel.paysOf(I)I -/
noncomputable def xf_248 (M : ro_Mm) (v1 : Int32) : Int32 := (xg_248_2 lp_N M (0 : Int32) v1)
def xp_248 (M : ro_Mm) (v1 : Int32) : Prop := (xq_248_2 lp_N M (0 : Int32) v1 ∧ True)
/-- a loop of RefusedOnceModel.lowest(JJI)J -/
noncomputable def xg_254_16 : Nat → ro_Mm → Int64 → Int64 → Int64 → Int64 → Int32 → Int64 × Int64
  | 0, M, v7, v5, v0, v2, v4 => (v7, v5)
  | n + 1, M, v7, v5, v0, v2, v4 => (if (lg_cmp v7 (0 : Int64)) = (0 : Int32) then (v7, v5) else (xg_254_16 n M (ro_lrem v5 v7) v7 v0 v2 v4))
def xq_254_16 : Nat → ro_Mm → Int64 → Int64 → Int64 → Int64 → Int32 → Prop
  | 0, _, _, _, _, _, _ => False
  | n + 1, M, v7, v5, v0, v2, v4 => (((lg_cmp v7 (0 : Int64)) = (0 : Int32) → True) ∧ (¬ ((lg_cmp v7 (0 : Int64)) = (0 : Int32)) → (¬ v7 = 0 ∧ (xq_254_16 n M (ro_lrem v5 v7) v7 v0 v2 v4))))
/-- RefusedOnceModel.lowest(JJI)J -/
noncomputable def xf_254 (M : ro_Mm) (v0 : Int64) (v2 : Int64) (v4 : Int32) : Int64 := (if (lg_cmp v0 (0 : Int64)) = (0 : Int32) then (v4.toInt64) else (if v4 = (0 : Int32) then (v0 / (xg_254_16 lp_N M v2 v0 v0 v2 v4).2) else (v2 / (xg_254_16 lp_N M v2 v0 v0 v2 v4).2)))
def xp_254 (M : ro_Mm) (v0 : Int64) (v2 : Int64) (v4 : Int32) : Prop := (((lg_cmp v0 (0 : Int64)) = (0 : Int32) → True) ∧ (¬ ((lg_cmp v0 (0 : Int64)) = (0 : Int32)) → (xq_254_16 lp_N M v2 v0 v0 v2 v4 ∧ ((v4 = (0 : Int32) → (¬ (xg_254_16 lp_N M v2 v0 v0 v2 v4).2 = 0 ∧ True)) ∧ (¬ (v4 = (0 : Int32)) → (¬ (xg_254_16 lp_N M v2 v0 v0 v2 v4).2 = 0 ∧ True))))))
/-- a loop of RefusedOnceModel.pairsNow()I -/
noncomputable def xg_258_14 : Nat → ro_Mm → Int32 → Int32 → Int32 → Int32 × Int32
  | 0, M, v3, v2, v1 => (v3, v1)
  | n + 1, M, v3, v2, v1 => (if (M.2.1 163 1) ≤ v3 then (v3, v1) else (if v2 = v3 then (xg_258_14 n M (v3 + (1 : Int32)) v2 v1) else (if (xf_241 M v2 v3) then (xg_258_14 n M (v3 + (1 : Int32)) v2 (v1 + (1 : Int32))) else (xg_258_14 n M (v3 + (1 : Int32)) v2 v1))))
def xq_258_14 : Nat → ro_Mm → Int32 → Int32 → Int32 → Prop
  | 0, _, _, _, _ => False
  | n + 1, M, v3, v2, v1 => (((M.2.1 163 1) ≤ v3 → True) ∧ (¬ ((M.2.1 163 1) ≤ v3) → ((v2 = v3 → (xq_258_14 n M (v3 + (1 : Int32)) v2 v1)) ∧ (¬ (v2 = v3) → (xp_241 M v2 v3 ∧ (((xf_241 M v2 v3) → (xq_258_14 n M (v3 + (1 : Int32)) v2 (v1 + (1 : Int32)))) ∧ (¬ ((xf_241 M v2 v3)) → (xq_258_14 n M (v3 + (1 : Int32)) v2 v1))))))))
/-- a loop of RefusedOnceModel.pairsNow()I -/
noncomputable def xg_258_4 : Nat → ro_Mm → Int32 → Int32 → Int32 × Int32
  | 0, M, v2, v1 => (v2, v1)
  | n + 1, M, v2, v1 => (if (M.2.1 163 1) ≤ v2 then (v2, v1) else (xg_258_4 n M (v2 + (1 : Int32)) (xg_258_14 lp_N M (0 : Int32) v2 v1).2))
def xq_258_4 : Nat → ro_Mm → Int32 → Int32 → Prop
  | 0, _, _, _ => False
  | n + 1, M, v2, v1 => (((M.2.1 163 1) ≤ v2 → True) ∧ (¬ ((M.2.1 163 1) ≤ v2) → (xq_258_14 lp_N M (0 : Int32) v2 v1 ∧ (xq_258_4 n M (v2 + (1 : Int32)) (xg_258_14 lp_N M (0 : Int32) v2 v1).2))))
/-- RefusedOnceModel.pairsNow()I -/
noncomputable def xf_258 (M : ro_Mm) : Int32 := (xg_258_4 lp_N M (0 : Int32) (0 : Int32)).2
def xp_258 (M : ro_Mm) : Prop := (xq_258_4 lp_N M (0 : Int32) (0 : Int32) ∧ True)
/-- a loop of RefusedOnceModel.hands(II)I -/
noncomputable def xg_259_30 : Nat → ro_Mm → Int32 → Int32 → Int32 → Int32
  | 0, M, v3, v1, v2 => v3
  | n + 1, M, v3, v1, v2 => (if (10 : Int32) ≤ v3 then v3 else (if (M.2.1 191 (v1.toNatClampNeg)) ≤ v3 then v3 else (if (xf_204 M (xf_238 M v1 v3)) then (xg_259_30 n M (v3 + (1 : Int32)) v1 v2) else v3)))
def xq_259_30 : Nat → ro_Mm → Int32 → Int32 → Int32 → Prop
  | 0, _, _, _, _ => False
  | n + 1, M, v3, v1, v2 => (((10 : Int32) ≤ v3 → True) ∧ (¬ ((10 : Int32) ≤ v3) → (vp_in v1 6 ∧ (((M.2.1 191 (v1.toNatClampNeg)) ≤ v3 → True) ∧ (¬ ((M.2.1 191 (v1.toNatClampNeg)) ≤ v3) → (xp_238 M v1 v3 ∧ (((xf_204 M (xf_238 M v1 v3)) → (xq_259_30 n M (v3 + (1 : Int32)) v1 v2)) ∧ (¬ ((xf_204 M (xf_238 M v1 v3))) → True))))))))
/-- a loop of RefusedOnceModel.hands(II)I -/
noncomputable def xg_259_74 : Nat → ro_Mm → Int32 → Int32 → Int32 → Int32 → Int32 → Int32 → Int32 × Int32 × Int32
  | 0, M, v6, v5, v4, v3, v1, v2 => (v6, v5, v4)
  | n + 1, M, v6, v5, v4, v3, v1, v2 => (if v3 ≤ v6 then (v6, v5, v4) else (if v4 < ((M.2.1 166 ((xf_238 M v1 v6).toNatClampNeg)) - (((4 : Int32) - (M.2.1 168 0)) * ((v3 - (1 : Int32)) - v6))) then (xg_259_74 n M (v6 + (1 : Int32)) v6 ((M.2.1 166 ((xf_238 M v1 v6).toNatClampNeg)) - (((4 : Int32) - (M.2.1 168 0)) * ((v3 - (1 : Int32)) - v6))) v3 v1 v2) else (xg_259_74 n M (v6 + (1 : Int32)) v5 v4 v3 v1 v2)))
def xq_259_74 : Nat → ro_Mm → Int32 → Int32 → Int32 → Int32 → Int32 → Int32 → Prop
  | 0, _, _, _, _, _, _, _ => False
  | n + 1, M, v6, v5, v4, v3, v1, v2 => ((v3 ≤ v6 → True) ∧ (¬ (v3 ≤ v6) → (xp_238 M v1 v6 ∧ (vp_in (xf_238 M v1 v6) 6 ∧ ((v4 < ((M.2.1 166 ((xf_238 M v1 v6).toNatClampNeg)) - (((4 : Int32) - (M.2.1 168 0)) * ((v3 - (1 : Int32)) - v6))) → (xq_259_74 n M (v6 + (1 : Int32)) v6 ((M.2.1 166 ((xf_238 M v1 v6).toNatClampNeg)) - (((4 : Int32) - (M.2.1 168 0)) * ((v3 - (1 : Int32)) - v6))) v3 v1 v2)) ∧ (¬ (v4 < ((M.2.1 166 ((xf_238 M v1 v6).toNatClampNeg)) - (((4 : Int32) - (M.2.1 168 0)) * ((v3 - (1 : Int32)) - v6)))) → (xq_259_74 n M (v6 + (1 : Int32)) v5 v4 v3 v1 v2)))))))
/-- RefusedOnceModel.hands(II)I -/
noncomputable def xf_259 (M : ro_Mm) (v1 : Int32) (v2 : Int32) : Int32 := (if (xf_198 M v1) then (if (xf_195 M v2 (0 : Int32) (1 : Int32)) then (if (0 : Int32) ≤ (xf_235 M v1) then (if v2 = (0 : Int32) then (xg_259_74 lp_N M (1 : Int32) (0 : Int32) (0 : Int32) (xg_259_30 lp_N M (0 : Int32) v1 v2) v1 v2).2.2 else (xg_259_74 lp_N M (1 : Int32) (0 : Int32) (0 : Int32) (xg_259_30 lp_N M (0 : Int32) v1 v2) v1 v2).2.1) else (-2000000000 : Int32)) else (-2000000000 : Int32)) else (-2000000000 : Int32))
def xp_259 (M : ro_Mm) (v1 : Int32) (v2 : Int32) : Prop := (((xf_198 M v1) → (((xf_195 M v2 (0 : Int32) (1 : Int32)) → (xp_235 M v1 ∧ (((0 : Int32) ≤ (xf_235 M v1) → (xq_259_30 lp_N M (0 : Int32) v1 v2 ∧ (xq_259_74 lp_N M (1 : Int32) (0 : Int32) (0 : Int32) (xg_259_30 lp_N M (0 : Int32) v1 v2) v1 v2 ∧ True))) ∧ (¬ ((0 : Int32) ≤ (xf_235 M v1)) → True)))) ∧ (¬ ((xf_195 M v2 (0 : Int32) (1 : Int32))) → True))) ∧ (¬ ((xf_198 M v1)) → True))
/-- a loop of RefusedOnceModel.waysOf(II)J -/
noncomputable def xg_263_16 : Nat → ro_Mm → Int32 → Int64 → Int32 → Int32 → Int32 × Int64
  | 0, M, v4, v2, v0, v1 => (v4, v2)
  | n + 1, M, v4, v2, v0, v1 => (if v1 < v4 then (v4, v2) else (xg_263_16 n M (v4 + (1 : Int32)) ((v2 * (((v0 - v1) + v4).toInt64)) / (v4.toInt64)) v0 v1))
def xq_263_16 : Nat → ro_Mm → Int32 → Int64 → Int32 → Int32 → Prop
  | 0, _, _, _, _, _ => False
  | n + 1, M, v4, v2, v0, v1 => ((v1 < v4 → True) ∧ (¬ (v1 < v4) → (¬ (v4.toInt64) = 0 ∧ (xq_263_16 n M (v4 + (1 : Int32)) ((v2 * (((v0 - v1) + v4).toInt64)) / (v4.toInt64)) v0 v1))))
/-- RefusedOnceModel.waysOf(II)J -/
noncomputable def xf_263 (M : ro_Mm) (v0 : Int32) (v1 : Int32) : Int64 := (if v1 < (0 : Int32) then (0 : Int64) else (if v1 ≤ v0 then (xg_263_16 lp_N M (1 : Int32) (1 : Int64) v0 v1).2 else (0 : Int64)))
def xp_263 (M : ro_Mm) (v0 : Int32) (v1 : Int32) : Prop := ((v1 < (0 : Int32) → True) ∧ (¬ (v1 < (0 : Int32)) → ((v1 ≤ v0 → (xq_263_16 lp_N M (1 : Int32) (1 : Int64) v0 v1 ∧ True)) ∧ (¬ (v1 ≤ v0) → True))))
/-- a loop of RefusedOnceModel.dowry(II)I -/
noncomputable def xg_266_36 : Nat → ro_Mm → Int32 → Int32 → Int32 → Int32 → Int32 → Int32 × Int32 × Int32
  | 0, M, v5, v4, v3, v1, v2 => (v5, v4, v3)
  | n + 1, M, v5, v4, v3, v1, v2 => (if (M.2.1 163 1) ≤ v5 then (v5, v4, v3) else (if ((v1 >>> (v5 &&& 31)) &&& (1 : Int32)) = (0 : Int32) then (xg_266_36 n M (v5 + (1 : Int32)) v4 v3 v1 v2) else (if v3 = (0 : Int32) then (xg_266_36 n M (v5 + (1 : Int32)) v4 v3 v1 v2) else (if v3 < (M.2.1 164 (v5.toNatClampNeg)) then (if v3 ≤ (M.2.1 164 (v5.toNatClampNeg)) then (xg_266_36 n M (v5 + (1 : Int32)) v4 (v3 - v3) v1 v2) else (xg_266_36 n M (v5 + (1 : Int32)) v4 (v3 - (M.2.1 164 (v5.toNatClampNeg))) v1 v2)) else (if (M.2.1 164 (v5.toNatClampNeg)) ≤ (0 : Int32) then (if v3 ≤ (M.2.1 164 (v5.toNatClampNeg)) then (xg_266_36 n M (v5 + (1 : Int32)) v4 (v3 - v3) v1 v2) else (xg_266_36 n M (v5 + (1 : Int32)) v4 (v3 - (M.2.1 164 (v5.toNatClampNeg))) v1 v2)) else (if v3 ≤ (M.2.1 164 (v5.toNatClampNeg)) then (xg_266_36 n M (v5 + (1 : Int32)) (v4 ||| ((1 : Int32) <<< (v5 &&& 31))) (v3 - v3) v1 v2) else (xg_266_36 n M (v5 + (1 : Int32)) (v4 ||| ((1 : Int32) <<< (v5 &&& 31))) (v3 - (M.2.1 164 (v5.toNatClampNeg))) v1 v2)))))))
def xq_266_36 : Nat → ro_Mm → Int32 → Int32 → Int32 → Int32 → Int32 → Prop
  | 0, _, _, _, _, _, _ => False
  | n + 1, M, v5, v4, v3, v1, v2 => (((M.2.1 163 1) ≤ v5 → True) ∧ (¬ ((M.2.1 163 1) ≤ v5) → ((((v1 >>> (v5 &&& 31)) &&& (1 : Int32)) = (0 : Int32) → (xq_266_36 n M (v5 + (1 : Int32)) v4 v3 v1 v2)) ∧ (¬ (((v1 >>> (v5 &&& 31)) &&& (1 : Int32)) = (0 : Int32)) → ((v3 = (0 : Int32) → (xq_266_36 n M (v5 + (1 : Int32)) v4 v3 v1 v2)) ∧ (¬ (v3 = (0 : Int32)) → (vp_in v5 6 ∧ ((v3 < (M.2.1 164 (v5.toNatClampNeg)) → (vp_in v5 6 ∧ ((v3 ≤ (M.2.1 164 (v5.toNatClampNeg)) → (xq_266_36 n M (v5 + (1 : Int32)) v4 (v3 - v3) v1 v2)) ∧ (¬ (v3 ≤ (M.2.1 164 (v5.toNatClampNeg))) → (vp_in v5 6 ∧ (xq_266_36 n M (v5 + (1 : Int32)) v4 (v3 - (M.2.1 164 (v5.toNatClampNeg))) v1 v2)))))) ∧ (¬ (v3 < (M.2.1 164 (v5.toNatClampNeg))) → (vp_in v5 6 ∧ (((M.2.1 164 (v5.toNatClampNeg)) ≤ (0 : Int32) → (vp_in v5 6 ∧ ((v3 ≤ (M.2.1 164 (v5.toNatClampNeg)) → (xq_266_36 n M (v5 + (1 : Int32)) v4 (v3 - v3) v1 v2)) ∧ (¬ (v3 ≤ (M.2.1 164 (v5.toNatClampNeg))) → (vp_in v5 6 ∧ (xq_266_36 n M (v5 + (1 : Int32)) v4 (v3 - (M.2.1 164 (v5.toNatClampNeg))) v1 v2)))))) ∧ (¬ ((M.2.1 164 (v5.toNatClampNeg)) ≤ (0 : Int32)) → (vp_in v5 6 ∧ ((v3 ≤ (M.2.1 164 (v5.toNatClampNeg)) → (xq_266_36 n M (v5 + (1 : Int32)) (v4 ||| ((1 : Int32) <<< (v5 &&& 31))) (v3 - v3) v1 v2)) ∧ (¬ (v3 ≤ (M.2.1 164 (v5.toNatClampNeg))) → (vp_in v5 6 ∧ (xq_266_36 n M (v5 + (1 : Int32)) (v4 ||| ((1 : Int32) <<< (v5 &&& 31))) (v3 - (M.2.1 164 (v5.toNatClampNeg))) v1 v2)))))))))))))))))
/-- RefusedOnceModel.dowry(II)I -/
noncomputable def xf_266 (M : ro_Mm) (v1 : Int32) (v2 : Int32) : Int32 := (if (xf_195 M v1 (0 : Int32) (((1 : Int32) <<< ((M.2.1 163 1) &&& 31)) - (1 : Int32))) then (if (xf_195 M v2 (0 : Int32) (99 : Int32)) then (if (xg_266_36 lp_N M (0 : Int32) (0 : Int32) v2 v1 v2).2.2 ≤ (0 : Int32) then (xg_266_36 lp_N M (0 : Int32) (0 : Int32) v2 v1 v2).2.1 else (-2 : Int32)) else (-1 : Int32)) else (-1 : Int32))
def xp_266 (M : ro_Mm) (v1 : Int32) (v2 : Int32) : Prop := (((xf_195 M v1 (0 : Int32) (((1 : Int32) <<< ((M.2.1 163 1) &&& 31)) - (1 : Int32))) → (((xf_195 M v2 (0 : Int32) (99 : Int32)) → (xq_266_36 lp_N M (0 : Int32) (0 : Int32) v2 v1 v2 ∧ True)) ∧ (¬ ((xf_195 M v2 (0 : Int32) (99 : Int32))) → True))) ∧ (¬ ((xf_195 M v1 (0 : Int32) (((1 : Int32) <<< ((M.2.1 163 1) &&& 31)) - (1 : Int32)))) → True))
/-- a loop of RefusedOnceModel.richest(I)I -/
noncomputable def xg_267_25 : Nat → ro_Mm → Int32 → Int32 → Int32 → Int32 → Int32 → Int32 × Int32
  | 0, M, v5, v4, v3, v2, v1 => (v5, v4)
  | n + 1, M, v5, v4, v3, v2, v1 => (if (M.2.1 163 1) ≤ v5 then (v5, v4) else (if (((4 : Int32) * (M.2.1 164 (v5.toNatClampNeg))) + (v3 * (M.2.1 165 (v5.toNatClampNeg)))) ≤ (((4 : Int32) * (M.2.1 164 (v4.toNatClampNeg))) + (v3 * (M.2.1 165 (v4.toNatClampNeg)))) then (xg_267_25 n M (v5 + (1 : Int32)) v4 v3 v2 v1) else (xg_267_25 n M (v5 + (1 : Int32)) v5 v3 v2 v1)))
def xq_267_25 : Nat → ro_Mm → Int32 → Int32 → Int32 → Int32 → Int32 → Prop
  | 0, _, _, _, _, _, _ => False
  | n + 1, M, v5, v4, v3, v2, v1 => (((M.2.1 163 1) ≤ v5 → True) ∧ (¬ ((M.2.1 163 1) ≤ v5) → (vp_in v5 6 ∧ (vp_in v5 6 ∧ (vp_in v4 6 ∧ (vp_in v4 6 ∧ (((((4 : Int32) * (M.2.1 164 (v5.toNatClampNeg))) + (v3 * (M.2.1 165 (v5.toNatClampNeg)))) ≤ (((4 : Int32) * (M.2.1 164 (v4.toNatClampNeg))) + (v3 * (M.2.1 165 (v4.toNatClampNeg)))) → (xq_267_25 n M (v5 + (1 : Int32)) v4 v3 v2 v1)) ∧ (¬ ((((4 : Int32) * (M.2.1 164 (v5.toNatClampNeg))) + (v3 * (M.2.1 165 (v5.toNatClampNeg)))) ≤ (((4 : Int32) * (M.2.1 164 (v4.toNatClampNeg))) + (v3 * (M.2.1 165 (v4.toNatClampNeg))))) → (xq_267_25 n M (v5 + (1 : Int32)) v5 v3 v2 v1)))))))))
/-- a loop of RefusedOnceModel.richest(I)I -/
noncomputable def xg_267_14 : Nat → ro_Mm → Int32 → Int32 → Int32 → Int32 × Int32
  | 0, M, v3, v2, v1 => (v3, v2)
  | n + 1, M, v3, v2, v1 => (if (4 : Int32) < v3 then (v3, v2) else (if (xg_267_25 lp_N M (1 : Int32) (0 : Int32) v3 v2 v1).2 = v1 then (xg_267_14 n M (v3 + (1 : Int32)) (v2 ||| ((1 : Int32) <<< (v3 &&& 31))) v1) else (xg_267_14 n M (v3 + (1 : Int32)) v2 v1)))
def xq_267_14 : Nat → ro_Mm → Int32 → Int32 → Int32 → Prop
  | 0, _, _, _, _ => False
  | n + 1, M, v3, v2, v1 => (((4 : Int32) < v3 → True) ∧ (¬ ((4 : Int32) < v3) → (xq_267_25 lp_N M (1 : Int32) (0 : Int32) v3 v2 v1 ∧ (((xg_267_25 lp_N M (1 : Int32) (0 : Int32) v3 v2 v1).2 = v1 → (xq_267_14 n M (v3 + (1 : Int32)) (v2 ||| ((1 : Int32) <<< (v3 &&& 31))) v1)) ∧ (¬ ((xg_267_25 lp_N M (1 : Int32) (0 : Int32) v3 v2 v1).2 = v1) → (xq_267_14 n M (v3 + (1 : Int32)) v2 v1))))))
/-- RefusedOnceModel.richest(I)I -/
noncomputable def xf_267 (M : ro_Mm) (v1 : Int32) : Int32 := (if (xf_204 M v1) then (xg_267_14 lp_N M (0 : Int32) (0 : Int32) v1).2 else (-1 : Int32))
def xp_267 (M : ro_Mm) (v1 : Int32) : Prop := (((xf_204 M v1) → (xq_267_14 lp_N M (0 : Int32) (0 : Int32) v1 ∧ True)) ∧ (¬ ((xf_204 M v1)) → True))
/-- a loop of RefusedOnceModel.isAsTold()Z -/
noncomputable def xg_270_2 : Nat → ro_Mm → Int32 → Bool × Bool × Int32
  | 0, M, v1 => (false, false, v1)
  | n + 1, M, v1 => (if (M.2.1 191 ((M.2.1 163 36).toNatClampNeg)) ≤ v1 then (false, false, v1) else (if (M.2.1 163 1) ≤ (v1 / (2 : Int32)) then (false, false, v1) else (if (ro_irem v1 (2 : Int32)) = (0 : Int32) then (if (M.2.1 181 ((v1 / (2 : Int32)).toNatClampNeg)) = (xf_238 M (M.2.1 163 36) v1) then (xg_270_2 n M (v1 + (1 : Int32))) else (true, false, v1)) else (if (M.2.1 182 ((v1 / (2 : Int32)).toNatClampNeg)) = (xf_238 M (M.2.1 163 36) v1) then (xg_270_2 n M (v1 + (1 : Int32))) else (true, false, v1)))))
def xq_270_2 : Nat → ro_Mm → Int32 → Prop
  | 0, _, _ => False
  | n + 1, M, v1 => (vp_in (M.2.1 163 36) 6 ∧ (((M.2.1 191 ((M.2.1 163 36).toNatClampNeg)) ≤ v1 → True) ∧ (¬ ((M.2.1 191 ((M.2.1 163 36).toNatClampNeg)) ≤ v1) → (((M.2.1 163 1) ≤ (v1 / (2 : Int32)) → True) ∧ (¬ ((M.2.1 163 1) ≤ (v1 / (2 : Int32))) → (((ro_irem v1 (2 : Int32)) = (0 : Int32) → (vp_in (v1 / (2 : Int32)) 6 ∧ (xp_238 M (M.2.1 163 36) v1 ∧ (((M.2.1 181 ((v1 / (2 : Int32)).toNatClampNeg)) = (xf_238 M (M.2.1 163 36) v1) → (xq_270_2 n M (v1 + (1 : Int32)))) ∧ (¬ ((M.2.1 181 ((v1 / (2 : Int32)).toNatClampNeg)) = (xf_238 M (M.2.1 163 36) v1)) → True))))) ∧ (¬ ((ro_irem v1 (2 : Int32)) = (0 : Int32)) → (vp_in (v1 / (2 : Int32)) 6 ∧ (xp_238 M (M.2.1 163 36) v1 ∧ (((M.2.1 182 ((v1 / (2 : Int32)).toNatClampNeg)) = (xf_238 M (M.2.1 163 36) v1) → (xq_270_2 n M (v1 + (1 : Int32)))) ∧ (¬ ((M.2.1 182 ((v1 / (2 : Int32)).toNatClampNeg)) = (xf_238 M (M.2.1 163 36) v1)) → True)))))))))))
/-- RefusedOnceModel.isAsTold()Z -/
noncomputable def xf_270 (M : ro_Mm) : Bool := (if (xg_270_2 lp_N M (0 : Int32)).1 = true then (xg_270_2 lp_N M (0 : Int32)).2.1 else true)
def xp_270 (M : ro_Mm) : Prop := (xq_270_2 lp_N M (0 : Int32) ∧ True)
/-- a loop of RefusedOnceModel.bitsOf(I)I -/
noncomputable def xg_272_4 : Nat → ro_Mm → Int32 → Int32 → Int32 → Int32 × Int32
  | 0, M, v2, v1, v0 => (v2, v1)
  | n + 1, M, v2, v1, v0 => (if v2 = (0 : Int32) then (v2, v1) else (xg_272_4 n M (v2 &&& (v2 - (1 : Int32))) (v1 + (1 : Int32)) v0))
def xq_272_4 : Nat → ro_Mm → Int32 → Int32 → Int32 → Prop
  | 0, _, _, _, _ => False
  | n + 1, M, v2, v1, v0 => ((v2 = (0 : Int32) → True) ∧ (¬ (v2 = (0 : Int32)) → (xq_272_4 n M (v2 &&& (v2 - (1 : Int32))) (v1 + (1 : Int32)) v0)))
/-- RefusedOnceModel.bitsOf(I)I -/
noncomputable def xf_272 (M : ro_Mm) (v0 : Int32) : Int32 := (xg_272_4 lp_N M v0 (0 : Int32) v0).2
def xp_272 (M : ro_Mm) (v0 : Int32) : Prop := (xq_272_4 lp_N M v0 (0 : Int32) v0 ∧ True)
/-- a loop of RefusedOnceModel.keepNow1()V -/
noncomputable def xg_275_2 : Nat → ro_Mm → Int32 → Int32 × ro_Mm
  | 0, M, v1 => (v1, M)
  | n + 1, M, v1 => (if (M.2.1 163 1) ≤ v1 then (v1, M) else (xg_275_2 n (ro_sI (ro_sI M 164 (v1.toNatClampNeg) (M.2.1 181 (v1.toNatClampNeg))) 165 (v1.toNatClampNeg) (M.2.1 182 (v1.toNatClampNeg))) (v1 + (1 : Int32))))
def xq_275_2 : Nat → ro_Mm → Int32 → Prop
  | 0, _, _ => False
  | n + 1, M, v1 => (((M.2.1 163 1) ≤ v1 → True) ∧ (¬ ((M.2.1 163 1) ≤ v1) → (vp_in v1 6 ∧ (vp_in v1 6 ∧ (vp_in v1 6 ∧ (vp_in v1 6 ∧ (xq_275_2 n (ro_sI (ro_sI M 164 (v1.toNatClampNeg) (M.2.1 181 (v1.toNatClampNeg))) 165 (v1.toNatClampNeg) (M.2.1 182 (v1.toNatClampNeg))) (v1 + (1 : Int32)))))))))
theorem xl_275_2 : ∀ (n : Nat) {M : ro_Mm} {v1 : Int32} (hL : ro_lay M) (hp : xq_275_2 n M v1), ro_lay (xg_275_2 n M v1).2 := by
  intro n
  induction n with
  | zero => intro M v1 hL hp; exact False.elim hp
  | succ n ih =>
    intro M v1 hL hp
    rw [xq_275_2] at hp
    rw [xg_275_2]
    by_cases hz : (M.2.1 163 1) ≤ v1
    · have hp := hp.1 hz
      rw [if_pos hz]
      exact hL
    · have hp := hp.2 hz
      rw [if_neg hz]
      obtain ⟨q1, hp⟩ := hp
      obtain ⟨q2, hp⟩ := hp
      obtain ⟨q3, hp⟩ := hp
      obtain ⟨q4, hp⟩ := hp
      exact ih hL  hp
theorem xwI_275_2 : ∀ {n : Nat} {M : ro_Mm} {v1 : Int32} {c j : Nat} (n0 : c ≠ 164) (n1 : c ≠ 165), (xg_275_2 n M v1).2.2.1 c j = M.2.1 c j := by
  intro n
  induction n with
  | zero => intro M v1 c j n0 n1; rfl
  | succ n ih =>
    intro M v1 c j n0 n1
    rw [xg_275_2]
    by_cases hz : (M.2.1 163 1) ≤ v1
    · rw [if_pos hz]
      first | done | exact rfl
    · rw [if_neg hz]
      first | done | exact ((((ih n0 n1)).trans (ro_sI_ne n1)).trans (ro_sI_ne n0))
theorem xwJ_275_2 : ∀ {n : Nat} {M : ro_Mm} {v1 : Int32} {c j : Nat}, (xg_275_2 n M v1).2.2.2.1 c j = M.2.2.1 c j := by
  intro n
  induction n with
  | zero => intro M v1 c j; rfl
  | succ n ih =>
    intro M v1 c j
    rw [xg_275_2]
    by_cases hz : (M.2.1 163 1) ≤ v1
    · rw [if_pos hz]
      first | done | exact rfl
    · rw [if_neg hz]
      first | done | exact ((((ih)).trans (congrFun (congrFun ro_sI_J _) _)).trans (congrFun (congrFun ro_sI_J _) _))
/-- RefusedOnceModel.keepNow1()V -/
noncomputable def xm_275 (M : ro_Mm) : ro_Mm := (xg_275_2 lp_N M (0 : Int32)).2
def xp_275 (M : ro_Mm) : Prop := (xq_275_2 lp_N M (0 : Int32) ∧ True)
theorem xl_275 {M : ro_Mm} (hL : ro_lay M) (hp : xp_275 M) : ro_lay (xm_275 M) := by
  unfold xp_275 at hp
  unfold xm_275
  obtain ⟨q5, hp⟩ := hp
  exact (xl_275_2 lp_N hL q5)
theorem xwI_275 {M : ro_Mm} {c j : Nat} (n0 : c ≠ 164) (n1 : c ≠ 165) : (xm_275 M).2.1 c j = M.2.1 c j := by
  unfold xm_275
  first | done | exact (xwI_275_2 n0 n1)
theorem xwJ_275 {M : ro_Mm} {c j : Nat} : (xm_275 M).2.2.1 c j = M.2.2.1 c j := by
  unfold xm_275
  first | done | exact (xwJ_275_2)
/-- a loop of RefusedOnceModel.image()I -/
noncomputable def xg_279_25 : Nat → ro_Mm → Int32 → Int32 × ro_Mm
  | 0, M, v1 => (v1, M)
  | n + 1, M, v1 => (if (M.2.1 163 1) ≤ v1 then (v1, M) else (xg_279_25 n (ro_sI (ro_sI M 185 (v1.toNatClampNeg) (M.2.1 164 (v1.toNatClampNeg))) 186 (v1.toNatClampNeg) (M.2.1 165 (v1.toNatClampNeg))) (v1 + (1 : Int32))))
def xq_279_25 : Nat → ro_Mm → Int32 → Prop
  | 0, _, _ => False
  | n + 1, M, v1 => (((M.2.1 163 1) ≤ v1 → True) ∧ (¬ ((M.2.1 163 1) ≤ v1) → (vp_in v1 6 ∧ (vp_in v1 6 ∧ (vp_in v1 6 ∧ (vp_in v1 6 ∧ (xq_279_25 n (ro_sI (ro_sI M 185 (v1.toNatClampNeg) (M.2.1 164 (v1.toNatClampNeg))) 186 (v1.toNatClampNeg) (M.2.1 165 (v1.toNatClampNeg))) (v1 + (1 : Int32)))))))))
theorem xl_279_25 : ∀ (n : Nat) {M : ro_Mm} {v1 : Int32} (hL : ro_lay M) (hp : xq_279_25 n M v1), ro_lay (xg_279_25 n M v1).2 := by
  intro n
  induction n with
  | zero => intro M v1 hL hp; exact False.elim hp
  | succ n ih =>
    intro M v1 hL hp
    rw [xq_279_25] at hp
    rw [xg_279_25]
    by_cases hz : (M.2.1 163 1) ≤ v1
    · have hp := hp.1 hz
      rw [if_pos hz]
      exact hL
    · have hp := hp.2 hz
      rw [if_neg hz]
      obtain ⟨q1, hp⟩ := hp
      obtain ⟨q2, hp⟩ := hp
      obtain ⟨q3, hp⟩ := hp
      obtain ⟨q4, hp⟩ := hp
      exact ih hL  hp
theorem xwI_279_25 : ∀ {n : Nat} {M : ro_Mm} {v1 : Int32} {c j : Nat} (n0 : c ≠ 185) (n1 : c ≠ 186), (xg_279_25 n M v1).2.2.1 c j = M.2.1 c j := by
  intro n
  induction n with
  | zero => intro M v1 c j n0 n1; rfl
  | succ n ih =>
    intro M v1 c j n0 n1
    rw [xg_279_25]
    by_cases hz : (M.2.1 163 1) ≤ v1
    · rw [if_pos hz]
      first | done | exact rfl
    · rw [if_neg hz]
      first | done | exact ((((ih n0 n1)).trans (ro_sI_ne n1)).trans (ro_sI_ne n0))
theorem xwJ_279_25 : ∀ {n : Nat} {M : ro_Mm} {v1 : Int32} {c j : Nat}, (xg_279_25 n M v1).2.2.2.1 c j = M.2.2.1 c j := by
  intro n
  induction n with
  | zero => intro M v1 c j; rfl
  | succ n ih =>
    intro M v1 c j
    rw [xg_279_25]
    by_cases hz : (M.2.1 163 1) ≤ v1
    · rw [if_pos hz]
      first | done | exact rfl
    · rw [if_neg hz]
      first | done | exact ((((ih)).trans (congrFun (congrFun ro_sI_J _) _)).trans (congrFun (congrFun ro_sI_J _) _))
/-- a loop of RefusedOnceModel.image()I -/
noncomputable def xg_279_65 : Nat → ro_Mm → Int32 → Int32 × ro_Mm
  | 0, M, v1 => (v1, M)
  | n + 1, M, v1 => (if (4 : Int32) ≤ v1 then (v1, M) else (xg_279_65 n (ro_sI M 187 (v1.toNatClampNeg) (M.2.1 184 (v1.toNatClampNeg))) (v1 + (1 : Int32))))
def xq_279_65 : Nat → ro_Mm → Int32 → Prop
  | 0, _, _ => False
  | n + 1, M, v1 => (((4 : Int32) ≤ v1 → True) ∧ (¬ ((4 : Int32) ≤ v1) → (vp_in v1 4 ∧ (vp_in v1 4 ∧ (xq_279_65 n (ro_sI M 187 (v1.toNatClampNeg) (M.2.1 184 (v1.toNatClampNeg))) (v1 + (1 : Int32)))))))
theorem xl_279_65 : ∀ (n : Nat) {M : ro_Mm} {v1 : Int32} (hL : ro_lay M) (hp : xq_279_65 n M v1), ro_lay (xg_279_65 n M v1).2 := by
  intro n
  induction n with
  | zero => intro M v1 hL hp; exact False.elim hp
  | succ n ih =>
    intro M v1 hL hp
    rw [xq_279_65] at hp
    rw [xg_279_65]
    by_cases hz : (4 : Int32) ≤ v1
    · have hp := hp.1 hz
      rw [if_pos hz]
      exact hL
    · have hp := hp.2 hz
      rw [if_neg hz]
      obtain ⟨q7, hp⟩ := hp
      obtain ⟨q8, hp⟩ := hp
      exact ih hL  hp
theorem xwI_279_65 : ∀ {n : Nat} {M : ro_Mm} {v1 : Int32} {c j : Nat} (n0 : c ≠ 187), (xg_279_65 n M v1).2.2.1 c j = M.2.1 c j := by
  intro n
  induction n with
  | zero => intro M v1 c j n0; rfl
  | succ n ih =>
    intro M v1 c j n0
    rw [xg_279_65]
    by_cases hz : (4 : Int32) ≤ v1
    · rw [if_pos hz]
      first | done | exact rfl
    · rw [if_neg hz]
      first | done | exact (((ih n0)).trans (ro_sI_ne n0))
theorem xwJ_279_65 : ∀ {n : Nat} {M : ro_Mm} {v1 : Int32} {c j : Nat}, (xg_279_65 n M v1).2.2.2.1 c j = M.2.2.1 c j := by
  intro n
  induction n with
  | zero => intro M v1 c j; rfl
  | succ n ih =>
    intro M v1 c j
    rw [xg_279_65]
    by_cases hz : (4 : Int32) ≤ v1
    · rw [if_pos hz]
      first | done | exact rfl
    · rw [if_neg hz]
      first | done | exact (((ih)).trans (congrFun (congrFun ro_sI_J _) _))
/-- RefusedOnceModel.image()I -/
noncomputable def xf_279 (M : ro_Mm) : Int32 := (M.2.1 184 0)
noncomputable def xm_279 (M : ro_Mm) : ro_Mm := (xg_279_65 lp_N (xg_279_25 lp_N (ro_sI (ro_sI (ro_sI M 163 43 (1 : Int32)) 163 44 (M.2.1 163 1)) 163 45 (M.2.1 168 1)) (0 : Int32)).2 (0 : Int32)).2
def xp_279 (M : ro_Mm) : Prop := (xq_279_25 lp_N (ro_sI (ro_sI (ro_sI M 163 43 (1 : Int32)) 163 44 (M.2.1 163 1)) 163 45 (M.2.1 168 1)) (0 : Int32) ∧ (xq_279_65 lp_N (xg_279_25 lp_N (ro_sI (ro_sI (ro_sI M 163 43 (1 : Int32)) 163 44 (M.2.1 163 1)) 163 45 (M.2.1 168 1)) (0 : Int32)).2 (0 : Int32) ∧ True))
theorem xl_279 {M : ro_Mm} (hL : ro_lay M) (hp : xp_279 M) : ro_lay (xm_279 M) := by
  unfold xp_279 at hp
  unfold xm_279
  obtain ⟨q5, hp⟩ := hp
  obtain ⟨q9, hp⟩ := hp
  exact (xl_279_65 lp_N (xl_279_25 lp_N hL q5) q9)
theorem xwI_279 {M : ro_Mm} {c j : Nat} (n0 : c ≠ 163) (n1 : c ≠ 185) (n2 : c ≠ 186) (n3 : c ≠ 187) : (xm_279 M).2.1 c j = M.2.1 c j := by
  unfold xm_279
  first | done | exact ((((((xwI_279_65 n3)).trans (xwI_279_25 n1 n2)).trans (ro_sI_ne n0)).trans (ro_sI_ne n0)).trans (ro_sI_ne n0))
theorem xwJ_279 {M : ro_Mm} {c j : Nat} : (xm_279 M).2.2.1 c j = M.2.2.1 c j := by
  unfold xm_279
  first | done | exact ((((((xwJ_279_65)).trans (xwJ_279_25)).trans (congrFun (congrFun ro_sI_J _) _)).trans (congrFun (congrFun ro_sI_J _) _)).trans (congrFun (congrFun ro_sI_J _) _))
/-- a loop of RefusedOnceModel.back()I -/
noncomputable def xg_280_22 : Nat → ro_Mm → Int32 → Int32 × ro_Mm
  | 0, M, v1 => (v1, M)
  | n + 1, M, v1 => (if (M.2.1 163 44) ≤ v1 then (v1, M) else (xg_280_22 n (ro_sI (ro_sI M 164 (v1.toNatClampNeg) (M.2.1 185 (v1.toNatClampNeg))) 165 (v1.toNatClampNeg) (M.2.1 186 (v1.toNatClampNeg))) (v1 + (1 : Int32))))
def xq_280_22 : Nat → ro_Mm → Int32 → Prop
  | 0, _, _ => False
  | n + 1, M, v1 => (((M.2.1 163 44) ≤ v1 → True) ∧ (¬ ((M.2.1 163 44) ≤ v1) → (vp_in v1 6 ∧ (vp_in v1 6 ∧ (vp_in v1 6 ∧ (vp_in v1 6 ∧ (xq_280_22 n (ro_sI (ro_sI M 164 (v1.toNatClampNeg) (M.2.1 185 (v1.toNatClampNeg))) 165 (v1.toNatClampNeg) (M.2.1 186 (v1.toNatClampNeg))) (v1 + (1 : Int32)))))))))
theorem xl_280_22 : ∀ (n : Nat) {M : ro_Mm} {v1 : Int32} (hL : ro_lay M) (hp : xq_280_22 n M v1), ro_lay (xg_280_22 n M v1).2 := by
  intro n
  induction n with
  | zero => intro M v1 hL hp; exact False.elim hp
  | succ n ih =>
    intro M v1 hL hp
    rw [xq_280_22] at hp
    rw [xg_280_22]
    by_cases hz : (M.2.1 163 44) ≤ v1
    · have hp := hp.1 hz
      rw [if_pos hz]
      exact hL
    · have hp := hp.2 hz
      rw [if_neg hz]
      obtain ⟨q2, hp⟩ := hp
      obtain ⟨q3, hp⟩ := hp
      obtain ⟨q4, hp⟩ := hp
      obtain ⟨q5, hp⟩ := hp
      exact ih hL  hp
theorem xwI_280_22 : ∀ {n : Nat} {M : ro_Mm} {v1 : Int32} {c j : Nat} (n0 : c ≠ 164) (n1 : c ≠ 165), (xg_280_22 n M v1).2.2.1 c j = M.2.1 c j := by
  intro n
  induction n with
  | zero => intro M v1 c j n0 n1; rfl
  | succ n ih =>
    intro M v1 c j n0 n1
    rw [xg_280_22]
    by_cases hz : (M.2.1 163 44) ≤ v1
    · rw [if_pos hz]
      first | done | exact rfl
    · rw [if_neg hz]
      first | done | exact ((((ih n0 n1)).trans (ro_sI_ne n1)).trans (ro_sI_ne n0))
theorem xwJ_280_22 : ∀ {n : Nat} {M : ro_Mm} {v1 : Int32} {c j : Nat}, (xg_280_22 n M v1).2.2.2.1 c j = M.2.2.1 c j := by
  intro n
  induction n with
  | zero => intro M v1 c j; rfl
  | succ n ih =>
    intro M v1 c j
    rw [xg_280_22]
    by_cases hz : (M.2.1 163 44) ≤ v1
    · rw [if_pos hz]
      first | done | exact rfl
    · rw [if_neg hz]
      first | done | exact ((((ih)).trans (congrFun (congrFun ro_sI_J _) _)).trans (congrFun (congrFun ro_sI_J _) _))
/-- a loop of RefusedOnceModel.back()I -/
noncomputable def xg_280_62 : Nat → ro_Mm → Int32 → Int32 × ro_Mm
  | 0, M, v1 => (v1, M)
  | n + 1, M, v1 => (if (4 : Int32) ≤ v1 then (v1, M) else (xg_280_62 n (ro_sI M 184 (v1.toNatClampNeg) (M.2.1 187 (v1.toNatClampNeg))) (v1 + (1 : Int32))))
def xq_280_62 : Nat → ro_Mm → Int32 → Prop
  | 0, _, _ => False
  | n + 1, M, v1 => (((4 : Int32) ≤ v1 → True) ∧ (¬ ((4 : Int32) ≤ v1) → (vp_in v1 4 ∧ (vp_in v1 4 ∧ (xq_280_62 n (ro_sI M 184 (v1.toNatClampNeg) (M.2.1 187 (v1.toNatClampNeg))) (v1 + (1 : Int32)))))))
theorem xl_280_62 : ∀ (n : Nat) {M : ro_Mm} {v1 : Int32} (hL : ro_lay M) (hp : xq_280_62 n M v1), ro_lay (xg_280_62 n M v1).2 := by
  intro n
  induction n with
  | zero => intro M v1 hL hp; exact False.elim hp
  | succ n ih =>
    intro M v1 hL hp
    rw [xq_280_62] at hp
    rw [xg_280_62]
    by_cases hz : (4 : Int32) ≤ v1
    · have hp := hp.1 hz
      rw [if_pos hz]
      exact hL
    · have hp := hp.2 hz
      rw [if_neg hz]
      obtain ⟨q8, hp⟩ := hp
      obtain ⟨q9, hp⟩ := hp
      exact ih hL  hp
theorem xwI_280_62 : ∀ {n : Nat} {M : ro_Mm} {v1 : Int32} {c j : Nat} (n0 : c ≠ 184), (xg_280_62 n M v1).2.2.1 c j = M.2.1 c j := by
  intro n
  induction n with
  | zero => intro M v1 c j n0; rfl
  | succ n ih =>
    intro M v1 c j n0
    rw [xg_280_62]
    by_cases hz : (4 : Int32) ≤ v1
    · rw [if_pos hz]
      first | done | exact rfl
    · rw [if_neg hz]
      first | done | exact (((ih n0)).trans (ro_sI_ne n0))
theorem xwJ_280_62 : ∀ {n : Nat} {M : ro_Mm} {v1 : Int32} {c j : Nat}, (xg_280_62 n M v1).2.2.2.1 c j = M.2.2.1 c j := by
  intro n
  induction n with
  | zero => intro M v1 c j; rfl
  | succ n ih =>
    intro M v1 c j
    rw [xg_280_62]
    by_cases hz : (4 : Int32) ≤ v1
    · rw [if_pos hz]
      first | done | exact rfl
    · rw [if_neg hz]
      first | done | exact (((ih)).trans (congrFun (congrFun ro_sI_J _) _))
/-- RefusedOnceModel.back()I -/
noncomputable def xf_280 (M : ro_Mm) : Int32 := (if (M.2.1 163 43) = (0 : Int32) then (-5 : Int32) else ((xg_280_62 lp_N (xg_280_22 lp_N (ro_sI M 168 1 (M.2.1 163 45)) (0 : Int32)).2 (0 : Int32)).2.2.1 184 0))
noncomputable def xm_280 (M : ro_Mm) : ro_Mm := (if (M.2.1 163 43) = (0 : Int32) then M else (xg_280_62 lp_N (xg_280_22 lp_N (ro_sI M 168 1 (M.2.1 163 45)) (0 : Int32)).2 (0 : Int32)).2)
def xp_280 (M : ro_Mm) : Prop := (((M.2.1 163 43) = (0 : Int32) → True) ∧ (¬ ((M.2.1 163 43) = (0 : Int32)) → (xq_280_22 lp_N (ro_sI M 168 1 (M.2.1 163 45)) (0 : Int32) ∧ (xq_280_62 lp_N (xg_280_22 lp_N (ro_sI M 168 1 (M.2.1 163 45)) (0 : Int32)).2 (0 : Int32) ∧ True))))
theorem xl_280 {M : ro_Mm} (hL : ro_lay M) (hp : xp_280 M) : ro_lay (xm_280 M) := by
  unfold xp_280 at hp
  unfold xm_280
  by_cases hz : (M.2.1 163 43) = (0 : Int32)
  · have hp := hp.1 hz
    rw [if_pos hz]
    exact hL
  · have hp := hp.2 hz
    rw [if_neg hz]
    obtain ⟨q6, hp⟩ := hp
    obtain ⟨q10, hp⟩ := hp
    exact (xl_280_62 lp_N (xl_280_22 lp_N hL q6) q10)
theorem xwI_280 {M : ro_Mm} {c j : Nat} (n0 : c ≠ 168) (n1 : c ≠ 164) (n2 : c ≠ 165) (n3 : c ≠ 184) : (xm_280 M).2.1 c j = M.2.1 c j := by
  unfold xm_280
  by_cases hz : (M.2.1 163 43) = (0 : Int32)
  · rw [if_pos hz]
    first | done | exact rfl
  · rw [if_neg hz]
    first | done | exact ((((xwI_280_62 n3)).trans (xwI_280_22 n1 n2)).trans (ro_sI_ne n0))
theorem xwJ_280 {M : ro_Mm} {c j : Nat} : (xm_280 M).2.2.1 c j = M.2.2.1 c j := by
  unfold xm_280
  by_cases hz : (M.2.1 163 43) = (0 : Int32)
  · rw [if_pos hz]
    first | done | exact rfl
  · rw [if_neg hz]
    first | done | exact ((((xwJ_280_62)).trans (xwJ_280_22)).trans (congrFun (congrFun ro_sI_J _) _))
/-- a loop of RefusedOnceModel.allOf(Z)I -/
noncomputable def xg_299_4 : Nat → ro_Mm → Int32 → Int32 → Int32 → Int32 × Int32
  | 0, M, v3, v2, v1 => (v3, v2)
  | n + 1, M, v3, v2, v1 => (if (M.2.1 163 1) ≤ v3 then (v3, v2) else (if v1 = (0 : Int32) then (xg_299_4 n M (v3 + (1 : Int32)) (v2 + (M.2.1 165 (v3.toNatClampNeg))) v1) else (xg_299_4 n M (v3 + (1 : Int32)) (v2 + (M.2.1 164 (v3.toNatClampNeg))) v1)))
def xq_299_4 : Nat → ro_Mm → Int32 → Int32 → Int32 → Prop
  | 0, _, _, _, _ => False
  | n + 1, M, v3, v2, v1 => (((M.2.1 163 1) ≤ v3 → True) ∧ (¬ ((M.2.1 163 1) ≤ v3) → ((v1 = (0 : Int32) → (vp_in v3 6 ∧ (xq_299_4 n M (v3 + (1 : Int32)) (v2 + (M.2.1 165 (v3.toNatClampNeg))) v1))) ∧ (¬ (v1 = (0 : Int32)) → (vp_in v3 6 ∧ (xq_299_4 n M (v3 + (1 : Int32)) (v2 + (M.2.1 164 (v3.toNatClampNeg))) v1))))))
/-- RefusedOnceModel.allOf(Z)I -/
noncomputable def xf_299 (M : ro_Mm) (v1 : Bool) : Int32 := (xg_299_4 lp_N M (0 : Int32) (0 : Int32) (ro_b v1)).2
def xp_299 (M : ro_Mm) (v1 : Bool) : Prop := (xq_299_4 lp_N M (0 : Int32) (0 : Int32) (ro_b v1) ∧ True)
/-- a loop of RefusedOnceModel.row(III)I -/
noncomputable def xg_301_54 : Nat → ro_Mm → Int32 → Int32 → Int32 → Int32 → Int32 × ro_Mm
  | 0, M, v4, v1, v2, v3 => (v4, M)
  | n + 1, M, v4, v1, v2, v3 => (if (((60 : Int32) * v1) + (60 : Int32)) ≤ v4 then (v4, M) else (xg_301_54 n (ro_sJ M 192 (v4.toNatClampNeg) (0 : Int64)) (v4 + (1 : Int32)) v1 v2 v3))
def xq_301_54 : Nat → ro_Mm → Int32 → Int32 → Int32 → Int32 → Prop
  | 0, _, _, _, _, _ => False
  | n + 1, M, v4, v1, v2, v3 => (((((60 : Int32) * v1) + (60 : Int32)) ≤ v4 → True) ∧ (¬ ((((60 : Int32) * v1) + (60 : Int32)) ≤ v4) → (vp_in v4 360 ∧ (xq_301_54 n (ro_sJ M 192 (v4.toNatClampNeg) (0 : Int64)) (v4 + (1 : Int32)) v1 v2 v3))))
theorem xl_301_54 : ∀ (n : Nat) {M : ro_Mm} {v4 : Int32} {v1 : Int32} {v2 : Int32} {v3 : Int32} (hL : ro_lay M) (hp : xq_301_54 n M v4 v1 v2 v3), ro_lay (xg_301_54 n M v4 v1 v2 v3).2 := by
  intro n
  induction n with
  | zero => intro M v4 v1 v2 v3 hL hp; exact False.elim hp
  | succ n ih =>
    intro M v4 v1 v2 v3 hL hp
    rw [xq_301_54] at hp
    rw [xg_301_54]
    by_cases hz : (((60 : Int32) * v1) + (60 : Int32)) ≤ v4
    · have hp := hp.1 hz
      rw [if_pos hz]
      exact hL
    · have hp := hp.2 hz
      rw [if_neg hz]
      obtain ⟨q7, hp⟩ := hp
      exact ih hL  hp
theorem xwI_301_54 : ∀ {n : Nat} {M : ro_Mm} {v4 : Int32} {v1 : Int32} {v2 : Int32} {v3 : Int32} {c j : Nat}, (xg_301_54 n M v4 v1 v2 v3).2.2.1 c j = M.2.1 c j := by
  intro n
  induction n with
  | zero => intro M v4 v1 v2 v3 c j; rfl
  | succ n ih =>
    intro M v4 v1 v2 v3 c j
    rw [xg_301_54]
    by_cases hz : (((60 : Int32) * v1) + (60 : Int32)) ≤ v4
    · rw [if_pos hz]
      first | done | exact rfl
    · rw [if_neg hz]
      first | done | exact (((ih)).trans (congrFun (congrFun ro_sJ_I _) _))
theorem xwJ_301_54 : ∀ {n : Nat} {M : ro_Mm} {v4 : Int32} {v1 : Int32} {v2 : Int32} {v3 : Int32} {c j : Nat} (n0 : c ≠ 192), (xg_301_54 n M v4 v1 v2 v3).2.2.2.1 c j = M.2.2.1 c j := by
  intro n
  induction n with
  | zero => intro M v4 v1 v2 v3 c j n0; rfl
  | succ n ih =>
    intro M v4 v1 v2 v3 c j n0
    rw [xg_301_54]
    by_cases hz : (((60 : Int32) * v1) + (60 : Int32)) ≤ v4
    · rw [if_pos hz]
      first | done | exact rfl
    · rw [if_neg hz]
      first | done | exact (((ih n0)).trans (ro_sJ_ne n0))
/-- RefusedOnceModel.row(III)I -/
noncomputable def xf_301 (M : ro_Mm) (v1 : Int32) (v2 : Int32) (v3 : Int32) : Int32 := (if (xf_198 M v1) then (if (xf_195 M v2 (0 : Int32) (4 : Int32)) then (if v3 ≤ (60 : Int32) then (if (0 : Int32) ≤ v3 then (1 : Int32) else (-14 : Int32)) else (-1 : Int32)) else (-1 : Int32)) else (-1 : Int32))
noncomputable def xm_301 (M : ro_Mm) (v1 : Int32) (v2 : Int32) (v3 : Int32) : ro_Mm := (if (xf_198 M v1) then (if (xf_195 M v2 (0 : Int32) (4 : Int32)) then (if v3 ≤ (60 : Int32) then (if (0 : Int32) ≤ v3 then (xg_301_54 lp_N (ro_sI (ro_sI M 190 (v1.toNatClampNeg) ((-2 : Int32) - v2)) 191 (v1.toNatClampNeg) v3) ((60 : Int32) * v1) v1 v2 v3).2 else M) else M) else M) else M)
def xp_301 (M : ro_Mm) (v1 : Int32) (v2 : Int32) (v3 : Int32) : Prop := (((xf_198 M v1) → (((xf_195 M v2 (0 : Int32) (4 : Int32)) → ((v3 ≤ (60 : Int32) → (((0 : Int32) ≤ v3 → (vp_in v1 6 ∧ (vp_in v1 6 ∧ (xq_301_54 lp_N (ro_sI (ro_sI M 190 (v1.toNatClampNeg) ((-2 : Int32) - v2)) 191 (v1.toNatClampNeg) v3) ((60 : Int32) * v1) v1 v2 v3 ∧ True)))) ∧ (¬ ((0 : Int32) ≤ v3) → True))) ∧ (¬ (v3 ≤ (60 : Int32)) → True))) ∧ (¬ ((xf_195 M v2 (0 : Int32) (4 : Int32))) → True))) ∧ (¬ ((xf_198 M v1)) → True))
theorem xl_301 {M : ro_Mm} {v1 : Int32} {v2 : Int32} {v3 : Int32} (hL : ro_lay M) (hp : xp_301 M v1 v2 v3) : ro_lay (xm_301 M v1 v2 v3) := by
  unfold xp_301 at hp
  unfold xm_301
  by_cases hz : (xf_198 M v1)
  · have hp := hp.1 hz
    rw [if_pos hz]
    by_cases hz : (xf_195 M v2 (0 : Int32) (4 : Int32))
    · have hp := hp.1 hz
      rw [if_pos hz]
      by_cases hz : v3 ≤ (60 : Int32)
      · have hp := hp.1 hz
        rw [if_pos hz]
        by_cases hz : (0 : Int32) ≤ v3
        · have hp := hp.1 hz
          rw [if_pos hz]
          obtain ⟨q4, hp⟩ := hp
          obtain ⟨q5, hp⟩ := hp
          obtain ⟨q8, hp⟩ := hp
          exact (xl_301_54 lp_N hL q8)
        · have hp := hp.2 hz
          rw [if_neg hz]
          exact hL
      · have hp := hp.2 hz
        rw [if_neg hz]
        exact hL
    · have hp := hp.2 hz
      rw [if_neg hz]
      exact hL
  · have hp := hp.2 hz
    rw [if_neg hz]
    exact hL
theorem xwI_301 {M : ro_Mm} {v1 : Int32} {v2 : Int32} {v3 : Int32} {c j : Nat} (n0 : c ≠ 190) (n1 : c ≠ 191) : (xm_301 M v1 v2 v3).2.1 c j = M.2.1 c j := by
  unfold xm_301
  by_cases hz : (xf_198 M v1)
  · rw [if_pos hz]
    by_cases hz : (xf_195 M v2 (0 : Int32) (4 : Int32))
    · rw [if_pos hz]
      by_cases hz : v3 ≤ (60 : Int32)
      · rw [if_pos hz]
        by_cases hz : (0 : Int32) ≤ v3
        · rw [if_pos hz]
          first | done | exact ((((xwI_301_54)).trans (ro_sI_ne n1)).trans (ro_sI_ne n0))
        · rw [if_neg hz]
          first | done | exact rfl
      · rw [if_neg hz]
        first | done | exact rfl
    · rw [if_neg hz]
      first | done | exact rfl
  · rw [if_neg hz]
    first | done | exact rfl
theorem xwJ_301 {M : ro_Mm} {v1 : Int32} {v2 : Int32} {v3 : Int32} {c j : Nat} (n0 : c ≠ 192) : (xm_301 M v1 v2 v3).2.2.1 c j = M.2.2.1 c j := by
  unfold xm_301
  by_cases hz : (xf_198 M v1)
  · rw [if_pos hz]
    by_cases hz : (xf_195 M v2 (0 : Int32) (4 : Int32))
    · rw [if_pos hz]
      by_cases hz : v3 ≤ (60 : Int32)
      · rw [if_pos hz]
        by_cases hz : (0 : Int32) ≤ v3
        · rw [if_pos hz]
          first | done | exact ((((xwJ_301_54 n0)).trans (congrFun (congrFun ro_sI_J _) _)).trans (congrFun (congrFun ro_sI_J _) _))
        · rw [if_neg hz]
          first | done | exact rfl
      · rw [if_neg hz]
        first | done | exact rfl
    · rw [if_neg hz]
      first | done | exact rfl
  · rw [if_neg hz]
    first | done | exact rfl
/-- a loop of RefusedOnceModel.shift(IIIII)I -/
noncomputable def xg_305_113 : Nat → ro_Mm → Int32 → Int32 → Int32 → Int32 → Int32 → Int32 → Int32 × ro_Mm
  | 0, M, v6, v1, v2, v3, v4, v5 => (v6, M)
  | n + 1, M, v6, v1, v2, v3, v4, v5 => (if v5 ≤ v6 then (v6, M) else (xg_305_113 n (ro_sJ M 193 (v6.toNatClampNeg) (M.2.2.1 192 (((((60 : Int32) * v1) + v2) + v6).toNatClampNeg))) (v6 + (1 : Int32)) v1 v2 v3 v4 v5))
def xq_305_113 : Nat → ro_Mm → Int32 → Int32 → Int32 → Int32 → Int32 → Int32 → Prop
  | 0, _, _, _, _, _, _, _ => False
  | n + 1, M, v6, v1, v2, v3, v4, v5 => ((v5 ≤ v6 → True) ∧ (¬ (v5 ≤ v6) → (vp_in ((((60 : Int32) * v1) + v2) + v6) 360 ∧ (vp_in v6 60 ∧ (xq_305_113 n (ro_sJ M 193 (v6.toNatClampNeg) (M.2.2.1 192 (((((60 : Int32) * v1) + v2) + v6).toNatClampNeg))) (v6 + (1 : Int32)) v1 v2 v3 v4 v5)))))
theorem xl_305_113 : ∀ (n : Nat) {M : ro_Mm} {v6 : Int32} {v1 : Int32} {v2 : Int32} {v3 : Int32} {v4 : Int32} {v5 : Int32} (hL : ro_lay M) (hp : xq_305_113 n M v6 v1 v2 v3 v4 v5), ro_lay (xg_305_113 n M v6 v1 v2 v3 v4 v5).2 := by
  intro n
  induction n with
  | zero => intro M v6 v1 v2 v3 v4 v5 hL hp; exact False.elim hp
  | succ n ih =>
    intro M v6 v1 v2 v3 v4 v5 hL hp
    rw [xq_305_113] at hp
    rw [xg_305_113]
    by_cases hz : v5 ≤ v6
    · have hp := hp.1 hz
      rw [if_pos hz]
      exact hL
    · have hp := hp.2 hz
      rw [if_neg hz]
      obtain ⟨q19, hp⟩ := hp
      obtain ⟨q20, hp⟩ := hp
      exact ih hL  hp
theorem xwI_305_113 : ∀ {n : Nat} {M : ro_Mm} {v6 : Int32} {v1 : Int32} {v2 : Int32} {v3 : Int32} {v4 : Int32} {v5 : Int32} {c j : Nat}, (xg_305_113 n M v6 v1 v2 v3 v4 v5).2.2.1 c j = M.2.1 c j := by
  intro n
  induction n with
  | zero => intro M v6 v1 v2 v3 v4 v5 c j; rfl
  | succ n ih =>
    intro M v6 v1 v2 v3 v4 v5 c j
    rw [xg_305_113]
    by_cases hz : v5 ≤ v6
    · rw [if_pos hz]
      first | done | exact rfl
    · rw [if_neg hz]
      first | done | exact (((ih)).trans (congrFun (congrFun ro_sJ_I _) _))
theorem xwJ_305_113 : ∀ {n : Nat} {M : ro_Mm} {v6 : Int32} {v1 : Int32} {v2 : Int32} {v3 : Int32} {v4 : Int32} {v5 : Int32} {c j : Nat} (n0 : c ≠ 193), (xg_305_113 n M v6 v1 v2 v3 v4 v5).2.2.2.1 c j = M.2.2.1 c j := by
  intro n
  induction n with
  | zero => intro M v6 v1 v2 v3 v4 v5 c j n0; rfl
  | succ n ih =>
    intro M v6 v1 v2 v3 v4 v5 c j n0
    rw [xg_305_113]
    by_cases hz : v5 ≤ v6
    · rw [if_pos hz]
      first | done | exact rfl
    · rw [if_neg hz]
      first | done | exact (((ih n0)).trans (ro_sJ_ne n0))
/-- a loop of RefusedOnceModel.shift(IIIII)I -/
noncomputable def xg_305_150 : Nat → ro_Mm → Int32 → Int32 → Int32 → Int32 → Int32 → Int32 → Int32 × ro_Mm
  | 0, M, v6, v1, v2, v3, v4, v5 => (v6, M)
  | n + 1, M, v6, v1, v2, v3, v4, v5 => (if v5 ≤ v6 then (v6, M) else (xg_305_150 n (ro_sJ M 192 (((((60 : Int32) * v3) + v4) + v6).toNatClampNeg) (M.2.2.1 193 (v6.toNatClampNeg))) (v6 + (1 : Int32)) v1 v2 v3 v4 v5))
def xq_305_150 : Nat → ro_Mm → Int32 → Int32 → Int32 → Int32 → Int32 → Int32 → Prop
  | 0, _, _, _, _, _, _, _ => False
  | n + 1, M, v6, v1, v2, v3, v4, v5 => ((v5 ≤ v6 → True) ∧ (¬ (v5 ≤ v6) → (vp_in v6 60 ∧ (vp_in ((((60 : Int32) * v3) + v4) + v6) 360 ∧ (xq_305_150 n (ro_sJ M 192 (((((60 : Int32) * v3) + v4) + v6).toNatClampNeg) (M.2.2.1 193 (v6.toNatClampNeg))) (v6 + (1 : Int32)) v1 v2 v3 v4 v5)))))
theorem xl_305_150 : ∀ (n : Nat) {M : ro_Mm} {v6 : Int32} {v1 : Int32} {v2 : Int32} {v3 : Int32} {v4 : Int32} {v5 : Int32} (hL : ro_lay M) (hp : xq_305_150 n M v6 v1 v2 v3 v4 v5), ro_lay (xg_305_150 n M v6 v1 v2 v3 v4 v5).2 := by
  intro n
  induction n with
  | zero => intro M v6 v1 v2 v3 v4 v5 hL hp; exact False.elim hp
  | succ n ih =>
    intro M v6 v1 v2 v3 v4 v5 hL hp
    rw [xq_305_150] at hp
    rw [xg_305_150]
    by_cases hz : v5 ≤ v6
    · have hp := hp.1 hz
      rw [if_pos hz]
      exact hL
    · have hp := hp.2 hz
      rw [if_neg hz]
      obtain ⟨q23, hp⟩ := hp
      obtain ⟨q24, hp⟩ := hp
      exact ih hL  hp
theorem xwI_305_150 : ∀ {n : Nat} {M : ro_Mm} {v6 : Int32} {v1 : Int32} {v2 : Int32} {v3 : Int32} {v4 : Int32} {v5 : Int32} {c j : Nat}, (xg_305_150 n M v6 v1 v2 v3 v4 v5).2.2.1 c j = M.2.1 c j := by
  intro n
  induction n with
  | zero => intro M v6 v1 v2 v3 v4 v5 c j; rfl
  | succ n ih =>
    intro M v6 v1 v2 v3 v4 v5 c j
    rw [xg_305_150]
    by_cases hz : v5 ≤ v6
    · rw [if_pos hz]
      first | done | exact rfl
    · rw [if_neg hz]
      first | done | exact (((ih)).trans (congrFun (congrFun ro_sJ_I _) _))
theorem xwJ_305_150 : ∀ {n : Nat} {M : ro_Mm} {v6 : Int32} {v1 : Int32} {v2 : Int32} {v3 : Int32} {v4 : Int32} {v5 : Int32} {c j : Nat} (n0 : c ≠ 192), (xg_305_150 n M v6 v1 v2 v3 v4 v5).2.2.2.1 c j = M.2.2.1 c j := by
  intro n
  induction n with
  | zero => intro M v6 v1 v2 v3 v4 v5 c j n0; rfl
  | succ n ih =>
    intro M v6 v1 v2 v3 v4 v5 c j n0
    rw [xg_305_150]
    by_cases hz : v5 ≤ v6
    · rw [if_pos hz]
      first | done | exact rfl
    · rw [if_neg hz]
      first | done | exact (((ih n0)).trans (ro_sJ_ne n0))
/-- RefusedOnceModel.shift(IIIII)I -/
noncomputable def xf_305 (M : ro_Mm) (v1 : Int32) (v2 : Int32) (v3 : Int32) (v4 : Int32) (v5 : Int32) : Int32 := (if (xf_198 M v1) then (if (xf_198 M v3) then (if (M.2.1 190 (v1.toNatClampNeg)) = (-1 : Int32) then (-11 : Int32) else (if (M.2.1 190 (v3.toNatClampNeg)) = (-1 : Int32) then (-11 : Int32) else (if (0 : Int32) ≤ (M.2.1 190 (v1.toNatClampNeg)) then (-12 : Int32) else (if (M.2.1 190 (v1.toNatClampNeg)) = (M.2.1 190 (v3.toNatClampNeg)) then (if v5 < (0 : Int32) then (-13 : Int32) else (if v2 < (0 : Int32) then (-13 : Int32) else (if v4 < (0 : Int32) then (-13 : Int32) else (if ((M.2.1 191 (v1.toNatClampNeg)) - v5) < v2 then (-13 : Int32) else (if v4 ≤ ((M.2.1 191 (v3.toNatClampNeg)) - v5) then v5 else (-13 : Int32)))))) else (-12 : Int32))))) else (-1 : Int32)) else (-1 : Int32))
noncomputable def xm_305 (M : ro_Mm) (v1 : Int32) (v2 : Int32) (v3 : Int32) (v4 : Int32) (v5 : Int32) : ro_Mm := (if (xf_198 M v1) then (if (xf_198 M v3) then (if (M.2.1 190 (v1.toNatClampNeg)) = (-1 : Int32) then M else (if (M.2.1 190 (v3.toNatClampNeg)) = (-1 : Int32) then M else (if (0 : Int32) ≤ (M.2.1 190 (v1.toNatClampNeg)) then M else (if (M.2.1 190 (v1.toNatClampNeg)) = (M.2.1 190 (v3.toNatClampNeg)) then (if v5 < (0 : Int32) then M else (if v2 < (0 : Int32) then M else (if v4 < (0 : Int32) then M else (if ((M.2.1 191 (v1.toNatClampNeg)) - v5) < v2 then M else (if v4 ≤ ((M.2.1 191 (v3.toNatClampNeg)) - v5) then (xg_305_150 lp_N (xg_305_113 lp_N M (0 : Int32) v1 v2 v3 v4 v5).2 (0 : Int32) v1 v2 v3 v4 v5).2 else M))))) else M)))) else M) else M)
def xp_305 (M : ro_Mm) (v1 : Int32) (v2 : Int32) (v3 : Int32) (v4 : Int32) (v5 : Int32) : Prop := (((xf_198 M v1) → (((xf_198 M v3) → (vp_in v1 6 ∧ (((M.2.1 190 (v1.toNatClampNeg)) = (-1 : Int32) → True) ∧ (¬ ((M.2.1 190 (v1.toNatClampNeg)) = (-1 : Int32)) → (vp_in v3 6 ∧ (((M.2.1 190 (v3.toNatClampNeg)) = (-1 : Int32) → True) ∧ (¬ ((M.2.1 190 (v3.toNatClampNeg)) = (-1 : Int32)) → (vp_in v1 6 ∧ (((0 : Int32) ≤ (M.2.1 190 (v1.toNatClampNeg)) → True) ∧ (¬ ((0 : Int32) ≤ (M.2.1 190 (v1.toNatClampNeg))) → (vp_in v1 6 ∧ (vp_in v3 6 ∧ (((M.2.1 190 (v1.toNatClampNeg)) = (M.2.1 190 (v3.toNatClampNeg)) → ((v5 < (0 : Int32) → True) ∧ (¬ (v5 < (0 : Int32)) → ((v2 < (0 : Int32) → True) ∧ (¬ (v2 < (0 : Int32)) → ((v4 < (0 : Int32) → True) ∧ (¬ (v4 < (0 : Int32)) → (vp_in v1 6 ∧ ((((M.2.1 191 (v1.toNatClampNeg)) - v5) < v2 → True) ∧ (¬ (((M.2.1 191 (v1.toNatClampNeg)) - v5) < v2) → (vp_in v3 6 ∧ ((v4 ≤ ((M.2.1 191 (v3.toNatClampNeg)) - v5) → (xq_305_113 lp_N M (0 : Int32) v1 v2 v3 v4 v5 ∧ (xq_305_150 lp_N (xg_305_113 lp_N M (0 : Int32) v1 v2 v3 v4 v5).2 (0 : Int32) v1 v2 v3 v4 v5 ∧ True))) ∧ (¬ (v4 ≤ ((M.2.1 191 (v3.toNatClampNeg)) - v5)) → True))))))))))))) ∧ (¬ ((M.2.1 190 (v1.toNatClampNeg)) = (M.2.1 190 (v3.toNatClampNeg))) → True)))))))))))))) ∧ (¬ ((xf_198 M v3)) → True))) ∧ (¬ ((xf_198 M v1)) → True))
theorem xl_305 {M : ro_Mm} {v1 : Int32} {v2 : Int32} {v3 : Int32} {v4 : Int32} {v5 : Int32} (hL : ro_lay M) (hp : xp_305 M v1 v2 v3 v4 v5) : ro_lay (xm_305 M v1 v2 v3 v4 v5) := by
  unfold xp_305 at hp
  unfold xm_305
  by_cases hz : (xf_198 M v1)
  · have hp := hp.1 hz
    rw [if_pos hz]
    by_cases hz : (xf_198 M v3)
    · have hp := hp.1 hz
      rw [if_pos hz]
      obtain ⟨q2, hp⟩ := hp
      by_cases hz : (M.2.1 190 (v1.toNatClampNeg)) = (-1 : Int32)
      · have hp := hp.1 hz
        rw [if_pos hz]
        exact hL
      · have hp := hp.2 hz
        rw [if_neg hz]
        obtain ⟨q4, hp⟩ := hp
        by_cases hz : (M.2.1 190 (v3.toNatClampNeg)) = (-1 : Int32)
        · have hp := hp.1 hz
          rw [if_pos hz]
          exact hL
        · have hp := hp.2 hz
          rw [if_neg hz]
          obtain ⟨q6, hp⟩ := hp
          by_cases hz : (0 : Int32) ≤ (M.2.1 190 (v1.toNatClampNeg))
          · have hp := hp.1 hz
            rw [if_pos hz]
            exact hL
          · have hp := hp.2 hz
            rw [if_neg hz]
            obtain ⟨q8, hp⟩ := hp
            obtain ⟨q9, hp⟩ := hp
            by_cases hz : (M.2.1 190 (v1.toNatClampNeg)) = (M.2.1 190 (v3.toNatClampNeg))
            · have hp := hp.1 hz
              rw [if_pos hz]
              by_cases hz : v5 < (0 : Int32)
              · have hp := hp.1 hz
                rw [if_pos hz]
                exact hL
              · have hp := hp.2 hz
                rw [if_neg hz]
                by_cases hz : v2 < (0 : Int32)
                · have hp := hp.1 hz
                  rw [if_pos hz]
                  exact hL
                · have hp := hp.2 hz
                  rw [if_neg hz]
                  by_cases hz : v4 < (0 : Int32)
                  · have hp := hp.1 hz
                    rw [if_pos hz]
                    exact hL
                  · have hp := hp.2 hz
                    rw [if_neg hz]
                    obtain ⟨q14, hp⟩ := hp
                    by_cases hz : ((M.2.1 191 (v1.toNatClampNeg)) - v5) < v2
                    · have hp := hp.1 hz
                      rw [if_pos hz]
                      exact hL
                    · have hp := hp.2 hz
                      rw [if_neg hz]
                      obtain ⟨q16, hp⟩ := hp
                      by_cases hz : v4 ≤ ((M.2.1 191 (v3.toNatClampNeg)) - v5)
                      · have hp := hp.1 hz
                        rw [if_pos hz]
                        obtain ⟨q21, hp⟩ := hp
                        obtain ⟨q25, hp⟩ := hp
                        exact (xl_305_150 lp_N (xl_305_113 lp_N hL q21) q25)
                      · have hp := hp.2 hz
                        rw [if_neg hz]
                        exact hL
            · have hp := hp.2 hz
              rw [if_neg hz]
              exact hL
    · have hp := hp.2 hz
      rw [if_neg hz]
      exact hL
  · have hp := hp.2 hz
    rw [if_neg hz]
    exact hL
theorem xwI_305 {M : ro_Mm} {v1 : Int32} {v2 : Int32} {v3 : Int32} {v4 : Int32} {v5 : Int32} {c j : Nat} : (xm_305 M v1 v2 v3 v4 v5).2.1 c j = M.2.1 c j := by
  unfold xm_305
  by_cases hz : (xf_198 M v1)
  · rw [if_pos hz]
    by_cases hz : (xf_198 M v3)
    · rw [if_pos hz]
      by_cases hz : (M.2.1 190 (v1.toNatClampNeg)) = (-1 : Int32)
      · rw [if_pos hz]
        first | done | exact rfl
      · rw [if_neg hz]
        by_cases hz : (M.2.1 190 (v3.toNatClampNeg)) = (-1 : Int32)
        · rw [if_pos hz]
          first | done | exact rfl
        · rw [if_neg hz]
          by_cases hz : (0 : Int32) ≤ (M.2.1 190 (v1.toNatClampNeg))
          · rw [if_pos hz]
            first | done | exact rfl
          · rw [if_neg hz]
            by_cases hz : (M.2.1 190 (v1.toNatClampNeg)) = (M.2.1 190 (v3.toNatClampNeg))
            · rw [if_pos hz]
              by_cases hz : v5 < (0 : Int32)
              · rw [if_pos hz]
                first | done | exact rfl
              · rw [if_neg hz]
                by_cases hz : v2 < (0 : Int32)
                · rw [if_pos hz]
                  first | done | exact rfl
                · rw [if_neg hz]
                  by_cases hz : v4 < (0 : Int32)
                  · rw [if_pos hz]
                    first | done | exact rfl
                  · rw [if_neg hz]
                    by_cases hz : ((M.2.1 191 (v1.toNatClampNeg)) - v5) < v2
                    · rw [if_pos hz]
                      first | done | exact rfl
                    · rw [if_neg hz]
                      by_cases hz : v4 ≤ ((M.2.1 191 (v3.toNatClampNeg)) - v5)
                      · rw [if_pos hz]
                        first | done | exact (((xwI_305_150)).trans (xwI_305_113))
                      · rw [if_neg hz]
                        first | done | exact rfl
            · rw [if_neg hz]
              first | done | exact rfl
    · rw [if_neg hz]
      first | done | exact rfl
  · rw [if_neg hz]
    first | done | exact rfl
theorem xwJ_305 {M : ro_Mm} {v1 : Int32} {v2 : Int32} {v3 : Int32} {v4 : Int32} {v5 : Int32} {c j : Nat} (n0 : c ≠ 193) (n1 : c ≠ 192) : (xm_305 M v1 v2 v3 v4 v5).2.2.1 c j = M.2.2.1 c j := by
  unfold xm_305
  by_cases hz : (xf_198 M v1)
  · rw [if_pos hz]
    by_cases hz : (xf_198 M v3)
    · rw [if_pos hz]
      by_cases hz : (M.2.1 190 (v1.toNatClampNeg)) = (-1 : Int32)
      · rw [if_pos hz]
        first | done | exact rfl
      · rw [if_neg hz]
        by_cases hz : (M.2.1 190 (v3.toNatClampNeg)) = (-1 : Int32)
        · rw [if_pos hz]
          first | done | exact rfl
        · rw [if_neg hz]
          by_cases hz : (0 : Int32) ≤ (M.2.1 190 (v1.toNatClampNeg))
          · rw [if_pos hz]
            first | done | exact rfl
          · rw [if_neg hz]
            by_cases hz : (M.2.1 190 (v1.toNatClampNeg)) = (M.2.1 190 (v3.toNatClampNeg))
            · rw [if_pos hz]
              by_cases hz : v5 < (0 : Int32)
              · rw [if_pos hz]
                first | done | exact rfl
              · rw [if_neg hz]
                by_cases hz : v2 < (0 : Int32)
                · rw [if_pos hz]
                  first | done | exact rfl
                · rw [if_neg hz]
                  by_cases hz : v4 < (0 : Int32)
                  · rw [if_pos hz]
                    first | done | exact rfl
                  · rw [if_neg hz]
                    by_cases hz : ((M.2.1 191 (v1.toNatClampNeg)) - v5) < v2
                    · rw [if_pos hz]
                      first | done | exact rfl
                    · rw [if_neg hz]
                      by_cases hz : v4 ≤ ((M.2.1 191 (v3.toNatClampNeg)) - v5)
                      · rw [if_pos hz]
                        first | done | exact (((xwJ_305_150 n1)).trans (xwJ_305_113 n0))
                      · rw [if_neg hz]
                        first | done | exact rfl
            · rw [if_neg hz]
              first | done | exact rfl
    · rw [if_neg hz]
      first | done | exact rfl
  · rw [if_neg hz]
    first | done | exact rfl

