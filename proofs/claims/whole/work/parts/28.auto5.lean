/-! methods with loops, by program (wip/whole/walk2.py, mk28.py 0 24) -/
/-- how often a loop may go round, at most -/
theorem lp_ex : ∃ n : Nat, n = 100000 := ⟨_, rfl⟩
noncomputable def lp_N : Nat := Classical.choose lp_ex
theorem lp_N_eq : lp_N = 100000 := Classical.choose_spec lp_ex
/-- a loop of RefusedOnce$Purses.copyFirst(LRefusedOnce$Purses;I)V -/
noncomputable def xg_68_2 : Nat → ro_Mm → Int32 → Nat → Nat → Int32 → Int32 × ro_Mm
  | 0, M, v3, c0, c1, v2 => (v3, M)
  | n + 1, M, v3, c0, c1, v2 => (if v2 ≤ v3 then (v3, M) else (if (6 : Int32) ≤ v3 then (v3, M) else (xg_68_2 n (xm_17 (xm_16 M c0 v3 (xf_31 M c1 v3)) c0 v3 (xf_32 (xm_16 M c0 v3 (xf_31 M c1 v3)) c1 v3)) (v3 + (1 : Int32)) c0 c1 v2)))
def xq_68_2 : Nat → ro_Mm → Int32 → Nat → Nat → Int32 → Prop
  | 0, _, _, _, _, _ => False
  | n + 1, M, v3, c0, c1, v2 => ((v2 ≤ v3 → True) ∧ (¬ (v2 ≤ v3) → (((6 : Int32) ≤ v3 → True) ∧ (¬ ((6 : Int32) ≤ v3) → (xq_68_2 n (xm_17 (xm_16 M c0 v3 (xf_31 M c1 v3)) c0 v3 (xf_32 (xm_16 M c0 v3 (xf_31 M c1 v3)) c1 v3)) (v3 + (1 : Int32)) c0 c1 v2)))))
theorem xt_68_2 {X : ro_Sx} {post : ro_Po} : ∀ (n : Nat) {M : ro_Mm} {v3 : Int32} {c0 : Nat} {c1 : Nat} {v2 : Int32} (hL : ro_lay M) (hc0 : ro_ip c0) (hc1 : ro_ip c1) (hp : xq_68_2 n M v3 c0 c1 v2) (hk : ro_w X 1 68 post 39 [(3, .int (xg_68_2 n M v3 c0 c1 v2).1), (0, .ref c0), (1, .ref c1), (2, .int v2)] [] (xg_68_2 n M v3 c0 c1 v2).2 (0, 0)), ro_w X 1 68 post 2 [(3, .int v3), (0, .ref c0), (1, .ref c1), (2, .int v2)] [] M (0, 0) := by
  intro n
  induction n with
  | zero => intro M v3 c0 c1 v2 hL hc0 hc1 hp hk; exact False.elim hp
  | succ n ih =>
    intro M v3 c0 c1 v2 hL hc0 hc1 hp hk
    rw [xq_68_2] at hp
    refine rs_iload_n ri_68_2 rfl rfl ?_
    refine rs_iload_n ri_68_3 rfl rfl ?_
    refine rs_icmp_ge (t := 39) ri_68_4 rfl rfl (fun h1 => ?_) (fun h1 => ?_)
    · skip
      have e : xg_68_2 (n + 1) M v3 c0 c1 v2 = (v3, M) := by rw [xg_68_2]; first | (simp only [if_pos h1]; done) | rfl
      rw [e] at hk
      exact ro_w_lv (ro_sub_c rfl (ro_sub_c rfl (ro_sub_c rfl (ro_sub_c rfl (ro_sub_n rfl))))) hk
    · have hp := hp.2 h1
      refine rs_iload_n ri_68_7 rfl rfl ?_
      refine rs_bipush (v := (6 : Int32)) ri_68_8 rfl (by decide) ?_
      refine rs_icmp_ge (t := 39) ri_68_10 rfl rfl (fun h2 => ?_) (fun h2 => ?_)
      · skip
        have e : xg_68_2 (n + 1) M v3 c0 c1 v2 = (v3, M) := by rw [xg_68_2]; first | (simp only [if_neg h1, if_pos h2]; done) | rfl
        rw [e] at hk
        exact ro_w_lv (ro_sub_c rfl (ro_sub_c rfl (ro_sub_c rfl (ro_sub_c rfl (ro_sub_n rfl))))) hk
      · have hp := hp.2 h2
        refine rs_aload_n ri_68_13 rfl rfl ?_
        refine rs_iload_n ri_68_14 rfl rfl ?_
        refine rs_aload_n ri_68_15 rfl rfl ?_
        refine rs_iload_n ri_68_16 rfl rfl ?_
        refine rs_virt (As := [.int v3]) (r := [.int v3, .ref c0]) ri_68_17 rfl (by decide) rm_31.2.2.2 rm_31.2.2.1 rfl rfl rfl (ro_ip4 hc1) (ro_kf (ip_kd hL hc1)) (Nat.le_of_ble_eq_true rfl) (by decide) (by decide) (xs_31 (X := X) hL hc1) ?_
        rintro _ _ ⟨e1, e2⟩
        rw [e1, e2]
        show ro_w X _ 68 _ 20 [(3, .int v3), (0, .ref c0), (1, .ref c1), (2, .int v2)] [.int (xf_31 M c1 v3), .int v3, .ref c0] M (0, 0)
        refine rs_virt (As := [.int v3, .int (xf_31 M c1 v3)]) (r := []) ri_68_20 rfl (by decide) rm_16.2.2.2 rm_16.2.2.1 rfl rfl rfl (ro_ip4 hc0) (ro_kf (ip_kd hL hc0)) (Nat.le_of_ble_eq_true rfl) (by decide) (by decide) (xs_16 (X := X) hL hc0) ?_
        rintro _ _ ⟨e1, e2⟩
        rw [e1, e2]
        show ro_w X _ 68 _ 23 [(3, .int v3), (0, .ref c0), (1, .ref c1), (2, .int v2)] [] (xm_16 M c0 v3 (xf_31 M c1 v3)) (0, 0)
        refine rs_aload_n ri_68_23 rfl rfl ?_
        refine rs_iload_n ri_68_24 rfl rfl ?_
        refine rs_aload_n ri_68_25 rfl rfl ?_
        refine rs_iload_n ri_68_26 rfl rfl ?_
        refine rs_virt (As := [.int v3]) (r := [.int v3, .ref c0]) ri_68_27 rfl (by decide) rm_32.2.2.2 rm_32.2.2.1 rfl rfl rfl (ro_ip4 hc1) (ro_kf (ip_kd (xl_16 hL hc0) hc1)) (Nat.le_of_ble_eq_true rfl) (by decide) (by decide) (xs_32 (X := X) (xl_16 hL hc0) hc1) ?_
        rintro _ _ ⟨e1, e2⟩
        rw [e1, e2]
        show ro_w X _ 68 _ 30 [(3, .int v3), (0, .ref c0), (1, .ref c1), (2, .int v2)] [.int (xf_32 (xm_16 M c0 v3 (xf_31 M c1 v3)) c1 v3), .int v3, .ref c0] (xm_16 M c0 v3 (xf_31 M c1 v3)) (0, 0)
        refine rs_virt (As := [.int v3, .int (xf_32 (xm_16 M c0 v3 (xf_31 M c1 v3)) c1 v3)]) (r := []) ri_68_30 rfl (by decide) rm_17.2.2.2 rm_17.2.2.1 rfl rfl rfl (ro_ip4 hc0) (ro_kf (ip_kd (xl_16 hL hc0) hc0)) (Nat.le_of_ble_eq_true rfl) (by decide) (by decide) (xs_17 (X := X) (xl_16 hL hc0) hc0) ?_
        rintro _ _ ⟨e1, e2⟩
        rw [e1, e2]
        show ro_w X _ 68 _ 33 [(3, .int v3), (0, .ref c0), (1, .ref c1), (2, .int v2)] [] (xm_17 (xm_16 M c0 v3 (xf_31 M c1 v3)) c0 v3 (xf_32 (xm_16 M c0 v3 (xf_31 M c1 v3)) c1 v3)) (0, 0)
        refine rs_iinc (v := (v3 + (1 : Int32))) (lv2 := [(3, .int (v3 + (1 : Int32))), (0, .ref c0), (1, .ref c1), (2, .int v2)]) ri_68_33 rfl rfl rfl rm_68.1 (by decide) rfl ?_
        refine rs_goto (t := 2) ri_68_36 rfl ?_
        have e : xg_68_2 (n + 1) M v3 c0 c1 v2 = xg_68_2 n (xm_17 (xm_16 M c0 v3 (xf_31 M c1 v3)) c0 v3 (xf_32 (xm_16 M c0 v3 (xf_31 M c1 v3)) c1 v3)) (v3 + (1 : Int32)) c0 c1 v2 := by rw [xg_68_2]; first | (simp only [if_neg h1, if_neg h2]; done) | rfl
        rw [e] at hk
        exact ro_w_lv (ro_sub_c rfl (ro_sub_c rfl (ro_sub_c rfl (ro_sub_c rfl (ro_sub_n rfl))))) (ih (xl_17 (xl_16 hL hc0) hc0) hc0 hc1 hp hk)
theorem xl_68_2 : ∀ (n : Nat) {M : ro_Mm} {v3 : Int32} {c0 : Nat} {c1 : Nat} {v2 : Int32} (hL : ro_lay M) (hc0 : ro_ip c0) (hc1 : ro_ip c1) (hp : xq_68_2 n M v3 c0 c1 v2), ro_lay (xg_68_2 n M v3 c0 c1 v2).2 := by
  intro n
  induction n with
  | zero => intro M v3 c0 c1 v2 hL hc0 hc1 hp; exact False.elim hp
  | succ n ih =>
    intro M v3 c0 c1 v2 hL hc0 hc1 hp
    rw [xq_68_2] at hp
    rw [xg_68_2]
    by_cases hz : v2 ≤ v3
    · have hp := hp.1 hz
      rw [if_pos hz]
      exact hL
    · have hp := hp.2 hz
      rw [if_neg hz]
      by_cases hz : (6 : Int32) ≤ v3
      · have hp := hp.1 hz
        rw [if_pos hz]
        exact hL
      · have hp := hp.2 hz
        rw [if_neg hz]
        exact ih (xl_17 (xl_16 hL hc0) hc0) hc0 hc1 hp
theorem xwI_68_2 : ∀ {n : Nat} {M : ro_Mm} {v3 : Int32} {c0 : Nat} {c1 : Nat} {v2 : Int32} {c j : Nat} (n0 : c ≠ (c0 + 1)) (n1 : c ≠ (c0 + 2)), (xg_68_2 n M v3 c0 c1 v2).2.2.1 c j = M.2.1 c j := by
  intro n
  induction n with
  | zero => intro M v3 c0 c1 v2 c j n0 n1; rfl
  | succ n ih =>
    intro M v3 c0 c1 v2 c j n0 n1
    rw [xg_68_2]
    by_cases hz : v2 ≤ v3
    · rw [if_pos hz]
      first | done | exact rfl
    · rw [if_neg hz]
      by_cases hz : (6 : Int32) ≤ v3
      · rw [if_pos hz]
        first | done | exact rfl
      · rw [if_neg hz]
        first | done | exact ((((ih n0 n1)).trans (xwI_17 n1)).trans (xwI_16 n0))
theorem xwJ_68_2 : ∀ {n : Nat} {M : ro_Mm} {v3 : Int32} {c0 : Nat} {c1 : Nat} {v2 : Int32} {c j : Nat}, (xg_68_2 n M v3 c0 c1 v2).2.2.2.1 c j = M.2.2.1 c j := by
  intro n
  induction n with
  | zero => intro M v3 c0 c1 v2 c j; rfl
  | succ n ih =>
    intro M v3 c0 c1 v2 c j
    rw [xg_68_2]
    by_cases hz : v2 ≤ v3
    · rw [if_pos hz]
      first | done | exact rfl
    · rw [if_neg hz]
      by_cases hz : (6 : Int32) ≤ v3
      · rw [if_pos hz]
        first | done | exact rfl
      · rw [if_neg hz]
        first | done | exact ((((ih)).trans (xwJ_17)).trans (xwJ_16))
/-- RefusedOnce$Purses.copyFirst(LRefusedOnce$Purses;I)V -/
noncomputable def xm_68 (M : ro_Mm) (c0 : Nat) (c1 : Nat) (v2 : Int32) : ro_Mm := (xg_68_2 lp_N M (0 : Int32) c0 c1 v2).2
def xp_68 (M : ro_Mm) (c0 : Nat) (c1 : Nat) (v2 : Int32) : Prop := (xq_68_2 lp_N M (0 : Int32) c0 c1 v2 ∧ True)
theorem xs_68 {X : ro_Sx} {M : ro_Mm} {c0 : Nat} {c1 : Nat} {v2 : Int32} (hL : ro_lay M) (hc0 : ro_ip c0) (hc1 : ro_ip c1) (hp : xp_68 M c0 c1 v2) : ro_cwp X 2 68 [.ref c0, .ref c1, .int v2] M (fun v M2 => v = none ∧ M2 = xm_68 M c0 c1 v2) := by
  refine rs_begin (lv0 := [(0, .ref c0), (1, .ref c1), (2, .int v2)]) (by decide) rfl (by rw [rm_68.1]; exact Nat.le_of_ble_eq_true rfl) rfl ?_
  unfold xp_68 at hp
  refine rs_iconst (v := (0 : Int32)) ri_68_0 rfl (by decide) ?_
  refine rs_istore_n (lv2 := [(3, .int (0 : Int32)), (0, .ref c0), (1, .ref c1), (2, .int v2)]) ri_68_1 rfl rm_68.1 (by decide) rfl ?_
  obtain ⟨q2, hp⟩ := hp
  refine xt_68_2 lp_N hL hc0 hc1 q2 ?_
  refine rs_ret ri_68_39 rm_68.2.1 (by decide) ?_
  exact ⟨by rfl, by rfl⟩
theorem xl_68 {M : ro_Mm} {c0 : Nat} {c1 : Nat} {v2 : Int32} (hL : ro_lay M) (hc0 : ro_ip c0) (hc1 : ro_ip c1) (hp : xp_68 M c0 c1 v2) : ro_lay (xm_68 M c0 c1 v2) := by
  unfold xp_68 at hp
  unfold xm_68
  obtain ⟨q2, hp⟩ := hp
  exact (xl_68_2 lp_N hL hc0 hc1 q2)
theorem xwI_68 {M : ro_Mm} {c0 : Nat} {c1 : Nat} {v2 : Int32} {c j : Nat} (n0 : c ≠ (c0 + 1)) (n1 : c ≠ (c0 + 2)) : (xm_68 M c0 c1 v2).2.1 c j = M.2.1 c j := by
  unfold xm_68
  first | done | exact (xwI_68_2 n0 n1)
theorem xwJ_68 {M : ro_Mm} {c0 : Nat} {c1 : Nat} {v2 : Int32} {c j : Nat} : (xm_68 M c0 c1 v2).2.2.1 c j = M.2.2.1 c j := by
  unfold xm_68
  first | done | exact (xwJ_68_2)
/-- a loop of RefusedOnce$Chances.twelveBy(I)J -/
noncomputable def xg_99_4 : Nat → ro_Mm → Int32 → Int64 → Int32 → Int32 × Int64
  | 0, M, v3, v1, v0 => (v3, v1)
  | n + 1, M, v3, v1, v0 => (if v0 ≤ v3 then (v3, v1) else (if (8 : Int32) ≤ v3 then (v3, v1) else (xg_99_4 n M (v3 + (1 : Int32)) (v1 * (12 : Int64)) v0)))
def xq_99_4 : Nat → ro_Mm → Int32 → Int64 → Int32 → Prop
  | 0, _, _, _, _ => False
  | n + 1, M, v3, v1, v0 => ((v0 ≤ v3 → True) ∧ (¬ (v0 ≤ v3) → (((8 : Int32) ≤ v3 → True) ∧ (¬ ((8 : Int32) ≤ v3) → (xq_99_4 n M (v3 + (1 : Int32)) (v1 * (12 : Int64)) v0)))))
theorem xt_99_4 {X : ro_Sx} {post : ro_Po} : ∀ (n : Nat) {M : ro_Mm} {v3 : Int32} {v1 : Int64} {v0 : Int32} (hL : ro_lay M) (hp : xq_99_4 n M v3 v1 v0) (hk : ro_w X 0 99 post 27 [(3, .int (xg_99_4 n M v3 v1 v0).1), (1, .long (xg_99_4 n M v3 v1 v0).2), (0, .int v0)] [] M (0, 0)), ro_w X 0 99 post 4 [(3, .int v3), (1, .long v1), (0, .int v0)] [] M (0, 0) := by
  intro n
  induction n with
  | zero => intro M v3 v1 v0 hL hp hk; exact False.elim hp
  | succ n ih =>
    intro M v3 v1 v0 hL hp hk
    rw [xq_99_4] at hp
    refine rs_iload_n ri_99_4 rfl rfl ?_
    refine rs_iload_n ri_99_5 rfl rfl ?_
    refine rs_icmp_ge (t := 27) ri_99_6 rfl rfl (fun h1 => ?_) (fun h1 => ?_)
    · skip
      have e : xg_99_4 (n + 1) M v3 v1 v0 = (v3, v1) := by rw [xg_99_4]; first | (simp only [if_pos h1]; done) | rfl
      rw [e] at hk
      exact ro_w_lv (ro_sub_c rfl (ro_sub_c rfl (ro_sub_c rfl (ro_sub_n rfl)))) hk
    · have hp := hp.2 h1
      refine rs_iload_n ri_99_9 rfl rfl ?_
      refine rs_bipush (v := (8 : Int32)) ri_99_10 rfl (by decide) ?_
      refine rs_icmp_ge (t := 27) ri_99_12 rfl rfl (fun h2 => ?_) (fun h2 => ?_)
      · skip
        have e : xg_99_4 (n + 1) M v3 v1 v0 = (v3, v1) := by rw [xg_99_4]; first | (simp only [if_neg h1, if_pos h2]; done) | rfl
        rw [e] at hk
        exact ro_w_lv (ro_sub_c rfl (ro_sub_c rfl (ro_sub_c rfl (ro_sub_n rfl)))) hk
      · have hp := hp.2 h2
        refine rs_lload_n ri_99_15 rfl rfl ?_
        refine rs_ldc2 (v := (12 : Int64)) ri_99_16 rfl rfl rfl ?_
        refine rs_lmul (r := (v1 * (12 : Int64))) ri_99_19 rfl rfl ?_
        refine rs_lstore_n (lv2 := [(1, .long (v1 * (12 : Int64))), (3, .int v3), (0, .int v0)]) ri_99_20 rfl rm_99.1 (by decide) rfl ?_
        refine rs_iinc (v := (v3 + (1 : Int32))) (lv2 := [(3, .int (v3 + (1 : Int32))), (1, .long (v1 * (12 : Int64))), (0, .int v0)]) ri_99_21 rfl rfl rfl rm_99.1 (by decide) rfl ?_
        refine rs_goto (t := 4) ri_99_24 rfl ?_
        have e : xg_99_4 (n + 1) M v3 v1 v0 = xg_99_4 n M (v3 + (1 : Int32)) (v1 * (12 : Int64)) v0 := by rw [xg_99_4]; first | (simp only [if_neg h1, if_neg h2]; done) | rfl
        rw [e] at hk
        exact ro_w_lv (ro_sub_c rfl (ro_sub_c rfl (ro_sub_c rfl (ro_sub_n rfl)))) (ih hL  hp hk)
/-- RefusedOnce$Chances.twelveBy(I)J -/
noncomputable def xf_99 (M : ro_Mm) (v0 : Int32) : Int64 := (xg_99_4 lp_N M (0 : Int32) (1 : Int64) v0).2
def xp_99 (M : ro_Mm) (v0 : Int32) : Prop := (xq_99_4 lp_N M (0 : Int32) (1 : Int64) v0 ∧ True)
theorem xs_99 {X : ro_Sx} {M : ro_Mm} {v0 : Int32} (hL : ro_lay M) (hp : xp_99 M v0) : ro_cwp X 1 99 [.int v0] M (fun v M2 => v = some (.long (xf_99 M v0)) ∧ M2 = M) := by
  refine rs_begin (lv0 := [(0, .int v0)]) (by decide) rfl (by rw [rm_99.1]; exact Nat.le_of_ble_eq_true rfl) rfl ?_
  unfold xp_99 at hp
  refine rs_lconst (v := (1 : Int64)) ri_99_0 rfl rfl ?_
  refine rs_lstore_n (lv2 := [(1, .long (1 : Int64)), (0, .int v0)]) ri_99_1 rfl rm_99.1 (by decide) rfl ?_
  refine rs_iconst (v := (0 : Int32)) ri_99_2 rfl (by decide) ?_
  refine rs_istore_n (lv2 := [(3, .int (0 : Int32)), (1, .long (1 : Int64)), (0, .int v0)]) ri_99_3 rfl rm_99.1 (by decide) rfl ?_
  obtain ⟨q2, hp⟩ := hp
  refine xt_99_4 lp_N hL q2 ?_
  refine rs_lload_n ri_99_27 rfl rfl ?_
  refine rs_lret ri_99_28 rm_99.2.1 (by decide) ?_
  exact ⟨by rfl, by rfl⟩
/-- a loop of RefusedOnce$Chances.sharedBy(JJ)J -/
noncomputable def xg_101_3 : Nat → ro_Mm → Int32 → Int64 → Int64 → Int32 × Int64 × Int64
  | 0, M, v4, v0, v2 => (v4, v0, v2)
  | n + 1, M, v4, v0, v2 => (if (200 : Int32) ≤ v4 then (v4, v0, v2) else (if (lg_cmp v2 (0 : Int64)) = (0 : Int32) then (v4, v0, v2) else (xg_101_3 n M (v4 + (1 : Int32)) v2 (ro_lrem v0 v2))))
def xq_101_3 : Nat → ro_Mm → Int32 → Int64 → Int64 → Prop
  | 0, _, _, _, _ => False
  | n + 1, M, v4, v0, v2 => (((200 : Int32) ≤ v4 → True) ∧ (¬ ((200 : Int32) ≤ v4) → (((lg_cmp v2 (0 : Int64)) = (0 : Int32) → True) ∧ (¬ ((lg_cmp v2 (0 : Int64)) = (0 : Int32)) → (¬ v2 = 0 ∧ (xq_101_3 n M (v4 + (1 : Int32)) v2 (ro_lrem v0 v2)))))))
theorem xt_101_3 {X : ro_Sx} {post : ro_Po} : ∀ (n : Nat) {M : ro_Mm} {v4 : Int32} {v0 : Int64} {v2 : Int64} (hL : ro_lay M) (hp : xq_101_3 n M v4 v0 v2) (hk : ro_w X 0 101 post 33 [(4, .int (xg_101_3 n M v4 v0 v2).1), (0, .long (xg_101_3 n M v4 v0 v2).2.1), (2, .long (xg_101_3 n M v4 v0 v2).2.2)] [] M (0, 0)), ro_w X 0 101 post 3 [(4, .int v4), (0, .long v0), (2, .long v2)] [] M (0, 0) := by
  intro n
  induction n with
  | zero => intro M v4 v0 v2 hL hp hk; exact False.elim hp
  | succ n ih =>
    intro M v4 v0 v2 hL hp hk
    rw [xq_101_3] at hp
    refine rs_iload ri_101_3 rfl rfl ?_
    refine rs_sipush (v := (200 : Int32)) ri_101_5 rfl (by decide) ?_
    refine rs_icmp_ge (t := 33) ri_101_8 rfl rfl (fun h1 => ?_) (fun h1 => ?_)
    · skip
      have e : xg_101_3 (n + 1) M v4 v0 v2 = (v4, v0, v2) := by rw [xg_101_3]; first | (simp only [if_pos h1]; done) | rfl
      rw [e] at hk
      exact ro_w_lv (ro_sub_c rfl (ro_sub_c rfl (ro_sub_c rfl (ro_sub_n rfl)))) hk
    · have hp := hp.2 h1
      refine rs_lload_n ri_101_11 rfl rfl ?_
      refine rs_lconst (v := (0 : Int64)) ri_101_12 rfl rfl ?_
      refine rs_lcmp (r := (lg_cmp v2 (0 : Int64))) ri_101_13 rfl rfl ?_
      refine rs_if_eq (t := 33) ri_101_14 rfl rfl (fun h2 => ?_) (fun h2 => ?_)
      · skip
        have e : xg_101_3 (n + 1) M v4 v0 v2 = (v4, v0, v2) := by rw [xg_101_3]; first | (simp only [if_neg h1, if_pos h2]; done) | rfl
        rw [e] at hk
        exact ro_w_lv (ro_sub_c rfl (ro_sub_c rfl (ro_sub_c rfl (ro_sub_n rfl)))) hk
      · have hp := hp.2 h2
        refine rs_lload_n ri_101_17 rfl rfl ?_
        refine rs_lload_n ri_101_18 rfl rfl ?_
        obtain ⟨q2, hp⟩ := hp
        refine rs_lrem (r := (ro_lrem v0 v2)) ri_101_19 rfl q2 rfl ?_
        refine rs_lstore (lv2 := [(5, .long (ro_lrem v0 v2)), (4, .int v4), (0, .long v0), (2, .long v2)]) ri_101_20 rfl rm_101.1 (by decide) rfl ?_
        refine rs_lload_n ri_101_22 rfl rfl ?_
        refine rs_lstore_n (lv2 := [(0, .long v2), (5, .long (ro_lrem v0 v2)), (4, .int v4), (2, .long v2)]) ri_101_23 rfl rm_101.1 (by decide) rfl ?_
        refine rs_lload ri_101_24 rfl rfl ?_
        refine rs_lstore_n (lv2 := [(2, .long (ro_lrem v0 v2)), (0, .long v2), (5, .long (ro_lrem v0 v2)), (4, .int v4)]) ri_101_26 rfl rm_101.1 (by decide) rfl ?_
        refine rs_iinc (v := (v4 + (1 : Int32))) (lv2 := [(4, .int (v4 + (1 : Int32))), (2, .long (ro_lrem v0 v2)), (0, .long v2), (5, .long (ro_lrem v0 v2))]) ri_101_27 rfl rfl rfl rm_101.1 (by decide) rfl ?_
        refine rs_goto (t := 3) ri_101_30 rfl ?_
        have e : xg_101_3 (n + 1) M v4 v0 v2 = xg_101_3 n M (v4 + (1 : Int32)) v2 (ro_lrem v0 v2) := by rw [xg_101_3]; first | (simp only [if_neg h1, if_neg h2]; done) | rfl
        rw [e] at hk
        exact ro_w_lv (ro_sub_c rfl (ro_sub_c rfl (ro_sub_c rfl (ro_sub_n rfl)))) (ih hL  hp hk)
/-- RefusedOnce$Chances.sharedBy(JJ)J -/
noncomputable def xf_101 (M : ro_Mm) (v0 : Int64) (v2 : Int64) : Int64 := (xg_101_3 lp_N M (0 : Int32) v0 v2).2.1
def xp_101 (M : ro_Mm) (v0 : Int64) (v2 : Int64) : Prop := (xq_101_3 lp_N M (0 : Int32) v0 v2 ∧ True)
theorem xs_101 {X : ro_Sx} {M : ro_Mm} {v0 : Int64} {v2 : Int64} (hL : ro_lay M) (hp : xp_101 M v0 v2) : ro_cwp X 1 101 [.long v0, .long v2] M (fun v M2 => v = some (.long (xf_101 M v0 v2)) ∧ M2 = M) := by
  refine rs_begin (lv0 := [(0, .long v0), (2, .long v2)]) (by decide) rfl (by rw [rm_101.1]; exact Nat.le_of_ble_eq_true rfl) rfl ?_
  unfold xp_101 at hp
  refine rs_iconst (v := (0 : Int32)) ri_101_0 rfl (by decide) ?_
  refine rs_istore (lv2 := [(4, .int (0 : Int32)), (0, .long v0), (2, .long v2)]) ri_101_1 rfl rm_101.1 (by decide) rfl ?_
  obtain ⟨q3, hp⟩ := hp
  refine xt_101_3 lp_N hL q3 ?_
  refine rs_lload_n ri_101_33 rfl rfl ?_
  refine rs_lret ri_101_34 rm_101.2.1 (by decide) ?_
  exact ⟨by rfl, by rfl⟩
/-- a loop of RefusedOnce$Chances.choices(II)J -/
noncomputable def xg_113_16 : Nat → ro_Mm → Int32 → Int64 → Int32 → Int32 → Int32 × Int64
  | 0, M, v4, v2, v0, v1 => (v4, v2)
  | n + 1, M, v4, v2, v0, v1 => (if v1 ≤ v4 then (v4, v2) else (if (20 : Int32) ≤ v4 then (v4, v2) else (xg_113_16 n M (v4 + (1 : Int32)) ((v2 * ((v0 - v4).toInt64)) / ((v4 + (1 : Int32)).toInt64)) v0 v1)))
def xq_113_16 : Nat → ro_Mm → Int32 → Int64 → Int32 → Int32 → Prop
  | 0, _, _, _, _, _ => False
  | n + 1, M, v4, v2, v0, v1 => ((v1 ≤ v4 → True) ∧ (¬ (v1 ≤ v4) → (((20 : Int32) ≤ v4 → True) ∧ (¬ ((20 : Int32) ≤ v4) → (¬ ((v4 + (1 : Int32)).toInt64) = 0 ∧ (xq_113_16 n M (v4 + (1 : Int32)) ((v2 * ((v0 - v4).toInt64)) / ((v4 + (1 : Int32)).toInt64)) v0 v1))))))
theorem xt_113_16 {X : ro_Sx} {post : ro_Po} : ∀ (n : Nat) {M : ro_Mm} {v4 : Int32} {v2 : Int64} {v0 : Int32} {v1 : Int32} (hL : ro_lay M) (hp : xq_113_16 n M v4 v2 v0 v1) (hk : ro_w X 0 113 post 49 [(4, .int (xg_113_16 n M v4 v2 v0 v1).1), (2, .long (xg_113_16 n M v4 v2 v0 v1).2), (0, .int v0), (1, .int v1)] [] M (0, 0)), ro_w X 0 113 post 16 [(4, .int v4), (2, .long v2), (0, .int v0), (1, .int v1)] [] M (0, 0) := by
  intro n
  induction n with
  | zero => intro M v4 v2 v0 v1 hL hp hk; exact False.elim hp
  | succ n ih =>
    intro M v4 v2 v0 v1 hL hp hk
    rw [xq_113_16] at hp
    refine rs_iload ri_113_16 rfl rfl ?_
    refine rs_iload_n ri_113_18 rfl rfl ?_
    refine rs_icmp_ge (t := 49) ri_113_19 rfl rfl (fun h3 => ?_) (fun h3 => ?_)
    · skip
      have e : xg_113_16 (n + 1) M v4 v2 v0 v1 = (v4, v2) := by rw [xg_113_16]; first | (simp only [if_pos h3]; done) | rfl
      rw [e] at hk
      exact ro_w_lv (ro_sub_c rfl (ro_sub_c rfl (ro_sub_c rfl (ro_sub_c rfl (ro_sub_n rfl))))) hk
    · have hp := hp.2 h3
      refine rs_iload ri_113_22 rfl rfl ?_
      refine rs_bipush (v := (20 : Int32)) ri_113_24 rfl (by decide) ?_
      refine rs_icmp_ge (t := 49) ri_113_26 rfl rfl (fun h4 => ?_) (fun h4 => ?_)
      · skip
        have e : xg_113_16 (n + 1) M v4 v2 v0 v1 = (v4, v2) := by rw [xg_113_16]; first | (simp only [if_neg h3, if_pos h4]; done) | rfl
        rw [e] at hk
        exact ro_w_lv (ro_sub_c rfl (ro_sub_c rfl (ro_sub_c rfl (ro_sub_c rfl (ro_sub_n rfl))))) hk
      · have hp := hp.2 h4
        refine rs_lload_n ri_113_29 rfl rfl ?_
        refine rs_iload_n ri_113_30 rfl rfl ?_
        refine rs_iload ri_113_31 rfl rfl ?_
        refine rs_isub (r := (v0 - v4)) ri_113_33 rfl rfl ?_
        refine rs_i2l (r := ((v0 - v4).toInt64)) ri_113_34 rfl rfl ?_
        refine rs_lmul (r := (v2 * ((v0 - v4).toInt64))) ri_113_35 rfl rfl ?_
        refine rs_iload ri_113_36 rfl rfl ?_
        refine rs_iconst (v := (1 : Int32)) ri_113_38 rfl (by decide) ?_
        refine rs_iadd (r := (v4 + (1 : Int32))) ri_113_39 rfl rfl ?_
        refine rs_i2l (r := ((v4 + (1 : Int32)).toInt64)) ri_113_40 rfl rfl ?_
        obtain ⟨q4, hp⟩ := hp
        refine rs_ldiv (r := ((v2 * ((v0 - v4).toInt64)) / ((v4 + (1 : Int32)).toInt64))) ri_113_41 rfl q4 rfl ?_
        refine rs_lstore_n (lv2 := [(2, .long ((v2 * ((v0 - v4).toInt64)) / ((v4 + (1 : Int32)).toInt64))), (4, .int v4), (0, .int v0), (1, .int v1)]) ri_113_42 rfl rm_113.1 (by decide) rfl ?_
        refine rs_iinc (v := (v4 + (1 : Int32))) (lv2 := [(4, .int (v4 + (1 : Int32))), (2, .long ((v2 * ((v0 - v4).toInt64)) / ((v4 + (1 : Int32)).toInt64))), (0, .int v0), (1, .int v1)]) ri_113_43 rfl rfl rfl rm_113.1 (by decide) rfl ?_
        refine rs_goto (t := 16) ri_113_46 rfl ?_
        have e : xg_113_16 (n + 1) M v4 v2 v0 v1 = xg_113_16 n M (v4 + (1 : Int32)) ((v2 * ((v0 - v4).toInt64)) / ((v4 + (1 : Int32)).toInt64)) v0 v1 := by rw [xg_113_16]; first | (simp only [if_neg h3, if_neg h4]; done) | rfl
        rw [e] at hk
        exact ro_w_lv (ro_sub_c rfl (ro_sub_c rfl (ro_sub_c rfl (ro_sub_c rfl (ro_sub_n rfl))))) (ih hL  hp hk)
/-- RefusedOnce$Chances.choices(II)J -/
noncomputable def xf_113 (M : ro_Mm) (v0 : Int32) (v1 : Int32) : Int64 := (if v1 < (0 : Int32) then (0 : Int64) else (if v1 ≤ v0 then (xg_113_16 lp_N M (0 : Int32) (1 : Int64) v0 v1).2 else (0 : Int64)))
def xp_113 (M : ro_Mm) (v0 : Int32) (v1 : Int32) : Prop := ((v1 < (0 : Int32) → True) ∧ (¬ (v1 < (0 : Int32)) → ((v1 ≤ v0 → (xq_113_16 lp_N M (0 : Int32) (1 : Int64) v0 v1 ∧ True)) ∧ (¬ (v1 ≤ v0) → True))))
theorem xs_113 {X : ro_Sx} {M : ro_Mm} {v0 : Int32} {v1 : Int32} (hL : ro_lay M) (hp : xp_113 M v0 v1) : ro_cwp X 1 113 [.int v0, .int v1] M (fun v M2 => v = some (.long (xf_113 M v0 v1)) ∧ M2 = M) := by
  refine rs_begin (lv0 := [(0, .int v0), (1, .int v1)]) (by decide) rfl (by rw [rm_113.1]; exact Nat.le_of_ble_eq_true rfl) rfl ?_
  unfold xp_113 at hp
  refine rs_iload_n ri_113_0 rfl rfl ?_
  refine rs_if_lt (t := 9) ri_113_1 rfl rfl (fun h1 => ?_) (fun h1 => ?_)
  · have hp := hp.1 h1
    refine rs_lconst (v := (0 : Int64)) ri_113_9 rfl rfl ?_
    refine rs_lret ri_113_10 rm_113.2.1 (by decide) ?_
    exact ⟨by unfold xf_113; first | (simp only [if_pos h1]; done) | rfl, by rfl⟩
  · have hp := hp.2 h1
    refine rs_iload_n ri_113_4 rfl rfl ?_
    refine rs_iload_n ri_113_5 rfl rfl ?_
    refine rs_icmp_le (t := 11) ri_113_6 rfl rfl (fun h2 => ?_) (fun h2 => ?_)
    · have hp := hp.1 h2
      refine rs_lconst (v := (1 : Int64)) ri_113_11 rfl rfl ?_
      refine rs_lstore_n (lv2 := [(2, .long (1 : Int64)), (0, .int v0), (1, .int v1)]) ri_113_12 rfl rm_113.1 (by decide) rfl ?_
      refine rs_iconst (v := (0 : Int32)) ri_113_13 rfl (by decide) ?_
      refine rs_istore (lv2 := [(4, .int (0 : Int32)), (2, .long (1 : Int64)), (0, .int v0), (1, .int v1)]) ri_113_14 rfl rm_113.1 (by decide) rfl ?_
      obtain ⟨q5, hp⟩ := hp
      refine xt_113_16 lp_N hL q5 ?_
      refine rs_lload_n ri_113_49 rfl rfl ?_
      refine rs_lret ri_113_50 rm_113.2.1 (by decide) ?_
      exact ⟨by unfold xf_113; first | (simp only [if_neg h1, if_pos h2]; done) | rfl, by rfl⟩
    · have hp := hp.2 h2
      refine rs_lconst (v := (0 : Int64)) ri_113_9 rfl rfl ?_
      refine rs_lret ri_113_10 rm_113.2.1 (by decide) ?_
      exact ⟨by unfold xf_113; first | (simp only [if_neg h1, if_neg h2]; done) | rfl, by rfl⟩
/-- a loop of RefusedOnce$Land.richestBy(I)I -/
noncomputable def xg_118_4 : Nat → ro_Mm → Int32 → Int32 → Int32 → Int32 × Int32
  | 0, M, v3, v2, v1 => (v3, v2)
  | n + 1, M, v3, v2, v1 => (if (M.2.1 5 4) ≤ v3 then (v3, v2) else (if (xf_38 M 6 v3 v1) ≤ (xf_38 M 6 v2 v1) then (xg_118_4 n M (v3 + (1 : Int32)) v2 v1) else (xg_118_4 n M (v3 + (1 : Int32)) v3 v1)))
def xq_118_4 : Nat → ro_Mm → Int32 → Int32 → Int32 → Prop
  | 0, _, _, _, _ => False
  | n + 1, M, v3, v2, v1 => (((M.2.1 5 4) ≤ v3 → True) ∧ (¬ ((M.2.1 5 4) ≤ v3) → (((xf_38 M 6 v3 v1) ≤ (xf_38 M 6 v2 v1) → (xq_118_4 n M (v3 + (1 : Int32)) v2 v1)) ∧ (¬ ((xf_38 M 6 v3 v1) ≤ (xf_38 M 6 v2 v1)) → (xq_118_4 n M (v3 + (1 : Int32)) v3 v1)))))
theorem xt_118_4 {X : ro_Sx} {post : ro_Po} : ∀ (n : Nat) {M : ro_Mm} {v3 : Int32} {v2 : Int32} {v1 : Int32} (hL : ro_lay M) (hp : xq_118_4 n M v3 v2 v1) (hk : ro_w X 2 118 post 41 [(3, .int (xg_118_4 n M v3 v2 v1).1), (2, .int (xg_118_4 n M v3 v2 v1).2), (0, .ref 5), (1, .int v1)] [] M (0, 0)), ro_w X 2 118 post 4 [(3, .int v3), (2, .int v2), (0, .ref 5), (1, .int v1)] [] M (0, 0) := by
  intro n
  induction n with
  | zero => intro M v3 v2 v1 hL hp hk; exact False.elim hp
  | succ n ih =>
    intro M v3 v2 v1 hL hp hk
    rw [xq_118_4] at hp
    refine rs_iload_n ri_118_4 rfl rfl ?_
    refine rs_aload_n ri_118_5 rfl rfl ?_
    refine rs_gf (v := .int (M.2.1 5 4)) ri_118_6 rfl (by decide) (ro_kf (kd_5 hL)) rfl rfl ?_
    refine rs_icmp_ge (t := 41) ri_118_9 rfl rfl (fun h1 => ?_) (fun h1 => ?_)
    · skip
      have e : xg_118_4 (n + 1) M v3 v2 v1 = (v3, v2) := by rw [xg_118_4]; first | (simp only [if_pos h1]; done) | rfl
      rw [e] at hk
      exact ro_w_lv (ro_sub_c rfl (ro_sub_c rfl (ro_sub_c rfl (ro_sub_c rfl (ro_sub_n rfl))))) hk
    · have hp := hp.2 h1
      refine rs_aload_n ri_118_12 rfl rfl ?_
      refine rs_gf (v := .ref 6) ri_118_13 rfl (by decide) (ro_kf (kd_5 hL)) rfl (rf_5_0 hL) ?_
      refine rs_iload_n ri_118_16 rfl rfl ?_
      refine rs_iload_n ri_118_17 rfl rfl ?_
      refine rs_stat (As := [.ref 6, .int v3, .int v1]) (r := []) ri_118_18 rfl rm_38.2.2.2 rfl rfl rfl (Nat.le_of_ble_eq_true rfl) (by decide) (by decide) (xs_38 (X := X) hL (by unfold ro_ip; decide)) ?_
      rintro _ _ ⟨e1, e2⟩
      rw [e1, e2]
      show ro_w X _ 118 _ 21 [(3, .int v3), (2, .int v2), (0, .ref 5), (1, .int v1)] [.int (xf_38 M 6 v3 v1)] M (0, 0)
      refine rs_aload_n ri_118_21 rfl rfl ?_
      refine rs_gf (v := .ref 6) ri_118_22 rfl (by decide) (ro_kf (kd_5 hL)) rfl (rf_5_0 hL) ?_
      refine rs_iload_n ri_118_25 rfl rfl ?_
      refine rs_iload_n ri_118_26 rfl rfl ?_
      refine rs_stat (As := [.ref 6, .int v2, .int v1]) (r := [.int (xf_38 M 6 v3 v1)]) ri_118_27 rfl rm_38.2.2.2 rfl rfl rfl (Nat.le_of_ble_eq_true rfl) (by decide) (by decide) (xs_38 (X := X) hL (by unfold ro_ip; decide)) ?_
      rintro _ _ ⟨e1, e2⟩
      rw [e1, e2]
      show ro_w X _ 118 _ 30 [(3, .int v3), (2, .int v2), (0, .ref 5), (1, .int v1)] [.int (xf_38 M 6 v2 v1), .int (xf_38 M 6 v3 v1)] M (0, 0)
      refine rs_icmp_le (t := 35) ri_118_30 rfl rfl (fun h2 => ?_) (fun h2 => ?_)
      · have hp := hp.1 h2
        refine rs_iinc (v := (v3 + (1 : Int32))) (lv2 := [(3, .int (v3 + (1 : Int32))), (2, .int v2), (0, .ref 5), (1, .int v1)]) ri_118_35 rfl rfl rfl rm_118.1 (by decide) rfl ?_
        refine rs_goto (t := 4) ri_118_38 rfl ?_
        have e : xg_118_4 (n + 1) M v3 v2 v1 = xg_118_4 n M (v3 + (1 : Int32)) v2 v1 := by rw [xg_118_4]; first | (simp only [if_neg h1, if_pos h2]; done) | rfl
        rw [e] at hk
        exact ro_w_lv (ro_sub_c rfl (ro_sub_c rfl (ro_sub_c rfl (ro_sub_c rfl (ro_sub_n rfl))))) (ih hL  hp hk)
      · have hp := hp.2 h2
        refine rs_iload_n ri_118_33 rfl rfl ?_
        refine rs_istore_n (lv2 := [(2, .int v3), (3, .int v3), (0, .ref 5), (1, .int v1)]) ri_118_34 rfl rm_118.1 (by decide) rfl ?_
        refine rs_iinc (v := (v3 + (1 : Int32))) (lv2 := [(3, .int (v3 + (1 : Int32))), (2, .int v3), (0, .ref 5), (1, .int v1)]) ri_118_35 rfl rfl rfl rm_118.1 (by decide) rfl ?_
        refine rs_goto (t := 4) ri_118_38 rfl ?_
        have e : xg_118_4 (n + 1) M v3 v2 v1 = xg_118_4 n M (v3 + (1 : Int32)) v3 v1 := by rw [xg_118_4]; first | (simp only [if_neg h1, if_neg h2]; done) | rfl
        rw [e] at hk
        exact ro_w_lv (ro_sub_c rfl (ro_sub_c rfl (ro_sub_c rfl (ro_sub_c rfl (ro_sub_n rfl))))) (ih hL  hp hk)
/-- RefusedOnce$Land.richestBy(I)I -/
noncomputable def xf_118 (M : ro_Mm) (v1 : Int32) : Int32 := (xg_118_4 lp_N M (1 : Int32) (0 : Int32) v1).2
def xp_118 (M : ro_Mm) (v1 : Int32) : Prop := (xq_118_4 lp_N M (1 : Int32) (0 : Int32) v1 ∧ True)
theorem xs_118 {X : ro_Sx} {M : ro_Mm} {v1 : Int32} (hL : ro_lay M) (hp : xp_118 M v1) : ro_cwp X 3 118 [.ref 5, .int v1] M (fun v M2 => v = some (.int (xf_118 M v1)) ∧ M2 = M) := by
  refine rs_begin (lv0 := [(0, .ref 5), (1, .int v1)]) (by decide) rfl (by rw [rm_118.1]; exact Nat.le_of_ble_eq_true rfl) rfl ?_
  unfold xp_118 at hp
  refine rs_iconst (v := (0 : Int32)) ri_118_0 rfl (by decide) ?_
  refine rs_istore_n (lv2 := [(2, .int (0 : Int32)), (0, .ref 5), (1, .int v1)]) ri_118_1 rfl rm_118.1 (by decide) rfl ?_
  refine rs_iconst (v := (1 : Int32)) ri_118_2 rfl (by decide) ?_
  refine rs_istore_n (lv2 := [(3, .int (1 : Int32)), (2, .int (0 : Int32)), (0, .ref 5), (1, .int v1)]) ri_118_3 rfl rm_118.1 (by decide) rfl ?_
  obtain ⟨q2, hp⟩ := hp
  refine xt_118_4 lp_N hL q2 ?_
  refine rs_iload_n ri_118_41 rfl rfl ?_
  refine rs_iret ri_118_42 rm_118.2.1 (by decide) ?_
  exact ⟨by rfl, by rfl⟩
/-- a loop of RefusedOnce$Shelf.becomeRow(II)V -/
noncomputable def xg_178_12 : Nat → ro_Mm → Int32 → Nat → Int32 → Int32 → Int32 × ro_Mm
  | 0, M, v3, c0, v1, v2 => (v3, M)
  | n + 1, M, v3, c0, v1, v2 => (if v2 ≤ v3 then (v3, M) else (if (60 : Int32) ≤ v3 then (v3, M) else (xg_178_12 n (ro_sJ M (c0 + 1) (v3.toNatClampNeg) (0 : Int64)) (v3 + (1 : Int32)) c0 v1 v2)))
def xq_178_12 : Nat → ro_Mm → Int32 → Nat → Int32 → Int32 → Prop
  | 0, _, _, _, _, _ => False
  | n + 1, M, v3, c0, v1, v2 => ((v2 ≤ v3 → True) ∧ (¬ (v2 ≤ v3) → (((60 : Int32) ≤ v3 → True) ∧ (¬ ((60 : Int32) ≤ v3) → (vp_in v3 60 ∧ (xq_178_12 n (ro_sJ M (c0 + 1) (v3.toNatClampNeg) (0 : Int64)) (v3 + (1 : Int32)) c0 v1 v2))))))
theorem xt_178_12 {X : ro_Sx} {post : ro_Po} : ∀ (n : Nat) {M : ro_Mm} {v3 : Int32} {c0 : Nat} {v1 : Int32} {v2 : Int32} (hL : ro_lay M) (hc0 : ro_is c0) (hp : xq_178_12 n M v3 c0 v1 v2) (hk : ro_w X 0 178 post 39 [(3, .int (xg_178_12 n M v3 c0 v1 v2).1), (0, .ref c0), (1, .int v1), (2, .int v2)] [] (xg_178_12 n M v3 c0 v1 v2).2 (0, 0)), ro_w X 0 178 post 12 [(3, .int v3), (0, .ref c0), (1, .int v1), (2, .int v2)] [] M (0, 0) := by
  intro n
  induction n with
  | zero => intro M v3 c0 v1 v2 hL hc0 hp hk; exact False.elim hp
  | succ n ih =>
    intro M v3 c0 v1 v2 hL hc0 hp hk
    rw [xq_178_12] at hp
    refine rs_iload_n ri_178_12 rfl rfl ?_
    refine rs_iload_n ri_178_13 rfl rfl ?_
    refine rs_icmp_ge (t := 39) ri_178_14 rfl rfl (fun h1 => ?_) (fun h1 => ?_)
    · skip
      have e : xg_178_12 (n + 1) M v3 c0 v1 v2 = (v3, M) := by rw [xg_178_12]; first | (simp only [if_pos h1]; done) | rfl
      rw [e] at hk
      exact ro_w_lv (ro_sub_c rfl (ro_sub_c rfl (ro_sub_c rfl (ro_sub_c rfl (ro_sub_n rfl))))) hk
    · have hp := hp.2 h1
      refine rs_iload_n ri_178_17 rfl rfl ?_
      refine rs_aload_n ri_178_18 rfl rfl ?_
      refine rs_gf (v := .ref (c0 + 1)) ri_178_19 rfl (ro_is4 hc0) (ro_kf (is_kd hL hc0)) rfl (is_r0 hL hc0) ?_
      refine rs_len (v := (60 : Int32)) ri_178_22 rfl (by have := ro_is4 hc0; omega) (is_kd1 hL hc0) (by decide) rfl ?_
      refine rs_icmp_ge (t := 39) ri_178_23 rfl rfl (fun h2 => ?_) (fun h2 => ?_)
      · skip
        have e : xg_178_12 (n + 1) M v3 c0 v1 v2 = (v3, M) := by rw [xg_178_12]; first | (simp only [if_neg h1, if_pos h2]; done) | rfl
        rw [e] at hk
        exact ro_w_lv (ro_sub_c rfl (ro_sub_c rfl (ro_sub_c rfl (ro_sub_c rfl (ro_sub_n rfl))))) hk
      · have hp := hp.2 h2
        refine rs_aload_n ri_178_26 rfl rfl ?_
        refine rs_gf (v := .ref (c0 + 1)) ri_178_27 rfl (ro_is4 hc0) (ro_kf (is_kd hL hc0)) rfl (is_r0 hL hc0) ?_
        refine rs_iload_n ri_178_30 rfl rfl ?_
        refine rs_lconst (v := (0 : Int64)) ri_178_31 rfl rfl ?_
        obtain ⟨q2, hp⟩ := hp
        refine rs_last (j := v3.toNatClampNeg) ri_178_32 rfl (by have := ro_is4 hc0; omega) (is_kd1 hL hc0) q2 rfl ?_
        refine rs_iinc (v := (v3 + (1 : Int32))) (lv2 := [(3, .int (v3 + (1 : Int32))), (0, .ref c0), (1, .int v1), (2, .int v2)]) ri_178_33 rfl rfl rfl rm_178.1 (by decide) rfl ?_
        refine rs_goto (t := 12) ri_178_36 rfl ?_
        have e : xg_178_12 (n + 1) M v3 c0 v1 v2 = xg_178_12 n (ro_sJ M (c0 + 1) (v3.toNatClampNeg) (0 : Int64)) (v3 + (1 : Int32)) c0 v1 v2 := by rw [xg_178_12]; first | (simp only [if_neg h1, if_neg h2]; done) | rfl
        rw [e] at hk
        exact ro_w_lv (ro_sub_c rfl (ro_sub_c rfl (ro_sub_c rfl (ro_sub_c rfl (ro_sub_n rfl))))) (ih hL hc0 hp hk)
theorem xl_178_12 : ∀ (n : Nat) {M : ro_Mm} {v3 : Int32} {c0 : Nat} {v1 : Int32} {v2 : Int32} (hL : ro_lay M) (hc0 : ro_is c0) (hp : xq_178_12 n M v3 c0 v1 v2), ro_lay (xg_178_12 n M v3 c0 v1 v2).2 := by
  intro n
  induction n with
  | zero => intro M v3 c0 v1 v2 hL hc0 hp; exact False.elim hp
  | succ n ih =>
    intro M v3 c0 v1 v2 hL hc0 hp
    rw [xq_178_12] at hp
    rw [xg_178_12]
    by_cases hz : v2 ≤ v3
    · have hp := hp.1 hz
      rw [if_pos hz]
      exact hL
    · have hp := hp.2 hz
      rw [if_neg hz]
      by_cases hz : (60 : Int32) ≤ v3
      · have hp := hp.1 hz
        rw [if_pos hz]
        exact hL
      · have hp := hp.2 hz
        rw [if_neg hz]
        obtain ⟨q2, hp⟩ := hp
        exact ih hL hc0 hp
theorem xwI_178_12 : ∀ {n : Nat} {M : ro_Mm} {v3 : Int32} {c0 : Nat} {v1 : Int32} {v2 : Int32} {c j : Nat}, (xg_178_12 n M v3 c0 v1 v2).2.2.1 c j = M.2.1 c j := by
  intro n
  induction n with
  | zero => intro M v3 c0 v1 v2 c j; rfl
  | succ n ih =>
    intro M v3 c0 v1 v2 c j
    rw [xg_178_12]
    by_cases hz : v2 ≤ v3
    · rw [if_pos hz]
      first | done | exact rfl
    · rw [if_neg hz]
      by_cases hz : (60 : Int32) ≤ v3
      · rw [if_pos hz]
        first | done | exact rfl
      · rw [if_neg hz]
        first | done | exact (((ih)).trans (congrFun (congrFun ro_sJ_I _) _))
theorem xwJ_178_12 : ∀ {n : Nat} {M : ro_Mm} {v3 : Int32} {c0 : Nat} {v1 : Int32} {v2 : Int32} {c j : Nat} (n0 : c ≠ (c0 + 1)), (xg_178_12 n M v3 c0 v1 v2).2.2.2.1 c j = M.2.2.1 c j := by
  intro n
  induction n with
  | zero => intro M v3 c0 v1 v2 c j n0; rfl
  | succ n ih =>
    intro M v3 c0 v1 v2 c j n0
    rw [xg_178_12]
    by_cases hz : v2 ≤ v3
    · rw [if_pos hz]
      first | done | exact rfl
    · rw [if_neg hz]
      by_cases hz : (60 : Int32) ≤ v3
      · rw [if_pos hz]
        first | done | exact rfl
      · rw [if_neg hz]
        first | done | exact (((ih n0)).trans (ro_sJ_ne n0))
/-- RefusedOnce$Shelf.becomeRow(II)V -/
noncomputable def xm_178 (M : ro_Mm) (c0 : Nat) (v1 : Int32) (v2 : Int32) : ro_Mm := (xg_178_12 lp_N (ro_sI (ro_sI M c0 1 v1) c0 2 v2) (0 : Int32) c0 v1 v2).2
def xp_178 (M : ro_Mm) (c0 : Nat) (v1 : Int32) (v2 : Int32) : Prop := (xq_178_12 lp_N (ro_sI (ro_sI M c0 1 v1) c0 2 v2) (0 : Int32) c0 v1 v2 ∧ True)
theorem xs_178 {X : ro_Sx} {M : ro_Mm} {c0 : Nat} {v1 : Int32} {v2 : Int32} (hL : ro_lay M) (hc0 : ro_is c0) (hp : xp_178 M c0 v1 v2) : ro_cwp X 1 178 [.ref c0, .int v1, .int v2] M (fun v M2 => v = none ∧ M2 = xm_178 M c0 v1 v2) := by
  refine rs_begin (lv0 := [(0, .ref c0), (1, .int v1), (2, .int v2)]) (by decide) rfl (by rw [rm_178.1]; exact Nat.le_of_ble_eq_true rfl) rfl ?_
  unfold xp_178 at hp
  refine rs_aload_n ri_178_0 rfl rfl ?_
  refine rs_iload_n ri_178_1 rfl rfl ?_
  refine rs_pf (M2 := (ro_sI M c0 1 v1)) ri_178_2 rfl (ro_is4 hc0) (ro_kf (is_kd hL hc0)) (fun h => absurd h (by decide)) (fun f h => h) ?_
  refine rs_aload_n ri_178_5 rfl rfl ?_
  refine rs_iload_n ri_178_6 rfl rfl ?_
  refine rs_pf (M2 := (ro_sI (ro_sI M c0 1 v1) c0 2 v2)) ri_178_7 rfl (ro_is4 hc0) (ro_kf (is_kd hL hc0)) (fun h => absurd h (by decide)) (fun f h => h) ?_
  refine rs_iconst (v := (0 : Int32)) ri_178_10 rfl (by decide) ?_
  refine rs_istore_n (lv2 := [(3, .int (0 : Int32)), (0, .ref c0), (1, .int v1), (2, .int v2)]) ri_178_11 rfl rm_178.1 (by decide) rfl ?_
  obtain ⟨q3, hp⟩ := hp
  refine xt_178_12 lp_N hL hc0 q3 ?_
  refine rs_ret ri_178_39 rm_178.2.1 (by decide) ?_
  exact ⟨by rfl, by rfl⟩
theorem xl_178 {M : ro_Mm} {c0 : Nat} {v1 : Int32} {v2 : Int32} (hL : ro_lay M) (hc0 : ro_is c0) (hp : xp_178 M c0 v1 v2) : ro_lay (xm_178 M c0 v1 v2) := by
  unfold xp_178 at hp
  unfold xm_178
  obtain ⟨q3, hp⟩ := hp
  exact (xl_178_12 lp_N hL hc0 q3)
theorem xwI_178 {M : ro_Mm} {c0 : Nat} {v1 : Int32} {v2 : Int32} {c j : Nat} (n0 : c ≠ c0) : (xm_178 M c0 v1 v2).2.1 c j = M.2.1 c j := by
  unfold xm_178
  first | done | exact ((((xwI_178_12)).trans (ro_sI_ne n0)).trans (ro_sI_ne n0))
theorem xwJ_178 {M : ro_Mm} {c0 : Nat} {v1 : Int32} {v2 : Int32} {c j : Nat} (n0 : c ≠ (c0 + 1)) : (xm_178 M c0 v1 v2).2.2.1 c j = M.2.2.1 c j := by
  unfold xm_178
  first | done | exact ((((xwJ_178_12 n0)).trans (congrFun (congrFun ro_sI_J _) _)).trans (congrFun (congrFun ro_sI_J _) _))
/-- a loop of RefusedOnce$Bodies.isUnder(II)Z -/
noncomputable def xg_189_4 : Nat → ro_Mm → Int32 → Int32 → Int32 → Int32 → Bool × Bool × Int32 × Int32
  | 0, M, v3, v2, v0, v1 => (false, false, v3, v2)
  | n + 1, M, v3, v2, v0, v1 => (if (8 : Int32) ≤ v3 then (false, false, v3, v2) else (if v2 < (0 : Int32) then (false, false, v3, v2) else (if (8 : Int32) ≤ v2 then (false, false, v3, v2) else (if v2 = v1 then (true, true, v3, v2) else (xg_189_4 n M (v3 + (1 : Int32)) (ro_xv (0, fun _ => 0) 3 v2.toNatClampNeg) v0 v1)))))
def xq_189_4 : Nat → ro_Mm → Int32 → Int32 → Int32 → Int32 → Prop
  | 0, _, _, _, _, _ => False
  | n + 1, M, v3, v2, v0, v1 => (((8 : Int32) ≤ v3 → True) ∧ (¬ ((8 : Int32) ≤ v3) → ((v2 < (0 : Int32) → True) ∧ (¬ (v2 < (0 : Int32)) → (((8 : Int32) ≤ v2 → True) ∧ (¬ ((8 : Int32) ≤ v2) → ((v2 = v1 → True) ∧ (¬ (v2 = v1) → (xq_189_4 n M (v3 + (1 : Int32)) (ro_xv (0, fun _ => 0) 3 v2.toNatClampNeg) v0 v1)))))))))
theorem xt_189_4 {X : ro_Sx} {post : ro_Po} : ∀ (n : Nat) {M : ro_Mm} {v3 : Int32} {v2 : Int32} {v0 : Int32} {v1 : Int32} (hL : ro_lay M) (hp : xq_189_4 n M v3 v2 v0 v1) (hk : ¬ (xg_189_4 n M v3 v2 v0 v1).1 = true → ro_w X 0 189 post 41 [(3, .int (xg_189_4 n M v3 v2 v0 v1).2.2.1), (2, .int (xg_189_4 n M v3 v2 v0 v1).2.2.2), (0, .int v0), (1, .int v1)] [] M (0, 0)) (hr : (xg_189_4 n M v3 v2 v0 v1).1 = true → post (some (.int (ro_b (xg_189_4 n M v3 v2 v0 v1).2.1))) M), ro_w X 0 189 post 4 [(3, .int v3), (2, .int v2), (0, .int v0), (1, .int v1)] [] M (0, 0) := by
  intro n
  induction n with
  | zero => intro M v3 v2 v0 v1 hL hp hk hr; exact False.elim hp
  | succ n ih =>
    intro M v3 v2 v0 v1 hL hp hk hr
    rw [xq_189_4] at hp
    refine rs_iload_n ri_189_4 rfl rfl ?_
    refine rs_bipush (v := (8 : Int32)) ri_189_5 rfl (by decide) ?_
    refine rs_icmp_ge (t := 41) ri_189_7 rfl rfl (fun h1 => ?_) (fun h1 => ?_)
    · skip
      have e : xg_189_4 (n + 1) M v3 v2 v0 v1 = (false, false, v3, v2) := by rw [xg_189_4]; first | (simp only [if_pos h1]; done) | rfl
      rw [e] at hk hr
      exact ro_w_lv (ro_sub_c rfl (ro_sub_c rfl (ro_sub_c rfl (ro_sub_c rfl (ro_sub_n rfl))))) (hk (fun z => Bool.noConfusion z))
    · have hp := hp.2 h1
      refine rs_iload_n ri_189_10 rfl rfl ?_
      refine rs_if_lt (t := 41) ri_189_11 rfl rfl (fun h2 => ?_) (fun h2 => ?_)
      · skip
        have e : xg_189_4 (n + 1) M v3 v2 v0 v1 = (false, false, v3, v2) := by rw [xg_189_4]; first | (simp only [if_neg h1, if_pos h2]; done) | rfl
        rw [e] at hk hr
        exact ro_w_lv (ro_sub_c rfl (ro_sub_c rfl (ro_sub_c rfl (ro_sub_c rfl (ro_sub_n rfl))))) (hk (fun z => Bool.noConfusion z))
      · have hp := hp.2 h2
        refine rs_iload_n ri_189_14 rfl rfl ?_
        refine rs_gs ri_189_15 rfl ?_
        refine rs_len0 (v := (8 : Int32)) ri_189_18 rfl (by decide) rfl ?_
        refine rs_icmp_ge (t := 41) ri_189_19 rfl rfl (fun h3 => ?_) (fun h3 => ?_)
        · skip
          have e : xg_189_4 (n + 1) M v3 v2 v0 v1 = (false, false, v3, v2) := by rw [xg_189_4]; first | (simp only [if_neg h1, if_neg h2, if_pos h3]; done) | rfl
          rw [e] at hk hr
          exact ro_w_lv (ro_sub_c rfl (ro_sub_c rfl (ro_sub_c rfl (ro_sub_c rfl (ro_sub_n rfl))))) (hk (fun z => Bool.noConfusion z))
        · have hp := hp.2 h3
          refine rs_iload_n ri_189_22 rfl rfl ?_
          refine rs_iload_n ri_189_23 rfl rfl ?_
          refine rs_icmp_ne (t := 29) ri_189_24 rfl rfl (fun h4 => ?_) (fun h4 => ?_)
          · have hp := hp.2 h4
            refine rs_gs ri_189_29 rfl ?_
            refine rs_iload_n ri_189_32 rfl rfl ?_
            refine rs_iald1 (n := 8) (v := (ro_xv (0, fun _ => 0) 3 v2.toNatClampNeg)) ri_189_33 rfl (by decide) rfl (vp_in_iff.mpr ⟨(ro_lo1 h2), (ro_hi2 h3 (by decide))⟩) (ro_xv0 (by decide)) ?_
            refine rs_istore_n (lv2 := [(2, .int (ro_xv (0, fun _ => 0) 3 v2.toNatClampNeg)), (3, .int v3), (0, .int v0), (1, .int v1)]) ri_189_34 rfl rm_189.1 (by decide) rfl ?_
            refine rs_iinc (v := (v3 + (1 : Int32))) (lv2 := [(3, .int (v3 + (1 : Int32))), (2, .int (ro_xv (0, fun _ => 0) 3 v2.toNatClampNeg)), (0, .int v0), (1, .int v1)]) ri_189_35 rfl rfl rfl rm_189.1 (by decide) rfl ?_
            refine rs_goto (t := 4) ri_189_38 rfl ?_
            have e : xg_189_4 (n + 1) M v3 v2 v0 v1 = xg_189_4 n M (v3 + (1 : Int32)) (ro_xv (0, fun _ => 0) 3 v2.toNatClampNeg) v0 v1 := by rw [xg_189_4]; first | (simp only [if_neg h1, if_neg h2, if_neg h3, if_neg h4]; done) | rfl
            rw [e] at hk hr
            exact ro_w_lv (ro_sub_c rfl (ro_sub_c rfl (ro_sub_c rfl (ro_sub_c rfl (ro_sub_n rfl))))) (ih hL  hp hk hr)
          · skip
            refine rs_iconst (v := (1 : Int32)) ri_189_27 rfl (by decide) ?_
            refine rs_zret (p := true) ri_189_28 rm_189.2.1 (by decide) rfl ?_
            have e : xg_189_4 (n + 1) M v3 v2 v0 v1 = (true, true, v3, v2) := by rw [xg_189_4]; first | (simp only [if_neg h1, if_neg h2, if_neg h3, if_pos h4]; done) | rfl
            rw [e] at hk hr
            exact hr rfl
/-- RefusedOnce$Bodies.isUnder(II)Z -/
noncomputable def xf_189 (M : ro_Mm) (v0 : Int32) (v1 : Int32) : Bool := (if (xg_189_4 lp_N M (0 : Int32) v0 v0 v1).1 = true then (xg_189_4 lp_N M (0 : Int32) v0 v0 v1).2.1 else false)
def xp_189 (M : ro_Mm) (v0 : Int32) (v1 : Int32) : Prop := (xq_189_4 lp_N M (0 : Int32) v0 v0 v1 ∧ True)
theorem xs_189 {X : ro_Sx} {M : ro_Mm} {v0 : Int32} {v1 : Int32} (hL : ro_lay M) (hp : xp_189 M v0 v1) : ro_cwp X 1 189 [.int v0, .int v1] M (fun v M2 => v = some (.int (ro_b (xf_189 M v0 v1))) ∧ M2 = M) := by
  refine rs_begin (lv0 := [(0, .int v0), (1, .int v1)]) (by decide) rfl (by rw [rm_189.1]; exact Nat.le_of_ble_eq_true rfl) rfl ?_
  unfold xp_189 at hp
  refine rs_iload_n ri_189_0 rfl rfl ?_
  refine rs_istore_n (lv2 := [(2, .int v0), (0, .int v0), (1, .int v1)]) ri_189_1 rfl rm_189.1 (by decide) rfl ?_
  refine rs_iconst (v := (0 : Int32)) ri_189_2 rfl (by decide) ?_
  refine rs_istore_n (lv2 := [(3, .int (0 : Int32)), (2, .int v0), (0, .int v0), (1, .int v1)]) ri_189_3 rfl rm_189.1 (by decide) rfl ?_
  obtain ⟨q4, hp⟩ := hp
  refine xt_189_4 lp_N hL q4 (fun h6 => ?_) (fun h6 => ?_)
  · skip
    refine rs_iconst (v := (0 : Int32)) ri_189_41 rfl (by decide) ?_
    refine rs_zret (p := false) ri_189_42 rm_189.2.1 (by decide) rfl ?_
    exact ⟨by unfold xf_189; first | (simp only [if_neg h6]; done) | rfl, by rfl⟩
  · skip
    exact ⟨by unfold xf_189; first | (simp only [if_pos h6]; done) | rfl, by rfl⟩
/-- a loop of RefusedOnceModel.figure()V -/
noncomputable def xg_225_4 : Nat → ro_Mm → Int32 → Int32 → Int32 × Int32 × ro_Mm
  | 0, M, v2, v1 => (v2, v1, M)
  | n + 1, M, v2, v1 => (if (4 : Int32) ≤ v2 then (v2, v1, M) else (if (xf_195 M (xf_220 M) (48 : Int32) (57 : Int32)) then (xg_225_4 n (ro_sI M 163 15 ((M.2.1 163 15) + (1 : Int32))) (v2 + (1 : Int32)) ((((10 : Int32) * v1) + (xf_220 M)) - (48 : Int32))) else (v2, v1, M)))
def xq_225_4 : Nat → ro_Mm → Int32 → Int32 → Prop
  | 0, _, _, _ => False
  | n + 1, M, v2, v1 => (((4 : Int32) ≤ v2 → True) ∧ (¬ ((4 : Int32) ≤ v2) → (xp_220 M ∧ (((xf_195 M (xf_220 M) (48 : Int32) (57 : Int32)) → (xp_220 M ∧ (xq_225_4 n (ro_sI M 163 15 ((M.2.1 163 15) + (1 : Int32))) (v2 + (1 : Int32)) ((((10 : Int32) * v1) + (xf_220 M)) - (48 : Int32))))) ∧ (¬ ((xf_195 M (xf_220 M) (48 : Int32) (57 : Int32))) → True)))))
theorem xt_225_4 {X : ro_Sx} {post : ro_Po} : ∀ (n : Nat) {M : ro_Mm} {v2 : Int32} {v1 : Int32} (hL : ro_lay M) (hp : xq_225_4 n M v2 v1) (hk : ro_w X 1 225 post 52 [(2, .int (xg_225_4 n M v2 v1).1), (1, .int (xg_225_4 n M v2 v1).2.1), (0, .ref 163)] [] (xg_225_4 n M v2 v1).2.2 (0, 0)), ro_w X 1 225 post 4 [(2, .int v2), (1, .int v1), (0, .ref 163)] [] M (0, 0) := by
  intro n
  induction n with
  | zero => intro M v2 v1 hL hp hk; exact False.elim hp
  | succ n ih =>
    intro M v2 v1 hL hp hk
    rw [xq_225_4] at hp
    refine rs_iload_n ri_225_4 rfl rfl ?_
    refine rs_iconst (v := (4 : Int32)) ri_225_5 rfl (by decide) ?_
    refine rs_icmp_ge (t := 52) ri_225_6 rfl rfl (fun h1 => ?_) (fun h1 => ?_)
    · skip
      have e : xg_225_4 (n + 1) M v2 v1 = (v2, v1, M) := by rw [xg_225_4]; first | (simp only [if_pos h1]; done) | rfl
      rw [e] at hk
      exact ro_w_lv (ro_sub_c rfl (ro_sub_c rfl (ro_sub_c rfl (ro_sub_n rfl)))) hk
    · have hp := hp.2 h1
      refine rs_aload_n ri_225_9 rfl rfl ?_
      obtain ⟨q1, hp⟩ := hp
      refine rs_virt (As := []) (r := []) ri_225_10 rfl (by decide) rm_220.2.2.2 rm_220.2.2.1 rfl rfl rfl (by decide) (ro_kf (kd_163 hL)) (Nat.le_of_ble_eq_true rfl) (by decide) (by decide) (xs_220 (X := X) hL q1) ?_
      rintro _ _ ⟨e1, e2⟩
      rw [e1, e2]
      show ro_w X _ 225 _ 13 [(2, .int v2), (1, .int v1), (0, .ref 163)] [.int (xf_220 M)] M (0, 0)
      refine rs_bipush (v := (48 : Int32)) ri_225_13 rfl (by decide) ?_
      refine rs_bipush (v := (57 : Int32)) ri_225_15 rfl (by decide) ?_
      refine rs_stat (As := [.int (xf_220 M), .int (48 : Int32), .int (57 : Int32)]) (r := []) ri_225_17 rfl rm_195.2.2.2 rfl rfl rfl (Nat.le_of_ble_eq_true rfl) (by decide) (by decide) (xs_195 (X := X) hL) ?_
      rintro _ _ ⟨e1, e2⟩
      rw [e1, e2]
      show ro_w X _ 225 _ 20 [(2, .int v2), (1, .int v1), (0, .ref 163)] [.int (ro_b (xf_195 M (xf_220 M) (48 : Int32) (57 : Int32)))] M (0, 0)
      refine rs_ifeq_c (t := 52) ri_225_20 rfl rfl (fun h3 => ?_) (fun h3 => ?_)
      · skip
        have e : xg_225_4 (n + 1) M v2 v1 = (v2, v1, M) := by rw [xg_225_4]; first | (simp only [if_neg h1, if_neg h3]; done) | rfl
        rw [e] at hk
        exact ro_w_lv (ro_sub_c rfl (ro_sub_c rfl (ro_sub_c rfl (ro_sub_n rfl)))) hk
      · have hp := hp.1 h3
        refine rs_bipush (v := (10 : Int32)) ri_225_23 rfl (by decide) ?_
        refine rs_iload_n ri_225_25 rfl rfl ?_
        refine rs_imul (r := ((10 : Int32) * v1)) ri_225_26 rfl rfl ?_
        refine rs_aload_n ri_225_27 rfl rfl ?_
        obtain ⟨q3, hp⟩ := hp
        refine rs_virt (As := []) (r := [.int ((10 : Int32) * v1)]) ri_225_28 rfl (by decide) rm_220.2.2.2 rm_220.2.2.1 rfl rfl rfl (by decide) (ro_kf (kd_163 hL)) (Nat.le_of_ble_eq_true rfl) (by decide) (by decide) (xs_220 (X := X) hL q3) ?_
        rintro _ _ ⟨e1, e2⟩
        rw [e1, e2]
        show ro_w X _ 225 _ 31 [(2, .int v2), (1, .int v1), (0, .ref 163)] [.int (xf_220 M), .int ((10 : Int32) * v1)] M (0, 0)
        refine rs_iadd (r := (((10 : Int32) * v1) + (xf_220 M))) ri_225_31 rfl rfl ?_
        refine rs_bipush (v := (48 : Int32)) ri_225_32 rfl (by decide) ?_
        refine rs_isub (r := ((((10 : Int32) * v1) + (xf_220 M)) - (48 : Int32))) ri_225_34 rfl rfl ?_
        refine rs_istore_n (lv2 := [(1, .int ((((10 : Int32) * v1) + (xf_220 M)) - (48 : Int32))), (2, .int v2), (0, .ref 163)]) ri_225_35 rfl rm_225.1 (by decide) rfl ?_
        refine rs_iinc (v := (v2 + (1 : Int32))) (lv2 := [(2, .int (v2 + (1 : Int32))), (1, .int ((((10 : Int32) * v1) + (xf_220 M)) - (48 : Int32))), (0, .ref 163)]) ri_225_36 rfl rfl rfl rm_225.1 (by decide) rfl ?_
        refine rs_aload_n ri_225_39 rfl rfl ?_
        refine rs_dup ri_225_40 rfl rfl ?_
        refine rs_gf (v := .int (M.2.1 163 15)) ri_225_41 rfl (by decide) (ro_kf (kd_163 hL)) rfl rfl ?_
        refine rs_iconst (v := (1 : Int32)) ri_225_44 rfl (by decide) ?_
        refine rs_iadd (r := ((M.2.1 163 15) + (1 : Int32))) ri_225_45 rfl rfl ?_
        refine rs_pf (M2 := (ro_sI M 163 15 ((M.2.1 163 15) + (1 : Int32)))) ri_225_46 rfl (by decide) (ro_kf (kd_163 hL)) (fun h => absurd h (by decide)) (fun f h => h) ?_
        refine rs_goto (t := 4) ri_225_49 rfl ?_
        have e : xg_225_4 (n + 1) M v2 v1 = xg_225_4 n (ro_sI M 163 15 ((M.2.1 163 15) + (1 : Int32))) (v2 + (1 : Int32)) ((((10 : Int32) * v1) + (xf_220 M)) - (48 : Int32)) := by rw [xg_225_4]; first | (simp only [if_neg h1, if_pos h3]; done) | rfl
        rw [e] at hk
        exact ro_w_lv (ro_sub_c rfl (ro_sub_c rfl (ro_sub_c rfl (ro_sub_n rfl)))) (ih hL  hp hk)
theorem xl_225_4 : ∀ (n : Nat) {M : ro_Mm} {v2 : Int32} {v1 : Int32} (hL : ro_lay M) (hp : xq_225_4 n M v2 v1), ro_lay (xg_225_4 n M v2 v1).2.2 := by
  intro n
  induction n with
  | zero => intro M v2 v1 hL hp; exact False.elim hp
  | succ n ih =>
    intro M v2 v1 hL hp
    rw [xq_225_4] at hp
    rw [xg_225_4]
    by_cases hz : (4 : Int32) ≤ v2
    · have hp := hp.1 hz
      rw [if_pos hz]
      exact hL
    · have hp := hp.2 hz
      rw [if_neg hz]
      obtain ⟨q1, hp⟩ := hp
      by_cases hz : (xf_195 M (xf_220 M) (48 : Int32) (57 : Int32))
      · have hp := hp.1 hz
        rw [if_pos hz]
        obtain ⟨q3, hp⟩ := hp
        exact ih hL  hp
      · have hp := hp.2 hz
        rw [if_neg hz]
        exact hL
theorem xwI_225_4 : ∀ {n : Nat} {M : ro_Mm} {v2 : Int32} {v1 : Int32} {c j : Nat} (n0 : c ≠ 163), (xg_225_4 n M v2 v1).2.2.2.1 c j = M.2.1 c j := by
  intro n
  induction n with
  | zero => intro M v2 v1 c j n0; rfl
  | succ n ih =>
    intro M v2 v1 c j n0
    rw [xg_225_4]
    by_cases hz : (4 : Int32) ≤ v2
    · rw [if_pos hz]
      first | done | exact rfl
    · rw [if_neg hz]
      by_cases hz : (xf_195 M (xf_220 M) (48 : Int32) (57 : Int32))
      · rw [if_pos hz]
        first | done | exact (((ih n0)).trans (ro_sI_ne n0))
      · rw [if_neg hz]
        first | done | exact rfl
theorem xwJ_225_4 : ∀ {n : Nat} {M : ro_Mm} {v2 : Int32} {v1 : Int32} {c j : Nat}, (xg_225_4 n M v2 v1).2.2.2.2.1 c j = M.2.2.1 c j := by
  intro n
  induction n with
  | zero => intro M v2 v1 c j; rfl
  | succ n ih =>
    intro M v2 v1 c j
    rw [xg_225_4]
    by_cases hz : (4 : Int32) ≤ v2
    · rw [if_pos hz]
      first | done | exact rfl
    · rw [if_neg hz]
      by_cases hz : (xf_195 M (xf_220 M) (48 : Int32) (57 : Int32))
      · rw [if_pos hz]
        first | done | exact (((ih)).trans (congrFun (congrFun ro_sI_J _) _))
      · rw [if_neg hz]
        first | done | exact rfl
/-- RefusedOnceModel.figure()V -/
noncomputable def xm_225 (M : ro_Mm) : ro_Mm := (if (xg_225_4 lp_N M (0 : Int32) (0 : Int32)).1 = (0 : Int32) then (xm_222 (xm_224 (xg_225_4 lp_N M (0 : Int32) (0 : Int32)).2.2) (1 : Int32) (xg_225_4 lp_N M (0 : Int32) (0 : Int32)).2.1) else (if (xf_195 (xg_225_4 lp_N M (0 : Int32) (0 : Int32)).2.2 (xf_220 (xg_225_4 lp_N M (0 : Int32) (0 : Int32)).2.2) (48 : Int32) (57 : Int32)) then (xm_222 (xm_224 (xg_225_4 lp_N M (0 : Int32) (0 : Int32)).2.2) (1 : Int32) (xg_225_4 lp_N M (0 : Int32) (0 : Int32)).2.1) else (xm_222 (xg_225_4 lp_N M (0 : Int32) (0 : Int32)).2.2 (1 : Int32) (xg_225_4 lp_N M (0 : Int32) (0 : Int32)).2.1)))
def xp_225 (M : ro_Mm) : Prop := (xq_225_4 lp_N M (0 : Int32) (0 : Int32) ∧ (((xg_225_4 lp_N M (0 : Int32) (0 : Int32)).1 = (0 : Int32) → (xp_222 (xm_224 (xg_225_4 lp_N M (0 : Int32) (0 : Int32)).2.2) (1 : Int32) (xg_225_4 lp_N M (0 : Int32) (0 : Int32)).2.1 ∧ True)) ∧ (¬ ((xg_225_4 lp_N M (0 : Int32) (0 : Int32)).1 = (0 : Int32)) → (xp_220 (xg_225_4 lp_N M (0 : Int32) (0 : Int32)).2.2 ∧ (((xf_195 (xg_225_4 lp_N M (0 : Int32) (0 : Int32)).2.2 (xf_220 (xg_225_4 lp_N M (0 : Int32) (0 : Int32)).2.2) (48 : Int32) (57 : Int32)) → (xp_222 (xm_224 (xg_225_4 lp_N M (0 : Int32) (0 : Int32)).2.2) (1 : Int32) (xg_225_4 lp_N M (0 : Int32) (0 : Int32)).2.1 ∧ True)) ∧ (¬ ((xf_195 (xg_225_4 lp_N M (0 : Int32) (0 : Int32)).2.2 (xf_220 (xg_225_4 lp_N M (0 : Int32) (0 : Int32)).2.2) (48 : Int32) (57 : Int32))) → (xp_222 (xg_225_4 lp_N M (0 : Int32) (0 : Int32)).2.2 (1 : Int32) (xg_225_4 lp_N M (0 : Int32) (0 : Int32)).2.1 ∧ True)))))))
theorem xs_225 {X : ro_Sx} {M : ro_Mm} (hL : ro_lay M) (hp : xp_225 M) : ro_cwp X 2 225 [.ref 163] M (fun v M2 => v = none ∧ M2 = xm_225 M) := by
  refine rs_begin (lv0 := [(0, .ref 163)]) (by decide) rfl (by rw [rm_225.1]; exact Nat.le_of_ble_eq_true rfl) rfl ?_
  unfold xp_225 at hp
  refine rs_iconst (v := (0 : Int32)) ri_225_0 rfl (by decide) ?_
  refine rs_istore_n (lv2 := [(1, .int (0 : Int32)), (0, .ref 163)]) ri_225_1 rfl rm_225.1 (by decide) rfl ?_
  refine rs_iconst (v := (0 : Int32)) ri_225_2 rfl (by decide) ?_
  refine rs_istore_n (lv2 := [(2, .int (0 : Int32)), (1, .int (0 : Int32)), (0, .ref 163)]) ri_225_3 rfl rm_225.1 (by decide) rfl ?_
  obtain ⟨q4, hp⟩ := hp
  refine xt_225_4 lp_N hL q4 ?_
  refine rs_iload_n ri_225_52 rfl rfl ?_
  refine rs_if_eq (t := 70) ri_225_53 rfl rfl (fun h6 => ?_) (fun h6 => ?_)
  · have hp := hp.1 h6
    refine rs_aload_n ri_225_70 rfl rfl ?_
    refine rs_virt (As := []) (r := []) ri_225_71 rfl (by decide) rm_224.2.2.2 rm_224.2.2.1 rfl rfl rfl (by decide) (ro_kf (kd_163 (xl_225_4 lp_N hL q4))) (Nat.le_of_ble_eq_true rfl) (by decide) (by decide) (xs_224 (X := X) (xl_225_4 lp_N hL q4)) ?_
    rintro _ _ ⟨e1, e2⟩
    rw [e1, e2]
    show ro_w X _ 225 _ 74 [(2, .int (xg_225_4 lp_N M (0 : Int32) (0 : Int32)).1), (1, .int (xg_225_4 lp_N M (0 : Int32) (0 : Int32)).2.1), (0, .ref 163)] [] (xm_224 (xg_225_4 lp_N M (0 : Int32) (0 : Int32)).2.2) (0, 0)
    refine rs_aload_n ri_225_74 rfl rfl ?_
    refine rs_iconst (v := (1 : Int32)) ri_225_75 rfl (by decide) ?_
    refine rs_iload_n ri_225_76 rfl rfl ?_
    obtain ⟨q6, hp⟩ := hp
    refine rs_virt (As := [.int (1 : Int32), .int (xg_225_4 lp_N M (0 : Int32) (0 : Int32)).2.1]) (r := []) ri_225_77 rfl (by decide) rm_222.2.2.2 rm_222.2.2.1 rfl rfl rfl (by decide) (ro_kf (kd_163 (xl_224 (xl_225_4 lp_N hL q4)))) (Nat.le_of_ble_eq_true rfl) (by decide) (by decide) (xs_222 (X := X) (xl_224 (xl_225_4 lp_N hL q4)) q6) ?_
    rintro _ _ ⟨e1, e2⟩
    rw [e1, e2]
    show ro_w X _ 225 _ 80 [(2, .int (xg_225_4 lp_N M (0 : Int32) (0 : Int32)).1), (1, .int (xg_225_4 lp_N M (0 : Int32) (0 : Int32)).2.1), (0, .ref 163)] [] (xm_222 (xm_224 (xg_225_4 lp_N M (0 : Int32) (0 : Int32)).2.2) (1 : Int32) (xg_225_4 lp_N M (0 : Int32) (0 : Int32)).2.1) (0, 0)
    refine rs_ret ri_225_80 rm_225.2.1 (by decide) ?_
    exact ⟨by rfl, by unfold xm_225; first | (simp only [if_pos h6]; done) | rfl⟩
  · have hp := hp.2 h6
    refine rs_aload_n ri_225_56 rfl rfl ?_
    obtain ⟨q7, hp⟩ := hp
    refine rs_virt (As := []) (r := []) ri_225_57 rfl (by decide) rm_220.2.2.2 rm_220.2.2.1 rfl rfl rfl (by decide) (ro_kf (kd_163 (xl_225_4 lp_N hL q4))) (Nat.le_of_ble_eq_true rfl) (by decide) (by decide) (xs_220 (X := X) (xl_225_4 lp_N hL q4) q7) ?_
    rintro _ _ ⟨e1, e2⟩
    rw [e1, e2]
    show ro_w X _ 225 _ 60 [(2, .int (xg_225_4 lp_N M (0 : Int32) (0 : Int32)).1), (1, .int (xg_225_4 lp_N M (0 : Int32) (0 : Int32)).2.1), (0, .ref 163)] [.int (xf_220 (xg_225_4 lp_N M (0 : Int32) (0 : Int32)).2.2)] (xg_225_4 lp_N M (0 : Int32) (0 : Int32)).2.2 (0, 0)
    refine rs_bipush (v := (48 : Int32)) ri_225_60 rfl (by decide) ?_
    refine rs_bipush (v := (57 : Int32)) ri_225_62 rfl (by decide) ?_
    refine rs_stat (As := [.int (xf_220 (xg_225_4 lp_N M (0 : Int32) (0 : Int32)).2.2), .int (48 : Int32), .int (57 : Int32)]) (r := []) ri_225_64 rfl rm_195.2.2.2 rfl rfl rfl (Nat.le_of_ble_eq_true rfl) (by decide) (by decide) (xs_195 (X := X) (xl_225_4 lp_N hL q4)) ?_
    rintro _ _ ⟨e1, e2⟩
    rw [e1, e2]
    show ro_w X _ 225 _ 67 [(2, .int (xg_225_4 lp_N M (0 : Int32) (0 : Int32)).1), (1, .int (xg_225_4 lp_N M (0 : Int32) (0 : Int32)).2.1), (0, .ref 163)] [.int (ro_b (xf_195 (xg_225_4 lp_N M (0 : Int32) (0 : Int32)).2.2 (xf_220 (xg_225_4 lp_N M (0 : Int32) (0 : Int32)).2.2) (48 : Int32) (57 : Int32)))] (xg_225_4 lp_N M (0 : Int32) (0 : Int32)).2.2 (0, 0)
    refine rs_ifeq_c (t := 74) ri_225_67 rfl rfl (fun h9 => ?_) (fun h9 => ?_)
    · have hp := hp.2 h9
      refine rs_aload_n ri_225_74 rfl rfl ?_
      refine rs_iconst (v := (1 : Int32)) ri_225_75 rfl (by decide) ?_
      refine rs_iload_n ri_225_76 rfl rfl ?_
      obtain ⟨q9, hp⟩ := hp
      refine rs_virt (As := [.int (1 : Int32), .int (xg_225_4 lp_N M (0 : Int32) (0 : Int32)).2.1]) (r := []) ri_225_77 rfl (by decide) rm_222.2.2.2 rm_222.2.2.1 rfl rfl rfl (by decide) (ro_kf (kd_163 (xl_225_4 lp_N hL q4))) (Nat.le_of_ble_eq_true rfl) (by decide) (by decide) (xs_222 (X := X) (xl_225_4 lp_N hL q4) q9) ?_
      rintro _ _ ⟨e1, e2⟩
      rw [e1, e2]
      show ro_w X _ 225 _ 80 [(2, .int (xg_225_4 lp_N M (0 : Int32) (0 : Int32)).1), (1, .int (xg_225_4 lp_N M (0 : Int32) (0 : Int32)).2.1), (0, .ref 163)] [] (xm_222 (xg_225_4 lp_N M (0 : Int32) (0 : Int32)).2.2 (1 : Int32) (xg_225_4 lp_N M (0 : Int32) (0 : Int32)).2.1) (0, 0)
      refine rs_ret ri_225_80 rm_225.2.1 (by decide) ?_
      exact ⟨by rfl, by unfold xm_225; first | (simp only [if_neg h6, if_neg h9]; done) | rfl⟩
    · have hp := hp.1 h9
      refine rs_aload_n ri_225_70 rfl rfl ?_
      refine rs_virt (As := []) (r := []) ri_225_71 rfl (by decide) rm_224.2.2.2 rm_224.2.2.1 rfl rfl rfl (by decide) (ro_kf (kd_163 (xl_225_4 lp_N hL q4))) (Nat.le_of_ble_eq_true rfl) (by decide) (by decide) (xs_224 (X := X) (xl_225_4 lp_N hL q4)) ?_
      rintro _ _ ⟨e1, e2⟩
      rw [e1, e2]
      show ro_w X _ 225 _ 74 [(2, .int (xg_225_4 lp_N M (0 : Int32) (0 : Int32)).1), (1, .int (xg_225_4 lp_N M (0 : Int32) (0 : Int32)).2.1), (0, .ref 163)] [] (xm_224 (xg_225_4 lp_N M (0 : Int32) (0 : Int32)).2.2) (0, 0)
      refine rs_aload_n ri_225_74 rfl rfl ?_
      refine rs_iconst (v := (1 : Int32)) ri_225_75 rfl (by decide) ?_
      refine rs_iload_n ri_225_76 rfl rfl ?_
      obtain ⟨q10, hp⟩ := hp
      refine rs_virt (As := [.int (1 : Int32), .int (xg_225_4 lp_N M (0 : Int32) (0 : Int32)).2.1]) (r := []) ri_225_77 rfl (by decide) rm_222.2.2.2 rm_222.2.2.1 rfl rfl rfl (by decide) (ro_kf (kd_163 (xl_224 (xl_225_4 lp_N hL q4)))) (Nat.le_of_ble_eq_true rfl) (by decide) (by decide) (xs_222 (X := X) (xl_224 (xl_225_4 lp_N hL q4)) q10) ?_
      rintro _ _ ⟨e1, e2⟩
      rw [e1, e2]
      show ro_w X _ 225 _ 80 [(2, .int (xg_225_4 lp_N M (0 : Int32) (0 : Int32)).1), (1, .int (xg_225_4 lp_N M (0 : Int32) (0 : Int32)).2.1), (0, .ref 163)] [] (xm_222 (xm_224 (xg_225_4 lp_N M (0 : Int32) (0 : Int32)).2.2) (1 : Int32) (xg_225_4 lp_N M (0 : Int32) (0 : Int32)).2.1) (0, 0)
      refine rs_ret ri_225_80 rm_225.2.1 (by decide) ?_
      exact ⟨by rfl, by unfold xm_225; first | (simp only [if_neg h6, if_pos h9]; done) | rfl⟩
theorem xl_225 {M : ro_Mm} (hL : ro_lay M) (hp : xp_225 M) : ro_lay (xm_225 M) := by
  unfold xp_225 at hp
  unfold xm_225
  obtain ⟨q4, hp⟩ := hp
  by_cases hz : (xg_225_4 lp_N M (0 : Int32) (0 : Int32)).1 = (0 : Int32)
  · have hp := hp.1 hz
    rw [if_pos hz]
    obtain ⟨q6, hp⟩ := hp
    exact (xl_222 (xl_224 (xl_225_4 lp_N hL q4)) q6)
  · have hp := hp.2 hz
    rw [if_neg hz]
    obtain ⟨q7, hp⟩ := hp
    by_cases hz : (xf_195 (xg_225_4 lp_N M (0 : Int32) (0 : Int32)).2.2 (xf_220 (xg_225_4 lp_N M (0 : Int32) (0 : Int32)).2.2) (48 : Int32) (57 : Int32))
    · have hp := hp.1 hz
      rw [if_pos hz]
      obtain ⟨q10, hp⟩ := hp
      exact (xl_222 (xl_224 (xl_225_4 lp_N hL q4)) q10)
    · have hp := hp.2 hz
      rw [if_neg hz]
      obtain ⟨q9, hp⟩ := hp
      exact (xl_222 (xl_225_4 lp_N hL q4) q9)
theorem xwI_225 {M : ro_Mm} {c j : Nat} (n0 : c ≠ 163) (n1 : c ≠ 174) (n2 : c ≠ 175) : (xm_225 M).2.1 c j = M.2.1 c j := by
  unfold xm_225
  by_cases hz : (xg_225_4 lp_N M (0 : Int32) (0 : Int32)).1 = (0 : Int32)
  · rw [if_pos hz]
    first | done | exact ((((xwI_222 n1 n2 n0)).trans (xwI_224 n0)).trans (xwI_225_4 n0))
  · rw [if_neg hz]
    by_cases hz : (xf_195 (xg_225_4 lp_N M (0 : Int32) (0 : Int32)).2.2 (xf_220 (xg_225_4 lp_N M (0 : Int32) (0 : Int32)).2.2) (48 : Int32) (57 : Int32))
    · rw [if_pos hz]
      first | done | exact ((((xwI_222 n1 n2 n0)).trans (xwI_224 n0)).trans (xwI_225_4 n0))
    · rw [if_neg hz]
      first | done | exact (((xwI_222 n1 n2 n0)).trans (xwI_225_4 n0))
theorem xwJ_225 {M : ro_Mm} {c j : Nat} : (xm_225 M).2.2.1 c j = M.2.2.1 c j := by
  unfold xm_225
  by_cases hz : (xg_225_4 lp_N M (0 : Int32) (0 : Int32)).1 = (0 : Int32)
  · rw [if_pos hz]
    first | done | exact ((((xwJ_222)).trans (xwJ_224)).trans (xwJ_225_4))
  · rw [if_neg hz]
    by_cases hz : (xf_195 (xg_225_4 lp_N M (0 : Int32) (0 : Int32)).2.2 (xf_220 (xg_225_4 lp_N M (0 : Int32) (0 : Int32)).2.2) (48 : Int32) (57 : Int32))
    · rw [if_pos hz]
      first | done | exact ((((xwJ_222)).trans (xwJ_224)).trans (xwJ_225_4))
    · rw [if_neg hz]
      first | done | exact (((xwJ_222)).trans (xwJ_225_4))
/-- a loop of RefusedOnceModel.layNow()V -/
noncomputable def xg_228_2 : Nat → ro_Mm → Int32 → Int32 × ro_Mm
  | 0, M, v1 => (v1, M)
  | n + 1, M, v1 => (if (M.2.1 163 1) ≤ v1 then (v1, M) else (xg_228_2 n (ro_sI (ro_sI M 181 (v1.toNatClampNeg) (M.2.1 164 (v1.toNatClampNeg))) 182 (v1.toNatClampNeg) (M.2.1 165 (v1.toNatClampNeg))) (v1 + (1 : Int32))))
def xq_228_2 : Nat → ro_Mm → Int32 → Prop
  | 0, _, _ => False
  | n + 1, M, v1 => (((M.2.1 163 1) ≤ v1 → True) ∧ (¬ ((M.2.1 163 1) ≤ v1) → (vp_in v1 6 ∧ (vp_in v1 6 ∧ (vp_in v1 6 ∧ (vp_in v1 6 ∧ (xq_228_2 n (ro_sI (ro_sI M 181 (v1.toNatClampNeg) (M.2.1 164 (v1.toNatClampNeg))) 182 (v1.toNatClampNeg) (M.2.1 165 (v1.toNatClampNeg))) (v1 + (1 : Int32)))))))))
theorem xt_228_2 {X : ro_Sx} {post : ro_Po} : ∀ (n : Nat) {M : ro_Mm} {v1 : Int32} (hL : ro_lay M) (hp : xq_228_2 n M v1) (hk : ro_w X 0 228 post 40 [(1, .int (xg_228_2 n M v1).1), (0, .ref 163)] [] (xg_228_2 n M v1).2 (0, 0)), ro_w X 0 228 post 2 [(1, .int v1), (0, .ref 163)] [] M (0, 0) := by
  intro n
  induction n with
  | zero => intro M v1 hL hp hk; exact False.elim hp
  | succ n ih =>
    intro M v1 hL hp hk
    rw [xq_228_2] at hp
    refine rs_iload_n ri_228_2 rfl rfl ?_
    refine rs_aload_n ri_228_3 rfl rfl ?_
    refine rs_gf (v := .int (M.2.1 163 1)) ri_228_4 rfl (by decide) (ro_kf (kd_163 hL)) rfl rfl ?_
    refine rs_icmp_ge (t := 40) ri_228_7 rfl rfl (fun h1 => ?_) (fun h1 => ?_)
    · skip
      have e : xg_228_2 (n + 1) M v1 = (v1, M) := by rw [xg_228_2]; first | (simp only [if_pos h1]; done) | rfl
      rw [e] at hk
      exact ro_w_lv (ro_sub_c rfl (ro_sub_c rfl (ro_sub_n rfl))) hk
    · have hp := hp.2 h1
      refine rs_aload_n ri_228_10 rfl rfl ?_
      refine rs_gf (v := .ref 181) ri_228_11 rfl (by decide) (ro_kf (kd_163 hL)) rfl (rf_163_27 hL) ?_
      refine rs_iload_n ri_228_14 rfl rfl ?_
      refine rs_aload_n ri_228_15 rfl rfl ?_
      refine rs_gf (v := .ref 164) ri_228_16 rfl (by decide) (ro_kf (kd_163 hL)) rfl (rf_163_2 hL) ?_
      refine rs_iload_n ri_228_19 rfl rfl ?_
      obtain ⟨q1, hp⟩ := hp
      refine rs_iald (v := (M.2.1 164 (v1.toNatClampNeg))) ri_228_20 rfl (by decide) (kd_164 hL) q1 rfl ?_
      obtain ⟨q2, hp⟩ := hp
      refine rs_iast (j := v1.toNatClampNeg) ri_228_21 rfl (by decide) (kd_181 hL) q2 rfl ?_
      refine rs_aload_n ri_228_22 rfl rfl ?_
      refine rs_gf (v := .ref 182) ri_228_23 rfl (by decide) (ro_kf (kd_163 hL)) rfl (rf_163_28 hL) ?_
      refine rs_iload_n ri_228_26 rfl rfl ?_
      refine rs_aload_n ri_228_27 rfl rfl ?_
      refine rs_gf (v := .ref 165) ri_228_28 rfl (by decide) (ro_kf (kd_163 hL)) rfl (rf_163_3 hL) ?_
      refine rs_iload_n ri_228_31 rfl rfl ?_
      obtain ⟨q3, hp⟩ := hp
      refine rs_iald (v := (M.2.1 165 (v1.toNatClampNeg))) ri_228_32 rfl (by decide) (kd_165 hL) q3 rfl ?_
      obtain ⟨q4, hp⟩ := hp
      refine rs_iast (j := v1.toNatClampNeg) ri_228_33 rfl (by decide) (kd_182 hL) q4 rfl ?_
      refine rs_iinc (v := (v1 + (1 : Int32))) (lv2 := [(1, .int (v1 + (1 : Int32))), (0, .ref 163)]) ri_228_34 rfl rfl rfl rm_228.1 (by decide) rfl ?_
      refine rs_goto (t := 2) ri_228_37 rfl ?_
      have e : xg_228_2 (n + 1) M v1 = xg_228_2 n (ro_sI (ro_sI M 181 (v1.toNatClampNeg) (M.2.1 164 (v1.toNatClampNeg))) 182 (v1.toNatClampNeg) (M.2.1 165 (v1.toNatClampNeg))) (v1 + (1 : Int32)) := by rw [xg_228_2]; first | (simp only [if_neg h1]; done) | rfl
      rw [e] at hk
      exact ro_w_lv (ro_sub_c rfl (ro_sub_c rfl (ro_sub_n rfl))) (ih hL  hp hk)
theorem xl_228_2 : ∀ (n : Nat) {M : ro_Mm} {v1 : Int32} (hL : ro_lay M) (hp : xq_228_2 n M v1), ro_lay (xg_228_2 n M v1).2 := by
  intro n
  induction n with
  | zero => intro M v1 hL hp; exact False.elim hp
  | succ n ih =>
    intro M v1 hL hp
    rw [xq_228_2] at hp
    rw [xg_228_2]
    by_cases hz : (M.2.1 163 1) ≤ v1
    · have hp := hp.1 hz
      rw [if_pos hz]
      exact hL
    · have hp := hp.2 hz
      rw [if_neg hz]
      obtain ⟨q1, hp⟩ := hp
      obtain ⟨q2, hp⟩ := hp
      obtain ⟨q3, hp⟩ := hp
      obtain ⟨q4, hp⟩ := hp
      exact ih hL  hp
theorem xwI_228_2 : ∀ {n : Nat} {M : ro_Mm} {v1 : Int32} {c j : Nat} (n0 : c ≠ 181) (n1 : c ≠ 182), (xg_228_2 n M v1).2.2.1 c j = M.2.1 c j := by
  intro n
  induction n with
  | zero => intro M v1 c j n0 n1; rfl
  | succ n ih =>
    intro M v1 c j n0 n1
    rw [xg_228_2]
    by_cases hz : (M.2.1 163 1) ≤ v1
    · rw [if_pos hz]
      first | done | exact rfl
    · rw [if_neg hz]
      first | done | exact ((((ih n0 n1)).trans (ro_sI_ne n1)).trans (ro_sI_ne n0))
theorem xwJ_228_2 : ∀ {n : Nat} {M : ro_Mm} {v1 : Int32} {c j : Nat}, (xg_228_2 n M v1).2.2.2.1 c j = M.2.2.1 c j := by
  intro n
  induction n with
  | zero => intro M v1 c j; rfl
  | succ n ih =>
    intro M v1 c j
    rw [xg_228_2]
    by_cases hz : (M.2.1 163 1) ≤ v1
    · rw [if_pos hz]
      first | done | exact rfl
    · rw [if_neg hz]
      first | done | exact ((((ih)).trans (congrFun (congrFun ro_sI_J _) _)).trans (congrFun (congrFun ro_sI_J _) _))
/-- RefusedOnceModel.layNow()V -/
noncomputable def xm_228 (M : ro_Mm) : ro_Mm := (xg_228_2 lp_N M (0 : Int32)).2
def xp_228 (M : ro_Mm) : Prop := (xq_228_2 lp_N M (0 : Int32) ∧ True)
theorem xs_228 {X : ro_Sx} {M : ro_Mm} (hL : ro_lay M) (hp : xp_228 M) : ro_cwp X 1 228 [.ref 163] M (fun v M2 => v = none ∧ M2 = xm_228 M) := by
  refine rs_begin (lv0 := [(0, .ref 163)]) (by decide) rfl (by rw [rm_228.1]; exact Nat.le_of_ble_eq_true rfl) rfl ?_
  unfold xp_228 at hp
  refine rs_iconst (v := (0 : Int32)) ri_228_0 rfl (by decide) ?_
  refine rs_istore_n (lv2 := [(1, .int (0 : Int32)), (0, .ref 163)]) ri_228_1 rfl rm_228.1 (by decide) rfl ?_
  obtain ⟨q5, hp⟩ := hp
  refine xt_228_2 lp_N hL q5 ?_
  refine rs_ret ri_228_40 rm_228.2.1 (by decide) ?_
  exact ⟨by rfl, by rfl⟩
theorem xl_228 {M : ro_Mm} (hL : ro_lay M) (hp : xp_228 M) : ro_lay (xm_228 M) := by
  unfold xp_228 at hp
  unfold xm_228
  obtain ⟨q5, hp⟩ := hp
  exact (xl_228_2 lp_N hL q5)
theorem xwI_228 {M : ro_Mm} {c j : Nat} (n0 : c ≠ 181) (n1 : c ≠ 182) : (xm_228 M).2.1 c j = M.2.1 c j := by
  unfold xm_228
  first | done | exact (xwI_228_2 n0 n1)
theorem xwJ_228 {M : ro_Mm} {c j : Nat} : (xm_228 M).2.2.1 c j = M.2.2.1 c j := by
  unfold xm_228
  first | done | exact (xwJ_228_2)
/-- a loop of RefusedOnceModel.paysOf(I)I -/
noncomputable def xg_248_2 : Nat → ro_Mm → Int32 → Int32 → Int32
  | 0, M, v2, v1 => v2
  | n + 1, M, v2, v1 => (if (10 : Int32) ≤ v2 then v2 else (if (M.2.1 191 (v1.toNatClampNeg)) ≤ (((2 : Int32) * v2) + (1 : Int32)) then v2 else (if (xf_204 M (xf_238 M v1 ((2 : Int32) * v2))) then (if (xf_204 M (xf_238 M v1 (((2 : Int32) * v2) + (1 : Int32)))) then (if (xf_238 M v1 ((2 : Int32) * v2)) = (xf_238 M v1 (((2 : Int32) * v2) + (1 : Int32))) then v2 else (xg_248_2 n M (v2 + (1 : Int32)) v1)) else v2) else v2)))
def xq_248_2 : Nat → ro_Mm → Int32 → Int32 → Prop
  | 0, _, _, _ => False
  | n + 1, M, v2, v1 => (((10 : Int32) ≤ v2 → True) ∧ (¬ ((10 : Int32) ≤ v2) → (vp_in v1 6 ∧ (((M.2.1 191 (v1.toNatClampNeg)) ≤ (((2 : Int32) * v2) + (1 : Int32)) → True) ∧ (¬ ((M.2.1 191 (v1.toNatClampNeg)) ≤ (((2 : Int32) * v2) + (1 : Int32))) → (xp_238 M v1 ((2 : Int32) * v2) ∧ (((xf_204 M (xf_238 M v1 ((2 : Int32) * v2))) → (xp_238 M v1 (((2 : Int32) * v2) + (1 : Int32)) ∧ (((xf_204 M (xf_238 M v1 (((2 : Int32) * v2) + (1 : Int32)))) → (xp_238 M v1 ((2 : Int32) * v2) ∧ (xp_238 M v1 (((2 : Int32) * v2) + (1 : Int32)) ∧ (((xf_238 M v1 ((2 : Int32) * v2)) = (xf_238 M v1 (((2 : Int32) * v2) + (1 : Int32))) → True) ∧ (¬ ((xf_238 M v1 ((2 : Int32) * v2)) = (xf_238 M v1 (((2 : Int32) * v2) + (1 : Int32)))) → (xq_248_2 n M (v2 + (1 : Int32)) v1)))))) ∧ (¬ ((xf_204 M (xf_238 M v1 (((2 : Int32) * v2) + (1 : Int32))))) → True)))) ∧ (¬ ((xf_204 M (xf_238 M v1 ((2 : Int32) * v2)))) → True))))))))
theorem xt_248_2 {X : ro_Sx} {post : ro_Po} : ∀ (n : Nat) {M : ro_Mm} {v2 : Int32} {v1 : Int32} (hL : ro_lay M) (hp : xq_248_2 n M v2 v1) (hk : ro_w X 2 248 post 81 [(2, .int (xg_248_2 n M v2 v1)), (0, .ref 163), (1, .int v1)] [] M (0, 0)), ro_w X 2 248 post 2 [(2, .int v2), (0, .ref 163), (1, .int v1)] [] M (0, 0) := by
  intro n
  induction n with
  | zero => intro M v2 v1 hL hp hk; exact False.elim hp
  | succ n ih =>
    intro M v2 v1 hL hp hk
    rw [xq_248_2] at hp
    refine rs_iload_n ri_248_2 rfl rfl ?_
    refine rs_bipush (v := (10 : Int32)) ri_248_3 rfl (by decide) ?_
    refine rs_icmp_ge (t := 81) ri_248_5 rfl rfl (fun h1 => ?_) (fun h1 => ?_)
    · skip
      have e : xg_248_2 (n + 1) M v2 v1 = v2 := by rw [xg_248_2]; first | (simp only [if_pos h1]; done) | rfl
      rw [e] at hk
      exact ro_w_lv (ro_sub_c rfl (ro_sub_c rfl (ro_sub_c rfl (ro_sub_n rfl)))) hk
    · have hp := hp.2 h1
      refine rs_iconst (v := (2 : Int32)) ri_248_8 rfl (by decide) ?_
      refine rs_iload_n ri_248_9 rfl rfl ?_
      refine rs_imul (r := ((2 : Int32) * v2)) ri_248_10 rfl rfl ?_
      refine rs_iconst (v := (1 : Int32)) ri_248_11 rfl (by decide) ?_
      refine rs_iadd (r := (((2 : Int32) * v2) + (1 : Int32))) ri_248_12 rfl rfl ?_
      refine rs_aload_n ri_248_13 rfl rfl ?_
      refine rs_gf (v := .ref 191) ri_248_14 rfl (by decide) (ro_kf (kd_163 hL)) rfl (rf_163_54 hL) ?_
      refine rs_iload_n ri_248_17 rfl rfl ?_
      obtain ⟨q1, hp⟩ := hp
      refine rs_iald (v := (M.2.1 191 (v1.toNatClampNeg))) ri_248_18 rfl (by decide) (kd_191 hL) q1 rfl ?_
      refine rs_icmp_ge (t := 81) ri_248_19 rfl rfl (fun h3 => ?_) (fun h3 => ?_)
      · skip
        have e : xg_248_2 (n + 1) M v2 v1 = v2 := by rw [xg_248_2]; first | (simp only [if_neg h1, if_pos h3]; done) | rfl
        rw [e] at hk
        exact ro_w_lv (ro_sub_c rfl (ro_sub_c rfl (ro_sub_c rfl (ro_sub_n rfl)))) hk
      · have hp := hp.2 h3
        refine rs_aload_n ri_248_22 rfl rfl ?_
        refine rs_aload_n ri_248_23 rfl rfl ?_
        refine rs_iload_n ri_248_24 rfl rfl ?_
        refine rs_iconst (v := (2 : Int32)) ri_248_25 rfl (by decide) ?_
        refine rs_iload_n ri_248_26 rfl rfl ?_
        refine rs_imul (r := ((2 : Int32) * v2)) ri_248_27 rfl rfl ?_
        obtain ⟨q3, hp⟩ := hp
        refine rs_virt (As := [.int v1, .int ((2 : Int32) * v2)]) (r := [.ref 163]) ri_248_28 rfl (by decide) rm_238.2.2.2 rm_238.2.2.1 rfl rfl rfl (by decide) (ro_kf (kd_163 hL)) (Nat.le_of_ble_eq_true rfl) (by decide) (by decide) (xs_238 (X := X) hL q3) ?_
        rintro _ _ ⟨e1, e2⟩
        rw [e1, e2]
        show ro_w X _ 248 _ 31 [(2, .int v2), (0, .ref 163), (1, .int v1)] [.int (xf_238 M v1 ((2 : Int32) * v2)), .ref 163] M (0, 0)
        refine rs_virt (As := [.int (xf_238 M v1 ((2 : Int32) * v2))]) (r := []) ri_248_31 rfl (by decide) rm_204.2.2.2 rm_204.2.2.1 rfl rfl rfl (by decide) (ro_kf (kd_163 hL)) (Nat.le_of_ble_eq_true rfl) (by decide) (by decide) (xs_204 (X := X) hL) ?_
        rintro _ _ ⟨e1, e2⟩
        rw [e1, e2]
        show ro_w X _ 248 _ 34 [(2, .int v2), (0, .ref 163), (1, .int v1)] [.int (ro_b (xf_204 M (xf_238 M v1 ((2 : Int32) * v2))))] M (0, 0)
        refine rs_ifeq_c (t := 81) ri_248_34 rfl rfl (fun h5 => ?_) (fun h5 => ?_)
        · skip
          have e : xg_248_2 (n + 1) M v2 v1 = v2 := by rw [xg_248_2]; first | (simp only [if_neg h1, if_neg h3, if_neg h5]; done) | rfl
          rw [e] at hk
          exact ro_w_lv (ro_sub_c rfl (ro_sub_c rfl (ro_sub_c rfl (ro_sub_n rfl)))) hk
        · have hp := hp.1 h5
          refine rs_aload_n ri_248_37 rfl rfl ?_
          refine rs_aload_n ri_248_38 rfl rfl ?_
          refine rs_iload_n ri_248_39 rfl rfl ?_
          refine rs_iconst (v := (2 : Int32)) ri_248_40 rfl (by decide) ?_
          refine rs_iload_n ri_248_41 rfl rfl ?_
          refine rs_imul (r := ((2 : Int32) * v2)) ri_248_42 rfl rfl ?_
          refine rs_iconst (v := (1 : Int32)) ri_248_43 rfl (by decide) ?_
          refine rs_iadd (r := (((2 : Int32) * v2) + (1 : Int32))) ri_248_44 rfl rfl ?_
          obtain ⟨q5, hp⟩ := hp
          refine rs_virt (As := [.int v1, .int (((2 : Int32) * v2) + (1 : Int32))]) (r := [.ref 163]) ri_248_45 rfl (by decide) rm_238.2.2.2 rm_238.2.2.1 rfl rfl rfl (by decide) (ro_kf (kd_163 hL)) (Nat.le_of_ble_eq_true rfl) (by decide) (by decide) (xs_238 (X := X) hL q5) ?_
          rintro _ _ ⟨e1, e2⟩
          rw [e1, e2]
          show ro_w X _ 248 _ 48 [(2, .int v2), (0, .ref 163), (1, .int v1)] [.int (xf_238 M v1 (((2 : Int32) * v2) + (1 : Int32))), .ref 163] M (0, 0)
          refine rs_virt (As := [.int (xf_238 M v1 (((2 : Int32) * v2) + (1 : Int32)))]) (r := []) ri_248_48 rfl (by decide) rm_204.2.2.2 rm_204.2.2.1 rfl rfl rfl (by decide) (ro_kf (kd_163 hL)) (Nat.le_of_ble_eq_true rfl) (by decide) (by decide) (xs_204 (X := X) hL) ?_
          rintro _ _ ⟨e1, e2⟩
          rw [e1, e2]
          show ro_w X _ 248 _ 51 [(2, .int v2), (0, .ref 163), (1, .int v1)] [.int (ro_b (xf_204 M (xf_238 M v1 (((2 : Int32) * v2) + (1 : Int32)))))] M (0, 0)
          refine rs_ifeq_c (t := 81) ri_248_51 rfl rfl (fun h7 => ?_) (fun h7 => ?_)
          · skip
            have e : xg_248_2 (n + 1) M v2 v1 = v2 := by rw [xg_248_2]; first | (simp only [if_neg h1, if_neg h3, if_pos h5, if_neg h7]; done) | rfl
            rw [e] at hk
            exact ro_w_lv (ro_sub_c rfl (ro_sub_c rfl (ro_sub_c rfl (ro_sub_n rfl)))) hk
          · have hp := hp.1 h7
            refine rs_aload_n ri_248_54 rfl rfl ?_
            refine rs_iload_n ri_248_55 rfl rfl ?_
            refine rs_iconst (v := (2 : Int32)) ri_248_56 rfl (by decide) ?_
            refine rs_iload_n ri_248_57 rfl rfl ?_
            refine rs_imul (r := ((2 : Int32) * v2)) ri_248_58 rfl rfl ?_
            obtain ⟨q7, hp⟩ := hp
            refine rs_virt (As := [.int v1, .int ((2 : Int32) * v2)]) (r := []) ri_248_59 rfl (by decide) rm_238.2.2.2 rm_238.2.2.1 rfl rfl rfl (by decide) (ro_kf (kd_163 hL)) (Nat.le_of_ble_eq_true rfl) (by decide) (by decide) (xs_238 (X := X) hL q7) ?_
            rintro _ _ ⟨e1, e2⟩
            rw [e1, e2]
            show ro_w X _ 248 _ 62 [(2, .int v2), (0, .ref 163), (1, .int v1)] [.int (xf_238 M v1 ((2 : Int32) * v2))] M (0, 0)
            refine rs_aload_n ri_248_62 rfl rfl ?_
            refine rs_iload_n ri_248_63 rfl rfl ?_
            refine rs_iconst (v := (2 : Int32)) ri_248_64 rfl (by decide) ?_
            refine rs_iload_n ri_248_65 rfl rfl ?_
            refine rs_imul (r := ((2 : Int32) * v2)) ri_248_66 rfl rfl ?_
            refine rs_iconst (v := (1 : Int32)) ri_248_67 rfl (by decide) ?_
            refine rs_iadd (r := (((2 : Int32) * v2) + (1 : Int32))) ri_248_68 rfl rfl ?_
            obtain ⟨q8, hp⟩ := hp
            refine rs_virt (As := [.int v1, .int (((2 : Int32) * v2) + (1 : Int32))]) (r := [.int (xf_238 M v1 ((2 : Int32) * v2))]) ri_248_69 rfl (by decide) rm_238.2.2.2 rm_238.2.2.1 rfl rfl rfl (by decide) (ro_kf (kd_163 hL)) (Nat.le_of_ble_eq_true rfl) (by decide) (by decide) (xs_238 (X := X) hL q8) ?_
            rintro _ _ ⟨e1, e2⟩
            rw [e1, e2]
            show ro_w X _ 248 _ 72 [(2, .int v2), (0, .ref 163), (1, .int v1)] [.int (xf_238 M v1 (((2 : Int32) * v2) + (1 : Int32))), .int (xf_238 M v1 ((2 : Int32) * v2))] M (0, 0)
            refine rs_icmp_eq (t := 81) ri_248_72 rfl rfl (fun h10 => ?_) (fun h10 => ?_)
            · skip
              have e : xg_248_2 (n + 1) M v2 v1 = v2 := by rw [xg_248_2]; first | (simp only [if_neg h1, if_neg h3, if_pos h5, if_pos h7, if_pos h10]; done) | rfl
              rw [e] at hk
              exact ro_w_lv (ro_sub_c rfl (ro_sub_c rfl (ro_sub_c rfl (ro_sub_n rfl)))) hk
            · have hp := hp.2 h10
              refine rs_iinc (v := (v2 + (1 : Int32))) (lv2 := [(2, .int (v2 + (1 : Int32))), (0, .ref 163), (1, .int v1)]) ri_248_75 rfl rfl rfl rm_248.1 (by decide) rfl ?_
              refine rs_goto (t := 2) ri_248_78 rfl ?_
              have e : xg_248_2 (n + 1) M v2 v1 = xg_248_2 n M (v2 + (1 : Int32)) v1 := by rw [xg_248_2]; first | (simp only [if_neg h1, if_neg h3, if_pos h5, if_pos h7, if_neg h10]; done) | rfl
              rw [e] at hk
              exact ro_w_lv (ro_sub_c rfl (ro_sub_c rfl (ro_sub_c rfl (ro_sub_n rfl)))) (ih hL  hp hk)
/-- RefusedOnceModel.paysOf(I)I -/
noncomputable def xf_248 (M : ro_Mm) (v1 : Int32) : Int32 := (xg_248_2 lp_N M (0 : Int32) v1)
def xp_248 (M : ro_Mm) (v1 : Int32) : Prop := (xq_248_2 lp_N M (0 : Int32) v1 ∧ True)
theorem xs_248 {X : ro_Sx} {M : ro_Mm} {v1 : Int32} (hL : ro_lay M) (hp : xp_248 M v1) : ro_cwp X 3 248 [.ref 163, .int v1] M (fun v M2 => v = some (.int (xf_248 M v1)) ∧ M2 = M) := by
  refine rs_begin (lv0 := [(0, .ref 163), (1, .int v1)]) (by decide) rfl (by rw [rm_248.1]; exact Nat.le_of_ble_eq_true rfl) rfl ?_
  unfold xp_248 at hp
  refine rs_iconst (v := (0 : Int32)) ri_248_0 rfl (by decide) ?_
  refine rs_istore_n (lv2 := [(2, .int (0 : Int32)), (0, .ref 163), (1, .int v1)]) ri_248_1 rfl rm_248.1 (by decide) rfl ?_
  obtain ⟨q10, hp⟩ := hp
  refine xt_248_2 lp_N hL q10 ?_
  refine rs_iload_n ri_248_81 rfl rfl ?_
  refine rs_iret ri_248_82 rm_248.2.1 (by decide) ?_
  exact ⟨by rfl, by rfl⟩
/-- a loop of RefusedOnceModel.lowest(JJI)J -/
noncomputable def xg_254_16 : Nat → ro_Mm → Int64 → Int64 → Int64 → Int64 → Int32 → Int64 × Int64
  | 0, M, v7, v5, v0, v2, v4 => (v7, v5)
  | n + 1, M, v7, v5, v0, v2, v4 => (if (lg_cmp v7 (0 : Int64)) = (0 : Int32) then (v7, v5) else (xg_254_16 n M (ro_lrem v5 v7) v7 v0 v2 v4))
def xq_254_16 : Nat → ro_Mm → Int64 → Int64 → Int64 → Int64 → Int32 → Prop
  | 0, _, _, _, _, _, _ => False
  | n + 1, M, v7, v5, v0, v2, v4 => (((lg_cmp v7 (0 : Int64)) = (0 : Int32) → True) ∧ (¬ ((lg_cmp v7 (0 : Int64)) = (0 : Int32)) → (¬ v7 = 0 ∧ (xq_254_16 n M (ro_lrem v5 v7) v7 v0 v2 v4))))
theorem xt_254_16 {X : ro_Sx} {post : ro_Po} : ∀ (n : Nat) {M : ro_Mm} {v7 : Int64} {v5 : Int64} {v0 : Int64} {v2 : Int64} {v4 : Int32} (hL : ro_lay M) (hp : xq_254_16 n M v7 v5 v0 v2 v4) (hk : ro_w X 0 254 post 41 [(7, .long (xg_254_16 n M v7 v5 v0 v2 v4).1), (5, .long (xg_254_16 n M v7 v5 v0 v2 v4).2), (0, .long v0), (2, .long v2), (4, .int v4)] [] M (0, 0)), ro_w X 0 254 post 16 [(7, .long v7), (5, .long v5), (0, .long v0), (2, .long v2), (4, .int v4)] [] M (0, 0) := by
  intro n
  induction n with
  | zero => intro M v7 v5 v0 v2 v4 hL hp hk; exact False.elim hp
  | succ n ih =>
    intro M v7 v5 v0 v2 v4 hL hp hk
    rw [xq_254_16] at hp
    refine rs_lload ri_254_16 rfl rfl ?_
    refine rs_lconst (v := (0 : Int64)) ri_254_18 rfl rfl ?_
    refine rs_lcmp (r := (lg_cmp v7 (0 : Int64))) ri_254_19 rfl rfl ?_
    refine rs_if_eq (t := 41) ri_254_20 rfl rfl (fun h2 => ?_) (fun h2 => ?_)
    · skip
      have e : xg_254_16 (n + 1) M v7 v5 v0 v2 v4 = (v7, v5) := by rw [xg_254_16]; first | (simp only [if_pos h2]; done) | rfl
      rw [e] at hk
      exact ro_w_lv (ro_sub_c rfl (ro_sub_c rfl (ro_sub_c rfl (ro_sub_c rfl (ro_sub_c rfl (ro_sub_n rfl)))))) hk
    · have hp := hp.2 h2
      refine rs_lload ri_254_23 rfl rfl ?_
      refine rs_lload ri_254_25 rfl rfl ?_
      obtain ⟨q2, hp⟩ := hp
      refine rs_lrem (r := (ro_lrem v5 v7)) ri_254_27 rfl q2 rfl ?_
      refine rs_lstore (lv2 := [(9, .long (ro_lrem v5 v7)), (7, .long v7), (5, .long v5), (0, .long v0), (2, .long v2), (4, .int v4)]) ri_254_28 rfl rm_254.1 (by decide) rfl ?_
      refine rs_lload ri_254_30 rfl rfl ?_
      refine rs_lstore (lv2 := [(5, .long v7), (9, .long (ro_lrem v5 v7)), (7, .long v7), (0, .long v0), (2, .long v2), (4, .int v4)]) ri_254_32 rfl rm_254.1 (by decide) rfl ?_
      refine rs_lload ri_254_34 rfl rfl ?_
      refine rs_lstore (lv2 := [(7, .long (ro_lrem v5 v7)), (5, .long v7), (9, .long (ro_lrem v5 v7)), (0, .long v0), (2, .long v2), (4, .int v4)]) ri_254_36 rfl rm_254.1 (by decide) rfl ?_
      refine rs_goto (t := 16) ri_254_38 rfl ?_
      have e : xg_254_16 (n + 1) M v7 v5 v0 v2 v4 = xg_254_16 n M (ro_lrem v5 v7) v7 v0 v2 v4 := by rw [xg_254_16]; first | (simp only [if_neg h2]; done) | rfl
      rw [e] at hk
      exact ro_w_lv (ro_sub_c rfl (ro_sub_c rfl (ro_sub_c rfl (ro_sub_c rfl (ro_sub_c rfl (ro_sub_n rfl)))))) (ih hL  hp hk)
/-- RefusedOnceModel.lowest(JJI)J -/
noncomputable def xf_254 (M : ro_Mm) (v0 : Int64) (v2 : Int64) (v4 : Int32) : Int64 := (if (lg_cmp v0 (0 : Int64)) = (0 : Int32) then (v4.toInt64) else (if v4 = (0 : Int32) then (v0 / (xg_254_16 lp_N M v2 v0 v0 v2 v4).2) else (v2 / (xg_254_16 lp_N M v2 v0 v0 v2 v4).2)))
def xp_254 (M : ro_Mm) (v0 : Int64) (v2 : Int64) (v4 : Int32) : Prop := (((lg_cmp v0 (0 : Int64)) = (0 : Int32) → True) ∧ (¬ ((lg_cmp v0 (0 : Int64)) = (0 : Int32)) → (xq_254_16 lp_N M v2 v0 v0 v2 v4 ∧ ((v4 = (0 : Int32) → (¬ (xg_254_16 lp_N M v2 v0 v0 v2 v4).2 = 0 ∧ True)) ∧ (¬ (v4 = (0 : Int32)) → (¬ (xg_254_16 lp_N M v2 v0 v0 v2 v4).2 = 0 ∧ True))))))
theorem xs_254 {X : ro_Sx} {M : ro_Mm} {v0 : Int64} {v2 : Int64} {v4 : Int32} (hL : ro_lay M) (hp : xp_254 M v0 v2 v4) : ro_cwp X 1 254 [.long v0, .long v2, .int v4] M (fun v M2 => v = some (.long (xf_254 M v0 v2 v4)) ∧ M2 = M) := by
  refine rs_begin (lv0 := [(0, .long v0), (2, .long v2), (4, .int v4)]) (by decide) rfl (by rw [rm_254.1]; exact Nat.le_of_ble_eq_true rfl) rfl ?_
  unfold xp_254 at hp
  refine rs_lload_n ri_254_0 rfl rfl ?_
  refine rs_lconst (v := (0 : Int64)) ri_254_1 rfl rfl ?_
  refine rs_lcmp (r := (lg_cmp v0 (0 : Int64))) ri_254_2 rfl rfl ?_
  refine rs_if_ne (t := 10) ri_254_3 rfl rfl (fun h1 => ?_) (fun h1 => ?_)
  · have hp := hp.2 h1
    refine rs_lload_n ri_254_10 rfl rfl ?_
    refine rs_lstore (lv2 := [(5, .long v0), (0, .long v0), (2, .long v2), (4, .int v4)]) ri_254_11 rfl rm_254.1 (by decide) rfl ?_
    refine rs_lload_n ri_254_13 rfl rfl ?_
    refine rs_lstore (lv2 := [(7, .long v2), (5, .long v0), (0, .long v0), (2, .long v2), (4, .int v4)]) ri_254_14 rfl rm_254.1 (by decide) rfl ?_
    obtain ⟨q3, hp⟩ := hp
    refine xt_254_16 lp_N hL q3 ?_
    refine rs_iload ri_254_41 rfl rfl ?_
    refine rs_if_ne (t := 53) ri_254_43 rfl rfl (fun h5 => ?_) (fun h5 => ?_)
    · have hp := hp.2 h5
      refine rs_lload_n ri_254_53 rfl rfl ?_
      refine rs_lload ri_254_54 rfl rfl ?_
      obtain ⟨q5, hp⟩ := hp
      refine rs_ldiv (r := (v2 / (xg_254_16 lp_N M v2 v0 v0 v2 v4).2)) ri_254_56 rfl q5 rfl ?_
      refine rs_lret ri_254_57 rm_254.2.1 (by decide) ?_
      exact ⟨by unfold xf_254; first | (simp only [if_neg h1, if_neg h5]; done) | rfl, by rfl⟩
    · have hp := hp.1 h5
      refine rs_lload_n ri_254_46 rfl rfl ?_
      refine rs_lload ri_254_47 rfl rfl ?_
      obtain ⟨q6, hp⟩ := hp
      refine rs_ldiv (r := (v0 / (xg_254_16 lp_N M v2 v0 v0 v2 v4).2)) ri_254_49 rfl q6 rfl ?_
      refine rs_goto (t := 57) ri_254_50 rfl ?_
      refine rs_lret ri_254_57 rm_254.2.1 (by decide) ?_
      exact ⟨by unfold xf_254; first | (simp only [if_neg h1, if_pos h5]; done) | rfl, by rfl⟩
  · have hp := hp.1 h1
    refine rs_iload ri_254_6 rfl rfl ?_
    refine rs_i2l (r := (v4.toInt64)) ri_254_8 rfl rfl ?_
    refine rs_lret ri_254_9 rm_254.2.1 (by decide) ?_
    exact ⟨by unfold xf_254; first | (simp only [if_pos h1]; done) | rfl, by rfl⟩
/-- a loop of RefusedOnceModel.pairsNow()I -/
noncomputable def xg_258_14 : Nat → ro_Mm → Int32 → Int32 → Int32 → Int32 × Int32
  | 0, M, v3, v2, v1 => (v3, v1)
  | n + 1, M, v3, v2, v1 => (if (M.2.1 163 1) ≤ v3 then (v3, v1) else (if v2 = v3 then (xg_258_14 n M (v3 + (1 : Int32)) v2 v1) else (if (xf_241 M v2 v3) then (xg_258_14 n M (v3 + (1 : Int32)) v2 (v1 + (1 : Int32))) else (xg_258_14 n M (v3 + (1 : Int32)) v2 v1))))
def xq_258_14 : Nat → ro_Mm → Int32 → Int32 → Int32 → Prop
  | 0, _, _, _, _ => False
  | n + 1, M, v3, v2, v1 => (((M.2.1 163 1) ≤ v3 → True) ∧ (¬ ((M.2.1 163 1) ≤ v3) → ((v2 = v3 → (xq_258_14 n M (v3 + (1 : Int32)) v2 v1)) ∧ (¬ (v2 = v3) → (xp_241 M v2 v3 ∧ (((xf_241 M v2 v3) → (xq_258_14 n M (v3 + (1 : Int32)) v2 (v1 + (1 : Int32)))) ∧ (¬ ((xf_241 M v2 v3)) → (xq_258_14 n M (v3 + (1 : Int32)) v2 v1))))))))
theorem xt_258_14 {X : ro_Sx} {post : ro_Po} : ∀ (n : Nat) {M : ro_Mm} {v3 : Int32} {v2 : Int32} {v1 : Int32} (hL : ro_lay M) (hp : xq_258_14 n M v3 v2 v1) (hk : ro_w X 1 258 post 45 [(3, .int (xg_258_14 n M v3 v2 v1).1), (2, .int v2), (1, .int (xg_258_14 n M v3 v2 v1).2), (0, .ref 163)] [] M (0, 0)), ro_w X 1 258 post 14 [(3, .int v3), (2, .int v2), (1, .int v1), (0, .ref 163)] [] M (0, 0) := by
  intro n
  induction n with
  | zero => intro M v3 v2 v1 hL hp hk; exact False.elim hp
  | succ n ih =>
    intro M v3 v2 v1 hL hp hk
    rw [xq_258_14] at hp
    refine rs_iload_n ri_258_14 rfl rfl ?_
    refine rs_aload_n ri_258_15 rfl rfl ?_
    refine rs_gf (v := .int (M.2.1 163 1)) ri_258_16 rfl (by decide) (ro_kf (kd_163 hL)) rfl rfl ?_
    refine rs_icmp_ge (t := 45) ri_258_19 rfl rfl (fun h2 => ?_) (fun h2 => ?_)
    · skip
      have e : xg_258_14 (n + 1) M v3 v2 v1 = (v3, v1) := by rw [xg_258_14]; first | (simp only [if_pos h2]; done) | rfl
      rw [e] at hk
      exact ro_w_lv (ro_sub_c rfl (ro_sub_c rfl (ro_sub_c rfl (ro_sub_c rfl (ro_sub_n rfl))))) hk
    · have hp := hp.2 h2
      refine rs_iload_n ri_258_22 rfl rfl ?_
      refine rs_iload_n ri_258_23 rfl rfl ?_
      refine rs_icmp_eq (t := 39) ri_258_24 rfl rfl (fun h3 => ?_) (fun h3 => ?_)
      · have hp := hp.1 h3
        refine rs_iinc (v := (v3 + (1 : Int32))) (lv2 := [(3, .int (v3 + (1 : Int32))), (2, .int v2), (1, .int v1), (0, .ref 163)]) ri_258_39 rfl rfl rfl rm_258.1 (by decide) rfl ?_
        refine rs_goto (t := 14) ri_258_42 rfl ?_
        have e : xg_258_14 (n + 1) M v3 v2 v1 = xg_258_14 n M (v3 + (1 : Int32)) v2 v1 := by rw [xg_258_14]; first | (simp only [if_neg h2, if_pos h3]; done) | rfl
        rw [e] at hk
        exact ro_w_lv (ro_sub_c rfl (ro_sub_c rfl (ro_sub_c rfl (ro_sub_c rfl (ro_sub_n rfl))))) (ih hL  hp hk)
      · have hp := hp.2 h3
        refine rs_aload_n ri_258_27 rfl rfl ?_
        refine rs_iload_n ri_258_28 rfl rfl ?_
        refine rs_iload_n ri_258_29 rfl rfl ?_
        obtain ⟨q3, hp⟩ := hp
        refine rs_virt (As := [.int v2, .int v3]) (r := []) ri_258_30 rfl (by decide) rm_241.2.2.2 rm_241.2.2.1 rfl rfl rfl (by decide) (ro_kf (kd_163 hL)) (Nat.le_of_ble_eq_true rfl) (by decide) (by decide) (xs_241 (X := X) hL q3) ?_
        rintro _ _ ⟨e1, e2⟩
        rw [e1, e2]
        show ro_w X _ 258 _ 33 [(3, .int v3), (2, .int v2), (1, .int v1), (0, .ref 163)] [.int (ro_b (xf_241 M v2 v3))] M (0, 0)
        refine rs_ifeq_c (t := 39) ri_258_33 rfl rfl (fun h5 => ?_) (fun h5 => ?_)
        · have hp := hp.2 h5
          refine rs_iinc (v := (v3 + (1 : Int32))) (lv2 := [(3, .int (v3 + (1 : Int32))), (2, .int v2), (1, .int v1), (0, .ref 163)]) ri_258_39 rfl rfl rfl rm_258.1 (by decide) rfl ?_
          refine rs_goto (t := 14) ri_258_42 rfl ?_
          have e : xg_258_14 (n + 1) M v3 v2 v1 = xg_258_14 n M (v3 + (1 : Int32)) v2 v1 := by rw [xg_258_14]; first | (simp only [if_neg h2, if_neg h3, if_neg h5]; done) | rfl
          rw [e] at hk
          exact ro_w_lv (ro_sub_c rfl (ro_sub_c rfl (ro_sub_c rfl (ro_sub_c rfl (ro_sub_n rfl))))) (ih hL  hp hk)
        · have hp := hp.1 h5
          refine rs_iinc (v := (v1 + (1 : Int32))) (lv2 := [(1, .int (v1 + (1 : Int32))), (3, .int v3), (2, .int v2), (0, .ref 163)]) ri_258_36 rfl rfl rfl rm_258.1 (by decide) rfl ?_
          refine rs_iinc (v := (v3 + (1 : Int32))) (lv2 := [(3, .int (v3 + (1 : Int32))), (1, .int (v1 + (1 : Int32))), (2, .int v2), (0, .ref 163)]) ri_258_39 rfl rfl rfl rm_258.1 (by decide) rfl ?_
          refine rs_goto (t := 14) ri_258_42 rfl ?_
          have e : xg_258_14 (n + 1) M v3 v2 v1 = xg_258_14 n M (v3 + (1 : Int32)) v2 (v1 + (1 : Int32)) := by rw [xg_258_14]; first | (simp only [if_neg h2, if_neg h3, if_pos h5]; done) | rfl
          rw [e] at hk
          exact ro_w_lv (ro_sub_c rfl (ro_sub_c rfl (ro_sub_c rfl (ro_sub_c rfl (ro_sub_n rfl))))) (ih hL  hp hk)
/-- a loop of RefusedOnceModel.pairsNow()I -/
noncomputable def xg_258_4 : Nat → ro_Mm → Int32 → Int32 → Int32 × Int32
  | 0, M, v2, v1 => (v2, v1)
  | n + 1, M, v2, v1 => (if (M.2.1 163 1) ≤ v2 then (v2, v1) else (xg_258_4 n M (v2 + (1 : Int32)) (xg_258_14 lp_N M (0 : Int32) v2 v1).2))
def xq_258_4 : Nat → ro_Mm → Int32 → Int32 → Prop
  | 0, _, _, _ => False
  | n + 1, M, v2, v1 => (((M.2.1 163 1) ≤ v2 → True) ∧ (¬ ((M.2.1 163 1) ≤ v2) → (xq_258_14 lp_N M (0 : Int32) v2 v1 ∧ (xq_258_4 n M (v2 + (1 : Int32)) (xg_258_14 lp_N M (0 : Int32) v2 v1).2))))
theorem xt_258_4 {X : ro_Sx} {post : ro_Po} : ∀ (n : Nat) {M : ro_Mm} {v2 : Int32} {v1 : Int32} (hL : ro_lay M) (hp : xq_258_4 n M v2 v1) (hk : ro_w X 1 258 post 51 [(2, .int (xg_258_4 n M v2 v1).1), (1, .int (xg_258_4 n M v2 v1).2), (0, .ref 163)] [] M (0, 0)), ro_w X 1 258 post 4 [(2, .int v2), (1, .int v1), (0, .ref 163)] [] M (0, 0) := by
  intro n
  induction n with
  | zero => intro M v2 v1 hL hp hk; exact False.elim hp
  | succ n ih =>
    intro M v2 v1 hL hp hk
    rw [xq_258_4] at hp
    refine rs_iload_n ri_258_4 rfl rfl ?_
    refine rs_aload_n ri_258_5 rfl rfl ?_
    refine rs_gf (v := .int (M.2.1 163 1)) ri_258_6 rfl (by decide) (ro_kf (kd_163 hL)) rfl rfl ?_
    refine rs_icmp_ge (t := 51) ri_258_9 rfl rfl (fun h1 => ?_) (fun h1 => ?_)
    · skip
      have e : xg_258_4 (n + 1) M v2 v1 = (v2, v1) := by rw [xg_258_4]; first | (simp only [if_pos h1]; done) | rfl
      rw [e] at hk
      exact ro_w_lv (ro_sub_c rfl (ro_sub_c rfl (ro_sub_c rfl (ro_sub_n rfl)))) hk
    · have hp := hp.2 h1
      refine rs_iconst (v := (0 : Int32)) ri_258_12 rfl (by decide) ?_
      refine rs_istore_n (lv2 := [(3, .int (0 : Int32)), (2, .int v2), (1, .int v1), (0, .ref 163)]) ri_258_13 rfl rm_258.1 (by decide) rfl ?_
      obtain ⟨q5, hp⟩ := hp
      refine xt_258_14 lp_N hL q5 ?_
      refine rs_iinc (v := (v2 + (1 : Int32))) (lv2 := [(2, .int (v2 + (1 : Int32))), (3, .int (xg_258_14 lp_N M (0 : Int32) v2 v1).1), (1, .int (xg_258_14 lp_N M (0 : Int32) v2 v1).2), (0, .ref 163)]) ri_258_45 rfl rfl rfl rm_258.1 (by decide) rfl ?_
      refine rs_goto (t := 4) ri_258_48 rfl ?_
      have e : xg_258_4 (n + 1) M v2 v1 = xg_258_4 n M (v2 + (1 : Int32)) (xg_258_14 lp_N M (0 : Int32) v2 v1).2 := by rw [xg_258_4]; first | (simp only [if_neg h1]; done) | rfl
      rw [e] at hk
      exact ro_w_lv (ro_sub_c rfl (ro_sub_c rfl (ro_sub_c rfl (ro_sub_n rfl)))) (ih hL  hp hk)
/-- RefusedOnceModel.pairsNow()I -/
noncomputable def xf_258 (M : ro_Mm) : Int32 := (xg_258_4 lp_N M (0 : Int32) (0 : Int32)).2
def xp_258 (M : ro_Mm) : Prop := (xq_258_4 lp_N M (0 : Int32) (0 : Int32) ∧ True)
theorem xs_258 {X : ro_Sx} {M : ro_Mm} (hL : ro_lay M) (hp : xp_258 M) : ro_cwp X 2 258 [.ref 163] M (fun v M2 => v = some (.int (xf_258 M)) ∧ M2 = M) := by
  refine rs_begin (lv0 := [(0, .ref 163)]) (by decide) rfl (by rw [rm_258.1]; exact Nat.le_of_ble_eq_true rfl) rfl ?_
  unfold xp_258 at hp
  refine rs_iconst (v := (0 : Int32)) ri_258_0 rfl (by decide) ?_
  refine rs_istore_n (lv2 := [(1, .int (0 : Int32)), (0, .ref 163)]) ri_258_1 rfl rm_258.1 (by decide) rfl ?_
  refine rs_iconst (v := (0 : Int32)) ri_258_2 rfl (by decide) ?_
  refine rs_istore_n (lv2 := [(2, .int (0 : Int32)), (1, .int (0 : Int32)), (0, .ref 163)]) ri_258_3 rfl rm_258.1 (by decide) rfl ?_
  obtain ⟨q6, hp⟩ := hp
  refine xt_258_4 lp_N hL q6 ?_
  refine rs_iload_n ri_258_51 rfl rfl ?_
  refine rs_iret ri_258_52 rm_258.2.1 (by decide) ?_
  exact ⟨by rfl, by rfl⟩
/-- a loop of RefusedOnceModel.hands(II)I -/
noncomputable def xg_259_30 : Nat → ro_Mm → Int32 → Int32 → Int32 → Int32
  | 0, M, v3, v1, v2 => v3
  | n + 1, M, v3, v1, v2 => (if (10 : Int32) ≤ v3 then v3 else (if (M.2.1 191 (v1.toNatClampNeg)) ≤ v3 then v3 else (if (xf_204 M (xf_238 M v1 v3)) then (xg_259_30 n M (v3 + (1 : Int32)) v1 v2) else v3)))
def xq_259_30 : Nat → ro_Mm → Int32 → Int32 → Int32 → Prop
  | 0, _, _, _, _ => False
  | n + 1, M, v3, v1, v2 => (((10 : Int32) ≤ v3 → True) ∧ (¬ ((10 : Int32) ≤ v3) → (vp_in v1 6 ∧ (((M.2.1 191 (v1.toNatClampNeg)) ≤ v3 → True) ∧ (¬ ((M.2.1 191 (v1.toNatClampNeg)) ≤ v3) → (xp_238 M v1 v3 ∧ (((xf_204 M (xf_238 M v1 v3)) → (xq_259_30 n M (v3 + (1 : Int32)) v1 v2)) ∧ (¬ ((xf_204 M (xf_238 M v1 v3))) → True))))))))
theorem xt_259_30 {X : ro_Sx} {post : ro_Po} : ∀ (n : Nat) {M : ro_Mm} {v3 : Int32} {v1 : Int32} {v2 : Int32} (hL : ro_lay M) (hp : xq_259_30 n M v3 v1 v2) (hk : ro_w X 2 259 post 65 [(3, .int (xg_259_30 n M v3 v1 v2)), (0, .ref 163), (1, .int v1), (2, .int v2)] [] M (0, 0)), ro_w X 2 259 post 30 [(3, .int v3), (0, .ref 163), (1, .int v1), (2, .int v2)] [] M (0, 0) := by
  intro n
  induction n with
  | zero => intro M v3 v1 v2 hL hp hk; exact False.elim hp
  | succ n ih =>
    intro M v3 v1 v2 hL hp hk
    rw [xq_259_30] at hp
    refine rs_iload_n ri_259_30 rfl rfl ?_
    refine rs_bipush (v := (10 : Int32)) ri_259_31 rfl (by decide) ?_
    refine rs_icmp_ge (t := 65) ri_259_33 rfl rfl (fun h5 => ?_) (fun h5 => ?_)
    · skip
      have e : xg_259_30 (n + 1) M v3 v1 v2 = v3 := by rw [xg_259_30]; first | (simp only [if_pos h5]; done) | rfl
      rw [e] at hk
      exact ro_w_lv (ro_sub_c rfl (ro_sub_c rfl (ro_sub_c rfl (ro_sub_c rfl (ro_sub_n rfl))))) hk
    · have hp := hp.2 h5
      refine rs_iload_n ri_259_36 rfl rfl ?_
      refine rs_aload_n ri_259_37 rfl rfl ?_
      refine rs_gf (v := .ref 191) ri_259_38 rfl (by decide) (ro_kf (kd_163 hL)) rfl (rf_163_54 hL) ?_
      refine rs_iload_n ri_259_41 rfl rfl ?_
      obtain ⟨q5, hp⟩ := hp
      refine rs_iald (v := (M.2.1 191 (v1.toNatClampNeg))) ri_259_42 rfl (by decide) (kd_191 hL) q5 rfl ?_
      refine rs_icmp_ge (t := 65) ri_259_43 rfl rfl (fun h7 => ?_) (fun h7 => ?_)
      · skip
        have e : xg_259_30 (n + 1) M v3 v1 v2 = v3 := by rw [xg_259_30]; first | (simp only [if_neg h5, if_pos h7]; done) | rfl
        rw [e] at hk
        exact ro_w_lv (ro_sub_c rfl (ro_sub_c rfl (ro_sub_c rfl (ro_sub_c rfl (ro_sub_n rfl))))) hk
      · have hp := hp.2 h7
        refine rs_aload_n ri_259_46 rfl rfl ?_
        refine rs_aload_n ri_259_47 rfl rfl ?_
        refine rs_iload_n ri_259_48 rfl rfl ?_
        refine rs_iload_n ri_259_49 rfl rfl ?_
        obtain ⟨q7, hp⟩ := hp
        refine rs_virt (As := [.int v1, .int v3]) (r := [.ref 163]) ri_259_50 rfl (by decide) rm_238.2.2.2 rm_238.2.2.1 rfl rfl rfl (by decide) (ro_kf (kd_163 hL)) (Nat.le_of_ble_eq_true rfl) (by decide) (by decide) (xs_238 (X := X) hL q7) ?_
        rintro _ _ ⟨e1, e2⟩
        rw [e1, e2]
        show ro_w X _ 259 _ 53 [(3, .int v3), (0, .ref 163), (1, .int v1), (2, .int v2)] [.int (xf_238 M v1 v3), .ref 163] M (0, 0)
        refine rs_virt (As := [.int (xf_238 M v1 v3)]) (r := []) ri_259_53 rfl (by decide) rm_204.2.2.2 rm_204.2.2.1 rfl rfl rfl (by decide) (ro_kf (kd_163 hL)) (Nat.le_of_ble_eq_true rfl) (by decide) (by decide) (xs_204 (X := X) hL) ?_
        rintro _ _ ⟨e1, e2⟩
        rw [e1, e2]
        show ro_w X _ 259 _ 56 [(3, .int v3), (0, .ref 163), (1, .int v1), (2, .int v2)] [.int (ro_b (xf_204 M (xf_238 M v1 v3)))] M (0, 0)
        refine rs_ifeq_c (t := 65) ri_259_56 rfl rfl (fun h9 => ?_) (fun h9 => ?_)
        · skip
          have e : xg_259_30 (n + 1) M v3 v1 v2 = v3 := by rw [xg_259_30]; first | (simp only [if_neg h5, if_neg h7, if_neg h9]; done) | rfl
          rw [e] at hk
          exact ro_w_lv (ro_sub_c rfl (ro_sub_c rfl (ro_sub_c rfl (ro_sub_c rfl (ro_sub_n rfl))))) hk
        · have hp := hp.1 h9
          refine rs_iinc (v := (v3 + (1 : Int32))) (lv2 := [(3, .int (v3 + (1 : Int32))), (0, .ref 163), (1, .int v1), (2, .int v2)]) ri_259_59 rfl rfl rfl rm_259.1 (by decide) rfl ?_
          refine rs_goto (t := 30) ri_259_62 rfl ?_
          have e : xg_259_30 (n + 1) M v3 v1 v2 = xg_259_30 n M (v3 + (1 : Int32)) v1 v2 := by rw [xg_259_30]; first | (simp only [if_neg h5, if_neg h7, if_pos h9]; done) | rfl
          rw [e] at hk
          exact ro_w_lv (ro_sub_c rfl (ro_sub_c rfl (ro_sub_c rfl (ro_sub_c rfl (ro_sub_n rfl))))) (ih hL  hp hk)
/-- a loop of RefusedOnceModel.hands(II)I -/
noncomputable def xg_259_74 : Nat → ro_Mm → Int32 → Int32 → Int32 → Int32 → Int32 → Int32 → Int32 × Int32 × Int32
  | 0, M, v6, v5, v4, v3, v1, v2 => (v6, v5, v4)
  | n + 1, M, v6, v5, v4, v3, v1, v2 => (if v3 ≤ v6 then (v6, v5, v4) else (if v4 < ((M.2.1 166 ((xf_238 M v1 v6).toNatClampNeg)) - (((4 : Int32) - (M.2.1 168 0)) * ((v3 - (1 : Int32)) - v6))) then (xg_259_74 n M (v6 + (1 : Int32)) v6 ((M.2.1 166 ((xf_238 M v1 v6).toNatClampNeg)) - (((4 : Int32) - (M.2.1 168 0)) * ((v3 - (1 : Int32)) - v6))) v3 v1 v2) else (xg_259_74 n M (v6 + (1 : Int32)) v5 v4 v3 v1 v2)))
def xq_259_74 : Nat → ro_Mm → Int32 → Int32 → Int32 → Int32 → Int32 → Int32 → Prop
  | 0, _, _, _, _, _, _, _ => False
  | n + 1, M, v6, v5, v4, v3, v1, v2 => ((v3 ≤ v6 → True) ∧ (¬ (v3 ≤ v6) → (xp_238 M v1 v6 ∧ (vp_in (xf_238 M v1 v6) 6 ∧ ((v4 < ((M.2.1 166 ((xf_238 M v1 v6).toNatClampNeg)) - (((4 : Int32) - (M.2.1 168 0)) * ((v3 - (1 : Int32)) - v6))) → (xq_259_74 n M (v6 + (1 : Int32)) v6 ((M.2.1 166 ((xf_238 M v1 v6).toNatClampNeg)) - (((4 : Int32) - (M.2.1 168 0)) * ((v3 - (1 : Int32)) - v6))) v3 v1 v2)) ∧ (¬ (v4 < ((M.2.1 166 ((xf_238 M v1 v6).toNatClampNeg)) - (((4 : Int32) - (M.2.1 168 0)) * ((v3 - (1 : Int32)) - v6)))) → (xq_259_74 n M (v6 + (1 : Int32)) v5 v4 v3 v1 v2)))))))
theorem xt_259_74 {X : ro_Sx} {post : ro_Po} : ∀ (n : Nat) {M : ro_Mm} {v6 : Int32} {v5 : Int32} {v4 : Int32} {v3 : Int32} {v1 : Int32} {v2 : Int32} (hL : ro_lay M) (hp : xq_259_74 n M v6 v5 v4 v3 v1 v2) (hk : ro_w X 2 259 post 134 [(6, .int (xg_259_74 n M v6 v5 v4 v3 v1 v2).1), (5, .int (xg_259_74 n M v6 v5 v4 v3 v1 v2).2.1), (4, .int (xg_259_74 n M v6 v5 v4 v3 v1 v2).2.2), (3, .int v3), (0, .ref 163), (1, .int v1), (2, .int v2)] [] M (0, 0)), ro_w X 2 259 post 74 [(6, .int v6), (5, .int v5), (4, .int v4), (3, .int v3), (0, .ref 163), (1, .int v1), (2, .int v2)] [] M (0, 0) := by
  intro n
  induction n with
  | zero => intro M v6 v5 v4 v3 v1 v2 hL hp hk; exact False.elim hp
  | succ n ih =>
    intro M v6 v5 v4 v3 v1 v2 hL hp hk
    rw [xq_259_74] at hp
    refine rs_iload ri_259_74 rfl rfl ?_
    refine rs_iload_n ri_259_76 rfl rfl ?_
    refine rs_icmp_ge (t := 134) ri_259_77 rfl rfl (fun h11 => ?_) (fun h11 => ?_)
    · skip
      have e : xg_259_74 (n + 1) M v6 v5 v4 v3 v1 v2 = (v6, v5, v4) := by rw [xg_259_74]; first | (simp only [if_pos h11]; done) | rfl
      rw [e] at hk
      exact ro_w_lv (ro_sub_c rfl (ro_sub_c rfl (ro_sub_c rfl (ro_sub_c rfl (ro_sub_c rfl (ro_sub_c rfl (ro_sub_c rfl (ro_sub_n rfl)))))))) hk
    · have hp := hp.2 h11
      refine rs_aload_n ri_259_80 rfl rfl ?_
      refine rs_gf (v := .ref 166) ri_259_81 rfl (by decide) (ro_kf (kd_163 hL)) rfl (rf_163_4 hL) ?_
      refine rs_aload_n ri_259_84 rfl rfl ?_
      refine rs_iload_n ri_259_85 rfl rfl ?_
      refine rs_iload ri_259_86 rfl rfl ?_
      obtain ⟨q11, hp⟩ := hp
      refine rs_virt (As := [.int v1, .int v6]) (r := [.ref 166]) ri_259_88 rfl (by decide) rm_238.2.2.2 rm_238.2.2.1 rfl rfl rfl (by decide) (ro_kf (kd_163 hL)) (Nat.le_of_ble_eq_true rfl) (by decide) (by decide) (xs_238 (X := X) hL q11) ?_
      rintro _ _ ⟨e1, e2⟩
      rw [e1, e2]
      show ro_w X _ 259 _ 91 [(6, .int v6), (5, .int v5), (4, .int v4), (3, .int v3), (0, .ref 163), (1, .int v1), (2, .int v2)] [.int (xf_238 M v1 v6), .ref 166] M (0, 0)
      obtain ⟨q12, hp⟩ := hp
      refine rs_iald (v := (M.2.1 166 ((xf_238 M v1 v6).toNatClampNeg))) ri_259_91 rfl (by decide) (kd_166 hL) q12 rfl ?_
      refine rs_iconst (v := (4 : Int32)) ri_259_92 rfl (by decide) ?_
      refine rs_aload_n ri_259_93 rfl rfl ?_
      refine rs_gf (v := .ref 168) ri_259_94 rfl (by decide) (ro_kf (kd_163 hL)) rfl (rf_163_6 hL) ?_
      refine rs_iconst (v := (0 : Int32)) ri_259_97 rfl (by decide) ?_
      refine rs_iald (v := (M.2.1 168 0)) ri_259_98 rfl (by decide) (kd_168 hL) (vp_in_iff.mpr ⟨by decide, by decide⟩) rfl ?_
      refine rs_isub (r := ((4 : Int32) - (M.2.1 168 0))) ri_259_99 rfl rfl ?_
      refine rs_iload_n ri_259_100 rfl rfl ?_
      refine rs_iconst (v := (1 : Int32)) ri_259_101 rfl (by decide) ?_
      refine rs_isub (r := (v3 - (1 : Int32))) ri_259_102 rfl rfl ?_
      refine rs_iload ri_259_103 rfl rfl ?_
      refine rs_isub (r := ((v3 - (1 : Int32)) - v6)) ri_259_105 rfl rfl ?_
      refine rs_imul (r := (((4 : Int32) - (M.2.1 168 0)) * ((v3 - (1 : Int32)) - v6))) ri_259_106 rfl rfl ?_
      refine rs_isub (r := ((M.2.1 166 ((xf_238 M v1 v6).toNatClampNeg)) - (((4 : Int32) - (M.2.1 168 0)) * ((v3 - (1 : Int32)) - v6)))) ri_259_107 rfl rfl ?_
      refine rs_istore (lv2 := [(7, .int ((M.2.1 166 ((xf_238 M v1 v6).toNatClampNeg)) - (((4 : Int32) - (M.2.1 168 0)) * ((v3 - (1 : Int32)) - v6)))), (6, .int v6), (5, .int v5), (4, .int v4), (3, .int v3), (0, .ref 163), (1, .int v1), (2, .int v2)]) ri_259_108 rfl rm_259.1 (by decide) rfl ?_
      refine rs_iload ri_259_110 rfl rfl ?_
      refine rs_iload ri_259_112 rfl rfl ?_
      refine rs_icmp_gt (t := 120) ri_259_114 rfl rfl (fun h14 => ?_) (fun h14 => ?_)
      · have hp := hp.1 h14
        refine rs_iload ri_259_120 rfl rfl ?_
        refine rs_istore (lv2 := [(4, .int ((M.2.1 166 ((xf_238 M v1 v6).toNatClampNeg)) - (((4 : Int32) - (M.2.1 168 0)) * ((v3 - (1 : Int32)) - v6)))), (7, .int ((M.2.1 166 ((xf_238 M v1 v6).toNatClampNeg)) - (((4 : Int32) - (M.2.1 168 0)) * ((v3 - (1 : Int32)) - v6)))), (6, .int v6), (5, .int v5), (3, .int v3), (0, .ref 163), (1, .int v1), (2, .int v2)]) ri_259_122 rfl rm_259.1 (by decide) rfl ?_
        refine rs_iload ri_259_124 rfl rfl ?_
        refine rs_istore (lv2 := [(5, .int v6), (4, .int ((M.2.1 166 ((xf_238 M v1 v6).toNatClampNeg)) - (((4 : Int32) - (M.2.1 168 0)) * ((v3 - (1 : Int32)) - v6)))), (7, .int ((M.2.1 166 ((xf_238 M v1 v6).toNatClampNeg)) - (((4 : Int32) - (M.2.1 168 0)) * ((v3 - (1 : Int32)) - v6)))), (6, .int v6), (3, .int v3), (0, .ref 163), (1, .int v1), (2, .int v2)]) ri_259_126 rfl rm_259.1 (by decide) rfl ?_
        refine rs_iinc (v := (v6 + (1 : Int32))) (lv2 := [(6, .int (v6 + (1 : Int32))), (5, .int v6), (4, .int ((M.2.1 166 ((xf_238 M v1 v6).toNatClampNeg)) - (((4 : Int32) - (M.2.1 168 0)) * ((v3 - (1 : Int32)) - v6)))), (7, .int ((M.2.1 166 ((xf_238 M v1 v6).toNatClampNeg)) - (((4 : Int32) - (M.2.1 168 0)) * ((v3 - (1 : Int32)) - v6)))), (3, .int v3), (0, .ref 163), (1, .int v1), (2, .int v2)]) ri_259_128 rfl rfl rfl rm_259.1 (by decide) rfl ?_
        refine rs_goto (t := 74) ri_259_131 rfl ?_
        have e : xg_259_74 (n + 1) M v6 v5 v4 v3 v1 v2 = xg_259_74 n M (v6 + (1 : Int32)) v6 ((M.2.1 166 ((xf_238 M v1 v6).toNatClampNeg)) - (((4 : Int32) - (M.2.1 168 0)) * ((v3 - (1 : Int32)) - v6))) v3 v1 v2 := by rw [xg_259_74]; first | (simp only [if_neg h11, if_pos h14]; done) | rfl
        rw [e] at hk
        exact ro_w_lv (ro_sub_c rfl (ro_sub_c rfl (ro_sub_c rfl (ro_sub_c rfl (ro_sub_c rfl (ro_sub_c rfl (ro_sub_c rfl (ro_sub_n rfl)))))))) (ih hL  hp hk)
      · have hp := hp.2 h14
        refine rs_goto (t := 128) ri_259_117 rfl ?_
        refine rs_iinc (v := (v6 + (1 : Int32))) (lv2 := [(6, .int (v6 + (1 : Int32))), (7, .int ((M.2.1 166 ((xf_238 M v1 v6).toNatClampNeg)) - (((4 : Int32) - (M.2.1 168 0)) * ((v3 - (1 : Int32)) - v6)))), (5, .int v5), (4, .int v4), (3, .int v3), (0, .ref 163), (1, .int v1), (2, .int v2)]) ri_259_128 rfl rfl rfl rm_259.1 (by decide) rfl ?_
        refine rs_goto (t := 74) ri_259_131 rfl ?_
        have e : xg_259_74 (n + 1) M v6 v5 v4 v3 v1 v2 = xg_259_74 n M (v6 + (1 : Int32)) v5 v4 v3 v1 v2 := by rw [xg_259_74]; first | (simp only [if_neg h11, if_neg h14]; done) | rfl
        rw [e] at hk
        exact ro_w_lv (ro_sub_c rfl (ro_sub_c rfl (ro_sub_c rfl (ro_sub_c rfl (ro_sub_c rfl (ro_sub_c rfl (ro_sub_c rfl (ro_sub_n rfl)))))))) (ih hL  hp hk)
/-- RefusedOnceModel.hands(II)I -/
noncomputable def xf_259 (M : ro_Mm) (v1 : Int32) (v2 : Int32) : Int32 := (if (xf_198 M v1) then (if (xf_195 M v2 (0 : Int32) (1 : Int32)) then (if (0 : Int32) ≤ (xf_235 M v1) then (if v2 = (0 : Int32) then (xg_259_74 lp_N M (1 : Int32) (0 : Int32) (0 : Int32) (xg_259_30 lp_N M (0 : Int32) v1 v2) v1 v2).2.2 else (xg_259_74 lp_N M (1 : Int32) (0 : Int32) (0 : Int32) (xg_259_30 lp_N M (0 : Int32) v1 v2) v1 v2).2.1) else (-2000000000 : Int32)) else (-2000000000 : Int32)) else (-2000000000 : Int32))
def xp_259 (M : ro_Mm) (v1 : Int32) (v2 : Int32) : Prop := (((xf_198 M v1) → (((xf_195 M v2 (0 : Int32) (1 : Int32)) → (xp_235 M v1 ∧ (((0 : Int32) ≤ (xf_235 M v1) → (xq_259_30 lp_N M (0 : Int32) v1 v2 ∧ (xq_259_74 lp_N M (1 : Int32) (0 : Int32) (0 : Int32) (xg_259_30 lp_N M (0 : Int32) v1 v2) v1 v2 ∧ True))) ∧ (¬ ((0 : Int32) ≤ (xf_235 M v1)) → True)))) ∧ (¬ ((xf_195 M v2 (0 : Int32) (1 : Int32))) → True))) ∧ (¬ ((xf_198 M v1)) → True))
theorem xs_259 {X : ro_Sx} {M : ro_Mm} {v1 : Int32} {v2 : Int32} (hL : ro_lay M) (hp : xp_259 M v1 v2) : ro_cwp X 3 259 [.ref 163, .int v1, .int v2] M (fun v M2 => v = some (.int (xf_259 M v1 v2)) ∧ M2 = M) := by
  refine rs_begin (lv0 := [(0, .ref 163), (1, .int v1), (2, .int v2)]) (by decide) rfl (by rw [rm_259.1]; exact Nat.le_of_ble_eq_true rfl) rfl ?_
  unfold xp_259 at hp
  refine rs_iload_n ri_259_0 rfl rfl ?_
  refine rs_stat (As := [.int v1]) (r := []) ri_259_1 rfl rm_198.2.2.2 rfl rfl rfl (Nat.le_of_ble_eq_true rfl) (by decide) (by decide) (xs_198 (X := X) hL) ?_
  rintro _ _ ⟨e1, e2⟩
  rw [e1, e2]
  show ro_w X _ 259 _ 4 [(0, .ref 163), (1, .int v1), (2, .int v2)] [.int (ro_b (xf_198 M v1))] M (0, 0)
  refine rs_ifeq_c (t := 24) ri_259_4 rfl rfl (fun h1 => ?_) (fun h1 => ?_)
  · have hp := hp.2 h1
    refine rs_ldc_w (v := (-2000000000 : Int32)) ri_259_24 rfl rfl (by decide) ?_
    refine rs_iret ri_259_27 rm_259.2.1 (by decide) ?_
    exact ⟨by unfold xf_259; first | (simp only [if_neg h1]; done) | rfl, by rfl⟩
  · have hp := hp.1 h1
    refine rs_iload_n ri_259_7 rfl rfl ?_
    refine rs_iconst (v := (0 : Int32)) ri_259_8 rfl (by decide) ?_
    refine rs_iconst (v := (1 : Int32)) ri_259_9 rfl (by decide) ?_
    refine rs_stat (As := [.int v2, .int (0 : Int32), .int (1 : Int32)]) (r := []) ri_259_10 rfl rm_195.2.2.2 rfl rfl rfl (Nat.le_of_ble_eq_true rfl) (by decide) (by decide) (xs_195 (X := X) hL) ?_
    rintro _ _ ⟨e1, e2⟩
    rw [e1, e2]
    show ro_w X _ 259 _ 13 [(0, .ref 163), (1, .int v1), (2, .int v2)] [.int (ro_b (xf_195 M v2 (0 : Int32) (1 : Int32)))] M (0, 0)
    refine rs_ifeq_c (t := 24) ri_259_13 rfl rfl (fun h2 => ?_) (fun h2 => ?_)
    · have hp := hp.2 h2
      refine rs_ldc_w (v := (-2000000000 : Int32)) ri_259_24 rfl rfl (by decide) ?_
      refine rs_iret ri_259_27 rm_259.2.1 (by decide) ?_
      exact ⟨by unfold xf_259; first | (simp only [if_pos h1, if_neg h2]; done) | rfl, by rfl⟩
    · have hp := hp.1 h2
      refine rs_aload_n ri_259_16 rfl rfl ?_
      refine rs_iload_n ri_259_17 rfl rfl ?_
      obtain ⟨q2, hp⟩ := hp
      refine rs_virt (As := [.int v1]) (r := []) ri_259_18 rfl (by decide) rm_235.2.2.2 rm_235.2.2.1 rfl rfl rfl (by decide) (ro_kf (kd_163 hL)) (Nat.le_of_ble_eq_true rfl) (by decide) (by decide) (xs_235 (X := X) hL q2) ?_
      rintro _ _ ⟨e1, e2⟩
      rw [e1, e2]
      show ro_w X _ 259 _ 21 [(0, .ref 163), (1, .int v1), (2, .int v2)] [.int (xf_235 M v1)] M (0, 0)
      refine rs_if_ge (t := 28) ri_259_21 rfl rfl (fun h4 => ?_) (fun h4 => ?_)
      · have hp := hp.1 h4
        refine rs_iconst (v := (0 : Int32)) ri_259_28 rfl (by decide) ?_
        refine rs_istore_n (lv2 := [(3, .int (0 : Int32)), (0, .ref 163), (1, .int v1), (2, .int v2)]) ri_259_29 rfl rm_259.1 (by decide) rfl ?_
        obtain ⟨q9, hp⟩ := hp
        refine xt_259_30 lp_N hL q9 ?_
        refine rs_iconst (v := (0 : Int32)) ri_259_65 rfl (by decide) ?_
        refine rs_istore (lv2 := [(4, .int (0 : Int32)), (3, .int (xg_259_30 lp_N M (0 : Int32) v1 v2)), (0, .ref 163), (1, .int v1), (2, .int v2)]) ri_259_66 rfl rm_259.1 (by decide) rfl ?_
        refine rs_iconst (v := (0 : Int32)) ri_259_68 rfl (by decide) ?_
        refine rs_istore (lv2 := [(5, .int (0 : Int32)), (4, .int (0 : Int32)), (3, .int (xg_259_30 lp_N M (0 : Int32) v1 v2)), (0, .ref 163), (1, .int v1), (2, .int v2)]) ri_259_69 rfl rm_259.1 (by decide) rfl ?_
        refine rs_iconst (v := (1 : Int32)) ri_259_71 rfl (by decide) ?_
        refine rs_istore (lv2 := [(6, .int (1 : Int32)), (5, .int (0 : Int32)), (4, .int (0 : Int32)), (3, .int (xg_259_30 lp_N M (0 : Int32) v1 v2)), (0, .ref 163), (1, .int v1), (2, .int v2)]) ri_259_72 rfl rm_259.1 (by decide) rfl ?_
        obtain ⟨q14, hp⟩ := hp
        refine xt_259_74 lp_N hL q14 ?_
        refine rs_iload_n ri_259_134 rfl rfl ?_
        refine rs_if_ne (t := 143) ri_259_135 rfl rfl (fun h16 => ?_) (fun h16 => ?_)
        · skip
          refine rs_iload ri_259_143 rfl rfl ?_
          refine rs_iret ri_259_145 rm_259.2.1 (by decide) ?_
          exact ⟨by unfold xf_259; first | (simp only [if_pos h1, if_pos h2, if_pos h4, if_neg h16]; done) | rfl, by rfl⟩
        · skip
          refine rs_iload ri_259_138 rfl rfl ?_
          refine rs_goto (t := 145) ri_259_140 rfl ?_
          refine rs_iret ri_259_145 rm_259.2.1 (by decide) ?_
          exact ⟨by unfold xf_259; first | (simp only [if_pos h1, if_pos h2, if_pos h4, if_pos h16]; done) | rfl, by rfl⟩
      · have hp := hp.2 h4
        refine rs_ldc_w (v := (-2000000000 : Int32)) ri_259_24 rfl rfl (by decide) ?_
        refine rs_iret ri_259_27 rm_259.2.1 (by decide) ?_
        exact ⟨by unfold xf_259; first | (simp only [if_pos h1, if_pos h2, if_neg h4]; done) | rfl, by rfl⟩
/-- a loop of RefusedOnceModel.waysOf(II)J -/
noncomputable def xg_263_16 : Nat → ro_Mm → Int32 → Int64 → Int32 → Int32 → Int32 × Int64
  | 0, M, v4, v2, v0, v1 => (v4, v2)
  | n + 1, M, v4, v2, v0, v1 => (if v1 < v4 then (v4, v2) else (xg_263_16 n M (v4 + (1 : Int32)) ((v2 * (((v0 - v1) + v4).toInt64)) / (v4.toInt64)) v0 v1))
def xq_263_16 : Nat → ro_Mm → Int32 → Int64 → Int32 → Int32 → Prop
  | 0, _, _, _, _, _ => False
  | n + 1, M, v4, v2, v0, v1 => ((v1 < v4 → True) ∧ (¬ (v1 < v4) → (¬ (v4.toInt64) = 0 ∧ (xq_263_16 n M (v4 + (1 : Int32)) ((v2 * (((v0 - v1) + v4).toInt64)) / (v4.toInt64)) v0 v1))))
theorem xt_263_16 {X : ro_Sx} {post : ro_Po} : ∀ (n : Nat) {M : ro_Mm} {v4 : Int32} {v2 : Int64} {v0 : Int32} {v1 : Int32} (hL : ro_lay M) (hp : xq_263_16 n M v4 v2 v0 v1) (hk : ro_w X 0 263 post 42 [(4, .int (xg_263_16 n M v4 v2 v0 v1).1), (2, .long (xg_263_16 n M v4 v2 v0 v1).2), (0, .int v0), (1, .int v1)] [] M (0, 0)), ro_w X 0 263 post 16 [(4, .int v4), (2, .long v2), (0, .int v0), (1, .int v1)] [] M (0, 0) := by
  intro n
  induction n with
  | zero => intro M v4 v2 v0 v1 hL hp hk; exact False.elim hp
  | succ n ih =>
    intro M v4 v2 v0 v1 hL hp hk
    rw [xq_263_16] at hp
    refine rs_iload ri_263_16 rfl rfl ?_
    refine rs_iload_n ri_263_18 rfl rfl ?_
    refine rs_icmp_gt (t := 42) ri_263_19 rfl rfl (fun h3 => ?_) (fun h3 => ?_)
    · skip
      have e : xg_263_16 (n + 1) M v4 v2 v0 v1 = (v4, v2) := by rw [xg_263_16]; first | (simp only [if_pos h3]; done) | rfl
      rw [e] at hk
      exact ro_w_lv (ro_sub_c rfl (ro_sub_c rfl (ro_sub_c rfl (ro_sub_c rfl (ro_sub_n rfl))))) hk
    · have hp := hp.2 h3
      refine rs_lload_n ri_263_22 rfl rfl ?_
      refine rs_iload_n ri_263_23 rfl rfl ?_
      refine rs_iload_n ri_263_24 rfl rfl ?_
      refine rs_isub (r := (v0 - v1)) ri_263_25 rfl rfl ?_
      refine rs_iload ri_263_26 rfl rfl ?_
      refine rs_iadd (r := ((v0 - v1) + v4)) ri_263_28 rfl rfl ?_
      refine rs_i2l (r := (((v0 - v1) + v4).toInt64)) ri_263_29 rfl rfl ?_
      refine rs_lmul (r := (v2 * (((v0 - v1) + v4).toInt64))) ri_263_30 rfl rfl ?_
      refine rs_iload ri_263_31 rfl rfl ?_
      refine rs_i2l (r := (v4.toInt64)) ri_263_33 rfl rfl ?_
      obtain ⟨q3, hp⟩ := hp
      refine rs_ldiv (r := ((v2 * (((v0 - v1) + v4).toInt64)) / (v4.toInt64))) ri_263_34 rfl q3 rfl ?_
      refine rs_lstore_n (lv2 := [(2, .long ((v2 * (((v0 - v1) + v4).toInt64)) / (v4.toInt64))), (4, .int v4), (0, .int v0), (1, .int v1)]) ri_263_35 rfl rm_263.1 (by decide) rfl ?_
      refine rs_iinc (v := (v4 + (1 : Int32))) (lv2 := [(4, .int (v4 + (1 : Int32))), (2, .long ((v2 * (((v0 - v1) + v4).toInt64)) / (v4.toInt64))), (0, .int v0), (1, .int v1)]) ri_263_36 rfl rfl rfl rm_263.1 (by decide) rfl ?_
      refine rs_goto (t := 16) ri_263_39 rfl ?_
      have e : xg_263_16 (n + 1) M v4 v2 v0 v1 = xg_263_16 n M (v4 + (1 : Int32)) ((v2 * (((v0 - v1) + v4).toInt64)) / (v4.toInt64)) v0 v1 := by rw [xg_263_16]; first | (simp only [if_neg h3]; done) | rfl
      rw [e] at hk
      exact ro_w_lv (ro_sub_c rfl (ro_sub_c rfl (ro_sub_c rfl (ro_sub_c rfl (ro_sub_n rfl))))) (ih hL  hp hk)
/-- RefusedOnceModel.waysOf(II)J -/
noncomputable def xf_263 (M : ro_Mm) (v0 : Int32) (v1 : Int32) : Int64 := (if v1 < (0 : Int32) then (0 : Int64) else (if v1 ≤ v0 then (xg_263_16 lp_N M (1 : Int32) (1 : Int64) v0 v1).2 else (0 : Int64)))
def xp_263 (M : ro_Mm) (v0 : Int32) (v1 : Int32) : Prop := ((v1 < (0 : Int32) → True) ∧ (¬ (v1 < (0 : Int32)) → ((v1 ≤ v0 → (xq_263_16 lp_N M (1 : Int32) (1 : Int64) v0 v1 ∧ True)) ∧ (¬ (v1 ≤ v0) → True))))
theorem xs_263 {X : ro_Sx} {M : ro_Mm} {v0 : Int32} {v1 : Int32} (hL : ro_lay M) (hp : xp_263 M v0 v1) : ro_cwp X 1 263 [.int v0, .int v1] M (fun v M2 => v = some (.long (xf_263 M v0 v1)) ∧ M2 = M) := by
  refine rs_begin (lv0 := [(0, .int v0), (1, .int v1)]) (by decide) rfl (by rw [rm_263.1]; exact Nat.le_of_ble_eq_true rfl) rfl ?_
  unfold xp_263 at hp
  refine rs_iload_n ri_263_0 rfl rfl ?_
  refine rs_if_lt (t := 9) ri_263_1 rfl rfl (fun h1 => ?_) (fun h1 => ?_)
  · have hp := hp.1 h1
    refine rs_lconst (v := (0 : Int64)) ri_263_9 rfl rfl ?_
    refine rs_lret ri_263_10 rm_263.2.1 (by decide) ?_
    exact ⟨by unfold xf_263; first | (simp only [if_pos h1]; done) | rfl, by rfl⟩
  · have hp := hp.2 h1
    refine rs_iload_n ri_263_4 rfl rfl ?_
    refine rs_iload_n ri_263_5 rfl rfl ?_
    refine rs_icmp_le (t := 11) ri_263_6 rfl rfl (fun h2 => ?_) (fun h2 => ?_)
    · have hp := hp.1 h2
      refine rs_lconst (v := (1 : Int64)) ri_263_11 rfl rfl ?_
      refine rs_lstore_n (lv2 := [(2, .long (1 : Int64)), (0, .int v0), (1, .int v1)]) ri_263_12 rfl rm_263.1 (by decide) rfl ?_
      refine rs_iconst (v := (1 : Int32)) ri_263_13 rfl (by decide) ?_
      refine rs_istore (lv2 := [(4, .int (1 : Int32)), (2, .long (1 : Int64)), (0, .int v0), (1, .int v1)]) ri_263_14 rfl rm_263.1 (by decide) rfl ?_
      obtain ⟨q4, hp⟩ := hp
      refine xt_263_16 lp_N hL q4 ?_
      refine rs_lload_n ri_263_42 rfl rfl ?_
      refine rs_lret ri_263_43 rm_263.2.1 (by decide) ?_
      exact ⟨by unfold xf_263; first | (simp only [if_neg h1, if_pos h2]; done) | rfl, by rfl⟩
    · have hp := hp.2 h2
      refine rs_lconst (v := (0 : Int64)) ri_263_9 rfl rfl ?_
      refine rs_lret ri_263_10 rm_263.2.1 (by decide) ?_
      exact ⟨by unfold xf_263; first | (simp only [if_neg h1, if_neg h2]; done) | rfl, by rfl⟩
/-- a loop of RefusedOnceModel.dowry(II)I -/
noncomputable def xg_266_36 : Nat → ro_Mm → Int32 → Int32 → Int32 → Int32 → Int32 → Int32 × Int32 × Int32
  | 0, M, v5, v4, v3, v1, v2 => (v5, v4, v3)
  | n + 1, M, v5, v4, v3, v1, v2 => (if (M.2.1 163 1) ≤ v5 then (v5, v4, v3) else (if ((v1 >>> (v5 &&& 31)) &&& (1 : Int32)) = (0 : Int32) then (xg_266_36 n M (v5 + (1 : Int32)) v4 v3 v1 v2) else (if v3 = (0 : Int32) then (xg_266_36 n M (v5 + (1 : Int32)) v4 v3 v1 v2) else (if v3 < (M.2.1 164 (v5.toNatClampNeg)) then (if v3 ≤ (M.2.1 164 (v5.toNatClampNeg)) then (xg_266_36 n M (v5 + (1 : Int32)) v4 (v3 - v3) v1 v2) else (xg_266_36 n M (v5 + (1 : Int32)) v4 (v3 - (M.2.1 164 (v5.toNatClampNeg))) v1 v2)) else (if (M.2.1 164 (v5.toNatClampNeg)) ≤ (0 : Int32) then (if v3 ≤ (M.2.1 164 (v5.toNatClampNeg)) then (xg_266_36 n M (v5 + (1 : Int32)) v4 (v3 - v3) v1 v2) else (xg_266_36 n M (v5 + (1 : Int32)) v4 (v3 - (M.2.1 164 (v5.toNatClampNeg))) v1 v2)) else (if v3 ≤ (M.2.1 164 (v5.toNatClampNeg)) then (xg_266_36 n M (v5 + (1 : Int32)) (v4 ||| ((1 : Int32) <<< (v5 &&& 31))) (v3 - v3) v1 v2) else (xg_266_36 n M (v5 + (1 : Int32)) (v4 ||| ((1 : Int32) <<< (v5 &&& 31))) (v3 - (M.2.1 164 (v5.toNatClampNeg))) v1 v2)))))))
def xq_266_36 : Nat → ro_Mm → Int32 → Int32 → Int32 → Int32 → Int32 → Prop
  | 0, _, _, _, _, _, _ => False
  | n + 1, M, v5, v4, v3, v1, v2 => (((M.2.1 163 1) ≤ v5 → True) ∧ (¬ ((M.2.1 163 1) ≤ v5) → ((((v1 >>> (v5 &&& 31)) &&& (1 : Int32)) = (0 : Int32) → (xq_266_36 n M (v5 + (1 : Int32)) v4 v3 v1 v2)) ∧ (¬ (((v1 >>> (v5 &&& 31)) &&& (1 : Int32)) = (0 : Int32)) → ((v3 = (0 : Int32) → (xq_266_36 n M (v5 + (1 : Int32)) v4 v3 v1 v2)) ∧ (¬ (v3 = (0 : Int32)) → (vp_in v5 6 ∧ ((v3 < (M.2.1 164 (v5.toNatClampNeg)) → (vp_in v5 6 ∧ ((v3 ≤ (M.2.1 164 (v5.toNatClampNeg)) → (xq_266_36 n M (v5 + (1 : Int32)) v4 (v3 - v3) v1 v2)) ∧ (¬ (v3 ≤ (M.2.1 164 (v5.toNatClampNeg))) → (vp_in v5 6 ∧ (xq_266_36 n M (v5 + (1 : Int32)) v4 (v3 - (M.2.1 164 (v5.toNatClampNeg))) v1 v2)))))) ∧ (¬ (v3 < (M.2.1 164 (v5.toNatClampNeg))) → (vp_in v5 6 ∧ (((M.2.1 164 (v5.toNatClampNeg)) ≤ (0 : Int32) → (vp_in v5 6 ∧ ((v3 ≤ (M.2.1 164 (v5.toNatClampNeg)) → (xq_266_36 n M (v5 + (1 : Int32)) v4 (v3 - v3) v1 v2)) ∧ (¬ (v3 ≤ (M.2.1 164 (v5.toNatClampNeg))) → (vp_in v5 6 ∧ (xq_266_36 n M (v5 + (1 : Int32)) v4 (v3 - (M.2.1 164 (v5.toNatClampNeg))) v1 v2)))))) ∧ (¬ ((M.2.1 164 (v5.toNatClampNeg)) ≤ (0 : Int32)) → (vp_in v5 6 ∧ ((v3 ≤ (M.2.1 164 (v5.toNatClampNeg)) → (xq_266_36 n M (v5 + (1 : Int32)) (v4 ||| ((1 : Int32) <<< (v5 &&& 31))) (v3 - v3) v1 v2)) ∧ (¬ (v3 ≤ (M.2.1 164 (v5.toNatClampNeg))) → (vp_in v5 6 ∧ (xq_266_36 n M (v5 + (1 : Int32)) (v4 ||| ((1 : Int32) <<< (v5 &&& 31))) (v3 - (M.2.1 164 (v5.toNatClampNeg))) v1 v2)))))))))))))))))
theorem xt_266_36 {X : ro_Sx} {post : ro_Po} : ∀ (n : Nat) {M : ro_Mm} {v5 : Int32} {v4 : Int32} {v3 : Int32} {v1 : Int32} {v2 : Int32} (hL : ro_lay M) (hp : xq_266_36 n M v5 v4 v3 v1 v2) (hk : ro_w X 1 266 post 122 [(5, .int (xg_266_36 n M v5 v4 v3 v1 v2).1), (4, .int (xg_266_36 n M v5 v4 v3 v1 v2).2.1), (3, .int (xg_266_36 n M v5 v4 v3 v1 v2).2.2), (0, .ref 163), (1, .int v1), (2, .int v2)] [] M (0, 0)), ro_w X 1 266 post 36 [(5, .int v5), (4, .int v4), (3, .int v3), (0, .ref 163), (1, .int v1), (2, .int v2)] [] M (0, 0) := by
  intro n
  induction n with
  | zero => intro M v5 v4 v3 v1 v2 hL hp hk; exact False.elim hp
  | succ n ih =>
    intro M v5 v4 v3 v1 v2 hL hp hk
    rw [xq_266_36] at hp
    refine rs_iload ri_266_36 rfl rfl ?_
    refine rs_aload_n ri_266_38 rfl rfl ?_
    refine rs_gf (v := .int (M.2.1 163 1)) ri_266_39 rfl (by decide) (ro_kf (kd_163 hL)) rfl rfl ?_
    refine rs_icmp_ge (t := 122) ri_266_42 rfl rfl (fun h3 => ?_) (fun h3 => ?_)
    · skip
      have e : xg_266_36 (n + 1) M v5 v4 v3 v1 v2 = (v5, v4, v3) := by rw [xg_266_36]; first | (simp only [if_pos h3]; done) | rfl
      rw [e] at hk
      exact ro_w_lv (ro_sub_c rfl (ro_sub_c rfl (ro_sub_c rfl (ro_sub_c rfl (ro_sub_c rfl (ro_sub_c rfl (ro_sub_n rfl))))))) hk
    · have hp := hp.2 h3
      refine rs_iload_n ri_266_45 rfl rfl ?_
      refine rs_iload ri_266_46 rfl rfl ?_
      refine rs_ishr (r := (v1 >>> (v5 &&& 31))) ri_266_48 rfl rfl ?_
      refine rs_iconst (v := (1 : Int32)) ri_266_49 rfl (by decide) ?_
      refine rs_iand (r := ((v1 >>> (v5 &&& 31)) &&& (1 : Int32))) ri_266_50 rfl rfl ?_
      refine rs_if_eq (t := 116) ri_266_51 rfl rfl (fun h4 => ?_) (fun h4 => ?_)
      · have hp := hp.1 h4
        refine rs_iinc (v := (v5 + (1 : Int32))) (lv2 := [(5, .int (v5 + (1 : Int32))), (4, .int v4), (3, .int v3), (0, .ref 163), (1, .int v1), (2, .int v2)]) ri_266_116 rfl rfl rfl rm_266.1 (by decide) rfl ?_
        refine rs_goto (t := 36) ri_266_119 rfl ?_
        have e : xg_266_36 (n + 1) M v5 v4 v3 v1 v2 = xg_266_36 n M (v5 + (1 : Int32)) v4 v3 v1 v2 := by rw [xg_266_36]; first | (simp only [if_neg h3, if_pos h4]; done) | rfl
        rw [e] at hk
        exact ro_w_lv (ro_sub_c rfl (ro_sub_c rfl (ro_sub_c rfl (ro_sub_c rfl (ro_sub_c rfl (ro_sub_c rfl (ro_sub_n rfl))))))) (ih hL  hp hk)
      · have hp := hp.2 h4
        refine rs_iload_n ri_266_54 rfl rfl ?_
        refine rs_if_ne (t := 61) ri_266_55 rfl rfl (fun h5 => ?_) (fun h5 => ?_)
        · have hp := hp.2 h5
          refine rs_aload_n ri_266_61 rfl rfl ?_
          refine rs_gf (v := .ref 164) ri_266_62 rfl (by decide) (ro_kf (kd_163 hL)) rfl (rf_163_2 hL) ?_
          refine rs_iload ri_266_65 rfl rfl ?_
          obtain ⟨q5, hp⟩ := hp
          refine rs_iald (v := (M.2.1 164 (v5.toNatClampNeg))) ri_266_67 rfl (by decide) (kd_164 hL) q5 rfl ?_
          refine rs_iload_n ri_266_68 rfl rfl ?_
          refine rs_icmp_gt (t := 91) ri_266_69 rfl rfl (fun h7 => ?_) (fun h7 => ?_)
          · have hp := hp.1 h7
            refine rs_iload_n ri_266_91 rfl rfl ?_
            refine rs_aload_n ri_266_92 rfl rfl ?_
            refine rs_gf (v := .ref 164) ri_266_93 rfl (by decide) (ro_kf (kd_163 hL)) rfl (rf_163_2 hL) ?_
            refine rs_iload ri_266_96 rfl rfl ?_
            obtain ⟨q7, hp⟩ := hp
            refine rs_iald (v := (M.2.1 164 (v5.toNatClampNeg))) ri_266_98 rfl (by decide) (kd_164 hL) q7 rfl ?_
            refine rs_iload_n ri_266_99 rfl rfl ?_
            refine rs_icmp_ge (t := 113) ri_266_100 rfl rfl (fun h9 => ?_) (fun h9 => ?_)
            · have hp := hp.1 h9
              refine rs_iload_n ri_266_113 rfl rfl ?_
              refine rs_isub (r := (v3 - v3)) ri_266_114 rfl rfl ?_
              refine rs_istore_n (lv2 := [(3, .int (v3 - v3)), (5, .int v5), (4, .int v4), (0, .ref 163), (1, .int v1), (2, .int v2)]) ri_266_115 rfl rm_266.1 (by decide) rfl ?_
              refine rs_iinc (v := (v5 + (1 : Int32))) (lv2 := [(5, .int (v5 + (1 : Int32))), (3, .int (v3 - v3)), (4, .int v4), (0, .ref 163), (1, .int v1), (2, .int v2)]) ri_266_116 rfl rfl rfl rm_266.1 (by decide) rfl ?_
              refine rs_goto (t := 36) ri_266_119 rfl ?_
              have e : xg_266_36 (n + 1) M v5 v4 v3 v1 v2 = xg_266_36 n M (v5 + (1 : Int32)) v4 (v3 - v3) v1 v2 := by rw [xg_266_36]; first | (simp only [if_neg h3, if_neg h4, if_neg h5, if_pos h7, if_pos h9]; done) | rfl
              rw [e] at hk
              exact ro_w_lv (ro_sub_c rfl (ro_sub_c rfl (ro_sub_c rfl (ro_sub_c rfl (ro_sub_c rfl (ro_sub_c rfl (ro_sub_n rfl))))))) (ih hL  hp hk)
            · have hp := hp.2 h9
              refine rs_aload_n ri_266_103 rfl rfl ?_
              refine rs_gf (v := .ref 164) ri_266_104 rfl (by decide) (ro_kf (kd_163 hL)) rfl (rf_163_2 hL) ?_
              refine rs_iload ri_266_107 rfl rfl ?_
              obtain ⟨q9, hp⟩ := hp
              refine rs_iald (v := (M.2.1 164 (v5.toNatClampNeg))) ri_266_109 rfl (by decide) (kd_164 hL) q9 rfl ?_
              refine rs_goto (t := 114) ri_266_110 rfl ?_
              refine rs_isub (r := (v3 - (M.2.1 164 (v5.toNatClampNeg)))) ri_266_114 rfl rfl ?_
              refine rs_istore_n (lv2 := [(3, .int (v3 - (M.2.1 164 (v5.toNatClampNeg)))), (5, .int v5), (4, .int v4), (0, .ref 163), (1, .int v1), (2, .int v2)]) ri_266_115 rfl rm_266.1 (by decide) rfl ?_
              refine rs_iinc (v := (v5 + (1 : Int32))) (lv2 := [(5, .int (v5 + (1 : Int32))), (3, .int (v3 - (M.2.1 164 (v5.toNatClampNeg)))), (4, .int v4), (0, .ref 163), (1, .int v1), (2, .int v2)]) ri_266_116 rfl rfl rfl rm_266.1 (by decide) rfl ?_
              refine rs_goto (t := 36) ri_266_119 rfl ?_
              have e : xg_266_36 (n + 1) M v5 v4 v3 v1 v2 = xg_266_36 n M (v5 + (1 : Int32)) v4 (v3 - (M.2.1 164 (v5.toNatClampNeg))) v1 v2 := by rw [xg_266_36]; first | (simp only [if_neg h3, if_neg h4, if_neg h5, if_pos h7, if_neg h9]; done) | rfl
              rw [e] at hk
              exact ro_w_lv (ro_sub_c rfl (ro_sub_c rfl (ro_sub_c rfl (ro_sub_c rfl (ro_sub_c rfl (ro_sub_c rfl (ro_sub_n rfl))))))) (ih hL  hp hk)
          · have hp := hp.2 h7
            refine rs_aload_n ri_266_72 rfl rfl ?_
            refine rs_gf (v := .ref 164) ri_266_73 rfl (by decide) (ro_kf (kd_163 hL)) rfl (rf_163_2 hL) ?_
            refine rs_iload ri_266_76 rfl rfl ?_
            obtain ⟨q10, hp⟩ := hp
            refine rs_iald (v := (M.2.1 164 (v5.toNatClampNeg))) ri_266_78 rfl (by decide) (kd_164 hL) q10 rfl ?_
            refine rs_if_le (t := 91) ri_266_79 rfl rfl (fun h12 => ?_) (fun h12 => ?_)
            · have hp := hp.1 h12
              refine rs_iload_n ri_266_91 rfl rfl ?_
              refine rs_aload_n ri_266_92 rfl rfl ?_
              refine rs_gf (v := .ref 164) ri_266_93 rfl (by decide) (ro_kf (kd_163 hL)) rfl (rf_163_2 hL) ?_
              refine rs_iload ri_266_96 rfl rfl ?_
              obtain ⟨q12, hp⟩ := hp
              refine rs_iald (v := (M.2.1 164 (v5.toNatClampNeg))) ri_266_98 rfl (by decide) (kd_164 hL) q12 rfl ?_
              refine rs_iload_n ri_266_99 rfl rfl ?_
              refine rs_icmp_ge (t := 113) ri_266_100 rfl rfl (fun h14 => ?_) (fun h14 => ?_)
              · have hp := hp.1 h14
                refine rs_iload_n ri_266_113 rfl rfl ?_
                refine rs_isub (r := (v3 - v3)) ri_266_114 rfl rfl ?_
                refine rs_istore_n (lv2 := [(3, .int (v3 - v3)), (5, .int v5), (4, .int v4), (0, .ref 163), (1, .int v1), (2, .int v2)]) ri_266_115 rfl rm_266.1 (by decide) rfl ?_
                refine rs_iinc (v := (v5 + (1 : Int32))) (lv2 := [(5, .int (v5 + (1 : Int32))), (3, .int (v3 - v3)), (4, .int v4), (0, .ref 163), (1, .int v1), (2, .int v2)]) ri_266_116 rfl rfl rfl rm_266.1 (by decide) rfl ?_
                refine rs_goto (t := 36) ri_266_119 rfl ?_
                have e : xg_266_36 (n + 1) M v5 v4 v3 v1 v2 = xg_266_36 n M (v5 + (1 : Int32)) v4 (v3 - v3) v1 v2 := by rw [xg_266_36]; first | (simp only [if_neg h3, if_neg h4, if_neg h5, if_neg h7, if_pos h12, if_pos h14]; done) | rfl
                rw [e] at hk
                exact ro_w_lv (ro_sub_c rfl (ro_sub_c rfl (ro_sub_c rfl (ro_sub_c rfl (ro_sub_c rfl (ro_sub_c rfl (ro_sub_n rfl))))))) (ih hL  hp hk)
              · have hp := hp.2 h14
                refine rs_aload_n ri_266_103 rfl rfl ?_
                refine rs_gf (v := .ref 164) ri_266_104 rfl (by decide) (ro_kf (kd_163 hL)) rfl (rf_163_2 hL) ?_
                refine rs_iload ri_266_107 rfl rfl ?_
                obtain ⟨q14, hp⟩ := hp
                refine rs_iald (v := (M.2.1 164 (v5.toNatClampNeg))) ri_266_109 rfl (by decide) (kd_164 hL) q14 rfl ?_
                refine rs_goto (t := 114) ri_266_110 rfl ?_
                refine rs_isub (r := (v3 - (M.2.1 164 (v5.toNatClampNeg)))) ri_266_114 rfl rfl ?_
                refine rs_istore_n (lv2 := [(3, .int (v3 - (M.2.1 164 (v5.toNatClampNeg)))), (5, .int v5), (4, .int v4), (0, .ref 163), (1, .int v1), (2, .int v2)]) ri_266_115 rfl rm_266.1 (by decide) rfl ?_
                refine rs_iinc (v := (v5 + (1 : Int32))) (lv2 := [(5, .int (v5 + (1 : Int32))), (3, .int (v3 - (M.2.1 164 (v5.toNatClampNeg)))), (4, .int v4), (0, .ref 163), (1, .int v1), (2, .int v2)]) ri_266_116 rfl rfl rfl rm_266.1 (by decide) rfl ?_
                refine rs_goto (t := 36) ri_266_119 rfl ?_
                have e : xg_266_36 (n + 1) M v5 v4 v3 v1 v2 = xg_266_36 n M (v5 + (1 : Int32)) v4 (v3 - (M.2.1 164 (v5.toNatClampNeg))) v1 v2 := by rw [xg_266_36]; first | (simp only [if_neg h3, if_neg h4, if_neg h5, if_neg h7, if_pos h12, if_neg h14]; done) | rfl
                rw [e] at hk
                exact ro_w_lv (ro_sub_c rfl (ro_sub_c rfl (ro_sub_c rfl (ro_sub_c rfl (ro_sub_c rfl (ro_sub_c rfl (ro_sub_n rfl))))))) (ih hL  hp hk)
            · have hp := hp.2 h12
              refine rs_iload ri_266_82 rfl rfl ?_
              refine rs_iconst (v := (1 : Int32)) ri_266_84 rfl (by decide) ?_
              refine rs_iload ri_266_85 rfl rfl ?_
              refine rs_ishl (r := ((1 : Int32) <<< (v5 &&& 31))) ri_266_87 rfl rfl ?_
              refine rs_ior (r := (v4 ||| ((1 : Int32) <<< (v5 &&& 31)))) ri_266_88 rfl rfl ?_
              refine rs_istore (lv2 := [(4, .int (v4 ||| ((1 : Int32) <<< (v5 &&& 31)))), (5, .int v5), (3, .int v3), (0, .ref 163), (1, .int v1), (2, .int v2)]) ri_266_89 rfl rm_266.1 (by decide) rfl ?_
              refine rs_iload_n ri_266_91 rfl rfl ?_
              refine rs_aload_n ri_266_92 rfl rfl ?_
              refine rs_gf (v := .ref 164) ri_266_93 rfl (by decide) (ro_kf (kd_163 hL)) rfl (rf_163_2 hL) ?_
              refine rs_iload ri_266_96 rfl rfl ?_
              obtain ⟨q15, hp⟩ := hp
              refine rs_iald (v := (M.2.1 164 (v5.toNatClampNeg))) ri_266_98 rfl (by decide) (kd_164 hL) q15 rfl ?_
              refine rs_iload_n ri_266_99 rfl rfl ?_
              refine rs_icmp_ge (t := 113) ri_266_100 rfl rfl (fun h17 => ?_) (fun h17 => ?_)
              · have hp := hp.1 h17
                refine rs_iload_n ri_266_113 rfl rfl ?_
                refine rs_isub (r := (v3 - v3)) ri_266_114 rfl rfl ?_
                refine rs_istore_n (lv2 := [(3, .int (v3 - v3)), (4, .int (v4 ||| ((1 : Int32) <<< (v5 &&& 31)))), (5, .int v5), (0, .ref 163), (1, .int v1), (2, .int v2)]) ri_266_115 rfl rm_266.1 (by decide) rfl ?_
                refine rs_iinc (v := (v5 + (1 : Int32))) (lv2 := [(5, .int (v5 + (1 : Int32))), (3, .int (v3 - v3)), (4, .int (v4 ||| ((1 : Int32) <<< (v5 &&& 31)))), (0, .ref 163), (1, .int v1), (2, .int v2)]) ri_266_116 rfl rfl rfl rm_266.1 (by decide) rfl ?_
                refine rs_goto (t := 36) ri_266_119 rfl ?_
                have e : xg_266_36 (n + 1) M v5 v4 v3 v1 v2 = xg_266_36 n M (v5 + (1 : Int32)) (v4 ||| ((1 : Int32) <<< (v5 &&& 31))) (v3 - v3) v1 v2 := by rw [xg_266_36]; first | (simp only [if_neg h3, if_neg h4, if_neg h5, if_neg h7, if_neg h12, if_pos h17]; done) | rfl
                rw [e] at hk
                exact ro_w_lv (ro_sub_c rfl (ro_sub_c rfl (ro_sub_c rfl (ro_sub_c rfl (ro_sub_c rfl (ro_sub_c rfl (ro_sub_n rfl))))))) (ih hL  hp hk)
              · have hp := hp.2 h17
                refine rs_aload_n ri_266_103 rfl rfl ?_
                refine rs_gf (v := .ref 164) ri_266_104 rfl (by decide) (ro_kf (kd_163 hL)) rfl (rf_163_2 hL) ?_
                refine rs_iload ri_266_107 rfl rfl ?_
                obtain ⟨q17, hp⟩ := hp
                refine rs_iald (v := (M.2.1 164 (v5.toNatClampNeg))) ri_266_109 rfl (by decide) (kd_164 hL) q17 rfl ?_
                refine rs_goto (t := 114) ri_266_110 rfl ?_
                refine rs_isub (r := (v3 - (M.2.1 164 (v5.toNatClampNeg)))) ri_266_114 rfl rfl ?_
                refine rs_istore_n (lv2 := [(3, .int (v3 - (M.2.1 164 (v5.toNatClampNeg)))), (4, .int (v4 ||| ((1 : Int32) <<< (v5 &&& 31)))), (5, .int v5), (0, .ref 163), (1, .int v1), (2, .int v2)]) ri_266_115 rfl rm_266.1 (by decide) rfl ?_
                refine rs_iinc (v := (v5 + (1 : Int32))) (lv2 := [(5, .int (v5 + (1 : Int32))), (3, .int (v3 - (M.2.1 164 (v5.toNatClampNeg)))), (4, .int (v4 ||| ((1 : Int32) <<< (v5 &&& 31)))), (0, .ref 163), (1, .int v1), (2, .int v2)]) ri_266_116 rfl rfl rfl rm_266.1 (by decide) rfl ?_
                refine rs_goto (t := 36) ri_266_119 rfl ?_
                have e : xg_266_36 (n + 1) M v5 v4 v3 v1 v2 = xg_266_36 n M (v5 + (1 : Int32)) (v4 ||| ((1 : Int32) <<< (v5 &&& 31))) (v3 - (M.2.1 164 (v5.toNatClampNeg))) v1 v2 := by rw [xg_266_36]; first | (simp only [if_neg h3, if_neg h4, if_neg h5, if_neg h7, if_neg h12, if_neg h17]; done) | rfl
                rw [e] at hk
                exact ro_w_lv (ro_sub_c rfl (ro_sub_c rfl (ro_sub_c rfl (ro_sub_c rfl (ro_sub_c rfl (ro_sub_c rfl (ro_sub_n rfl))))))) (ih hL  hp hk)
        · have hp := hp.1 h5
          refine rs_goto (t := 116) ri_266_58 rfl ?_
          refine rs_iinc (v := (v5 + (1 : Int32))) (lv2 := [(5, .int (v5 + (1 : Int32))), (4, .int v4), (3, .int v3), (0, .ref 163), (1, .int v1), (2, .int v2)]) ri_266_116 rfl rfl rfl rm_266.1 (by decide) rfl ?_
          refine rs_goto (t := 36) ri_266_119 rfl ?_
          have e : xg_266_36 (n + 1) M v5 v4 v3 v1 v2 = xg_266_36 n M (v5 + (1 : Int32)) v4 v3 v1 v2 := by rw [xg_266_36]; first | (simp only [if_neg h3, if_neg h4, if_pos h5]; done) | rfl
          rw [e] at hk
          exact ro_w_lv (ro_sub_c rfl (ro_sub_c rfl (ro_sub_c rfl (ro_sub_c rfl (ro_sub_c rfl (ro_sub_c rfl (ro_sub_n rfl))))))) (ih hL  hp hk)
/-- RefusedOnceModel.dowry(II)I -/
noncomputable def xf_266 (M : ro_Mm) (v1 : Int32) (v2 : Int32) : Int32 := (if (xf_195 M v1 (0 : Int32) (((1 : Int32) <<< ((M.2.1 163 1) &&& 31)) - (1 : Int32))) then (if (xf_195 M v2 (0 : Int32) (99 : Int32)) then (if (xg_266_36 lp_N M (0 : Int32) (0 : Int32) v2 v1 v2).2.2 ≤ (0 : Int32) then (xg_266_36 lp_N M (0 : Int32) (0 : Int32) v2 v1 v2).2.1 else (-2 : Int32)) else (-1 : Int32)) else (-1 : Int32))
def xp_266 (M : ro_Mm) (v1 : Int32) (v2 : Int32) : Prop := (((xf_195 M v1 (0 : Int32) (((1 : Int32) <<< ((M.2.1 163 1) &&& 31)) - (1 : Int32))) → (((xf_195 M v2 (0 : Int32) (99 : Int32)) → (xq_266_36 lp_N M (0 : Int32) (0 : Int32) v2 v1 v2 ∧ True)) ∧ (¬ ((xf_195 M v2 (0 : Int32) (99 : Int32))) → True))) ∧ (¬ ((xf_195 M v1 (0 : Int32) (((1 : Int32) <<< ((M.2.1 163 1) &&& 31)) - (1 : Int32)))) → True))
theorem xs_266 {X : ro_Sx} {M : ro_Mm} {v1 : Int32} {v2 : Int32} (hL : ro_lay M) (hp : xp_266 M v1 v2) : ro_cwp X 2 266 [.ref 163, .int v1, .int v2] M (fun v M2 => v = some (.int (xf_266 M v1 v2)) ∧ M2 = M) := by
  refine rs_begin (lv0 := [(0, .ref 163), (1, .int v1), (2, .int v2)]) (by decide) rfl (by rw [rm_266.1]; exact Nat.le_of_ble_eq_true rfl) rfl ?_
  unfold xp_266 at hp
  refine rs_iload_n ri_266_0 rfl rfl ?_
  refine rs_iconst (v := (0 : Int32)) ri_266_1 rfl (by decide) ?_
  refine rs_iconst (v := (1 : Int32)) ri_266_2 rfl (by decide) ?_
  refine rs_aload_n ri_266_3 rfl rfl ?_
  refine rs_gf (v := .int (M.2.1 163 1)) ri_266_4 rfl (by decide) (ro_kf (kd_163 hL)) rfl rfl ?_
  refine rs_ishl (r := ((1 : Int32) <<< ((M.2.1 163 1) &&& 31))) ri_266_7 rfl rfl ?_
  refine rs_iconst (v := (1 : Int32)) ri_266_8 rfl (by decide) ?_
  refine rs_isub (r := (((1 : Int32) <<< ((M.2.1 163 1) &&& 31)) - (1 : Int32))) ri_266_9 rfl rfl ?_
  refine rs_stat (As := [.int v1, .int (0 : Int32), .int (((1 : Int32) <<< ((M.2.1 163 1) &&& 31)) - (1 : Int32))]) (r := []) ri_266_10 rfl rm_195.2.2.2 rfl rfl rfl (Nat.le_of_ble_eq_true rfl) (by decide) (by decide) (xs_195 (X := X) hL) ?_
  rintro _ _ ⟨e1, e2⟩
  rw [e1, e2]
  show ro_w X _ 266 _ 13 [(0, .ref 163), (1, .int v1), (2, .int v2)] [.int (ro_b (xf_195 M v1 (0 : Int32) (((1 : Int32) <<< ((M.2.1 163 1) &&& 31)) - (1 : Int32))))] M (0, 0)
  refine rs_ifeq_c (t := 26) ri_266_13 rfl rfl (fun h1 => ?_) (fun h1 => ?_)
  · have hp := hp.2 h1
    refine rs_iconst (v := (-1 : Int32)) ri_266_26 rfl (by decide) ?_
    refine rs_iret ri_266_27 rm_266.2.1 (by decide) ?_
    exact ⟨by unfold xf_266; first | (simp only [if_neg h1]; done) | rfl, by rfl⟩
  · have hp := hp.1 h1
    refine rs_iload_n ri_266_16 rfl rfl ?_
    refine rs_iconst (v := (0 : Int32)) ri_266_17 rfl (by decide) ?_
    refine rs_bipush (v := (99 : Int32)) ri_266_18 rfl (by decide) ?_
    refine rs_stat (As := [.int v2, .int (0 : Int32), .int (99 : Int32)]) (r := []) ri_266_20 rfl rm_195.2.2.2 rfl rfl rfl (Nat.le_of_ble_eq_true rfl) (by decide) (by decide) (xs_195 (X := X) hL) ?_
    rintro _ _ ⟨e1, e2⟩
    rw [e1, e2]
    show ro_w X _ 266 _ 23 [(0, .ref 163), (1, .int v1), (2, .int v2)] [.int (ro_b (xf_195 M v2 (0 : Int32) (99 : Int32)))] M (0, 0)
    refine rs_ifne_c (t := 28) ri_266_23 rfl rfl (fun h2 => ?_) (fun h2 => ?_)
    · have hp := hp.1 h2
      refine rs_iload_n ri_266_28 rfl rfl ?_
      refine rs_istore_n (lv2 := [(3, .int v2), (0, .ref 163), (1, .int v1), (2, .int v2)]) ri_266_29 rfl rm_266.1 (by decide) rfl ?_
      refine rs_iconst (v := (0 : Int32)) ri_266_30 rfl (by decide) ?_
      refine rs_istore (lv2 := [(4, .int (0 : Int32)), (3, .int v2), (0, .ref 163), (1, .int v1), (2, .int v2)]) ri_266_31 rfl rm_266.1 (by decide) rfl ?_
      refine rs_iconst (v := (0 : Int32)) ri_266_33 rfl (by decide) ?_
      refine rs_istore (lv2 := [(5, .int (0 : Int32)), (4, .int (0 : Int32)), (3, .int v2), (0, .ref 163), (1, .int v1), (2, .int v2)]) ri_266_34 rfl rm_266.1 (by decide) rfl ?_
      obtain ⟨q18, hp⟩ := hp
      refine xt_266_36 lp_N hL q18 ?_
      refine rs_iload_n ri_266_122 rfl rfl ?_
      refine rs_if_le (t := 131) ri_266_123 rfl rfl (fun h20 => ?_) (fun h20 => ?_)
      · skip
        refine rs_iload ri_266_131 rfl rfl ?_
        refine rs_iret ri_266_133 rm_266.2.1 (by decide) ?_
        exact ⟨by unfold xf_266; first | (simp only [if_pos h1, if_pos h2, if_pos h20]; done) | rfl, by rfl⟩
      · skip
        refine rs_bipush (v := (-2 : Int32)) ri_266_126 rfl (by decide) ?_
        refine rs_goto (t := 133) ri_266_128 rfl ?_
        refine rs_iret ri_266_133 rm_266.2.1 (by decide) ?_
        exact ⟨by unfold xf_266; first | (simp only [if_pos h1, if_pos h2, if_neg h20]; done) | rfl, by rfl⟩
    · have hp := hp.2 h2
      refine rs_iconst (v := (-1 : Int32)) ri_266_26 rfl (by decide) ?_
      refine rs_iret ri_266_27 rm_266.2.1 (by decide) ?_
      exact ⟨by unfold xf_266; first | (simp only [if_pos h1, if_neg h2]; done) | rfl, by rfl⟩
/-- a loop of RefusedOnceModel.richest(I)I -/
noncomputable def xg_267_25 : Nat → ro_Mm → Int32 → Int32 → Int32 → Int32 → Int32 → Int32 × Int32
  | 0, M, v5, v4, v3, v2, v1 => (v5, v4)
  | n + 1, M, v5, v4, v3, v2, v1 => (if (M.2.1 163 1) ≤ v5 then (v5, v4) else (if (((4 : Int32) * (M.2.1 164 (v5.toNatClampNeg))) + (v3 * (M.2.1 165 (v5.toNatClampNeg)))) ≤ (((4 : Int32) * (M.2.1 164 (v4.toNatClampNeg))) + (v3 * (M.2.1 165 (v4.toNatClampNeg)))) then (xg_267_25 n M (v5 + (1 : Int32)) v4 v3 v2 v1) else (xg_267_25 n M (v5 + (1 : Int32)) v5 v3 v2 v1)))
def xq_267_25 : Nat → ro_Mm → Int32 → Int32 → Int32 → Int32 → Int32 → Prop
  | 0, _, _, _, _, _, _ => False
  | n + 1, M, v5, v4, v3, v2, v1 => (((M.2.1 163 1) ≤ v5 → True) ∧ (¬ ((M.2.1 163 1) ≤ v5) → (vp_in v5 6 ∧ (vp_in v5 6 ∧ (vp_in v4 6 ∧ (vp_in v4 6 ∧ (((((4 : Int32) * (M.2.1 164 (v5.toNatClampNeg))) + (v3 * (M.2.1 165 (v5.toNatClampNeg)))) ≤ (((4 : Int32) * (M.2.1 164 (v4.toNatClampNeg))) + (v3 * (M.2.1 165 (v4.toNatClampNeg)))) → (xq_267_25 n M (v5 + (1 : Int32)) v4 v3 v2 v1)) ∧ (¬ ((((4 : Int32) * (M.2.1 164 (v5.toNatClampNeg))) + (v3 * (M.2.1 165 (v5.toNatClampNeg)))) ≤ (((4 : Int32) * (M.2.1 164 (v4.toNatClampNeg))) + (v3 * (M.2.1 165 (v4.toNatClampNeg))))) → (xq_267_25 n M (v5 + (1 : Int32)) v5 v3 v2 v1)))))))))
theorem xt_267_25 {X : ro_Sx} {post : ro_Po} : ∀ (n : Nat) {M : ro_Mm} {v5 : Int32} {v4 : Int32} {v3 : Int32} {v2 : Int32} {v1 : Int32} (hL : ro_lay M) (hp : xq_267_25 n M v5 v4 v3 v2 v1) (hk : ro_w X 2 267 post 85 [(5, .int (xg_267_25 n M v5 v4 v3 v2 v1).1), (4, .int (xg_267_25 n M v5 v4 v3 v2 v1).2), (3, .int v3), (2, .int v2), (0, .ref 163), (1, .int v1)] [] M (0, 0)), ro_w X 2 267 post 25 [(5, .int v5), (4, .int v4), (3, .int v3), (2, .int v2), (0, .ref 163), (1, .int v1)] [] M (0, 0) := by
  intro n
  induction n with
  | zero => intro M v5 v4 v3 v2 v1 hL hp hk; exact False.elim hp
  | succ n ih =>
    intro M v5 v4 v3 v2 v1 hL hp hk
    rw [xq_267_25] at hp
    refine rs_iload ri_267_25 rfl rfl ?_
    refine rs_aload_n ri_267_27 rfl rfl ?_
    refine rs_gf (v := .int (M.2.1 163 1)) ri_267_28 rfl (by decide) (ro_kf (kd_163 hL)) rfl rfl ?_
    refine rs_icmp_ge (t := 85) ri_267_31 rfl rfl (fun h3 => ?_) (fun h3 => ?_)
    · skip
      have e : xg_267_25 (n + 1) M v5 v4 v3 v2 v1 = (v5, v4) := by rw [xg_267_25]; first | (simp only [if_pos h3]; done) | rfl
      rw [e] at hk
      exact ro_w_lv (ro_sub_c rfl (ro_sub_c rfl (ro_sub_c rfl (ro_sub_c rfl (ro_sub_c rfl (ro_sub_c rfl (ro_sub_n rfl))))))) hk
    · have hp := hp.2 h3
      refine rs_iconst (v := (4 : Int32)) ri_267_34 rfl (by decide) ?_
      refine rs_aload_n ri_267_35 rfl rfl ?_
      refine rs_gf (v := .ref 164) ri_267_36 rfl (by decide) (ro_kf (kd_163 hL)) rfl (rf_163_2 hL) ?_
      refine rs_iload ri_267_39 rfl rfl ?_
      obtain ⟨q3, hp⟩ := hp
      refine rs_iald (v := (M.2.1 164 (v5.toNatClampNeg))) ri_267_41 rfl (by decide) (kd_164 hL) q3 rfl ?_
      refine rs_imul (r := ((4 : Int32) * (M.2.1 164 (v5.toNatClampNeg)))) ri_267_42 rfl rfl ?_
      refine rs_iload_n ri_267_43 rfl rfl ?_
      refine rs_aload_n ri_267_44 rfl rfl ?_
      refine rs_gf (v := .ref 165) ri_267_45 rfl (by decide) (ro_kf (kd_163 hL)) rfl (rf_163_3 hL) ?_
      refine rs_iload ri_267_48 rfl rfl ?_
      obtain ⟨q4, hp⟩ := hp
      refine rs_iald (v := (M.2.1 165 (v5.toNatClampNeg))) ri_267_50 rfl (by decide) (kd_165 hL) q4 rfl ?_
      refine rs_imul (r := (v3 * (M.2.1 165 (v5.toNatClampNeg)))) ri_267_51 rfl rfl ?_
      refine rs_iadd (r := (((4 : Int32) * (M.2.1 164 (v5.toNatClampNeg))) + (v3 * (M.2.1 165 (v5.toNatClampNeg))))) ri_267_52 rfl rfl ?_
      refine rs_iconst (v := (4 : Int32)) ri_267_53 rfl (by decide) ?_
      refine rs_aload_n ri_267_54 rfl rfl ?_
      refine rs_gf (v := .ref 164) ri_267_55 rfl (by decide) (ro_kf (kd_163 hL)) rfl (rf_163_2 hL) ?_
      refine rs_iload ri_267_58 rfl rfl ?_
      obtain ⟨q5, hp⟩ := hp
      refine rs_iald (v := (M.2.1 164 (v4.toNatClampNeg))) ri_267_60 rfl (by decide) (kd_164 hL) q5 rfl ?_
      refine rs_imul (r := ((4 : Int32) * (M.2.1 164 (v4.toNatClampNeg)))) ri_267_61 rfl rfl ?_
      refine rs_iload_n ri_267_62 rfl rfl ?_
      refine rs_aload_n ri_267_63 rfl rfl ?_
      refine rs_gf (v := .ref 165) ri_267_64 rfl (by decide) (ro_kf (kd_163 hL)) rfl (rf_163_3 hL) ?_
      refine rs_iload ri_267_67 rfl rfl ?_
      obtain ⟨q6, hp⟩ := hp
      refine rs_iald (v := (M.2.1 165 (v4.toNatClampNeg))) ri_267_69 rfl (by decide) (kd_165 hL) q6 rfl ?_
      refine rs_imul (r := (v3 * (M.2.1 165 (v4.toNatClampNeg)))) ri_267_70 rfl rfl ?_
      refine rs_iadd (r := (((4 : Int32) * (M.2.1 164 (v4.toNatClampNeg))) + (v3 * (M.2.1 165 (v4.toNatClampNeg))))) ri_267_71 rfl rfl ?_
      refine rs_icmp_le (t := 79) ri_267_72 rfl rfl (fun h8 => ?_) (fun h8 => ?_)
      · have hp := hp.1 h8
        refine rs_iinc (v := (v5 + (1 : Int32))) (lv2 := [(5, .int (v5 + (1 : Int32))), (4, .int v4), (3, .int v3), (2, .int v2), (0, .ref 163), (1, .int v1)]) ri_267_79 rfl rfl rfl rm_267.1 (by decide) rfl ?_
        refine rs_goto (t := 25) ri_267_82 rfl ?_
        have e : xg_267_25 (n + 1) M v5 v4 v3 v2 v1 = xg_267_25 n M (v5 + (1 : Int32)) v4 v3 v2 v1 := by rw [xg_267_25]; first | (simp only [if_neg h3, if_pos h8]; done) | rfl
        rw [e] at hk
        exact ro_w_lv (ro_sub_c rfl (ro_sub_c rfl (ro_sub_c rfl (ro_sub_c rfl (ro_sub_c rfl (ro_sub_c rfl (ro_sub_n rfl))))))) (ih hL  hp hk)
      · have hp := hp.2 h8
        refine rs_iload ri_267_75 rfl rfl ?_
        refine rs_istore (lv2 := [(4, .int v5), (5, .int v5), (3, .int v3), (2, .int v2), (0, .ref 163), (1, .int v1)]) ri_267_77 rfl rm_267.1 (by decide) rfl ?_
        refine rs_iinc (v := (v5 + (1 : Int32))) (lv2 := [(5, .int (v5 + (1 : Int32))), (4, .int v5), (3, .int v3), (2, .int v2), (0, .ref 163), (1, .int v1)]) ri_267_79 rfl rfl rfl rm_267.1 (by decide) rfl ?_
        refine rs_goto (t := 25) ri_267_82 rfl ?_
        have e : xg_267_25 (n + 1) M v5 v4 v3 v2 v1 = xg_267_25 n M (v5 + (1 : Int32)) v5 v3 v2 v1 := by rw [xg_267_25]; first | (simp only [if_neg h3, if_neg h8]; done) | rfl
        rw [e] at hk
        exact ro_w_lv (ro_sub_c rfl (ro_sub_c rfl (ro_sub_c rfl (ro_sub_c rfl (ro_sub_c rfl (ro_sub_c rfl (ro_sub_n rfl))))))) (ih hL  hp hk)
/-- a loop of RefusedOnceModel.richest(I)I -/
noncomputable def xg_267_14 : Nat → ro_Mm → Int32 → Int32 → Int32 → Int32 × Int32
  | 0, M, v3, v2, v1 => (v3, v2)
  | n + 1, M, v3, v2, v1 => (if (4 : Int32) < v3 then (v3, v2) else (if (xg_267_25 lp_N M (1 : Int32) (0 : Int32) v3 v2 v1).2 = v1 then (xg_267_14 n M (v3 + (1 : Int32)) (v2 ||| ((1 : Int32) <<< (v3 &&& 31))) v1) else (xg_267_14 n M (v3 + (1 : Int32)) v2 v1)))
def xq_267_14 : Nat → ro_Mm → Int32 → Int32 → Int32 → Prop
  | 0, _, _, _, _ => False
  | n + 1, M, v3, v2, v1 => (((4 : Int32) < v3 → True) ∧ (¬ ((4 : Int32) < v3) → (xq_267_25 lp_N M (1 : Int32) (0 : Int32) v3 v2 v1 ∧ (((xg_267_25 lp_N M (1 : Int32) (0 : Int32) v3 v2 v1).2 = v1 → (xq_267_14 n M (v3 + (1 : Int32)) (v2 ||| ((1 : Int32) <<< (v3 &&& 31))) v1)) ∧ (¬ ((xg_267_25 lp_N M (1 : Int32) (0 : Int32) v3 v2 v1).2 = v1) → (xq_267_14 n M (v3 + (1 : Int32)) v2 v1))))))
theorem xt_267_14 {X : ro_Sx} {post : ro_Po} : ∀ (n : Nat) {M : ro_Mm} {v3 : Int32} {v2 : Int32} {v1 : Int32} (hL : ro_lay M) (hp : xq_267_14 n M v3 v2 v1) (hk : ro_w X 2 267 post 103 [(3, .int (xg_267_14 n M v3 v2 v1).1), (2, .int (xg_267_14 n M v3 v2 v1).2), (0, .ref 163), (1, .int v1)] [] M (0, 0)), ro_w X 2 267 post 14 [(3, .int v3), (2, .int v2), (0, .ref 163), (1, .int v1)] [] M (0, 0) := by
  intro n
  induction n with
  | zero => intro M v3 v2 v1 hL hp hk; exact False.elim hp
  | succ n ih =>
    intro M v3 v2 v1 hL hp hk
    rw [xq_267_14] at hp
    refine rs_iload_n ri_267_14 rfl rfl ?_
    refine rs_iconst (v := (4 : Int32)) ri_267_15 rfl (by decide) ?_
    refine rs_icmp_gt (t := 103) ri_267_16 rfl rfl (fun h2 => ?_) (fun h2 => ?_)
    · skip
      have e : xg_267_14 (n + 1) M v3 v2 v1 = (v3, v2) := by rw [xg_267_14]; first | (simp only [if_pos h2]; done) | rfl
      rw [e] at hk
      exact ro_w_lv (ro_sub_c rfl (ro_sub_c rfl (ro_sub_c rfl (ro_sub_c rfl (ro_sub_n rfl))))) hk
    · have hp := hp.2 h2
      refine rs_iconst (v := (0 : Int32)) ri_267_19 rfl (by decide) ?_
      refine rs_istore (lv2 := [(4, .int (0 : Int32)), (3, .int v3), (2, .int v2), (0, .ref 163), (1, .int v1)]) ri_267_20 rfl rm_267.1 (by decide) rfl ?_
      refine rs_iconst (v := (1 : Int32)) ri_267_22 rfl (by decide) ?_
      refine rs_istore (lv2 := [(5, .int (1 : Int32)), (4, .int (0 : Int32)), (3, .int v3), (2, .int v2), (0, .ref 163), (1, .int v1)]) ri_267_23 rfl rm_267.1 (by decide) rfl ?_
      obtain ⟨q8, hp⟩ := hp
      refine xt_267_25 lp_N hL q8 ?_
      refine rs_iload ri_267_85 rfl rfl ?_
      refine rs_iload_n ri_267_87 rfl rfl ?_
      refine rs_icmp_ne (t := 97) ri_267_88 rfl rfl (fun h10 => ?_) (fun h10 => ?_)
      · have hp := hp.2 h10
        refine rs_iinc (v := (v3 + (1 : Int32))) (lv2 := [(3, .int (v3 + (1 : Int32))), (5, .int (xg_267_25 lp_N M (1 : Int32) (0 : Int32) v3 v2 v1).1), (4, .int (xg_267_25 lp_N M (1 : Int32) (0 : Int32) v3 v2 v1).2), (2, .int v2), (0, .ref 163), (1, .int v1)]) ri_267_97 rfl rfl rfl rm_267.1 (by decide) rfl ?_
        refine rs_goto (t := 14) ri_267_100 rfl ?_
        have e : xg_267_14 (n + 1) M v3 v2 v1 = xg_267_14 n M (v3 + (1 : Int32)) v2 v1 := by rw [xg_267_14]; first | (simp only [if_neg h2, if_neg h10]; done) | rfl
        rw [e] at hk
        exact ro_w_lv (ro_sub_c rfl (ro_sub_c rfl (ro_sub_c rfl (ro_sub_c rfl (ro_sub_n rfl))))) (ih hL  hp hk)
      · have hp := hp.1 h10
        refine rs_iload_n ri_267_91 rfl rfl ?_
        refine rs_iconst (v := (1 : Int32)) ri_267_92 rfl (by decide) ?_
        refine rs_iload_n ri_267_93 rfl rfl ?_
        refine rs_ishl (r := ((1 : Int32) <<< (v3 &&& 31))) ri_267_94 rfl rfl ?_
        refine rs_ior (r := (v2 ||| ((1 : Int32) <<< (v3 &&& 31)))) ri_267_95 rfl rfl ?_
        refine rs_istore_n (lv2 := [(2, .int (v2 ||| ((1 : Int32) <<< (v3 &&& 31)))), (5, .int (xg_267_25 lp_N M (1 : Int32) (0 : Int32) v3 v2 v1).1), (4, .int (xg_267_25 lp_N M (1 : Int32) (0 : Int32) v3 v2 v1).2), (3, .int v3), (0, .ref 163), (1, .int v1)]) ri_267_96 rfl rm_267.1 (by decide) rfl ?_
        refine rs_iinc (v := (v3 + (1 : Int32))) (lv2 := [(3, .int (v3 + (1 : Int32))), (2, .int (v2 ||| ((1 : Int32) <<< (v3 &&& 31)))), (5, .int (xg_267_25 lp_N M (1 : Int32) (0 : Int32) v3 v2 v1).1), (4, .int (xg_267_25 lp_N M (1 : Int32) (0 : Int32) v3 v2 v1).2), (0, .ref 163), (1, .int v1)]) ri_267_97 rfl rfl rfl rm_267.1 (by decide) rfl ?_
        refine rs_goto (t := 14) ri_267_100 rfl ?_
        have e : xg_267_14 (n + 1) M v3 v2 v1 = xg_267_14 n M (v3 + (1 : Int32)) (v2 ||| ((1 : Int32) <<< (v3 &&& 31))) v1 := by rw [xg_267_14]; first | (simp only [if_neg h2, if_pos h10]; done) | rfl
        rw [e] at hk
        exact ro_w_lv (ro_sub_c rfl (ro_sub_c rfl (ro_sub_c rfl (ro_sub_c rfl (ro_sub_n rfl))))) (ih hL  hp hk)
/-- RefusedOnceModel.richest(I)I -/
noncomputable def xf_267 (M : ro_Mm) (v1 : Int32) : Int32 := (if (xf_204 M v1) then (xg_267_14 lp_N M (0 : Int32) (0 : Int32) v1).2 else (-1 : Int32))
def xp_267 (M : ro_Mm) (v1 : Int32) : Prop := (((xf_204 M v1) → (xq_267_14 lp_N M (0 : Int32) (0 : Int32) v1 ∧ True)) ∧ (¬ ((xf_204 M v1)) → True))
theorem xs_267 {X : ro_Sx} {M : ro_Mm} {v1 : Int32} (hL : ro_lay M) (hp : xp_267 M v1) : ro_cwp X 3 267 [.ref 163, .int v1] M (fun v M2 => v = some (.int (xf_267 M v1)) ∧ M2 = M) := by
  refine rs_begin (lv0 := [(0, .ref 163), (1, .int v1)]) (by decide) rfl (by rw [rm_267.1]; exact Nat.le_of_ble_eq_true rfl) rfl ?_
  unfold xp_267 at hp
  refine rs_aload_n ri_267_0 rfl rfl ?_
  refine rs_iload_n ri_267_1 rfl rfl ?_
  refine rs_virt (As := [.int v1]) (r := []) ri_267_2 rfl (by decide) rm_204.2.2.2 rm_204.2.2.1 rfl rfl rfl (by decide) (ro_kf (kd_163 hL)) (Nat.le_of_ble_eq_true rfl) (by decide) (by decide) (xs_204 (X := X) hL) ?_
  rintro _ _ ⟨e1, e2⟩
  rw [e1, e2]
  show ro_w X _ 267 _ 5 [(0, .ref 163), (1, .int v1)] [.int (ro_b (xf_204 M v1))] M (0, 0)
  refine rs_ifne_c (t := 10) ri_267_5 rfl rfl (fun h1 => ?_) (fun h1 => ?_)
  · have hp := hp.1 h1
    refine rs_iconst (v := (0 : Int32)) ri_267_10 rfl (by decide) ?_
    refine rs_istore_n (lv2 := [(2, .int (0 : Int32)), (0, .ref 163), (1, .int v1)]) ri_267_11 rfl rm_267.1 (by decide) rfl ?_
    refine rs_iconst (v := (0 : Int32)) ri_267_12 rfl (by decide) ?_
    refine rs_istore_n (lv2 := [(3, .int (0 : Int32)), (2, .int (0 : Int32)), (0, .ref 163), (1, .int v1)]) ri_267_13 rfl rm_267.1 (by decide) rfl ?_
    obtain ⟨q10, hp⟩ := hp
    refine xt_267_14 lp_N hL q10 ?_
    refine rs_iload_n ri_267_103 rfl rfl ?_
    refine rs_iret ri_267_104 rm_267.2.1 (by decide) ?_
    exact ⟨by unfold xf_267; first | (simp only [if_pos h1]; done) | rfl, by rfl⟩
  · have hp := hp.2 h1
    refine rs_iconst (v := (-1 : Int32)) ri_267_8 rfl (by decide) ?_
    refine rs_iret ri_267_9 rm_267.2.1 (by decide) ?_
    exact ⟨by unfold xf_267; first | (simp only [if_neg h1]; done) | rfl, by rfl⟩
/-- a loop of RefusedOnceModel.isAsTold()Z -/
noncomputable def xg_270_2 : Nat → ro_Mm → Int32 → Bool × Bool × Int32
  | 0, M, v1 => (false, false, v1)
  | n + 1, M, v1 => (if (M.2.1 191 ((M.2.1 163 36).toNatClampNeg)) ≤ v1 then (false, false, v1) else (if (M.2.1 163 1) ≤ (v1 / (2 : Int32)) then (false, false, v1) else (if (ro_irem v1 (2 : Int32)) = (0 : Int32) then (if (M.2.1 181 ((v1 / (2 : Int32)).toNatClampNeg)) = (xf_238 M (M.2.1 163 36) v1) then (xg_270_2 n M (v1 + (1 : Int32))) else (true, false, v1)) else (if (M.2.1 182 ((v1 / (2 : Int32)).toNatClampNeg)) = (xf_238 M (M.2.1 163 36) v1) then (xg_270_2 n M (v1 + (1 : Int32))) else (true, false, v1)))))
def xq_270_2 : Nat → ro_Mm → Int32 → Prop
  | 0, _, _ => False
  | n + 1, M, v1 => (vp_in (M.2.1 163 36) 6 ∧ (((M.2.1 191 ((M.2.1 163 36).toNatClampNeg)) ≤ v1 → True) ∧ (¬ ((M.2.1 191 ((M.2.1 163 36).toNatClampNeg)) ≤ v1) → (((M.2.1 163 1) ≤ (v1 / (2 : Int32)) → True) ∧ (¬ ((M.2.1 163 1) ≤ (v1 / (2 : Int32))) → (((ro_irem v1 (2 : Int32)) = (0 : Int32) → (vp_in (v1 / (2 : Int32)) 6 ∧ (xp_238 M (M.2.1 163 36) v1 ∧ (((M.2.1 181 ((v1 / (2 : Int32)).toNatClampNeg)) = (xf_238 M (M.2.1 163 36) v1) → (xq_270_2 n M (v1 + (1 : Int32)))) ∧ (¬ ((M.2.1 181 ((v1 / (2 : Int32)).toNatClampNeg)) = (xf_238 M (M.2.1 163 36) v1)) → True))))) ∧ (¬ ((ro_irem v1 (2 : Int32)) = (0 : Int32)) → (vp_in (v1 / (2 : Int32)) 6 ∧ (xp_238 M (M.2.1 163 36) v1 ∧ (((M.2.1 182 ((v1 / (2 : Int32)).toNatClampNeg)) = (xf_238 M (M.2.1 163 36) v1) → (xq_270_2 n M (v1 + (1 : Int32)))) ∧ (¬ ((M.2.1 182 ((v1 / (2 : Int32)).toNatClampNeg)) = (xf_238 M (M.2.1 163 36) v1)) → True)))))))))))
theorem xt_270_2 {X : ro_Sx} {post : ro_Po} : ∀ (n : Nat) {M : ro_Mm} {v1 : Int32} (hL : ro_lay M) (hp : xq_270_2 n M v1) (hk : ¬ (xg_270_2 n M v1).1 = true → ro_w X 1 270 post 70 [(1, .int (xg_270_2 n M v1).2.2), (0, .ref 163)] [] M (0, 0)) (hr : (xg_270_2 n M v1).1 = true → post (some (.int (ro_b (xg_270_2 n M v1).2.1))) M), ro_w X 1 270 post 2 [(1, .int v1), (0, .ref 163)] [] M (0, 0) := by
  intro n
  induction n with
  | zero => intro M v1 hL hp hk hr; exact False.elim hp
  | succ n ih =>
    intro M v1 hL hp hk hr
    rw [xq_270_2] at hp
    refine rs_iload_n ri_270_2 rfl rfl ?_
    refine rs_aload_n ri_270_3 rfl rfl ?_
    refine rs_gf (v := .ref 191) ri_270_4 rfl (by decide) (ro_kf (kd_163 hL)) rfl (rf_163_54 hL) ?_
    refine rs_aload_n ri_270_7 rfl rfl ?_
    refine rs_gf (v := .int (M.2.1 163 36)) ri_270_8 rfl (by decide) (ro_kf (kd_163 hL)) rfl rfl ?_
    obtain ⟨q0, hp⟩ := hp
    refine rs_iald (v := (M.2.1 191 ((M.2.1 163 36).toNatClampNeg))) ri_270_11 rfl (by decide) (kd_191 hL) q0 rfl ?_
    refine rs_icmp_ge (t := 70) ri_270_12 rfl rfl (fun h2 => ?_) (fun h2 => ?_)
    · skip
      have e : xg_270_2 (n + 1) M v1 = (false, false, v1) := by rw [xg_270_2]; first | (simp only [if_pos h2]; done) | rfl
      rw [e] at hk hr
      exact ro_w_lv (ro_sub_c rfl (ro_sub_c rfl (ro_sub_n rfl))) (hk (fun z => Bool.noConfusion z))
    · have hp := hp.2 h2
      refine rs_iload_n ri_270_15 rfl rfl ?_
      refine rs_iconst (v := (2 : Int32)) ri_270_16 rfl (by decide) ?_
      refine rs_idiv (r := (v1 / (2 : Int32))) ri_270_17 rfl (by decide) rfl ?_
      refine rs_aload_n ri_270_18 rfl rfl ?_
      refine rs_gf (v := .int (M.2.1 163 1)) ri_270_19 rfl (by decide) (ro_kf (kd_163 hL)) rfl rfl ?_
      refine rs_icmp_ge (t := 70) ri_270_22 rfl rfl (fun h3 => ?_) (fun h3 => ?_)
      · skip
        have e : xg_270_2 (n + 1) M v1 = (false, false, v1) := by rw [xg_270_2]; first | (simp only [if_neg h2, if_pos h3]; done) | rfl
        rw [e] at hk hr
        exact ro_w_lv (ro_sub_c rfl (ro_sub_c rfl (ro_sub_n rfl))) (hk (fun z => Bool.noConfusion z))
      · have hp := hp.2 h3
        refine rs_iload_n ri_270_25 rfl rfl ?_
        refine rs_iconst (v := (2 : Int32)) ri_270_26 rfl (by decide) ?_
        refine rs_irem (r := (ro_irem v1 (2 : Int32))) ri_270_27 rfl (by decide) rfl ?_
        refine rs_if_ne (t := 42) ri_270_28 rfl rfl (fun h4 => ?_) (fun h4 => ?_)
        · have hp := hp.2 h4
          refine rs_aload_n ri_270_42 rfl rfl ?_
          refine rs_gf (v := .ref 182) ri_270_43 rfl (by decide) (ro_kf (kd_163 hL)) rfl (rf_163_28 hL) ?_
          refine rs_iload_n ri_270_46 rfl rfl ?_
          refine rs_iconst (v := (2 : Int32)) ri_270_47 rfl (by decide) ?_
          refine rs_idiv (r := (v1 / (2 : Int32))) ri_270_48 rfl (by decide) rfl ?_
          obtain ⟨q4, hp⟩ := hp
          refine rs_iald (v := (M.2.1 182 ((v1 / (2 : Int32)).toNatClampNeg))) ri_270_49 rfl (by decide) (kd_182 hL) q4 rfl ?_
          refine rs_aload_n ri_270_50 rfl rfl ?_
          refine rs_aload_n ri_270_51 rfl rfl ?_
          refine rs_gf (v := .int (M.2.1 163 36)) ri_270_52 rfl (by decide) (ro_kf (kd_163 hL)) rfl rfl ?_
          refine rs_iload_n ri_270_55 rfl rfl ?_
          obtain ⟨q5, hp⟩ := hp
          refine rs_virt (As := [.int (M.2.1 163 36), .int v1]) (r := [.int (M.2.1 182 ((v1 / (2 : Int32)).toNatClampNeg))]) ri_270_56 rfl (by decide) rm_238.2.2.2 rm_238.2.2.1 rfl rfl rfl (by decide) (ro_kf (kd_163 hL)) (Nat.le_of_ble_eq_true rfl) (by decide) (by decide) (xs_238 (X := X) hL q5) ?_
          rintro _ _ ⟨e1, e2⟩
          rw [e1, e2]
          show ro_w X _ 270 _ 59 [(1, .int v1), (0, .ref 163)] [.int (xf_238 M (M.2.1 163 36) v1), .int (M.2.1 182 ((v1 / (2 : Int32)).toNatClampNeg))] M (0, 0)
          refine rs_icmp_eq (t := 64) ri_270_59 rfl rfl (fun h7 => ?_) (fun h7 => ?_)
          · have hp := hp.1 h7
            refine rs_iinc (v := (v1 + (1 : Int32))) (lv2 := [(1, .int (v1 + (1 : Int32))), (0, .ref 163)]) ri_270_64 rfl rfl rfl rm_270.1 (by decide) rfl ?_
            refine rs_goto (t := 2) ri_270_67 rfl ?_
            have e : xg_270_2 (n + 1) M v1 = xg_270_2 n M (v1 + (1 : Int32)) := by rw [xg_270_2]; first | (simp only [if_neg h2, if_neg h3, if_neg h4, if_pos h7]; done) | rfl
            rw [e] at hk hr
            exact ro_w_lv (ro_sub_c rfl (ro_sub_c rfl (ro_sub_n rfl))) (ih hL  hp hk hr)
          · skip
            refine rs_iconst (v := (0 : Int32)) ri_270_62 rfl (by decide) ?_
            refine rs_zret (p := false) ri_270_63 rm_270.2.1 (by decide) rfl ?_
            have e : xg_270_2 (n + 1) M v1 = (true, false, v1) := by rw [xg_270_2]; first | (simp only [if_neg h2, if_neg h3, if_neg h4, if_neg h7]; done) | rfl
            rw [e] at hk hr
            exact hr rfl
        · have hp := hp.1 h4
          refine rs_aload_n ri_270_31 rfl rfl ?_
          refine rs_gf (v := .ref 181) ri_270_32 rfl (by decide) (ro_kf (kd_163 hL)) rfl (rf_163_27 hL) ?_
          refine rs_iload_n ri_270_35 rfl rfl ?_
          refine rs_iconst (v := (2 : Int32)) ri_270_36 rfl (by decide) ?_
          refine rs_idiv (r := (v1 / (2 : Int32))) ri_270_37 rfl (by decide) rfl ?_
          obtain ⟨q7, hp⟩ := hp
          refine rs_iald (v := (M.2.1 181 ((v1 / (2 : Int32)).toNatClampNeg))) ri_270_38 rfl (by decide) (kd_181 hL) q7 rfl ?_
          refine rs_goto (t := 50) ri_270_39 rfl ?_
          refine rs_aload_n ri_270_50 rfl rfl ?_
          refine rs_aload_n ri_270_51 rfl rfl ?_
          refine rs_gf (v := .int (M.2.1 163 36)) ri_270_52 rfl (by decide) (ro_kf (kd_163 hL)) rfl rfl ?_
          refine rs_iload_n ri_270_55 rfl rfl ?_
          obtain ⟨q8, hp⟩ := hp
          refine rs_virt (As := [.int (M.2.1 163 36), .int v1]) (r := [.int (M.2.1 181 ((v1 / (2 : Int32)).toNatClampNeg))]) ri_270_56 rfl (by decide) rm_238.2.2.2 rm_238.2.2.1 rfl rfl rfl (by decide) (ro_kf (kd_163 hL)) (Nat.le_of_ble_eq_true rfl) (by decide) (by decide) (xs_238 (X := X) hL q8) ?_
          rintro _ _ ⟨e1, e2⟩
          rw [e1, e2]
          show ro_w X _ 270 _ 59 [(1, .int v1), (0, .ref 163)] [.int (xf_238 M (M.2.1 163 36) v1), .int (M.2.1 181 ((v1 / (2 : Int32)).toNatClampNeg))] M (0, 0)
          refine rs_icmp_eq (t := 64) ri_270_59 rfl rfl (fun h10 => ?_) (fun h10 => ?_)
          · have hp := hp.1 h10
            refine rs_iinc (v := (v1 + (1 : Int32))) (lv2 := [(1, .int (v1 + (1 : Int32))), (0, .ref 163)]) ri_270_64 rfl rfl rfl rm_270.1 (by decide) rfl ?_
            refine rs_goto (t := 2) ri_270_67 rfl ?_
            have e : xg_270_2 (n + 1) M v1 = xg_270_2 n M (v1 + (1 : Int32)) := by rw [xg_270_2]; first | (simp only [if_neg h2, if_neg h3, if_pos h4, if_pos h10]; done) | rfl
            rw [e] at hk hr
            exact ro_w_lv (ro_sub_c rfl (ro_sub_c rfl (ro_sub_n rfl))) (ih hL  hp hk hr)
          · skip
            refine rs_iconst (v := (0 : Int32)) ri_270_62 rfl (by decide) ?_
            refine rs_zret (p := false) ri_270_63 rm_270.2.1 (by decide) rfl ?_
            have e : xg_270_2 (n + 1) M v1 = (true, false, v1) := by rw [xg_270_2]; first | (simp only [if_neg h2, if_neg h3, if_pos h4, if_neg h10]; done) | rfl
            rw [e] at hk hr
            exact hr rfl
/-- RefusedOnceModel.isAsTold()Z -/
noncomputable def xf_270 (M : ro_Mm) : Bool := (if (xg_270_2 lp_N M (0 : Int32)).1 = true then (xg_270_2 lp_N M (0 : Int32)).2.1 else true)
def xp_270 (M : ro_Mm) : Prop := (xq_270_2 lp_N M (0 : Int32) ∧ True)
theorem xs_270 {X : ro_Sx} {M : ro_Mm} (hL : ro_lay M) (hp : xp_270 M) : ro_cwp X 2 270 [.ref 163] M (fun v M2 => v = some (.int (ro_b (xf_270 M))) ∧ M2 = M) := by
  refine rs_begin (lv0 := [(0, .ref 163)]) (by decide) rfl (by rw [rm_270.1]; exact Nat.le_of_ble_eq_true rfl) rfl ?_
  unfold xp_270 at hp
  refine rs_iconst (v := (0 : Int32)) ri_270_0 rfl (by decide) ?_
  refine rs_istore_n (lv2 := [(1, .int (0 : Int32)), (0, .ref 163)]) ri_270_1 rfl rm_270.1 (by decide) rfl ?_
  obtain ⟨q10, hp⟩ := hp
  refine xt_270_2 lp_N hL q10 (fun h12 => ?_) (fun h12 => ?_)
  · skip
    refine rs_iconst (v := (1 : Int32)) ri_270_70 rfl (by decide) ?_
    refine rs_zret (p := true) ri_270_71 rm_270.2.1 (by decide) rfl ?_
    exact ⟨by unfold xf_270; first | (simp only [if_neg h12]; done) | rfl, by rfl⟩
  · skip
    exact ⟨by unfold xf_270; first | (simp only [if_pos h12]; done) | rfl, by rfl⟩
/-- a loop of RefusedOnceModel.bitsOf(I)I -/
noncomputable def xg_272_4 : Nat → ro_Mm → Int32 → Int32 → Int32 → Int32 × Int32
  | 0, M, v2, v1, v0 => (v2, v1)
  | n + 1, M, v2, v1, v0 => (if v2 = (0 : Int32) then (v2, v1) else (xg_272_4 n M (v2 &&& (v2 - (1 : Int32))) (v1 + (1 : Int32)) v0))
def xq_272_4 : Nat → ro_Mm → Int32 → Int32 → Int32 → Prop
  | 0, _, _, _, _ => False
  | n + 1, M, v2, v1, v0 => ((v2 = (0 : Int32) → True) ∧ (¬ (v2 = (0 : Int32)) → (xq_272_4 n M (v2 &&& (v2 - (1 : Int32))) (v1 + (1 : Int32)) v0)))
theorem xt_272_4 {X : ro_Sx} {post : ro_Po} : ∀ (n : Nat) {M : ro_Mm} {v2 : Int32} {v1 : Int32} {v0 : Int32} (hL : ro_lay M) (hp : xq_272_4 n M v2 v1 v0) (hk : ro_w X 0 272 post 20 [(2, .int (xg_272_4 n M v2 v1 v0).1), (1, .int (xg_272_4 n M v2 v1 v0).2), (0, .int v0)] [] M (0, 0)), ro_w X 0 272 post 4 [(2, .int v2), (1, .int v1), (0, .int v0)] [] M (0, 0) := by
  intro n
  induction n with
  | zero => intro M v2 v1 v0 hL hp hk; exact False.elim hp
  | succ n ih =>
    intro M v2 v1 v0 hL hp hk
    rw [xq_272_4] at hp
    refine rs_iload_n ri_272_4 rfl rfl ?_
    refine rs_if_eq (t := 20) ri_272_5 rfl rfl (fun h1 => ?_) (fun h1 => ?_)
    · skip
      have e : xg_272_4 (n + 1) M v2 v1 v0 = (v2, v1) := by rw [xg_272_4]; first | (simp only [if_pos h1]; done) | rfl
      rw [e] at hk
      exact ro_w_lv (ro_sub_c rfl (ro_sub_c rfl (ro_sub_c rfl (ro_sub_n rfl)))) hk
    · have hp := hp.2 h1
      refine rs_iinc (v := (v1 + (1 : Int32))) (lv2 := [(1, .int (v1 + (1 : Int32))), (2, .int v2), (0, .int v0)]) ri_272_8 rfl rfl rfl rm_272.1 (by decide) rfl ?_
      refine rs_iload_n ri_272_11 rfl rfl ?_
      refine rs_iload_n ri_272_12 rfl rfl ?_
      refine rs_iconst (v := (1 : Int32)) ri_272_13 rfl (by decide) ?_
      refine rs_isub (r := (v2 - (1 : Int32))) ri_272_14 rfl rfl ?_
      refine rs_iand (r := (v2 &&& (v2 - (1 : Int32)))) ri_272_15 rfl rfl ?_
      refine rs_istore_n (lv2 := [(2, .int (v2 &&& (v2 - (1 : Int32)))), (1, .int (v1 + (1 : Int32))), (0, .int v0)]) ri_272_16 rfl rm_272.1 (by decide) rfl ?_
      refine rs_goto (t := 4) ri_272_17 rfl ?_
      have e : xg_272_4 (n + 1) M v2 v1 v0 = xg_272_4 n M (v2 &&& (v2 - (1 : Int32))) (v1 + (1 : Int32)) v0 := by rw [xg_272_4]; first | (simp only [if_neg h1]; done) | rfl
      rw [e] at hk
      exact ro_w_lv (ro_sub_c rfl (ro_sub_c rfl (ro_sub_c rfl (ro_sub_n rfl)))) (ih hL  hp hk)
/-- RefusedOnceModel.bitsOf(I)I -/
noncomputable def xf_272 (M : ro_Mm) (v0 : Int32) : Int32 := (xg_272_4 lp_N M v0 (0 : Int32) v0).2
def xp_272 (M : ro_Mm) (v0 : Int32) : Prop := (xq_272_4 lp_N M v0 (0 : Int32) v0 ∧ True)
theorem xs_272 {X : ro_Sx} {M : ro_Mm} {v0 : Int32} (hL : ro_lay M) (hp : xp_272 M v0) : ro_cwp X 1 272 [.int v0] M (fun v M2 => v = some (.int (xf_272 M v0)) ∧ M2 = M) := by
  refine rs_begin (lv0 := [(0, .int v0)]) (by decide) rfl (by rw [rm_272.1]; exact Nat.le_of_ble_eq_true rfl) rfl ?_
  unfold xp_272 at hp
  refine rs_iconst (v := (0 : Int32)) ri_272_0 rfl (by decide) ?_
  refine rs_istore_n (lv2 := [(1, .int (0 : Int32)), (0, .int v0)]) ri_272_1 rfl rm_272.1 (by decide) rfl ?_
  refine rs_iload_n ri_272_2 rfl rfl ?_
  refine rs_istore_n (lv2 := [(2, .int v0), (1, .int (0 : Int32)), (0, .int v0)]) ri_272_3 rfl rm_272.1 (by decide) rfl ?_
  obtain ⟨q1, hp⟩ := hp
  refine xt_272_4 lp_N hL q1 ?_
  refine rs_iload_n ri_272_20 rfl rfl ?_
  refine rs_iret ri_272_21 rm_272.2.1 (by decide) ?_
  exact ⟨by rfl, by rfl⟩
/-- a loop of RefusedOnceModel.keepNow1()V -/
noncomputable def xg_275_2 : Nat → ro_Mm → Int32 → Int32 × ro_Mm
  | 0, M, v1 => (v1, M)
  | n + 1, M, v1 => (if (M.2.1 163 1) ≤ v1 then (v1, M) else (xg_275_2 n (ro_sI (ro_sI M 164 (v1.toNatClampNeg) (M.2.1 181 (v1.toNatClampNeg))) 165 (v1.toNatClampNeg) (M.2.1 182 (v1.toNatClampNeg))) (v1 + (1 : Int32))))
def xq_275_2 : Nat → ro_Mm → Int32 → Prop
  | 0, _, _ => False
  | n + 1, M, v1 => (((M.2.1 163 1) ≤ v1 → True) ∧ (¬ ((M.2.1 163 1) ≤ v1) → (vp_in v1 6 ∧ (vp_in v1 6 ∧ (vp_in v1 6 ∧ (vp_in v1 6 ∧ (xq_275_2 n (ro_sI (ro_sI M 164 (v1.toNatClampNeg) (M.2.1 181 (v1.toNatClampNeg))) 165 (v1.toNatClampNeg) (M.2.1 182 (v1.toNatClampNeg))) (v1 + (1 : Int32)))))))))
theorem xt_275_2 {X : ro_Sx} {post : ro_Po} : ∀ (n : Nat) {M : ro_Mm} {v1 : Int32} (hL : ro_lay M) (hp : xq_275_2 n M v1) (hk : ro_w X 0 275 post 40 [(1, .int (xg_275_2 n M v1).1), (0, .ref 163)] [] (xg_275_2 n M v1).2 (0, 0)), ro_w X 0 275 post 2 [(1, .int v1), (0, .ref 163)] [] M (0, 0) := by
  intro n
  induction n with
  | zero => intro M v1 hL hp hk; exact False.elim hp
  | succ n ih =>
    intro M v1 hL hp hk
    rw [xq_275_2] at hp
    refine rs_iload_n ri_275_2 rfl rfl ?_
    refine rs_aload_n ri_275_3 rfl rfl ?_
    refine rs_gf (v := .int (M.2.1 163 1)) ri_275_4 rfl (by decide) (ro_kf (kd_163 hL)) rfl rfl ?_
    refine rs_icmp_ge (t := 40) ri_275_7 rfl rfl (fun h1 => ?_) (fun h1 => ?_)
    · skip
      have e : xg_275_2 (n + 1) M v1 = (v1, M) := by rw [xg_275_2]; first | (simp only [if_pos h1]; done) | rfl
      rw [e] at hk
      exact ro_w_lv (ro_sub_c rfl (ro_sub_c rfl (ro_sub_n rfl))) hk
    · have hp := hp.2 h1
      refine rs_aload_n ri_275_10 rfl rfl ?_
      refine rs_gf (v := .ref 164) ri_275_11 rfl (by decide) (ro_kf (kd_163 hL)) rfl (rf_163_2 hL) ?_
      refine rs_iload_n ri_275_14 rfl rfl ?_
      refine rs_aload_n ri_275_15 rfl rfl ?_
      refine rs_gf (v := .ref 181) ri_275_16 rfl (by decide) (ro_kf (kd_163 hL)) rfl (rf_163_27 hL) ?_
      refine rs_iload_n ri_275_19 rfl rfl ?_
      obtain ⟨q1, hp⟩ := hp
      refine rs_iald (v := (M.2.1 181 (v1.toNatClampNeg))) ri_275_20 rfl (by decide) (kd_181 hL) q1 rfl ?_
      obtain ⟨q2, hp⟩ := hp
      refine rs_iast (j := v1.toNatClampNeg) ri_275_21 rfl (by decide) (kd_164 hL) q2 rfl ?_
      refine rs_aload_n ri_275_22 rfl rfl ?_
      refine rs_gf (v := .ref 165) ri_275_23 rfl (by decide) (ro_kf (kd_163 hL)) rfl (rf_163_3 hL) ?_
      refine rs_iload_n ri_275_26 rfl rfl ?_
      refine rs_aload_n ri_275_27 rfl rfl ?_
      refine rs_gf (v := .ref 182) ri_275_28 rfl (by decide) (ro_kf (kd_163 hL)) rfl (rf_163_28 hL) ?_
      refine rs_iload_n ri_275_31 rfl rfl ?_
      obtain ⟨q3, hp⟩ := hp
      refine rs_iald (v := (M.2.1 182 (v1.toNatClampNeg))) ri_275_32 rfl (by decide) (kd_182 hL) q3 rfl ?_
      obtain ⟨q4, hp⟩ := hp
      refine rs_iast (j := v1.toNatClampNeg) ri_275_33 rfl (by decide) (kd_165 hL) q4 rfl ?_
      refine rs_iinc (v := (v1 + (1 : Int32))) (lv2 := [(1, .int (v1 + (1 : Int32))), (0, .ref 163)]) ri_275_34 rfl rfl rfl rm_275.1 (by decide) rfl ?_
      refine rs_goto (t := 2) ri_275_37 rfl ?_
      have e : xg_275_2 (n + 1) M v1 = xg_275_2 n (ro_sI (ro_sI M 164 (v1.toNatClampNeg) (M.2.1 181 (v1.toNatClampNeg))) 165 (v1.toNatClampNeg) (M.2.1 182 (v1.toNatClampNeg))) (v1 + (1 : Int32)) := by rw [xg_275_2]; first | (simp only [if_neg h1]; done) | rfl
      rw [e] at hk
      exact ro_w_lv (ro_sub_c rfl (ro_sub_c rfl (ro_sub_n rfl))) (ih hL  hp hk)
theorem xl_275_2 : ∀ (n : Nat) {M : ro_Mm} {v1 : Int32} (hL : ro_lay M) (hp : xq_275_2 n M v1), ro_lay (xg_275_2 n M v1).2 := by
  intro n
  induction n with
  | zero => intro M v1 hL hp; exact False.elim hp
  | succ n ih =>
    intro M v1 hL hp
    rw [xq_275_2] at hp
    rw [xg_275_2]
    by_cases hz : (M.2.1 163 1) ≤ v1
    · have hp := hp.1 hz
      rw [if_pos hz]
      exact hL
    · have hp := hp.2 hz
      rw [if_neg hz]
      obtain ⟨q1, hp⟩ := hp
      obtain ⟨q2, hp⟩ := hp
      obtain ⟨q3, hp⟩ := hp
      obtain ⟨q4, hp⟩ := hp
      exact ih hL  hp
theorem xwI_275_2 : ∀ {n : Nat} {M : ro_Mm} {v1 : Int32} {c j : Nat} (n0 : c ≠ 164) (n1 : c ≠ 165), (xg_275_2 n M v1).2.2.1 c j = M.2.1 c j := by
  intro n
  induction n with
  | zero => intro M v1 c j n0 n1; rfl
  | succ n ih =>
    intro M v1 c j n0 n1
    rw [xg_275_2]
    by_cases hz : (M.2.1 163 1) ≤ v1
    · rw [if_pos hz]
      first | done | exact rfl
    · rw [if_neg hz]
      first | done | exact ((((ih n0 n1)).trans (ro_sI_ne n1)).trans (ro_sI_ne n0))
theorem xwJ_275_2 : ∀ {n : Nat} {M : ro_Mm} {v1 : Int32} {c j : Nat}, (xg_275_2 n M v1).2.2.2.1 c j = M.2.2.1 c j := by
  intro n
  induction n with
  | zero => intro M v1 c j; rfl
  | succ n ih =>
    intro M v1 c j
    rw [xg_275_2]
    by_cases hz : (M.2.1 163 1) ≤ v1
    · rw [if_pos hz]
      first | done | exact rfl
    · rw [if_neg hz]
      first | done | exact ((((ih)).trans (congrFun (congrFun ro_sI_J _) _)).trans (congrFun (congrFun ro_sI_J _) _))
/-- RefusedOnceModel.keepNow1()V -/
noncomputable def xm_275 (M : ro_Mm) : ro_Mm := (xg_275_2 lp_N M (0 : Int32)).2
def xp_275 (M : ro_Mm) : Prop := (xq_275_2 lp_N M (0 : Int32) ∧ True)
theorem xs_275 {X : ro_Sx} {M : ro_Mm} (hL : ro_lay M) (hp : xp_275 M) : ro_cwp X 1 275 [.ref 163] M (fun v M2 => v = none ∧ M2 = xm_275 M) := by
  refine rs_begin (lv0 := [(0, .ref 163)]) (by decide) rfl (by rw [rm_275.1]; exact Nat.le_of_ble_eq_true rfl) rfl ?_
  unfold xp_275 at hp
  refine rs_iconst (v := (0 : Int32)) ri_275_0 rfl (by decide) ?_
  refine rs_istore_n (lv2 := [(1, .int (0 : Int32)), (0, .ref 163)]) ri_275_1 rfl rm_275.1 (by decide) rfl ?_
  obtain ⟨q5, hp⟩ := hp
  refine xt_275_2 lp_N hL q5 ?_
  refine rs_ret ri_275_40 rm_275.2.1 (by decide) ?_
  exact ⟨by rfl, by rfl⟩
theorem xl_275 {M : ro_Mm} (hL : ro_lay M) (hp : xp_275 M) : ro_lay (xm_275 M) := by
  unfold xp_275 at hp
  unfold xm_275
  obtain ⟨q5, hp⟩ := hp
  exact (xl_275_2 lp_N hL q5)
theorem xwI_275 {M : ro_Mm} {c j : Nat} (n0 : c ≠ 164) (n1 : c ≠ 165) : (xm_275 M).2.1 c j = M.2.1 c j := by
  unfold xm_275
  first | done | exact (xwI_275_2 n0 n1)
theorem xwJ_275 {M : ro_Mm} {c j : Nat} : (xm_275 M).2.2.1 c j = M.2.2.1 c j := by
  unfold xm_275
  first | done | exact (xwJ_275_2)
/-- a loop of RefusedOnceModel.image()I -/
noncomputable def xg_279_25 : Nat → ro_Mm → Int32 → Int32 × ro_Mm
  | 0, M, v1 => (v1, M)
  | n + 1, M, v1 => (if (M.2.1 163 1) ≤ v1 then (v1, M) else (xg_279_25 n (ro_sI (ro_sI M 185 (v1.toNatClampNeg) (M.2.1 164 (v1.toNatClampNeg))) 186 (v1.toNatClampNeg) (M.2.1 165 (v1.toNatClampNeg))) (v1 + (1 : Int32))))
def xq_279_25 : Nat → ro_Mm → Int32 → Prop
  | 0, _, _ => False
  | n + 1, M, v1 => (((M.2.1 163 1) ≤ v1 → True) ∧ (¬ ((M.2.1 163 1) ≤ v1) → (vp_in v1 6 ∧ (vp_in v1 6 ∧ (vp_in v1 6 ∧ (vp_in v1 6 ∧ (xq_279_25 n (ro_sI (ro_sI M 185 (v1.toNatClampNeg) (M.2.1 164 (v1.toNatClampNeg))) 186 (v1.toNatClampNeg) (M.2.1 165 (v1.toNatClampNeg))) (v1 + (1 : Int32)))))))))
theorem xt_279_25 {X : ro_Sx} {post : ro_Po} : ∀ (n : Nat) {M : ro_Mm} {v1 : Int32} (hL : ro_lay M) (hp : xq_279_25 n M v1) (hk : ro_w X 0 279 post 63 [(1, .int (xg_279_25 n M v1).1), (0, .ref 163)] [] (xg_279_25 n M v1).2 (0, 0)), ro_w X 0 279 post 25 [(1, .int v1), (0, .ref 163)] [] M (0, 0) := by
  intro n
  induction n with
  | zero => intro M v1 hL hp hk; exact False.elim hp
  | succ n ih =>
    intro M v1 hL hp hk
    rw [xq_279_25] at hp
    refine rs_iload_n ri_279_25 rfl rfl ?_
    refine rs_aload_n ri_279_26 rfl rfl ?_
    refine rs_gf (v := .int (M.2.1 163 1)) ri_279_27 rfl (by decide) (ro_kf (kd_163 hL)) rfl rfl ?_
    refine rs_icmp_ge (t := 63) ri_279_30 rfl rfl (fun h1 => ?_) (fun h1 => ?_)
    · skip
      have e : xg_279_25 (n + 1) M v1 = (v1, M) := by rw [xg_279_25]; first | (simp only [if_pos h1]; done) | rfl
      rw [e] at hk
      exact ro_w_lv (ro_sub_c rfl (ro_sub_c rfl (ro_sub_n rfl))) hk
    · have hp := hp.2 h1
      refine rs_aload_n ri_279_33 rfl rfl ?_
      refine rs_gf (v := .ref 185) ri_279_34 rfl (by decide) (ro_kf (kd_163 hL)) rfl (rf_163_46 hL) ?_
      refine rs_iload_n ri_279_37 rfl rfl ?_
      refine rs_aload_n ri_279_38 rfl rfl ?_
      refine rs_gf (v := .ref 164) ri_279_39 rfl (by decide) (ro_kf (kd_163 hL)) rfl (rf_163_2 hL) ?_
      refine rs_iload_n ri_279_42 rfl rfl ?_
      obtain ⟨q1, hp⟩ := hp
      refine rs_iald (v := (M.2.1 164 (v1.toNatClampNeg))) ri_279_43 rfl (by decide) (kd_164 hL) q1 rfl ?_
      obtain ⟨q2, hp⟩ := hp
      refine rs_iast (j := v1.toNatClampNeg) ri_279_44 rfl (by decide) (kd_185 hL) q2 rfl ?_
      refine rs_aload_n ri_279_45 rfl rfl ?_
      refine rs_gf (v := .ref 186) ri_279_46 rfl (by decide) (ro_kf (kd_163 hL)) rfl (rf_163_47 hL) ?_
      refine rs_iload_n ri_279_49 rfl rfl ?_
      refine rs_aload_n ri_279_50 rfl rfl ?_
      refine rs_gf (v := .ref 165) ri_279_51 rfl (by decide) (ro_kf (kd_163 hL)) rfl (rf_163_3 hL) ?_
      refine rs_iload_n ri_279_54 rfl rfl ?_
      obtain ⟨q3, hp⟩ := hp
      refine rs_iald (v := (M.2.1 165 (v1.toNatClampNeg))) ri_279_55 rfl (by decide) (kd_165 hL) q3 rfl ?_
      obtain ⟨q4, hp⟩ := hp
      refine rs_iast (j := v1.toNatClampNeg) ri_279_56 rfl (by decide) (kd_186 hL) q4 rfl ?_
      refine rs_iinc (v := (v1 + (1 : Int32))) (lv2 := [(1, .int (v1 + (1 : Int32))), (0, .ref 163)]) ri_279_57 rfl rfl rfl rm_279.1 (by decide) rfl ?_
      refine rs_goto (t := 25) ri_279_60 rfl ?_
      have e : xg_279_25 (n + 1) M v1 = xg_279_25 n (ro_sI (ro_sI M 185 (v1.toNatClampNeg) (M.2.1 164 (v1.toNatClampNeg))) 186 (v1.toNatClampNeg) (M.2.1 165 (v1.toNatClampNeg))) (v1 + (1 : Int32)) := by rw [xg_279_25]; first | (simp only [if_neg h1]; done) | rfl
      rw [e] at hk
      exact ro_w_lv (ro_sub_c rfl (ro_sub_c rfl (ro_sub_n rfl))) (ih hL  hp hk)
theorem xl_279_25 : ∀ (n : Nat) {M : ro_Mm} {v1 : Int32} (hL : ro_lay M) (hp : xq_279_25 n M v1), ro_lay (xg_279_25 n M v1).2 := by
  intro n
  induction n with
  | zero => intro M v1 hL hp; exact False.elim hp
  | succ n ih =>
    intro M v1 hL hp
    rw [xq_279_25] at hp
    rw [xg_279_25]
    by_cases hz : (M.2.1 163 1) ≤ v1
    · have hp := hp.1 hz
      rw [if_pos hz]
      exact hL
    · have hp := hp.2 hz
      rw [if_neg hz]
      obtain ⟨q1, hp⟩ := hp
      obtain ⟨q2, hp⟩ := hp
      obtain ⟨q3, hp⟩ := hp
      obtain ⟨q4, hp⟩ := hp
      exact ih hL  hp
theorem xwI_279_25 : ∀ {n : Nat} {M : ro_Mm} {v1 : Int32} {c j : Nat} (n0 : c ≠ 185) (n1 : c ≠ 186), (xg_279_25 n M v1).2.2.1 c j = M.2.1 c j := by
  intro n
  induction n with
  | zero => intro M v1 c j n0 n1; rfl
  | succ n ih =>
    intro M v1 c j n0 n1
    rw [xg_279_25]
    by_cases hz : (M.2.1 163 1) ≤ v1
    · rw [if_pos hz]
      first | done | exact rfl
    · rw [if_neg hz]
      first | done | exact ((((ih n0 n1)).trans (ro_sI_ne n1)).trans (ro_sI_ne n0))
theorem xwJ_279_25 : ∀ {n : Nat} {M : ro_Mm} {v1 : Int32} {c j : Nat}, (xg_279_25 n M v1).2.2.2.1 c j = M.2.2.1 c j := by
  intro n
  induction n with
  | zero => intro M v1 c j; rfl
  | succ n ih =>
    intro M v1 c j
    rw [xg_279_25]
    by_cases hz : (M.2.1 163 1) ≤ v1
    · rw [if_pos hz]
      first | done | exact rfl
    · rw [if_neg hz]
      first | done | exact ((((ih)).trans (congrFun (congrFun ro_sI_J _) _)).trans (congrFun (congrFun ro_sI_J _) _))
/-- a loop of RefusedOnceModel.image()I -/
noncomputable def xg_279_65 : Nat → ro_Mm → Int32 → Int32 × ro_Mm
  | 0, M, v1 => (v1, M)
  | n + 1, M, v1 => (if (4 : Int32) ≤ v1 then (v1, M) else (xg_279_65 n (ro_sI M 187 (v1.toNatClampNeg) (M.2.1 184 (v1.toNatClampNeg))) (v1 + (1 : Int32))))
def xq_279_65 : Nat → ro_Mm → Int32 → Prop
  | 0, _, _ => False
  | n + 1, M, v1 => (((4 : Int32) ≤ v1 → True) ∧ (¬ ((4 : Int32) ≤ v1) → (vp_in v1 4 ∧ (vp_in v1 4 ∧ (xq_279_65 n (ro_sI M 187 (v1.toNatClampNeg) (M.2.1 184 (v1.toNatClampNeg))) (v1 + (1 : Int32)))))))
theorem xt_279_65 {X : ro_Sx} {post : ro_Po} : ∀ (n : Nat) {M : ro_Mm} {v1 : Int32} (hL : ro_lay M) (hp : xq_279_65 n M v1) (hk : ro_w X 0 279 post 88 [(1, .int (xg_279_65 n M v1).1), (0, .ref 163)] [] (xg_279_65 n M v1).2 (0, 0)), ro_w X 0 279 post 65 [(1, .int v1), (0, .ref 163)] [] M (0, 0) := by
  intro n
  induction n with
  | zero => intro M v1 hL hp hk; exact False.elim hp
  | succ n ih =>
    intro M v1 hL hp hk
    rw [xq_279_65] at hp
    refine rs_iload_n ri_279_65 rfl rfl ?_
    refine rs_iconst (v := (4 : Int32)) ri_279_66 rfl (by decide) ?_
    refine rs_icmp_ge (t := 88) ri_279_67 rfl rfl (fun h7 => ?_) (fun h7 => ?_)
    · skip
      have e : xg_279_65 (n + 1) M v1 = (v1, M) := by rw [xg_279_65]; first | (simp only [if_pos h7]; done) | rfl
      rw [e] at hk
      exact ro_w_lv (ro_sub_c rfl (ro_sub_c rfl (ro_sub_n rfl))) hk
    · have hp := hp.2 h7
      refine rs_aload_n ri_279_70 rfl rfl ?_
      refine rs_gf (v := .ref 187) ri_279_71 rfl (by decide) (ro_kf (kd_163 hL)) rfl (rf_163_48 hL) ?_
      refine rs_iload_n ri_279_74 rfl rfl ?_
      refine rs_aload_n ri_279_75 rfl rfl ?_
      refine rs_gf (v := .ref 184) ri_279_76 rfl (by decide) (ro_kf (kd_163 hL)) rfl (rf_163_42 hL) ?_
      refine rs_iload_n ri_279_79 rfl rfl ?_
      obtain ⟨q7, hp⟩ := hp
      refine rs_iald (v := (M.2.1 184 (v1.toNatClampNeg))) ri_279_80 rfl (by decide) (kd_184 hL) q7 rfl ?_
      obtain ⟨q8, hp⟩ := hp
      refine rs_iast (j := v1.toNatClampNeg) ri_279_81 rfl (by decide) (kd_187 hL) q8 rfl ?_
      refine rs_iinc (v := (v1 + (1 : Int32))) (lv2 := [(1, .int (v1 + (1 : Int32))), (0, .ref 163)]) ri_279_82 rfl rfl rfl rm_279.1 (by decide) rfl ?_
      refine rs_goto (t := 65) ri_279_85 rfl ?_
      have e : xg_279_65 (n + 1) M v1 = xg_279_65 n (ro_sI M 187 (v1.toNatClampNeg) (M.2.1 184 (v1.toNatClampNeg))) (v1 + (1 : Int32)) := by rw [xg_279_65]; first | (simp only [if_neg h7]; done) | rfl
      rw [e] at hk
      exact ro_w_lv (ro_sub_c rfl (ro_sub_c rfl (ro_sub_n rfl))) (ih hL  hp hk)
theorem xl_279_65 : ∀ (n : Nat) {M : ro_Mm} {v1 : Int32} (hL : ro_lay M) (hp : xq_279_65 n M v1), ro_lay (xg_279_65 n M v1).2 := by
  intro n
  induction n with
  | zero => intro M v1 hL hp; exact False.elim hp
  | succ n ih =>
    intro M v1 hL hp
    rw [xq_279_65] at hp
    rw [xg_279_65]
    by_cases hz : (4 : Int32) ≤ v1
    · have hp := hp.1 hz
      rw [if_pos hz]
      exact hL
    · have hp := hp.2 hz
      rw [if_neg hz]
      obtain ⟨q7, hp⟩ := hp
      obtain ⟨q8, hp⟩ := hp
      exact ih hL  hp
theorem xwI_279_65 : ∀ {n : Nat} {M : ro_Mm} {v1 : Int32} {c j : Nat} (n0 : c ≠ 187), (xg_279_65 n M v1).2.2.1 c j = M.2.1 c j := by
  intro n
  induction n with
  | zero => intro M v1 c j n0; rfl
  | succ n ih =>
    intro M v1 c j n0
    rw [xg_279_65]
    by_cases hz : (4 : Int32) ≤ v1
    · rw [if_pos hz]
      first | done | exact rfl
    · rw [if_neg hz]
      first | done | exact (((ih n0)).trans (ro_sI_ne n0))
theorem xwJ_279_65 : ∀ {n : Nat} {M : ro_Mm} {v1 : Int32} {c j : Nat}, (xg_279_65 n M v1).2.2.2.1 c j = M.2.2.1 c j := by
  intro n
  induction n with
  | zero => intro M v1 c j; rfl
  | succ n ih =>
    intro M v1 c j
    rw [xg_279_65]
    by_cases hz : (4 : Int32) ≤ v1
    · rw [if_pos hz]
      first | done | exact rfl
    · rw [if_neg hz]
      first | done | exact (((ih)).trans (congrFun (congrFun ro_sI_J _) _))
/-- RefusedOnceModel.image()I -/
noncomputable def xf_279 (M : ro_Mm) : Int32 := (M.2.1 184 0)
noncomputable def xm_279 (M : ro_Mm) : ro_Mm := (xg_279_65 lp_N (xg_279_25 lp_N (ro_sI (ro_sI (ro_sI M 163 43 (1 : Int32)) 163 44 (M.2.1 163 1)) 163 45 (M.2.1 168 1)) (0 : Int32)).2 (0 : Int32)).2
def xp_279 (M : ro_Mm) : Prop := (xq_279_25 lp_N (ro_sI (ro_sI (ro_sI M 163 43 (1 : Int32)) 163 44 (M.2.1 163 1)) 163 45 (M.2.1 168 1)) (0 : Int32) ∧ (xq_279_65 lp_N (xg_279_25 lp_N (ro_sI (ro_sI (ro_sI M 163 43 (1 : Int32)) 163 44 (M.2.1 163 1)) 163 45 (M.2.1 168 1)) (0 : Int32)).2 (0 : Int32) ∧ True))
theorem xs_279 {X : ro_Sx} {M : ro_Mm} (hL : ro_lay M) (hp : xp_279 M) : ro_cwp X 1 279 [.ref 163] M (fun v M2 => v = some (.int (xf_279 M)) ∧ M2 = xm_279 M) := by
  refine rs_begin (lv0 := [(0, .ref 163)]) (by decide) rfl (by rw [rm_279.1]; exact Nat.le_of_ble_eq_true rfl) rfl ?_
  unfold xp_279 at hp
  refine rs_aload_n ri_279_0 rfl rfl ?_
  refine rs_iconst (v := (1 : Int32)) ri_279_1 rfl (by decide) ?_
  refine rs_pf (M2 := (ro_sI M 163 43 (1 : Int32))) ri_279_2 rfl (by decide) (ro_kf (kd_163 hL)) (fun h => absurd h (by decide)) (fun f h => ⟨by decide, h⟩) ?_
  refine rs_aload_n ri_279_5 rfl rfl ?_
  refine rs_aload_n ri_279_6 rfl rfl ?_
  refine rs_gf (v := .int (M.2.1 163 1)) ri_279_7 rfl (by decide) (ro_kf (kd_163 hL)) rfl rfl ?_
  refine rs_pf (M2 := (ro_sI (ro_sI M 163 43 (1 : Int32)) 163 44 (M.2.1 163 1))) ri_279_10 rfl (by decide) (ro_kf (kd_163 hL)) (fun h => absurd h (by decide)) (fun f h => h) ?_
  refine rs_aload_n ri_279_13 rfl rfl ?_
  refine rs_aload_n ri_279_14 rfl rfl ?_
  refine rs_gf (v := .ref 168) ri_279_15 rfl (by decide) (ro_kf (kd_163 hL)) rfl (rf_163_6 hL) ?_
  refine rs_iconst (v := (1 : Int32)) ri_279_18 rfl (by decide) ?_
  refine rs_iald (v := (M.2.1 168 1)) ri_279_19 rfl (by decide) (kd_168 hL) (vp_in_iff.mpr ⟨by decide, by decide⟩) rfl ?_
  refine rs_pf (M2 := (ro_sI (ro_sI (ro_sI M 163 43 (1 : Int32)) 163 44 (M.2.1 163 1)) 163 45 (M.2.1 168 1))) ri_279_20 rfl (by decide) (ro_kf (kd_163 hL)) (fun h => absurd h (by decide)) (fun f h => h) ?_
  refine rs_iconst (v := (0 : Int32)) ri_279_23 rfl (by decide) ?_
  refine rs_istore_n (lv2 := [(1, .int (0 : Int32)), (0, .ref 163)]) ri_279_24 rfl rm_279.1 (by decide) rfl ?_
  obtain ⟨q5, hp⟩ := hp
  refine xt_279_25 lp_N hL q5 ?_
  refine rs_iconst (v := (0 : Int32)) ri_279_63 rfl (by decide) ?_
  refine rs_istore_n (lv2 := [(1, .int (0 : Int32)), (0, .ref 163)]) ri_279_64 rfl rm_279.1 (by decide) rfl ?_
  obtain ⟨q9, hp⟩ := hp
  refine xt_279_65 lp_N (xl_279_25 lp_N hL q5) q9 ?_
  refine rs_aload_n ri_279_88 rfl rfl ?_
  refine rs_gf (v := .ref 184) ri_279_89 rfl (by decide) (ro_kf (kd_163 (xl_279_65 lp_N (xl_279_25 lp_N hL q5) q9))) rfl (rf_163_42 (xl_279_65 lp_N (xl_279_25 lp_N hL q5) q9)) ?_
  refine rs_iconst (v := (0 : Int32)) ri_279_92 rfl (by decide) ?_
  refine rs_iald (v := (M.2.1 184 0)) ri_279_93 rfl (by decide) (kd_184 (xl_279_65 lp_N (xl_279_25 lp_N hL q5) q9)) (vp_in_iff.mpr ⟨by decide, by decide⟩) ((((((xwI_279_65 (by decide))).trans (xwI_279_25 (by decide) (by decide))).trans (ro_sI_ne (by decide))).trans (ro_sI_ne (by decide))).trans (ro_sI_ne (by decide))) ?_
  refine rs_iret ri_279_94 rm_279.2.1 (by decide) ?_
  exact ⟨by rfl, by rfl⟩
theorem xl_279 {M : ro_Mm} (hL : ro_lay M) (hp : xp_279 M) : ro_lay (xm_279 M) := by
  unfold xp_279 at hp
  unfold xm_279
  obtain ⟨q5, hp⟩ := hp
  obtain ⟨q9, hp⟩ := hp
  exact (xl_279_65 lp_N (xl_279_25 lp_N hL q5) q9)
theorem xwI_279 {M : ro_Mm} {c j : Nat} (n0 : c ≠ 163) (n1 : c ≠ 185) (n2 : c ≠ 186) (n3 : c ≠ 187) : (xm_279 M).2.1 c j = M.2.1 c j := by
  unfold xm_279
  first | done | exact ((((((xwI_279_65 n3)).trans (xwI_279_25 n1 n2)).trans (ro_sI_ne n0)).trans (ro_sI_ne n0)).trans (ro_sI_ne n0))
theorem xwJ_279 {M : ro_Mm} {c j : Nat} : (xm_279 M).2.2.1 c j = M.2.2.1 c j := by
  unfold xm_279
  first | done | exact ((((((xwJ_279_65)).trans (xwJ_279_25)).trans (congrFun (congrFun ro_sI_J _) _)).trans (congrFun (congrFun ro_sI_J _) _)).trans (congrFun (congrFun ro_sI_J _) _))
/-- a loop of RefusedOnceModel.back()I -/
noncomputable def xg_280_22 : Nat → ro_Mm → Int32 → Int32 × ro_Mm
  | 0, M, v1 => (v1, M)
  | n + 1, M, v1 => (if (M.2.1 163 44) ≤ v1 then (v1, M) else (xg_280_22 n (ro_sI (ro_sI M 164 (v1.toNatClampNeg) (M.2.1 185 (v1.toNatClampNeg))) 165 (v1.toNatClampNeg) (M.2.1 186 (v1.toNatClampNeg))) (v1 + (1 : Int32))))
def xq_280_22 : Nat → ro_Mm → Int32 → Prop
  | 0, _, _ => False
  | n + 1, M, v1 => (((M.2.1 163 44) ≤ v1 → True) ∧ (¬ ((M.2.1 163 44) ≤ v1) → (vp_in v1 6 ∧ (vp_in v1 6 ∧ (vp_in v1 6 ∧ (vp_in v1 6 ∧ (xq_280_22 n (ro_sI (ro_sI M 164 (v1.toNatClampNeg) (M.2.1 185 (v1.toNatClampNeg))) 165 (v1.toNatClampNeg) (M.2.1 186 (v1.toNatClampNeg))) (v1 + (1 : Int32)))))))))
theorem xt_280_22 {X : ro_Sx} {post : ro_Po} : ∀ (n : Nat) {M : ro_Mm} {v1 : Int32} (hL : ro_lay M) (hp : xq_280_22 n M v1) (hk : ro_w X 0 280 post 60 [(1, .int (xg_280_22 n M v1).1), (0, .ref 163)] [] (xg_280_22 n M v1).2 (0, 0)), ro_w X 0 280 post 22 [(1, .int v1), (0, .ref 163)] [] M (0, 0) := by
  intro n
  induction n with
  | zero => intro M v1 hL hp hk; exact False.elim hp
  | succ n ih =>
    intro M v1 hL hp hk
    rw [xq_280_22] at hp
    refine rs_iload_n ri_280_22 rfl rfl ?_
    refine rs_aload_n ri_280_23 rfl rfl ?_
    refine rs_gf (v := .int (M.2.1 163 44)) ri_280_24 rfl (by decide) (ro_kf (kd_163 hL)) rfl rfl ?_
    refine rs_icmp_ge (t := 60) ri_280_27 rfl rfl (fun h2 => ?_) (fun h2 => ?_)
    · skip
      have e : xg_280_22 (n + 1) M v1 = (v1, M) := by rw [xg_280_22]; first | (simp only [if_pos h2]; done) | rfl
      rw [e] at hk
      exact ro_w_lv (ro_sub_c rfl (ro_sub_c rfl (ro_sub_n rfl))) hk
    · have hp := hp.2 h2
      refine rs_aload_n ri_280_30 rfl rfl ?_
      refine rs_gf (v := .ref 164) ri_280_31 rfl (by decide) (ro_kf (kd_163 hL)) rfl (rf_163_2 hL) ?_
      refine rs_iload_n ri_280_34 rfl rfl ?_
      refine rs_aload_n ri_280_35 rfl rfl ?_
      refine rs_gf (v := .ref 185) ri_280_36 rfl (by decide) (ro_kf (kd_163 hL)) rfl (rf_163_46 hL) ?_
      refine rs_iload_n ri_280_39 rfl rfl ?_
      obtain ⟨q2, hp⟩ := hp
      refine rs_iald (v := (M.2.1 185 (v1.toNatClampNeg))) ri_280_40 rfl (by decide) (kd_185 hL) q2 rfl ?_
      obtain ⟨q3, hp⟩ := hp
      refine rs_iast (j := v1.toNatClampNeg) ri_280_41 rfl (by decide) (kd_164 hL) q3 rfl ?_
      refine rs_aload_n ri_280_42 rfl rfl ?_
      refine rs_gf (v := .ref 165) ri_280_43 rfl (by decide) (ro_kf (kd_163 hL)) rfl (rf_163_3 hL) ?_
      refine rs_iload_n ri_280_46 rfl rfl ?_
      refine rs_aload_n ri_280_47 rfl rfl ?_
      refine rs_gf (v := .ref 186) ri_280_48 rfl (by decide) (ro_kf (kd_163 hL)) rfl (rf_163_47 hL) ?_
      refine rs_iload_n ri_280_51 rfl rfl ?_
      obtain ⟨q4, hp⟩ := hp
      refine rs_iald (v := (M.2.1 186 (v1.toNatClampNeg))) ri_280_52 rfl (by decide) (kd_186 hL) q4 rfl ?_
      obtain ⟨q5, hp⟩ := hp
      refine rs_iast (j := v1.toNatClampNeg) ri_280_53 rfl (by decide) (kd_165 hL) q5 rfl ?_
      refine rs_iinc (v := (v1 + (1 : Int32))) (lv2 := [(1, .int (v1 + (1 : Int32))), (0, .ref 163)]) ri_280_54 rfl rfl rfl rm_280.1 (by decide) rfl ?_
      refine rs_goto (t := 22) ri_280_57 rfl ?_
      have e : xg_280_22 (n + 1) M v1 = xg_280_22 n (ro_sI (ro_sI M 164 (v1.toNatClampNeg) (M.2.1 185 (v1.toNatClampNeg))) 165 (v1.toNatClampNeg) (M.2.1 186 (v1.toNatClampNeg))) (v1 + (1 : Int32)) := by rw [xg_280_22]; first | (simp only [if_neg h2]; done) | rfl
      rw [e] at hk
      exact ro_w_lv (ro_sub_c rfl (ro_sub_c rfl (ro_sub_n rfl))) (ih hL  hp hk)
theorem xl_280_22 : ∀ (n : Nat) {M : ro_Mm} {v1 : Int32} (hL : ro_lay M) (hp : xq_280_22 n M v1), ro_lay (xg_280_22 n M v1).2 := by
  intro n
  induction n with
  | zero => intro M v1 hL hp; exact False.elim hp
  | succ n ih =>
    intro M v1 hL hp
    rw [xq_280_22] at hp
    rw [xg_280_22]
    by_cases hz : (M.2.1 163 44) ≤ v1
    · have hp := hp.1 hz
      rw [if_pos hz]
      exact hL
    · have hp := hp.2 hz
      rw [if_neg hz]
      obtain ⟨q2, hp⟩ := hp
      obtain ⟨q3, hp⟩ := hp
      obtain ⟨q4, hp⟩ := hp
      obtain ⟨q5, hp⟩ := hp
      exact ih hL  hp
theorem xwI_280_22 : ∀ {n : Nat} {M : ro_Mm} {v1 : Int32} {c j : Nat} (n0 : c ≠ 164) (n1 : c ≠ 165), (xg_280_22 n M v1).2.2.1 c j = M.2.1 c j := by
  intro n
  induction n with
  | zero => intro M v1 c j n0 n1; rfl
  | succ n ih =>
    intro M v1 c j n0 n1
    rw [xg_280_22]
    by_cases hz : (M.2.1 163 44) ≤ v1
    · rw [if_pos hz]
      first | done | exact rfl
    · rw [if_neg hz]
      first | done | exact ((((ih n0 n1)).trans (ro_sI_ne n1)).trans (ro_sI_ne n0))
theorem xwJ_280_22 : ∀ {n : Nat} {M : ro_Mm} {v1 : Int32} {c j : Nat}, (xg_280_22 n M v1).2.2.2.1 c j = M.2.2.1 c j := by
  intro n
  induction n with
  | zero => intro M v1 c j; rfl
  | succ n ih =>
    intro M v1 c j
    rw [xg_280_22]
    by_cases hz : (M.2.1 163 44) ≤ v1
    · rw [if_pos hz]
      first | done | exact rfl
    · rw [if_neg hz]
      first | done | exact ((((ih)).trans (congrFun (congrFun ro_sI_J _) _)).trans (congrFun (congrFun ro_sI_J _) _))
/-- a loop of RefusedOnceModel.back()I -/
noncomputable def xg_280_62 : Nat → ro_Mm → Int32 → Int32 × ro_Mm
  | 0, M, v1 => (v1, M)
  | n + 1, M, v1 => (if (4 : Int32) ≤ v1 then (v1, M) else (xg_280_62 n (ro_sI M 184 (v1.toNatClampNeg) (M.2.1 187 (v1.toNatClampNeg))) (v1 + (1 : Int32))))
def xq_280_62 : Nat → ro_Mm → Int32 → Prop
  | 0, _, _ => False
  | n + 1, M, v1 => (((4 : Int32) ≤ v1 → True) ∧ (¬ ((4 : Int32) ≤ v1) → (vp_in v1 4 ∧ (vp_in v1 4 ∧ (xq_280_62 n (ro_sI M 184 (v1.toNatClampNeg) (M.2.1 187 (v1.toNatClampNeg))) (v1 + (1 : Int32)))))))
theorem xt_280_62 {X : ro_Sx} {post : ro_Po} : ∀ (n : Nat) {M : ro_Mm} {v1 : Int32} (hL : ro_lay M) (hp : xq_280_62 n M v1) (hk : ro_w X 0 280 post 85 [(1, .int (xg_280_62 n M v1).1), (0, .ref 163)] [] (xg_280_62 n M v1).2 (0, 0)), ro_w X 0 280 post 62 [(1, .int v1), (0, .ref 163)] [] M (0, 0) := by
  intro n
  induction n with
  | zero => intro M v1 hL hp hk; exact False.elim hp
  | succ n ih =>
    intro M v1 hL hp hk
    rw [xq_280_62] at hp
    refine rs_iload_n ri_280_62 rfl rfl ?_
    refine rs_iconst (v := (4 : Int32)) ri_280_63 rfl (by decide) ?_
    refine rs_icmp_ge (t := 85) ri_280_64 rfl rfl (fun h8 => ?_) (fun h8 => ?_)
    · skip
      have e : xg_280_62 (n + 1) M v1 = (v1, M) := by rw [xg_280_62]; first | (simp only [if_pos h8]; done) | rfl
      rw [e] at hk
      exact ro_w_lv (ro_sub_c rfl (ro_sub_c rfl (ro_sub_n rfl))) hk
    · have hp := hp.2 h8
      refine rs_aload_n ri_280_67 rfl rfl ?_
      refine rs_gf (v := .ref 184) ri_280_68 rfl (by decide) (ro_kf (kd_163 hL)) rfl (rf_163_42 hL) ?_
      refine rs_iload_n ri_280_71 rfl rfl ?_
      refine rs_aload_n ri_280_72 rfl rfl ?_
      refine rs_gf (v := .ref 187) ri_280_73 rfl (by decide) (ro_kf (kd_163 hL)) rfl (rf_163_48 hL) ?_
      refine rs_iload_n ri_280_76 rfl rfl ?_
      obtain ⟨q8, hp⟩ := hp
      refine rs_iald (v := (M.2.1 187 (v1.toNatClampNeg))) ri_280_77 rfl (by decide) (kd_187 hL) q8 rfl ?_
      obtain ⟨q9, hp⟩ := hp
      refine rs_iast (j := v1.toNatClampNeg) ri_280_78 rfl (by decide) (kd_184 hL) q9 rfl ?_
      refine rs_iinc (v := (v1 + (1 : Int32))) (lv2 := [(1, .int (v1 + (1 : Int32))), (0, .ref 163)]) ri_280_79 rfl rfl rfl rm_280.1 (by decide) rfl ?_
      refine rs_goto (t := 62) ri_280_82 rfl ?_
      have e : xg_280_62 (n + 1) M v1 = xg_280_62 n (ro_sI M 184 (v1.toNatClampNeg) (M.2.1 187 (v1.toNatClampNeg))) (v1 + (1 : Int32)) := by rw [xg_280_62]; first | (simp only [if_neg h8]; done) | rfl
      rw [e] at hk
      exact ro_w_lv (ro_sub_c rfl (ro_sub_c rfl (ro_sub_n rfl))) (ih hL  hp hk)
theorem xl_280_62 : ∀ (n : Nat) {M : ro_Mm} {v1 : Int32} (hL : ro_lay M) (hp : xq_280_62 n M v1), ro_lay (xg_280_62 n M v1).2 := by
  intro n
  induction n with
  | zero => intro M v1 hL hp; exact False.elim hp
  | succ n ih =>
    intro M v1 hL hp
    rw [xq_280_62] at hp
    rw [xg_280_62]
    by_cases hz : (4 : Int32) ≤ v1
    · have hp := hp.1 hz
      rw [if_pos hz]
      exact hL
    · have hp := hp.2 hz
      rw [if_neg hz]
      obtain ⟨q8, hp⟩ := hp
      obtain ⟨q9, hp⟩ := hp
      exact ih hL  hp
theorem xwI_280_62 : ∀ {n : Nat} {M : ro_Mm} {v1 : Int32} {c j : Nat} (n0 : c ≠ 184), (xg_280_62 n M v1).2.2.1 c j = M.2.1 c j := by
  intro n
  induction n with
  | zero => intro M v1 c j n0; rfl
  | succ n ih =>
    intro M v1 c j n0
    rw [xg_280_62]
    by_cases hz : (4 : Int32) ≤ v1
    · rw [if_pos hz]
      first | done | exact rfl
    · rw [if_neg hz]
      first | done | exact (((ih n0)).trans (ro_sI_ne n0))
theorem xwJ_280_62 : ∀ {n : Nat} {M : ro_Mm} {v1 : Int32} {c j : Nat}, (xg_280_62 n M v1).2.2.2.1 c j = M.2.2.1 c j := by
  intro n
  induction n with
  | zero => intro M v1 c j; rfl
  | succ n ih =>
    intro M v1 c j
    rw [xg_280_62]
    by_cases hz : (4 : Int32) ≤ v1
    · rw [if_pos hz]
      first | done | exact rfl
    · rw [if_neg hz]
      first | done | exact (((ih)).trans (congrFun (congrFun ro_sI_J _) _))
/-- RefusedOnceModel.back()I -/
noncomputable def xf_280 (M : ro_Mm) : Int32 := (if (M.2.1 163 43) = (0 : Int32) then (-5 : Int32) else ((xg_280_62 lp_N (xg_280_22 lp_N (ro_sI M 168 1 (M.2.1 163 45)) (0 : Int32)).2 (0 : Int32)).2.2.1 184 0))
noncomputable def xm_280 (M : ro_Mm) : ro_Mm := (if (M.2.1 163 43) = (0 : Int32) then M else (xg_280_62 lp_N (xg_280_22 lp_N (ro_sI M 168 1 (M.2.1 163 45)) (0 : Int32)).2 (0 : Int32)).2)
def xp_280 (M : ro_Mm) : Prop := (((M.2.1 163 43) = (0 : Int32) → True) ∧ (¬ ((M.2.1 163 43) = (0 : Int32)) → (xq_280_22 lp_N (ro_sI M 168 1 (M.2.1 163 45)) (0 : Int32) ∧ (xq_280_62 lp_N (xg_280_22 lp_N (ro_sI M 168 1 (M.2.1 163 45)) (0 : Int32)).2 (0 : Int32) ∧ True))))
theorem xs_280 {X : ro_Sx} {M : ro_Mm} (hL : ro_lay M) (hp : xp_280 M) : ro_cwp X 1 280 [.ref 163] M (fun v M2 => v = some (.int (xf_280 M)) ∧ M2 = xm_280 M) := by
  refine rs_begin (lv0 := [(0, .ref 163)]) (by decide) rfl (by rw [rm_280.1]; exact Nat.le_of_ble_eq_true rfl) rfl ?_
  unfold xp_280 at hp
  refine rs_aload_n ri_280_0 rfl rfl ?_
  refine rs_gf (v := .int (M.2.1 163 43)) ri_280_1 rfl (by decide) (ro_kf (kd_163 hL)) rfl rfl ?_
  refine rs_if_ne (t := 10) ri_280_4 rfl rfl (fun h1 => ?_) (fun h1 => ?_)
  · have hp := hp.2 h1
    refine rs_aload_n ri_280_10 rfl rfl ?_
    refine rs_gf (v := .ref 168) ri_280_11 rfl (by decide) (ro_kf (kd_163 hL)) rfl (rf_163_6 hL) ?_
    refine rs_iconst (v := (1 : Int32)) ri_280_14 rfl (by decide) ?_
    refine rs_aload_n ri_280_15 rfl rfl ?_
    refine rs_gf (v := .int (M.2.1 163 45)) ri_280_16 rfl (by decide) (ro_kf (kd_163 hL)) rfl rfl ?_
    refine rs_iast (j := 1) ri_280_19 rfl (by decide) (kd_168 hL) (vp_in_iff.mpr ⟨by decide, by decide⟩) rfl ?_
    refine rs_iconst (v := (0 : Int32)) ri_280_20 rfl (by decide) ?_
    refine rs_istore_n (lv2 := [(1, .int (0 : Int32)), (0, .ref 163)]) ri_280_21 rfl rm_280.1 (by decide) rfl ?_
    obtain ⟨q6, hp⟩ := hp
    refine xt_280_22 lp_N hL q6 ?_
    refine rs_iconst (v := (0 : Int32)) ri_280_60 rfl (by decide) ?_
    refine rs_istore_n (lv2 := [(1, .int (0 : Int32)), (0, .ref 163)]) ri_280_61 rfl rm_280.1 (by decide) rfl ?_
    obtain ⟨q10, hp⟩ := hp
    refine xt_280_62 lp_N (xl_280_22 lp_N hL q6) q10 ?_
    refine rs_aload_n ri_280_85 rfl rfl ?_
    refine rs_gf (v := .ref 184) ri_280_86 rfl (by decide) (ro_kf (kd_163 (xl_280_62 lp_N (xl_280_22 lp_N hL q6) q10))) rfl (rf_163_42 (xl_280_62 lp_N (xl_280_22 lp_N hL q6) q10)) ?_
    refine rs_iconst (v := (0 : Int32)) ri_280_89 rfl (by decide) ?_
    refine rs_iald (v := ((xg_280_62 lp_N (xg_280_22 lp_N (ro_sI M 168 1 (M.2.1 163 45)) (0 : Int32)).2 (0 : Int32)).2.2.1 184 0)) ri_280_90 rfl (by decide) (kd_184 (xl_280_62 lp_N (xl_280_22 lp_N hL q6) q10)) (vp_in_iff.mpr ⟨by decide, by decide⟩) rfl ?_
    refine rs_iret ri_280_91 rm_280.2.1 (by decide) ?_
    exact ⟨by unfold xf_280; first | (simp only [if_neg h1]; done) | rfl, by unfold xm_280; first | (simp only [if_neg h1]; done) | rfl⟩
  · have hp := hp.1 h1
    refine rs_bipush (v := (-5 : Int32)) ri_280_7 rfl (by decide) ?_
    refine rs_iret ri_280_9 rm_280.2.1 (by decide) ?_
    exact ⟨by unfold xf_280; first | (simp only [if_pos h1]; done) | rfl, by unfold xm_280; first | (simp only [if_pos h1]; done) | rfl⟩
theorem xl_280 {M : ro_Mm} (hL : ro_lay M) (hp : xp_280 M) : ro_lay (xm_280 M) := by
  unfold xp_280 at hp
  unfold xm_280
  by_cases hz : (M.2.1 163 43) = (0 : Int32)
  · have hp := hp.1 hz
    rw [if_pos hz]
    exact hL
  · have hp := hp.2 hz
    rw [if_neg hz]
    obtain ⟨q6, hp⟩ := hp
    obtain ⟨q10, hp⟩ := hp
    exact (xl_280_62 lp_N (xl_280_22 lp_N hL q6) q10)
theorem xwI_280 {M : ro_Mm} {c j : Nat} (n0 : c ≠ 168) (n1 : c ≠ 164) (n2 : c ≠ 165) (n3 : c ≠ 184) : (xm_280 M).2.1 c j = M.2.1 c j := by
  unfold xm_280
  by_cases hz : (M.2.1 163 43) = (0 : Int32)
  · rw [if_pos hz]
    first | done | exact rfl
  · rw [if_neg hz]
    first | done | exact ((((xwI_280_62 n3)).trans (xwI_280_22 n1 n2)).trans (ro_sI_ne n0))
theorem xwJ_280 {M : ro_Mm} {c j : Nat} : (xm_280 M).2.2.1 c j = M.2.2.1 c j := by
  unfold xm_280
  by_cases hz : (M.2.1 163 43) = (0 : Int32)
  · rw [if_pos hz]
    first | done | exact rfl
  · rw [if_neg hz]
    first | done | exact ((((xwJ_280_62)).trans (xwJ_280_22)).trans (congrFun (congrFun ro_sI_J _) _))
/-- a loop of RefusedOnceModel.allOf(Z)I -/
noncomputable def xg_299_4 : Nat → ro_Mm → Int32 → Int32 → Int32 → Int32 × Int32
  | 0, M, v3, v2, v1 => (v3, v2)
  | n + 1, M, v3, v2, v1 => (if (M.2.1 163 1) ≤ v3 then (v3, v2) else (if v1 = (0 : Int32) then (xg_299_4 n M (v3 + (1 : Int32)) (v2 + (M.2.1 165 (v3.toNatClampNeg))) v1) else (xg_299_4 n M (v3 + (1 : Int32)) (v2 + (M.2.1 164 (v3.toNatClampNeg))) v1)))
def xq_299_4 : Nat → ro_Mm → Int32 → Int32 → Int32 → Prop
  | 0, _, _, _, _ => False
  | n + 1, M, v3, v2, v1 => (((M.2.1 163 1) ≤ v3 → True) ∧ (¬ ((M.2.1 163 1) ≤ v3) → ((v1 = (0 : Int32) → (vp_in v3 6 ∧ (xq_299_4 n M (v3 + (1 : Int32)) (v2 + (M.2.1 165 (v3.toNatClampNeg))) v1))) ∧ (¬ (v1 = (0 : Int32)) → (vp_in v3 6 ∧ (xq_299_4 n M (v3 + (1 : Int32)) (v2 + (M.2.1 164 (v3.toNatClampNeg))) v1))))))
theorem xt_299_4 {X : ro_Sx} {post : ro_Po} : ∀ (n : Nat) {M : ro_Mm} {v3 : Int32} {v2 : Int32} {v1 : Int32} (hL : ro_lay M) (hp : xq_299_4 n M v3 v2 v1) (hk : ro_w X 0 299 post 40 [(3, .int (xg_299_4 n M v3 v2 v1).1), (2, .int (xg_299_4 n M v3 v2 v1).2), (0, .ref 163), (1, .int v1)] [] M (0, 0)), ro_w X 0 299 post 4 [(3, .int v3), (2, .int v2), (0, .ref 163), (1, .int v1)] [] M (0, 0) := by
  intro n
  induction n with
  | zero => intro M v3 v2 v1 hL hp hk; exact False.elim hp
  | succ n ih =>
    intro M v3 v2 v1 hL hp hk
    rw [xq_299_4] at hp
    refine rs_iload_n ri_299_4 rfl rfl ?_
    refine rs_aload_n ri_299_5 rfl rfl ?_
    refine rs_gf (v := .int (M.2.1 163 1)) ri_299_6 rfl (by decide) (ro_kf (kd_163 hL)) rfl rfl ?_
    refine rs_icmp_ge (t := 40) ri_299_9 rfl rfl (fun h1 => ?_) (fun h1 => ?_)
    · skip
      have e : xg_299_4 (n + 1) M v3 v2 v1 = (v3, v2) := by rw [xg_299_4]; first | (simp only [if_pos h1]; done) | rfl
      rw [e] at hk
      exact ro_w_lv (ro_sub_c rfl (ro_sub_c rfl (ro_sub_c rfl (ro_sub_c rfl (ro_sub_n rfl))))) hk
    · have hp := hp.2 h1
      refine rs_iload_n ri_299_12 rfl rfl ?_
      refine rs_iload_n ri_299_13 rfl rfl ?_
      refine rs_if_eq (t := 26) ri_299_14 rfl rfl (fun h2 => ?_) (fun h2 => ?_)
      · have hp := hp.1 h2
        refine rs_aload_n ri_299_26 rfl rfl ?_
        refine rs_gf (v := .ref 165) ri_299_27 rfl (by decide) (ro_kf (kd_163 hL)) rfl (rf_163_3 hL) ?_
        refine rs_iload_n ri_299_30 rfl rfl ?_
        obtain ⟨q2, hp⟩ := hp
        refine rs_iald (v := (M.2.1 165 (v3.toNatClampNeg))) ri_299_31 rfl (by decide) (kd_165 hL) q2 rfl ?_
        refine rs_iadd (r := (v2 + (M.2.1 165 (v3.toNatClampNeg)))) ri_299_32 rfl rfl ?_
        refine rs_istore_n (lv2 := [(2, .int (v2 + (M.2.1 165 (v3.toNatClampNeg)))), (3, .int v3), (0, .ref 163), (1, .int v1)]) ri_299_33 rfl rm_299.1 (by decide) rfl ?_
        refine rs_iinc (v := (v3 + (1 : Int32))) (lv2 := [(3, .int (v3 + (1 : Int32))), (2, .int (v2 + (M.2.1 165 (v3.toNatClampNeg)))), (0, .ref 163), (1, .int v1)]) ri_299_34 rfl rfl rfl rm_299.1 (by decide) rfl ?_
        refine rs_goto (t := 4) ri_299_37 rfl ?_
        have e : xg_299_4 (n + 1) M v3 v2 v1 = xg_299_4 n M (v3 + (1 : Int32)) (v2 + (M.2.1 165 (v3.toNatClampNeg))) v1 := by rw [xg_299_4]; first | (simp only [if_neg h1, if_pos h2]; done) | rfl
        rw [e] at hk
        exact ro_w_lv (ro_sub_c rfl (ro_sub_c rfl (ro_sub_c rfl (ro_sub_c rfl (ro_sub_n rfl))))) (ih hL  hp hk)
      · have hp := hp.2 h2
        refine rs_aload_n ri_299_17 rfl rfl ?_
        refine rs_gf (v := .ref 164) ri_299_18 rfl (by decide) (ro_kf (kd_163 hL)) rfl (rf_163_2 hL) ?_
        refine rs_iload_n ri_299_21 rfl rfl ?_
        obtain ⟨q3, hp⟩ := hp
        refine rs_iald (v := (M.2.1 164 (v3.toNatClampNeg))) ri_299_22 rfl (by decide) (kd_164 hL) q3 rfl ?_
        refine rs_goto (t := 32) ri_299_23 rfl ?_
        refine rs_iadd (r := (v2 + (M.2.1 164 (v3.toNatClampNeg)))) ri_299_32 rfl rfl ?_
        refine rs_istore_n (lv2 := [(2, .int (v2 + (M.2.1 164 (v3.toNatClampNeg)))), (3, .int v3), (0, .ref 163), (1, .int v1)]) ri_299_33 rfl rm_299.1 (by decide) rfl ?_
        refine rs_iinc (v := (v3 + (1 : Int32))) (lv2 := [(3, .int (v3 + (1 : Int32))), (2, .int (v2 + (M.2.1 164 (v3.toNatClampNeg)))), (0, .ref 163), (1, .int v1)]) ri_299_34 rfl rfl rfl rm_299.1 (by decide) rfl ?_
        refine rs_goto (t := 4) ri_299_37 rfl ?_
        have e : xg_299_4 (n + 1) M v3 v2 v1 = xg_299_4 n M (v3 + (1 : Int32)) (v2 + (M.2.1 164 (v3.toNatClampNeg))) v1 := by rw [xg_299_4]; first | (simp only [if_neg h1, if_neg h2]; done) | rfl
        rw [e] at hk
        exact ro_w_lv (ro_sub_c rfl (ro_sub_c rfl (ro_sub_c rfl (ro_sub_c rfl (ro_sub_n rfl))))) (ih hL  hp hk)
/-- RefusedOnceModel.allOf(Z)I -/
noncomputable def xf_299 (M : ro_Mm) (v1 : Bool) : Int32 := (xg_299_4 lp_N M (0 : Int32) (0 : Int32) (ro_b v1)).2
def xp_299 (M : ro_Mm) (v1 : Bool) : Prop := (xq_299_4 lp_N M (0 : Int32) (0 : Int32) (ro_b v1) ∧ True)
theorem xs_299 {X : ro_Sx} {M : ro_Mm} {v1 : Bool} (hL : ro_lay M) (hp : xp_299 M v1) : ro_cwp X 1 299 [.ref 163, .int (ro_b v1)] M (fun v M2 => v = some (.int (xf_299 M v1)) ∧ M2 = M) := by
  refine rs_begin (lv0 := [(0, .ref 163), (1, .int (ro_b v1))]) (by decide) rfl (by rw [rm_299.1]; exact Nat.le_of_ble_eq_true rfl) rfl ?_
  unfold xp_299 at hp
  refine rs_iconst (v := (0 : Int32)) ri_299_0 rfl (by decide) ?_
  refine rs_istore_n (lv2 := [(2, .int (0 : Int32)), (0, .ref 163), (1, .int (ro_b v1))]) ri_299_1 rfl rm_299.1 (by decide) rfl ?_
  refine rs_iconst (v := (0 : Int32)) ri_299_2 rfl (by decide) ?_
  refine rs_istore_n (lv2 := [(3, .int (0 : Int32)), (2, .int (0 : Int32)), (0, .ref 163), (1, .int (ro_b v1))]) ri_299_3 rfl rm_299.1 (by decide) rfl ?_
  obtain ⟨q4, hp⟩ := hp
  refine xt_299_4 lp_N hL q4 ?_
  refine rs_iload_n ri_299_40 rfl rfl ?_
  refine rs_iret ri_299_41 rm_299.2.1 (by decide) ?_
  exact ⟨by rfl, by rfl⟩
/-- a loop of RefusedOnceModel.row(III)I -/
noncomputable def xg_301_54 : Nat → ro_Mm → Int32 → Int32 → Int32 → Int32 → Int32 × ro_Mm
  | 0, M, v4, v1, v2, v3 => (v4, M)
  | n + 1, M, v4, v1, v2, v3 => (if (((60 : Int32) * v1) + (60 : Int32)) ≤ v4 then (v4, M) else (xg_301_54 n (ro_sJ M 192 (v4.toNatClampNeg) (0 : Int64)) (v4 + (1 : Int32)) v1 v2 v3))
def xq_301_54 : Nat → ro_Mm → Int32 → Int32 → Int32 → Int32 → Prop
  | 0, _, _, _, _, _ => False
  | n + 1, M, v4, v1, v2, v3 => (((((60 : Int32) * v1) + (60 : Int32)) ≤ v4 → True) ∧ (¬ ((((60 : Int32) * v1) + (60 : Int32)) ≤ v4) → (vp_in v4 360 ∧ (xq_301_54 n (ro_sJ M 192 (v4.toNatClampNeg) (0 : Int64)) (v4 + (1 : Int32)) v1 v2 v3))))
theorem xt_301_54 {X : ro_Sx} {post : ro_Po} : ∀ (n : Nat) {M : ro_Mm} {v4 : Int32} {v1 : Int32} {v2 : Int32} {v3 : Int32} (hL : ro_lay M) (hp : xq_301_54 n M v4 v1 v2 v3) (hk : ro_w X 2 301 post 80 [(4, .int (xg_301_54 n M v4 v1 v2 v3).1), (0, .ref 163), (1, .int v1), (2, .int v2), (3, .int v3)] [] (xg_301_54 n M v4 v1 v2 v3).2 (0, 0)), ro_w X 2 301 post 54 [(4, .int v4), (0, .ref 163), (1, .int v1), (2, .int v2), (3, .int v3)] [] M (0, 0) := by
  intro n
  induction n with
  | zero => intro M v4 v1 v2 v3 hL hp hk; exact False.elim hp
  | succ n ih =>
    intro M v4 v1 v2 v3 hL hp hk
    rw [xq_301_54] at hp
    refine rs_iload ri_301_54 rfl rfl ?_
    refine rs_bipush (v := (60 : Int32)) ri_301_56 rfl (by decide) ?_
    refine rs_iload_n ri_301_58 rfl rfl ?_
    refine rs_imul (r := ((60 : Int32) * v1)) ri_301_59 rfl rfl ?_
    refine rs_bipush (v := (60 : Int32)) ri_301_60 rfl (by decide) ?_
    refine rs_iadd (r := (((60 : Int32) * v1) + (60 : Int32))) ri_301_62 rfl rfl ?_
    refine rs_icmp_ge (t := 80) ri_301_63 rfl rfl (fun h7 => ?_) (fun h7 => ?_)
    · skip
      have e : xg_301_54 (n + 1) M v4 v1 v2 v3 = (v4, M) := by rw [xg_301_54]; first | (simp only [if_pos h7]; done) | rfl
      rw [e] at hk
      exact ro_w_lv (ro_sub_c rfl (ro_sub_c rfl (ro_sub_c rfl (ro_sub_c rfl (ro_sub_c rfl (ro_sub_n rfl)))))) hk
    · have hp := hp.2 h7
      refine rs_aload_n ri_301_66 rfl rfl ?_
      refine rs_gf (v := .ref 192) ri_301_67 rfl (by decide) (ro_kf (kd_163 hL)) rfl (rf_163_55 hL) ?_
      refine rs_iload ri_301_70 rfl rfl ?_
      refine rs_lconst (v := (0 : Int64)) ri_301_72 rfl rfl ?_
      obtain ⟨q7, hp⟩ := hp
      refine rs_last (j := v4.toNatClampNeg) ri_301_73 rfl (by decide) (kd_192 hL) q7 rfl ?_
      refine rs_iinc (v := (v4 + (1 : Int32))) (lv2 := [(4, .int (v4 + (1 : Int32))), (0, .ref 163), (1, .int v1), (2, .int v2), (3, .int v3)]) ri_301_74 rfl rfl rfl rm_301.1 (by decide) rfl ?_
      refine rs_goto (t := 54) ri_301_77 rfl ?_
      have e : xg_301_54 (n + 1) M v4 v1 v2 v3 = xg_301_54 n (ro_sJ M 192 (v4.toNatClampNeg) (0 : Int64)) (v4 + (1 : Int32)) v1 v2 v3 := by rw [xg_301_54]; first | (simp only [if_neg h7]; done) | rfl
      rw [e] at hk
      exact ro_w_lv (ro_sub_c rfl (ro_sub_c rfl (ro_sub_c rfl (ro_sub_c rfl (ro_sub_c rfl (ro_sub_n rfl)))))) (ih hL  hp hk)
theorem xl_301_54 : ∀ (n : Nat) {M : ro_Mm} {v4 : Int32} {v1 : Int32} {v2 : Int32} {v3 : Int32} (hL : ro_lay M) (hp : xq_301_54 n M v4 v1 v2 v3), ro_lay (xg_301_54 n M v4 v1 v2 v3).2 := by
  intro n
  induction n with
  | zero => intro M v4 v1 v2 v3 hL hp; exact False.elim hp
  | succ n ih =>
    intro M v4 v1 v2 v3 hL hp
    rw [xq_301_54] at hp
    rw [xg_301_54]
    by_cases hz : (((60 : Int32) * v1) + (60 : Int32)) ≤ v4
    · have hp := hp.1 hz
      rw [if_pos hz]
      exact hL
    · have hp := hp.2 hz
      rw [if_neg hz]
      obtain ⟨q7, hp⟩ := hp
      exact ih hL  hp
theorem xwI_301_54 : ∀ {n : Nat} {M : ro_Mm} {v4 : Int32} {v1 : Int32} {v2 : Int32} {v3 : Int32} {c j : Nat}, (xg_301_54 n M v4 v1 v2 v3).2.2.1 c j = M.2.1 c j := by
  intro n
  induction n with
  | zero => intro M v4 v1 v2 v3 c j; rfl
  | succ n ih =>
    intro M v4 v1 v2 v3 c j
    rw [xg_301_54]
    by_cases hz : (((60 : Int32) * v1) + (60 : Int32)) ≤ v4
    · rw [if_pos hz]
      first | done | exact rfl
    · rw [if_neg hz]
      first | done | exact (((ih)).trans (congrFun (congrFun ro_sJ_I _) _))
theorem xwJ_301_54 : ∀ {n : Nat} {M : ro_Mm} {v4 : Int32} {v1 : Int32} {v2 : Int32} {v3 : Int32} {c j : Nat} (n0 : c ≠ 192), (xg_301_54 n M v4 v1 v2 v3).2.2.2.1 c j = M.2.2.1 c j := by
  intro n
  induction n with
  | zero => intro M v4 v1 v2 v3 c j n0; rfl
  | succ n ih =>
    intro M v4 v1 v2 v3 c j n0
    rw [xg_301_54]
    by_cases hz : (((60 : Int32) * v1) + (60 : Int32)) ≤ v4
    · rw [if_pos hz]
      first | done | exact rfl
    · rw [if_neg hz]
      first | done | exact (((ih n0)).trans (ro_sJ_ne n0))
/-- RefusedOnceModel.row(III)I -/
noncomputable def xf_301 (M : ro_Mm) (v1 : Int32) (v2 : Int32) (v3 : Int32) : Int32 := (if (xf_198 M v1) then (if (xf_195 M v2 (0 : Int32) (4 : Int32)) then (if v3 ≤ (60 : Int32) then (if (0 : Int32) ≤ v3 then (1 : Int32) else (-14 : Int32)) else (-1 : Int32)) else (-1 : Int32)) else (-1 : Int32))
noncomputable def xm_301 (M : ro_Mm) (v1 : Int32) (v2 : Int32) (v3 : Int32) : ro_Mm := (if (xf_198 M v1) then (if (xf_195 M v2 (0 : Int32) (4 : Int32)) then (if v3 ≤ (60 : Int32) then (if (0 : Int32) ≤ v3 then (xg_301_54 lp_N (ro_sI (ro_sI M 190 (v1.toNatClampNeg) ((-2 : Int32) - v2)) 191 (v1.toNatClampNeg) v3) ((60 : Int32) * v1) v1 v2 v3).2 else M) else M) else M) else M)
def xp_301 (M : ro_Mm) (v1 : Int32) (v2 : Int32) (v3 : Int32) : Prop := (((xf_198 M v1) → (((xf_195 M v2 (0 : Int32) (4 : Int32)) → ((v3 ≤ (60 : Int32) → (((0 : Int32) ≤ v3 → (vp_in v1 6 ∧ (vp_in v1 6 ∧ (xq_301_54 lp_N (ro_sI (ro_sI M 190 (v1.toNatClampNeg) ((-2 : Int32) - v2)) 191 (v1.toNatClampNeg) v3) ((60 : Int32) * v1) v1 v2 v3 ∧ True)))) ∧ (¬ ((0 : Int32) ≤ v3) → True))) ∧ (¬ (v3 ≤ (60 : Int32)) → True))) ∧ (¬ ((xf_195 M v2 (0 : Int32) (4 : Int32))) → True))) ∧ (¬ ((xf_198 M v1)) → True))
theorem xs_301 {X : ro_Sx} {M : ro_Mm} {v1 : Int32} {v2 : Int32} {v3 : Int32} (hL : ro_lay M) (hp : xp_301 M v1 v2 v3) : ro_cwp X 3 301 [.ref 163, .int v1, .int v2, .int v3] M (fun v M2 => v = some (.int (xf_301 M v1 v2 v3)) ∧ M2 = xm_301 M v1 v2 v3) := by
  refine rs_begin (lv0 := [(0, .ref 163), (1, .int v1), (2, .int v2), (3, .int v3)]) (by decide) rfl (by rw [rm_301.1]; exact Nat.le_of_ble_eq_true rfl) rfl ?_
  unfold xp_301 at hp
  refine rs_iload_n ri_301_0 rfl rfl ?_
  refine rs_stat (As := [.int v1]) (r := []) ri_301_1 rfl rm_198.2.2.2 rfl rfl rfl (Nat.le_of_ble_eq_true rfl) (by decide) (by decide) (xs_198 (X := X) hL) ?_
  rintro _ _ ⟨e1, e2⟩
  rw [e1, e2]
  show ro_w X _ 301 _ 4 [(0, .ref 163), (1, .int v1), (2, .int v2), (3, .int v3)] [.int (ro_b (xf_198 M v1))] M (0, 0)
  refine rs_ifeq_c (t := 22) ri_301_4 rfl rfl (fun h1 => ?_) (fun h1 => ?_)
  · have hp := hp.2 h1
    refine rs_iconst (v := (-1 : Int32)) ri_301_22 rfl (by decide) ?_
    refine rs_iret ri_301_23 rm_301.2.1 (by decide) ?_
    exact ⟨by unfold xf_301; first | (simp only [if_neg h1]; done) | rfl, by unfold xm_301; first | (simp only [if_neg h1]; done) | rfl⟩
  · have hp := hp.1 h1
    refine rs_iload_n ri_301_7 rfl rfl ?_
    refine rs_iconst (v := (0 : Int32)) ri_301_8 rfl (by decide) ?_
    refine rs_iconst (v := (4 : Int32)) ri_301_9 rfl (by decide) ?_
    refine rs_stat (As := [.int v2, .int (0 : Int32), .int (4 : Int32)]) (r := []) ri_301_10 rfl rm_195.2.2.2 rfl rfl rfl (Nat.le_of_ble_eq_true rfl) (by decide) (by decide) (xs_195 (X := X) hL) ?_
    rintro _ _ ⟨e1, e2⟩
    rw [e1, e2]
    show ro_w X _ 301 _ 13 [(0, .ref 163), (1, .int v1), (2, .int v2), (3, .int v3)] [.int (ro_b (xf_195 M v2 (0 : Int32) (4 : Int32)))] M (0, 0)
    refine rs_ifeq_c (t := 22) ri_301_13 rfl rfl (fun h2 => ?_) (fun h2 => ?_)
    · have hp := hp.2 h2
      refine rs_iconst (v := (-1 : Int32)) ri_301_22 rfl (by decide) ?_
      refine rs_iret ri_301_23 rm_301.2.1 (by decide) ?_
      exact ⟨by unfold xf_301; first | (simp only [if_pos h1, if_neg h2]; done) | rfl, by unfold xm_301; first | (simp only [if_pos h1, if_neg h2]; done) | rfl⟩
    · have hp := hp.1 h2
      refine rs_iload_n ri_301_16 rfl rfl ?_
      refine rs_bipush (v := (60 : Int32)) ri_301_17 rfl (by decide) ?_
      refine rs_icmp_le (t := 24) ri_301_19 rfl rfl (fun h3 => ?_) (fun h3 => ?_)
      · have hp := hp.1 h3
        refine rs_iload_n ri_301_24 rfl rfl ?_
        refine rs_if_ge (t := 31) ri_301_25 rfl rfl (fun h4 => ?_) (fun h4 => ?_)
        · have hp := hp.1 h4
          refine rs_aload_n ri_301_31 rfl rfl ?_
          refine rs_gf (v := .ref 190) ri_301_32 rfl (by decide) (ro_kf (kd_163 hL)) rfl (rf_163_53 hL) ?_
          refine rs_iload_n ri_301_35 rfl rfl ?_
          refine rs_bipush (v := (-2 : Int32)) ri_301_36 rfl (by decide) ?_
          refine rs_iload_n ri_301_38 rfl rfl ?_
          refine rs_isub (r := ((-2 : Int32) - v2)) ri_301_39 rfl rfl ?_
          obtain ⟨q4, hp⟩ := hp
          refine rs_iast (j := v1.toNatClampNeg) ri_301_40 rfl (by decide) (kd_190 hL) q4 rfl ?_
          refine rs_aload_n ri_301_41 rfl rfl ?_
          refine rs_gf (v := .ref 191) ri_301_42 rfl (by decide) (ro_kf (kd_163 hL)) rfl (rf_163_54 hL) ?_
          refine rs_iload_n ri_301_45 rfl rfl ?_
          refine rs_iload_n ri_301_46 rfl rfl ?_
          obtain ⟨q5, hp⟩ := hp
          refine rs_iast (j := v1.toNatClampNeg) ri_301_47 rfl (by decide) (kd_191 hL) q5 rfl ?_
          refine rs_bipush (v := (60 : Int32)) ri_301_48 rfl (by decide) ?_
          refine rs_iload_n ri_301_50 rfl rfl ?_
          refine rs_imul (r := ((60 : Int32) * v1)) ri_301_51 rfl rfl ?_
          refine rs_istore (lv2 := [(4, .int ((60 : Int32) * v1)), (0, .ref 163), (1, .int v1), (2, .int v2), (3, .int v3)]) ri_301_52 rfl rm_301.1 (by decide) rfl ?_
          obtain ⟨q8, hp⟩ := hp
          refine xt_301_54 lp_N hL q8 ?_
          refine rs_iconst (v := (1 : Int32)) ri_301_80 rfl (by decide) ?_
          refine rs_iret ri_301_81 rm_301.2.1 (by decide) ?_
          exact ⟨by unfold xf_301; first | (simp only [if_pos h1, if_pos h2, if_pos h3, if_pos h4]; done) | rfl, by unfold xm_301; first | (simp only [if_pos h1, if_pos h2, if_pos h3, if_pos h4]; done) | rfl⟩
        · have hp := hp.2 h4
          refine rs_bipush (v := (-14 : Int32)) ri_301_28 rfl (by decide) ?_
          refine rs_iret ri_301_30 rm_301.2.1 (by decide) ?_
          exact ⟨by unfold xf_301; first | (simp only [if_pos h1, if_pos h2, if_pos h3, if_neg h4]; done) | rfl, by unfold xm_301; first | (simp only [if_pos h1, if_pos h2, if_pos h3, if_neg h4]; done) | rfl⟩
      · have hp := hp.2 h3
        refine rs_iconst (v := (-1 : Int32)) ri_301_22 rfl (by decide) ?_
        refine rs_iret ri_301_23 rm_301.2.1 (by decide) ?_
        exact ⟨by unfold xf_301; first | (simp only [if_pos h1, if_pos h2, if_neg h3]; done) | rfl, by unfold xm_301; first | (simp only [if_pos h1, if_pos h2, if_neg h3]; done) | rfl⟩
theorem xl_301 {M : ro_Mm} {v1 : Int32} {v2 : Int32} {v3 : Int32} (hL : ro_lay M) (hp : xp_301 M v1 v2 v3) : ro_lay (xm_301 M v1 v2 v3) := by
  unfold xp_301 at hp
  unfold xm_301
  by_cases hz : (xf_198 M v1)
  · have hp := hp.1 hz
    rw [if_pos hz]
    by_cases hz : (xf_195 M v2 (0 : Int32) (4 : Int32))
    · have hp := hp.1 hz
      rw [if_pos hz]
      by_cases hz : v3 ≤ (60 : Int32)
      · have hp := hp.1 hz
        rw [if_pos hz]
        by_cases hz : (0 : Int32) ≤ v3
        · have hp := hp.1 hz
          rw [if_pos hz]
          obtain ⟨q4, hp⟩ := hp
          obtain ⟨q5, hp⟩ := hp
          obtain ⟨q8, hp⟩ := hp
          exact (xl_301_54 lp_N hL q8)
        · have hp := hp.2 hz
          rw [if_neg hz]
          exact hL
      · have hp := hp.2 hz
        rw [if_neg hz]
        exact hL
    · have hp := hp.2 hz
      rw [if_neg hz]
      exact hL
  · have hp := hp.2 hz
    rw [if_neg hz]
    exact hL
theorem xwI_301 {M : ro_Mm} {v1 : Int32} {v2 : Int32} {v3 : Int32} {c j : Nat} (n0 : c ≠ 190) (n1 : c ≠ 191) : (xm_301 M v1 v2 v3).2.1 c j = M.2.1 c j := by
  unfold xm_301
  by_cases hz : (xf_198 M v1)
  · rw [if_pos hz]
    by_cases hz : (xf_195 M v2 (0 : Int32) (4 : Int32))
    · rw [if_pos hz]
      by_cases hz : v3 ≤ (60 : Int32)
      · rw [if_pos hz]
        by_cases hz : (0 : Int32) ≤ v3
        · rw [if_pos hz]
          first | done | exact ((((xwI_301_54)).trans (ro_sI_ne n1)).trans (ro_sI_ne n0))
        · rw [if_neg hz]
          first | done | exact rfl
      · rw [if_neg hz]
        first | done | exact rfl
    · rw [if_neg hz]
      first | done | exact rfl
  · rw [if_neg hz]
    first | done | exact rfl
theorem xwJ_301 {M : ro_Mm} {v1 : Int32} {v2 : Int32} {v3 : Int32} {c j : Nat} (n0 : c ≠ 192) : (xm_301 M v1 v2 v3).2.2.1 c j = M.2.2.1 c j := by
  unfold xm_301
  by_cases hz : (xf_198 M v1)
  · rw [if_pos hz]
    by_cases hz : (xf_195 M v2 (0 : Int32) (4 : Int32))
    · rw [if_pos hz]
      by_cases hz : v3 ≤ (60 : Int32)
      · rw [if_pos hz]
        by_cases hz : (0 : Int32) ≤ v3
        · rw [if_pos hz]
          first | done | exact ((((xwJ_301_54 n0)).trans (congrFun (congrFun ro_sI_J _) _)).trans (congrFun (congrFun ro_sI_J _) _))
        · rw [if_neg hz]
          first | done | exact rfl
      · rw [if_neg hz]
        first | done | exact rfl
    · rw [if_neg hz]
      first | done | exact rfl
  · rw [if_neg hz]
    first | done | exact rfl
/-- a loop of RefusedOnceModel.shift(IIIII)I -/
noncomputable def xg_305_113 : Nat → ro_Mm → Int32 → Int32 → Int32 → Int32 → Int32 → Int32 → Int32 × ro_Mm
  | 0, M, v6, v1, v2, v3, v4, v5 => (v6, M)
  | n + 1, M, v6, v1, v2, v3, v4, v5 => (if v5 ≤ v6 then (v6, M) else (xg_305_113 n (ro_sJ M 193 (v6.toNatClampNeg) (M.2.2.1 192 (((((60 : Int32) * v1) + v2) + v6).toNatClampNeg))) (v6 + (1 : Int32)) v1 v2 v3 v4 v5))
def xq_305_113 : Nat → ro_Mm → Int32 → Int32 → Int32 → Int32 → Int32 → Int32 → Prop
  | 0, _, _, _, _, _, _, _ => False
  | n + 1, M, v6, v1, v2, v3, v4, v5 => ((v5 ≤ v6 → True) ∧ (¬ (v5 ≤ v6) → (vp_in ((((60 : Int32) * v1) + v2) + v6) 360 ∧ (vp_in v6 60 ∧ (xq_305_113 n (ro_sJ M 193 (v6.toNatClampNeg) (M.2.2.1 192 (((((60 : Int32) * v1) + v2) + v6).toNatClampNeg))) (v6 + (1 : Int32)) v1 v2 v3 v4 v5)))))
theorem xt_305_113 {X : ro_Sx} {post : ro_Po} : ∀ (n : Nat) {M : ro_Mm} {v6 : Int32} {v1 : Int32} {v2 : Int32} {v3 : Int32} {v4 : Int32} {v5 : Int32} (hL : ro_lay M) (hp : xq_305_113 n M v6 v1 v2 v3 v4 v5) (hk : ro_w X 2 305 post 147 [(6, .int (xg_305_113 n M v6 v1 v2 v3 v4 v5).1), (0, .ref 163), (1, .int v1), (2, .int v2), (3, .int v3), (4, .int v4), (5, .int v5)] [] (xg_305_113 n M v6 v1 v2 v3 v4 v5).2 (0, 0)), ro_w X 2 305 post 113 [(6, .int v6), (0, .ref 163), (1, .int v1), (2, .int v2), (3, .int v3), (4, .int v4), (5, .int v5)] [] M (0, 0) := by
  intro n
  induction n with
  | zero => intro M v6 v1 v2 v3 v4 v5 hL hp hk; exact False.elim hp
  | succ n ih =>
    intro M v6 v1 v2 v3 v4 v5 hL hp hk
    rw [xq_305_113] at hp
    refine rs_iload ri_305_113 rfl rfl ?_
    refine rs_iload ri_305_115 rfl rfl ?_
    refine rs_icmp_ge (t := 147) ri_305_117 rfl rfl (fun h19 => ?_) (fun h19 => ?_)
    · skip
      have e : xg_305_113 (n + 1) M v6 v1 v2 v3 v4 v5 = (v6, M) := by rw [xg_305_113]; first | (simp only [if_pos h19]; done) | rfl
      rw [e] at hk
      exact ro_w_lv (ro_sub_c rfl (ro_sub_c rfl (ro_sub_c rfl (ro_sub_c rfl (ro_sub_c rfl (ro_sub_c rfl (ro_sub_c rfl (ro_sub_n rfl)))))))) hk
    · have hp := hp.2 h19
      refine rs_aload_n ri_305_120 rfl rfl ?_
      refine rs_gf (v := .ref 193) ri_305_121 rfl (by decide) (ro_kf (kd_163 hL)) rfl (rf_163_56 hL) ?_
      refine rs_iload ri_305_124 rfl rfl ?_
      refine rs_aload_n ri_305_126 rfl rfl ?_
      refine rs_gf (v := .ref 192) ri_305_127 rfl (by decide) (ro_kf (kd_163 hL)) rfl (rf_163_55 hL) ?_
      refine rs_bipush (v := (60 : Int32)) ri_305_130 rfl (by decide) ?_
      refine rs_iload_n ri_305_132 rfl rfl ?_
      refine rs_imul (r := ((60 : Int32) * v1)) ri_305_133 rfl rfl ?_
      refine rs_iload_n ri_305_134 rfl rfl ?_
      refine rs_iadd (r := (((60 : Int32) * v1) + v2)) ri_305_135 rfl rfl ?_
      refine rs_iload ri_305_136 rfl rfl ?_
      refine rs_iadd (r := ((((60 : Int32) * v1) + v2) + v6)) ri_305_138 rfl rfl ?_
      obtain ⟨q19, hp⟩ := hp
      refine rs_lald (v := (M.2.2.1 192 (((((60 : Int32) * v1) + v2) + v6).toNatClampNeg))) ri_305_139 rfl (by decide) (kd_192 hL) q19 rfl ?_
      obtain ⟨q20, hp⟩ := hp
      refine rs_last (j := v6.toNatClampNeg) ri_305_140 rfl (by decide) (kd_193 hL) q20 rfl ?_
      refine rs_iinc (v := (v6 + (1 : Int32))) (lv2 := [(6, .int (v6 + (1 : Int32))), (0, .ref 163), (1, .int v1), (2, .int v2), (3, .int v3), (4, .int v4), (5, .int v5)]) ri_305_141 rfl rfl rfl rm_305.1 (by decide) rfl ?_
      refine rs_goto (t := 113) ri_305_144 rfl ?_
      have e : xg_305_113 (n + 1) M v6 v1 v2 v3 v4 v5 = xg_305_113 n (ro_sJ M 193 (v6.toNatClampNeg) (M.2.2.1 192 (((((60 : Int32) * v1) + v2) + v6).toNatClampNeg))) (v6 + (1 : Int32)) v1 v2 v3 v4 v5 := by rw [xg_305_113]; first | (simp only [if_neg h19]; done) | rfl
      rw [e] at hk
      exact ro_w_lv (ro_sub_c rfl (ro_sub_c rfl (ro_sub_c rfl (ro_sub_c rfl (ro_sub_c rfl (ro_sub_c rfl (ro_sub_c rfl (ro_sub_n rfl)))))))) (ih hL  hp hk)
theorem xl_305_113 : ∀ (n : Nat) {M : ro_Mm} {v6 : Int32} {v1 : Int32} {v2 : Int32} {v3 : Int32} {v4 : Int32} {v5 : Int32} (hL : ro_lay M) (hp : xq_305_113 n M v6 v1 v2 v3 v4 v5), ro_lay (xg_305_113 n M v6 v1 v2 v3 v4 v5).2 := by
  intro n
  induction n with
  | zero => intro M v6 v1 v2 v3 v4 v5 hL hp; exact False.elim hp
  | succ n ih =>
    intro M v6 v1 v2 v3 v4 v5 hL hp
    rw [xq_305_113] at hp
    rw [xg_305_113]
    by_cases hz : v5 ≤ v6
    · have hp := hp.1 hz
      rw [if_pos hz]
      exact hL
    · have hp := hp.2 hz
      rw [if_neg hz]
      obtain ⟨q19, hp⟩ := hp
      obtain ⟨q20, hp⟩ := hp
      exact ih hL  hp
theorem xwI_305_113 : ∀ {n : Nat} {M : ro_Mm} {v6 : Int32} {v1 : Int32} {v2 : Int32} {v3 : Int32} {v4 : Int32} {v5 : Int32} {c j : Nat}, (xg_305_113 n M v6 v1 v2 v3 v4 v5).2.2.1 c j = M.2.1 c j := by
  intro n
  induction n with
  | zero => intro M v6 v1 v2 v3 v4 v5 c j; rfl
  | succ n ih =>
    intro M v6 v1 v2 v3 v4 v5 c j
    rw [xg_305_113]
    by_cases hz : v5 ≤ v6
    · rw [if_pos hz]
      first | done | exact rfl
    · rw [if_neg hz]
      first | done | exact (((ih)).trans (congrFun (congrFun ro_sJ_I _) _))
theorem xwJ_305_113 : ∀ {n : Nat} {M : ro_Mm} {v6 : Int32} {v1 : Int32} {v2 : Int32} {v3 : Int32} {v4 : Int32} {v5 : Int32} {c j : Nat} (n0 : c ≠ 193), (xg_305_113 n M v6 v1 v2 v3 v4 v5).2.2.2.1 c j = M.2.2.1 c j := by
  intro n
  induction n with
  | zero => intro M v6 v1 v2 v3 v4 v5 c j n0; rfl
  | succ n ih =>
    intro M v6 v1 v2 v3 v4 v5 c j n0
    rw [xg_305_113]
    by_cases hz : v5 ≤ v6
    · rw [if_pos hz]
      first | done | exact rfl
    · rw [if_neg hz]
      first | done | exact (((ih n0)).trans (ro_sJ_ne n0))
/-- a loop of RefusedOnceModel.shift(IIIII)I -/
noncomputable def xg_305_150 : Nat → ro_Mm → Int32 → Int32 → Int32 → Int32 → Int32 → Int32 → Int32 × ro_Mm
  | 0, M, v6, v1, v2, v3, v4, v5 => (v6, M)
  | n + 1, M, v6, v1, v2, v3, v4, v5 => (if v5 ≤ v6 then (v6, M) else (xg_305_150 n (ro_sJ M 192 (((((60 : Int32) * v3) + v4) + v6).toNatClampNeg) (M.2.2.1 193 (v6.toNatClampNeg))) (v6 + (1 : Int32)) v1 v2 v3 v4 v5))
def xq_305_150 : Nat → ro_Mm → Int32 → Int32 → Int32 → Int32 → Int32 → Int32 → Prop
  | 0, _, _, _, _, _, _, _ => False
  | n + 1, M, v6, v1, v2, v3, v4, v5 => ((v5 ≤ v6 → True) ∧ (¬ (v5 ≤ v6) → (vp_in v6 60 ∧ (vp_in ((((60 : Int32) * v3) + v4) + v6) 360 ∧ (xq_305_150 n (ro_sJ M 192 (((((60 : Int32) * v3) + v4) + v6).toNatClampNeg) (M.2.2.1 193 (v6.toNatClampNeg))) (v6 + (1 : Int32)) v1 v2 v3 v4 v5)))))
theorem xt_305_150 {X : ro_Sx} {post : ro_Po} : ∀ (n : Nat) {M : ro_Mm} {v6 : Int32} {v1 : Int32} {v2 : Int32} {v3 : Int32} {v4 : Int32} {v5 : Int32} (hL : ro_lay M) (hp : xq_305_150 n M v6 v1 v2 v3 v4 v5) (hk : ro_w X 2 305 post 185 [(6, .int (xg_305_150 n M v6 v1 v2 v3 v4 v5).1), (0, .ref 163), (1, .int v1), (2, .int v2), (3, .int v3), (4, .int v4), (5, .int v5)] [] (xg_305_150 n M v6 v1 v2 v3 v4 v5).2 (0, 0)), ro_w X 2 305 post 150 [(6, .int v6), (0, .ref 163), (1, .int v1), (2, .int v2), (3, .int v3), (4, .int v4), (5, .int v5)] [] M (0, 0) := by
  intro n
  induction n with
  | zero => intro M v6 v1 v2 v3 v4 v5 hL hp hk; exact False.elim hp
  | succ n ih =>
    intro M v6 v1 v2 v3 v4 v5 hL hp hk
    rw [xq_305_150] at hp
    refine rs_iload ri_305_150 rfl rfl ?_
    refine rs_iload ri_305_152 rfl rfl ?_
    refine rs_icmp_ge (t := 185) ri_305_154 rfl rfl (fun h23 => ?_) (fun h23 => ?_)
    · skip
      have e : xg_305_150 (n + 1) M v6 v1 v2 v3 v4 v5 = (v6, M) := by rw [xg_305_150]; first | (simp only [if_pos h23]; done) | rfl
      rw [e] at hk
      exact ro_w_lv (ro_sub_c rfl (ro_sub_c rfl (ro_sub_c rfl (ro_sub_c rfl (ro_sub_c rfl (ro_sub_c rfl (ro_sub_c rfl (ro_sub_n rfl)))))))) hk
    · have hp := hp.2 h23
      refine rs_aload_n ri_305_157 rfl rfl ?_
      refine rs_gf (v := .ref 192) ri_305_158 rfl (by decide) (ro_kf (kd_163 hL)) rfl (rf_163_55 hL) ?_
      refine rs_bipush (v := (60 : Int32)) ri_305_161 rfl (by decide) ?_
      refine rs_iload_n ri_305_163 rfl rfl ?_
      refine rs_imul (r := ((60 : Int32) * v3)) ri_305_164 rfl rfl ?_
      refine rs_iload ri_305_165 rfl rfl ?_
      refine rs_iadd (r := (((60 : Int32) * v3) + v4)) ri_305_167 rfl rfl ?_
      refine rs_iload ri_305_168 rfl rfl ?_
      refine rs_iadd (r := ((((60 : Int32) * v3) + v4) + v6)) ri_305_170 rfl rfl ?_
      refine rs_aload_n ri_305_171 rfl rfl ?_
      refine rs_gf (v := .ref 193) ri_305_172 rfl (by decide) (ro_kf (kd_163 hL)) rfl (rf_163_56 hL) ?_
      refine rs_iload ri_305_175 rfl rfl ?_
      obtain ⟨q23, hp⟩ := hp
      refine rs_lald (v := (M.2.2.1 193 (v6.toNatClampNeg))) ri_305_177 rfl (by decide) (kd_193 hL) q23 rfl ?_
      obtain ⟨q24, hp⟩ := hp
      refine rs_last (j := ((((60 : Int32) * v3) + v4) + v6).toNatClampNeg) ri_305_178 rfl (by decide) (kd_192 hL) q24 rfl ?_
      refine rs_iinc (v := (v6 + (1 : Int32))) (lv2 := [(6, .int (v6 + (1 : Int32))), (0, .ref 163), (1, .int v1), (2, .int v2), (3, .int v3), (4, .int v4), (5, .int v5)]) ri_305_179 rfl rfl rfl rm_305.1 (by decide) rfl ?_
      refine rs_goto (t := 150) ri_305_182 rfl ?_
      have e : xg_305_150 (n + 1) M v6 v1 v2 v3 v4 v5 = xg_305_150 n (ro_sJ M 192 (((((60 : Int32) * v3) + v4) + v6).toNatClampNeg) (M.2.2.1 193 (v6.toNatClampNeg))) (v6 + (1 : Int32)) v1 v2 v3 v4 v5 := by rw [xg_305_150]; first | (simp only [if_neg h23]; done) | rfl
      rw [e] at hk
      exact ro_w_lv (ro_sub_c rfl (ro_sub_c rfl (ro_sub_c rfl (ro_sub_c rfl (ro_sub_c rfl (ro_sub_c rfl (ro_sub_c rfl (ro_sub_n rfl)))))))) (ih hL  hp hk)
theorem xl_305_150 : ∀ (n : Nat) {M : ro_Mm} {v6 : Int32} {v1 : Int32} {v2 : Int32} {v3 : Int32} {v4 : Int32} {v5 : Int32} (hL : ro_lay M) (hp : xq_305_150 n M v6 v1 v2 v3 v4 v5), ro_lay (xg_305_150 n M v6 v1 v2 v3 v4 v5).2 := by
  intro n
  induction n with
  | zero => intro M v6 v1 v2 v3 v4 v5 hL hp; exact False.elim hp
  | succ n ih =>
    intro M v6 v1 v2 v3 v4 v5 hL hp
    rw [xq_305_150] at hp
    rw [xg_305_150]
    by_cases hz : v5 ≤ v6
    · have hp := hp.1 hz
      rw [if_pos hz]
      exact hL
    · have hp := hp.2 hz
      rw [if_neg hz]
      obtain ⟨q23, hp⟩ := hp
      obtain ⟨q24, hp⟩ := hp
      exact ih hL  hp
theorem xwI_305_150 : ∀ {n : Nat} {M : ro_Mm} {v6 : Int32} {v1 : Int32} {v2 : Int32} {v3 : Int32} {v4 : Int32} {v5 : Int32} {c j : Nat}, (xg_305_150 n M v6 v1 v2 v3 v4 v5).2.2.1 c j = M.2.1 c j := by
  intro n
  induction n with
  | zero => intro M v6 v1 v2 v3 v4 v5 c j; rfl
  | succ n ih =>
    intro M v6 v1 v2 v3 v4 v5 c j
    rw [xg_305_150]
    by_cases hz : v5 ≤ v6
    · rw [if_pos hz]
      first | done | exact rfl
    · rw [if_neg hz]
      first | done | exact (((ih)).trans (congrFun (congrFun ro_sJ_I _) _))
theorem xwJ_305_150 : ∀ {n : Nat} {M : ro_Mm} {v6 : Int32} {v1 : Int32} {v2 : Int32} {v3 : Int32} {v4 : Int32} {v5 : Int32} {c j : Nat} (n0 : c ≠ 192), (xg_305_150 n M v6 v1 v2 v3 v4 v5).2.2.2.1 c j = M.2.2.1 c j := by
  intro n
  induction n with
  | zero => intro M v6 v1 v2 v3 v4 v5 c j n0; rfl
  | succ n ih =>
    intro M v6 v1 v2 v3 v4 v5 c j n0
    rw [xg_305_150]
    by_cases hz : v5 ≤ v6
    · rw [if_pos hz]
      first | done | exact rfl
    · rw [if_neg hz]
      first | done | exact (((ih n0)).trans (ro_sJ_ne n0))
/-- RefusedOnceModel.shift(IIIII)I -/
noncomputable def xf_305 (M : ro_Mm) (v1 : Int32) (v2 : Int32) (v3 : Int32) (v4 : Int32) (v5 : Int32) : Int32 := (if (xf_198 M v1) then (if (xf_198 M v3) then (if (M.2.1 190 (v1.toNatClampNeg)) = (-1 : Int32) then (-11 : Int32) else (if (M.2.1 190 (v3.toNatClampNeg)) = (-1 : Int32) then (-11 : Int32) else (if (0 : Int32) ≤ (M.2.1 190 (v1.toNatClampNeg)) then (-12 : Int32) else (if (M.2.1 190 (v1.toNatClampNeg)) = (M.2.1 190 (v3.toNatClampNeg)) then (if v5 < (0 : Int32) then (-13 : Int32) else (if v2 < (0 : Int32) then (-13 : Int32) else (if v4 < (0 : Int32) then (-13 : Int32) else (if ((M.2.1 191 (v1.toNatClampNeg)) - v5) < v2 then (-13 : Int32) else (if v4 ≤ ((M.2.1 191 (v3.toNatClampNeg)) - v5) then v5 else (-13 : Int32)))))) else (-12 : Int32))))) else (-1 : Int32)) else (-1 : Int32))
noncomputable def xm_305 (M : ro_Mm) (v1 : Int32) (v2 : Int32) (v3 : Int32) (v4 : Int32) (v5 : Int32) : ro_Mm := (if (xf_198 M v1) then (if (xf_198 M v3) then (if (M.2.1 190 (v1.toNatClampNeg)) = (-1 : Int32) then M else (if (M.2.1 190 (v3.toNatClampNeg)) = (-1 : Int32) then M else (if (0 : Int32) ≤ (M.2.1 190 (v1.toNatClampNeg)) then M else (if (M.2.1 190 (v1.toNatClampNeg)) = (M.2.1 190 (v3.toNatClampNeg)) then (if v5 < (0 : Int32) then M else (if v2 < (0 : Int32) then M else (if v4 < (0 : Int32) then M else (if ((M.2.1 191 (v1.toNatClampNeg)) - v5) < v2 then M else (if v4 ≤ ((M.2.1 191 (v3.toNatClampNeg)) - v5) then (xg_305_150 lp_N (xg_305_113 lp_N M (0 : Int32) v1 v2 v3 v4 v5).2 (0 : Int32) v1 v2 v3 v4 v5).2 else M))))) else M)))) else M) else M)
def xp_305 (M : ro_Mm) (v1 : Int32) (v2 : Int32) (v3 : Int32) (v4 : Int32) (v5 : Int32) : Prop := (((xf_198 M v1) → (((xf_198 M v3) → (vp_in v1 6 ∧ (((M.2.1 190 (v1.toNatClampNeg)) = (-1 : Int32) → True) ∧ (¬ ((M.2.1 190 (v1.toNatClampNeg)) = (-1 : Int32)) → (vp_in v3 6 ∧ (((M.2.1 190 (v3.toNatClampNeg)) = (-1 : Int32) → True) ∧ (¬ ((M.2.1 190 (v3.toNatClampNeg)) = (-1 : Int32)) → (vp_in v1 6 ∧ (((0 : Int32) ≤ (M.2.1 190 (v1.toNatClampNeg)) → True) ∧ (¬ ((0 : Int32) ≤ (M.2.1 190 (v1.toNatClampNeg))) → (vp_in v1 6 ∧ (vp_in v3 6 ∧ (((M.2.1 190 (v1.toNatClampNeg)) = (M.2.1 190 (v3.toNatClampNeg)) → ((v5 < (0 : Int32) → True) ∧ (¬ (v5 < (0 : Int32)) → ((v2 < (0 : Int32) → True) ∧ (¬ (v2 < (0 : Int32)) → ((v4 < (0 : Int32) → True) ∧ (¬ (v4 < (0 : Int32)) → (vp_in v1 6 ∧ ((((M.2.1 191 (v1.toNatClampNeg)) - v5) < v2 → True) ∧ (¬ (((M.2.1 191 (v1.toNatClampNeg)) - v5) < v2) → (vp_in v3 6 ∧ ((v4 ≤ ((M.2.1 191 (v3.toNatClampNeg)) - v5) → (xq_305_113 lp_N M (0 : Int32) v1 v2 v3 v4 v5 ∧ (xq_305_150 lp_N (xg_305_113 lp_N M (0 : Int32) v1 v2 v3 v4 v5).2 (0 : Int32) v1 v2 v3 v4 v5 ∧ True))) ∧ (¬ (v4 ≤ ((M.2.1 191 (v3.toNatClampNeg)) - v5)) → True))))))))))))) ∧ (¬ ((M.2.1 190 (v1.toNatClampNeg)) = (M.2.1 190 (v3.toNatClampNeg))) → True)))))))))))))) ∧ (¬ ((xf_198 M v3)) → True))) ∧ (¬ ((xf_198 M v1)) → True))
theorem xs_305 {X : ro_Sx} {M : ro_Mm} {v1 : Int32} {v2 : Int32} {v3 : Int32} {v4 : Int32} {v5 : Int32} (hL : ro_lay M) (hp : xp_305 M v1 v2 v3 v4 v5) : ro_cwp X 3 305 [.ref 163, .int v1, .int v2, .int v3, .int v4, .int v5] M (fun v M2 => v = some (.int (xf_305 M v1 v2 v3 v4 v5)) ∧ M2 = xm_305 M v1 v2 v3 v4 v5) := by
  refine rs_begin (lv0 := [(0, .ref 163), (1, .int v1), (2, .int v2), (3, .int v3), (4, .int v4), (5, .int v5)]) (by decide) rfl (by rw [rm_305.1]; exact Nat.le_of_ble_eq_true rfl) rfl ?_
  unfold xp_305 at hp
  refine rs_iload_n ri_305_0 rfl rfl ?_
  refine rs_stat (As := [.int v1]) (r := []) ri_305_1 rfl rm_198.2.2.2 rfl rfl rfl (Nat.le_of_ble_eq_true rfl) (by decide) (by decide) (xs_198 (X := X) hL) ?_
  rintro _ _ ⟨e1, e2⟩
  rw [e1, e2]
  show ro_w X _ 305 _ 4 [(0, .ref 163), (1, .int v1), (2, .int v2), (3, .int v3), (4, .int v4), (5, .int v5)] [.int (ro_b (xf_198 M v1))] M (0, 0)
  refine rs_ifeq_c (t := 14) ri_305_4 rfl rfl (fun h1 => ?_) (fun h1 => ?_)
  · have hp := hp.2 h1
    refine rs_iconst (v := (-1 : Int32)) ri_305_14 rfl (by decide) ?_
    refine rs_iret ri_305_15 rm_305.2.1 (by decide) ?_
    exact ⟨by unfold xf_305; first | (simp only [if_neg h1]; done) | rfl, by unfold xm_305; first | (simp only [if_neg h1]; done) | rfl⟩
  · have hp := hp.1 h1
    refine rs_iload_n ri_305_7 rfl rfl ?_
    refine rs_stat (As := [.int v3]) (r := []) ri_305_8 rfl rm_198.2.2.2 rfl rfl rfl (Nat.le_of_ble_eq_true rfl) (by decide) (by decide) (xs_198 (X := X) hL) ?_
    rintro _ _ ⟨e1, e2⟩
    rw [e1, e2]
    show ro_w X _ 305 _ 11 [(0, .ref 163), (1, .int v1), (2, .int v2), (3, .int v3), (4, .int v4), (5, .int v5)] [.int (ro_b (xf_198 M v3))] M (0, 0)
    refine rs_ifne_c (t := 16) ri_305_11 rfl rfl (fun h2 => ?_) (fun h2 => ?_)
    · have hp := hp.1 h2
      refine rs_aload_n ri_305_16 rfl rfl ?_
      refine rs_gf (v := .ref 190) ri_305_17 rfl (by decide) (ro_kf (kd_163 hL)) rfl (rf_163_53 hL) ?_
      refine rs_iload_n ri_305_20 rfl rfl ?_
      obtain ⟨q2, hp⟩ := hp
      refine rs_iald (v := (M.2.1 190 (v1.toNatClampNeg))) ri_305_21 rfl (by decide) (kd_190 hL) q2 rfl ?_
      refine rs_iconst (v := (-1 : Int32)) ri_305_22 rfl (by decide) ?_
      refine rs_icmp_eq (t := 36) ri_305_23 rfl rfl (fun h4 => ?_) (fun h4 => ?_)
      · have hp := hp.1 h4
        refine rs_bipush (v := (-11 : Int32)) ri_305_36 rfl (by decide) ?_
        refine rs_iret ri_305_38 rm_305.2.1 (by decide) ?_
        exact ⟨by unfold xf_305; first | (simp only [if_pos h1, if_pos h2, if_pos h4]; done) | rfl, by unfold xm_305; first | (simp only [if_pos h1, if_pos h2, if_pos h4]; done) | rfl⟩
      · have hp := hp.2 h4
        refine rs_aload_n ri_305_26 rfl rfl ?_
        refine rs_gf (v := .ref 190) ri_305_27 rfl (by decide) (ro_kf (kd_163 hL)) rfl (rf_163_53 hL) ?_
        refine rs_iload_n ri_305_30 rfl rfl ?_
        obtain ⟨q4, hp⟩ := hp
        refine rs_iald (v := (M.2.1 190 (v3.toNatClampNeg))) ri_305_31 rfl (by decide) (kd_190 hL) q4 rfl ?_
        refine rs_iconst (v := (-1 : Int32)) ri_305_32 rfl (by decide) ?_
        refine rs_icmp_ne (t := 39) ri_305_33 rfl rfl (fun h6 => ?_) (fun h6 => ?_)
        · have hp := hp.2 h6
          refine rs_aload_n ri_305_39 rfl rfl ?_
          refine rs_gf (v := .ref 190) ri_305_40 rfl (by decide) (ro_kf (kd_163 hL)) rfl (rf_163_53 hL) ?_
          refine rs_iload_n ri_305_43 rfl rfl ?_
          obtain ⟨q6, hp⟩ := hp
          refine rs_iald (v := (M.2.1 190 (v1.toNatClampNeg))) ri_305_44 rfl (by decide) (kd_190 hL) q6 rfl ?_
          refine rs_if_ge (t := 63) ri_305_45 rfl rfl (fun h8 => ?_) (fun h8 => ?_)
          · have hp := hp.1 h8
            refine rs_bipush (v := (-12 : Int32)) ri_305_63 rfl (by decide) ?_
            refine rs_iret ri_305_65 rm_305.2.1 (by decide) ?_
            exact ⟨by unfold xf_305; first | (simp only [if_pos h1, if_pos h2, if_neg h4, if_neg h6, if_pos h8]; done) | rfl, by unfold xm_305; first | (simp only [if_pos h1, if_pos h2, if_neg h4, if_neg h6, if_pos h8]; done) | rfl⟩
          · have hp := hp.2 h8
            refine rs_aload_n ri_305_48 rfl rfl ?_
            refine rs_gf (v := .ref 190) ri_305_49 rfl (by decide) (ro_kf (kd_163 hL)) rfl (rf_163_53 hL) ?_
            refine rs_iload_n ri_305_52 rfl rfl ?_
            obtain ⟨q8, hp⟩ := hp
            refine rs_iald (v := (M.2.1 190 (v1.toNatClampNeg))) ri_305_53 rfl (by decide) (kd_190 hL) q8 rfl ?_
            refine rs_aload_n ri_305_54 rfl rfl ?_
            refine rs_gf (v := .ref 190) ri_305_55 rfl (by decide) (ro_kf (kd_163 hL)) rfl (rf_163_53 hL) ?_
            refine rs_iload_n ri_305_58 rfl rfl ?_
            obtain ⟨q9, hp⟩ := hp
            refine rs_iald (v := (M.2.1 190 (v3.toNatClampNeg))) ri_305_59 rfl (by decide) (kd_190 hL) q9 rfl ?_
            refine rs_icmp_eq (t := 66) ri_305_60 rfl rfl (fun h11 => ?_) (fun h11 => ?_)
            · have hp := hp.1 h11
              refine rs_iload ri_305_66 rfl rfl ?_
              refine rs_if_lt (t := 107) ri_305_68 rfl rfl (fun h12 => ?_) (fun h12 => ?_)
              · have hp := hp.1 h12
                refine rs_bipush (v := (-13 : Int32)) ri_305_107 rfl (by decide) ?_
                refine rs_iret ri_305_109 rm_305.2.1 (by decide) ?_
                exact ⟨by unfold xf_305; first | (simp only [if_pos h1, if_pos h2, if_neg h4, if_neg h6, if_neg h8, if_pos h11, if_pos h12]; done) | rfl, by unfold xm_305; first | (simp only [if_pos h1, if_pos h2, if_neg h4, if_neg h6, if_neg h8, if_pos h11, if_pos h12]; done) | rfl⟩
              · have hp := hp.2 h12
                refine rs_iload_n ri_305_71 rfl rfl ?_
                refine rs_if_lt (t := 107) ri_305_72 rfl rfl (fun h13 => ?_) (fun h13 => ?_)
                · have hp := hp.1 h13
                  refine rs_bipush (v := (-13 : Int32)) ri_305_107 rfl (by decide) ?_
                  refine rs_iret ri_305_109 rm_305.2.1 (by decide) ?_
                  exact ⟨by unfold xf_305; first | (simp only [if_pos h1, if_pos h2, if_neg h4, if_neg h6, if_neg h8, if_pos h11, if_neg h12, if_pos h13]; done) | rfl, by unfold xm_305; first | (simp only [if_pos h1, if_pos h2, if_neg h4, if_neg h6, if_neg h8, if_pos h11, if_neg h12, if_pos h13]; done) | rfl⟩
                · have hp := hp.2 h13
                  refine rs_iload ri_305_75 rfl rfl ?_
                  refine rs_if_lt (t := 107) ri_305_77 rfl rfl (fun h14 => ?_) (fun h14 => ?_)
                  · have hp := hp.1 h14
                    refine rs_bipush (v := (-13 : Int32)) ri_305_107 rfl (by decide) ?_
                    refine rs_iret ri_305_109 rm_305.2.1 (by decide) ?_
                    exact ⟨by unfold xf_305; first | (simp only [if_pos h1, if_pos h2, if_neg h4, if_neg h6, if_neg h8, if_pos h11, if_neg h12, if_neg h13, if_pos h14]; done) | rfl, by unfold xm_305; first | (simp only [if_pos h1, if_pos h2, if_neg h4, if_neg h6, if_neg h8, if_pos h11, if_neg h12, if_neg h13, if_pos h14]; done) | rfl⟩
                  · have hp := hp.2 h14
                    refine rs_iload_n ri_305_80 rfl rfl ?_
                    refine rs_aload_n ri_305_81 rfl rfl ?_
                    refine rs_gf (v := .ref 191) ri_305_82 rfl (by decide) (ro_kf (kd_163 hL)) rfl (rf_163_54 hL) ?_
                    refine rs_iload_n ri_305_85 rfl rfl ?_
                    obtain ⟨q14, hp⟩ := hp
                    refine rs_iald (v := (M.2.1 191 (v1.toNatClampNeg))) ri_305_86 rfl (by decide) (kd_191 hL) q14 rfl ?_
                    refine rs_iload ri_305_87 rfl rfl ?_
                    refine rs_isub (r := ((M.2.1 191 (v1.toNatClampNeg)) - v5)) ri_305_89 rfl rfl ?_
                    refine rs_icmp_gt (t := 107) ri_305_90 rfl rfl (fun h16 => ?_) (fun h16 => ?_)
                    · have hp := hp.1 h16
                      refine rs_bipush (v := (-13 : Int32)) ri_305_107 rfl (by decide) ?_
                      refine rs_iret ri_305_109 rm_305.2.1 (by decide) ?_
                      exact ⟨by unfold xf_305; first | (simp only [if_pos h1, if_pos h2, if_neg h4, if_neg h6, if_neg h8, if_pos h11, if_neg h12, if_neg h13, if_neg h14, if_pos h16]; done) | rfl, by unfold xm_305; first | (simp only [if_pos h1, if_pos h2, if_neg h4, if_neg h6, if_neg h8, if_pos h11, if_neg h12, if_neg h13, if_neg h14, if_pos h16]; done) | rfl⟩
                    · have hp := hp.2 h16
                      refine rs_iload ri_305_93 rfl rfl ?_
                      refine rs_aload_n ri_305_95 rfl rfl ?_
                      refine rs_gf (v := .ref 191) ri_305_96 rfl (by decide) (ro_kf (kd_163 hL)) rfl (rf_163_54 hL) ?_
                      refine rs_iload_n ri_305_99 rfl rfl ?_
                      obtain ⟨q16, hp⟩ := hp
                      refine rs_iald (v := (M.2.1 191 (v3.toNatClampNeg))) ri_305_100 rfl (by decide) (kd_191 hL) q16 rfl ?_
                      refine rs_iload ri_305_101 rfl rfl ?_
                      refine rs_isub (r := ((M.2.1 191 (v3.toNatClampNeg)) - v5)) ri_305_103 rfl rfl ?_
                      refine rs_icmp_le (t := 110) ri_305_104 rfl rfl (fun h18 => ?_) (fun h18 => ?_)
                      · have hp := hp.1 h18
                        refine rs_iconst (v := (0 : Int32)) ri_305_110 rfl (by decide) ?_
                        refine rs_istore (lv2 := [(6, .int (0 : Int32)), (0, .ref 163), (1, .int v1), (2, .int v2), (3, .int v3), (4, .int v4), (5, .int v5)]) ri_305_111 rfl rm_305.1 (by decide) rfl ?_
                        obtain ⟨q21, hp⟩ := hp
                        refine xt_305_113 lp_N hL q21 ?_
                        refine rs_iconst (v := (0 : Int32)) ri_305_147 rfl (by decide) ?_
                        refine rs_istore (lv2 := [(6, .int (0 : Int32)), (0, .ref 163), (1, .int v1), (2, .int v2), (3, .int v3), (4, .int v4), (5, .int v5)]) ri_305_148 rfl rm_305.1 (by decide) rfl ?_
                        obtain ⟨q25, hp⟩ := hp
                        refine xt_305_150 lp_N (xl_305_113 lp_N hL q21) q25 ?_
                        refine rs_iload ri_305_185 rfl rfl ?_
                        refine rs_iret ri_305_187 rm_305.2.1 (by decide) ?_
                        exact ⟨by unfold xf_305; first | (simp only [if_pos h1, if_pos h2, if_neg h4, if_neg h6, if_neg h8, if_pos h11, if_neg h12, if_neg h13, if_neg h14, if_neg h16, if_pos h18]; done) | rfl, by unfold xm_305; first | (simp only [if_pos h1, if_pos h2, if_neg h4, if_neg h6, if_neg h8, if_pos h11, if_neg h12, if_neg h13, if_neg h14, if_neg h16, if_pos h18]; done) | rfl⟩
                      · have hp := hp.2 h18
                        refine rs_bipush (v := (-13 : Int32)) ri_305_107 rfl (by decide) ?_
                        refine rs_iret ri_305_109 rm_305.2.1 (by decide) ?_
                        exact ⟨by unfold xf_305; first | (simp only [if_pos h1, if_pos h2, if_neg h4, if_neg h6, if_neg h8, if_pos h11, if_neg h12, if_neg h13, if_neg h14, if_neg h16, if_neg h18]; done) | rfl, by unfold xm_305; first | (simp only [if_pos h1, if_pos h2, if_neg h4, if_neg h6, if_neg h8, if_pos h11, if_neg h12, if_neg h13, if_neg h14, if_neg h16, if_neg h18]; done) | rfl⟩
            · have hp := hp.2 h11
              refine rs_bipush (v := (-12 : Int32)) ri_305_63 rfl (by decide) ?_
              refine rs_iret ri_305_65 rm_305.2.1 (by decide) ?_
              exact ⟨by unfold xf_305; first | (simp only [if_pos h1, if_pos h2, if_neg h4, if_neg h6, if_neg h8, if_neg h11]; done) | rfl, by unfold xm_305; first | (simp only [if_pos h1, if_pos h2, if_neg h4, if_neg h6, if_neg h8, if_neg h11]; done) | rfl⟩
        · have hp := hp.1 h6
          refine rs_bipush (v := (-11 : Int32)) ri_305_36 rfl (by decide) ?_
          refine rs_iret ri_305_38 rm_305.2.1 (by decide) ?_
          exact ⟨by unfold xf_305; first | (simp only [if_pos h1, if_pos h2, if_neg h4, if_pos h6]; done) | rfl, by unfold xm_305; first | (simp only [if_pos h1, if_pos h2, if_neg h4, if_pos h6]; done) | rfl⟩
    · have hp := hp.2 h2
      refine rs_iconst (v := (-1 : Int32)) ri_305_14 rfl (by decide) ?_
      refine rs_iret ri_305_15 rm_305.2.1 (by decide) ?_
      exact ⟨by unfold xf_305; first | (simp only [if_pos h1, if_neg h2]; done) | rfl, by unfold xm_305; first | (simp only [if_pos h1, if_neg h2]; done) | rfl⟩
theorem xl_305 {M : ro_Mm} {v1 : Int32} {v2 : Int32} {v3 : Int32} {v4 : Int32} {v5 : Int32} (hL : ro_lay M) (hp : xp_305 M v1 v2 v3 v4 v5) : ro_lay (xm_305 M v1 v2 v3 v4 v5) := by
  unfold xp_305 at hp
  unfold xm_305
  by_cases hz : (xf_198 M v1)
  · have hp := hp.1 hz
    rw [if_pos hz]
    by_cases hz : (xf_198 M v3)
    · have hp := hp.1 hz
      rw [if_pos hz]
      obtain ⟨q2, hp⟩ := hp
      by_cases hz : (M.2.1 190 (v1.toNatClampNeg)) = (-1 : Int32)
      · have hp := hp.1 hz
        rw [if_pos hz]
        exact hL
      · have hp := hp.2 hz
        rw [if_neg hz]
        obtain ⟨q4, hp⟩ := hp
        by_cases hz : (M.2.1 190 (v3.toNatClampNeg)) = (-1 : Int32)
        · have hp := hp.1 hz
          rw [if_pos hz]
          exact hL
        · have hp := hp.2 hz
          rw [if_neg hz]
          obtain ⟨q6, hp⟩ := hp
          by_cases hz : (0 : Int32) ≤ (M.2.1 190 (v1.toNatClampNeg))
          · have hp := hp.1 hz
            rw [if_pos hz]
            exact hL
          · have hp := hp.2 hz
            rw [if_neg hz]
            obtain ⟨q8, hp⟩ := hp
            obtain ⟨q9, hp⟩ := hp
            by_cases hz : (M.2.1 190 (v1.toNatClampNeg)) = (M.2.1 190 (v3.toNatClampNeg))
            · have hp := hp.1 hz
              rw [if_pos hz]
              by_cases hz : v5 < (0 : Int32)
              · have hp := hp.1 hz
                rw [if_pos hz]
                exact hL
              · have hp := hp.2 hz
                rw [if_neg hz]
                by_cases hz : v2 < (0 : Int32)
                · have hp := hp.1 hz
                  rw [if_pos hz]
                  exact hL
                · have hp := hp.2 hz
                  rw [if_neg hz]
                  by_cases hz : v4 < (0 : Int32)
                  · have hp := hp.1 hz
                    rw [if_pos hz]
                    exact hL
                  · have hp := hp.2 hz
                    rw [if_neg hz]
                    obtain ⟨q14, hp⟩ := hp
                    by_cases hz : ((M.2.1 191 (v1.toNatClampNeg)) - v5) < v2
                    · have hp := hp.1 hz
                      rw [if_pos hz]
                      exact hL
                    · have hp := hp.2 hz
                      rw [if_neg hz]
                      obtain ⟨q16, hp⟩ := hp
                      by_cases hz : v4 ≤ ((M.2.1 191 (v3.toNatClampNeg)) - v5)
                      · have hp := hp.1 hz
                        rw [if_pos hz]
                        obtain ⟨q21, hp⟩ := hp
                        obtain ⟨q25, hp⟩ := hp
                        exact (xl_305_150 lp_N (xl_305_113 lp_N hL q21) q25)
                      · have hp := hp.2 hz
                        rw [if_neg hz]
                        exact hL
            · have hp := hp.2 hz
              rw [if_neg hz]
              exact hL
    · have hp := hp.2 hz
      rw [if_neg hz]
      exact hL
  · have hp := hp.2 hz
    rw [if_neg hz]
    exact hL
theorem xwI_305 {M : ro_Mm} {v1 : Int32} {v2 : Int32} {v3 : Int32} {v4 : Int32} {v5 : Int32} {c j : Nat} : (xm_305 M v1 v2 v3 v4 v5).2.1 c j = M.2.1 c j := by
  unfold xm_305
  by_cases hz : (xf_198 M v1)
  · rw [if_pos hz]
    by_cases hz : (xf_198 M v3)
    · rw [if_pos hz]
      by_cases hz : (M.2.1 190 (v1.toNatClampNeg)) = (-1 : Int32)
      · rw [if_pos hz]
        first | done | exact rfl
      · rw [if_neg hz]
        by_cases hz : (M.2.1 190 (v3.toNatClampNeg)) = (-1 : Int32)
        · rw [if_pos hz]
          first | done | exact rfl
        · rw [if_neg hz]
          by_cases hz : (0 : Int32) ≤ (M.2.1 190 (v1.toNatClampNeg))
          · rw [if_pos hz]
            first | done | exact rfl
          · rw [if_neg hz]
            by_cases hz : (M.2.1 190 (v1.toNatClampNeg)) = (M.2.1 190 (v3.toNatClampNeg))
            · rw [if_pos hz]
              by_cases hz : v5 < (0 : Int32)
              · rw [if_pos hz]
                first | done | exact rfl
              · rw [if_neg hz]
                by_cases hz : v2 < (0 : Int32)
                · rw [if_pos hz]
                  first | done | exact rfl
                · rw [if_neg hz]
                  by_cases hz : v4 < (0 : Int32)
                  · rw [if_pos hz]
                    first | done | exact rfl
                  · rw [if_neg hz]
                    by_cases hz : ((M.2.1 191 (v1.toNatClampNeg)) - v5) < v2
                    · rw [if_pos hz]
                      first | done | exact rfl
                    · rw [if_neg hz]
                      by_cases hz : v4 ≤ ((M.2.1 191 (v3.toNatClampNeg)) - v5)
                      · rw [if_pos hz]
                        first | done | exact (((xwI_305_150)).trans (xwI_305_113))
                      · rw [if_neg hz]
                        first | done | exact rfl
            · rw [if_neg hz]
              first | done | exact rfl
    · rw [if_neg hz]
      first | done | exact rfl
  · rw [if_neg hz]
    first | done | exact rfl
theorem xwJ_305 {M : ro_Mm} {v1 : Int32} {v2 : Int32} {v3 : Int32} {v4 : Int32} {v5 : Int32} {c j : Nat} (n0 : c ≠ 193) (n1 : c ≠ 192) : (xm_305 M v1 v2 v3 v4 v5).2.2.1 c j = M.2.2.1 c j := by
  unfold xm_305
  by_cases hz : (xf_198 M v1)
  · rw [if_pos hz]
    by_cases hz : (xf_198 M v3)
    · rw [if_pos hz]
      by_cases hz : (M.2.1 190 (v1.toNatClampNeg)) = (-1 : Int32)
      · rw [if_pos hz]
        first | done | exact rfl
      · rw [if_neg hz]
        by_cases hz : (M.2.1 190 (v3.toNatClampNeg)) = (-1 : Int32)
        · rw [if_pos hz]
          first | done | exact rfl
        · rw [if_neg hz]
          by_cases hz : (0 : Int32) ≤ (M.2.1 190 (v1.toNatClampNeg))
          · rw [if_pos hz]
            first | done | exact rfl
          · rw [if_neg hz]
            by_cases hz : (M.2.1 190 (v1.toNatClampNeg)) = (M.2.1 190 (v3.toNatClampNeg))
            · rw [if_pos hz]
              by_cases hz : v5 < (0 : Int32)
              · rw [if_pos hz]
                first | done | exact rfl
              · rw [if_neg hz]
                by_cases hz : v2 < (0 : Int32)
                · rw [if_pos hz]
                  first | done | exact rfl
                · rw [if_neg hz]
                  by_cases hz : v4 < (0 : Int32)
                  · rw [if_pos hz]
                    first | done | exact rfl
                  · rw [if_neg hz]
                    by_cases hz : ((M.2.1 191 (v1.toNatClampNeg)) - v5) < v2
                    · rw [if_pos hz]
                      first | done | exact rfl
                    · rw [if_neg hz]
                      by_cases hz : v4 ≤ ((M.2.1 191 (v3.toNatClampNeg)) - v5)
                      · rw [if_pos hz]
                        first | done | exact (((xwJ_305_150 n1)).trans (xwJ_305_113 n0))
                      · rw [if_neg hz]
                        first | done | exact rfl
            · rw [if_neg hz]
              first | done | exact rfl
    · rw [if_neg hz]
      first | done | exact rfl
  · rw [if_neg hz]
    first | done | exact rfl
