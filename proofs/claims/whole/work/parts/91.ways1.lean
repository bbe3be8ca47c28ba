/-! the ways behind an evening: rows of grids, the two levels (by program, wip/whole/walk4.py, mk91.py) -/
def ro_lw (M : ro_Mm) : Prop := ro_lay M ∧ ro_lev M
/-- the level come from, the level come to -/
def lft (M : ro_Mm) : Nat := match M.2.2.2 62 8 with
  | .ref c => c
  | _ => 0
def lnt (M : ro_Mm) : Nat := match M.2.2.2 62 9 with
  | .ref c => c
  | _ => 0
theorem lft_r {M : ro_Mm} (h : ro_lw M) : M.2.2.2 62 8 = .ref (lft M) := by
  unfold lft
  rcases h.2 with ⟨a, _⟩ | ⟨a, _⟩ <;> rw [a]
theorem lnt_r {M : ro_Mm} (h : ro_lw M) : M.2.2.2 62 9 = .ref (lnt M) := by
  unfold lnt
  rcases h.2 with ⟨_, a⟩ | ⟨_, a⟩ <;> rw [a]
theorem lft_il {M : ro_Mm} (h : ro_lw M) : ro_il (lft M) := by
  unfold lft ro_il
  rcases h.2 with ⟨a, _⟩ | ⟨a, _⟩ <;> rw [a]
  · exact Or.inl rfl
  · exact Or.inr rfl
theorem lnt_il {M : ro_Mm} (h : ro_lw M) : ro_il (lnt M) := by
  unfold lnt ro_il
  rcases h.2 with ⟨_, a⟩ | ⟨_, a⟩ <;> rw [a]
  · exact Or.inr rfl
  · exact Or.inl rfl
def ro_rw (c : Nat) : Prop := (64 ≤ c ∧ c ≤ 84) ∨ (86 ≤ c ∧ c ≤ 106) ∨ (108 ≤ c ∧ c ≤ 128) ∨ (130 ≤ c ∧ c ≤ 150)
theorem rw_4 {c : Nat} (h : ro_rw c) : 4 ≤ c := by unfold ro_rw at h; omega
theorem rw_b2 : (List.range 151).all (fun c => decide (c < 64) || (c == 85 || (c == 107 || (c == 129 || ro_sh.getD (c - 4) (99, 0) == (16, 12))))) = true := by decide +kernel
theorem rw_all (c : Nat) (h1 : c < 151) (h2 : 64 ≤ c) (h3 : c ≠ 85) (h4 : c ≠ 107) (h5 : c ≠ 129) : ro_sh.getD (c - 4) (99, 0) = (16, 12) := by
  have h := List.all_eq_true.mp rw_b2 c (List.mem_range.mpr h1)
  simp only [Bool.or_eq_true, decide_eq_true_eq, beq_iff_eq] at h
  rcases h with h | h | h | h | h
  · omega
  · exact absurd h h3
  · exact absurd h h4
  · exact absurd h h5
  · exact h
theorem rw_kd {M : ro_Mm} (hL : ro_lay M) {c : Nat} (h : ro_rw c) : ro_kd M c = (16, 12) := by
  rw [ro_kdl hL]; unfold ro_rw at h; exact rw_all c (by omega) (by omega) (by omega) (by omega) (by omega)
theorem rw_i64 {i : Int32} (h : vp_in i 21) : ro_rw (64 + i.toNatClampNeg) := by unfold vp_in at h; unfold ro_rw; omega
theorem rw_i86 {i : Int32} (h : vp_in i 21) : ro_rw (86 + i.toNatClampNeg) := by unfold vp_in at h; unfold ro_rw; omega
theorem rw_i108 {i : Int32} (h : vp_in i 21) : ro_rw (108 + i.toNatClampNeg) := by unfold vp_in at h; unfold ro_rw; omega
theorem rw_i130 {i : Int32} (h : vp_in i 21) : ro_rw (130 + i.toNatClampNeg) := by unfold vp_in at h; unfold ro_rw; omega
theorem rw_b1 : (List.range 21).all (fun i => ro_rt.contains (63, i, 64 + i) && (ro_rt.contains (85, i, 86 + i) && (ro_rt.contains (107, i, 108 + i) && ro_rt.contains (129, i, 130 + i)))) = true := by decide +kernel
theorem rw_rt (i : Nat) (hi : i < 21) : (63, i, 64 + i) ∈ ro_rt ∧ (85, i, 86 + i) ∈ ro_rt ∧ (107, i, 108 + i) ∈ ro_rt ∧ (129, i, 130 + i) ∈ ro_rt := by
  have h := List.all_eq_true.mp rw_b1 i (List.mem_range.mpr hi)
  simp only [Bool.and_eq_true, List.contains_iff_mem] at h
  exact h
theorem rw_lt {i : Int32} (h : vp_in i 21) : i.toNatClampNeg < 21 := by unfold vp_in at h; omega
theorem rw_r64 {M : ro_Mm} (hL : ro_lay M) {i : Int32} (h : vp_in i 21) : M.2.2.2 63 i.toNatClampNeg = .ref (64 + i.toNatClampNeg) := hL.2 _ (rw_rt _ (rw_lt h)).1
theorem rw_r86 {M : ro_Mm} (hL : ro_lay M) {i : Int32} (h : vp_in i 21) : M.2.2.2 85 i.toNatClampNeg = .ref (86 + i.toNatClampNeg) := hL.2 _ (rw_rt _ (rw_lt h)).2.1
theorem rw_r108 {M : ro_Mm} (hL : ro_lay M) {i : Int32} (h : vp_in i 21) : M.2.2.2 107 i.toNatClampNeg = .ref (108 + i.toNatClampNeg) := hL.2 _ (rw_rt _ (rw_lt h)).2.2.1
theorem rw_r130 {M : ro_Mm} (hL : ro_lay M) {i : Int32} (h : vp_in i 21) : M.2.2.2 129 i.toNatClampNeg = .ref (130 + i.toNatClampNeg) := hL.2 _ (rw_rt _ (rw_lt h)).2.2.2
/-- turning -/
def xm_133 (M : ro_Mm) : ro_Mm := ro_sR (ro_sR M 62 8 (.ref (lnt M))) 62 9 (.ref (lft M))
theorem xs_133 {X : ro_Sx} {M : ro_Mm} (hL : ro_lw M) : ro_cwp X 1 133 [.ref 62] M (fun v M2 => v = none ∧ M2 = xm_133 M) := by
  refine rs_begin (lv0 := [(0, .ref 62)]) (by decide) rfl (by rw [rm_133.1]; exact Nat.le_of_ble_eq_true rfl) rfl ?_
  refine rs_aload_n ri_133_0 rfl rfl ?_
  refine rs_gf (v := .ref (lft M)) ri_133_1 rfl (by decide) (ro_kf (kd_62 hL.1)) rfl (lft_r hL) ?_
  refine rs_astore_n (lv2 := [(1, .ref (lft M)), (0, .ref 62)]) ri_133_4 rfl rm_133.1 (by decide) rfl ?_
  refine rs_aload_n ri_133_5 rfl rfl ?_
  refine rs_aload_n ri_133_6 rfl rfl ?_
  refine rs_gf (v := .ref (lnt M)) ri_133_7 rfl (by decide) (ro_kf (kd_62 hL.1)) rfl (lnt_r hL) ?_
  refine rs_pf (M2 := ro_sR M 62 8 (.ref (lnt M))) ri_133_10 rfl (by decide) (ro_kf (kd_62 hL.1)) (fun h => absurd h (by decide)) (fun f h => h) ?_
  refine rs_aload_n ri_133_13 rfl rfl ?_
  refine rs_aload_n ri_133_14 rfl rfl ?_
  refine rs_pf (M2 := xm_133 M) ri_133_15 rfl (by decide) (by exact ro_kf (M := M) (kd_62 hL.1)) (fun h => absurd h (by decide)) (fun f h => h) ?_
  refine rs_ret ri_133_18 rm_133.2.1 (by decide) ?_
  exact ⟨rfl, rfl⟩
theorem rt_62 : ∀ e, e ∈ ro_rt → ¬ (e.1 = 62 ∧ (e.2.1 = 8 ∨ e.2.1 = 9)) := by decide +kernel
theorem xm133_8 {M : ro_Mm} : (xm_133 M).2.2.2 62 8 = .ref (lnt M) := by
  unfold xm_133 ro_sR ro_up2
  show (if (62 : Nat) = 62 ∧ (8 : Nat) = 9 then Value.ref (lft M) else if (62 : Nat) = 62 ∧ (8 : Nat) = 8 then Value.ref (lnt M) else M.2.2.2 62 8) = _
  rw [if_neg (by omega), if_pos (by omega)]
theorem xm133_9 {M : ro_Mm} : (xm_133 M).2.2.2 62 9 = .ref (lft M) := by
  unfold xm_133 ro_sR ro_up2
  show (if (62 : Nat) = 62 ∧ (9 : Nat) = 9 then Value.ref (lft M) else if (62 : Nat) = 62 ∧ (9 : Nat) = 8 then Value.ref (lnt M) else M.2.2.2 62 9) = _
  rw [if_pos (by omega)]
theorem xl_133 {M : ro_Mm} (hL : ro_lw M) : ro_lw (xm_133 M) := by
  refine ⟨⟨hL.1.1, fun e he => ?_⟩, ?_⟩
  · have h := rt_62 e he
    rw [← hL.1.2 e he]
    unfold xm_133 ro_sR ro_up2
    show (if e.1 = 62 ∧ e.2.1 = 9 then Value.ref (lft M) else if e.1 = 62 ∧ e.2.1 = 8 then Value.ref (lnt M) else M.2.2.2 e.1 e.2.1) = _
    rw [if_neg (by omega), if_neg (by omega)]
  · unfold ro_lev
    rw [xm133_8, xm133_9]
    unfold lft lnt
    rcases hL.2 with ⟨a, b⟩ | ⟨a, b⟩ <;> rw [a, b]
    · exact Or.inr ⟨rfl, rfl⟩
    · exact Or.inl ⟨rfl, rfl⟩
theorem cpI_lw {M : ro_Mm} {c0 c1 : Nat} {sp dp n : Int32} (h : ro_lw M) : ro_lw (ro_cpI M c0 sp c1 dp n) := h
theorem x66R {c : Nat} : ∀ (n : Nat) (A : ro_Mm), (xg_66_5 n A c).2.2.2.2 = A.2.2.2 := by
  intro n
  induction n with
  | zero => intro A; rfl
  | succ n ih =>
    intro A
    rw [xg_66_5]
    repeat' split
    all_goals first | rfl | exact ih _
theorem xlw_66 {M : ro_Mm} {c1 : Nat} (hL : ro_lw M) (hc1 : ro_is c1) (hp : xp_66 M c1) : ro_lw (xm_66 M c1) := ⟨xl_66 hL.1 hc1 hp, ro_lev_c hL.2 (x66R lp_N (ro_sI M 35 6 (0 : Int32)))⟩
/-- RefusedOnce$Ways.bound([I[IIIII)V -/
def xm_126 (M : ro_Mm) (c0 : Nat) (c1 : Nat) (v2 : Int32) (v3 : Int32) (v4 : Int32) (v5 : Int32) : ro_Mm := (if v2 < (0 : Int32) then M else (if (12 : Int32) ≤ v2 then M else (if v2 < (12 : Int32) then (if (ro_max (0 : Int32) ((M.2.1 c0 (v2.toNatClampNeg)) + v3)) ≤ (ro_min v5 ((M.2.1 c1 (v2.toNatClampNeg)) + v4)) then (ro_sI (ro_sI M c0 (v2.toNatClampNeg) (ro_max (0 : Int32) ((M.2.1 c0 (v2.toNatClampNeg)) + v3))) c1 (v2.toNatClampNeg) (ro_min v5 ((M.2.1 c1 (v2.toNatClampNeg)) + v4))) else (ro_sI (ro_sI M c0 (v2.toNatClampNeg) (99 : Int32)) c1 (v2.toNatClampNeg) (-99 : Int32))) else M)))
theorem xs_126 {X : ro_Sx} {M : ro_Mm} {c0 : Nat} {c1 : Nat} {v2 : Int32} {v3 : Int32} {v4 : Int32} {v5 : Int32} (hL : ro_lw M) (hc0 : ro_rw c0) (hc1 : ro_rw c1) : ro_cwp X 1 126 [.ref c0, .ref c1, .int v2, .int v3, .int v4, .int v5] M (fun v M2 => v = none ∧ M2 = xm_126 M c0 c1 v2 v3 v4 v5) := by
  refine rs_begin (lv0 := [(0, .ref c0), (1, .ref c1), (2, .int v2), (3, .int v3), (4, .int v4), (5, .int v5)]) (by decide) rfl (by rw [rm_126.1]; exact Nat.le_of_ble_eq_true rfl) rfl ?_
  refine rs_iload_n ri_126_0 rfl rfl ?_
  refine rs_if_lt (t := 16) ri_126_1 rfl rfl (fun h1 => ?_) (fun h1 => ?_)
  · skip
    refine rs_ret ri_126_16 rm_126.2.1 (by decide) ?_
    exact ⟨by rfl, by unfold xm_126; first | (simp only [if_pos h1]; done) | rfl⟩
  · skip
    refine rs_iload_n ri_126_4 rfl rfl ?_
    refine rs_aload_n ri_126_5 rfl rfl ?_
    refine rs_len (v := (12 : Int32)) ri_126_6 rfl (rw_4 hc0) (rw_kd hL.1 hc0) (by decide) rfl ?_
    refine rs_icmp_ge (t := 16) ri_126_7 rfl rfl (fun h2 => ?_) (fun h2 => ?_)
    · skip
      refine rs_ret ri_126_16 rm_126.2.1 (by decide) ?_
      exact ⟨by rfl, by unfold xm_126; first | (simp only [if_neg h1, if_pos h2]; done) | rfl⟩
    · skip
      refine rs_iload_n ri_126_10 rfl rfl ?_
      refine rs_aload_n ri_126_11 rfl rfl ?_
      refine rs_len (v := (12 : Int32)) ri_126_12 rfl (rw_4 hc1) (rw_kd hL.1 hc1) (by decide) rfl ?_
      refine rs_icmp_lt (t := 17) ri_126_13 rfl rfl (fun h3 => ?_) (fun h3 => ?_)
      · skip
        refine rs_iconst (v := (0 : Int32)) ri_126_17 rfl (by decide) ?_
        refine rs_aload_n ri_126_18 rfl rfl ?_
        refine rs_iload_n ri_126_19 rfl rfl ?_
        refine rs_iald (v := (M.2.1 c0 (v2.toNatClampNeg))) ri_126_20 rfl (rw_4 hc0) (rw_kd hL.1 hc0) (vp_in_iff.mpr ⟨(ro_lo1 h1), (ro_hi1 h3 (by decide))⟩) rfl ?_
        refine rs_iload_n ri_126_21 rfl rfl ?_
        refine rs_iadd (r := ((M.2.1 c0 (v2.toNatClampNeg)) + v3)) ri_126_22 rfl rfl ?_
        refine rs_max (r := (ro_max (0 : Int32) ((M.2.1 c0 (v2.toNatClampNeg)) + v3))) ri_126_23 rfl (Nat.le_of_ble_eq_true rfl) rfl ?_
        refine rs_istore (lv2 := [(6, .int (ro_max (0 : Int32) ((M.2.1 c0 (v2.toNatClampNeg)) + v3))), (0, .ref c0), (1, .ref c1), (2, .int v2), (3, .int v3), (4, .int v4), (5, .int v5)]) ri_126_26 rfl rm_126.1 (by decide) rfl ?_
        refine rs_iload ri_126_28 rfl rfl ?_
        refine rs_aload_n ri_126_30 rfl rfl ?_
        refine rs_iload_n ri_126_31 rfl rfl ?_
        refine rs_iald (v := (M.2.1 c1 (v2.toNatClampNeg))) ri_126_32 rfl (rw_4 hc1) (rw_kd hL.1 hc1) (vp_in_iff.mpr ⟨(ro_lo1 h1), (ro_hi1 h3 (by decide))⟩) rfl ?_
        refine rs_iload ri_126_33 rfl rfl ?_
        refine rs_iadd (r := ((M.2.1 c1 (v2.toNatClampNeg)) + v4)) ri_126_35 rfl rfl ?_
        refine rs_min (r := (ro_min v5 ((M.2.1 c1 (v2.toNatClampNeg)) + v4))) ri_126_36 rfl (Nat.le_of_ble_eq_true rfl) rfl ?_
        refine rs_istore (lv2 := [(7, .int (ro_min v5 ((M.2.1 c1 (v2.toNatClampNeg)) + v4))), (6, .int (ro_max (0 : Int32) ((M.2.1 c0 (v2.toNatClampNeg)) + v3))), (0, .ref c0), (1, .ref c1), (2, .int v2), (3, .int v3), (4, .int v4), (5, .int v5)]) ri_126_39 rfl rm_126.1 (by decide) rfl ?_
        refine rs_aload_n ri_126_41 rfl rfl ?_
        refine rs_iload_n ri_126_42 rfl rfl ?_
        refine rs_iload ri_126_43 rfl rfl ?_
        refine rs_iload ri_126_45 rfl rfl ?_
        refine rs_icmp_le (t := 55) ri_126_47 rfl rfl (fun h4 => ?_) (fun h4 => ?_)
        · skip
          refine rs_iload ri_126_55 rfl rfl ?_
          refine rs_iast (j := v2.toNatClampNeg) ri_126_57 rfl (rw_4 hc0) (rw_kd hL.1 hc0) (vp_in_iff.mpr ⟨(ro_lo1 h1), (ro_hi1 h3 (by decide))⟩) rfl ?_
          refine rs_aload_n ri_126_58 rfl rfl ?_
          refine rs_iload_n ri_126_59 rfl rfl ?_
          refine rs_iload ri_126_60 rfl rfl ?_
          refine rs_iload ri_126_62 rfl rfl ?_
          refine rs_icmp_le (t := 72) ri_126_64 rfl rfl (fun h5 => ?_) (fun h5 => absurd h4 h5)
          refine rs_iload ri_126_72 rfl rfl ?_
          refine rs_iast (j := v2.toNatClampNeg) ri_126_74 rfl (rw_4 hc1) (rw_kd hL.1 hc1) (vp_in_iff.mpr ⟨(ro_lo1 h1), (ro_hi1 h3 (by decide))⟩) rfl ?_
          refine rs_ret ri_126_75 rm_126.2.1 (by decide) ?_
          exact ⟨by rfl, by unfold xm_126; first | (simp only [if_neg h1, if_neg h2, if_pos h3, if_pos h4]; done) | rfl⟩
        · skip
          refine rs_bipush (v := (99 : Int32)) ri_126_50 rfl (by decide) ?_
          refine rs_goto (t := 57) ri_126_52 rfl ?_
          refine rs_iast (j := v2.toNatClampNeg) ri_126_57 rfl (rw_4 hc0) (rw_kd hL.1 hc0) (vp_in_iff.mpr ⟨(ro_lo1 h1), (ro_hi1 h3 (by decide))⟩) rfl ?_
          refine rs_aload_n ri_126_58 rfl rfl ?_
          refine rs_iload_n ri_126_59 rfl rfl ?_
          refine rs_iload ri_126_60 rfl rfl ?_
          refine rs_iload ri_126_62 rfl rfl ?_
          refine rs_icmp_le (t := 72) ri_126_64 rfl rfl (fun h6 => absurd h6 h4) (fun h6 => ?_)
          refine rs_bipush (v := (-99 : Int32)) ri_126_67 rfl (by decide) ?_
          refine rs_goto (t := 74) ri_126_69 rfl ?_
          refine rs_iast (j := v2.toNatClampNeg) ri_126_74 rfl (rw_4 hc1) (rw_kd hL.1 hc1) (vp_in_iff.mpr ⟨(ro_lo1 h1), (ro_hi1 h3 (by decide))⟩) rfl ?_
          refine rs_ret ri_126_75 rm_126.2.1 (by decide) ?_
          exact ⟨by rfl, by unfold xm_126; first | (simp only [if_neg h1, if_neg h2, if_pos h3, if_neg h4]; done) | rfl⟩
      · skip
        refine rs_ret ri_126_16 rm_126.2.1 (by decide) ?_
        exact ⟨by rfl, by unfold xm_126; first | (simp only [if_neg h1, if_neg h2, if_neg h3]; done) | rfl⟩
theorem xl_126 {M : ro_Mm} {c0 : Nat} {c1 : Nat} {v2 : Int32} {v3 : Int32} {v4 : Int32} {v5 : Int32} (hL : ro_lw M) (hc0 : ro_rw c0) (hc1 : ro_rw c1) : ro_lw (xm_126 M c0 c1 v2 v3 v4 v5) := by
  unfold xm_126
  by_cases h1 : v2 < (0 : Int32)
  · skip
    rw [if_pos h1]
    exact hL
  · skip
    rw [if_neg h1]
    by_cases h2 : (12 : Int32) ≤ v2
    · skip
      rw [if_pos h2]
      exact hL
    · skip
      rw [if_neg h2]
      by_cases h3 : v2 < (12 : Int32)
      · skip
        rw [if_pos h3]
        by_cases h4 : (ro_max (0 : Int32) ((M.2.1 c0 (v2.toNatClampNeg)) + v3)) ≤ (ro_min v5 ((M.2.1 c1 (v2.toNatClampNeg)) + v4))
        · skip
          rw [if_pos h4]
          exact hL
        · skip
          rw [if_neg h4]
          exact hL
      · skip
        rw [if_neg h3]
        exact hL
/-- RefusedOnce$Ways.moveBoth(IIII)V -/
def xm_125 (M : ro_Mm) (v1 : Int32) (v2 : Int32) (v3 : Int32) (v4 : Int32) : ro_Mm := (if v1 < (0 : Int32) then M else (if (20 : Int32) < v1 then M else (xm_126 (xm_126 M (64 + v1.toNatClampNeg) (86 + v1.toNatClampNeg) v2 v3 v3 v4) (108 + v1.toNatClampNeg) (130 + v1.toNatClampNeg) v2 v3 v3 v4)))
theorem xs_125 {X : ro_Sx} {M : ro_Mm} {v1 : Int32} {v2 : Int32} {v3 : Int32} {v4 : Int32} (hL : ro_lw M) : ro_cwp X 2 125 [.ref 62, .int v1, .int v2, .int v3, .int v4] M (fun v M2 => v = none ∧ M2 = xm_125 M v1 v2 v3 v4) := by
  refine rs_begin (lv0 := [(0, .ref 62), (1, .int v1), (2, .int v2), (3, .int v3), (4, .int v4)]) (by decide) rfl (by rw [rm_125.1]; exact Nat.le_of_ble_eq_true rfl) rfl ?_
  refine rs_iload_n ri_125_0 rfl rfl ?_
  refine rs_if_lt (t := 50) ri_125_1 rfl rfl (fun h1 => ?_) (fun h1 => ?_)
  · skip
    refine rs_ret ri_125_50 rm_125.2.1 (by decide) ?_
    exact ⟨by rfl, by unfold xm_125; first | (simp only [if_pos h1]; done) | rfl⟩
  · skip
    refine rs_iload_n ri_125_4 rfl rfl ?_
    refine rs_bipush (v := (20 : Int32)) ri_125_5 rfl (by decide) ?_
    refine rs_icmp_gt (t := 50) ri_125_7 rfl rfl (fun h2 => ?_) (fun h2 => ?_)
    · skip
      refine rs_ret ri_125_50 rm_125.2.1 (by decide) ?_
      exact ⟨by rfl, by unfold xm_125; first | (simp only [if_neg h1, if_pos h2]; done) | rfl⟩
    · skip
      refine rs_aload_n ri_125_10 rfl rfl ?_
      refine rs_gf (v := .ref 63) ri_125_11 rfl (by decide) (ro_kf (kd_62 hL.1)) rfl (rf_62_2 hL.1) ?_
      refine rs_iload_n ri_125_14 rfl rfl ?_
      refine rs_aald (r := (64 + v1.toNatClampNeg)) ri_125_15 rfl (by decide) (kd_63 hL.1) (Or.inl rfl) (vp_in_iff.mpr ⟨(ro_lo1 h1), (ro_hi4 h2 (by decide))⟩) (rw_r64 hL.1 (vp_in_iff.mpr ⟨(ro_lo1 h1), (ro_hi4 h2 (by decide))⟩)) ?_
      refine rs_aload_n ri_125_16 rfl rfl ?_
      refine rs_gf (v := .ref 85) ri_125_17 rfl (by decide) (ro_kf (kd_62 hL.1)) rfl (rf_62_3 hL.1) ?_
      refine rs_iload_n ri_125_20 rfl rfl ?_
      refine rs_aald (r := (86 + v1.toNatClampNeg)) ri_125_21 rfl (by decide) (kd_85 hL.1) (Or.inl rfl) (vp_in_iff.mpr ⟨(ro_lo1 h1), (ro_hi4 h2 (by decide))⟩) (rw_r86 hL.1 (vp_in_iff.mpr ⟨(ro_lo1 h1), (ro_hi4 h2 (by decide))⟩)) ?_
      refine rs_iload_n ri_125_22 rfl rfl ?_
      refine rs_iload_n ri_125_23 rfl rfl ?_
      refine rs_iload_n ri_125_24 rfl rfl ?_
      refine rs_iload ri_125_25 rfl rfl ?_
      refine rs_stat (As := [.ref (64 + v1.toNatClampNeg), .ref (86 + v1.toNatClampNeg), .int v2, .int v3, .int v3, .int v4]) (r := []) ri_125_27 rfl rm_126.2.2.2 rfl rfl rfl (Nat.le_of_ble_eq_true rfl) (by decide) (by decide) (xs_126 (X := X) hL (rw_i64 (vp_in_iff.mpr ⟨(ro_lo1 h1), (ro_hi4 h2 (by decide))⟩)) (rw_i86 (vp_in_iff.mpr ⟨(ro_lo1 h1), (ro_hi4 h2 (by decide))⟩))) ?_
      rintro _ _ ⟨e1, e2⟩
      rw [e1, e2]
      show ro_w X _ 125 _ 30 [(0, .ref 62), (1, .int v1), (2, .int v2), (3, .int v3), (4, .int v4)] [] (xm_126 M (64 + v1.toNatClampNeg) (86 + v1.toNatClampNeg) v2 v3 v3 v4) (0, 0)
      refine rs_aload_n ri_125_30 rfl rfl ?_
      refine rs_gf (v := .ref 107) ri_125_31 rfl (by decide) (ro_kf (kd_62 (xl_126 hL (rw_i64 (vp_in_iff.mpr ⟨(ro_lo1 h1), (ro_hi4 h2 (by decide))⟩)) (rw_i86 (vp_in_iff.mpr ⟨(ro_lo1 h1), (ro_hi4 h2 (by decide))⟩))).1)) rfl (rf_62_4 (xl_126 hL (rw_i64 (vp_in_iff.mpr ⟨(ro_lo1 h1), (ro_hi4 h2 (by decide))⟩)) (rw_i86 (vp_in_iff.mpr ⟨(ro_lo1 h1), (ro_hi4 h2 (by decide))⟩))).1) ?_
      refine rs_iload_n ri_125_34 rfl rfl ?_
      refine rs_aald (r := (108 + v1.toNatClampNeg)) ri_125_35 rfl (by decide) (kd_107 (xl_126 hL (rw_i64 (vp_in_iff.mpr ⟨(ro_lo1 h1), (ro_hi4 h2 (by decide))⟩)) (rw_i86 (vp_in_iff.mpr ⟨(ro_lo1 h1), (ro_hi4 h2 (by decide))⟩))).1) (Or.inl rfl) (vp_in_iff.mpr ⟨(ro_lo1 h1), (ro_hi4 h2 (by decide))⟩) (rw_r108 (xl_126 hL (rw_i64 (vp_in_iff.mpr ⟨(ro_lo1 h1), (ro_hi4 h2 (by decide))⟩)) (rw_i86 (vp_in_iff.mpr ⟨(ro_lo1 h1), (ro_hi4 h2 (by decide))⟩))).1 (vp_in_iff.mpr ⟨(ro_lo1 h1), (ro_hi4 h2 (by decide))⟩)) ?_
      refine rs_aload_n ri_125_36 rfl rfl ?_
      refine rs_gf (v := .ref 129) ri_125_37 rfl (by decide) (ro_kf (kd_62 (xl_126 hL (rw_i64 (vp_in_iff.mpr ⟨(ro_lo1 h1), (ro_hi4 h2 (by decide))⟩)) (rw_i86 (vp_in_iff.mpr ⟨(ro_lo1 h1), (ro_hi4 h2 (by decide))⟩))).1)) rfl (rf_62_5 (xl_126 hL (rw_i64 (vp_in_iff.mpr ⟨(ro_lo1 h1), (ro_hi4 h2 (by decide))⟩)) (rw_i86 (vp_in_iff.mpr ⟨(ro_lo1 h1), (ro_hi4 h2 (by decide))⟩))).1) ?_
      refine rs_iload_n ri_125_40 rfl rfl ?_
      refine rs_aald (r := (130 + v1.toNatClampNeg)) ri_125_41 rfl (by decide) (kd_129 (xl_126 hL (rw_i64 (vp_in_iff.mpr ⟨(ro_lo1 h1), (ro_hi4 h2 (by decide))⟩)) (rw_i86 (vp_in_iff.mpr ⟨(ro_lo1 h1), (ro_hi4 h2 (by decide))⟩))).1) (Or.inl rfl) (vp_in_iff.mpr ⟨(ro_lo1 h1), (ro_hi4 h2 (by decide))⟩) (rw_r130 (xl_126 hL (rw_i64 (vp_in_iff.mpr ⟨(ro_lo1 h1), (ro_hi4 h2 (by decide))⟩)) (rw_i86 (vp_in_iff.mpr ⟨(ro_lo1 h1), (ro_hi4 h2 (by decide))⟩))).1 (vp_in_iff.mpr ⟨(ro_lo1 h1), (ro_hi4 h2 (by decide))⟩)) ?_
      refine rs_iload_n ri_125_42 rfl rfl ?_
      refine rs_iload_n ri_125_43 rfl rfl ?_
      refine rs_iload_n ri_125_44 rfl rfl ?_
      refine rs_iload ri_125_45 rfl rfl ?_
      refine rs_stat (As := [.ref (108 + v1.toNatClampNeg), .ref (130 + v1.toNatClampNeg), .int v2, .int v3, .int v3, .int v4]) (r := []) ri_125_47 rfl rm_126.2.2.2 rfl rfl rfl (Nat.le_of_ble_eq_true rfl) (by decide) (by decide) (xs_126 (X := X) (xl_126 hL (rw_i64 (vp_in_iff.mpr ⟨(ro_lo1 h1), (ro_hi4 h2 (by decide))⟩)) (rw_i86 (vp_in_iff.mpr ⟨(ro_lo1 h1), (ro_hi4 h2 (by decide))⟩))) (rw_i108 (vp_in_iff.mpr ⟨(ro_lo1 h1), (ro_hi4 h2 (by decide))⟩)) (rw_i130 (vp_in_iff.mpr ⟨(ro_lo1 h1), (ro_hi4 h2 (by decide))⟩))) ?_
      rintro _ _ ⟨e1, e2⟩
      rw [e1, e2]
      show ro_w X _ 125 _ 50 [(0, .ref 62), (1, .int v1), (2, .int v2), (3, .int v3), (4, .int v4)] [] (xm_126 (xm_126 M (64 + v1.toNatClampNeg) (86 + v1.toNatClampNeg) v2 v3 v3 v4) (108 + v1.toNatClampNeg) (130 + v1.toNatClampNeg) v2 v3 v3 v4) (0, 0)
      refine rs_ret ri_125_50 rm_125.2.1 (by decide) ?_
      exact ⟨by rfl, by unfold xm_125; first | (simp only [if_neg h1, if_neg h2]; done) | rfl⟩
theorem xl_125 {M : ro_Mm} {v1 : Int32} {v2 : Int32} {v3 : Int32} {v4 : Int32} (hL : ro_lw M) : ro_lw (xm_125 M v1 v2 v3 v4) := by
  unfold xm_125
  by_cases h1 : v1 < (0 : Int32)
  · skip
    rw [if_pos h1]
    exact hL
  · skip
    rw [if_neg h1]
    by_cases h2 : (20 : Int32) < v1
    · skip
      rw [if_pos h2]
      exact hL
    · skip
      rw [if_neg h2]
      exact (xl_126 (xl_126 hL (rw_i64 (vp_in_iff.mpr ⟨(ro_lo1 h1), (ro_hi4 h2 (by decide))⟩)) (rw_i86 (vp_in_iff.mpr ⟨(ro_lo1 h1), (ro_hi4 h2 (by decide))⟩))) (rw_i108 (vp_in_iff.mpr ⟨(ro_lo1 h1), (ro_hi4 h2 (by decide))⟩)) (rw_i130 (vp_in_iff.mpr ⟨(ro_lo1 h1), (ro_hi4 h2 (by decide))⟩)))
/-- RefusedOnce$Ways.widen(II)V -/
def xm_127 (M : ro_Mm) (v1 : Int32) (v2 : Int32) : ro_Mm := (if v1 < (0 : Int32) then M else (if (20 : Int32) < v1 then M else (xm_126 (xm_126 M (64 + v1.toNatClampNeg) (86 + v1.toNatClampNeg) v2 (-1 : Int32) (0 : Int32) (19 : Int32)) (108 + v1.toNatClampNeg) (130 + v1.toNatClampNeg) v2 (0 : Int32) (-1 : Int32) (19 : Int32))))
theorem xs_127 {X : ro_Sx} {M : ro_Mm} {v1 : Int32} {v2 : Int32} (hL : ro_lw M) : ro_cwp X 2 127 [.ref 62, .int v1, .int v2] M (fun v M2 => v = none ∧ M2 = xm_127 M v1 v2) := by
  refine rs_begin (lv0 := [(0, .ref 62), (1, .int v1), (2, .int v2)]) (by decide) rfl (by rw [rm_127.1]; exact Nat.le_of_ble_eq_true rfl) rfl ?_
  refine rs_iload_n ri_127_0 rfl rfl ?_
  refine rs_if_lt (t := 50) ri_127_1 rfl rfl (fun h1 => ?_) (fun h1 => ?_)
  · skip
    refine rs_ret ri_127_50 rm_127.2.1 (by decide) ?_
    exact ⟨by rfl, by unfold xm_127; first | (simp only [if_pos h1]; done) | rfl⟩
  · skip
    refine rs_iload_n ri_127_4 rfl rfl ?_
    refine rs_bipush (v := (20 : Int32)) ri_127_5 rfl (by decide) ?_
    refine rs_icmp_gt (t := 50) ri_127_7 rfl rfl (fun h2 => ?_) (fun h2 => ?_)
    · skip
      refine rs_ret ri_127_50 rm_127.2.1 (by decide) ?_
      exact ⟨by rfl, by unfold xm_127; first | (simp only [if_neg h1, if_pos h2]; done) | rfl⟩
    · skip
      refine rs_aload_n ri_127_10 rfl rfl ?_
      refine rs_gf (v := .ref 63) ri_127_11 rfl (by decide) (ro_kf (kd_62 hL.1)) rfl (rf_62_2 hL.1) ?_
      refine rs_iload_n ri_127_14 rfl rfl ?_
      refine rs_aald (r := (64 + v1.toNatClampNeg)) ri_127_15 rfl (by decide) (kd_63 hL.1) (Or.inl rfl) (vp_in_iff.mpr ⟨(ro_lo1 h1), (ro_hi4 h2 (by decide))⟩) (rw_r64 hL.1 (vp_in_iff.mpr ⟨(ro_lo1 h1), (ro_hi4 h2 (by decide))⟩)) ?_
      refine rs_aload_n ri_127_16 rfl rfl ?_
      refine rs_gf (v := .ref 85) ri_127_17 rfl (by decide) (ro_kf (kd_62 hL.1)) rfl (rf_62_3 hL.1) ?_
      refine rs_iload_n ri_127_20 rfl rfl ?_
      refine rs_aald (r := (86 + v1.toNatClampNeg)) ri_127_21 rfl (by decide) (kd_85 hL.1) (Or.inl rfl) (vp_in_iff.mpr ⟨(ro_lo1 h1), (ro_hi4 h2 (by decide))⟩) (rw_r86 hL.1 (vp_in_iff.mpr ⟨(ro_lo1 h1), (ro_hi4 h2 (by decide))⟩)) ?_
      refine rs_iload_n ri_127_22 rfl rfl ?_
      refine rs_iconst (v := (-1 : Int32)) ri_127_23 rfl (by decide) ?_
      refine rs_iconst (v := (0 : Int32)) ri_127_24 rfl (by decide) ?_
      refine rs_bipush (v := (19 : Int32)) ri_127_25 rfl (by decide) ?_
      refine rs_stat (As := [.ref (64 + v1.toNatClampNeg), .ref (86 + v1.toNatClampNeg), .int v2, .int (-1 : Int32), .int (0 : Int32), .int (19 : Int32)]) (r := []) ri_127_27 rfl rm_126.2.2.2 rfl rfl rfl (Nat.le_of_ble_eq_true rfl) (by decide) (by decide) (xs_126 (X := X) hL (rw_i64 (vp_in_iff.mpr ⟨(ro_lo1 h1), (ro_hi4 h2 (by decide))⟩)) (rw_i86 (vp_in_iff.mpr ⟨(ro_lo1 h1), (ro_hi4 h2 (by decide))⟩))) ?_
      rintro _ _ ⟨e1, e2⟩
      rw [e1, e2]
      show ro_w X _ 127 _ 30 [(0, .ref 62), (1, .int v1), (2, .int v2)] [] (xm_126 M (64 + v1.toNatClampNeg) (86 + v1.toNatClampNeg) v2 (-1 : Int32) (0 : Int32) (19 : Int32)) (0, 0)
      refine rs_aload_n ri_127_30 rfl rfl ?_
      refine rs_gf (v := .ref 107) ri_127_31 rfl (by decide) (ro_kf (kd_62 (xl_126 hL (rw_i64 (vp_in_iff.mpr ⟨(ro_lo1 h1), (ro_hi4 h2 (by decide))⟩)) (rw_i86 (vp_in_iff.mpr ⟨(ro_lo1 h1), (ro_hi4 h2 (by decide))⟩))).1)) rfl (rf_62_4 (xl_126 hL (rw_i64 (vp_in_iff.mpr ⟨(ro_lo1 h1), (ro_hi4 h2 (by decide))⟩)) (rw_i86 (vp_in_iff.mpr ⟨(ro_lo1 h1), (ro_hi4 h2 (by decide))⟩))).1) ?_
      refine rs_iload_n ri_127_34 rfl rfl ?_
      refine rs_aald (r := (108 + v1.toNatClampNeg)) ri_127_35 rfl (by decide) (kd_107 (xl_126 hL (rw_i64 (vp_in_iff.mpr ⟨(ro_lo1 h1), (ro_hi4 h2 (by decide))⟩)) (rw_i86 (vp_in_iff.mpr ⟨(ro_lo1 h1), (ro_hi4 h2 (by decide))⟩))).1) (Or.inl rfl) (vp_in_iff.mpr ⟨(ro_lo1 h1), (ro_hi4 h2 (by decide))⟩) (rw_r108 (xl_126 hL (rw_i64 (vp_in_iff.mpr ⟨(ro_lo1 h1), (ro_hi4 h2 (by decide))⟩)) (rw_i86 (vp_in_iff.mpr ⟨(ro_lo1 h1), (ro_hi4 h2 (by decide))⟩))).1 (vp_in_iff.mpr ⟨(ro_lo1 h1), (ro_hi4 h2 (by decide))⟩)) ?_
      refine rs_aload_n ri_127_36 rfl rfl ?_
      refine rs_gf (v := .ref 129) ri_127_37 rfl (by decide) (ro_kf (kd_62 (xl_126 hL (rw_i64 (vp_in_iff.mpr ⟨(ro_lo1 h1), (ro_hi4 h2 (by decide))⟩)) (rw_i86 (vp_in_iff.mpr ⟨(ro_lo1 h1), (ro_hi4 h2 (by decide))⟩))).1)) rfl (rf_62_5 (xl_126 hL (rw_i64 (vp_in_iff.mpr ⟨(ro_lo1 h1), (ro_hi4 h2 (by decide))⟩)) (rw_i86 (vp_in_iff.mpr ⟨(ro_lo1 h1), (ro_hi4 h2 (by decide))⟩))).1) ?_
      refine rs_iload_n ri_127_40 rfl rfl ?_
      refine rs_aald (r := (130 + v1.toNatClampNeg)) ri_127_41 rfl (by decide) (kd_129 (xl_126 hL (rw_i64 (vp_in_iff.mpr ⟨(ro_lo1 h1), (ro_hi4 h2 (by decide))⟩)) (rw_i86 (vp_in_iff.mpr ⟨(ro_lo1 h1), (ro_hi4 h2 (by decide))⟩))).1) (Or.inl rfl) (vp_in_iff.mpr ⟨(ro_lo1 h1), (ro_hi4 h2 (by decide))⟩) (rw_r130 (xl_126 hL (rw_i64 (vp_in_iff.mpr ⟨(ro_lo1 h1), (ro_hi4 h2 (by decide))⟩)) (rw_i86 (vp_in_iff.mpr ⟨(ro_lo1 h1), (ro_hi4 h2 (by decide))⟩))).1 (vp_in_iff.mpr ⟨(ro_lo1 h1), (ro_hi4 h2 (by decide))⟩)) ?_
      refine rs_iload_n ri_127_42 rfl rfl ?_
      refine rs_iconst (v := (0 : Int32)) ri_127_43 rfl (by decide) ?_
      refine rs_iconst (v := (-1 : Int32)) ri_127_44 rfl (by decide) ?_
      refine rs_bipush (v := (19 : Int32)) ri_127_45 rfl (by decide) ?_
      refine rs_stat (As := [.ref (108 + v1.toNatClampNeg), .ref (130 + v1.toNatClampNeg), .int v2, .int (0 : Int32), .int (-1 : Int32), .int (19 : Int32)]) (r := []) ri_127_47 rfl rm_126.2.2.2 rfl rfl rfl (Nat.le_of_ble_eq_true rfl) (by decide) (by decide) (xs_126 (X := X) (xl_126 hL (rw_i64 (vp_in_iff.mpr ⟨(ro_lo1 h1), (ro_hi4 h2 (by decide))⟩)) (rw_i86 (vp_in_iff.mpr ⟨(ro_lo1 h1), (ro_hi4 h2 (by decide))⟩))) (rw_i108 (vp_in_iff.mpr ⟨(ro_lo1 h1), (ro_hi4 h2 (by decide))⟩)) (rw_i130 (vp_in_iff.mpr ⟨(ro_lo1 h1), (ro_hi4 h2 (by decide))⟩))) ?_
      rintro _ _ ⟨e1, e2⟩
      rw [e1, e2]
      show ro_w X _ 127 _ 50 [(0, .ref 62), (1, .int v1), (2, .int v2)] [] (xm_126 (xm_126 M (64 + v1.toNatClampNeg) (86 + v1.toNatClampNeg) v2 (-1 : Int32) (0 : Int32) (19 : Int32)) (108 + v1.toNatClampNeg) (130 + v1.toNatClampNeg) v2 (0 : Int32) (-1 : Int32) (19 : Int32)) (0, 0)
      refine rs_ret ri_127_50 rm_127.2.1 (by decide) ?_
      exact ⟨by rfl, by unfold xm_127; first | (simp only [if_neg h1, if_neg h2]; done) | rfl⟩
theorem xl_127 {M : ro_Mm} {v1 : Int32} {v2 : Int32} (hL : ro_lw M) : ro_lw (xm_127 M v1 v2) := by
  unfold xm_127
  by_cases h1 : v1 < (0 : Int32)
  · skip
    rw [if_pos h1]
    exact hL
  · skip
    rw [if_neg h1]
    by_cases h2 : (20 : Int32) < v1
    · skip
      rw [if_pos h2]
      exact hL
    · skip
      rw [if_neg h2]
      exact (xl_126 (xl_126 hL (rw_i64 (vp_in_iff.mpr ⟨(ro_lo1 h1), (ro_hi4 h2 (by decide))⟩)) (rw_i86 (vp_in_iff.mpr ⟨(ro_lo1 h1), (ro_hi4 h2 (by decide))⟩))) (rw_i108 (vp_in_iff.mpr ⟨(ro_lo1 h1), (ro_hi4 h2 (by decide))⟩)) (rw_i130 (vp_in_iff.mpr ⟨(ro_lo1 h1), (ro_hi4 h2 (by decide))⟩)))
/-- RefusedOnce$Ways.allow(IIII)V -/
def xm_123 (M : ro_Mm) (v1 : Int32) (v2 : Int32) (v3 : Int32) (v4 : Int32) : ro_Mm := (if v1 < (0 : Int32) then M else (if (20 : Int32) < v1 then M else (if v2 < (0 : Int32) then M else (if (12 : Int32) ≤ v2 then M else (ro_sI (ro_sI (ro_sI (ro_sI M (64 + v1.toNatClampNeg) (v2.toNatClampNeg) v3) (86 + v1.toNatClampNeg) (v2.toNatClampNeg) v4) (108 + v1.toNatClampNeg) (v2.toNatClampNeg) v3) (130 + v1.toNatClampNeg) (v2.toNatClampNeg) v4)))))
theorem xs_123 {X : ro_Sx} {M : ro_Mm} {v1 : Int32} {v2 : Int32} {v3 : Int32} {v4 : Int32} (hL : ro_lw M) : ro_cwp X 1 123 [.ref 62, .int v1, .int v2, .int v3, .int v4] M (fun v M2 => v = none ∧ M2 = xm_123 M v1 v2 v3 v4) := by
  refine rs_begin (lv0 := [(0, .ref 62), (1, .int v1), (2, .int v2), (3, .int v3), (4, .int v4)]) (by decide) rfl (by rw [rm_123.1]; exact Nat.le_of_ble_eq_true rfl) rfl ?_
  refine rs_iload_n ri_123_0 rfl rfl ?_
  refine rs_if_lt (t := 58) ri_123_1 rfl rfl (fun h1 => ?_) (fun h1 => ?_)
  · skip
    refine rs_ret ri_123_58 rm_123.2.1 (by decide) ?_
    exact ⟨by rfl, by unfold xm_123; first | (simp only [if_pos h1]; done) | rfl⟩
  · skip
    refine rs_iload_n ri_123_4 rfl rfl ?_
    refine rs_bipush (v := (20 : Int32)) ri_123_5 rfl (by decide) ?_
    refine rs_icmp_gt (t := 58) ri_123_7 rfl rfl (fun h2 => ?_) (fun h2 => ?_)
    · skip
      refine rs_ret ri_123_58 rm_123.2.1 (by decide) ?_
      exact ⟨by rfl, by unfold xm_123; first | (simp only [if_neg h1, if_pos h2]; done) | rfl⟩
    · skip
      refine rs_iload_n ri_123_10 rfl rfl ?_
      refine rs_if_lt (t := 58) ri_123_11 rfl rfl (fun h3 => ?_) (fun h3 => ?_)
      · skip
        refine rs_ret ri_123_58 rm_123.2.1 (by decide) ?_
        exact ⟨by rfl, by unfold xm_123; first | (simp only [if_neg h1, if_neg h2, if_pos h3]; done) | rfl⟩
      · skip
        refine rs_iload_n ri_123_14 rfl rfl ?_
        refine rs_bipush (v := (12 : Int32)) ri_123_15 rfl (by decide) ?_
        refine rs_icmp_ge (t := 58) ri_123_17 rfl rfl (fun h4 => ?_) (fun h4 => ?_)
        · skip
          refine rs_ret ri_123_58 rm_123.2.1 (by decide) ?_
          exact ⟨by rfl, by unfold xm_123; first | (simp only [if_neg h1, if_neg h2, if_neg h3, if_pos h4]; done) | rfl⟩
        · skip
          refine rs_aload_n ri_123_20 rfl rfl ?_
          refine rs_gf (v := .ref 63) ri_123_21 rfl (by decide) (ro_kf (kd_62 hL.1)) rfl (rf_62_2 hL.1) ?_
          refine rs_iload_n ri_123_24 rfl rfl ?_
          refine rs_aald (r := (64 + v1.toNatClampNeg)) ri_123_25 rfl (by decide) (kd_63 hL.1) (Or.inl rfl) (vp_in_iff.mpr ⟨(ro_lo1 h1), (ro_hi4 h2 (by decide))⟩) (rw_r64 hL.1 (vp_in_iff.mpr ⟨(ro_lo1 h1), (ro_hi4 h2 (by decide))⟩)) ?_
          refine rs_iload_n ri_123_26 rfl rfl ?_
          refine rs_iload_n ri_123_27 rfl rfl ?_
          refine rs_iast (j := v2.toNatClampNeg) ri_123_28 rfl (rw_4 (rw_i64 (vp_in_iff.mpr ⟨(ro_lo1 h1), (ro_hi4 h2 (by decide))⟩))) (rw_kd hL.1 (rw_i64 (vp_in_iff.mpr ⟨(ro_lo1 h1), (ro_hi4 h2 (by decide))⟩))) (vp_in_iff.mpr ⟨(ro_lo1 h3), (ro_hi2 h4 (by decide))⟩) rfl ?_
          refine rs_aload_n ri_123_29 rfl rfl ?_
          refine rs_gf (v := .ref 85) ri_123_30 rfl (by decide) (ro_kf (kd_62 hL.1)) rfl (rf_62_3 hL.1) ?_
          refine rs_iload_n ri_123_33 rfl rfl ?_
          refine rs_aald (r := (86 + v1.toNatClampNeg)) ri_123_34 rfl (by decide) (kd_85 hL.1) (Or.inl rfl) (vp_in_iff.mpr ⟨(ro_lo1 h1), (ro_hi4 h2 (by decide))⟩) (rw_r86 hL.1 (vp_in_iff.mpr ⟨(ro_lo1 h1), (ro_hi4 h2 (by decide))⟩)) ?_
          refine rs_iload_n ri_123_35 rfl rfl ?_
          refine rs_iload ri_123_36 rfl rfl ?_
          refine rs_iast (j := v2.toNatClampNeg) ri_123_38 rfl (rw_4 (rw_i86 (vp_in_iff.mpr ⟨(ro_lo1 h1), (ro_hi4 h2 (by decide))⟩))) (rw_kd hL.1 (rw_i86 (vp_in_iff.mpr ⟨(ro_lo1 h1), (ro_hi4 h2 (by decide))⟩))) (vp_in_iff.mpr ⟨(ro_lo1 h3), (ro_hi2 h4 (by decide))⟩) rfl ?_
          refine rs_aload_n ri_123_39 rfl rfl ?_
          refine rs_gf (v := .ref 107) ri_123_40 rfl (by decide) (ro_kf (kd_62 hL.1)) rfl (rf_62_4 hL.1) ?_
          refine rs_iload_n ri_123_43 rfl rfl ?_
          refine rs_aald (r := (108 + v1.toNatClampNeg)) ri_123_44 rfl (by decide) (kd_107 hL.1) (Or.inl rfl) (vp_in_iff.mpr ⟨(ro_lo1 h1), (ro_hi4 h2 (by decide))⟩) (rw_r108 hL.1 (vp_in_iff.mpr ⟨(ro_lo1 h1), (ro_hi4 h2 (by decide))⟩)) ?_
          refine rs_iload_n ri_123_45 rfl rfl ?_
          refine rs_iload_n ri_123_46 rfl rfl ?_
          refine rs_iast (j := v2.toNatClampNeg) ri_123_47 rfl (rw_4 (rw_i108 (vp_in_iff.mpr ⟨(ro_lo1 h1), (ro_hi4 h2 (by decide))⟩))) (rw_kd hL.1 (rw_i108 (vp_in_iff.mpr ⟨(ro_lo1 h1), (ro_hi4 h2 (by decide))⟩))) (vp_in_iff.mpr ⟨(ro_lo1 h3), (ro_hi2 h4 (by decide))⟩) rfl ?_
          refine rs_aload_n ri_123_48 rfl rfl ?_
          refine rs_gf (v := .ref 129) ri_123_49 rfl (by decide) (ro_kf (kd_62 hL.1)) rfl (rf_62_5 hL.1) ?_
          refine rs_iload_n ri_123_52 rfl rfl ?_
          refine rs_aald (r := (130 + v1.toNatClampNeg)) ri_123_53 rfl (by decide) (kd_129 hL.1) (Or.inl rfl) (vp_in_iff.mpr ⟨(ro_lo1 h1), (ro_hi4 h2 (by decide))⟩) (rw_r130 hL.1 (vp_in_iff.mpr ⟨(ro_lo1 h1), (ro_hi4 h2 (by decide))⟩)) ?_
          refine rs_iload_n ri_123_54 rfl rfl ?_
          refine rs_iload ri_123_55 rfl rfl ?_
          refine rs_iast (j := v2.toNatClampNeg) ri_123_57 rfl (rw_4 (rw_i130 (vp_in_iff.mpr ⟨(ro_lo1 h1), (ro_hi4 h2 (by decide))⟩))) (rw_kd hL.1 (rw_i130 (vp_in_iff.mpr ⟨(ro_lo1 h1), (ro_hi4 h2 (by decide))⟩))) (vp_in_iff.mpr ⟨(ro_lo1 h3), (ro_hi2 h4 (by decide))⟩) rfl ?_
          refine rs_ret ri_123_58 rm_123.2.1 (by decide) ?_
          exact ⟨by rfl, by unfold xm_123; first | (simp only [if_neg h1, if_neg h2, if_neg h3, if_neg h4]; done) | rfl⟩
theorem xl_123 {M : ro_Mm} {v1 : Int32} {v2 : Int32} {v3 : Int32} {v4 : Int32} (hL : ro_lw M) : ro_lw (xm_123 M v1 v2 v3 v4) := by
  unfold xm_123
  by_cases h1 : v1 < (0 : Int32)
  · skip
    rw [if_pos h1]
    exact hL
  · skip
    rw [if_neg h1]
    by_cases h2 : (20 : Int32) < v1
    · skip
      rw [if_pos h2]
      exact hL
    · skip
      rw [if_neg h2]
      by_cases h3 : v2 < (0 : Int32)
      · skip
        rw [if_pos h3]
        exact hL
      · skip
        rw [if_neg h3]
        by_cases h4 : (12 : Int32) ≤ v2
        · skip
          rw [if_pos h4]
          exact hL
        · skip
          rw [if_neg h4]
          exact hL
/-- a loop of RefusedOnce$Ways.clear()V -/
noncomputable def xg_128_10 : Nat → ro_Mm → Int32 → Int32 × ro_Mm
  | 0, M, v1 => (v1, M)
  | n + 1, M, v1 => (if (1024 : Int32) ≤ v1 then (v1, M) else (xg_128_10 n (ro_sI M 151 (v1.toNatClampNeg) (0 : Int32)) (v1 + (1 : Int32))))
def xq_128_10 : Nat → ro_Mm → Int32 → Prop
  | 0, _, _ => False
  | n + 1, M, v1 => (((1024 : Int32) ≤ v1 → True) ∧ (¬ ((1024 : Int32) ≤ v1) → (vp_in v1 1024 ∧ (xq_128_10 n (ro_sI M 151 (v1.toNatClampNeg) (0 : Int32)) (v1 + (1 : Int32))))))
theorem xt_128_10 {X : ro_Sx} {post : ro_Po} : ∀ (n : Nat) {M : ro_Mm} {v1 : Int32} (hL : ro_lw M) (hp : xq_128_10 n M v1) (hk : ro_w X 0 128 post 30 [(1, .int (xg_128_10 n M v1).1), (0, .ref 62)] [] (xg_128_10 n M v1).2 (0, 0)), ro_w X 0 128 post 10 [(1, .int v1), (0, .ref 62)] [] M (0, 0) := by
  intro n
  induction n with
  | zero => intro M v1 hL hp hk; exact False.elim hp
  | succ n ih =>
    intro M v1 hL hp hk
    rw [xq_128_10] at hp
    refine rs_iload_n ri_128_10 rfl rfl ?_
    refine rs_sipush (v := (1024 : Int32)) ri_128_11 rfl (by decide) ?_
    refine rs_icmp_ge (t := 30) ri_128_14 rfl rfl (fun h1 => ?_) (fun h1 => ?_)
    · skip
      have e : xg_128_10 (n + 1) M v1 = (v1, M) := by rw [xg_128_10]; first | (simp only [if_pos h1]; done) | rfl
      rw [e] at hk
      exact ro_w_lv (ro_sub_c rfl (ro_sub_c rfl (ro_sub_n rfl))) hk
    · have hp := hp.2 h1
      refine rs_aload_n ri_128_17 rfl rfl ?_
      refine rs_gf (v := .ref 151) ri_128_18 rfl (by decide) (ro_kf (kd_62 hL.1)) rfl (rf_62_6 hL.1) ?_
      refine rs_iload_n ri_128_21 rfl rfl ?_
      refine rs_iconst (v := (0 : Int32)) ri_128_22 rfl (by decide) ?_
      obtain ⟨q1, hp⟩ := hp
      refine rs_iast (j := v1.toNatClampNeg) ri_128_23 rfl (by decide) (kd_151 hL.1) q1 rfl ?_
      refine rs_iinc (v := (v1 + (1 : Int32))) (lv2 := [(1, .int (v1 + (1 : Int32))), (0, .ref 62)]) ri_128_24 rfl rfl rfl rm_128.1 (by decide) rfl ?_
      refine rs_goto (t := 10) ri_128_27 rfl ?_
      have e : xg_128_10 (n + 1) M v1 = xg_128_10 n (ro_sI M 151 (v1.toNatClampNeg) (0 : Int32)) (v1 + (1 : Int32)) := by rw [xg_128_10]; first | (simp only [if_neg h1]; done) | rfl
      rw [e] at hk
      exact ro_w_lv (ro_sub_c rfl (ro_sub_c rfl (ro_sub_n rfl))) (ih hL  hp hk)
theorem xl_128_10 : ∀ (n : Nat) {M : ro_Mm} {v1 : Int32} (hL : ro_lw M) (hp : xq_128_10 n M v1), ro_lw (xg_128_10 n M v1).2 := by
  intro n
  induction n with
  | zero => intro M v1 hL hp; exact False.elim hp
  | succ n ih =>
    intro M v1 hL hp
    rw [xq_128_10] at hp
    rw [xg_128_10]
    by_cases h1 : (1024 : Int32) ≤ v1
    · have hp := hp.1 h1
      rw [if_pos h1]
      exact hL
    · have hp := hp.2 h1
      rw [if_neg h1]
      obtain ⟨q1, hp⟩ := hp
      exact ih hL  hp
/-- RefusedOnce$Ways.clear()V -/
noncomputable def xm_128 (M : ro_Mm) : ro_Mm := (xg_128_10 lp_N (ro_sI M (lnt M) 4 (0 : Int32)) (0 : Int32)).2
def xp_128 (M : ro_Mm) : Prop := (xq_128_10 lp_N (ro_sI M (lnt M) 4 (0 : Int32)) (0 : Int32) ∧ True)
theorem xs_128 {X : ro_Sx} {M : ro_Mm} (hL : ro_lw M) (hp : xp_128 M) : ro_cwp X 1 128 [.ref 62] M (fun v M2 => v = none ∧ M2 = xm_128 M) := by
  refine rs_begin (lv0 := [(0, .ref 62)]) (by decide) rfl (by rw [rm_128.1]; exact Nat.le_of_ble_eq_true rfl) rfl ?_
  unfold xp_128 at hp
  refine rs_aload_n ri_128_0 rfl rfl ?_
  refine rs_gf (v := .ref (lnt M)) ri_128_1 rfl (by decide) (ro_kf (kd_62 hL.1)) rfl (lnt_r hL) ?_
  refine rs_iconst (v := (0 : Int32)) ri_128_4 rfl (by decide) ?_
  refine rs_pf (M2 := (ro_sI M (lnt M) 4 (0 : Int32))) ri_128_5 rfl (ro_il4 (lnt_il hL)) (ro_kf (il_kd hL.1 (lnt_il hL))) (fun h => absurd h (by decide)) (fun f h => h) ?_
  refine rs_iconst (v := (0 : Int32)) ri_128_8 rfl (by decide) ?_
  refine rs_istore_n (lv2 := [(1, .int (0 : Int32)), (0, .ref 62)]) ri_128_9 rfl rm_128.1 (by decide) rfl ?_
  obtain ⟨q2, hp⟩ := hp
  refine xt_128_10 lp_N hL q2 ?_
  refine rs_ret ri_128_30 rm_128.2.1 (by decide) ?_
  exact ⟨by rfl, by rfl⟩
theorem xl_128 {M : ro_Mm} (hL : ro_lw M) (hp : xp_128 M) : ro_lw (xm_128 M) := by
  unfold xp_128 at hp
  unfold xm_128
  obtain ⟨q2, hp⟩ := hp
  exact (xl_128_10 lp_N hL q2)
/-- RefusedOnce$Ways.settle(IJII)J -/
def xf_130 (M : ro_Mm) (v1 : Int32) (v2 : Int64) (v4 : Int32) (v5 : Int32) : Int64 := (if (lg_cmp v2 (0 : Int64)) < (0 : Int32) then (-1 : Int64) else (if v1 < (0 : Int32) then (-1 : Int64) else (if (20 : Int32) < v1 then (-1 : Int64) else (if v4 < (0 : Int32) then (-1 : Int64) else (if v4 < (12 : Int32) then (if v5 < (M.2.1 (64 + v1.toNatClampNeg) (v4.toNatClampNeg)) then (-1 : Int64) else (if v5 ≤ (M.2.1 (86 + v1.toNatClampNeg) (v4.toNatClampNeg)) then (if v5 < (M.2.1 (108 + v1.toNatClampNeg) (v4.toNatClampNeg)) then ((v2 &&& ((ro_lshl (31 : Int64) ((5 : Int32) * v4)) ^^^ (-1 : Int64))) ||| (ro_lshl (v5.toInt64) ((5 : Int32) * v4))) else (if (M.2.1 (130 + v1.toNatClampNeg) (v4.toNatClampNeg)) < v5 then ((v2 &&& ((ro_lshl (31 : Int64) ((5 : Int32) * v4)) ^^^ (-1 : Int64))) ||| (ro_lshl (v5.toInt64) ((5 : Int32) * v4))) else ((v2 &&& ((ro_lshl (31 : Int64) ((5 : Int32) * v4)) ^^^ (-1 : Int64))) ||| (ro_lshl (31 : Int64) ((5 : Int32) * v4))))) else (-1 : Int64))) else (-1 : Int64))))))
theorem xs_130 {X : ro_Sx} {M : ro_Mm} {v1 : Int32} {v2 : Int64} {v4 : Int32} {v5 : Int32} (hL : ro_lw M) : ro_cwp X 1 130 [.ref 62, .int v1, .long v2, .int v4, .int v5] M (fun v M2 => v = some (.long (xf_130 M v1 v2 v4 v5)) ∧ M2 = M) := by
  refine rs_begin (lv0 := [(0, .ref 62), (1, .int v1), (2, .long v2), (4, .int v4), (5, .int v5)]) (by decide) rfl (by rw [rm_130.1]; exact Nat.le_of_ble_eq_true rfl) rfl ?_
  refine rs_lload_n ri_130_0 rfl rfl ?_
  refine rs_lconst (v := (0 : Int64)) ri_130_1 rfl rfl ?_
  refine rs_lcmp (r := (lg_cmp v2 (0 : Int64))) ri_130_2 rfl rfl ?_
  refine rs_if_lt (t := 28) ri_130_3 rfl rfl (fun h1 => ?_) (fun h1 => ?_)
  · skip
    refine rs_ldc2 (v := (-1 : Int64)) ri_130_28 rfl rfl rfl ?_
    refine rs_lret ri_130_31 rm_130.2.1 (by decide) ?_
    exact ⟨by unfold xf_130; first | (simp only [if_pos h1]; done) | rfl, by rfl⟩
  · skip
    refine rs_iload_n ri_130_6 rfl rfl ?_
    refine rs_if_lt (t := 28) ri_130_7 rfl rfl (fun h2 => ?_) (fun h2 => ?_)
    · skip
      refine rs_ldc2 (v := (-1 : Int64)) ri_130_28 rfl rfl rfl ?_
      refine rs_lret ri_130_31 rm_130.2.1 (by decide) ?_
      exact ⟨by unfold xf_130; first | (simp only [if_neg h1, if_pos h2]; done) | rfl, by rfl⟩
    · skip
      refine rs_iload_n ri_130_10 rfl rfl ?_
      refine rs_bipush (v := (20 : Int32)) ri_130_11 rfl (by decide) ?_
      refine rs_icmp_gt (t := 28) ri_130_13 rfl rfl (fun h3 => ?_) (fun h3 => ?_)
      · skip
        refine rs_ldc2 (v := (-1 : Int64)) ri_130_28 rfl rfl rfl ?_
        refine rs_lret ri_130_31 rm_130.2.1 (by decide) ?_
        exact ⟨by unfold xf_130; first | (simp only [if_neg h1, if_neg h2, if_pos h3]; done) | rfl, by rfl⟩
      · skip
        refine rs_iload ri_130_16 rfl rfl ?_
        refine rs_if_lt (t := 28) ri_130_18 rfl rfl (fun h4 => ?_) (fun h4 => ?_)
        · skip
          refine rs_ldc2 (v := (-1 : Int64)) ri_130_28 rfl rfl rfl ?_
          refine rs_lret ri_130_31 rm_130.2.1 (by decide) ?_
          exact ⟨by unfold xf_130; first | (simp only [if_neg h1, if_neg h2, if_neg h3, if_pos h4]; done) | rfl, by rfl⟩
        · skip
          refine rs_iload ri_130_21 rfl rfl ?_
          refine rs_bipush (v := (12 : Int32)) ri_130_23 rfl (by decide) ?_
          refine rs_icmp_lt (t := 32) ri_130_25 rfl rfl (fun h5 => ?_) (fun h5 => ?_)
          · skip
            refine rs_iload ri_130_32 rfl rfl ?_
            refine rs_aload_n ri_130_34 rfl rfl ?_
            refine rs_gf (v := .ref 63) ri_130_35 rfl (by decide) (ro_kf (kd_62 hL.1)) rfl (rf_62_2 hL.1) ?_
            refine rs_iload_n ri_130_38 rfl rfl ?_
            refine rs_aald (r := (64 + v1.toNatClampNeg)) ri_130_39 rfl (by decide) (kd_63 hL.1) (Or.inl rfl) (vp_in_iff.mpr ⟨(ro_lo1 h2), (ro_hi4 h3 (by decide))⟩) (rw_r64 hL.1 (vp_in_iff.mpr ⟨(ro_lo1 h2), (ro_hi4 h3 (by decide))⟩)) ?_
            refine rs_iload ri_130_40 rfl rfl ?_
            refine rs_iald (v := (M.2.1 (64 + v1.toNatClampNeg) (v4.toNatClampNeg))) ri_130_42 rfl (rw_4 (rw_i64 (vp_in_iff.mpr ⟨(ro_lo1 h2), (ro_hi4 h3 (by decide))⟩))) (rw_kd hL.1 (rw_i64 (vp_in_iff.mpr ⟨(ro_lo1 h2), (ro_hi4 h3 (by decide))⟩))) (vp_in_iff.mpr ⟨(ro_lo1 h4), (ro_hi1 h5 (by decide))⟩) rfl ?_
            refine rs_icmp_lt (t := 60) ri_130_43 rfl rfl (fun h6 => ?_) (fun h6 => ?_)
            · skip
              refine rs_ldc2 (v := (-1 : Int64)) ri_130_60 rfl rfl rfl ?_
              refine rs_lret ri_130_63 rm_130.2.1 (by decide) ?_
              exact ⟨by unfold xf_130; first | (simp only [if_neg h1, if_neg h2, if_neg h3, if_neg h4, if_pos h5, if_pos h6]; done) | rfl, by rfl⟩
            · skip
              refine rs_iload ri_130_46 rfl rfl ?_
              refine rs_aload_n ri_130_48 rfl rfl ?_
              refine rs_gf (v := .ref 85) ri_130_49 rfl (by decide) (ro_kf (kd_62 hL.1)) rfl (rf_62_3 hL.1) ?_
              refine rs_iload_n ri_130_52 rfl rfl ?_
              refine rs_aald (r := (86 + v1.toNatClampNeg)) ri_130_53 rfl (by decide) (kd_85 hL.1) (Or.inl rfl) (vp_in_iff.mpr ⟨(ro_lo1 h2), (ro_hi4 h3 (by decide))⟩) (rw_r86 hL.1 (vp_in_iff.mpr ⟨(ro_lo1 h2), (ro_hi4 h3 (by decide))⟩)) ?_
              refine rs_iload ri_130_54 rfl rfl ?_
              refine rs_iald (v := (M.2.1 (86 + v1.toNatClampNeg) (v4.toNatClampNeg))) ri_130_56 rfl (rw_4 (rw_i86 (vp_in_iff.mpr ⟨(ro_lo1 h2), (ro_hi4 h3 (by decide))⟩))) (rw_kd hL.1 (rw_i86 (vp_in_iff.mpr ⟨(ro_lo1 h2), (ro_hi4 h3 (by decide))⟩))) (vp_in_iff.mpr ⟨(ro_lo1 h4), (ro_hi1 h5 (by decide))⟩) rfl ?_
              refine rs_icmp_le (t := 64) ri_130_57 rfl rfl (fun h7 => ?_) (fun h7 => ?_)
              · skip
                refine rs_iload ri_130_64 rfl rfl ?_
                refine rs_aload_n ri_130_66 rfl rfl ?_
                refine rs_gf (v := .ref 107) ri_130_67 rfl (by decide) (ro_kf (kd_62 hL.1)) rfl (rf_62_4 hL.1) ?_
                refine rs_iload_n ri_130_70 rfl rfl ?_
                refine rs_aald (r := (108 + v1.toNatClampNeg)) ri_130_71 rfl (by decide) (kd_107 hL.1) (Or.inl rfl) (vp_in_iff.mpr ⟨(ro_lo1 h2), (ro_hi4 h3 (by decide))⟩) (rw_r108 hL.1 (vp_in_iff.mpr ⟨(ro_lo1 h2), (ro_hi4 h3 (by decide))⟩)) ?_
                refine rs_iload ri_130_72 rfl rfl ?_
                refine rs_iald (v := (M.2.1 (108 + v1.toNatClampNeg) (v4.toNatClampNeg))) ri_130_74 rfl (rw_4 (rw_i108 (vp_in_iff.mpr ⟨(ro_lo1 h2), (ro_hi4 h3 (by decide))⟩))) (rw_kd hL.1 (rw_i108 (vp_in_iff.mpr ⟨(ro_lo1 h2), (ro_hi4 h3 (by decide))⟩))) (vp_in_iff.mpr ⟨(ro_lo1 h4), (ro_hi1 h5 (by decide))⟩) rfl ?_
                refine rs_icmp_lt (t := 96) ri_130_75 rfl rfl (fun h8 => ?_) (fun h8 => ?_)
                · skip
                  refine rs_iconst (v := (0 : Int32)) ri_130_96 rfl (by decide) ?_
                  refine rs_istore (lv2 := [(6, .int (0 : Int32)), (0, .ref 62), (1, .int v1), (2, .long v2), (4, .int v4), (5, .int v5)]) ri_130_97 rfl rm_130.1 (by decide) rfl ?_
                  refine rs_iload ri_130_99 rfl rfl ?_
                  refine rs_if_eq (t := 110) ri_130_101 rfl rfl (fun h9 => ?_) (fun h9 => absurd (by decide) h9)
                  refine rs_iload ri_130_110 rfl rfl ?_
                  refine rs_i2l (r := (v5.toInt64)) ri_130_112 rfl rfl ?_
                  refine rs_lstore (lv2 := [(7, .long (v5.toInt64)), (6, .int (0 : Int32)), (0, .ref 62), (1, .int v1), (2, .long v2), (4, .int v4), (5, .int v5)]) ri_130_113 rfl rm_130.1 (by decide) rfl ?_
                  refine rs_iconst (v := (5 : Int32)) ri_130_115 rfl (by decide) ?_
                  refine rs_iload ri_130_116 rfl rfl ?_
                  refine rs_imul (r := ((5 : Int32) * v4)) ri_130_118 rfl rfl ?_
                  refine rs_istore (lv2 := [(9, .int ((5 : Int32) * v4)), (7, .long (v5.toInt64)), (6, .int (0 : Int32)), (0, .ref 62), (1, .int v1), (2, .long v2), (4, .int v4), (5, .int v5)]) ri_130_119 rfl rm_130.1 (by decide) rfl ?_
                  refine rs_lload_n ri_130_121 rfl rfl ?_
                  refine rs_ldc2 (v := (31 : Int64)) ri_130_122 rfl rfl rfl ?_
                  refine rs_iload ri_130_125 rfl rfl ?_
                  refine rs_lshl (r := (ro_lshl (31 : Int64) ((5 : Int32) * v4))) ri_130_127 rfl rfl ?_
                  refine rs_ldc2 (v := (-1 : Int64)) ri_130_128 rfl rfl rfl ?_
                  refine rs_lxor (r := ((ro_lshl (31 : Int64) ((5 : Int32) * v4)) ^^^ (-1 : Int64))) ri_130_131 rfl rfl ?_
                  refine rs_land (r := (v2 &&& ((ro_lshl (31 : Int64) ((5 : Int32) * v4)) ^^^ (-1 : Int64)))) ri_130_132 rfl rfl ?_
                  refine rs_lload ri_130_133 rfl rfl ?_
                  refine rs_iload ri_130_135 rfl rfl ?_
                  refine rs_lshl (r := (ro_lshl (v5.toInt64) ((5 : Int32) * v4))) ri_130_137 rfl rfl ?_
                  refine rs_lor (r := ((v2 &&& ((ro_lshl (31 : Int64) ((5 : Int32) * v4)) ^^^ (-1 : Int64))) ||| (ro_lshl (v5.toInt64) ((5 : Int32) * v4)))) ri_130_138 rfl rfl ?_
                  refine rs_lret ri_130_139 rm_130.2.1 (by decide) ?_
                  exact ⟨by unfold xf_130; first | (simp only [if_neg h1, if_neg h2, if_neg h3, if_neg h4, if_pos h5, if_neg h6, if_pos h7, if_pos h8]; done) | rfl, by rfl⟩
                · skip
                  refine rs_iload ri_130_78 rfl rfl ?_
                  refine rs_aload_n ri_130_80 rfl rfl ?_
                  refine rs_gf (v := .ref 129) ri_130_81 rfl (by decide) (ro_kf (kd_62 hL.1)) rfl (rf_62_5 hL.1) ?_
                  refine rs_iload_n ri_130_84 rfl rfl ?_
                  refine rs_aald (r := (130 + v1.toNatClampNeg)) ri_130_85 rfl (by decide) (kd_129 hL.1) (Or.inl rfl) (vp_in_iff.mpr ⟨(ro_lo1 h2), (ro_hi4 h3 (by decide))⟩) (rw_r130 hL.1 (vp_in_iff.mpr ⟨(ro_lo1 h2), (ro_hi4 h3 (by decide))⟩)) ?_
                  refine rs_iload ri_130_86 rfl rfl ?_
                  refine rs_iald (v := (M.2.1 (130 + v1.toNatClampNeg) (v4.toNatClampNeg))) ri_130_88 rfl (rw_4 (rw_i130 (vp_in_iff.mpr ⟨(ro_lo1 h2), (ro_hi4 h3 (by decide))⟩))) (rw_kd hL.1 (rw_i130 (vp_in_iff.mpr ⟨(ro_lo1 h2), (ro_hi4 h3 (by decide))⟩))) (vp_in_iff.mpr ⟨(ro_lo1 h4), (ro_hi1 h5 (by decide))⟩) rfl ?_
                  refine rs_icmp_gt (t := 96) ri_130_89 rfl rfl (fun h10 => ?_) (fun h10 => ?_)
                  · skip
                    refine rs_iconst (v := (0 : Int32)) ri_130_96 rfl (by decide) ?_
                    refine rs_istore (lv2 := [(6, .int (0 : Int32)), (0, .ref 62), (1, .int v1), (2, .long v2), (4, .int v4), (5, .int v5)]) ri_130_97 rfl rm_130.1 (by decide) rfl ?_
                    refine rs_iload ri_130_99 rfl rfl ?_
                    refine rs_if_eq (t := 110) ri_130_101 rfl rfl (fun h11 => ?_) (fun h11 => absurd (by decide) h11)
                    refine rs_iload ri_130_110 rfl rfl ?_
                    refine rs_i2l (r := (v5.toInt64)) ri_130_112 rfl rfl ?_
                    refine rs_lstore (lv2 := [(7, .long (v5.toInt64)), (6, .int (0 : Int32)), (0, .ref 62), (1, .int v1), (2, .long v2), (4, .int v4), (5, .int v5)]) ri_130_113 rfl rm_130.1 (by decide) rfl ?_
                    refine rs_iconst (v := (5 : Int32)) ri_130_115 rfl (by decide) ?_
                    refine rs_iload ri_130_116 rfl rfl ?_
                    refine rs_imul (r := ((5 : Int32) * v4)) ri_130_118 rfl rfl ?_
                    refine rs_istore (lv2 := [(9, .int ((5 : Int32) * v4)), (7, .long (v5.toInt64)), (6, .int (0 : Int32)), (0, .ref 62), (1, .int v1), (2, .long v2), (4, .int v4), (5, .int v5)]) ri_130_119 rfl rm_130.1 (by decide) rfl ?_
                    refine rs_lload_n ri_130_121 rfl rfl ?_
                    refine rs_ldc2 (v := (31 : Int64)) ri_130_122 rfl rfl rfl ?_
                    refine rs_iload ri_130_125 rfl rfl ?_
                    refine rs_lshl (r := (ro_lshl (31 : Int64) ((5 : Int32) * v4))) ri_130_127 rfl rfl ?_
                    refine rs_ldc2 (v := (-1 : Int64)) ri_130_128 rfl rfl rfl ?_
                    refine rs_lxor (r := ((ro_lshl (31 : Int64) ((5 : Int32) * v4)) ^^^ (-1 : Int64))) ri_130_131 rfl rfl ?_
                    refine rs_land (r := (v2 &&& ((ro_lshl (31 : Int64) ((5 : Int32) * v4)) ^^^ (-1 : Int64)))) ri_130_132 rfl rfl ?_
                    refine rs_lload ri_130_133 rfl rfl ?_
                    refine rs_iload ri_130_135 rfl rfl ?_
                    refine rs_lshl (r := (ro_lshl (v5.toInt64) ((5 : Int32) * v4))) ri_130_137 rfl rfl ?_
                    refine rs_lor (r := ((v2 &&& ((ro_lshl (31 : Int64) ((5 : Int32) * v4)) ^^^ (-1 : Int64))) ||| (ro_lshl (v5.toInt64) ((5 : Int32) * v4)))) ri_130_138 rfl rfl ?_
                    refine rs_lret ri_130_139 rm_130.2.1 (by decide) ?_
                    exact ⟨by unfold xf_130; first | (simp only [if_neg h1, if_neg h2, if_neg h3, if_neg h4, if_pos h5, if_neg h6, if_pos h7, if_neg h8, if_pos h10]; done) | rfl, by rfl⟩
                  · skip
                    refine rs_iconst (v := (1 : Int32)) ri_130_92 rfl (by decide) ?_
                    refine rs_goto (t := 97) ri_130_93 rfl ?_
                    refine rs_istore (lv2 := [(6, .int (1 : Int32)), (0, .ref 62), (1, .int v1), (2, .long v2), (4, .int v4), (5, .int v5)]) ri_130_97 rfl rm_130.1 (by decide) rfl ?_
                    refine rs_iload ri_130_99 rfl rfl ?_
                    refine rs_if_eq (t := 110) ri_130_101 rfl rfl (fun h12 => absurd h12 (by decide)) (fun h12 => ?_)
                    refine rs_ldc2 (v := (31 : Int64)) ri_130_104 rfl rfl rfl ?_
                    refine rs_goto (t := 113) ri_130_107 rfl ?_
                    refine rs_lstore (lv2 := [(7, .long (31 : Int64)), (6, .int (1 : Int32)), (0, .ref 62), (1, .int v1), (2, .long v2), (4, .int v4), (5, .int v5)]) ri_130_113 rfl rm_130.1 (by decide) rfl ?_
                    refine rs_iconst (v := (5 : Int32)) ri_130_115 rfl (by decide) ?_
                    refine rs_iload ri_130_116 rfl rfl ?_
                    refine rs_imul (r := ((5 : Int32) * v4)) ri_130_118 rfl rfl ?_
                    refine rs_istore (lv2 := [(9, .int ((5 : Int32) * v4)), (7, .long (31 : Int64)), (6, .int (1 : Int32)), (0, .ref 62), (1, .int v1), (2, .long v2), (4, .int v4), (5, .int v5)]) ri_130_119 rfl rm_130.1 (by decide) rfl ?_
                    refine rs_lload_n ri_130_121 rfl rfl ?_
                    refine rs_ldc2 (v := (31 : Int64)) ri_130_122 rfl rfl rfl ?_
                    refine rs_iload ri_130_125 rfl rfl ?_
                    refine rs_lshl (r := (ro_lshl (31 : Int64) ((5 : Int32) * v4))) ri_130_127 rfl rfl ?_
                    refine rs_ldc2 (v := (-1 : Int64)) ri_130_128 rfl rfl rfl ?_
                    refine rs_lxor (r := ((ro_lshl (31 : Int64) ((5 : Int32) * v4)) ^^^ (-1 : Int64))) ri_130_131 rfl rfl ?_
                    refine rs_land (r := (v2 &&& ((ro_lshl (31 : Int64) ((5 : Int32) * v4)) ^^^ (-1 : Int64)))) ri_130_132 rfl rfl ?_
                    refine rs_lload ri_130_133 rfl rfl ?_
                    refine rs_iload ri_130_135 rfl rfl ?_
                    refine rs_lshl (r := (ro_lshl (31 : Int64) ((5 : Int32) * v4))) ri_130_137 rfl rfl ?_
                    refine rs_lor (r := ((v2 &&& ((ro_lshl (31 : Int64) ((5 : Int32) * v4)) ^^^ (-1 : Int64))) ||| (ro_lshl (31 : Int64) ((5 : Int32) * v4)))) ri_130_138 rfl rfl ?_
                    refine rs_lret ri_130_139 rm_130.2.1 (by decide) ?_
                    exact ⟨by unfold xf_130; first | (simp only [if_neg h1, if_neg h2, if_neg h3, if_neg h4, if_pos h5, if_neg h6, if_pos h7, if_neg h8, if_neg h10]; done) | rfl, by rfl⟩
              · skip
                refine rs_ldc2 (v := (-1 : Int64)) ri_130_60 rfl rfl rfl ?_
                refine rs_lret ri_130_63 rm_130.2.1 (by decide) ?_
                exact ⟨by unfold xf_130; first | (simp only [if_neg h1, if_neg h2, if_neg h3, if_neg h4, if_pos h5, if_neg h6, if_neg h7]; done) | rfl, by rfl⟩
          · skip
            refine rs_ldc2 (v := (-1 : Int64)) ri_130_28 rfl rfl rfl ?_
            refine rs_lret ri_130_31 rm_130.2.1 (by decide) ?_
            exact ⟨by unfold xf_130; first | (simp only [if_neg h1, if_neg h2, if_neg h3, if_neg h4, if_neg h5]; done) | rfl, by rfl⟩
/-- RefusedOnce$Ways.moved(IJII)J -/
def xf_135 (M : ro_Mm) (v1 : Int32) (v2 : Int64) (v4 : Int32) (v5 : Int32) : Int64 := (if (lg_cmp v2 (0 : Int64)) < (0 : Int32) then (-1 : Int64) else (if v4 < (0 : Int32) then (-1 : Int64) else (if v4 < (12 : Int32) then (if (((ro_lshr v2 ((5 : Int32) * v4)).toInt32) &&& (31 : Int32)) = (31 : Int32) then v2 else (xf_130 M v1 v2 v4 ((((ro_lshr v2 ((5 : Int32) * v4)).toInt32) &&& (31 : Int32)) + v5))) else (-1 : Int64))))
theorem xs_135 {X : ro_Sx} {M : ro_Mm} {v1 : Int32} {v2 : Int64} {v4 : Int32} {v5 : Int32} (hL : ro_lw M) : ro_cwp X 2 135 [.ref 62, .int v1, .long v2, .int v4, .int v5] M (fun v M2 => v = some (.long (xf_135 M v1 v2 v4 v5)) ∧ M2 = M) := by
  refine rs_begin (lv0 := [(0, .ref 62), (1, .int v1), (2, .long v2), (4, .int v4), (5, .int v5)]) (by decide) rfl (by rw [rm_135.1]; exact Nat.le_of_ble_eq_true rfl) rfl ?_
  refine rs_lload_n ri_135_0 rfl rfl ?_
  refine rs_lconst (v := (0 : Int64)) ri_135_1 rfl rfl ?_
  refine rs_lcmp (r := (lg_cmp v2 (0 : Int64))) ri_135_2 rfl rfl ?_
  refine rs_if_lt (t := 18) ri_135_3 rfl rfl (fun h1 => ?_) (fun h1 => ?_)
  · skip
    refine rs_ldc2 (v := (-1 : Int64)) ri_135_18 rfl rfl rfl ?_
    refine rs_lret ri_135_21 rm_135.2.1 (by decide) ?_
    exact ⟨by unfold xf_135; first | (simp only [if_pos h1]; done) | rfl, by rfl⟩
  · skip
    refine rs_iload ri_135_6 rfl rfl ?_
    refine rs_if_lt (t := 18) ri_135_8 rfl rfl (fun h2 => ?_) (fun h2 => ?_)
    · skip
      refine rs_ldc2 (v := (-1 : Int64)) ri_135_18 rfl rfl rfl ?_
      refine rs_lret ri_135_21 rm_135.2.1 (by decide) ?_
      exact ⟨by unfold xf_135; first | (simp only [if_neg h1, if_pos h2]; done) | rfl, by rfl⟩
    · skip
      refine rs_iload ri_135_11 rfl rfl ?_
      refine rs_bipush (v := (12 : Int32)) ri_135_13 rfl (by decide) ?_
      refine rs_icmp_lt (t := 22) ri_135_15 rfl rfl (fun h3 => ?_) (fun h3 => ?_)
      · skip
        refine rs_lload_n ri_135_22 rfl rfl ?_
        refine rs_iconst (v := (5 : Int32)) ri_135_23 rfl (by decide) ?_
        refine rs_iload ri_135_24 rfl rfl ?_
        refine rs_imul (r := ((5 : Int32) * v4)) ri_135_26 rfl rfl ?_
        refine rs_lshr (r := (ro_lshr v2 ((5 : Int32) * v4))) ri_135_27 rfl rfl ?_
        refine rs_l2i (r := ((ro_lshr v2 ((5 : Int32) * v4)).toInt32)) ri_135_28 rfl rfl ?_
        refine rs_bipush (v := (31 : Int32)) ri_135_29 rfl (by decide) ?_
        refine rs_iand (r := (((ro_lshr v2 ((5 : Int32) * v4)).toInt32) &&& (31 : Int32))) ri_135_31 rfl rfl ?_
        refine rs_istore (lv2 := [(6, .int (((ro_lshr v2 ((5 : Int32) * v4)).toInt32) &&& (31 : Int32))), (0, .ref 62), (1, .int v1), (2, .long v2), (4, .int v4), (5, .int v5)]) ri_135_32 rfl rm_135.1 (by decide) rfl ?_
        refine rs_iload ri_135_34 rfl rfl ?_
        refine rs_bipush (v := (31 : Int32)) ri_135_36 rfl (by decide) ?_
        refine rs_icmp_ne (t := 45) ri_135_38 rfl rfl (fun h4 => ?_) (fun h4 => ?_)
        · skip
          refine rs_aload_n ri_135_45 rfl rfl ?_
          refine rs_iload_n ri_135_46 rfl rfl ?_
          refine rs_lload_n ri_135_47 rfl rfl ?_
          refine rs_iload ri_135_48 rfl rfl ?_
          refine rs_iload ri_135_50 rfl rfl ?_
          refine rs_iload ri_135_52 rfl rfl ?_
          refine rs_iadd (r := ((((ro_lshr v2 ((5 : Int32) * v4)).toInt32) &&& (31 : Int32)) + v5)) ri_135_54 rfl rfl ?_
          refine rs_virt (As := [.int v1, .long v2, .int v4, .int ((((ro_lshr v2 ((5 : Int32) * v4)).toInt32) &&& (31 : Int32)) + v5)]) (r := []) ri_135_55 rfl (by decide) rm_130.2.2.2 rm_130.2.2.1 rfl rfl rfl (by decide) (ro_kf (kd_62 hL.1)) (Nat.le_of_ble_eq_true rfl) (by decide) (by decide) (xs_130 (X := X) hL) ?_
          rintro _ _ ⟨e1, e2⟩
          rw [e1, e2]
          show ro_w X _ 135 _ 58 [(6, .int (((ro_lshr v2 ((5 : Int32) * v4)).toInt32) &&& (31 : Int32))), (0, .ref 62), (1, .int v1), (2, .long v2), (4, .int v4), (5, .int v5)] [.long (xf_130 M v1 v2 v4 ((((ro_lshr v2 ((5 : Int32) * v4)).toInt32) &&& (31 : Int32)) + v5))] M (0, 0)
          refine rs_lret ri_135_58 rm_135.2.1 (by decide) ?_
          exact ⟨by unfold xf_135; first | (simp only [if_neg h1, if_neg h2, if_pos h3, if_neg h4]; done) | rfl, by rfl⟩
        · skip
          refine rs_lload_n ri_135_41 rfl rfl ?_
          refine rs_goto (t := 58) ri_135_42 rfl ?_
          refine rs_lret ri_135_58 rm_135.2.1 (by decide) ?_
          exact ⟨by unfold xf_135; first | (simp only [if_neg h1, if_neg h2, if_pos h3, if_pos h4]; done) | rfl, by rfl⟩
      · skip
        refine rs_ldc2 (v := (-1 : Int64)) ri_135_18 rfl rfl rfl ?_
        refine rs_lret ri_135_21 rm_135.2.1 (by decide) ?_
        exact ⟨by unfold xf_135; first | (simp only [if_neg h1, if_neg h2, if_neg h3]; done) | rfl, by rfl⟩
/-- a loop of RefusedOnce$Ways.startKey()J -/
noncomputable def xg_129_4 : Nat → ro_Mm → Int32 → Int64 → Int32 × Int64
  | 0, M, v3, v1 => (v3, v1)
  | n + 1, M, v3, v1 => (if (6 : Int32) ≤ v3 then (v3, v1) else (if (xf_29 M v3) then (xg_129_4 n M (v3 + (1 : Int32)) (xf_130 M (0 : Int32) (xf_130 M (0 : Int32) v1 v3 (xf_30 M v3 (0 : Int32))) ((6 : Int32) + v3) (xf_30 M v3 (1 : Int32)))) else (xg_129_4 n M (v3 + (1 : Int32)) (xf_130 M (0 : Int32) (xf_130 M (0 : Int32) v1 v3 (0 : Int32)) ((6 : Int32) + v3) (0 : Int32)))))
def xq_129_4 : Nat → ro_Mm → Int32 → Int64 → Prop
  | 0, _, _, _ => False
  | n + 1, M, v3, v1 => (((6 : Int32) ≤ v3 → True) ∧ (¬ ((6 : Int32) ≤ v3) → (((xf_29 M v3) → (xq_129_4 n M (v3 + (1 : Int32)) (xf_130 M (0 : Int32) (xf_130 M (0 : Int32) v1 v3 (xf_30 M v3 (0 : Int32))) ((6 : Int32) + v3) (xf_30 M v3 (1 : Int32))))) ∧ (¬ ((xf_29 M v3)) → (xq_129_4 n M (v3 + (1 : Int32)) (xf_130 M (0 : Int32) (xf_130 M (0 : Int32) v1 v3 (0 : Int32)) ((6 : Int32) + v3) (0 : Int32)))))))
theorem xt_129_4 {X : ro_Sx} {post : ro_Po} : ∀ (n : Nat) {M : ro_Mm} {v3 : Int32} {v1 : Int64} (hL : ro_lw M) (hp : xq_129_4 n M v3 v1) (hk : ro_w X 2 129 post 81 [(3, .int (xg_129_4 n M v3 v1).1), (1, .long (xg_129_4 n M v3 v1).2), (0, .ref 62)] [] M (0, 0)), ro_w X 2 129 post 4 [(3, .int v3), (1, .long v1), (0, .ref 62)] [] M (0, 0) := by
  intro n
  induction n with
  | zero => intro M v3 v1 hL hp hk; exact False.elim hp
  | succ n ih =>
    intro M v3 v1 hL hp hk
    rw [xq_129_4] at hp
    refine rs_iload_n ri_129_4 rfl rfl ?_
    refine rs_bipush (v := (6 : Int32)) ri_129_5 rfl (by decide) ?_
    refine rs_icmp_ge (t := 81) ri_129_7 rfl rfl (fun h1 => ?_) (fun h1 => ?_)
    · skip
      have e : xg_129_4 (n + 1) M v3 v1 = (v3, v1) := by rw [xg_129_4]; first | (simp only [if_pos h1]; done) | rfl
      rw [e] at hk
      exact ro_w_lv (ro_sub_c rfl (ro_sub_c rfl (ro_sub_c rfl (ro_sub_n rfl)))) hk
    · have hp := hp.2 h1
      refine rs_aload_n ri_129_10 rfl rfl ?_
      refine rs_gf (v := .ref 5) ri_129_11 rfl (by decide) (ro_kf (kd_62 hL.1)) rfl (rf_62_0 hL.1) ?_
      refine rs_iload_n ri_129_14 rfl rfl ?_
      refine rs_virt (As := [.int v3]) (r := []) ri_129_15 rfl (by decide) rm_29.2.2.2 rm_29.2.2.1 rfl rfl rfl (by decide) (ro_kf (kd_5 hL.1)) (Nat.le_of_ble_eq_true rfl) (by decide) (by decide) (xs_29 (X := X) hL.1) ?_
      rintro _ _ ⟨e1, e2⟩
      rw [e1, e2]
      show ro_w X _ 129 _ 18 [(3, .int v3), (1, .long v1), (0, .ref 62)] [.int (ro_b (xf_29 M v3))] M (0, 0)
      refine rs_istore (lv2 := [(4, .int (ro_b (xf_29 M v3))), (3, .int v3), (1, .long v1), (0, .ref 62)]) ri_129_18 rfl rm_129.1 (by decide) rfl ?_
      refine rs_aload_n ri_129_20 rfl rfl ?_
      refine rs_iconst (v := (0 : Int32)) ri_129_21 rfl (by decide) ?_
      refine rs_lload_n ri_129_22 rfl rfl ?_
      refine rs_iload_n ri_129_23 rfl rfl ?_
      refine rs_iload ri_129_24 rfl rfl ?_
      refine rs_ifeq_c (t := 41) ri_129_26 rfl rfl (fun h2 => ?_) (fun h2 => ?_)
      · have hp := hp.2 h2
        refine rs_iconst (v := (0 : Int32)) ri_129_41 rfl (by decide) ?_
        refine rs_virt (As := [.int (0 : Int32), .long v1, .int v3, .int (0 : Int32)]) (r := []) ri_129_42 rfl (by decide) rm_130.2.2.2 rm_130.2.2.1 rfl rfl rfl (by decide) (ro_kf (kd_62 hL.1)) (Nat.le_of_ble_eq_true rfl) (by decide) (by decide) (xs_130 (X := X) hL) ?_
        rintro _ _ ⟨e1, e2⟩
        rw [e1, e2]
        show ro_w X _ 129 _ 45 [(4, .int (ro_b (xf_29 M v3))), (3, .int v3), (1, .long v1), (0, .ref 62)] [.long (xf_130 M (0 : Int32) v1 v3 (0 : Int32))] M (0, 0)
        refine rs_lstore_n (lv2 := [(1, .long (xf_130 M (0 : Int32) v1 v3 (0 : Int32))), (4, .int (ro_b (xf_29 M v3))), (3, .int v3), (0, .ref 62)]) ri_129_45 rfl rm_129.1 (by decide) rfl ?_
        refine rs_aload_n ri_129_46 rfl rfl ?_
        refine rs_iconst (v := (0 : Int32)) ri_129_47 rfl (by decide) ?_
        refine rs_lload_n ri_129_48 rfl rfl ?_
        refine rs_bipush (v := (6 : Int32)) ri_129_49 rfl (by decide) ?_
        refine rs_iload_n ri_129_51 rfl rfl ?_
        refine rs_iadd (r := ((6 : Int32) + v3)) ri_129_52 rfl rfl ?_
        refine rs_iload ri_129_53 rfl rfl ?_
        refine rs_ifeq_c (t := 70) ri_129_55 rfl rfl (fun h3 => ?_) (fun h3 => absurd h3 h2)
        refine rs_iconst (v := (0 : Int32)) ri_129_70 rfl (by decide) ?_
        refine rs_virt (As := [.int (0 : Int32), .long (xf_130 M (0 : Int32) v1 v3 (0 : Int32)), .int ((6 : Int32) + v3), .int (0 : Int32)]) (r := []) ri_129_71 rfl (by decide) rm_130.2.2.2 rm_130.2.2.1 rfl rfl rfl (by decide) (ro_kf (kd_62 hL.1)) (Nat.le_of_ble_eq_true rfl) (by decide) (by decide) (xs_130 (X := X) hL) ?_
        rintro _ _ ⟨e1, e2⟩
        rw [e1, e2]
        show ro_w X _ 129 _ 74 [(1, .long (xf_130 M (0 : Int32) v1 v3 (0 : Int32))), (4, .int (ro_b (xf_29 M v3))), (3, .int v3), (0, .ref 62)] [.long (xf_130 M (0 : Int32) (xf_130 M (0 : Int32) v1 v3 (0 : Int32)) ((6 : Int32) + v3) (0 : Int32))] M (0, 0)
        refine rs_lstore_n (lv2 := [(1, .long (xf_130 M (0 : Int32) (xf_130 M (0 : Int32) v1 v3 (0 : Int32)) ((6 : Int32) + v3) (0 : Int32))), (4, .int (ro_b (xf_29 M v3))), (3, .int v3), (0, .ref 62)]) ri_129_74 rfl rm_129.1 (by decide) rfl ?_
        refine rs_iinc (v := (v3 + (1 : Int32))) (lv2 := [(3, .int (v3 + (1 : Int32))), (1, .long (xf_130 M (0 : Int32) (xf_130 M (0 : Int32) v1 v3 (0 : Int32)) ((6 : Int32) + v3) (0 : Int32))), (4, .int (ro_b (xf_29 M v3))), (0, .ref 62)]) ri_129_75 rfl rfl rfl rm_129.1 (by decide) rfl ?_
        refine rs_goto (t := 4) ri_129_78 rfl ?_
        have e : xg_129_4 (n + 1) M v3 v1 = xg_129_4 n M (v3 + (1 : Int32)) (xf_130 M (0 : Int32) (xf_130 M (0 : Int32) v1 v3 (0 : Int32)) ((6 : Int32) + v3) (0 : Int32)) := by rw [xg_129_4]; first | (simp only [if_neg h1, if_neg h2]; done) | rfl
        rw [e] at hk
        exact ro_w_lv (ro_sub_c rfl (ro_sub_c rfl (ro_sub_c rfl (ro_sub_n rfl)))) (ih hL  hp hk)
      · have hp := hp.1 h2
        refine rs_aload_n ri_129_29 rfl rfl ?_
        refine rs_gf (v := .ref 5) ri_129_30 rfl (by decide) (ro_kf (kd_62 hL.1)) rfl (rf_62_0 hL.1) ?_
        refine rs_iload_n ri_129_33 rfl rfl ?_
        refine rs_iconst (v := (0 : Int32)) ri_129_34 rfl (by decide) ?_
        refine rs_virt (As := [.int v3, .int (0 : Int32)]) (r := [.int v3, .long v1, .int (0 : Int32), .ref 62]) ri_129_35 rfl (by decide) rm_30.2.2.2 rm_30.2.2.1 rfl rfl rfl (by decide) (ro_kf (kd_5 hL.1)) (Nat.le_of_ble_eq_true rfl) (by decide) (by decide) (xs_30 (X := X) hL.1) ?_
        rintro _ _ ⟨e1, e2⟩
        rw [e1, e2]
        show ro_w X _ 129 _ 38 [(4, .int (ro_b (xf_29 M v3))), (3, .int v3), (1, .long v1), (0, .ref 62)] [.int (xf_30 M v3 (0 : Int32)), .int v3, .long v1, .int (0 : Int32), .ref 62] M (0, 0)
        refine rs_goto (t := 42) ri_129_38 rfl ?_
        refine rs_virt (As := [.int (0 : Int32), .long v1, .int v3, .int (xf_30 M v3 (0 : Int32))]) (r := []) ri_129_42 rfl (by decide) rm_130.2.2.2 rm_130.2.2.1 rfl rfl rfl (by decide) (ro_kf (kd_62 hL.1)) (Nat.le_of_ble_eq_true rfl) (by decide) (by decide) (xs_130 (X := X) hL) ?_
        rintro _ _ ⟨e1, e2⟩
        rw [e1, e2]
        show ro_w X _ 129 _ 45 [(4, .int (ro_b (xf_29 M v3))), (3, .int v3), (1, .long v1), (0, .ref 62)] [.long (xf_130 M (0 : Int32) v1 v3 (xf_30 M v3 (0 : Int32)))] M (0, 0)
        refine rs_lstore_n (lv2 := [(1, .long (xf_130 M (0 : Int32) v1 v3 (xf_30 M v3 (0 : Int32)))), (4, .int (ro_b (xf_29 M v3))), (3, .int v3), (0, .ref 62)]) ri_129_45 rfl rm_129.1 (by decide) rfl ?_
        refine rs_aload_n ri_129_46 rfl rfl ?_
        refine rs_iconst (v := (0 : Int32)) ri_129_47 rfl (by decide) ?_
        refine rs_lload_n ri_129_48 rfl rfl ?_
        refine rs_bipush (v := (6 : Int32)) ri_129_49 rfl (by decide) ?_
        refine rs_iload_n ri_129_51 rfl rfl ?_
        refine rs_iadd (r := ((6 : Int32) + v3)) ri_129_52 rfl rfl ?_
        refine rs_iload ri_129_53 rfl rfl ?_
        refine rs_ifeq_c (t := 70) ri_129_55 rfl rfl (fun h4 => absurd h2 h4) (fun h4 => ?_)
        refine rs_aload_n ri_129_58 rfl rfl ?_
        refine rs_gf (v := .ref 5) ri_129_59 rfl (by decide) (ro_kf (kd_62 hL.1)) rfl (rf_62_0 hL.1) ?_
        refine rs_iload_n ri_129_62 rfl rfl ?_
        refine rs_iconst (v := (1 : Int32)) ri_129_63 rfl (by decide) ?_
        refine rs_virt (As := [.int v3, .int (1 : Int32)]) (r := [.int ((6 : Int32) + v3), .long (xf_130 M (0 : Int32) v1 v3 (xf_30 M v3 (0 : Int32))), .int (0 : Int32), .ref 62]) ri_129_64 rfl (by decide) rm_30.2.2.2 rm_30.2.2.1 rfl rfl rfl (by decide) (ro_kf (kd_5 hL.1)) (Nat.le_of_ble_eq_true rfl) (by decide) (by decide) (xs_30 (X := X) hL.1) ?_
        rintro _ _ ⟨e1, e2⟩
        rw [e1, e2]
        show ro_w X _ 129 _ 67 [(1, .long (xf_130 M (0 : Int32) v1 v3 (xf_30 M v3 (0 : Int32)))), (4, .int (ro_b (xf_29 M v3))), (3, .int v3), (0, .ref 62)] [.int (xf_30 M v3 (1 : Int32)), .int ((6 : Int32) + v3), .long (xf_130 M (0 : Int32) v1 v3 (xf_30 M v3 (0 : Int32))), .int (0 : Int32), .ref 62] M (0, 0)
        refine rs_goto (t := 71) ri_129_67 rfl ?_
        refine rs_virt (As := [.int (0 : Int32), .long (xf_130 M (0 : Int32) v1 v3 (xf_30 M v3 (0 : Int32))), .int ((6 : Int32) + v3), .int (xf_30 M v3 (1 : Int32))]) (r := []) ri_129_71 rfl (by decide) rm_130.2.2.2 rm_130.2.2.1 rfl rfl rfl (by decide) (ro_kf (kd_62 hL.1)) (Nat.le_of_ble_eq_true rfl) (by decide) (by decide) (xs_130 (X := X) hL) ?_
        rintro _ _ ⟨e1, e2⟩
        rw [e1, e2]
        show ro_w X _ 129 _ 74 [(1, .long (xf_130 M (0 : Int32) v1 v3 (xf_30 M v3 (0 : Int32)))), (4, .int (ro_b (xf_29 M v3))), (3, .int v3), (0, .ref 62)] [.long (xf_130 M (0 : Int32) (xf_130 M (0 : Int32) v1 v3 (xf_30 M v3 (0 : Int32))) ((6 : Int32) + v3) (xf_30 M v3 (1 : Int32)))] M (0, 0)
        refine rs_lstore_n (lv2 := [(1, .long (xf_130 M (0 : Int32) (xf_130 M (0 : Int32) v1 v3 (xf_30 M v3 (0 : Int32))) ((6 : Int32) + v3) (xf_30 M v3 (1 : Int32)))), (4, .int (ro_b (xf_29 M v3))), (3, .int v3), (0, .ref 62)]) ri_129_74 rfl rm_129.1 (by decide) rfl ?_
        refine rs_iinc (v := (v3 + (1 : Int32))) (lv2 := [(3, .int (v3 + (1 : Int32))), (1, .long (xf_130 M (0 : Int32) (xf_130 M (0 : Int32) v1 v3 (xf_30 M v3 (0 : Int32))) ((6 : Int32) + v3) (xf_30 M v3 (1 : Int32)))), (4, .int (ro_b (xf_29 M v3))), (0, .ref 62)]) ri_129_75 rfl rfl rfl rm_129.1 (by decide) rfl ?_
        refine rs_goto (t := 4) ri_129_78 rfl ?_
        have e : xg_129_4 (n + 1) M v3 v1 = xg_129_4 n M (v3 + (1 : Int32)) (xf_130 M (0 : Int32) (xf_130 M (0 : Int32) v1 v3 (xf_30 M v3 (0 : Int32))) ((6 : Int32) + v3) (xf_30 M v3 (1 : Int32))) := by rw [xg_129_4]; first | (simp only [if_neg h1, if_pos h2]; done) | rfl
        rw [e] at hk
        exact ro_w_lv (ro_sub_c rfl (ro_sub_c rfl (ro_sub_c rfl (ro_sub_n rfl)))) (ih hL  hp hk)
/-- RefusedOnce$Ways.startKey()J -/
noncomputable def xf_129 (M : ro_Mm) : Int64 := (xg_129_4 lp_N M (0 : Int32) (0 : Int64)).2
def xp_129 (M : ro_Mm) : Prop := (xq_129_4 lp_N M (0 : Int32) (0 : Int64) ∧ True)
theorem xs_129 {X : ro_Sx} {M : ro_Mm} (hL : ro_lw M) (hp : xp_129 M) : ro_cwp X 3 129 [.ref 62] M (fun v M2 => v = some (.long (xf_129 M)) ∧ M2 = M) := by
  refine rs_begin (lv0 := [(0, .ref 62)]) (by decide) rfl (by rw [rm_129.1]; exact Nat.le_of_ble_eq_true rfl) rfl ?_
  unfold xp_129 at hp
  refine rs_lconst (v := (0 : Int64)) ri_129_0 rfl rfl ?_
  refine rs_lstore_n (lv2 := [(1, .long (0 : Int64)), (0, .ref 62)]) ri_129_1 rfl rm_129.1 (by decide) rfl ?_
  refine rs_iconst (v := (0 : Int32)) ri_129_2 rfl (by decide) ?_
  refine rs_istore_n (lv2 := [(3, .int (0 : Int32)), (1, .long (0 : Int64)), (0, .ref 62)]) ri_129_3 rfl rm_129.1 (by decide) rfl ?_
  obtain ⟨q4, hp⟩ := hp
  refine xt_129_4 lp_N hL q4 ?_
  refine rs_lload_n ri_129_81 rfl rfl ?_
  refine rs_lret ri_129_82 rm_129.2.1 (by decide) ?_
  exact ⟨by rfl, by rfl⟩
/-- a loop of RefusedOnce$Ways.reach(JIII)V -/
noncomputable def xg_131_27 : Nat → ro_Mm → Int32 → Int32 → Int32 → Int64 → Int32 → Int32 → Int32 → Bool × Int32 × Int32 × ro_Mm
  | 0, M, v8, v7, v6, v1, v3, v4, v5 => (false, v8, v7, M)
  | n + 1, M, v8, v7, v6, v1, v3, v4, v5 => (if (8192 : Int32) ≤ v8 then (false, v8, v7, M) else (if v7 < (0 : Int32) then (false, v8, v7, M) else (if (M.2.1 (lnt M) 4) ≤ v7 then (false, v8, v7, M) else (if (8192 : Int32) ≤ v7 then (false, v8, v7, M) else (if (lg_cmp (M.2.2.1 ((lnt M) + 1) (v7.toNatClampNeg)) v1) = (0 : Int32) then (true, v8, v7, (ro_sI (ro_sI (ro_sI M ((lnt M) + 2) (v7.toNatClampNeg) ((M.2.1 ((lnt M) + 2) (v7.toNatClampNeg)) + v3)) ((lnt M) + 3) (v7.toNatClampNeg) (ro_min ((ro_sI M ((lnt M) + 2) (v7.toNatClampNeg) ((M.2.1 ((lnt M) + 2) (v7.toNatClampNeg)) + v3)).2.1 ((lnt M) + 3) (v7.toNatClampNeg)) v4)) ((lnt M) + 4) (v7.toNatClampNeg) (((ro_sI (ro_sI M ((lnt M) + 2) (v7.toNatClampNeg) ((M.2.1 ((lnt M) + 2) (v7.toNatClampNeg)) + v3)) ((lnt M) + 3) (v7.toNatClampNeg) (ro_min ((ro_sI M ((lnt M) + 2) (v7.toNatClampNeg) ((M.2.1 ((lnt M) + 2) (v7.toNatClampNeg)) + v3)).2.1 ((lnt M) + 3) (v7.toNatClampNeg)) v4)).2.1 ((lnt M) + 4) (v7.toNatClampNeg)) &&& v5))) else (xg_131_27 n M (v8 + (1 : Int32)) ((M.2.1 152 (v7.toNatClampNeg)) - (1 : Int32)) v6 v1 v3 v4 v5))))))
def xq_131_27 : Nat → ro_Mm → Int32 → Int32 → Int32 → Int64 → Int32 → Int32 → Int32 → Prop
  | 0, _, _, _, _, _, _, _, _ => False
  | n + 1, M, v8, v7, v6, v1, v3, v4, v5 => (((8192 : Int32) ≤ v8 → True) ∧ (¬ ((8192 : Int32) ≤ v8) → ((v7 < (0 : Int32) → True) ∧ (¬ (v7 < (0 : Int32)) → (((M.2.1 (lnt M) 4) ≤ v7 → True) ∧ (¬ ((M.2.1 (lnt M) 4) ≤ v7) → (((8192 : Int32) ≤ v7 → True) ∧ (¬ ((8192 : Int32) ≤ v7) → (((lg_cmp (M.2.2.1 ((lnt M) + 1) (v7.toNatClampNeg)) v1) = (0 : Int32) → True) ∧ (¬ ((lg_cmp (M.2.2.1 ((lnt M) + 1) (v7.toNatClampNeg)) v1) = (0 : Int32)) → (xq_131_27 n M (v8 + (1 : Int32)) ((M.2.1 152 (v7.toNatClampNeg)) - (1 : Int32)) v6 v1 v3 v4 v5)))))))))))
set_option maxHeartbeats 2000000 in
theorem xt_131_27 {X : ro_Sx} {post : ro_Po} : ∀ (n : Nat) {M : ro_Mm} {v8 : Int32} {v7 : Int32} {v6 : Int32} {v1 : Int64} {v3 : Int32} {v4 : Int32} {v5 : Int32} (hL : ro_lw M) (hp : xq_131_27 n M v8 v7 v6 v1 v3 v4 v5) (hk : ¬ (xg_131_27 n M v8 v7 v6 v1 v3 v4 v5).1 = true → ro_w X 1 131 post 147 [(8, .int (xg_131_27 n M v8 v7 v6 v1 v3 v4 v5).2.1), (7, .int (xg_131_27 n M v8 v7 v6 v1 v3 v4 v5).2.2.1), (6, .int v6), (0, .ref 62), (1, .long v1), (3, .int v3), (4, .int v4), (5, .int v5)] [] (xg_131_27 n M v8 v7 v6 v1 v3 v4 v5).2.2.2 (0, 0)) (hr : (xg_131_27 n M v8 v7 v6 v1 v3 v4 v5).1 = true → post (none) (xg_131_27 n M v8 v7 v6 v1 v3 v4 v5).2.2.2), ro_w X 1 131 post 27 [(8, .int v8), (7, .int v7), (6, .int v6), (0, .ref 62), (1, .long v1), (3, .int v3), (4, .int v4), (5, .int v5)] [] M (0, 0) := by
  intro n
  induction n with
  | zero => intro M v8 v7 v6 v1 v3 v4 v5 hL hp hk hr; exact False.elim hp
  | succ n ih =>
    intro M v8 v7 v6 v1 v3 v4 v5 hL hp hk hr
    rw [xq_131_27] at hp
    refine rs_iload ri_131_27 rfl rfl ?_
    refine rs_sipush (v := (8192 : Int32)) ri_131_29 rfl (by decide) ?_
    refine rs_icmp_ge (t := 147) ri_131_32 rfl rfl (fun h3 => ?_) (fun h3 => ?_)
    · skip
      have e : xg_131_27 (n + 1) M v8 v7 v6 v1 v3 v4 v5 = (false, v8, v7, M) := by rw [xg_131_27]; first | (simp only [if_pos h3]; done) | rfl
      rw [e] at hk hr
      exact ro_w_lv (ro_sub_c rfl (ro_sub_c rfl (ro_sub_c rfl (ro_sub_c rfl (ro_sub_c rfl (ro_sub_c rfl (ro_sub_c rfl (ro_sub_c rfl (ro_sub_n rfl))))))))) (hk (fun z => Bool.noConfusion z))
    · have hp := hp.2 h3
      refine rs_iload ri_131_35 rfl rfl ?_
      refine rs_if_lt (t := 147) ri_131_37 rfl rfl (fun h4 => ?_) (fun h4 => ?_)
      · skip
        have e : xg_131_27 (n + 1) M v8 v7 v6 v1 v3 v4 v5 = (false, v8, v7, M) := by rw [xg_131_27]; first | (simp only [if_neg h3, if_pos h4]; done) | rfl
        rw [e] at hk hr
        exact ro_w_lv (ro_sub_c rfl (ro_sub_c rfl (ro_sub_c rfl (ro_sub_c rfl (ro_sub_c rfl (ro_sub_c rfl (ro_sub_c rfl (ro_sub_c rfl (ro_sub_n rfl))))))))) (hk (fun z => Bool.noConfusion z))
      · have hp := hp.2 h4
        refine rs_iload ri_131_40 rfl rfl ?_
        refine rs_aload_n ri_131_42 rfl rfl ?_
        refine rs_gf (v := .ref (lnt M)) ri_131_43 rfl (by decide) (ro_kf (kd_62 hL.1)) rfl (lnt_r hL) ?_
        refine rs_gf (v := .int (M.2.1 (lnt M) 4)) ri_131_46 rfl (ro_il4 (lnt_il hL)) (ro_kf (il_kd hL.1 (lnt_il hL))) rfl rfl ?_
        refine rs_icmp_ge (t := 147) ri_131_49 rfl rfl (fun h5 => ?_) (fun h5 => ?_)
        · skip
          have e : xg_131_27 (n + 1) M v8 v7 v6 v1 v3 v4 v5 = (false, v8, v7, M) := by rw [xg_131_27]; first | (simp only [if_neg h3, if_neg h4, if_pos h5]; done) | rfl
          rw [e] at hk hr
          exact ro_w_lv (ro_sub_c rfl (ro_sub_c rfl (ro_sub_c rfl (ro_sub_c rfl (ro_sub_c rfl (ro_sub_c rfl (ro_sub_c rfl (ro_sub_c rfl (ro_sub_n rfl))))))))) (hk (fun z => Bool.noConfusion z))
        · have hp := hp.2 h5
          refine rs_iload ri_131_52 rfl rfl ?_
          refine rs_sipush (v := (8192 : Int32)) ri_131_54 rfl (by decide) ?_
          refine rs_icmp_ge (t := 147) ri_131_57 rfl rfl (fun h6 => ?_) (fun h6 => ?_)
          · skip
            have e : xg_131_27 (n + 1) M v8 v7 v6 v1 v3 v4 v5 = (false, v8, v7, M) := by rw [xg_131_27]; first | (simp only [if_neg h3, if_neg h4, if_neg h5, if_pos h6]; done) | rfl
            rw [e] at hk hr
            exact ro_w_lv (ro_sub_c rfl (ro_sub_c rfl (ro_sub_c rfl (ro_sub_c rfl (ro_sub_c rfl (ro_sub_c rfl (ro_sub_c rfl (ro_sub_c rfl (ro_sub_n rfl))))))))) (hk (fun z => Bool.noConfusion z))
          · have hp := hp.2 h6
            refine rs_aload_n ri_131_60 rfl rfl ?_
            refine rs_gf (v := .ref (lnt M)) ri_131_61 rfl (by decide) (ro_kf (kd_62 hL.1)) rfl (lnt_r hL) ?_
            refine rs_gf (v := .ref ((lnt M) + 1)) ri_131_64 rfl (ro_il4 (lnt_il hL)) (ro_kf (il_kd hL.1 (lnt_il hL))) rfl (il_r0 hL.1 (lnt_il hL)) ?_
            refine rs_iload ri_131_67 rfl rfl ?_
            refine rs_lald (v := (M.2.2.1 ((lnt M) + 1) (v7.toNatClampNeg))) ri_131_69 rfl (by have := ro_il4 (lnt_il hL); omega) (il_kd1 hL.1 (lnt_il hL)) (vp_in_iff.mpr ⟨(ro_lo1 h4), (ro_hi2 h6 (by decide))⟩) rfl ?_
            refine rs_lload_n ri_131_70 rfl rfl ?_
            refine rs_lcmp (r := (lg_cmp (M.2.2.1 ((lnt M) + 1) (v7.toNatClampNeg)) v1)) ri_131_71 rfl rfl ?_
            refine rs_if_ne (t := 130) ri_131_72 rfl rfl (fun h7 => ?_) (fun h7 => ?_)
            · have hp := hp.2 h7
              refine rs_aload_n ri_131_130 rfl rfl ?_
              refine rs_gf (v := .ref 152) ri_131_131 rfl (by decide) (ro_kf (kd_62 hL.1)) rfl (rf_62_7 hL.1) ?_
              refine rs_iload ri_131_134 rfl rfl ?_
              refine rs_iald (v := (M.2.1 152 (v7.toNatClampNeg))) ri_131_136 rfl (by decide) (kd_152 hL.1) (vp_in_iff.mpr ⟨(ro_lo1 h4), (ro_hi2 h6 (by decide))⟩) rfl ?_
              refine rs_iconst (v := (1 : Int32)) ri_131_137 rfl (by decide) ?_
              refine rs_isub (r := ((M.2.1 152 (v7.toNatClampNeg)) - (1 : Int32))) ri_131_138 rfl rfl ?_
              refine rs_istore (lv2 := [(7, .int ((M.2.1 152 (v7.toNatClampNeg)) - (1 : Int32))), (8, .int v8), (6, .int v6), (0, .ref 62), (1, .long v1), (3, .int v3), (4, .int v4), (5, .int v5)]) ri_131_139 rfl rm_131.1 (by decide) rfl ?_
              refine rs_iinc (v := (v8 + (1 : Int32))) (lv2 := [(8, .int (v8 + (1 : Int32))), (7, .int ((M.2.1 152 (v7.toNatClampNeg)) - (1 : Int32))), (6, .int v6), (0, .ref 62), (1, .long v1), (3, .int v3), (4, .int v4), (5, .int v5)]) ri_131_141 rfl rfl rfl rm_131.1 (by decide) rfl ?_
              refine rs_goto (t := 27) ri_131_144 rfl ?_
              have e : xg_131_27 (n + 1) M v8 v7 v6 v1 v3 v4 v5 = xg_131_27 n M (v8 + (1 : Int32)) ((M.2.1 152 (v7.toNatClampNeg)) - (1 : Int32)) v6 v1 v3 v4 v5 := by rw [xg_131_27]; first | (simp only [if_neg h3, if_neg h4, if_neg h5, if_neg h6, if_neg h7]; done) | rfl
              rw [e] at hk hr
              exact ro_w_lv (ro_sub_c rfl (ro_sub_c rfl (ro_sub_c rfl (ro_sub_c rfl (ro_sub_c rfl (ro_sub_c rfl (ro_sub_c rfl (ro_sub_c rfl (ro_sub_n rfl))))))))) (ih hL  hp hk hr)
            · skip
              refine rs_aload_n ri_131_75 rfl rfl ?_
              refine rs_gf (v := .ref (lnt M)) ri_131_76 rfl (by decide) (ro_kf (kd_62 hL.1)) rfl (lnt_r hL) ?_
              refine rs_gf (v := .ref ((lnt M) + 2)) ri_131_79 rfl (ro_il4 (lnt_il hL)) (ro_kf (il_kd hL.1 (lnt_il hL))) rfl (il_r1 hL.1 (lnt_il hL)) ?_
              refine rs_iload ri_131_82 rfl rfl ?_
              refine rs_dup2 ri_131_84 rfl rfl rfl ?_
              refine rs_iald (v := (M.2.1 ((lnt M) + 2) (v7.toNatClampNeg))) ri_131_85 rfl (by have := ro_il4 (lnt_il hL); omega) (il_kd2 hL.1 (lnt_il hL)) (vp_in_iff.mpr ⟨(ro_lo1 h4), (ro_hi2 h6 (by decide))⟩) rfl ?_
              refine rs_iload_n ri_131_86 rfl rfl ?_
              refine rs_iadd (r := ((M.2.1 ((lnt M) + 2) (v7.toNatClampNeg)) + v3)) ri_131_87 rfl rfl ?_
              refine rs_iast (j := v7.toNatClampNeg) ri_131_88 rfl (by have := ro_il4 (lnt_il hL); omega) (il_kd2 hL.1 (lnt_il hL)) (vp_in_iff.mpr ⟨(ro_lo1 h4), (ro_hi2 h6 (by decide))⟩) rfl ?_
              refine rs_aload_n ri_131_89 rfl rfl ?_
              refine rs_gf (v := .ref (lnt M)) ri_131_90 rfl (by decide) (ro_kf (kd_62 hL.1)) rfl (lnt_r hL) ?_
              refine rs_gf (v := .ref ((lnt M) + 3)) ri_131_93 rfl (ro_il4 (lnt_il hL)) (ro_kf (il_kd hL.1 (lnt_il hL))) rfl (il_r2 hL.1 (lnt_il hL)) ?_
              refine rs_iload ri_131_96 rfl rfl ?_
              refine rs_aload_n ri_131_98 rfl rfl ?_
              refine rs_gf (v := .ref (lnt M)) ri_131_99 rfl (by decide) (ro_kf (kd_62 hL.1)) rfl (lnt_r hL) ?_
              refine rs_gf (v := .ref ((lnt M) + 3)) ri_131_102 rfl (ro_il4 (lnt_il hL)) (ro_kf (il_kd hL.1 (lnt_il hL))) rfl (il_r2 hL.1 (lnt_il hL)) ?_
              refine rs_iload ri_131_105 rfl rfl ?_
              refine rs_iald (v := ((ro_sI M ((lnt M) + 2) (v7.toNatClampNeg) ((M.2.1 ((lnt M) + 2) (v7.toNatClampNeg)) + v3)).2.1 ((lnt M) + 3) (v7.toNatClampNeg))) ri_131_107 rfl (by have := ro_il4 (lnt_il hL); omega) (il_kd3 hL.1 (lnt_il hL)) (vp_in_iff.mpr ⟨(ro_lo1 h4), (ro_hi2 h6 (by decide))⟩) rfl ?_
              refine rs_iload ri_131_108 rfl rfl ?_
              refine rs_min (r := (ro_min ((ro_sI M ((lnt M) + 2) (v7.toNatClampNeg) ((M.2.1 ((lnt M) + 2) (v7.toNatClampNeg)) + v3)).2.1 ((lnt M) + 3) (v7.toNatClampNeg)) v4)) ri_131_110 rfl (Nat.le_of_ble_eq_true rfl) rfl ?_
              refine rs_iast (j := v7.toNatClampNeg) ri_131_113 rfl (by have := ro_il4 (lnt_il hL); omega) (il_kd3 hL.1 (lnt_il hL)) (vp_in_iff.mpr ⟨(ro_lo1 h4), (ro_hi2 h6 (by decide))⟩) rfl ?_
              refine rs_aload_n ri_131_114 rfl rfl ?_
              refine rs_gf (v := .ref (lnt M)) ri_131_115 rfl (by decide) (ro_kf (kd_62 hL.1)) rfl (lnt_r hL) ?_
              refine rs_gf (v := .ref ((lnt M) + 4)) ri_131_118 rfl (ro_il4 (lnt_il hL)) (ro_kf (il_kd hL.1 (lnt_il hL))) rfl (il_r3 hL.1 (lnt_il hL)) ?_
              refine rs_iload ri_131_121 rfl rfl ?_
              refine rs_dup2 ri_131_123 rfl rfl rfl ?_
              refine rs_iald (v := ((ro_sI (ro_sI M ((lnt M) + 2) (v7.toNatClampNeg) ((M.2.1 ((lnt M) + 2) (v7.toNatClampNeg)) + v3)) ((lnt M) + 3) (v7.toNatClampNeg) (ro_min ((ro_sI M ((lnt M) + 2) (v7.toNatClampNeg) ((M.2.1 ((lnt M) + 2) (v7.toNatClampNeg)) + v3)).2.1 ((lnt M) + 3) (v7.toNatClampNeg)) v4)).2.1 ((lnt M) + 4) (v7.toNatClampNeg))) ri_131_124 rfl (by have := ro_il4 (lnt_il hL); omega) (il_kd4 hL.1 (lnt_il hL)) (vp_in_iff.mpr ⟨(ro_lo1 h4), (ro_hi2 h6 (by decide))⟩) rfl ?_
              refine rs_iload ri_131_125 rfl rfl ?_
              refine rs_iand (r := (((ro_sI (ro_sI M ((lnt M) + 2) (v7.toNatClampNeg) ((M.2.1 ((lnt M) + 2) (v7.toNatClampNeg)) + v3)) ((lnt M) + 3) (v7.toNatClampNeg) (ro_min ((ro_sI M ((lnt M) + 2) (v7.toNatClampNeg) ((M.2.1 ((lnt M) + 2) (v7.toNatClampNeg)) + v3)).2.1 ((lnt M) + 3) (v7.toNatClampNeg)) v4)).2.1 ((lnt M) + 4) (v7.toNatClampNeg)) &&& v5)) ri_131_127 rfl rfl ?_
              refine rs_iast (j := v7.toNatClampNeg) ri_131_128 rfl (by have := ro_il4 (lnt_il hL); omega) (il_kd4 hL.1 (lnt_il hL)) (vp_in_iff.mpr ⟨(ro_lo1 h4), (ro_hi2 h6 (by decide))⟩) rfl ?_
              refine rs_ret ri_131_129 rm_131.2.1 (by decide) ?_
              have e : xg_131_27 (n + 1) M v8 v7 v6 v1 v3 v4 v5 = (true, v8, v7, (ro_sI (ro_sI (ro_sI M ((lnt M) + 2) (v7.toNatClampNeg) ((M.2.1 ((lnt M) + 2) (v7.toNatClampNeg)) + v3)) ((lnt M) + 3) (v7.toNatClampNeg) (ro_min ((ro_sI M ((lnt M) + 2) (v7.toNatClampNeg) ((M.2.1 ((lnt M) + 2) (v7.toNatClampNeg)) + v3)).2.1 ((lnt M) + 3) (v7.toNatClampNeg)) v4)) ((lnt M) + 4) (v7.toNatClampNeg) (((ro_sI (ro_sI M ((lnt M) + 2) (v7.toNatClampNeg) ((M.2.1 ((lnt M) + 2) (v7.toNatClampNeg)) + v3)) ((lnt M) + 3) (v7.toNatClampNeg) (ro_min ((ro_sI M ((lnt M) + 2) (v7.toNatClampNeg) ((M.2.1 ((lnt M) + 2) (v7.toNatClampNeg)) + v3)).2.1 ((lnt M) + 3) (v7.toNatClampNeg)) v4)).2.1 ((lnt M) + 4) (v7.toNatClampNeg)) &&& v5))) := by rw [xg_131_27]; first | (simp only [if_neg h3, if_neg h4, if_neg h5, if_neg h6, if_pos h7]; done) | rfl
              rw [e] at hk hr
              exact hr rfl
set_option maxHeartbeats 2000000 in
theorem xl_131_27 : ∀ (n : Nat) {M : ro_Mm} {v8 : Int32} {v7 : Int32} {v6 : Int32} {v1 : Int64} {v3 : Int32} {v4 : Int32} {v5 : Int32} (hL : ro_lw M) (hp : xq_131_27 n M v8 v7 v6 v1 v3 v4 v5), ro_lw (xg_131_27 n M v8 v7 v6 v1 v3 v4 v5).2.2.2 := by
  intro n
  induction n with
  | zero => intro M v8 v7 v6 v1 v3 v4 v5 hL hp; exact False.elim hp
  | succ n ih =>
    intro M v8 v7 v6 v1 v3 v4 v5 hL hp
    rw [xq_131_27] at hp
    rw [xg_131_27]
    by_cases h3 : (8192 : Int32) ≤ v8
    · have hp := hp.1 h3
      rw [if_pos h3]
      exact hL
    · have hp := hp.2 h3
      rw [if_neg h3]
      by_cases h4 : v7 < (0 : Int32)
      · have hp := hp.1 h4
        rw [if_pos h4]
        exact hL
      · have hp := hp.2 h4
        rw [if_neg h4]
        by_cases h5 : (M.2.1 (lnt M) 4) ≤ v7
        · have hp := hp.1 h5
          rw [if_pos h5]
          exact hL
        · have hp := hp.2 h5
          rw [if_neg h5]
          by_cases h6 : (8192 : Int32) ≤ v7
          · have hp := hp.1 h6
            rw [if_pos h6]
            exact hL
          · have hp := hp.2 h6
            rw [if_neg h6]
            by_cases h7 : (lg_cmp (M.2.2.1 ((lnt M) + 1) (v7.toNatClampNeg)) v1) = (0 : Int32)
            · have hp := hp.1 h7
              rw [if_pos h7]
              exact hL
            · have hp := hp.2 h7
              rw [if_neg h7]
              exact ih hL  hp
/-- RefusedOnce$Ways.reach(JIII)V -/
noncomputable def xm_131 (M : ro_Mm) (v1 : Int64) (v3 : Int32) (v4 : Int32) (v5 : Int32) : ro_Mm := (if (0 : Int32) ≤ (lg_cmp v1 (0 : Int64)) then (if (xg_131_27 lp_N M (0 : Int32) ((M.2.1 151 ((xf_132 M v1).toNatClampNeg)) - (1 : Int32)) (xf_132 M v1) v1 v3 v4 v5).1 = true then (xg_131_27 lp_N M (0 : Int32) ((M.2.1 151 ((xf_132 M v1).toNatClampNeg)) - (1 : Int32)) (xf_132 M v1) v1 v3 v4 v5).2.2.2 else (if ((xg_131_27 lp_N M (0 : Int32) ((M.2.1 151 ((xf_132 M v1).toNatClampNeg)) - (1 : Int32)) (xf_132 M v1) v1 v3 v4 v5).2.2.2.2.1 (lnt (xg_131_27 lp_N M (0 : Int32) ((M.2.1 151 ((xf_132 M v1).toNatClampNeg)) - (1 : Int32)) (xf_132 M v1) v1 v3 v4 v5).2.2.2) 4) < (0 : Int32) then (xg_131_27 lp_N M (0 : Int32) ((M.2.1 151 ((xf_132 M v1).toNatClampNeg)) - (1 : Int32)) (xf_132 M v1) v1 v3 v4 v5).2.2.2 else (if ((xg_131_27 lp_N M (0 : Int32) ((M.2.1 151 ((xf_132 M v1).toNatClampNeg)) - (1 : Int32)) (xf_132 M v1) v1 v3 v4 v5).2.2.2.2.1 (lnt (xg_131_27 lp_N M (0 : Int32) ((M.2.1 151 ((xf_132 M v1).toNatClampNeg)) - (1 : Int32)) (xf_132 M v1) v1 v3 v4 v5).2.2.2) 4) < (8192 : Int32) then (ro_sI (ro_sI (ro_sI (ro_sI (ro_sI (ro_sI (ro_sJ (xg_131_27 lp_N M (0 : Int32) ((M.2.1 151 ((xf_132 M v1).toNatClampNeg)) - (1 : Int32)) (xf_132 M v1) v1 v3 v4 v5).2.2.2 ((lnt (xg_131_27 lp_N M (0 : Int32) ((M.2.1 151 ((xf_132 M v1).toNatClampNeg)) - (1 : Int32)) (xf_132 M v1) v1 v3 v4 v5).2.2.2) + 1) (((xg_131_27 lp_N M (0 : Int32) ((M.2.1 151 ((xf_132 M v1).toNatClampNeg)) - (1 : Int32)) (xf_132 M v1) v1 v3 v4 v5).2.2.2.2.1 (lnt (xg_131_27 lp_N M (0 : Int32) ((M.2.1 151 ((xf_132 M v1).toNatClampNeg)) - (1 : Int32)) (xf_132 M v1) v1 v3 v4 v5).2.2.2) 4).toNatClampNeg) v1) ((lnt (xg_131_27 lp_N M (0 : Int32) ((M.2.1 151 ((xf_132 M v1).toNatClampNeg)) - (1 : Int32)) (xf_132 M v1) v1 v3 v4 v5).2.2.2) + 2) (((xg_131_27 lp_N M (0 : Int32) ((M.2.1 151 ((xf_132 M v1).toNatClampNeg)) - (1 : Int32)) (xf_132 M v1) v1 v3 v4 v5).2.2.2.2.1 (lnt (xg_131_27 lp_N M (0 : Int32) ((M.2.1 151 ((xf_132 M v1).toNatClampNeg)) - (1 : Int32)) (xf_132 M v1) v1 v3 v4 v5).2.2.2) 4).toNatClampNeg) v3) ((lnt (xg_131_27 lp_N M (0 : Int32) ((M.2.1 151 ((xf_132 M v1).toNatClampNeg)) - (1 : Int32)) (xf_132 M v1) v1 v3 v4 v5).2.2.2) + 3) (((xg_131_27 lp_N M (0 : Int32) ((M.2.1 151 ((xf_132 M v1).toNatClampNeg)) - (1 : Int32)) (xf_132 M v1) v1 v3 v4 v5).2.2.2.2.1 (lnt (xg_131_27 lp_N M (0 : Int32) ((M.2.1 151 ((xf_132 M v1).toNatClampNeg)) - (1 : Int32)) (xf_132 M v1) v1 v3 v4 v5).2.2.2) 4).toNatClampNeg) v4) ((lnt (xg_131_27 lp_N M (0 : Int32) ((M.2.1 151 ((xf_132 M v1).toNatClampNeg)) - (1 : Int32)) (xf_132 M v1) v1 v3 v4 v5).2.2.2) + 4) (((xg_131_27 lp_N M (0 : Int32) ((M.2.1 151 ((xf_132 M v1).toNatClampNeg)) - (1 : Int32)) (xf_132 M v1) v1 v3 v4 v5).2.2.2.2.1 (lnt (xg_131_27 lp_N M (0 : Int32) ((M.2.1 151 ((xf_132 M v1).toNatClampNeg)) - (1 : Int32)) (xf_132 M v1) v1 v3 v4 v5).2.2.2) 4).toNatClampNeg) v5) 152 (((xg_131_27 lp_N M (0 : Int32) ((M.2.1 151 ((xf_132 M v1).toNatClampNeg)) - (1 : Int32)) (xf_132 M v1) v1 v3 v4 v5).2.2.2.2.1 (lnt (xg_131_27 lp_N M (0 : Int32) ((M.2.1 151 ((xf_132 M v1).toNatClampNeg)) - (1 : Int32)) (xf_132 M v1) v1 v3 v4 v5).2.2.2) 4).toNatClampNeg) ((ro_sI (ro_sI (ro_sI (ro_sJ (xg_131_27 lp_N M (0 : Int32) ((M.2.1 151 ((xf_132 M v1).toNatClampNeg)) - (1 : Int32)) (xf_132 M v1) v1 v3 v4 v5).2.2.2 ((lnt (xg_131_27 lp_N M (0 : Int32) ((M.2.1 151 ((xf_132 M v1).toNatClampNeg)) - (1 : Int32)) (xf_132 M v1) v1 v3 v4 v5).2.2.2) + 1) (((xg_131_27 lp_N M (0 : Int32) ((M.2.1 151 ((xf_132 M v1).toNatClampNeg)) - (1 : Int32)) (xf_132 M v1) v1 v3 v4 v5).2.2.2.2.1 (lnt (xg_131_27 lp_N M (0 : Int32) ((M.2.1 151 ((xf_132 M v1).toNatClampNeg)) - (1 : Int32)) (xf_132 M v1) v1 v3 v4 v5).2.2.2) 4).toNatClampNeg) v1) ((lnt (xg_131_27 lp_N M (0 : Int32) ((M.2.1 151 ((xf_132 M v1).toNatClampNeg)) - (1 : Int32)) (xf_132 M v1) v1 v3 v4 v5).2.2.2) + 2) (((xg_131_27 lp_N M (0 : Int32) ((M.2.1 151 ((xf_132 M v1).toNatClampNeg)) - (1 : Int32)) (xf_132 M v1) v1 v3 v4 v5).2.2.2.2.1 (lnt (xg_131_27 lp_N M (0 : Int32) ((M.2.1 151 ((xf_132 M v1).toNatClampNeg)) - (1 : Int32)) (xf_132 M v1) v1 v3 v4 v5).2.2.2) 4).toNatClampNeg) v3) ((lnt (xg_131_27 lp_N M (0 : Int32) ((M.2.1 151 ((xf_132 M v1).toNatClampNeg)) - (1 : Int32)) (xf_132 M v1) v1 v3 v4 v5).2.2.2) + 3) (((xg_131_27 lp_N M (0 : Int32) ((M.2.1 151 ((xf_132 M v1).toNatClampNeg)) - (1 : Int32)) (xf_132 M v1) v1 v3 v4 v5).2.2.2.2.1 (lnt (xg_131_27 lp_N M (0 : Int32) ((M.2.1 151 ((xf_132 M v1).toNatClampNeg)) - (1 : Int32)) (xf_132 M v1) v1 v3 v4 v5).2.2.2) 4).toNatClampNeg) v4) ((lnt (xg_131_27 lp_N M (0 : Int32) ((M.2.1 151 ((xf_132 M v1).toNatClampNeg)) - (1 : Int32)) (xf_132 M v1) v1 v3 v4 v5).2.2.2) + 4) (((xg_131_27 lp_N M (0 : Int32) ((M.2.1 151 ((xf_132 M v1).toNatClampNeg)) - (1 : Int32)) (xf_132 M v1) v1 v3 v4 v5).2.2.2.2.1 (lnt (xg_131_27 lp_N M (0 : Int32) ((M.2.1 151 ((xf_132 M v1).toNatClampNeg)) - (1 : Int32)) (xf_132 M v1) v1 v3 v4 v5).2.2.2) 4).toNatClampNeg) v5).2.1 151 ((xf_132 M v1).toNatClampNeg))) (lnt (xg_131_27 lp_N M (0 : Int32) ((M.2.1 151 ((xf_132 M v1).toNatClampNeg)) - (1 : Int32)) (xf_132 M v1) v1 v3 v4 v5).2.2.2) 4 (((xg_131_27 lp_N M (0 : Int32) ((M.2.1 151 ((xf_132 M v1).toNatClampNeg)) - (1 : Int32)) (xf_132 M v1) v1 v3 v4 v5).2.2.2.2.1 (lnt (xg_131_27 lp_N M (0 : Int32) ((M.2.1 151 ((xf_132 M v1).toNatClampNeg)) - (1 : Int32)) (xf_132 M v1) v1 v3 v4 v5).2.2.2) 4) + (1 : Int32))) 151 ((xf_132 M v1).toNatClampNeg) (((xg_131_27 lp_N M (0 : Int32) ((M.2.1 151 ((xf_132 M v1).toNatClampNeg)) - (1 : Int32)) (xf_132 M v1) v1 v3 v4 v5).2.2.2.2.1 (lnt (xg_131_27 lp_N M (0 : Int32) ((M.2.1 151 ((xf_132 M v1).toNatClampNeg)) - (1 : Int32)) (xf_132 M v1) v1 v3 v4 v5).2.2.2) 4) + (1 : Int32))) else (xg_131_27 lp_N M (0 : Int32) ((M.2.1 151 ((xf_132 M v1).toNatClampNeg)) - (1 : Int32)) (xf_132 M v1) v1 v3 v4 v5).2.2.2))) else M)
def xp_131 (M : ro_Mm) (v1 : Int64) (v3 : Int32) (v4 : Int32) (v5 : Int32) : Prop := (((0 : Int32) ≤ (lg_cmp v1 (0 : Int64)) → (vp_in (xf_132 M v1) 1024 ∧ (xq_131_27 lp_N M (0 : Int32) ((M.2.1 151 ((xf_132 M v1).toNatClampNeg)) - (1 : Int32)) (xf_132 M v1) v1 v3 v4 v5 ∧ (((xg_131_27 lp_N M (0 : Int32) ((M.2.1 151 ((xf_132 M v1).toNatClampNeg)) - (1 : Int32)) (xf_132 M v1) v1 v3 v4 v5).1 = true → True) ∧ (¬ ((xg_131_27 lp_N M (0 : Int32) ((M.2.1 151 ((xf_132 M v1).toNatClampNeg)) - (1 : Int32)) (xf_132 M v1) v1 v3 v4 v5).1 = true) → ((((xg_131_27 lp_N M (0 : Int32) ((M.2.1 151 ((xf_132 M v1).toNatClampNeg)) - (1 : Int32)) (xf_132 M v1) v1 v3 v4 v5).2.2.2.2.1 (lnt (xg_131_27 lp_N M (0 : Int32) ((M.2.1 151 ((xf_132 M v1).toNatClampNeg)) - (1 : Int32)) (xf_132 M v1) v1 v3 v4 v5).2.2.2) 4) < (0 : Int32) → True) ∧ (¬ (((xg_131_27 lp_N M (0 : Int32) ((M.2.1 151 ((xf_132 M v1).toNatClampNeg)) - (1 : Int32)) (xf_132 M v1) v1 v3 v4 v5).2.2.2.2.1 (lnt (xg_131_27 lp_N M (0 : Int32) ((M.2.1 151 ((xf_132 M v1).toNatClampNeg)) - (1 : Int32)) (xf_132 M v1) v1 v3 v4 v5).2.2.2) 4) < (0 : Int32)) → ((((xg_131_27 lp_N M (0 : Int32) ((M.2.1 151 ((xf_132 M v1).toNatClampNeg)) - (1 : Int32)) (xf_132 M v1) v1 v3 v4 v5).2.2.2.2.1 (lnt (xg_131_27 lp_N M (0 : Int32) ((M.2.1 151 ((xf_132 M v1).toNatClampNeg)) - (1 : Int32)) (xf_132 M v1) v1 v3 v4 v5).2.2.2) 4) < (8192 : Int32) → (vp_in (xf_132 M v1) 1024 ∧ (vp_in (xf_132 M v1) 1024 ∧ True))) ∧ (¬ (((xg_131_27 lp_N M (0 : Int32) ((M.2.1 151 ((xf_132 M v1).toNatClampNeg)) - (1 : Int32)) (xf_132 M v1) v1 v3 v4 v5).2.2.2.2.1 (lnt (xg_131_27 lp_N M (0 : Int32) ((M.2.1 151 ((xf_132 M v1).toNatClampNeg)) - (1 : Int32)) (xf_132 M v1) v1 v3 v4 v5).2.2.2) 4) < (8192 : Int32)) → True))))))))) ∧ (¬ ((0 : Int32) ≤ (lg_cmp v1 (0 : Int64))) → True))
set_option maxHeartbeats 2000000 in
theorem xs_131 {X : ro_Sx} {M : ro_Mm} {v1 : Int64} {v3 : Int32} {v4 : Int32} {v5 : Int32} (hL : ro_lw M) (hp : xp_131 M v1 v3 v4 v5) : ro_cwp X 2 131 [.ref 62, .long v1, .int v3, .int v4, .int v5] M (fun v M2 => v = none ∧ M2 = xm_131 M v1 v3 v4 v5) := by
  refine rs_begin (lv0 := [(0, .ref 62), (1, .long v1), (3, .int v3), (4, .int v4), (5, .int v5)]) (by decide) rfl (by rw [rm_131.1]; exact Nat.le_of_ble_eq_true rfl) rfl ?_
  unfold xp_131 at hp
  refine rs_lload_n ri_131_0 rfl rfl ?_
  refine rs_lconst (v := (0 : Int64)) ri_131_1 rfl rfl ?_
  refine rs_lcmp (r := (lg_cmp v1 (0 : Int64))) ri_131_2 rfl rfl ?_
  refine rs_if_ge (t := 7) ri_131_3 rfl rfl (fun h1 => ?_) (fun h1 => ?_)
  · have hp := hp.1 h1
    refine rs_lload_n ri_131_7 rfl rfl ?_
    refine rs_stat (As := [.long v1]) (r := []) ri_131_8 rfl rm_132.2.2.2 rfl rfl rfl (Nat.le_of_ble_eq_true rfl) (by decide) (by decide) (xs_132 (X := X) hL.1) ?_
    rintro _ _ ⟨e1, e2⟩
    rw [e1, e2]
    show ro_w X _ 131 _ 11 [(0, .ref 62), (1, .long v1), (3, .int v3), (4, .int v4), (5, .int v5)] [.int (xf_132 M v1)] M (0, 0)
    refine rs_istore (lv2 := [(6, .int (xf_132 M v1)), (0, .ref 62), (1, .long v1), (3, .int v3), (4, .int v4), (5, .int v5)]) ri_131_11 rfl rm_131.1 (by decide) rfl ?_
    refine rs_aload_n ri_131_13 rfl rfl ?_
    refine rs_gf (v := .ref 151) ri_131_14 rfl (by decide) (ro_kf (kd_62 hL.1)) rfl (rf_62_6 hL.1) ?_
    refine rs_iload ri_131_17 rfl rfl ?_
    obtain ⟨q1, hp⟩ := hp
    refine rs_iald (v := (M.2.1 151 ((xf_132 M v1).toNatClampNeg))) ri_131_19 rfl (by decide) (kd_151 hL.1) q1 rfl ?_
    refine rs_iconst (v := (1 : Int32)) ri_131_20 rfl (by decide) ?_
    refine rs_isub (r := ((M.2.1 151 ((xf_132 M v1).toNatClampNeg)) - (1 : Int32))) ri_131_21 rfl rfl ?_
    refine rs_istore (lv2 := [(7, .int ((M.2.1 151 ((xf_132 M v1).toNatClampNeg)) - (1 : Int32))), (6, .int (xf_132 M v1)), (0, .ref 62), (1, .long v1), (3, .int v3), (4, .int v4), (5, .int v5)]) ri_131_22 rfl rm_131.1 (by decide) rfl ?_
    refine rs_iconst (v := (0 : Int32)) ri_131_24 rfl (by decide) ?_
    refine rs_istore (lv2 := [(8, .int (0 : Int32)), (7, .int ((M.2.1 151 ((xf_132 M v1).toNatClampNeg)) - (1 : Int32))), (6, .int (xf_132 M v1)), (0, .ref 62), (1, .long v1), (3, .int v3), (4, .int v4), (5, .int v5)]) ri_131_25 rfl rm_131.1 (by decide) rfl ?_
    obtain ⟨q7, hp⟩ := hp
    refine xt_131_27 lp_N hL q7 (fun h9 => ?_) (fun h9 => ?_)
    · have hp := hp.2 h9
      refine rs_aload_n ri_131_147 rfl rfl ?_
      refine rs_gf (v := .ref (lnt (xg_131_27 lp_N M (0 : Int32) ((M.2.1 151 ((xf_132 M v1).toNatClampNeg)) - (1 : Int32)) (xf_132 M v1) v1 v3 v4 v5).2.2.2)) ri_131_148 rfl (by decide) (ro_kf (kd_62 (xl_131_27 lp_N hL q7).1)) rfl (lnt_r (xl_131_27 lp_N hL q7)) ?_
      refine rs_gf (v := .int ((xg_131_27 lp_N M (0 : Int32) ((M.2.1 151 ((xf_132 M v1).toNatClampNeg)) - (1 : Int32)) (xf_132 M v1) v1 v3 v4 v5).2.2.2.2.1 (lnt (xg_131_27 lp_N M (0 : Int32) ((M.2.1 151 ((xf_132 M v1).toNatClampNeg)) - (1 : Int32)) (xf_132 M v1) v1 v3 v4 v5).2.2.2) 4)) ri_131_151 rfl (ro_il4 (lnt_il (xl_131_27 lp_N hL q7))) (ro_kf (il_kd (xl_131_27 lp_N hL q7).1 (lnt_il (xl_131_27 lp_N hL q7)))) rfl rfl ?_
      refine rs_istore (lv2 := [(8, .int ((xg_131_27 lp_N M (0 : Int32) ((M.2.1 151 ((xf_132 M v1).toNatClampNeg)) - (1 : Int32)) (xf_132 M v1) v1 v3 v4 v5).2.2.2.2.1 (lnt (xg_131_27 lp_N M (0 : Int32) ((M.2.1 151 ((xf_132 M v1).toNatClampNeg)) - (1 : Int32)) (xf_132 M v1) v1 v3 v4 v5).2.2.2) 4)), (7, .int (xg_131_27 lp_N M (0 : Int32) ((M.2.1 151 ((xf_132 M v1).toNatClampNeg)) - (1 : Int32)) (xf_132 M v1) v1 v3 v4 v5).2.2.1), (6, .int (xf_132 M v1)), (0, .ref 62), (1, .long v1), (3, .int v3), (4, .int v4), (5, .int v5)]) ri_131_154 rfl rm_131.1 (by decide) rfl ?_
      refine rs_iload ri_131_156 rfl rfl ?_
      refine rs_if_lt (t := 169) ri_131_158 rfl rfl (fun h10 => ?_) (fun h10 => ?_)
      · have hp := hp.1 h10
        refine rs_ret ri_131_169 rm_131.2.1 (by decide) ?_
        exact ⟨by rfl, by unfold xm_131; first | (simp only [if_pos h1, if_neg h9, if_pos h10]; done) | rfl⟩
      · have hp := hp.2 h10
        refine rs_iload ri_131_161 rfl rfl ?_
        refine rs_sipush (v := (8192 : Int32)) ri_131_163 rfl (by decide) ?_
        refine rs_icmp_lt (t := 170) ri_131_166 rfl rfl (fun h11 => ?_) (fun h11 => ?_)
        · have hp := hp.1 h11
          refine rs_aload_n ri_131_170 rfl rfl ?_
          refine rs_gf (v := .ref (lnt (xg_131_27 lp_N M (0 : Int32) ((M.2.1 151 ((xf_132 M v1).toNatClampNeg)) - (1 : Int32)) (xf_132 M v1) v1 v3 v4 v5).2.2.2)) ri_131_171 rfl (by decide) (ro_kf (kd_62 (xl_131_27 lp_N hL q7).1)) rfl (lnt_r (xl_131_27 lp_N hL q7)) ?_
          refine rs_gf (v := .ref ((lnt (xg_131_27 lp_N M (0 : Int32) ((M.2.1 151 ((xf_132 M v1).toNatClampNeg)) - (1 : Int32)) (xf_132 M v1) v1 v3 v4 v5).2.2.2) + 1)) ri_131_174 rfl (ro_il4 (lnt_il (xl_131_27 lp_N hL q7))) (ro_kf (il_kd (xl_131_27 lp_N hL q7).1 (lnt_il (xl_131_27 lp_N hL q7)))) rfl (il_r0 (xl_131_27 lp_N hL q7).1 (lnt_il (xl_131_27 lp_N hL q7))) ?_
          refine rs_iload ri_131_177 rfl rfl ?_
          refine rs_lload_n ri_131_179 rfl rfl ?_
          refine rs_last (j := ((xg_131_27 lp_N M (0 : Int32) ((M.2.1 151 ((xf_132 M v1).toNatClampNeg)) - (1 : Int32)) (xf_132 M v1) v1 v3 v4 v5).2.2.2.2.1 (lnt (xg_131_27 lp_N M (0 : Int32) ((M.2.1 151 ((xf_132 M v1).toNatClampNeg)) - (1 : Int32)) (xf_132 M v1) v1 v3 v4 v5).2.2.2) 4).toNatClampNeg) ri_131_180 rfl (by have := ro_il4 (lnt_il (xl_131_27 lp_N hL q7)); omega) (il_kd1 (xl_131_27 lp_N hL q7).1 (lnt_il (xl_131_27 lp_N hL q7))) (vp_in_iff.mpr ⟨(ro_lo1 h10), (ro_hi1 h11 (by decide))⟩) rfl ?_
          refine rs_aload_n ri_131_181 rfl rfl ?_
          refine rs_gf (v := .ref (lnt (xg_131_27 lp_N M (0 : Int32) ((M.2.1 151 ((xf_132 M v1).toNatClampNeg)) - (1 : Int32)) (xf_132 M v1) v1 v3 v4 v5).2.2.2)) ri_131_182 rfl (by decide) (ro_kf (kd_62 (xl_131_27 lp_N hL q7).1)) rfl (lnt_r (xl_131_27 lp_N hL q7)) ?_
          refine rs_gf (v := .ref ((lnt (xg_131_27 lp_N M (0 : Int32) ((M.2.1 151 ((xf_132 M v1).toNatClampNeg)) - (1 : Int32)) (xf_132 M v1) v1 v3 v4 v5).2.2.2) + 2)) ri_131_185 rfl (ro_il4 (lnt_il (xl_131_27 lp_N hL q7))) (ro_kf (il_kd (xl_131_27 lp_N hL q7).1 (lnt_il (xl_131_27 lp_N hL q7)))) rfl (il_r1 (xl_131_27 lp_N hL q7).1 (lnt_il (xl_131_27 lp_N hL q7))) ?_
          refine rs_iload ri_131_188 rfl rfl ?_
          refine rs_iload_n ri_131_190 rfl rfl ?_
          refine rs_iast (j := ((xg_131_27 lp_N M (0 : Int32) ((M.2.1 151 ((xf_132 M v1).toNatClampNeg)) - (1 : Int32)) (xf_132 M v1) v1 v3 v4 v5).2.2.2.2.1 (lnt (xg_131_27 lp_N M (0 : Int32) ((M.2.1 151 ((xf_132 M v1).toNatClampNeg)) - (1 : Int32)) (xf_132 M v1) v1 v3 v4 v5).2.2.2) 4).toNatClampNeg) ri_131_191 rfl (by have := ro_il4 (lnt_il (xl_131_27 lp_N hL q7)); omega) (il_kd2 (xl_131_27 lp_N hL q7).1 (lnt_il (xl_131_27 lp_N hL q7))) (vp_in_iff.mpr ⟨(ro_lo1 h10), (ro_hi1 h11 (by decide))⟩) rfl ?_
          refine rs_aload_n ri_131_192 rfl rfl ?_
          refine rs_gf (v := .ref (lnt (xg_131_27 lp_N M (0 : Int32) ((M.2.1 151 ((xf_132 M v1).toNatClampNeg)) - (1 : Int32)) (xf_132 M v1) v1 v3 v4 v5).2.2.2)) ri_131_193 rfl (by decide) (ro_kf (kd_62 (xl_131_27 lp_N hL q7).1)) rfl (lnt_r (xl_131_27 lp_N hL q7)) ?_
          refine rs_gf (v := .ref ((lnt (xg_131_27 lp_N M (0 : Int32) ((M.2.1 151 ((xf_132 M v1).toNatClampNeg)) - (1 : Int32)) (xf_132 M v1) v1 v3 v4 v5).2.2.2) + 3)) ri_131_196 rfl (ro_il4 (lnt_il (xl_131_27 lp_N hL q7))) (ro_kf (il_kd (xl_131_27 lp_N hL q7).1 (lnt_il (xl_131_27 lp_N hL q7)))) rfl (il_r2 (xl_131_27 lp_N hL q7).1 (lnt_il (xl_131_27 lp_N hL q7))) ?_
          refine rs_iload ri_131_199 rfl rfl ?_
          refine rs_iload ri_131_201 rfl rfl ?_
          refine rs_iast (j := ((xg_131_27 lp_N M (0 : Int32) ((M.2.1 151 ((xf_132 M v1).toNatClampNeg)) - (1 : Int32)) (xf_132 M v1) v1 v3 v4 v5).2.2.2.2.1 (lnt (xg_131_27 lp_N M (0 : Int32) ((M.2.1 151 ((xf_132 M v1).toNatClampNeg)) - (1 : Int32)) (xf_132 M v1) v1 v3 v4 v5).2.2.2) 4).toNatClampNeg) ri_131_203 rfl (by have := ro_il4 (lnt_il (xl_131_27 lp_N hL q7)); omega) (il_kd3 (xl_131_27 lp_N hL q7).1 (lnt_il (xl_131_27 lp_N hL q7))) (vp_in_iff.mpr ⟨(ro_lo1 h10), (ro_hi1 h11 (by decide))⟩) rfl ?_
          refine rs_aload_n ri_131_204 rfl rfl ?_
          refine rs_gf (v := .ref (lnt (xg_131_27 lp_N M (0 : Int32) ((M.2.1 151 ((xf_132 M v1).toNatClampNeg)) - (1 : Int32)) (xf_132 M v1) v1 v3 v4 v5).2.2.2)) ri_131_205 rfl (by decide) (ro_kf (kd_62 (xl_131_27 lp_N hL q7).1)) rfl (lnt_r (xl_131_27 lp_N hL q7)) ?_
          refine rs_gf (v := .ref ((lnt (xg_131_27 lp_N M (0 : Int32) ((M.2.1 151 ((xf_132 M v1).toNatClampNeg)) - (1 : Int32)) (xf_132 M v1) v1 v3 v4 v5).2.2.2) + 4)) ri_131_208 rfl (ro_il4 (lnt_il (xl_131_27 lp_N hL q7))) (ro_kf (il_kd (xl_131_27 lp_N hL q7).1 (lnt_il (xl_131_27 lp_N hL q7)))) rfl (il_r3 (xl_131_27 lp_N hL q7).1 (lnt_il (xl_131_27 lp_N hL q7))) ?_
          refine rs_iload ri_131_211 rfl rfl ?_
          refine rs_iload ri_131_213 rfl rfl ?_
          refine rs_iast (j := ((xg_131_27 lp_N M (0 : Int32) ((M.2.1 151 ((xf_132 M v1).toNatClampNeg)) - (1 : Int32)) (xf_132 M v1) v1 v3 v4 v5).2.2.2.2.1 (lnt (xg_131_27 lp_N M (0 : Int32) ((M.2.1 151 ((xf_132 M v1).toNatClampNeg)) - (1 : Int32)) (xf_132 M v1) v1 v3 v4 v5).2.2.2) 4).toNatClampNeg) ri_131_215 rfl (by have := ro_il4 (lnt_il (xl_131_27 lp_N hL q7)); omega) (il_kd4 (xl_131_27 lp_N hL q7).1 (lnt_il (xl_131_27 lp_N hL q7))) (vp_in_iff.mpr ⟨(ro_lo1 h10), (ro_hi1 h11 (by decide))⟩) rfl ?_
          refine rs_aload_n ri_131_216 rfl rfl ?_
          refine rs_gf (v := .ref 152) ri_131_217 rfl (by decide) (ro_kf (kd_62 (xl_131_27 lp_N hL q7).1)) rfl (rf_62_7 (xl_131_27 lp_N hL q7).1) ?_
          refine rs_iload ri_131_220 rfl rfl ?_
          refine rs_aload_n ri_131_222 rfl rfl ?_
          refine rs_gf (v := .ref 151) ri_131_223 rfl (by decide) (ro_kf (kd_62 (xl_131_27 lp_N hL q7).1)) rfl (rf_62_6 (xl_131_27 lp_N hL q7).1) ?_
          refine rs_iload ri_131_226 rfl rfl ?_
          obtain ⟨q11, hp⟩ := hp
          refine rs_iald (v := ((ro_sI (ro_sI (ro_sI (ro_sJ (xg_131_27 lp_N M (0 : Int32) ((M.2.1 151 ((xf_132 M v1).toNatClampNeg)) - (1 : Int32)) (xf_132 M v1) v1 v3 v4 v5).2.2.2 ((lnt (xg_131_27 lp_N M (0 : Int32) ((M.2.1 151 ((xf_132 M v1).toNatClampNeg)) - (1 : Int32)) (xf_132 M v1) v1 v3 v4 v5).2.2.2) + 1) (((xg_131_27 lp_N M (0 : Int32) ((M.2.1 151 ((xf_132 M v1).toNatClampNeg)) - (1 : Int32)) (xf_132 M v1) v1 v3 v4 v5).2.2.2.2.1 (lnt (xg_131_27 lp_N M (0 : Int32) ((M.2.1 151 ((xf_132 M v1).toNatClampNeg)) - (1 : Int32)) (xf_132 M v1) v1 v3 v4 v5).2.2.2) 4).toNatClampNeg) v1) ((lnt (xg_131_27 lp_N M (0 : Int32) ((M.2.1 151 ((xf_132 M v1).toNatClampNeg)) - (1 : Int32)) (xf_132 M v1) v1 v3 v4 v5).2.2.2) + 2) (((xg_131_27 lp_N M (0 : Int32) ((M.2.1 151 ((xf_132 M v1).toNatClampNeg)) - (1 : Int32)) (xf_132 M v1) v1 v3 v4 v5).2.2.2.2.1 (lnt (xg_131_27 lp_N M (0 : Int32) ((M.2.1 151 ((xf_132 M v1).toNatClampNeg)) - (1 : Int32)) (xf_132 M v1) v1 v3 v4 v5).2.2.2) 4).toNatClampNeg) v3) ((lnt (xg_131_27 lp_N M (0 : Int32) ((M.2.1 151 ((xf_132 M v1).toNatClampNeg)) - (1 : Int32)) (xf_132 M v1) v1 v3 v4 v5).2.2.2) + 3) (((xg_131_27 lp_N M (0 : Int32) ((M.2.1 151 ((xf_132 M v1).toNatClampNeg)) - (1 : Int32)) (xf_132 M v1) v1 v3 v4 v5).2.2.2.2.1 (lnt (xg_131_27 lp_N M (0 : Int32) ((M.2.1 151 ((xf_132 M v1).toNatClampNeg)) - (1 : Int32)) (xf_132 M v1) v1 v3 v4 v5).2.2.2) 4).toNatClampNeg) v4) ((lnt (xg_131_27 lp_N M (0 : Int32) ((M.2.1 151 ((xf_132 M v1).toNatClampNeg)) - (1 : Int32)) (xf_132 M v1) v1 v3 v4 v5).2.2.2) + 4) (((xg_131_27 lp_N M (0 : Int32) ((M.2.1 151 ((xf_132 M v1).toNatClampNeg)) - (1 : Int32)) (xf_132 M v1) v1 v3 v4 v5).2.2.2.2.1 (lnt (xg_131_27 lp_N M (0 : Int32) ((M.2.1 151 ((xf_132 M v1).toNatClampNeg)) - (1 : Int32)) (xf_132 M v1) v1 v3 v4 v5).2.2.2) 4).toNatClampNeg) v5).2.1 151 ((xf_132 M v1).toNatClampNeg))) ri_131_228 rfl (by decide) (kd_151 (xl_131_27 lp_N hL q7).1) q11 rfl ?_
          refine rs_iast (j := ((xg_131_27 lp_N M (0 : Int32) ((M.2.1 151 ((xf_132 M v1).toNatClampNeg)) - (1 : Int32)) (xf_132 M v1) v1 v3 v4 v5).2.2.2.2.1 (lnt (xg_131_27 lp_N M (0 : Int32) ((M.2.1 151 ((xf_132 M v1).toNatClampNeg)) - (1 : Int32)) (xf_132 M v1) v1 v3 v4 v5).2.2.2) 4).toNatClampNeg) ri_131_229 rfl (by decide) (kd_152 (xl_131_27 lp_N hL q7).1) (vp_in_iff.mpr ⟨(ro_lo1 h10), (ro_hi1 h11 (by decide))⟩) rfl ?_
          refine rs_aload_n ri_131_230 rfl rfl ?_
          refine rs_gf (v := .ref (lnt (xg_131_27 lp_N M (0 : Int32) ((M.2.1 151 ((xf_132 M v1).toNatClampNeg)) - (1 : Int32)) (xf_132 M v1) v1 v3 v4 v5).2.2.2)) ri_131_231 rfl (by decide) (ro_kf (kd_62 (xl_131_27 lp_N hL q7).1)) rfl (lnt_r (xl_131_27 lp_N hL q7)) ?_
          refine rs_iload ri_131_234 rfl rfl ?_
          refine rs_iconst (v := (1 : Int32)) ri_131_236 rfl (by decide) ?_
          refine rs_iadd (r := (((xg_131_27 lp_N M (0 : Int32) ((M.2.1 151 ((xf_132 M v1).toNatClampNeg)) - (1 : Int32)) (xf_132 M v1) v1 v3 v4 v5).2.2.2.2.1 (lnt (xg_131_27 lp_N M (0 : Int32) ((M.2.1 151 ((xf_132 M v1).toNatClampNeg)) - (1 : Int32)) (xf_132 M v1) v1 v3 v4 v5).2.2.2) 4) + (1 : Int32))) ri_131_237 rfl rfl ?_
          refine rs_pf (M2 := (ro_sI (ro_sI (ro_sI (ro_sI (ro_sI (ro_sJ (xg_131_27 lp_N M (0 : Int32) ((M.2.1 151 ((xf_132 M v1).toNatClampNeg)) - (1 : Int32)) (xf_132 M v1) v1 v3 v4 v5).2.2.2 ((lnt (xg_131_27 lp_N M (0 : Int32) ((M.2.1 151 ((xf_132 M v1).toNatClampNeg)) - (1 : Int32)) (xf_132 M v1) v1 v3 v4 v5).2.2.2) + 1) (((xg_131_27 lp_N M (0 : Int32) ((M.2.1 151 ((xf_132 M v1).toNatClampNeg)) - (1 : Int32)) (xf_132 M v1) v1 v3 v4 v5).2.2.2.2.1 (lnt (xg_131_27 lp_N M (0 : Int32) ((M.2.1 151 ((xf_132 M v1).toNatClampNeg)) - (1 : Int32)) (xf_132 M v1) v1 v3 v4 v5).2.2.2) 4).toNatClampNeg) v1) ((lnt (xg_131_27 lp_N M (0 : Int32) ((M.2.1 151 ((xf_132 M v1).toNatClampNeg)) - (1 : Int32)) (xf_132 M v1) v1 v3 v4 v5).2.2.2) + 2) (((xg_131_27 lp_N M (0 : Int32) ((M.2.1 151 ((xf_132 M v1).toNatClampNeg)) - (1 : Int32)) (xf_132 M v1) v1 v3 v4 v5).2.2.2.2.1 (lnt (xg_131_27 lp_N M (0 : Int32) ((M.2.1 151 ((xf_132 M v1).toNatClampNeg)) - (1 : Int32)) (xf_132 M v1) v1 v3 v4 v5).2.2.2) 4).toNatClampNeg) v3) ((lnt (xg_131_27 lp_N M (0 : Int32) ((M.2.1 151 ((xf_132 M v1).toNatClampNeg)) - (1 : Int32)) (xf_132 M v1) v1 v3 v4 v5).2.2.2) + 3) (((xg_131_27 lp_N M (0 : Int32) ((M.2.1 151 ((xf_132 M v1).toNatClampNeg)) - (1 : Int32)) (xf_132 M v1) v1 v3 v4 v5).2.2.2.2.1 (lnt (xg_131_27 lp_N M (0 : Int32) ((M.2.1 151 ((xf_132 M v1).toNatClampNeg)) - (1 : Int32)) (xf_132 M v1) v1 v3 v4 v5).2.2.2) 4).toNatClampNeg) v4) ((lnt (xg_131_27 lp_N M (0 : Int32) ((M.2.1 151 ((xf_132 M v1).toNatClampNeg)) - (1 : Int32)) (xf_132 M v1) v1 v3 v4 v5).2.2.2) + 4) (((xg_131_27 lp_N M (0 : Int32) ((M.2.1 151 ((xf_132 M v1).toNatClampNeg)) - (1 : Int32)) (xf_132 M v1) v1 v3 v4 v5).2.2.2.2.1 (lnt (xg_131_27 lp_N M (0 : Int32) ((M.2.1 151 ((xf_132 M v1).toNatClampNeg)) - (1 : Int32)) (xf_132 M v1) v1 v3 v4 v5).2.2.2) 4).toNatClampNeg) v5) 152 (((xg_131_27 lp_N M (0 : Int32) ((M.2.1 151 ((xf_132 M v1).toNatClampNeg)) - (1 : Int32)) (xf_132 M v1) v1 v3 v4 v5).2.2.2.2.1 (lnt (xg_131_27 lp_N M (0 : Int32) ((M.2.1 151 ((xf_132 M v1).toNatClampNeg)) - (1 : Int32)) (xf_132 M v1) v1 v3 v4 v5).2.2.2) 4).toNatClampNeg) ((ro_sI (ro_sI (ro_sI (ro_sJ (xg_131_27 lp_N M (0 : Int32) ((M.2.1 151 ((xf_132 M v1).toNatClampNeg)) - (1 : Int32)) (xf_132 M v1) v1 v3 v4 v5).2.2.2 ((lnt (xg_131_27 lp_N M (0 : Int32) ((M.2.1 151 ((xf_132 M v1).toNatClampNeg)) - (1 : Int32)) (xf_132 M v1) v1 v3 v4 v5).2.2.2) + 1) (((xg_131_27 lp_N M (0 : Int32) ((M.2.1 151 ((xf_132 M v1).toNatClampNeg)) - (1 : Int32)) (xf_132 M v1) v1 v3 v4 v5).2.2.2.2.1 (lnt (xg_131_27 lp_N M (0 : Int32) ((M.2.1 151 ((xf_132 M v1).toNatClampNeg)) - (1 : Int32)) (xf_132 M v1) v1 v3 v4 v5).2.2.2) 4).toNatClampNeg) v1) ((lnt (xg_131_27 lp_N M (0 : Int32) ((M.2.1 151 ((xf_132 M v1).toNatClampNeg)) - (1 : Int32)) (xf_132 M v1) v1 v3 v4 v5).2.2.2) + 2) (((xg_131_27 lp_N M (0 : Int32) ((M.2.1 151 ((xf_132 M v1).toNatClampNeg)) - (1 : Int32)) (xf_132 M v1) v1 v3 v4 v5).2.2.2.2.1 (lnt (xg_131_27 lp_N M (0 : Int32) ((M.2.1 151 ((xf_132 M v1).toNatClampNeg)) - (1 : Int32)) (xf_132 M v1) v1 v3 v4 v5).2.2.2) 4).toNatClampNeg) v3) ((lnt (xg_131_27 lp_N M (0 : Int32) ((M.2.1 151 ((xf_132 M v1).toNatClampNeg)) - (1 : Int32)) (xf_132 M v1) v1 v3 v4 v5).2.2.2) + 3) (((xg_131_27 lp_N M (0 : Int32) ((M.2.1 151 ((xf_132 M v1).toNatClampNeg)) - (1 : Int32)) (xf_132 M v1) v1 v3 v4 v5).2.2.2.2.1 (lnt (xg_131_27 lp_N M (0 : Int32) ((M.2.1 151 ((xf_132 M v1).toNatClampNeg)) - (1 : Int32)) (xf_132 M v1) v1 v3 v4 v5).2.2.2) 4).toNatClampNeg) v4) ((lnt (xg_131_27 lp_N M (0 : Int32) ((M.2.1 151 ((xf_132 M v1).toNatClampNeg)) - (1 : Int32)) (xf_132 M v1) v1 v3 v4 v5).2.2.2) + 4) (((xg_131_27 lp_N M (0 : Int32) ((M.2.1 151 ((xf_132 M v1).toNatClampNeg)) - (1 : Int32)) (xf_132 M v1) v1 v3 v4 v5).2.2.2.2.1 (lnt (xg_131_27 lp_N M (0 : Int32) ((M.2.1 151 ((xf_132 M v1).toNatClampNeg)) - (1 : Int32)) (xf_132 M v1) v1 v3 v4 v5).2.2.2) 4).toNatClampNeg) v5).2.1 151 ((xf_132 M v1).toNatClampNeg))) (lnt (xg_131_27 lp_N M (0 : Int32) ((M.2.1 151 ((xf_132 M v1).toNatClampNeg)) - (1 : Int32)) (xf_132 M v1) v1 v3 v4 v5).2.2.2) 4 (((xg_131_27 lp_N M (0 : Int32) ((M.2.1 151 ((xf_132 M v1).toNatClampNeg)) - (1 : Int32)) (xf_132 M v1) v1 v3 v4 v5).2.2.2.2.1 (lnt (xg_131_27 lp_N M (0 : Int32) ((M.2.1 151 ((xf_132 M v1).toNatClampNeg)) - (1 : Int32)) (xf_132 M v1) v1 v3 v4 v5).2.2.2) 4) + (1 : Int32)))) ri_131_238 rfl (ro_il4 (lnt_il (xl_131_27 lp_N hL q7))) (ro_kf (il_kd (xl_131_27 lp_N hL q7).1 (lnt_il (xl_131_27 lp_N hL q7)))) (fun h => absurd h (by decide)) (fun f h => h) ?_
          refine rs_aload_n ri_131_241 rfl rfl ?_
          refine rs_gf (v := .ref 151) ri_131_242 rfl (by decide) (ro_kf (kd_62 (xl_131_27 lp_N hL q7).1)) rfl (rf_62_6 (xl_131_27 lp_N hL q7).1) ?_
          refine rs_iload ri_131_245 rfl rfl ?_
          refine rs_aload_n ri_131_247 rfl rfl ?_
          refine rs_gf (v := .ref (lnt (xg_131_27 lp_N M (0 : Int32) ((M.2.1 151 ((xf_132 M v1).toNatClampNeg)) - (1 : Int32)) (xf_132 M v1) v1 v3 v4 v5).2.2.2)) ri_131_248 rfl (by decide) (ro_kf (kd_62 (xl_131_27 lp_N hL q7).1)) rfl (lnt_r (xl_131_27 lp_N hL q7)) ?_
          refine rs_gf (v := .int (((xg_131_27 lp_N M (0 : Int32) ((M.2.1 151 ((xf_132 M v1).toNatClampNeg)) - (1 : Int32)) (xf_132 M v1) v1 v3 v4 v5).2.2.2.2.1 (lnt (xg_131_27 lp_N M (0 : Int32) ((M.2.1 151 ((xf_132 M v1).toNatClampNeg)) - (1 : Int32)) (xf_132 M v1) v1 v3 v4 v5).2.2.2) 4) + (1 : Int32))) ri_131_251 rfl (ro_il4 (lnt_il (xl_131_27 lp_N hL q7))) (ro_kf (il_kd (xl_131_27 lp_N hL q7).1 (lnt_il (xl_131_27 lp_N hL q7)))) rfl (congrArg Value.int ro_up2_eq) ?_
          obtain ⟨q12, hp⟩ := hp
          refine rs_iast (j := (xf_132 M v1).toNatClampNeg) ri_131_254 rfl (by decide) (kd_151 (xl_131_27 lp_N hL q7).1) q12 rfl ?_
          refine rs_ret ri_131_255 rm_131.2.1 (by decide) ?_
          exact ⟨by rfl, by unfold xm_131; first | (simp only [if_pos h1, if_neg h9, if_neg h10, if_pos h11]; done) | rfl⟩
        · have hp := hp.2 h11
          refine rs_ret ri_131_169 rm_131.2.1 (by decide) ?_
          exact ⟨by rfl, by unfold xm_131; first | (simp only [if_pos h1, if_neg h9, if_neg h10, if_neg h11]; done) | rfl⟩
    · have hp := hp.1 h9
      exact ⟨by rfl, by unfold xm_131; first | (simp only [if_pos h1, if_pos h9]; done) | rfl⟩
  · have hp := hp.2 h1
    refine rs_ret ri_131_6 rm_131.2.1 (by decide) ?_
    exact ⟨by rfl, by unfold xm_131; first | (simp only [if_neg h1]; done) | rfl⟩
set_option maxHeartbeats 2000000 in
theorem xl_131 {M : ro_Mm} {v1 : Int64} {v3 : Int32} {v4 : Int32} {v5 : Int32} (hL : ro_lw M) (hp : xp_131 M v1 v3 v4 v5) : ro_lw (xm_131 M v1 v3 v4 v5) := by
  unfold xp_131 at hp
  unfold xm_131
  by_cases h1 : (0 : Int32) ≤ (lg_cmp v1 (0 : Int64))
  · have hp := hp.1 h1
    rw [if_pos h1]
    obtain ⟨q1, hp⟩ := hp
    obtain ⟨q7, hp⟩ := hp
    by_cases hz : (xg_131_27 lp_N M (0 : Int32) ((M.2.1 151 ((xf_132 M v1).toNatClampNeg)) - (1 : Int32)) (xf_132 M v1) v1 v3 v4 v5).1 = true
    · have hp := hp.1 hz
      rw [if_pos hz]
      exact (xl_131_27 lp_N hL q7)
    · have hp := hp.2 hz
      rw [if_neg hz]
      by_cases h10 : ((xg_131_27 lp_N M (0 : Int32) ((M.2.1 151 ((xf_132 M v1).toNatClampNeg)) - (1 : Int32)) (xf_132 M v1) v1 v3 v4 v5).2.2.2.2.1 (lnt (xg_131_27 lp_N M (0 : Int32) ((M.2.1 151 ((xf_132 M v1).toNatClampNeg)) - (1 : Int32)) (xf_132 M v1) v1 v3 v4 v5).2.2.2) 4) < (0 : Int32)
      · have hp := hp.1 h10
        rw [if_pos h10]
        exact (xl_131_27 lp_N hL q7)
      · have hp := hp.2 h10
        rw [if_neg h10]
        by_cases h11 : ((xg_131_27 lp_N M (0 : Int32) ((M.2.1 151 ((xf_132 M v1).toNatClampNeg)) - (1 : Int32)) (xf_132 M v1) v1 v3 v4 v5).2.2.2.2.1 (lnt (xg_131_27 lp_N M (0 : Int32) ((M.2.1 151 ((xf_132 M v1).toNatClampNeg)) - (1 : Int32)) (xf_132 M v1) v1 v3 v4 v5).2.2.2) 4) < (8192 : Int32)
        · have hp := hp.1 h11
          rw [if_pos h11]
          obtain ⟨q11, hp⟩ := hp
          obtain ⟨q12, hp⟩ := hp
          exact (xl_131_27 lp_N hL q7)
        · have hp := hp.2 h11
          rw [if_neg h11]
          exact (xl_131_27 lp_N hL q7)
  · have hp := hp.2 h1
    rw [if_neg h1]
    exact hL
