/-! small words and rows for the walker's functions -/
theorem ro_kf {M : ro_Mm} {c k n : Nat} (h : ro_kd M c = (k, n)) : (ro_kd M c).1 = k := by rw [h]
def ro_ushr (u v : Int32) : Int32 := (u.toUInt32 >>> (v.toUInt32 &&& Int32.toUInt32 31)).toInt32
def ro_irem (u v : Int32) : Int32 := u - u / v * v
def ro_lrem (u v : Int64) : Int64 := u - u / v * v
def ro_max (u v : Int32) : Int32 := if u < v then v else u
def ro_min (u v : Int32) : Int32 := if v < u then v else u
def ro_maxl (u v : Int64) : Int64 := if v < u then u else v
def ro_lshl (u : Int64) (v : Int32) : Int64 := u <<< (v.toInt64 &&& 63)
def ro_lshr (u : Int64) (v : Int32) : Int64 := u >>> (v.toInt64 &&& 63)
def ro_lushr (u : Int64) (v : Int32) : Int64 := (u.toUInt64 >>> (v.toInt64.toUInt64 &&& Int64.toUInt64 63)).toInt64
def ro_t (u : Int32) : Bool := !(u == 0)
theorem ro_t_b {u : Int32} (h : u = 0 ∨ u = 1) : u = ro_b (ro_t u) := by rcases h with rfl | rfl <;> decide
theorem ro_b_t (p : Bool) : ro_t (ro_b p) = p := by cases p <;> decide
theorem ro_ne_i {x k : Int32} (h : ¬ x = k) {z : Int} (hz : k.toInt = z) : x.toInt ≠ z := fun e => h (Int32.toInt_inj.mp (e.trans hz.symm))
theorem ro_xv0 {X X2 : ro_Sx} {c j : Nat} (h : c ≠ 0) : ro_xv X c j = ro_xv X2 c j := by
  cases c with
  | zero => exact absurd rfl h
  | succ c => rfl
theorem ro_lo1 {i : Int32} (h : ¬ i < 0) : 0 ≤ i.toInt := by
  have := Int32.not_lt.mp h
  simpa using Int32.le_iff_toInt_le.mp this
theorem ro_lo2 {i : Int32} (h : (0 : Int32) ≤ i) : 0 ≤ i.toInt := by simpa using Int32.le_iff_toInt_le.mp h
theorem ro_lo3 {i b : Int32} (h : b < i) (hb : 0 ≤ b.toInt) : 0 ≤ i.toInt := by have := Int32.lt_iff_toInt_lt.mp h; omega
theorem ro_hi1 {i b : Int32} {n : Nat} (h : i < b) (hb : b.toInt ≤ n) : i.toInt < n := by have := Int32.lt_iff_toInt_lt.mp h; omega
theorem ro_hi2 {i b : Int32} {n : Nat} (h : ¬ b ≤ i) (hb : b.toInt ≤ n) : i.toInt < n := by
  have h2 := Int32.lt_iff_toInt_lt.mp (Int32.not_le.mp h)
  omega
theorem ro_hi3 {i b : Int32} {n : Nat} (h : i ≤ b) (hb : b.toInt < n) : i.toInt < n := by have := Int32.le_iff_toInt_le.mp h; omega
theorem ro_hi4 {i b : Int32} {n : Nat} (h : ¬ b < i) (hb : b.toInt < n) : i.toInt < n := by
  have h2 := Int32.le_iff_toInt_le.mp (Int32.not_lt.mp h)
  omega
/-- the shelf of a number -/
def ro_bs (v : Int32) : Bool := decide (0 ≤ v) && decide (v < 6)
def ro_sc (v : Int32) : Nat := 23 + 2 * min v.toNatClampNeg 5
theorem ro_sc_is (v : Int32) : ro_is (ro_sc v) := by unfold ro_is ro_sc; omega
section RX
variable {X : ro_Sx} {d y : Nat} {post : ro_Po} {pc q : Nat} {lv : ro_Lv} {st : List Value} {M : ro_Mm} {cs : Nat × Nat} {a b : Nat}
theorem rs_ifeq_c {off : Int} {t : Nat} {p : Bool} (hi : ro_ix y pc = some (pc, .ifCond .eq off, a, b)) (hp : pc + 3 = q) (ht : (pc : Int) + off = (t : Int)) (kt : ¬ p = true → ro_w X d y post t lv st M cs) (kf : p = true → ro_w X d y post q lv st M cs) : ro_w X d y post pc lv (.int (ro_b p) :: st) M cs :=
  rs_ifeq_b hi hp ht (fun z => kt (by rw [z]; decide)) kf
theorem rs_ifne_c {off : Int} {t : Nat} {p : Bool} (hi : ro_ix y pc = some (pc, .ifCond .ne off, a, b)) (hp : pc + 3 = q) (ht : (pc : Int) + off = (t : Int)) (kt : p = true → ro_w X d y post t lv st M cs) (kf : ¬ p = true → ro_w X d y post q lv st M cs) : ro_w X d y post pc lv (.int (ro_b p) :: st) M cs :=
  rs_ifne_b hi hp ht kt (fun z => kf (by rw [z]; decide))
theorem rs_iald1 {c n : Nat} {i v : Int32} (hi : ro_ix y pc = some (pc, .iaload, a, b)) (hp : pc + 1 = q) (h4 : c < 4) (hn : ro_xl X c = n) (hin : vp_in i n) (hv : ro_xv X c i.toNatClampNeg = v) (h : ro_w X d y post q lv (.int v :: st) M cs) : ro_w X d y post pc lv (.int i :: .ref c :: st) M cs :=
  rs_iald0 hi hp h4 (by rw [hn]; exact hin) hv h
end RX
theorem ro_bs_t {v : Int32} (h : ro_bs v = true) : 0 ≤ v ∧ v < 6 := by
  unfold ro_bs at h
  simpa using h
theorem ro_sc_r {M : ro_Mm} (hL : ro_lay M) {v : Int32} (h : ro_bs v = true) : M.2.2.2 22 v.toNatClampNeg = .ref (ro_sc v) := by
  obtain ⟨h1, h2⟩ := ro_bs_t h
  have g1 := ro_lo2 h1
  have g2 : v.toInt < 6 := ro_hi1 (n := 6) h2 (by decide)
  have hj : v.toNatClampNeg < 6 := by show v.toInt.toNat < 6; omega
  unfold ro_sc
  rw [Nat.min_eq_left (by omega)]
  have key : ∀ j, j < 6 → M.2.2.2 22 j = .ref (23 + 2 * j) := by
    intro j hj
    exact hL.2 (22, j, 23 + 2 * j) ((show ∀ j, j < 6 → (22, j, 23 + 2 * j) ∈ ro_rt by decide +kernel) j hj)
  exact key _ hj
theorem xs_20_t {X : ro_Sx} {M : ro_Mm} {v1 : Int32} (hL : ro_lay M) (h : ro_bs v1 = true) : ro_cwp X 1 20 [.ref 4, .int v1] M (fun v M2 => v = some (.ref (ro_sc v1)) ∧ M2 = M) := by
  obtain ⟨g1, g2⟩ := ro_bs_t h
  refine rs_begin (lv0 := [(0, .ref 4), (1, .int v1)]) (by decide) rfl (by rw [rm_20.1]; exact Nat.le_of_ble_eq_true rfl) rfl ?_
  refine rs_iload_n ri_20_0 rfl rfl ?_
  refine rs_if_lt (t := 22) ri_20_1 rfl rfl (fun h1 => absurd g1 (Int32.not_le.mpr h1)) (fun h1 => ?_)
  refine rs_iload_n ri_20_4 rfl rfl ?_
  refine rs_aload_n ri_20_5 rfl rfl ?_
  refine rs_gf (v := .ref 22) ri_20_6 rfl (by decide) (ro_kf (kd_4 hL)) rfl (rf_4_2 hL) ?_
  refine rs_len (v := (6 : Int32)) ri_20_9 rfl (by decide) (kd_22 hL) (by decide) rfl ?_
  refine rs_icmp_ge (t := 22) ri_20_10 rfl rfl (fun h2 => absurd g2 (Int32.not_lt.mpr h2)) (fun h2 => ?_)
  refine rs_aload_n ri_20_13 rfl rfl ?_
  refine rs_gf (v := .ref 22) ri_20_14 rfl (by decide) (ro_kf (kd_4 hL)) rfl (rf_4_2 hL) ?_
  refine rs_iload_n ri_20_17 rfl rfl ?_
  refine rs_aald (r := ro_sc v1) ri_20_18 rfl (by decide) (kd_22 hL) (by decide) (vp_in_iff.mpr ⟨ro_lo1 h1, ro_hi2 h2 (by decide)⟩) (ro_sc_r hL h) ?_
  refine rs_goto (t := 23) ri_20_19 rfl ?_
  refine rs_aret ri_20_23 rm_20.2.1 (by decide) ?_
  exact ⟨rfl, rfl⟩
theorem xs_20_f {X : ro_Sx} {M : ro_Mm} {v1 : Int32} (hL : ro_lay M) (h : ¬ ro_bs v1 = true) : ro_cwp X 1 20 [.ref 4, .int v1] M (fun v M2 => v = some .null ∧ M2 = M) := by
  refine rs_begin (lv0 := [(0, .ref 4), (1, .int v1)]) (by decide) rfl (by rw [rm_20.1]; exact Nat.le_of_ble_eq_true rfl) rfl ?_
  refine rs_iload_n ri_20_0 rfl rfl ?_
  refine rs_if_lt (t := 22) ri_20_1 rfl rfl (fun h1 => ?_) (fun h1 => ?_)
  · refine rs_null ri_20_22 rfl ?_
    refine rs_aretN ri_20_23 rm_20.2.1 (by decide) ?_
    exact ⟨rfl, rfl⟩
  refine rs_iload_n ri_20_4 rfl rfl ?_
  refine rs_aload_n ri_20_5 rfl rfl ?_
  refine rs_gf (v := .ref 22) ri_20_6 rfl (by decide) (ro_kf (kd_4 hL)) rfl (rf_4_2 hL) ?_
  refine rs_len (v := (6 : Int32)) ri_20_9 rfl (by decide) (kd_22 hL) (by decide) rfl ?_
  refine rs_icmp_ge (t := 22) ri_20_10 rfl rfl (fun h2 => ?_) (fun h2 => ?_)
  · refine rs_null ri_20_22 rfl ?_
    refine rs_aretN ri_20_23 rm_20.2.1 (by decide) ?_
    exact ⟨rfl, rfl⟩
  · refine absurd ?_ h
    unfold ro_bs
    simp only [Bool.and_eq_true, decide_eq_true_eq]
    exact ⟨Int32.not_lt.mp h1, Int32.not_le.mp h2⟩
theorem ro_sI_ne {M : ro_Mm} {a i : Nat} {v : Int32} {c j : Nat} (h : c ≠ a) : (ro_sI M a i v).2.1 c j = M.2.1 c j := by
  show ro_up2 M.2.1 a i v c j = _
  unfold ro_up2
  rw [if_neg (fun q => h q.1)]
theorem ro_sJ_ne {M : ro_Mm} {a i : Nat} {v : Int64} {c j : Nat} (h : c ≠ a) : (ro_sJ M a i v).2.2.1 c j = M.2.2.1 c j := by
  show ro_up2 M.2.2.1 a i v c j = _
  unfold ro_up2
  rw [if_neg (fun q => h q.1)]
