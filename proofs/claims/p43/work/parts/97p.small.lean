/-! the law's small methods: numbers of the script (193 to 195, 197, 198), an offer (203), how many there are (202), ones (204), a copy (205) -/
section LAWS
variable {X : ro_Sx}
/-- a number of the script -/
def sc (X : ro_Sx) (i : Nat) : Nat := if i < X.1 then (X.2 i &&& 16777215).toNatClampNeg else i * 9007
theorem sc_e {i : Nat} (h : i < X.1) : X.2 i &&& 16777215 = nI (sc X i) := by
  obtain ⟨n, h1, h2⟩ := and24 (X.2 i)
  unfold sc
  rw [if_pos h, h2, nI_clamp (by omega)]
theorem sc_lt {i : Nat} (h : i ≤ 20) : sc X i < 16777216 := by
  obtain ⟨n, h1, h2⟩ := and24 (X.2 i)
  unfold sc
  by_cases z : i < X.1
  · rw [if_pos z, h2, nI_clamp (by omega)]; exact h1
  · rw [if_neg z]; omega
/-- how many people -/
def np (X : ro_Sx) : Nat := sc X 0 % 7
def on0 (X : ro_Sx) (p : Nat) : Nat := sc X (1 + p) % (if sc X (1 + p) / 2 ^ 9 % 4 = 0 then 21 else 6)
def on1 (X : ro_Sx) (p : Nat) : Nat := sc X (1 + p) / 2 ^ 5 % (if sc X (1 + p) / 2 ^ 11 % 4 = 0 then 21 else 6)
def on2 (X : ro_Sx) (p : Nat) : Nat := sc X (1 + p) / 2 ^ 13 % 13
def on3 (X : ro_Sx) (p : Nat) : Nat := sc X (1 + p) / 2 ^ 17 % 9
def to0 (X : ro_Sx) : Nat := sc X 7 % 5
def to1 (X : ro_Sx) : Nat := sc X 7 / 2 ^ 3 % 12
def to2 (X : ro_Sx) : Nat := sc X 7 / 2 ^ 7 % 13
def hl (X : ro_Sx) : Bool := decide (sc X 0 / 2 ^ 3 % 2 = 1)
theorem on0_b {p : Nat} : on0 X p ≤ 20 := by
  unfold on0
  split <;> omega
theorem on1_b {p : Nat} : on1 X p ≤ 20 := by
  unfold on1
  split <;> omega
theorem on2_b {p : Nat} : on2 X p ≤ 12 := by unfold on2; omega
theorem on3_b {p : Nat} : on3 X p ≤ 8 := by unfold on3; omega
theorem to0_b : to0 X ≤ 4 := by unfold to0; omega
theorem to1_b : to1 X ≤ 11 := by unfold to1; omega
theorem to2_b : to2 X ≤ 12 := by unfold to2; omega
theorem np_b : np X ≤ 6 := by unfold np; omega
section SM
variable {M : ro_Mm}
theorem lx_193 {i : Nat} (hX : X.1 ≤ 260) (hi : i ≤ 20) : ro_cwp X 1 193 [.ref 0, .int (nI i)] M (fun v M2 => v = some (.int (nI (sc X i))) ∧ M2 = M) := by
  refine rs_begin (lv0 := [(0, .ref 0), (1, .int (nI i))]) (by decide) rfl (by rw [rm_193.1]; exact Nat.le_of_ble_eq_true rfl) rfl ?_
  by_cases h : i < X.1
  · refine rs_iload_n ri_193_0 rfl rfl ?_
    refine rs_aload_n ri_193_1 rfl rfl ?_
    refine rs_len0 (v := nI X.1) ri_193_2 rfl (by decide) rfl ?_
    refine rs_icmp_ge (t := 15) ri_193_3 rfl rfl (fun q => absurd q (nI_ge (a := i) (b := X.1) (by omega) (by omega))) (fun _ => ?_)
    refine rs_aload_n ri_193_6 rfl rfl ?_
    refine rs_iload_n ri_193_7 rfl rfl ?_
    refine rs_iald0 (v := X.2 i) ri_193_8 rfl (by decide) (ro_vn (k := i) (n := X.1) h (by omega)) (congrArg X.2 (nI_clamp (by omega))) ?_
    refine rs_ldc (v := 16777215) ri_193_9 rfl rfl (by decide) ?_
    refine rs_iand (r := nI (sc X i)) ri_193_11 rfl (sc_e h) ?_
    refine rs_goto (t := 20) ri_193_12 rfl ?_
    refine rs_iret ri_193_20 rm_193.2.1 (by decide) ?_
    exact ⟨rfl, rfl⟩
  · refine rs_iload_n ri_193_0 rfl rfl ?_
    refine rs_aload_n ri_193_1 rfl rfl ?_
    refine rs_len0 (v := nI X.1) ri_193_2 rfl (by decide) rfl ?_
    refine rs_icmp_ge (t := 15) ri_193_3 rfl rfl (fun _ => ?_) (fun q => absurd (nI_le (a := X.1) (b := i) (by omega) (by omega)) q)
    refine rs_iload_n ri_193_15 rfl rfl ?_
    refine rs_sipush (v := nI 9007) ri_193_16 rfl (by decide) ?_
    refine rs_imul (r := nI (i * 9007)) ri_193_19 rfl (nI_mul i 9007) ?_
    refine rs_iret ri_193_20 rm_193.2.1 (by decide) ?_
    exact ⟨by unfold sc; rw [if_neg h], rfl⟩
theorem lx_194 (hX : X.1 ≤ 260) : ro_cwp X 2 194 [.ref 0] M (fun v M2 => v = some (.int (nI (np X))) ∧ M2 = M) := by
  refine rs_begin (lv0 := [(0, .ref 0)]) (by decide) rfl (by rw [rm_194.1]; exact Nat.le_of_ble_eq_true rfl) rfl ?_
  have hs := sc_lt (X := X) (i := 0) (by omega)
  refine rs_aload_n ri_194_0 rfl rfl ?_
  refine rs_iconst (v := nI 0) ri_194_1 rfl (by decide) ?_
  refine rs_stat (As := [.ref 0, .int (nI 0)]) (r := []) ri_194_2 rfl rm_193.2.2.2 rfl rfl rfl (Nat.le_of_ble_eq_true rfl) (⟨by decide, by decide⟩) (by omega) (lx_193 hX (by omega)) ?_
  rintro v M2 ⟨e1, e2⟩
  rw [e1, e2]
  show ro_w X _ 194 _ 5 [(0, .ref 0)] [.int (nI (sc X 0))] M (0, 0)
  refine rs_bipush (v := nI 7) ri_194_5 rfl (by decide) ?_
  refine rs_irem (r := nI ((sc X 0) % 7)) ri_194_7 rfl (by decide) (nI_rem (a := (sc X 0)) (b := 7) (by omega) (by omega)) ?_
  refine rs_iret ri_194_8 rm_194.2.1 (by decide) ?_
  exact ⟨rfl, rfl⟩
theorem lx_195_0 {p : Nat} (hX : X.1 ≤ 260) (hp : p ≤ 6) : ro_cwp X 2 195 [.ref 0, .int (nI p), .int (nI 0)] M (fun v M2 => v = some (.int (nI (on0 X p))) ∧ M2 = M) := by
  refine rs_begin (lv0 := [(0, .ref 0), (1, .int (nI p)), (2, .int (nI 0))]) (by decide) rfl (by rw [rm_195.1]; exact Nat.le_of_ble_eq_true rfl) rfl ?_
  have hs := sc_lt (X := X) (i := 1 + p) (by omega)
  by_cases h : sc X (1 + p) / 2 ^ 9 % 4 = 0
  · refine rs_aload_n ri_195_0 rfl rfl ?_
    refine rs_iconst (v := nI 1) ri_195_1 rfl (by decide) ?_
    refine rs_iload_n ri_195_2 rfl rfl ?_
    refine rs_iadd (r := nI (1 + p)) ri_195_3 rfl (nI_add 1 p) ?_
    refine rs_stat (As := [.ref 0, .int (nI (1 + p))]) (r := []) ri_195_4 rfl rm_193.2.2.2 rfl rfl rfl (Nat.le_of_ble_eq_true rfl) (⟨by decide, by decide⟩) (by omega) (lx_193 hX (by omega)) ?_
    rintro v M2 ⟨e1, e2⟩
    rw [e1, e2]
    show ro_w X _ 195 _ 7 [(0, .ref 0), (1, .int (nI p)), (2, .int (nI 0))] [.int (nI (sc X (1 + p)))] M (0, 0)
    refine rs_istore_n (lv2 := [(3, .int (nI (sc X (1 + p)))), (0, .ref 0), (1, .int (nI p)), (2, .int (nI 0))]) ri_195_7 rfl rm_195.1 (by decide) rfl ?_
    refine rs_iload_n ri_195_8 rfl rfl ?_
    refine rs_if_ne (t := 33) ri_195_9 rfl rfl (fun q => absurd (by decide) q) (fun _ => ?_)
    refine rs_iload_n ri_195_12 rfl rfl ?_
    refine rs_iload_n ri_195_13 rfl rfl ?_
    refine rs_bipush (v := nI 9) ri_195_14 rfl (by decide) ?_
    refine rs_ishr (r := nI ((sc X (1 + p)) / 2 ^ 9)) ri_195_16 rfl (nI_shr (v := (sc X (1 + p))) (k := 9) (by omega) (by omega)) ?_
    refine rs_iconst (v := nI 3) ri_195_17 rfl (by decide) ?_
    refine rs_iand (r := nI (((sc X (1 + p)) / 2 ^ 9) % 4)) ri_195_18 rfl (nI_and3 ((sc X (1 + p)) / 2 ^ 9)) ?_
    refine rs_if_ne (t := 27) ri_195_19 rfl rfl (fun q => absurd (congrArg nI (by omega)) q) (fun _ => ?_)
    refine rs_bipush (v := nI 21) ri_195_22 rfl (by decide) ?_
    refine rs_goto (t := 29) ri_195_24 rfl ?_
    refine rs_irem (r := nI ((sc X (1 + p)) % 21)) ri_195_29 rfl (by decide) (nI_rem (a := (sc X (1 + p))) (b := 21) (by omega) (by omega)) ?_
    refine rs_goto (t := 83) ri_195_30 rfl ?_
    refine rs_iret ri_195_83 rm_195.2.1 (by decide) ?_
    exact ⟨by unfold on0; rw [if_pos h], rfl⟩
  · refine rs_aload_n ri_195_0 rfl rfl ?_
    refine rs_iconst (v := nI 1) ri_195_1 rfl (by decide) ?_
    refine rs_iload_n ri_195_2 rfl rfl ?_
    refine rs_iadd (r := nI (1 + p)) ri_195_3 rfl (nI_add 1 p) ?_
    refine rs_stat (As := [.ref 0, .int (nI (1 + p))]) (r := []) ri_195_4 rfl rm_193.2.2.2 rfl rfl rfl (Nat.le_of_ble_eq_true rfl) (⟨by decide, by decide⟩) (by omega) (lx_193 hX (by omega)) ?_
    rintro v M2 ⟨e1, e2⟩
    rw [e1, e2]
    show ro_w X _ 195 _ 7 [(0, .ref 0), (1, .int (nI p)), (2, .int (nI 0))] [.int (nI (sc X (1 + p)))] M (0, 0)
    refine rs_istore_n (lv2 := [(3, .int (nI (sc X (1 + p)))), (0, .ref 0), (1, .int (nI p)), (2, .int (nI 0))]) ri_195_7 rfl rm_195.1 (by decide) rfl ?_
    refine rs_iload_n ri_195_8 rfl rfl ?_
    refine rs_if_ne (t := 33) ri_195_9 rfl rfl (fun q => absurd (by decide) q) (fun _ => ?_)
    refine rs_iload_n ri_195_12 rfl rfl ?_
    refine rs_iload_n ri_195_13 rfl rfl ?_
    refine rs_bipush (v := nI 9) ri_195_14 rfl (by decide) ?_
    refine rs_ishr (r := nI ((sc X (1 + p)) / 2 ^ 9)) ri_195_16 rfl (nI_shr (v := (sc X (1 + p))) (k := 9) (by omega) (by omega)) ?_
    refine rs_iconst (v := nI 3) ri_195_17 rfl (by decide) ?_
    refine rs_iand (r := nI (((sc X (1 + p)) / 2 ^ 9) % 4)) ri_195_18 rfl (nI_and3 ((sc X (1 + p)) / 2 ^ 9)) ?_
    refine rs_if_ne (t := 27) ri_195_19 rfl rfl (fun _ => ?_) (fun q => absurd q (fun q => absurd ((nI_eq (a := ((sc X (1 + p)) / 2 ^ 9) % 4) (b := 0) (by omega) (by omega)).mp q) (by omega)))
    refine rs_bipush (v := nI 6) ri_195_27 rfl (by decide) ?_
    refine rs_irem (r := nI ((sc X (1 + p)) % 6)) ri_195_29 rfl (by decide) (nI_rem (a := (sc X (1 + p))) (b := 6) (by omega) (by omega)) ?_
    refine rs_goto (t := 83) ri_195_30 rfl ?_
    refine rs_iret ri_195_83 rm_195.2.1 (by decide) ?_
    exact ⟨by unfold on0; rw [if_neg h], rfl⟩
theorem lx_195_1 {p : Nat} (hX : X.1 ≤ 260) (hp : p ≤ 6) : ro_cwp X 2 195 [.ref 0, .int (nI p), .int (nI 1)] M (fun v M2 => v = some (.int (nI (on1 X p))) ∧ M2 = M) := by
  refine rs_begin (lv0 := [(0, .ref 0), (1, .int (nI p)), (2, .int (nI 1))]) (by decide) rfl (by rw [rm_195.1]; exact Nat.le_of_ble_eq_true rfl) rfl ?_
  have hs := sc_lt (X := X) (i := 1 + p) (by omega)
  by_cases h : sc X (1 + p) / 2 ^ 11 % 4 = 0
  · refine rs_aload_n ri_195_0 rfl rfl ?_
    refine rs_iconst (v := nI 1) ri_195_1 rfl (by decide) ?_
    refine rs_iload_n ri_195_2 rfl rfl ?_
    refine rs_iadd (r := nI (1 + p)) ri_195_3 rfl (nI_add 1 p) ?_
    refine rs_stat (As := [.ref 0, .int (nI (1 + p))]) (r := []) ri_195_4 rfl rm_193.2.2.2 rfl rfl rfl (Nat.le_of_ble_eq_true rfl) (⟨by decide, by decide⟩) (by omega) (lx_193 hX (by omega)) ?_
    rintro v M2 ⟨e1, e2⟩
    rw [e1, e2]
    show ro_w X _ 195 _ 7 [(0, .ref 0), (1, .int (nI p)), (2, .int (nI 1))] [.int (nI (sc X (1 + p)))] M (0, 0)
    refine rs_istore_n (lv2 := [(3, .int (nI (sc X (1 + p)))), (0, .ref 0), (1, .int (nI p)), (2, .int (nI 1))]) ri_195_7 rfl rm_195.1 (by decide) rfl ?_
    refine rs_iload_n ri_195_8 rfl rfl ?_
    refine rs_if_ne (t := 33) ri_195_9 rfl rfl (fun _ => ?_) (fun q => absurd q (by decide))
    refine rs_iload_n ri_195_33 rfl rfl ?_
    refine rs_iconst (v := nI 1) ri_195_34 rfl (by decide) ?_
    refine rs_icmp_ne (t := 61) ri_195_35 rfl rfl (fun q => absurd (by decide) q) (fun _ => ?_)
    refine rs_iload_n ri_195_38 rfl rfl ?_
    refine rs_iconst (v := nI 5) ri_195_39 rfl (by decide) ?_
    refine rs_ishr (r := nI ((sc X (1 + p)) / 2 ^ 5)) ri_195_40 rfl (nI_shr (v := (sc X (1 + p))) (k := 5) (by omega) (by omega)) ?_
    refine rs_iload_n ri_195_41 rfl rfl ?_
    refine rs_bipush (v := nI 11) ri_195_42 rfl (by decide) ?_
    refine rs_ishr (r := nI ((sc X (1 + p)) / 2 ^ 11)) ri_195_44 rfl (nI_shr (v := (sc X (1 + p))) (k := 11) (by omega) (by omega)) ?_
    refine rs_iconst (v := nI 3) ri_195_45 rfl (by decide) ?_
    refine rs_iand (r := nI (((sc X (1 + p)) / 2 ^ 11) % 4)) ri_195_46 rfl (nI_and3 ((sc X (1 + p)) / 2 ^ 11)) ?_
    refine rs_if_ne (t := 55) ri_195_47 rfl rfl (fun q => absurd (congrArg nI (by omega)) q) (fun _ => ?_)
    refine rs_bipush (v := nI 21) ri_195_50 rfl (by decide) ?_
    refine rs_goto (t := 57) ri_195_52 rfl ?_
    refine rs_irem (r := nI (((sc X (1 + p)) / 2 ^ 5) % 21)) ri_195_57 rfl (by decide) (nI_rem (a := ((sc X (1 + p)) / 2 ^ 5)) (b := 21) (by omega) (by omega)) ?_
    refine rs_goto (t := 83) ri_195_58 rfl ?_
    refine rs_iret ri_195_83 rm_195.2.1 (by decide) ?_
    exact ⟨by unfold on1; rw [if_pos h], rfl⟩
  · refine rs_aload_n ri_195_0 rfl rfl ?_
    refine rs_iconst (v := nI 1) ri_195_1 rfl (by decide) ?_
    refine rs_iload_n ri_195_2 rfl rfl ?_
    refine rs_iadd (r := nI (1 + p)) ri_195_3 rfl (nI_add 1 p) ?_
    refine rs_stat (As := [.ref 0, .int (nI (1 + p))]) (r := []) ri_195_4 rfl rm_193.2.2.2 rfl rfl rfl (Nat.le_of_ble_eq_true rfl) (⟨by decide, by decide⟩) (by omega) (lx_193 hX (by omega)) ?_
    rintro v M2 ⟨e1, e2⟩
    rw [e1, e2]
    show ro_w X _ 195 _ 7 [(0, .ref 0), (1, .int (nI p)), (2, .int (nI 1))] [.int (nI (sc X (1 + p)))] M (0, 0)
    refine rs_istore_n (lv2 := [(3, .int (nI (sc X (1 + p)))), (0, .ref 0), (1, .int (nI p)), (2, .int (nI 1))]) ri_195_7 rfl rm_195.1 (by decide) rfl ?_
    refine rs_iload_n ri_195_8 rfl rfl ?_
    refine rs_if_ne (t := 33) ri_195_9 rfl rfl (fun _ => ?_) (fun q => absurd q (by decide))
    refine rs_iload_n ri_195_33 rfl rfl ?_
    refine rs_iconst (v := nI 1) ri_195_34 rfl (by decide) ?_
    refine rs_icmp_ne (t := 61) ri_195_35 rfl rfl (fun q => absurd (by decide) q) (fun _ => ?_)
    refine rs_iload_n ri_195_38 rfl rfl ?_
    refine rs_iconst (v := nI 5) ri_195_39 rfl (by decide) ?_
    refine rs_ishr (r := nI ((sc X (1 + p)) / 2 ^ 5)) ri_195_40 rfl (nI_shr (v := (sc X (1 + p))) (k := 5) (by omega) (by omega)) ?_
    refine rs_iload_n ri_195_41 rfl rfl ?_
    refine rs_bipush (v := nI 11) ri_195_42 rfl (by decide) ?_
    refine rs_ishr (r := nI ((sc X (1 + p)) / 2 ^ 11)) ri_195_44 rfl (nI_shr (v := (sc X (1 + p))) (k := 11) (by omega) (by omega)) ?_
    refine rs_iconst (v := nI 3) ri_195_45 rfl (by decide) ?_
    refine rs_iand (r := nI (((sc X (1 + p)) / 2 ^ 11) % 4)) ri_195_46 rfl (nI_and3 ((sc X (1 + p)) / 2 ^ 11)) ?_
    refine rs_if_ne (t := 55) ri_195_47 rfl rfl (fun _ => ?_) (fun q => absurd q (fun q => absurd ((nI_eq (a := ((sc X (1 + p)) / 2 ^ 11) % 4) (b := 0) (by omega) (by omega)).mp q) (by omega)))
    refine rs_bipush (v := nI 6) ri_195_55 rfl (by decide) ?_
    refine rs_irem (r := nI (((sc X (1 + p)) / 2 ^ 5) % 6)) ri_195_57 rfl (by decide) (nI_rem (a := ((sc X (1 + p)) / 2 ^ 5)) (b := 6) (by omega) (by omega)) ?_
    refine rs_goto (t := 83) ri_195_58 rfl ?_
    refine rs_iret ri_195_83 rm_195.2.1 (by decide) ?_
    exact ⟨by unfold on1; rw [if_neg h], rfl⟩
theorem lx_195_2 {p : Nat} (hX : X.1 ≤ 260) (hp : p ≤ 6) : ro_cwp X 2 195 [.ref 0, .int (nI p), .int (nI 2)] M (fun v M2 => v = some (.int (nI (on2 X p))) ∧ M2 = M) := by
  refine rs_begin (lv0 := [(0, .ref 0), (1, .int (nI p)), (2, .int (nI 2))]) (by decide) rfl (by rw [rm_195.1]; exact Nat.le_of_ble_eq_true rfl) rfl ?_
  have hs := sc_lt (X := X) (i := 1 + p) (by omega)
  refine rs_aload_n ri_195_0 rfl rfl ?_
  refine rs_iconst (v := nI 1) ri_195_1 rfl (by decide) ?_
  refine rs_iload_n ri_195_2 rfl rfl ?_
  refine rs_iadd (r := nI (1 + p)) ri_195_3 rfl (nI_add 1 p) ?_
  refine rs_stat (As := [.ref 0, .int (nI (1 + p))]) (r := []) ri_195_4 rfl rm_193.2.2.2 rfl rfl rfl (Nat.le_of_ble_eq_true rfl) (⟨by decide, by decide⟩) (by omega) (lx_193 hX (by omega)) ?_
  rintro v M2 ⟨e1, e2⟩
  rw [e1, e2]
  show ro_w X _ 195 _ 7 [(0, .ref 0), (1, .int (nI p)), (2, .int (nI 2))] [.int (nI (sc X (1 + p)))] M (0, 0)
  refine rs_istore_n (lv2 := [(3, .int (nI (sc X (1 + p)))), (0, .ref 0), (1, .int (nI p)), (2, .int (nI 2))]) ri_195_7 rfl rm_195.1 (by decide) rfl ?_
  refine rs_iload_n ri_195_8 rfl rfl ?_
  refine rs_if_ne (t := 33) ri_195_9 rfl rfl (fun _ => ?_) (fun q => absurd q (by decide))
  refine rs_iload_n ri_195_33 rfl rfl ?_
  refine rs_iconst (v := nI 1) ri_195_34 rfl (by decide) ?_
  refine rs_icmp_ne (t := 61) ri_195_35 rfl rfl (fun _ => ?_) (fun q => absurd q (by decide))
  refine rs_iload_n ri_195_61 rfl rfl ?_
  refine rs_iconst (v := nI 2) ri_195_62 rfl (by decide) ?_
  refine rs_icmp_ne (t := 76) ri_195_63 rfl rfl (fun q => absurd (by decide) q) (fun _ => ?_)
  refine rs_iload_n ri_195_66 rfl rfl ?_
  refine rs_bipush (v := nI 13) ri_195_67 rfl (by decide) ?_
  refine rs_ishr (r := nI ((sc X (1 + p)) / 2 ^ 13)) ri_195_69 rfl (nI_shr (v := (sc X (1 + p))) (k := 13) (by omega) (by omega)) ?_
  refine rs_bipush (v := nI 13) ri_195_70 rfl (by decide) ?_
  refine rs_irem (r := nI (((sc X (1 + p)) / 2 ^ 13) % 13)) ri_195_72 rfl (by decide) (nI_rem (a := ((sc X (1 + p)) / 2 ^ 13)) (b := 13) (by omega) (by omega)) ?_
  refine rs_goto (t := 83) ri_195_73 rfl ?_
  refine rs_iret ri_195_83 rm_195.2.1 (by decide) ?_
  exact ⟨rfl, rfl⟩
theorem lx_195_3 {p : Nat} (hX : X.1 ≤ 260) (hp : p ≤ 6) : ro_cwp X 2 195 [.ref 0, .int (nI p), .int (nI 3)] M (fun v M2 => v = some (.int (nI (on3 X p))) ∧ M2 = M) := by
  refine rs_begin (lv0 := [(0, .ref 0), (1, .int (nI p)), (2, .int (nI 3))]) (by decide) rfl (by rw [rm_195.1]; exact Nat.le_of_ble_eq_true rfl) rfl ?_
  have hs := sc_lt (X := X) (i := 1 + p) (by omega)
  refine rs_aload_n ri_195_0 rfl rfl ?_
  refine rs_iconst (v := nI 1) ri_195_1 rfl (by decide) ?_
  refine rs_iload_n ri_195_2 rfl rfl ?_
  refine rs_iadd (r := nI (1 + p)) ri_195_3 rfl (nI_add 1 p) ?_
  refine rs_stat (As := [.ref 0, .int (nI (1 + p))]) (r := []) ri_195_4 rfl rm_193.2.2.2 rfl rfl rfl (Nat.le_of_ble_eq_true rfl) (⟨by decide, by decide⟩) (by omega) (lx_193 hX (by omega)) ?_
  rintro v M2 ⟨e1, e2⟩
  rw [e1, e2]
  show ro_w X _ 195 _ 7 [(0, .ref 0), (1, .int (nI p)), (2, .int (nI 3))] [.int (nI (sc X (1 + p)))] M (0, 0)
  refine rs_istore_n (lv2 := [(3, .int (nI (sc X (1 + p)))), (0, .ref 0), (1, .int (nI p)), (2, .int (nI 3))]) ri_195_7 rfl rm_195.1 (by decide) rfl ?_
  refine rs_iload_n ri_195_8 rfl rfl ?_
  refine rs_if_ne (t := 33) ri_195_9 rfl rfl (fun _ => ?_) (fun q => absurd q (by decide))
  refine rs_iload_n ri_195_33 rfl rfl ?_
  refine rs_iconst (v := nI 1) ri_195_34 rfl (by decide) ?_
  refine rs_icmp_ne (t := 61) ri_195_35 rfl rfl (fun _ => ?_) (fun q => absurd q (by decide))
  refine rs_iload_n ri_195_61 rfl rfl ?_
  refine rs_iconst (v := nI 2) ri_195_62 rfl (by decide) ?_
  refine rs_icmp_ne (t := 76) ri_195_63 rfl rfl (fun _ => ?_) (fun q => absurd q (by decide))
  refine rs_iload_n ri_195_76 rfl rfl ?_
  refine rs_bipush (v := nI 17) ri_195_77 rfl (by decide) ?_
  refine rs_ishr (r := nI ((sc X (1 + p)) / 2 ^ 17)) ri_195_79 rfl (nI_shr (v := (sc X (1 + p))) (k := 17) (by omega) (by omega)) ?_
  refine rs_bipush (v := nI 9) ri_195_80 rfl (by decide) ?_
  refine rs_irem (r := nI (((sc X (1 + p)) / 2 ^ 17) % 9)) ri_195_82 rfl (by decide) (nI_rem (a := ((sc X (1 + p)) / 2 ^ 17)) (b := 9) (by omega) (by omega)) ?_
  refine rs_iret ri_195_83 rm_195.2.1 (by decide) ?_
  exact ⟨rfl, rfl⟩
theorem lx_197_0 (hX : X.1 ≤ 260) : ro_cwp X 2 197 [.ref 0, .int (nI 0)] M (fun v M2 => v = some (.int (nI (to0 X))) ∧ M2 = M) := by
  refine rs_begin (lv0 := [(0, .ref 0), (1, .int (nI 0))]) (by decide) rfl (by rw [rm_197.1]; exact Nat.le_of_ble_eq_true rfl) rfl ?_
  have hs := sc_lt (X := X) (i := 7) (by omega)
  refine rs_aload_n ri_197_0 rfl rfl ?_
  refine rs_bipush (v := nI 7) ri_197_1 rfl (by decide) ?_
  refine rs_stat (As := [.ref 0, .int (nI 7)]) (r := []) ri_197_3 rfl rm_193.2.2.2 rfl rfl rfl (Nat.le_of_ble_eq_true rfl) (⟨by decide, by decide⟩) (by omega) (lx_193 hX (by omega)) ?_
  rintro v M2 ⟨e1, e2⟩
  rw [e1, e2]
  show ro_w X _ 197 _ 6 [(0, .ref 0), (1, .int (nI 0))] [.int (nI (sc X 7))] M (0, 0)
  refine rs_istore_n (lv2 := [(2, .int (nI (sc X 7))), (0, .ref 0), (1, .int (nI 0))]) ri_197_6 rfl rm_197.1 (by decide) rfl ?_
  refine rs_iload_n ri_197_7 rfl rfl ?_
  refine rs_if_ne (t := 17) ri_197_8 rfl rfl (fun q => absurd (by decide) q) (fun _ => ?_)
  refine rs_iload_n ri_197_11 rfl rfl ?_
  refine rs_iconst (v := nI 5) ri_197_12 rfl (by decide) ?_
  refine rs_irem (r := nI ((sc X 7) % 5)) ri_197_13 rfl (by decide) (nI_rem (a := (sc X 7)) (b := 5) (by omega) (by omega)) ?_
  refine rs_goto (t := 38) ri_197_14 rfl ?_
  refine rs_iret ri_197_38 rm_197.2.1 (by decide) ?_
  exact ⟨rfl, rfl⟩
theorem lx_197_1 (hX : X.1 ≤ 260) : ro_cwp X 2 197 [.ref 0, .int (nI 1)] M (fun v M2 => v = some (.int (nI (to1 X))) ∧ M2 = M) := by
  refine rs_begin (lv0 := [(0, .ref 0), (1, .int (nI 1))]) (by decide) rfl (by rw [rm_197.1]; exact Nat.le_of_ble_eq_true rfl) rfl ?_
  have hs := sc_lt (X := X) (i := 7) (by omega)
  refine rs_aload_n ri_197_0 rfl rfl ?_
  refine rs_bipush (v := nI 7) ri_197_1 rfl (by decide) ?_
  refine rs_stat (As := [.ref 0, .int (nI 7)]) (r := []) ri_197_3 rfl rm_193.2.2.2 rfl rfl rfl (Nat.le_of_ble_eq_true rfl) (⟨by decide, by decide⟩) (by omega) (lx_193 hX (by omega)) ?_
  rintro v M2 ⟨e1, e2⟩
  rw [e1, e2]
  show ro_w X _ 197 _ 6 [(0, .ref 0), (1, .int (nI 1))] [.int (nI (sc X 7))] M (0, 0)
  refine rs_istore_n (lv2 := [(2, .int (nI (sc X 7))), (0, .ref 0), (1, .int (nI 1))]) ri_197_6 rfl rm_197.1 (by decide) rfl ?_
  refine rs_iload_n ri_197_7 rfl rfl ?_
  refine rs_if_ne (t := 17) ri_197_8 rfl rfl (fun _ => ?_) (fun q => absurd q (by decide))
  refine rs_iload_n ri_197_17 rfl rfl ?_
  refine rs_iconst (v := nI 1) ri_197_18 rfl (by decide) ?_
  refine rs_icmp_ne (t := 31) ri_197_19 rfl rfl (fun q => absurd (by decide) q) (fun _ => ?_)
  refine rs_iload_n ri_197_22 rfl rfl ?_
  refine rs_iconst (v := nI 3) ri_197_23 rfl (by decide) ?_
  refine rs_ishr (r := nI ((sc X 7) / 2 ^ 3)) ri_197_24 rfl (nI_shr (v := (sc X 7)) (k := 3) (by omega) (by omega)) ?_
  refine rs_bipush (v := nI 12) ri_197_25 rfl (by decide) ?_
  refine rs_irem (r := nI (((sc X 7) / 2 ^ 3) % 12)) ri_197_27 rfl (by decide) (nI_rem (a := ((sc X 7) / 2 ^ 3)) (b := 12) (by omega) (by omega)) ?_
  refine rs_goto (t := 38) ri_197_28 rfl ?_
  refine rs_iret ri_197_38 rm_197.2.1 (by decide) ?_
  exact ⟨rfl, rfl⟩
theorem lx_197_2 (hX : X.1 ≤ 260) : ro_cwp X 2 197 [.ref 0, .int (nI 2)] M (fun v M2 => v = some (.int (nI (to2 X))) ∧ M2 = M) := by
  refine rs_begin (lv0 := [(0, .ref 0), (1, .int (nI 2))]) (by decide) rfl (by rw [rm_197.1]; exact Nat.le_of_ble_eq_true rfl) rfl ?_
  have hs := sc_lt (X := X) (i := 7) (by omega)
  refine rs_aload_n ri_197_0 rfl rfl ?_
  refine rs_bipush (v := nI 7) ri_197_1 rfl (by decide) ?_
  refine rs_stat (As := [.ref 0, .int (nI 7)]) (r := []) ri_197_3 rfl rm_193.2.2.2 rfl rfl rfl (Nat.le_of_ble_eq_true rfl) (⟨by decide, by decide⟩) (by omega) (lx_193 hX (by omega)) ?_
  rintro v M2 ⟨e1, e2⟩
  rw [e1, e2]
  show ro_w X _ 197 _ 6 [(0, .ref 0), (1, .int (nI 2))] [.int (nI (sc X 7))] M (0, 0)
  refine rs_istore_n (lv2 := [(2, .int (nI (sc X 7))), (0, .ref 0), (1, .int (nI 2))]) ri_197_6 rfl rm_197.1 (by decide) rfl ?_
  refine rs_iload_n ri_197_7 rfl rfl ?_
  refine rs_if_ne (t := 17) ri_197_8 rfl rfl (fun _ => ?_) (fun q => absurd q (by decide))
  refine rs_iload_n ri_197_17 rfl rfl ?_
  refine rs_iconst (v := nI 1) ri_197_18 rfl (by decide) ?_
  refine rs_icmp_ne (t := 31) ri_197_19 rfl rfl (fun _ => ?_) (fun q => absurd q (by decide))
  refine rs_iload_n ri_197_31 rfl rfl ?_
  refine rs_bipush (v := nI 7) ri_197_32 rfl (by decide) ?_
  refine rs_ishr (r := nI ((sc X 7) / 2 ^ 7)) ri_197_34 rfl (nI_shr (v := (sc X 7)) (k := 7) (by omega) (by omega)) ?_
  refine rs_bipush (v := nI 13) ri_197_35 rfl (by decide) ?_
  refine rs_irem (r := nI (((sc X 7) / 2 ^ 7) % 13)) ri_197_37 rfl (by decide) (nI_rem (a := ((sc X 7) / 2 ^ 7)) (b := 13) (by omega) (by omega)) ?_
  refine rs_iret ri_197_38 rm_197.2.1 (by decide) ?_
  exact ⟨rfl, rfl⟩
theorem lx_198 (hX : X.1 ≤ 260) : ro_cwp X 2 198 [.ref 0] M (fun v M2 => v = some (.int (ro_b (hl X))) ∧ M2 = M) := by
  refine rs_begin (lv0 := [(0, .ref 0)]) (by decide) rfl (by rw [rm_198.1]; exact Nat.le_of_ble_eq_true rfl) rfl ?_
  have hs := sc_lt (X := X) (i := 0) (by omega)
  by_cases h : sc X 0 / 2 ^ 3 % 2 = 1
  · refine rs_aload_n ri_198_0 rfl rfl ?_
    refine rs_iconst (v := nI 0) ri_198_1 rfl (by decide) ?_
    refine rs_stat (As := [.ref 0, .int (nI 0)]) (r := []) ri_198_2 rfl rm_193.2.2.2 rfl rfl rfl (Nat.le_of_ble_eq_true rfl) (⟨by decide, by decide⟩) (by omega) (lx_193 hX (by omega)) ?_
    rintro v M2 ⟨e1, e2⟩
    rw [e1, e2]
    show ro_w X _ 198 _ 5 [(0, .ref 0)] [.int (nI (sc X 0))] M (0, 0)
    refine rs_iconst (v := nI 3) ri_198_5 rfl (by decide) ?_
    refine rs_ishr (r := nI ((sc X 0) / 2 ^ 3)) ri_198_6 rfl (nI_shr (v := (sc X 0)) (k := 3) (by omega) (by omega)) ?_
    refine rs_iconst (v := nI 1) ri_198_7 rfl (by decide) ?_
    refine rs_iand (r := nI (((sc X 0) / 2 ^ 3) % 2)) ri_198_8 rfl (nI_and1 ((sc X 0) / 2 ^ 3)) ?_
    refine rs_iconst (v := nI 1) ri_198_9 rfl (by decide) ?_
    refine rs_icmp_ne (t := 17) ri_198_10 rfl rfl (fun q => absurd (congrArg nI (by omega)) q) (fun _ => ?_)
    refine rs_iconst (v := nI 1) ri_198_13 rfl (by decide) ?_
    refine rs_goto (t := 18) ri_198_14 rfl ?_
    refine rs_zret (p := true) ri_198_18 rm_198.2.1 (by decide) rfl ?_
    exact ⟨by unfold hl; rw [decide_eq_true h], rfl⟩
  · refine rs_aload_n ri_198_0 rfl rfl ?_
    refine rs_iconst (v := nI 0) ri_198_1 rfl (by decide) ?_
    refine rs_stat (As := [.ref 0, .int (nI 0)]) (r := []) ri_198_2 rfl rm_193.2.2.2 rfl rfl rfl (Nat.le_of_ble_eq_true rfl) (⟨by decide, by decide⟩) (by omega) (lx_193 hX (by omega)) ?_
    rintro v M2 ⟨e1, e2⟩
    rw [e1, e2]
    show ro_w X _ 198 _ 5 [(0, .ref 0)] [.int (nI (sc X 0))] M (0, 0)
    refine rs_iconst (v := nI 3) ri_198_5 rfl (by decide) ?_
    refine rs_ishr (r := nI ((sc X 0) / 2 ^ 3)) ri_198_6 rfl (nI_shr (v := (sc X 0)) (k := 3) (by omega) (by omega)) ?_
    refine rs_iconst (v := nI 1) ri_198_7 rfl (by decide) ?_
    refine rs_iand (r := nI (((sc X 0) / 2 ^ 3) % 2)) ri_198_8 rfl (nI_and1 ((sc X 0) / 2 ^ 3)) ?_
    refine rs_iconst (v := nI 1) ri_198_9 rfl (by decide) ?_
    refine rs_icmp_ne (t := 17) ri_198_10 rfl rfl (fun _ => ?_) (fun q => absurd q (fun q => absurd ((nI_eq (a := ((sc X 0) / 2 ^ 3) % 2) (b := 1) (by omega) (by omega)).mp q) (by omega)))
    refine rs_iconst (v := nI 0) ri_198_17 rfl (by decide) ?_
    refine rs_zret (p := false) ri_198_18 rm_198.2.1 (by decide) rfl ?_
    exact ⟨by unfold hl; rw [decide_eq_false h], rfl⟩
def of_b (p x : Nat) : Bool := decide (x / 20 < p) && (decide (x % 20 / 2 < p) && !decide (x / 20 = x % 20 / 2))
theorem of_b_i {p x : Nat} : of_b p x = true ↔ of_ok p x := by
  unfold of_b of_ok
  simp
theorem lx_203 {x : Nat} (hX : X.1 ≤ 260) (hx : x < 1000) : ro_cwp X 3 203 [.ref 0, .int (nI x)] M (fun v M2 => v = some (.int (ro_b (of_b (np X) x))) ∧ M2 = M) := by
  refine rs_begin (lv0 := [(0, .ref 0), (1, .int (nI x))]) (by decide) rfl (by rw [rm_203.1]; exact Nat.le_of_ble_eq_true rfl) rfl ?_
  have hn := np_b (X := X)
  by_cases h1 : x / 20 < np X
  · by_cases h2 : x % 20 / 2 < np X
    · by_cases h3 : x / 20 = x % 20 / 2
      · refine rs_iload_n ri_203_0 rfl rfl ?_
        refine rs_if_lt (t := 45) ri_203_1 rfl rfl (fun q => absurd q (nI_pos (by omega))) (fun _ => ?_)
        refine rs_iload_n ri_203_4 rfl rfl ?_
        refine rs_bipush (v := nI 20) ri_203_5 rfl (by decide) ?_
        refine rs_idiv (r := nI (x / 20)) ri_203_7 rfl (by decide) (nI_div (a := x) (b := 20) (by omega) (by omega)) ?_
        refine rs_aload_n ri_203_8 rfl rfl ?_
        refine rs_stat (As := [.ref 0]) (r := [.int (nI (x / 20))]) ri_203_9 rfl rm_194.2.2.2 rfl rfl rfl (Nat.le_of_ble_eq_true rfl) (⟨by decide, by decide⟩) (by omega) (lx_194 hX) ?_
        rintro v M2 ⟨e1, e2⟩
        rw [e1, e2]
        show ro_w X _ 203 _ 12 [(0, .ref 0), (1, .int (nI x))] [.int (nI (np X)), .int (nI (x / 20))] M (0, 0)
        refine rs_icmp_ge (t := 45) ri_203_12 rfl rfl (fun q => absurd q (nI_ge (a := x / 20) (b := np X) (by omega) (by omega))) (fun _ => ?_)
        refine rs_iload_n ri_203_15 rfl rfl ?_
        refine rs_bipush (v := nI 20) ri_203_16 rfl (by decide) ?_
        refine rs_irem (r := nI (x % 20)) ri_203_18 rfl (by decide) (nI_rem (a := x) (b := 20) (by omega) (by omega)) ?_
        refine rs_iconst (v := nI 2) ri_203_19 rfl (by decide) ?_
        refine rs_idiv (r := nI ((x % 20) / 2)) ri_203_20 rfl (by decide) (nI_div (a := (x % 20)) (b := 2) (by omega) (by omega)) ?_
        refine rs_aload_n ri_203_21 rfl rfl ?_
        refine rs_stat (As := [.ref 0]) (r := [.int (nI ((x % 20) / 2))]) ri_203_22 rfl rm_194.2.2.2 rfl rfl rfl (Nat.le_of_ble_eq_true rfl) (⟨by decide, by decide⟩) (by omega) (lx_194 hX) ?_
        rintro v M2 ⟨e1, e2⟩
        rw [e1, e2]
        show ro_w X _ 203 _ 25 [(0, .ref 0), (1, .int (nI x))] [.int (nI (np X)), .int (nI ((x % 20) / 2))] M (0, 0)
        refine rs_icmp_ge (t := 45) ri_203_25 rfl rfl (fun q => absurd q (nI_ge (a := (x % 20) / 2) (b := np X) (by omega) (by omega))) (fun _ => ?_)
        refine rs_iload_n ri_203_28 rfl rfl ?_
        refine rs_bipush (v := nI 20) ri_203_29 rfl (by decide) ?_
        refine rs_idiv (r := nI (x / 20)) ri_203_31 rfl (by decide) (nI_div (a := x) (b := 20) (by omega) (by omega)) ?_
        refine rs_iload_n ri_203_32 rfl rfl ?_
        refine rs_bipush (v := nI 20) ri_203_33 rfl (by decide) ?_
        refine rs_irem (r := nI (x % 20)) ri_203_35 rfl (by decide) (nI_rem (a := x) (b := 20) (by omega) (by omega)) ?_
        refine rs_iconst (v := nI 2) ri_203_36 rfl (by decide) ?_
        refine rs_idiv (r := nI ((x % 20) / 2)) ri_203_37 rfl (by decide) (nI_div (a := (x % 20)) (b := 2) (by omega) (by omega)) ?_
        refine rs_icmp_eq (t := 45) ri_203_38 rfl rfl (fun _ => ?_) (fun q => absurd (congrArg nI (by omega)) q)
        refine rs_iconst (v := nI 0) ri_203_45 rfl (by decide) ?_
        refine rs_zret (p := false) ri_203_46 rm_203.2.1 (by decide) rfl ?_
        exact ⟨by unfold of_b; rw [decide_eq_true h1, decide_eq_true h2, decide_eq_true h3]; rfl, rfl⟩
      · refine rs_iload_n ri_203_0 rfl rfl ?_
        refine rs_if_lt (t := 45) ri_203_1 rfl rfl (fun q => absurd q (nI_pos (by omega))) (fun _ => ?_)
        refine rs_iload_n ri_203_4 rfl rfl ?_
        refine rs_bipush (v := nI 20) ri_203_5 rfl (by decide) ?_
        refine rs_idiv (r := nI (x / 20)) ri_203_7 rfl (by decide) (nI_div (a := x) (b := 20) (by omega) (by omega)) ?_
        refine rs_aload_n ri_203_8 rfl rfl ?_
        refine rs_stat (As := [.ref 0]) (r := [.int (nI (x / 20))]) ri_203_9 rfl rm_194.2.2.2 rfl rfl rfl (Nat.le_of_ble_eq_true rfl) (⟨by decide, by decide⟩) (by omega) (lx_194 hX) ?_
        rintro v M2 ⟨e1, e2⟩
        rw [e1, e2]
        show ro_w X _ 203 _ 12 [(0, .ref 0), (1, .int (nI x))] [.int (nI (np X)), .int (nI (x / 20))] M (0, 0)
        refine rs_icmp_ge (t := 45) ri_203_12 rfl rfl (fun q => absurd q (nI_ge (a := x / 20) (b := np X) (by omega) (by omega))) (fun _ => ?_)
        refine rs_iload_n ri_203_15 rfl rfl ?_
        refine rs_bipush (v := nI 20) ri_203_16 rfl (by decide) ?_
        refine rs_irem (r := nI (x % 20)) ri_203_18 rfl (by decide) (nI_rem (a := x) (b := 20) (by omega) (by omega)) ?_
        refine rs_iconst (v := nI 2) ri_203_19 rfl (by decide) ?_
        refine rs_idiv (r := nI ((x % 20) / 2)) ri_203_20 rfl (by decide) (nI_div (a := (x % 20)) (b := 2) (by omega) (by omega)) ?_
        refine rs_aload_n ri_203_21 rfl rfl ?_
        refine rs_stat (As := [.ref 0]) (r := [.int (nI ((x % 20) / 2))]) ri_203_22 rfl rm_194.2.2.2 rfl rfl rfl (Nat.le_of_ble_eq_true rfl) (⟨by decide, by decide⟩) (by omega) (lx_194 hX) ?_
        rintro v M2 ⟨e1, e2⟩
        rw [e1, e2]
        show ro_w X _ 203 _ 25 [(0, .ref 0), (1, .int (nI x))] [.int (nI (np X)), .int (nI ((x % 20) / 2))] M (0, 0)
        refine rs_icmp_ge (t := 45) ri_203_25 rfl rfl (fun q => absurd q (nI_ge (a := (x % 20) / 2) (b := np X) (by omega) (by omega))) (fun _ => ?_)
        refine rs_iload_n ri_203_28 rfl rfl ?_
        refine rs_bipush (v := nI 20) ri_203_29 rfl (by decide) ?_
        refine rs_idiv (r := nI (x / 20)) ri_203_31 rfl (by decide) (nI_div (a := x) (b := 20) (by omega) (by omega)) ?_
        refine rs_iload_n ri_203_32 rfl rfl ?_
        refine rs_bipush (v := nI 20) ri_203_33 rfl (by decide) ?_
        refine rs_irem (r := nI (x % 20)) ri_203_35 rfl (by decide) (nI_rem (a := x) (b := 20) (by omega) (by omega)) ?_
        refine rs_iconst (v := nI 2) ri_203_36 rfl (by decide) ?_
        refine rs_idiv (r := nI ((x % 20) / 2)) ri_203_37 rfl (by decide) (nI_div (a := (x % 20)) (b := 2) (by omega) (by omega)) ?_
        refine rs_icmp_eq (t := 45) ri_203_38 rfl rfl (fun q => absurd q (fun q => absurd ((nI_eq (a := x / 20) (b := (x % 20) / 2) (by omega) (by omega)).mp q) (by omega))) (fun _ => ?_)
        refine rs_iconst (v := nI 1) ri_203_41 rfl (by decide) ?_
        refine rs_goto (t := 46) ri_203_42 rfl ?_
        refine rs_zret (p := true) ri_203_46 rm_203.2.1 (by decide) rfl ?_
        exact ⟨by unfold of_b; rw [decide_eq_true h1, decide_eq_true h2, decide_eq_false h3]; rfl, rfl⟩
    · refine rs_iload_n ri_203_0 rfl rfl ?_
      refine rs_if_lt (t := 45) ri_203_1 rfl rfl (fun q => absurd q (nI_pos (by omega))) (fun _ => ?_)
      refine rs_iload_n ri_203_4 rfl rfl ?_
      refine rs_bipush (v := nI 20) ri_203_5 rfl (by decide) ?_
      refine rs_idiv (r := nI (x / 20)) ri_203_7 rfl (by decide) (nI_div (a := x) (b := 20) (by omega) (by omega)) ?_
      refine rs_aload_n ri_203_8 rfl rfl ?_
      refine rs_stat (As := [.ref 0]) (r := [.int (nI (x / 20))]) ri_203_9 rfl rm_194.2.2.2 rfl rfl rfl (Nat.le_of_ble_eq_true rfl) (⟨by decide, by decide⟩) (by omega) (lx_194 hX) ?_
      rintro v M2 ⟨e1, e2⟩
      rw [e1, e2]
      show ro_w X _ 203 _ 12 [(0, .ref 0), (1, .int (nI x))] [.int (nI (np X)), .int (nI (x / 20))] M (0, 0)
      refine rs_icmp_ge (t := 45) ri_203_12 rfl rfl (fun q => absurd q (nI_ge (a := x / 20) (b := np X) (by omega) (by omega))) (fun _ => ?_)
      refine rs_iload_n ri_203_15 rfl rfl ?_
      refine rs_bipush (v := nI 20) ri_203_16 rfl (by decide) ?_
      refine rs_irem (r := nI (x % 20)) ri_203_18 rfl (by decide) (nI_rem (a := x) (b := 20) (by omega) (by omega)) ?_
      refine rs_iconst (v := nI 2) ri_203_19 rfl (by decide) ?_
      refine rs_idiv (r := nI ((x % 20) / 2)) ri_203_20 rfl (by decide) (nI_div (a := (x % 20)) (b := 2) (by omega) (by omega)) ?_
      refine rs_aload_n ri_203_21 rfl rfl ?_
      refine rs_stat (As := [.ref 0]) (r := [.int (nI ((x % 20) / 2))]) ri_203_22 rfl rm_194.2.2.2 rfl rfl rfl (Nat.le_of_ble_eq_true rfl) (⟨by decide, by decide⟩) (by omega) (lx_194 hX) ?_
      rintro v M2 ⟨e1, e2⟩
      rw [e1, e2]
      show ro_w X _ 203 _ 25 [(0, .ref 0), (1, .int (nI x))] [.int (nI (np X)), .int (nI ((x % 20) / 2))] M (0, 0)
      refine rs_icmp_ge (t := 45) ri_203_25 rfl rfl (fun _ => ?_) (fun q => absurd (nI_le (a := np X) (b := (x % 20) / 2) (by omega) (by omega)) q)
      refine rs_iconst (v := nI 0) ri_203_45 rfl (by decide) ?_
      refine rs_zret (p := false) ri_203_46 rm_203.2.1 (by decide) rfl ?_
      exact ⟨by unfold of_b; rw [decide_eq_true h1, decide_eq_false h2]; rfl, rfl⟩
  · refine rs_iload_n ri_203_0 rfl rfl ?_
    refine rs_if_lt (t := 45) ri_203_1 rfl rfl (fun q => absurd q (nI_pos (by omega))) (fun _ => ?_)
    refine rs_iload_n ri_203_4 rfl rfl ?_
    refine rs_bipush (v := nI 20) ri_203_5 rfl (by decide) ?_
    refine rs_idiv (r := nI (x / 20)) ri_203_7 rfl (by decide) (nI_div (a := x) (b := 20) (by omega) (by omega)) ?_
    refine rs_aload_n ri_203_8 rfl rfl ?_
    refine rs_stat (As := [.ref 0]) (r := [.int (nI (x / 20))]) ri_203_9 rfl rm_194.2.2.2 rfl rfl rfl (Nat.le_of_ble_eq_true rfl) (⟨by decide, by decide⟩) (by omega) (lx_194 hX) ?_
    rintro v M2 ⟨e1, e2⟩
    rw [e1, e2]
    show ro_w X _ 203 _ 12 [(0, .ref 0), (1, .int (nI x))] [.int (nI (np X)), .int (nI (x / 20))] M (0, 0)
    refine rs_icmp_ge (t := 45) ri_203_12 rfl rfl (fun _ => ?_) (fun q => absurd (nI_le (a := np X) (b := x / 20) (by omega) (by omega)) q)
    refine rs_iconst (v := nI 0) ri_203_45 rfl (by decide) ?_
    refine rs_zret (p := false) ri_203_46 rm_203.2.1 (by decide) rfl ?_
    exact ⟨by unfold of_b; rw [decide_eq_false h1]; rfl, rfl⟩
theorem lp_202 {c n : Nat} {g : Nat → Nat} (hX : X.1 ≤ 260) (hc : 163 ≤ c) (hn : n ≤ 10) (hla : lr_a M c n g) (hg : ∀ i, i < n → g i < 128) : ∀ e k, k + e = n → (∀ y, y < k → of_ok (np X) (g y)) → ro_w X 4 202 (fun v M2 => (∃ len, v = some (.int (nI len)) ∧ ev_l (np X) g n len) ∧ M2 = M) 2 [(2, .int (nI k)), (0, .ref 0), (1, .ref c)] [] M (0, 0) := by
  intro e
  induction e with
  | zero =>
    intro k hk ho
    refine rs_iload_n ri_202_2 rfl rfl ?_
    refine rs_bipush (v := nI 20) ri_202_3 rfl (by decide) ?_
    refine rs_icmp_ge (t := 30) ri_202_5 rfl rfl (fun q => absurd q (nI_ge (a := k) (b := 20) (by omega) (by omega))) (fun _ => ?_)
    refine rs_iload_n ri_202_8 rfl rfl ?_
    refine rs_aload_n ri_202_9 rfl rfl ?_
    refine rs_len (v := nI n) ri_202_10 rfl (by omega) (hla.1) (by decide) rfl ?_
    refine rs_icmp_ge (t := 30) ri_202_11 rfl rfl (fun _ => ?_) (fun q => absurd (nI_le (a := n) (b := k) (by omega) (by omega)) q)
    refine rs_iload_n ri_202_30 rfl rfl ?_
    refine rs_iret ri_202_31 rm_202.2.1 (by decide) ?_
    exact ⟨⟨k, rfl, by omega, by omega, ho, Or.inr (Or.inl (by omega))⟩, rfl⟩
  | succ e ih =>
    intro k hk ho
    have hgk := hg k (by omega)
    by_cases h : of_ok (np X) (g k)
    · refine rs_iload_n ri_202_2 rfl rfl ?_
      refine rs_bipush (v := nI 20) ri_202_3 rfl (by decide) ?_
      refine rs_icmp_ge (t := 30) ri_202_5 rfl rfl (fun q => absurd q (nI_ge (a := k) (b := 20) (by omega) (by omega))) (fun _ => ?_)
      refine rs_iload_n ri_202_8 rfl rfl ?_
      refine rs_aload_n ri_202_9 rfl rfl ?_
      refine rs_len (v := nI n) ri_202_10 rfl (by omega) (hla.1) (by decide) rfl ?_
      refine rs_icmp_ge (t := 30) ri_202_11 rfl rfl (fun q => absurd q (nI_ge (a := k) (b := n) (by omega) (by omega))) (fun _ => ?_)
      refine rs_aload_n ri_202_14 rfl rfl ?_
      refine rs_aload_n ri_202_15 rfl rfl ?_
      refine rs_iload_n ri_202_16 rfl rfl ?_
      refine rs_iald (v := nI (g k)) ri_202_17 rfl (by omega) (hla).1 (ro_vn (k := k) (by omega) (by omega)) (lr_g (hla) (by omega) (by omega)) ?_
      refine rs_stat (As := [.ref 0, .int (nI (g k))]) (r := []) ri_202_18 rfl rm_203.2.2.2 rfl rfl rfl (Nat.le_of_ble_eq_true rfl) (⟨by decide, by decide⟩) (by omega) (lx_203 hX (by omega)) ?_
      rintro v M2 ⟨e1, e2⟩
      rw [e1, e2]
      show ro_w X _ 202 _ 21 [(2, .int (nI k)), (0, .ref 0), (1, .ref c)] [.int (ro_b ((of_b (np X) (g k))))] M (0, 0)
      refine rs_ifeq_b (t := 30) ri_202_21 rfl rfl (fun q => absurd (q.symm.trans (of_b_i.mpr h)) (by decide)) (fun _ => ?_)
      refine rs_iinc (v := nI (k + 1)) (lv2 := [(2, .int (nI (k + 1))), (0, .ref 0), (1, .ref c)]) ri_202_24 rfl rfl (nI_1 k) rm_202.1 (by decide) rfl ?_
      refine rs_goto (t := 2) ri_202_27 rfl ?_
      exact ih (k + 1) (by omega) (fun y hy => by
        by_cases q : y = k
        · rw [q]; exact h
        · exact ho y (by omega))
    · refine rs_iload_n ri_202_2 rfl rfl ?_
      refine rs_bipush (v := nI 20) ri_202_3 rfl (by decide) ?_
      refine rs_icmp_ge (t := 30) ri_202_5 rfl rfl (fun q => absurd q (nI_ge (a := k) (b := 20) (by omega) (by omega))) (fun _ => ?_)
      refine rs_iload_n ri_202_8 rfl rfl ?_
      refine rs_aload_n ri_202_9 rfl rfl ?_
      refine rs_len (v := nI n) ri_202_10 rfl (by omega) (hla.1) (by decide) rfl ?_
      refine rs_icmp_ge (t := 30) ri_202_11 rfl rfl (fun q => absurd q (nI_ge (a := k) (b := n) (by omega) (by omega))) (fun _ => ?_)
      refine rs_aload_n ri_202_14 rfl rfl ?_
      refine rs_aload_n ri_202_15 rfl rfl ?_
      refine rs_iload_n ri_202_16 rfl rfl ?_
      refine rs_iald (v := nI (g k)) ri_202_17 rfl (by omega) (hla).1 (ro_vn (k := k) (by omega) (by omega)) (lr_g (hla) (by omega) (by omega)) ?_
      refine rs_stat (As := [.ref 0, .int (nI (g k))]) (r := []) ri_202_18 rfl rm_203.2.2.2 rfl rfl rfl (Nat.le_of_ble_eq_true rfl) (⟨by decide, by decide⟩) (by omega) (lx_203 hX (by omega)) ?_
      rintro v M2 ⟨e1, e2⟩
      rw [e1, e2]
      show ro_w X _ 202 _ 21 [(2, .int (nI k)), (0, .ref 0), (1, .ref c)] [.int (ro_b ((of_b (np X) (g k))))] M (0, 0)
      refine rs_ifeq_b (t := 30) ri_202_21 rfl rfl (fun _ => ?_) (fun q => absurd (q.symm.trans (Bool.eq_false_iff.mpr (fun q => h (of_b_i.mp q)))) (by decide))
      refine rs_iload_n ri_202_30 rfl rfl ?_
      refine rs_iret ri_202_31 rm_202.2.1 (by decide) ?_
      exact ⟨⟨k, rfl, by omega, by omega, ho, Or.inr (Or.inr h)⟩, rfl⟩
theorem lx_202 {c n : Nat} {g : Nat → Nat} (hX : X.1 ≤ 260) (hc : 163 ≤ c) (hn : n ≤ 10) (hla : lr_a M c n g) (hg : ∀ i, i < n → g i < 128) : ro_cwp X 5 202 [.ref 0, .ref c] M (fun v M2 => (∃ len, v = some (.int (nI len)) ∧ ev_l (np X) g n len) ∧ M2 = M) := by
  refine rs_begin (lv0 := [(0, .ref 0), (1, .ref c)]) (by decide) rfl (by rw [rm_202.1]; exact Nat.le_of_ble_eq_true rfl) rfl ?_
  refine rs_iconst (v := nI 0) ri_202_0 rfl (by decide) ?_
  refine rs_istore_n (lv2 := [(2, .int (nI 0)), (0, .ref 0), (1, .ref c)]) ri_202_1 rfl rm_202.1 (by decide) rfl ?_
  exact lp_202 hX hc hn hla hg n 0 (by omega) (fun y hy => absurd hy (Nat.not_lt_zero _))
def bc1 (v : Int32) : Int32 := v - (ro_ushr v (nI 1) &&& 1431655765)
def bc2 (v : Int32) : Int32 := (v &&& 858993459) + (ro_ushr v (nI 2) &&& 858993459)
def bc3 (v : Int32) : Int32 := (v + ro_ushr v (nI 4)) &&& 252645135
def bc4 (v : Int32) : Int32 := v + ro_ushr v (nI 8)
def bc5 (v : Int32) : Int32 := v + ro_ushr v (nI 16)
theorem bc_all : ∀ x, x < 1024 → bc5 (bc4 (bc3 (bc2 (bc1 (nI x))))) &&& nI 63 = nI (pc 10 x) := by decide +kernel
theorem lx_204 {x : Nat} (hx : x < 1024) : ro_cwp X 1 204 [.int (nI x)] M (fun v M2 => v = some (.int (nI (pc 10 x))) ∧ M2 = M) := by
  refine rs_begin (lv0 := [(0, .int (nI x))]) (by decide) rfl (by rw [rm_204.1]; exact Nat.le_of_ble_eq_true rfl) rfl ?_
  refine rs_iload_n ri_204_0 rfl rfl ?_
  refine rs_iload_n ri_204_1 rfl rfl ?_
  refine rs_iconst (v := nI 1) ri_204_2 rfl (by decide) ?_
  refine rs_iushr (r := ro_ushr (nI x) (nI 1)) ri_204_3 rfl rfl ?_
  refine rs_ldc_w (v := 1431655765) ri_204_4 rfl rfl (by decide) ?_
  refine rs_iand (r := (ro_ushr (nI x) (nI 1)) &&& 1431655765) ri_204_7 rfl rfl ?_
  refine rs_isub (r := ((bc1 (nI x)))) ri_204_8 rfl (rfl) ?_
  refine rs_istore_n (lv2 := [(0, .int ((bc1 (nI x))))]) ri_204_9 rfl rm_204.1 (by decide) rfl ?_
  refine rs_iload_n ri_204_10 rfl rfl ?_
  refine rs_ldc_w (v := 858993459) ri_204_11 rfl rfl (by decide) ?_
  refine rs_iand (r := ((bc1 (nI x))) &&& 858993459) ri_204_14 rfl rfl ?_
  refine rs_iload_n ri_204_15 rfl rfl ?_
  refine rs_iconst (v := nI 2) ri_204_16 rfl (by decide) ?_
  refine rs_iushr (r := ro_ushr ((bc1 (nI x))) (nI 2)) ri_204_17 rfl rfl ?_
  refine rs_ldc_w (v := 858993459) ri_204_18 rfl rfl (by decide) ?_
  refine rs_iand (r := (ro_ushr ((bc1 (nI x))) (nI 2)) &&& 858993459) ri_204_21 rfl rfl ?_
  refine rs_iadd (r := ((bc2 (bc1 (nI x))))) ri_204_22 rfl (rfl) ?_
  refine rs_istore_n (lv2 := [(0, .int ((bc2 (bc1 (nI x)))))]) ri_204_23 rfl rm_204.1 (by decide) rfl ?_
  refine rs_iload_n ri_204_24 rfl rfl ?_
  refine rs_iload_n ri_204_25 rfl rfl ?_
  refine rs_iconst (v := nI 4) ri_204_26 rfl (by decide) ?_
  refine rs_iushr (r := ro_ushr ((bc2 (bc1 (nI x)))) (nI 4)) ri_204_27 rfl rfl ?_
  refine rs_iadd (r := ((bc2 (bc1 (nI x)))) + (ro_ushr ((bc2 (bc1 (nI x)))) (nI 4))) ri_204_28 rfl rfl ?_
  refine rs_ldc_w (v := 252645135) ri_204_29 rfl rfl (by decide) ?_
  refine rs_iand (r := ((bc3 (bc2 (bc1 (nI x)))))) ri_204_32 rfl (rfl) ?_
  refine rs_istore_n (lv2 := [(0, .int ((bc3 (bc2 (bc1 (nI x))))))]) ri_204_33 rfl rm_204.1 (by decide) rfl ?_
  refine rs_iload_n ri_204_34 rfl rfl ?_
  refine rs_iload_n ri_204_35 rfl rfl ?_
  refine rs_bipush (v := nI 8) ri_204_36 rfl (by decide) ?_
  refine rs_iushr (r := ro_ushr ((bc3 (bc2 (bc1 (nI x))))) (nI 8)) ri_204_38 rfl rfl ?_
  refine rs_iadd (r := ((bc4 (bc3 (bc2 (bc1 (nI x))))))) ri_204_39 rfl (rfl) ?_
  refine rs_istore_n (lv2 := [(0, .int ((bc4 (bc3 (bc2 (bc1 (nI x)))))))]) ri_204_40 rfl rm_204.1 (by decide) rfl ?_
  refine rs_iload_n ri_204_41 rfl rfl ?_
  refine rs_iload_n ri_204_42 rfl rfl ?_
  refine rs_bipush (v := nI 16) ri_204_43 rfl (by decide) ?_
  refine rs_iushr (r := ro_ushr ((bc4 (bc3 (bc2 (bc1 (nI x)))))) (nI 16)) ri_204_45 rfl rfl ?_
  refine rs_iadd (r := ((bc5 (bc4 (bc3 (bc2 (bc1 (nI x)))))))) ri_204_46 rfl (rfl) ?_
  refine rs_istore_n (lv2 := [(0, .int ((bc5 (bc4 (bc3 (bc2 (bc1 (nI x))))))))]) ri_204_47 rfl rm_204.1 (by decide) rfl ?_
  refine rs_iload_n ri_204_48 rfl rfl ?_
  refine rs_bipush (v := nI 63) ri_204_49 rfl (by decide) ?_
  refine rs_iand (r := nI (pc 10 x)) ri_204_51 rfl (bc_all x hx) ?_
  refine rs_iret ri_204_52 rm_204.2.1 (by decide) ?_
  exact ⟨rfl, rfl⟩
theorem lx_205 {c n e : Nat} {f : Nat → Nat} (hc : 163 ≤ c) (hn : n ≤ 10) (he : e ≤ n) (hla : lr_a M c n f) (hl : c < M.1.length + 4) : ro_cwp X 1 205 [.ref c, .int (nI e)] M (fun v M2 => ∃ c0, v = some (.ref c0) ∧ nw M M2 c0 ∧ lr_a M2 c0 e f) := by
  refine rs_begin (lv0 := [(0, .ref c), (1, .int (nI e))]) (by decide) rfl (by rw [rm_205.1]; exact Nat.le_of_ble_eq_true rfl) rfl ?_
  by_cases h : e = n
  · refine rs_iload_n ri_205_0 rfl rfl ?_
    refine rs_aload_n ri_205_1 rfl rfl ?_
    refine rs_len (v := nI n) ri_205_2 rfl (by omega) (hla.1) (by decide) rfl ?_
    refine rs_icmp_ne (t := 14) ri_205_3 rfl rfl (fun q => absurd (congrArg nI (by omega)) q) (fun _ => ?_)
    refine rs_aload_n ri_205_6 rfl rfl ?_
    refine rs_clone (c0 := M.1.length + 4) (c1 := 1) (c2 := 0 + n) ri_205_7 rfl rfl (Nat.le_of_ble_eq_true rfl) (by omega) hla.1 rfl rfl rfl (by decide) (by show 0 + n ≤ 10; omega) ?_
    refine rs_cast ri_205_10 rfl (by omega) (cpy_new hla).1 ?_
    refine rs_areti ri_205_13 rm_205.2.1 ⟨Nat.le_refl _, by show _ ≤ 10; omega⟩ ?_
    exact ⟨_, rfl, nw_cpy, by rw [h]; exact cpy_new hla⟩
  · refine rs_iload_n ri_205_0 rfl rfl ?_
    refine rs_aload_n ri_205_1 rfl rfl ?_
    refine rs_len (v := nI n) ri_205_2 rfl (by omega) (hla.1) (by decide) rfl ?_
    refine rs_icmp_ne (t := 14) ri_205_3 rfl rfl (fun _ => ?_) (fun q => absurd q (fun q => absurd ((nI_eq (a := e) (b := n) (by omega) (by omega)).mp q) (by omega)))
    refine rs_iload_n ri_205_14 rfl rfl ?_
    refine rs_newa (c := M.1.length + 4) (k := 16) (n := e) (c1 := 1) (c2 := 0 + e) ri_205_15 rfl rfl (nI_pos (by omega)) (nI_clamp (by omega)) (by omega) rfl (by decide) rfl rfl rfl (by decide) (by show 0 + e ≤ 10; omega) ?_
    refine rs_astore_n (lv2 := [(2, .ref (M.1.length + 4)), (0, .ref c), (1, .int (nI e))]) ri_205_17 rfl rm_205.1 (by decide) rfl ?_
    refine rs_aload_n ri_205_18 rfl rfl ?_
    refine rs_iconst (v := nI 0) ri_205_19 rfl (by decide) ?_
    refine rs_aload_n ri_205_20 rfl rfl ?_
    refine rs_iconst (v := nI 0) ri_205_21 rfl (by decide) ?_
    refine rs_aload_n ri_205_22 rfl rfl ?_
    refine rs_len (v := nI n) ri_205_23 rfl (by omega) (lr_nw hla nw_new hl (by omega)).1 (by decide) rfl ?_
    refine rs_iload_n ri_205_24 rfl rfl ?_
    refine rs_min (r := nI e) ri_205_25 rfl (Nat.le_of_ble_eq_true rfl) (if_pos (nI_lt (by omega) (by omega))) ?_
    refine rs_copyi (n0 := n) (n1 := e) (i := 0) (j := 0) (k := e) ri_205_28 rfl (Nat.le_of_ble_eq_true rfl) (by omega) (by omega) (lr_nw hla nw_new hl (by omega)).1 kd_it (nI_pos (by omega)) (nI_pos (by omega)) (nI_pos (by omega)) (nI_clamp (by omega)) (nI_clamp (by omega)) (nI_clamp (by omega)) (by omega) (by omega) ?_
    refine rs_aload_n ri_205_31 rfl rfl ?_
    refine rs_areti ri_205_32 rm_205.2.1 ⟨Nat.le_refl _, by show _ ≤ 10; omega⟩ ?_
    refine ⟨_, rfl, nw_r nw_new, kd_it, fun i hi => ?_⟩
    show ro_row (ro_new M (16, e)).2.1 (M.1.length + 4) (va_cpy ((ro_new M (16, e)).2.1 c) ((ro_new M (16, e)).2.1 (M.1.length + 4)) 0 0 e) (M.1.length + 4) i = nI (f i)
    unfold ro_row
    rw [if_pos rfl]
    unfold va_cpy
    rw [if_pos ⟨Nat.zero_le _, by omega⟩, show 0 + (i - 0) = i by omega, (nw_new.2.2 c (by omega)).1]
    exact hla.2 i (by omega)
end SM
end LAWS
