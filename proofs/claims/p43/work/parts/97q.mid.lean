/-! the law's methods, on: put (200), tell (199), an evening (201) -/
section LAWQ
variable {X : ro_Sx} {L : List (List Int32 × List Int32)}
theorem lp_200 {M0 : ro_Mm} {c n s : Nat} {f : Nat → Nat} (hc : 163 ≤ c) (hn : n ≤ 60) (hs : s < 6) (hf : ∀ i, i < n → f i < 128) : ∀ e k M, k + e = n → kv L M → kw (kS_r s) M0 M → sh_b M s n (fun i => if i < k then f i else 0) → lr_a M c n f → ro_w X 4 200 (fun v M2 => v = some (.int (ro_b true)) ∧ kv L M2 ∧ kw (kS_r s) M0 M2 ∧ sh_b M2 s n f) 16 [(3, .int (nI k)), (0, .ref 4), (1, .int (nI s)), (2, .ref c)] [] M (0, 0) := by
  intro e
  induction e with
  | zero =>
    intro k M hke hk hw hb hla
    refine rs_iload_n ri_200_16 rfl rfl ?_
    refine rs_aload_n ri_200_17 rfl rfl ?_
    refine rs_len (v := nI n) ri_200_18 rfl (by omega) (hla.1) (by decide) rfl ?_
    refine rs_icmp_ge (t := 44) ri_200_19 rfl rfl (fun _ => ?_) (fun q => absurd (nI_le (a := n) (b := k) (by omega) (by omega)) q)
    refine rs_iconst (v := nI 1) ri_200_44 rfl (by decide) ?_
    refine rs_zret (p := true) ri_200_45 rm_200.2.1 (⟨by decide, by decide⟩) rfl ?_
    exact ⟨rfl, hk, hw, sh_f hb (fun i hi => (if_pos (by omega)).symm)⟩
  | succ e ih =>
    intro k M hke hk hw hb hla
    have hfk := hf k (by omega)
    refine rs_iload_n ri_200_16 rfl rfl ?_
    refine rs_aload_n ri_200_17 rfl rfl ?_
    refine rs_len (v := nI n) ri_200_18 rfl (by omega) (hla.1) (by decide) rfl ?_
    refine rs_icmp_ge (t := 44) ri_200_19 rfl rfl (fun q => absurd q (nI_ge (a := k) (b := n) (by omega) (by omega))) (fun _ => ?_)
    refine rs_aload_n ri_200_22 rfl rfl ?_
    refine rs_iload_n ri_200_23 rfl rfl ?_
    refine rs_iload_n ri_200_24 rfl rfl ?_
    refine rs_aload_n ri_200_25 rfl rfl ?_
    refine rs_iload_n ri_200_26 rfl rfl ?_
    refine rs_iald (v := nI (f k)) ri_200_27 rfl (by omega) (hla).1 (ro_vn (k := k) (by omega) (by omega)) (lr_g (hla) (by omega) (by omega)) ?_
    refine rs_i2l (r := (nI (f k)).toInt64) ri_200_28 rfl rfl ?_
    refine rs_virt (c := 4) (As := [.int (nI s), .int (nI k), .long ((nI (f k)).toInt64)]) (r := []) ri_200_29 rfl (by decide) rm_179.2.2.2 rm_179.2.2.1 rfl rfl rfl (by decide) (lr_4 hk) (Nat.le_of_ble_eq_true rfl) (⟨by decide, by decide⟩) (by omega) (ca_put (X := X) hk hs hn hb (by omega) hfk) ?_
    rintro v M2 ⟨e1, hk2, hw2, hb2⟩
    rw [e1]
    show ro_w X _ 200 _ 32 [(3, .int (nI k)), (0, .ref 4), (1, .int (nI s)), (2, .ref c)] [.int (nI 1)] M2 (0, 0)
    refine rs_iconst (v := nI 1) ri_200_32 rfl (by decide) ?_
    refine rs_icmp_eq (t := 38) ri_200_33 rfl rfl (fun _ => ?_) (fun q => absurd (by decide) q)
    refine rs_iinc (v := nI (k + 1)) (lv2 := [(3, .int (nI (k + 1))), (0, .ref 4), (1, .int (nI s)), (2, .ref c)]) ri_200_38 rfl rfl (nI_1 k) rm_200.1 (by decide) rfl ?_
    refine rs_goto (t := 16) ri_200_41 rfl ?_
    refine ih (k + 1) M2 (by omega) hk2 (kw_t hw hw2) (sh_f hb2 (fun i hi => ?_)) (lr_w hla hw2 hc)
    by_cases q : i = k
    · rw [if_pos q, if_pos (by omega), q]
    · rw [if_neg q]
      by_cases q2 : i < k
      · rw [if_pos q2, if_pos (by omega)]
      · rw [if_neg q2, if_neg (by omega)]
theorem lx_200 {M0 : ro_Mm} {c n s : Nat} {f : Nat → Nat} (hk : kv L M0) (hc : 163 ≤ c) (hn : n ≤ 60) (hs : s < 6) (hf : ∀ i, i < n → f i < 128) (hla : lr_a M0 c n f) : ro_cwp X 5 200 [.ref 4, .int (nI s), .ref c] M0 (fun v M2 => v = some (.int (ro_b true)) ∧ kv L M2 ∧ kw (kS_r s) M0 M2 ∧ sh_b M2 s n f) := by
  refine rs_begin (lv0 := [(0, .ref 4), (1, .int (nI s)), (2, .ref c)]) (by decide) rfl (by rw [rm_200.1]; exact Nat.le_of_ble_eq_true rfl) rfl ?_
  refine rs_aload_n ri_200_0 rfl rfl ?_
  refine rs_iload_n ri_200_1 rfl rfl ?_
  refine rs_iconst (v := nI 0) ri_200_2 rfl (by decide) ?_
  refine rs_aload_n ri_200_3 rfl rfl ?_
  refine rs_len (v := nI n) ri_200_4 rfl (by omega) (hla.1) (by decide) rfl ?_
  refine rs_virt (c := 4) (As := [.int (nI s), .int (nI 0), .int (nI n)]) (r := []) ri_200_5 rfl (by decide) rm_177.2.2.2 rm_177.2.2.1 rfl rfl rfl (by decide) (lr_4 hk) (Nat.le_of_ble_eq_true rfl) (⟨by decide, by decide⟩) (by omega) (ca_row (X := X) hk hs hn) ?_
  rintro v M2 ⟨e1, hk2, hw2, hb2⟩
  rw [e1]
  show ro_w X _ 200 _ 8 [(0, .ref 4), (1, .int (nI s)), (2, .ref c)] [.int (nI 1)] M2 (0, 0)
  refine rs_iconst (v := nI 1) ri_200_8 rfl (by decide) ?_
  refine rs_icmp_eq (t := 14) ri_200_9 rfl rfl (fun _ => ?_) (fun q => absurd (by decide) q)
  refine rs_iconst (v := nI 0) ri_200_14 rfl (by decide) ?_
  refine rs_istore_n (lv2 := [(3, .int (nI 0)), (0, .ref 4), (1, .int (nI s)), (2, .ref c)]) ri_200_15 rfl rm_200.1 (by decide) rfl ?_
  exact lp_200 hc hn hs hf n 0 M2 (by omega) hk2 hw2 (sh_f hb2 (fun i hi => if_neg (by omega))) (lr_w hla hw2 hc)
def kS_t (c j : Nat) : Bool := c == 17 || (c == 16 && j == 5)
theorem kS_ft {k c j : Nat} (h : kS_t c j = false) : kS_f k c j = false := by
  unfold kS_t at h
  unfold kS_f
  simp only [Bool.or_eq_false_iff, Bool.and_eq_false_iff, beq_eq_false_iff_ne] at h ⊢
  omega
theorem lp_199 {M0 : ro_Mm} {c n : Nat} {f : Nat → Nat} (hc : 163 ≤ c) (hn : n ≤ 119) (hf : ∀ i, i < n → f i < 256) : ∀ e k M, k + e = n → kv L M → kw kS_t M0 M → M.2.1 16 5 = nI k → (∀ i, i < k → M.2.1 17 i = nI (f i)) → lr_a M c n f → ro_w X 4 199 (fun v M2 => v = some (.int (ro_b true)) ∧ kv L M2 ∧ kw kS_t M0 M2 ∧ M2.2.1 16 5 = nI n ∧ ∀ i, i < n → M2.2.1 17 i = nI (f i)) 2 [(3, .int (nI k)), (0, .ref 4), (1, .ref c), (2, .int (nI n))] [] M (0, 0) := by
  intro e
  induction e with
  | zero =>
    intro k M hke hk hw h5 h17 hla
    have ek : k = n := by omega
    refine rs_iload_n ri_199_2 rfl rfl ?_
    refine rs_iload_n ri_199_3 rfl rfl ?_
    refine rs_icmp_ge (t := 28) ri_199_4 rfl rfl (fun _ => ?_) (fun q => absurd (nI_le (a := n) (b := k) (by omega) (by omega)) q)
    refine rs_aload_n ri_199_28 rfl rfl ?_
    refine rs_iconst (v := nI 3) ri_199_29 rfl (by decide) ?_
    refine rs_virt (c := 4) (As := [.int (nI 3)]) (r := []) ri_199_30 rfl (by decide) rm_190.2.2.2 rm_190.2.2.1 rfl rfl rfl (by decide) (lr_4 hk) (Nat.le_of_ble_eq_true rfl) (⟨by decide, by decide⟩) (by omega) (ca_cnt3 (X := X) hk) ?_
    rintro v M2 ⟨e1, hq⟩
    rw [e1, h5]
    show ro_w X _ 199 _ 33 [(3, .int (nI k)), (0, .ref 4), (1, .ref c), (2, .int (nI n))] [.int (nI k)] M2 (0, 0)
    refine rs_iload_n ri_199_33 rfl rfl ?_
    refine rs_icmp_ne (t := 41) ri_199_34 rfl rfl (fun q => absurd (congrArg nI (by omega)) q) (fun _ => ?_)
    refine rs_iconst (v := nI 1) ri_199_37 rfl (by decide) ?_
    refine rs_goto (t := 42) ri_199_38 rfl ?_
    refine rs_zret (p := true) ri_199_42 rm_199.2.1 (⟨by decide, by decide⟩) rfl ?_
    refine ⟨rfl, kv_c hk hq, kw_t hw (kw_kq hq), ?_, fun i hi => ?_⟩
    · rw [hq.2.1 16 5 (by decide) rfl, h5, ek]
    · rw [hq.2.1 17 i (by decide) rfl]; exact h17 i (by omega)
  | succ e ih =>
    intro k M hke hk hw h5 h17 hla
    have hfk := hf k (by omega)
    refine rs_iload_n ri_199_2 rfl rfl ?_
    refine rs_iload_n ri_199_3 rfl rfl ?_
    refine rs_icmp_ge (t := 28) ri_199_4 rfl rfl (fun q => absurd q (nI_ge (a := k) (b := n) (by omega) (by omega))) (fun _ => ?_)
    refine rs_aload_n ri_199_7 rfl rfl ?_
    refine rs_aload_n ri_199_8 rfl rfl ?_
    refine rs_iload_n ri_199_9 rfl rfl ?_
    refine rs_iald (v := nI (f k)) ri_199_10 rfl (by omega) (hla).1 (ro_vn (k := k) (by omega) (by omega)) (lr_g (hla) (by omega) (by omega)) ?_
    refine rs_virt (c := 4) (As := [.int (nI (f k))]) (r := []) ri_199_11 rfl (by decide) rm_40.2.2.2 rm_40.2.2.1 rfl rfl rfl (by decide) (lr_4 hk) (Nat.le_of_ble_eq_true rfl) (⟨by decide, by decide⟩) (by omega) (ca_feed (X := X) hk (by omega) h5 (by omega)) ?_
    rintro v M2 ⟨e1, hk2, hw2, h52, h172⟩
    rw [e1]
    show ro_w X _ 199 _ 14 [(3, .int (nI k)), (0, .ref 4), (1, .ref c), (2, .int (nI n))] [.int (nI (k + 1))] M2 (0, 0)
    refine rs_iload_n ri_199_14 rfl rfl ?_
    refine rs_iconst (v := nI 1) ri_199_15 rfl (by decide) ?_
    refine rs_iadd (r := nI (k + 1)) ri_199_16 rfl (nI_add k 1) ?_
    refine rs_icmp_eq (t := 22) ri_199_17 rfl rfl (fun _ => ?_) (fun q => absurd (congrArg nI (by omega)) q)
    refine rs_iinc (v := nI (k + 1)) (lv2 := [(3, .int (nI (k + 1))), (0, .ref 4), (1, .ref c), (2, .int (nI n))]) ri_199_22 rfl rfl (nI_1 k) rm_199.1 (by decide) rfl ?_
    refine rs_goto (t := 2) ri_199_25 rfl ?_
    refine ih (k + 1) M2 (by omega) hk2 (kw_t hw (kw_u (fun c j q => kS_ft q) hw2)) h52 (fun i hi => ?_) (lr_w hla hw2 hc)
    by_cases q : i = k
    · rw [q]; exact h172
    · rw [hw2.2.1 17 i (by decide) rfl (by unfold kS_f; simp only [Bool.or_eq_false_iff, Bool.and_eq_false_iff, beq_eq_false_iff_ne]; omega)]
      exact h17 i (by omega)
theorem lx_199 {M0 : ro_Mm} {c n : Nat} {f : Nat → Nat} (hk : kv L M0) (h5 : M0.2.1 16 5 = 0) (hc : 163 ≤ c) (hn : n ≤ 119) (hf : ∀ i, i < n → f i < 256) (hla : lr_a M0 c n f) : ro_cwp X 5 199 [.ref 4, .ref c, .int (nI n)] M0 (fun v M2 => v = some (.int (ro_b true)) ∧ kv L M2 ∧ kw kS_t M0 M2 ∧ M2.2.1 16 5 = nI n ∧ ∀ i, i < n → M2.2.1 17 i = nI (f i)) := by
  refine rs_begin (lv0 := [(0, .ref 4), (1, .ref c), (2, .int (nI n))]) (by decide) rfl (by rw [rm_199.1]; exact Nat.le_of_ble_eq_true rfl) rfl ?_
  refine rs_iconst (v := nI 0) ri_199_0 rfl (by decide) ?_
  refine rs_istore_n (lv2 := [(3, .int (nI 0)), (0, .ref 4), (1, .ref c), (2, .int (nI n))]) ri_199_1 rfl rm_199.1 (by decide) rfl ?_
  exact lp_199 hc hn hf n 0 M0 (by omega) hk (kw_r hk.1) h5 (fun i hi => absurd hi (Nat.not_lt_zero _)) hla
theorem lp_201 {M0 : ro_Mm} {c0 : Nat} (hX : X.1 ≤ 260) (hc : 163 ≤ c0) : ∀ e k M f, k + e = sc X 8 % 11 → nw M0 M c0 → lr_a M c0 (sc X 8 % 11) f → (∀ i, i < sc X 8 % 11 → f i < 128) → ro_w X 4 201 (fun v M2 => ∃ c0 f, v = some (.ref c0) ∧ nw M0 M2 c0 ∧ lr_a M2 c0 (sc X 8 % 11) f ∧ ∀ i, i < sc X 8 % 11 → f i < 128) 21 [(5, .int (nI k)), (4, .ref c0), (3, .int (nI (np X))), (0, .ref 0), (1, .int (nI 8)), (2, .int (nI 10))] [] M (1, 0 + sc X 8 % 11) := by
  have hs8 := sc_lt (X := X) (i := 8) (by omega)
  have hnp := np_b (X := X)
  intro e
  induction e with
  | zero =>
    intro k M f hke hnw hla hf
    refine rs_iload ri_201_21 rfl rfl ?_
    refine rs_aload ri_201_23 rfl rfl ?_
    refine rs_len (v := nI (sc X 8 % 11)) ri_201_25 rfl (by omega) (hla.1) (by decide) rfl ?_
    refine rs_icmp_ge (t := 140) ri_201_26 rfl rfl (fun _ => ?_) (fun q => absurd (nI_le (a := sc X 8 % 11) (b := k) (by omega) (by omega)) q)
    refine rs_aload ri_201_140 rfl rfl ?_
    refine rs_areti ri_201_142 rm_201.2.1 ⟨Nat.le_refl _, by show _ ≤ 10; omega⟩ ?_
    exact ⟨c0, f, rfl, hnw, hla, hf⟩
  | succ e ih =>
    intro k M f hke hnw hla hf
    have hs9 := sc_lt (X := X) (i := 9 + k % 3) (by omega)
    obtain ⟨x, hx⟩ : ∃ x, x = sc X (9 + k % 3) / 2 ^ k := ⟨_, rfl⟩
    have hxl : x < 16777216 := by rw [hx]; exact Nat.lt_of_le_of_lt (Nat.div_le_self _ _) hs9
    by_cases h2 : np X < 2
    · by_cases h66 : x % 67 = 66
      · refine rs_iload ri_201_21 rfl rfl ?_
        refine rs_aload ri_201_23 rfl rfl ?_
        refine rs_len (v := nI (sc X 8 % 11)) ri_201_25 rfl (by omega) (hla.1) (by decide) rfl ?_
        refine rs_icmp_ge (t := 140) ri_201_26 rfl rfl (fun q => absurd q (nI_ge (a := k) (b := sc X 8 % 11) (by omega) (by omega))) (fun _ => ?_)
        refine rs_aload_n ri_201_29 rfl rfl ?_
        refine rs_iload_n ri_201_30 rfl rfl ?_
        refine rs_iconst (v := nI 1) ri_201_31 rfl (by decide) ?_
        refine rs_iadd (r := nI 9) ri_201_32 rfl (by decide) ?_
        refine rs_iload ri_201_33 rfl rfl ?_
        refine rs_iconst (v := nI 3) ri_201_35 rfl (by decide) ?_
        refine rs_irem (r := nI (k % 3)) ri_201_36 rfl (by decide) (nI_rem (a := k) (b := 3) (by omega) (by omega)) ?_
        refine rs_iadd (r := nI (9 + (k % 3))) ri_201_37 rfl (nI_add 9 (k % 3)) ?_
        refine rs_stat (As := [.ref 0, .int (nI (9 + k % 3))]) (r := []) ri_201_38 rfl rm_193.2.2.2 rfl rfl rfl (Nat.le_of_ble_eq_true rfl) (⟨Nat.le_refl _, by show _ ≤ 10; omega⟩) (by omega) (lx_193 hX (by omega)) ?_
        rintro v M2 ⟨e1, e2⟩
        rw [e1, e2]
        show ro_w X _ 201 _ 41 [(5, .int (nI k)), (4, .ref c0), (3, .int (nI (np X))), (0, .ref 0), (1, .int (nI 8)), (2, .int (nI 10))] [.int (nI (sc X (9 + k % 3)))] M (1, 0 + sc X 8 % 11)
        refine rs_iload ri_201_41 rfl rfl ?_
        refine rs_ishr (r := nI x) ri_201_43 rfl (by rw [hx]; exact nI_shr (v := sc X (9 + k % 3)) (k := k) (by omega) (by omega)) ?_
        refine rs_istore (lv2 := [(6, .int (nI x)), (5, .int (nI k)), (4, .ref c0), (3, .int (nI (np X))), (0, .ref 0), (1, .int (nI 8)), (2, .int (nI 10))]) ri_201_44 rfl rm_201.1 (by decide) rfl ?_
        refine rs_iload_n ri_201_46 rfl rfl ?_
        refine rs_iconst (v := nI 2) ri_201_47 rfl (by decide) ?_
        refine rs_icmp_ge (t := 55) ri_201_48 rfl rfl (fun q => absurd q (nI_ge (a := np X) (b := 2) (by omega) (by omega))) (fun _ => ?_)
        refine rs_iconst (v := nI 0) ri_201_51 rfl (by decide) ?_
        refine rs_goto (t := 59) ri_201_52 rfl ?_
        refine rs_istore (lv2 := [(7, .int (nI 0)), (6, .int (nI x)), (5, .int (nI k)), (4, .ref c0), (3, .int (nI (np X))), (0, .ref 0), (1, .int (nI 8)), (2, .int (nI 10))]) ri_201_59 rfl rm_201.1 (by decide) rfl ?_
        refine rs_iload_n ri_201_61 rfl rfl ?_
        refine rs_iconst (v := nI 2) ri_201_62 rfl (by decide) ?_
        refine rs_icmp_ge (t := 70) ri_201_63 rfl rfl (fun q => absurd q (nI_ge (a := np X) (b := 2) (by omega) (by omega))) (fun _ => ?_)
        refine rs_iconst (v := nI 1) ri_201_66 rfl (by decide) ?_
        refine rs_goto (t := 85) ri_201_67 rfl ?_
        refine rs_istore (lv2 := [(8, .int (nI 1)), (7, .int (nI 0)), (6, .int (nI x)), (5, .int (nI k)), (4, .ref c0), (3, .int (nI (np X))), (0, .ref 0), (1, .int (nI 8)), (2, .int (nI 10))]) ri_201_85 rfl rm_201.1 (by decide) rfl ?_
        refine rs_aload ri_201_87 rfl rfl ?_
        refine rs_iload ri_201_89 rfl rfl ?_
        refine rs_iload ri_201_91 rfl rfl ?_
        refine rs_bipush (v := nI 67) ri_201_93 rfl (by decide) ?_
        refine rs_irem (r := nI (x % 67)) ri_201_95 rfl (by decide) (nI_rem (a := x) (b := 67) (by omega) (by omega)) ?_
        refine rs_bipush (v := nI 66) ri_201_96 rfl (by decide) ?_
        refine rs_icmp_ne (t := 106) ri_201_98 rfl rfl (fun q => absurd (congrArg nI (by omega)) q) (fun _ => ?_)
        refine rs_bipush (v := nI 120) ri_201_101 rfl (by decide) ?_
        refine rs_goto (t := 133) ri_201_103 rfl ?_
        refine rs_iast (j := k) ri_201_133 rfl (by omega) hla.1 (ro_vn (by omega) (by omega)) (nI_clamp (by omega)) ?_
        refine rs_iinc (v := nI (k + 1)) (lv2 := [(5, .int (nI (k + 1))), (8, .int (nI 1)), (7, .int (nI 0)), (6, .int (nI x)), (4, .ref c0), (3, .int (nI (np X))), (0, .ref 0), (1, .int (nI 8)), (2, .int (nI 10))]) ri_201_134 rfl rfl (nI_1 k) rm_201.1 (by decide) rfl ?_
        refine rs_goto (t := 21) ri_201_137 rfl ?_
        refine ro_w_lv (lv := [(5, .int (nI (k + 1))), (4, .ref c0), (3, .int (nI (np X))), (0, .ref 0), (1, .int (nI 8)), (2, .int (nI 10))]) (ro_sub_c rfl (ro_sub_c rfl (ro_sub_c rfl (ro_sub_c rfl (ro_sub_c rfl (ro_sub_c rfl (ro_sub_n rfl))))))) ?_
        exact ih (k + 1) _ _ (by omega) (nw_s hnw) (lr_s hla) (fun i hi => by
          by_cases q : i = k
          · rw [if_pos q]; omega
          · rw [if_neg q]; exact hf i hi)
      · by_cases h3 : x / 2 ^ 6 % 4 = 3
        · refine rs_iload ri_201_21 rfl rfl ?_
          refine rs_aload ri_201_23 rfl rfl ?_
          refine rs_len (v := nI (sc X 8 % 11)) ri_201_25 rfl (by omega) (hla.1) (by decide) rfl ?_
          refine rs_icmp_ge (t := 140) ri_201_26 rfl rfl (fun q => absurd q (nI_ge (a := k) (b := sc X 8 % 11) (by omega) (by omega))) (fun _ => ?_)
          refine rs_aload_n ri_201_29 rfl rfl ?_
          refine rs_iload_n ri_201_30 rfl rfl ?_
          refine rs_iconst (v := nI 1) ri_201_31 rfl (by decide) ?_
          refine rs_iadd (r := nI 9) ri_201_32 rfl (by decide) ?_
          refine rs_iload ri_201_33 rfl rfl ?_
          refine rs_iconst (v := nI 3) ri_201_35 rfl (by decide) ?_
          refine rs_irem (r := nI (k % 3)) ri_201_36 rfl (by decide) (nI_rem (a := k) (b := 3) (by omega) (by omega)) ?_
          refine rs_iadd (r := nI (9 + (k % 3))) ri_201_37 rfl (nI_add 9 (k % 3)) ?_
          refine rs_stat (As := [.ref 0, .int (nI (9 + k % 3))]) (r := []) ri_201_38 rfl rm_193.2.2.2 rfl rfl rfl (Nat.le_of_ble_eq_true rfl) (⟨Nat.le_refl _, by show _ ≤ 10; omega⟩) (by omega) (lx_193 hX (by omega)) ?_
          rintro v M2 ⟨e1, e2⟩
          rw [e1, e2]
          show ro_w X _ 201 _ 41 [(5, .int (nI k)), (4, .ref c0), (3, .int (nI (np X))), (0, .ref 0), (1, .int (nI 8)), (2, .int (nI 10))] [.int (nI (sc X (9 + k % 3)))] M (1, 0 + sc X 8 % 11)
          refine rs_iload ri_201_41 rfl rfl ?_
          refine rs_ishr (r := nI x) ri_201_43 rfl (by rw [hx]; exact nI_shr (v := sc X (9 + k % 3)) (k := k) (by omega) (by omega)) ?_
          refine rs_istore (lv2 := [(6, .int (nI x)), (5, .int (nI k)), (4, .ref c0), (3, .int (nI (np X))), (0, .ref 0), (1, .int (nI 8)), (2, .int (nI 10))]) ri_201_44 rfl rm_201.1 (by decide) rfl ?_
          refine rs_iload_n ri_201_46 rfl rfl ?_
          refine rs_iconst (v := nI 2) ri_201_47 rfl (by decide) ?_
          refine rs_icmp_ge (t := 55) ri_201_48 rfl rfl (fun q => absurd q (nI_ge (a := np X) (b := 2) (by omega) (by omega))) (fun _ => ?_)
          refine rs_iconst (v := nI 0) ri_201_51 rfl (by decide) ?_
          refine rs_goto (t := 59) ri_201_52 rfl ?_
          refine rs_istore (lv2 := [(7, .int (nI 0)), (6, .int (nI x)), (5, .int (nI k)), (4, .ref c0), (3, .int (nI (np X))), (0, .ref 0), (1, .int (nI 8)), (2, .int (nI 10))]) ri_201_59 rfl rm_201.1 (by decide) rfl ?_
          refine rs_iload_n ri_201_61 rfl rfl ?_
          refine rs_iconst (v := nI 2) ri_201_62 rfl (by decide) ?_
          refine rs_icmp_ge (t := 70) ri_201_63 rfl rfl (fun q => absurd q (nI_ge (a := np X) (b := 2) (by omega) (by omega))) (fun _ => ?_)
          refine rs_iconst (v := nI 1) ri_201_66 rfl (by decide) ?_
          refine rs_goto (t := 85) ri_201_67 rfl ?_
          refine rs_istore (lv2 := [(8, .int (nI 1)), (7, .int (nI 0)), (6, .int (nI x)), (5, .int (nI k)), (4, .ref c0), (3, .int (nI (np X))), (0, .ref 0), (1, .int (nI 8)), (2, .int (nI 10))]) ri_201_85 rfl rm_201.1 (by decide) rfl ?_
          refine rs_aload ri_201_87 rfl rfl ?_
          refine rs_iload ri_201_89 rfl rfl ?_
          refine rs_iload ri_201_91 rfl rfl ?_
          refine rs_bipush (v := nI 67) ri_201_93 rfl (by decide) ?_
          refine rs_irem (r := nI (x % 67)) ri_201_95 rfl (by decide) (nI_rem (a := x) (b := 67) (by omega) (by omega)) ?_
          refine rs_bipush (v := nI 66) ri_201_96 rfl (by decide) ?_
          refine rs_icmp_ne (t := 106) ri_201_98 rfl rfl (fun _ => ?_) (fun q => absurd q (fun q => absurd ((nI_eq (a := x % 67) (b := 66) (by omega) (by omega)).mp q) (by omega)))
          refine rs_bipush (v := nI 20) ri_201_106 rfl (by decide) ?_
          refine rs_iload ri_201_108 rfl rfl ?_
          refine rs_imul (r := nI 0) ri_201_110 rfl (by decide) ?_
          refine rs_iconst (v := nI 2) ri_201_111 rfl (by decide) ?_
          refine rs_iload ri_201_112 rfl rfl ?_
          refine rs_imul (r := nI 2) ri_201_114 rfl (by decide) ?_
          refine rs_iadd (r := nI 2) ri_201_115 rfl (by decide) ?_
          refine rs_iload ri_201_116 rfl rfl ?_
          refine rs_bipush (v := nI 6) ri_201_118 rfl (by decide) ?_
          refine rs_ishr (r := nI (x / 2 ^ 6)) ri_201_120 rfl (nI_shr (v := x) (k := 6) (by omega) (by omega)) ?_
          refine rs_iconst (v := nI 3) ri_201_121 rfl (by decide) ?_
          refine rs_iand (r := nI ((x / 2 ^ 6) % 4)) ri_201_122 rfl (nI_and3 (x / 2 ^ 6)) ?_
          refine rs_iconst (v := nI 3) ri_201_123 rfl (by decide) ?_
          refine rs_icmp_ne (t := 131) ri_201_124 rfl rfl (fun q => absurd (congrArg nI (by omega)) q) (fun _ => ?_)
          refine rs_iconst (v := nI 1) ri_201_127 rfl (by decide) ?_
          refine rs_goto (t := 132) ri_201_128 rfl ?_
          refine rs_iadd (r := nI 3) ri_201_132 rfl (by decide) ?_
          refine rs_iast (j := k) ri_201_133 rfl (by omega) hla.1 (ro_vn (by omega) (by omega)) (nI_clamp (by omega)) ?_
          refine rs_iinc (v := nI (k + 1)) (lv2 := [(5, .int (nI (k + 1))), (8, .int (nI 1)), (7, .int (nI 0)), (6, .int (nI x)), (4, .ref c0), (3, .int (nI (np X))), (0, .ref 0), (1, .int (nI 8)), (2, .int (nI 10))]) ri_201_134 rfl rfl (nI_1 k) rm_201.1 (by decide) rfl ?_
          refine rs_goto (t := 21) ri_201_137 rfl ?_
          refine ro_w_lv (lv := [(5, .int (nI (k + 1))), (4, .ref c0), (3, .int (nI (np X))), (0, .ref 0), (1, .int (nI 8)), (2, .int (nI 10))]) (ro_sub_c rfl (ro_sub_c rfl (ro_sub_c rfl (ro_sub_c rfl (ro_sub_c rfl (ro_sub_c rfl (ro_sub_n rfl))))))) ?_
          exact ih (k + 1) _ _ (by omega) (nw_s hnw) (lr_s hla) (fun i hi => by
            by_cases q : i = k
            · rw [if_pos q]; omega
            · rw [if_neg q]; exact hf i hi)
        · refine rs_iload ri_201_21 rfl rfl ?_
          refine rs_aload ri_201_23 rfl rfl ?_
          refine rs_len (v := nI (sc X 8 % 11)) ri_201_25 rfl (by omega) (hla.1) (by decide) rfl ?_
          refine rs_icmp_ge (t := 140) ri_201_26 rfl rfl (fun q => absurd q (nI_ge (a := k) (b := sc X 8 % 11) (by omega) (by omega))) (fun _ => ?_)
          refine rs_aload_n ri_201_29 rfl rfl ?_
          refine rs_iload_n ri_201_30 rfl rfl ?_
          refine rs_iconst (v := nI 1) ri_201_31 rfl (by decide) ?_
          refine rs_iadd (r := nI 9) ri_201_32 rfl (by decide) ?_
          refine rs_iload ri_201_33 rfl rfl ?_
          refine rs_iconst (v := nI 3) ri_201_35 rfl (by decide) ?_
          refine rs_irem (r := nI (k % 3)) ri_201_36 rfl (by decide) (nI_rem (a := k) (b := 3) (by omega) (by omega)) ?_
          refine rs_iadd (r := nI (9 + (k % 3))) ri_201_37 rfl (nI_add 9 (k % 3)) ?_
          refine rs_stat (As := [.ref 0, .int (nI (9 + k % 3))]) (r := []) ri_201_38 rfl rm_193.2.2.2 rfl rfl rfl (Nat.le_of_ble_eq_true rfl) (⟨Nat.le_refl _, by show _ ≤ 10; omega⟩) (by omega) (lx_193 hX (by omega)) ?_
          rintro v M2 ⟨e1, e2⟩
          rw [e1, e2]
          show ro_w X _ 201 _ 41 [(5, .int (nI k)), (4, .ref c0), (3, .int (nI (np X))), (0, .ref 0), (1, .int (nI 8)), (2, .int (nI 10))] [.int (nI (sc X (9 + k % 3)))] M (1, 0 + sc X 8 % 11)
          refine rs_iload ri_201_41 rfl rfl ?_
          refine rs_ishr (r := nI x) ri_201_43 rfl (by rw [hx]; exact nI_shr (v := sc X (9 + k % 3)) (k := k) (by omega) (by omega)) ?_
          refine rs_istore (lv2 := [(6, .int (nI x)), (5, .int (nI k)), (4, .ref c0), (3, .int (nI (np X))), (0, .ref 0), (1, .int (nI 8)), (2, .int (nI 10))]) ri_201_44 rfl rm_201.1 (by decide) rfl ?_
          refine rs_iload_n ri_201_46 rfl rfl ?_
          refine rs_iconst (v := nI 2) ri_201_47 rfl (by decide) ?_
          refine rs_icmp_ge (t := 55) ri_201_48 rfl rfl (fun q => absurd q (nI_ge (a := np X) (b := 2) (by omega) (by omega))) (fun _ => ?_)
          refine rs_iconst (v := nI 0) ri_201_51 rfl (by decide) ?_
          refine rs_goto (t := 59) ri_201_52 rfl ?_
          refine rs_istore (lv2 := [(7, .int (nI 0)), (6, .int (nI x)), (5, .int (nI k)), (4, .ref c0), (3, .int (nI (np X))), (0, .ref 0), (1, .int (nI 8)), (2, .int (nI 10))]) ri_201_59 rfl rm_201.1 (by decide) rfl ?_
          refine rs_iload_n ri_201_61 rfl rfl ?_
          refine rs_iconst (v := nI 2) ri_201_62 rfl (by decide) ?_
          refine rs_icmp_ge (t := 70) ri_201_63 rfl rfl (fun q => absurd q (nI_ge (a := np X) (b := 2) (by omega) (by omega))) (fun _ => ?_)
          refine rs_iconst (v := nI 1) ri_201_66 rfl (by decide) ?_
          refine rs_goto (t := 85) ri_201_67 rfl ?_
          refine rs_istore (lv2 := [(8, .int (nI 1)), (7, .int (nI 0)), (6, .int (nI x)), (5, .int (nI k)), (4, .ref c0), (3, .int (nI (np X))), (0, .ref 0), (1, .int (nI 8)), (2, .int (nI 10))]) ri_201_85 rfl rm_201.1 (by decide) rfl ?_
          refine rs_aload ri_201_87 rfl rfl ?_
          refine rs_iload ri_201_89 rfl rfl ?_
          refine rs_iload ri_201_91 rfl rfl ?_
          refine rs_bipush (v := nI 67) ri_201_93 rfl (by decide) ?_
          refine rs_irem (r := nI (x % 67)) ri_201_95 rfl (by decide) (nI_rem (a := x) (b := 67) (by omega) (by omega)) ?_
          refine rs_bipush (v := nI 66) ri_201_96 rfl (by decide) ?_
          refine rs_icmp_ne (t := 106) ri_201_98 rfl rfl (fun _ => ?_) (fun q => absurd q (fun q => absurd ((nI_eq (a := x % 67) (b := 66) (by omega) (by omega)).mp q) (by omega)))
          refine rs_bipush (v := nI 20) ri_201_106 rfl (by decide) ?_
          refine rs_iload ri_201_108 rfl rfl ?_
          refine rs_imul (r := nI 0) ri_201_110 rfl (by decide) ?_
          refine rs_iconst (v := nI 2) ri_201_111 rfl (by decide) ?_
          refine rs_iload ri_201_112 rfl rfl ?_
          refine rs_imul (r := nI 2) ri_201_114 rfl (by decide) ?_
          refine rs_iadd (r := nI 2) ri_201_115 rfl (by decide) ?_
          refine rs_iload ri_201_116 rfl rfl ?_
          refine rs_bipush (v := nI 6) ri_201_118 rfl (by decide) ?_
          refine rs_ishr (r := nI (x / 2 ^ 6)) ri_201_120 rfl (nI_shr (v := x) (k := 6) (by omega) (by omega)) ?_
          refine rs_iconst (v := nI 3) ri_201_121 rfl (by decide) ?_
          refine rs_iand (r := nI ((x / 2 ^ 6) % 4)) ri_201_122 rfl (nI_and3 (x / 2 ^ 6)) ?_
          refine rs_iconst (v := nI 3) ri_201_123 rfl (by decide) ?_
          refine rs_icmp_ne (t := 131) ri_201_124 rfl rfl (fun _ => ?_) (fun q => absurd q (fun q => absurd ((nI_eq (a := (x / 2 ^ 6) % 4) (b := 3) (by omega) (by omega)).mp q) (by omega)))
          refine rs_iconst (v := nI 0) ri_201_131 rfl (by decide) ?_
          refine rs_iadd (r := nI 2) ri_201_132 rfl (by decide) ?_
          refine rs_iast (j := k) ri_201_133 rfl (by omega) hla.1 (ro_vn (by omega) (by omega)) (nI_clamp (by omega)) ?_
          refine rs_iinc (v := nI (k + 1)) (lv2 := [(5, .int (nI (k + 1))), (8, .int (nI 1)), (7, .int (nI 0)), (6, .int (nI x)), (4, .ref c0), (3, .int (nI (np X))), (0, .ref 0), (1, .int (nI 8)), (2, .int (nI 10))]) ri_201_134 rfl rfl (nI_1 k) rm_201.1 (by decide) rfl ?_
          refine rs_goto (t := 21) ri_201_137 rfl ?_
          refine ro_w_lv (lv := [(5, .int (nI (k + 1))), (4, .ref c0), (3, .int (nI (np X))), (0, .ref 0), (1, .int (nI 8)), (2, .int (nI 10))]) (ro_sub_c rfl (ro_sub_c rfl (ro_sub_c rfl (ro_sub_c rfl (ro_sub_c rfl (ro_sub_c rfl (ro_sub_n rfl))))))) ?_
          exact ih (k + 1) _ _ (by omega) (nw_s hnw) (lr_s hla) (fun i hi => by
            by_cases q : i = k
            · rw [if_pos q]; omega
            · rw [if_neg q]; exact hf i hi)
    · obtain ⟨a, ha⟩ : ∃ a, a = x % np X := ⟨_, rfl⟩
      have hal : a < np X := by rw [ha]; exact Nat.mod_lt _ (by omega)
      have hy : x / 2 ^ 3 % (np X - 1) < np X - 1 := Nat.mod_lt _ (by omega)
      obtain ⟨b, hb⟩ : ∃ b, b = (a + 1 + x / 2 ^ 3 % (np X - 1)) % np X := ⟨_, rfl⟩
      have hbl : b < np X := by rw [hb]; exact Nat.mod_lt _ (by omega)
      by_cases h66 : x % 67 = 66
      · refine rs_iload ri_201_21 rfl rfl ?_
        refine rs_aload ri_201_23 rfl rfl ?_
        refine rs_len (v := nI (sc X 8 % 11)) ri_201_25 rfl (by omega) (hla.1) (by decide) rfl ?_
        refine rs_icmp_ge (t := 140) ri_201_26 rfl rfl (fun q => absurd q (nI_ge (a := k) (b := sc X 8 % 11) (by omega) (by omega))) (fun _ => ?_)
        refine rs_aload_n ri_201_29 rfl rfl ?_
        refine rs_iload_n ri_201_30 rfl rfl ?_
        refine rs_iconst (v := nI 1) ri_201_31 rfl (by decide) ?_
        refine rs_iadd (r := nI 9) ri_201_32 rfl (by decide) ?_
        refine rs_iload ri_201_33 rfl rfl ?_
        refine rs_iconst (v := nI 3) ri_201_35 rfl (by decide) ?_
        refine rs_irem (r := nI (k % 3)) ri_201_36 rfl (by decide) (nI_rem (a := k) (b := 3) (by omega) (by omega)) ?_
        refine rs_iadd (r := nI (9 + (k % 3))) ri_201_37 rfl (nI_add 9 (k % 3)) ?_
        refine rs_stat (As := [.ref 0, .int (nI (9 + k % 3))]) (r := []) ri_201_38 rfl rm_193.2.2.2 rfl rfl rfl (Nat.le_of_ble_eq_true rfl) (⟨Nat.le_refl _, by show _ ≤ 10; omega⟩) (by omega) (lx_193 hX (by omega)) ?_
        rintro v M2 ⟨e1, e2⟩
        rw [e1, e2]
        show ro_w X _ 201 _ 41 [(5, .int (nI k)), (4, .ref c0), (3, .int (nI (np X))), (0, .ref 0), (1, .int (nI 8)), (2, .int (nI 10))] [.int (nI (sc X (9 + k % 3)))] M (1, 0 + sc X 8 % 11)
        refine rs_iload ri_201_41 rfl rfl ?_
        refine rs_ishr (r := nI x) ri_201_43 rfl (by rw [hx]; exact nI_shr (v := sc X (9 + k % 3)) (k := k) (by omega) (by omega)) ?_
        refine rs_istore (lv2 := [(6, .int (nI x)), (5, .int (nI k)), (4, .ref c0), (3, .int (nI (np X))), (0, .ref 0), (1, .int (nI 8)), (2, .int (nI 10))]) ri_201_44 rfl rm_201.1 (by decide) rfl ?_
        refine rs_iload_n ri_201_46 rfl rfl ?_
        refine rs_iconst (v := nI 2) ri_201_47 rfl (by decide) ?_
        refine rs_icmp_ge (t := 55) ri_201_48 rfl rfl (fun _ => ?_) (fun q => absurd (nI_le (a := 2) (b := np X) (by omega) (by omega)) q)
        refine rs_iload ri_201_55 rfl rfl ?_
        refine rs_iload_n ri_201_57 rfl rfl ?_
        refine rs_irem (r := nI a) ri_201_58 rfl (nI_ne0 (by omega) (by omega)) (by rw [ha]; exact nI_rem (a := x) (b := np X) (by omega) (by omega)) ?_
        refine rs_istore (lv2 := [(7, .int (nI a)), (6, .int (nI x)), (5, .int (nI k)), (4, .ref c0), (3, .int (nI (np X))), (0, .ref 0), (1, .int (nI 8)), (2, .int (nI 10))]) ri_201_59 rfl rm_201.1 (by decide) rfl ?_
        refine rs_iload_n ri_201_61 rfl rfl ?_
        refine rs_iconst (v := nI 2) ri_201_62 rfl (by decide) ?_
        refine rs_icmp_ge (t := 70) ri_201_63 rfl rfl (fun _ => ?_) (fun q => absurd (nI_le (a := 2) (b := np X) (by omega) (by omega)) q)
        refine rs_iload ri_201_70 rfl rfl ?_
        refine rs_iconst (v := nI 1) ri_201_72 rfl (by decide) ?_
        refine rs_iadd (r := nI (a + 1)) ri_201_73 rfl (nI_add a 1) ?_
        refine rs_iload ri_201_74 rfl rfl ?_
        refine rs_iconst (v := nI 3) ri_201_76 rfl (by decide) ?_
        refine rs_ishr (r := nI (x / 2 ^ 3)) ri_201_77 rfl (nI_shr (v := x) (k := 3) (by omega) (by omega)) ?_
        refine rs_iload_n ri_201_78 rfl rfl ?_
        refine rs_iconst (v := nI 1) ri_201_79 rfl (by decide) ?_
        refine rs_isub (r := nI ((np X) - 1)) ri_201_80 rfl (nI_sub (a := (np X)) (b := 1) (by omega)) ?_
        refine rs_irem (r := nI ((x / 2 ^ 3) % ((np X) - 1))) ri_201_81 rfl (nI_ne0 (by omega) (by omega)) (nI_rem (a := (x / 2 ^ 3)) (b := ((np X) - 1)) (by omega) (by omega)) ?_
        refine rs_iadd (r := nI ((a + 1) + ((x / 2 ^ 3) % ((np X) - 1)))) ri_201_82 rfl (nI_add (a + 1) ((x / 2 ^ 3) % ((np X) - 1))) ?_
        refine rs_iload_n ri_201_83 rfl rfl ?_
        refine rs_irem (r := nI b) ri_201_84 rfl (nI_ne0 (by omega) (by omega)) (by rw [hb]; exact nI_rem (b := np X) (by omega) (by omega)) ?_
        refine rs_istore (lv2 := [(8, .int (nI b)), (7, .int (nI a)), (6, .int (nI x)), (5, .int (nI k)), (4, .ref c0), (3, .int (nI (np X))), (0, .ref 0), (1, .int (nI 8)), (2, .int (nI 10))]) ri_201_85 rfl rm_201.1 (by decide) rfl ?_
        refine rs_aload ri_201_87 rfl rfl ?_
        refine rs_iload ri_201_89 rfl rfl ?_
        refine rs_iload ri_201_91 rfl rfl ?_
        refine rs_bipush (v := nI 67) ri_201_93 rfl (by decide) ?_
        refine rs_irem (r := nI (x % 67)) ri_201_95 rfl (by decide) (nI_rem (a := x) (b := 67) (by omega) (by omega)) ?_
        refine rs_bipush (v := nI 66) ri_201_96 rfl (by decide) ?_
        refine rs_icmp_ne (t := 106) ri_201_98 rfl rfl (fun q => absurd (congrArg nI (by omega)) q) (fun _ => ?_)
        refine rs_bipush (v := nI 120) ri_201_101 rfl (by decide) ?_
        refine rs_goto (t := 133) ri_201_103 rfl ?_
        refine rs_iast (j := k) ri_201_133 rfl (by omega) hla.1 (ro_vn (by omega) (by omega)) (nI_clamp (by omega)) ?_
        refine rs_iinc (v := nI (k + 1)) (lv2 := [(5, .int (nI (k + 1))), (8, .int (nI b)), (7, .int (nI a)), (6, .int (nI x)), (4, .ref c0), (3, .int (nI (np X))), (0, .ref 0), (1, .int (nI 8)), (2, .int (nI 10))]) ri_201_134 rfl rfl (nI_1 k) rm_201.1 (by decide) rfl ?_
        refine rs_goto (t := 21) ri_201_137 rfl ?_
        refine ro_w_lv (lv := [(5, .int (nI (k + 1))), (4, .ref c0), (3, .int (nI (np X))), (0, .ref 0), (1, .int (nI 8)), (2, .int (nI 10))]) (ro_sub_c rfl (ro_sub_c rfl (ro_sub_c rfl (ro_sub_c rfl (ro_sub_c rfl (ro_sub_c rfl (ro_sub_n rfl))))))) ?_
        exact ih (k + 1) _ _ (by omega) (nw_s hnw) (lr_s hla) (fun i hi => by
          by_cases q : i = k
          · rw [if_pos q]; omega
          · rw [if_neg q]; exact hf i hi)
      · by_cases h3 : x / 2 ^ 6 % 4 = 3
        · refine rs_iload ri_201_21 rfl rfl ?_
          refine rs_aload ri_201_23 rfl rfl ?_
          refine rs_len (v := nI (sc X 8 % 11)) ri_201_25 rfl (by omega) (hla.1) (by decide) rfl ?_
          refine rs_icmp_ge (t := 140) ri_201_26 rfl rfl (fun q => absurd q (nI_ge (a := k) (b := sc X 8 % 11) (by omega) (by omega))) (fun _ => ?_)
          refine rs_aload_n ri_201_29 rfl rfl ?_
          refine rs_iload_n ri_201_30 rfl rfl ?_
          refine rs_iconst (v := nI 1) ri_201_31 rfl (by decide) ?_
          refine rs_iadd (r := nI 9) ri_201_32 rfl (by decide) ?_
          refine rs_iload ri_201_33 rfl rfl ?_
          refine rs_iconst (v := nI 3) ri_201_35 rfl (by decide) ?_
          refine rs_irem (r := nI (k % 3)) ri_201_36 rfl (by decide) (nI_rem (a := k) (b := 3) (by omega) (by omega)) ?_
          refine rs_iadd (r := nI (9 + (k % 3))) ri_201_37 rfl (nI_add 9 (k % 3)) ?_
          refine rs_stat (As := [.ref 0, .int (nI (9 + k % 3))]) (r := []) ri_201_38 rfl rm_193.2.2.2 rfl rfl rfl (Nat.le_of_ble_eq_true rfl) (⟨Nat.le_refl _, by show _ ≤ 10; omega⟩) (by omega) (lx_193 hX (by omega)) ?_
          rintro v M2 ⟨e1, e2⟩
          rw [e1, e2]
          show ro_w X _ 201 _ 41 [(5, .int (nI k)), (4, .ref c0), (3, .int (nI (np X))), (0, .ref 0), (1, .int (nI 8)), (2, .int (nI 10))] [.int (nI (sc X (9 + k % 3)))] M (1, 0 + sc X 8 % 11)
          refine rs_iload ri_201_41 rfl rfl ?_
          refine rs_ishr (r := nI x) ri_201_43 rfl (by rw [hx]; exact nI_shr (v := sc X (9 + k % 3)) (k := k) (by omega) (by omega)) ?_
          refine rs_istore (lv2 := [(6, .int (nI x)), (5, .int (nI k)), (4, .ref c0), (3, .int (nI (np X))), (0, .ref 0), (1, .int (nI 8)), (2, .int (nI 10))]) ri_201_44 rfl rm_201.1 (by decide) rfl ?_
          refine rs_iload_n ri_201_46 rfl rfl ?_
          refine rs_iconst (v := nI 2) ri_201_47 rfl (by decide) ?_
          refine rs_icmp_ge (t := 55) ri_201_48 rfl rfl (fun _ => ?_) (fun q => absurd (nI_le (a := 2) (b := np X) (by omega) (by omega)) q)
          refine rs_iload ri_201_55 rfl rfl ?_
          refine rs_iload_n ri_201_57 rfl rfl ?_
          refine rs_irem (r := nI a) ri_201_58 rfl (nI_ne0 (by omega) (by omega)) (by rw [ha]; exact nI_rem (a := x) (b := np X) (by omega) (by omega)) ?_
          refine rs_istore (lv2 := [(7, .int (nI a)), (6, .int (nI x)), (5, .int (nI k)), (4, .ref c0), (3, .int (nI (np X))), (0, .ref 0), (1, .int (nI 8)), (2, .int (nI 10))]) ri_201_59 rfl rm_201.1 (by decide) rfl ?_
          refine rs_iload_n ri_201_61 rfl rfl ?_
          refine rs_iconst (v := nI 2) ri_201_62 rfl (by decide) ?_
          refine rs_icmp_ge (t := 70) ri_201_63 rfl rfl (fun _ => ?_) (fun q => absurd (nI_le (a := 2) (b := np X) (by omega) (by omega)) q)
          refine rs_iload ri_201_70 rfl rfl ?_
          refine rs_iconst (v := nI 1) ri_201_72 rfl (by decide) ?_
          refine rs_iadd (r := nI (a + 1)) ri_201_73 rfl (nI_add a 1) ?_
          refine rs_iload ri_201_74 rfl rfl ?_
          refine rs_iconst (v := nI 3) ri_201_76 rfl (by decide) ?_
          refine rs_ishr (r := nI (x / 2 ^ 3)) ri_201_77 rfl (nI_shr (v := x) (k := 3) (by omega) (by omega)) ?_
          refine rs_iload_n ri_201_78 rfl rfl ?_
          refine rs_iconst (v := nI 1) ri_201_79 rfl (by decide) ?_
          refine rs_isub (r := nI ((np X) - 1)) ri_201_80 rfl (nI_sub (a := (np X)) (b := 1) (by omega)) ?_
          refine rs_irem (r := nI ((x / 2 ^ 3) % ((np X) - 1))) ri_201_81 rfl (nI_ne0 (by omega) (by omega)) (nI_rem (a := (x / 2 ^ 3)) (b := ((np X) - 1)) (by omega) (by omega)) ?_
          refine rs_iadd (r := nI ((a + 1) + ((x / 2 ^ 3) % ((np X) - 1)))) ri_201_82 rfl (nI_add (a + 1) ((x / 2 ^ 3) % ((np X) - 1))) ?_
          refine rs_iload_n ri_201_83 rfl rfl ?_
          refine rs_irem (r := nI b) ri_201_84 rfl (nI_ne0 (by omega) (by omega)) (by rw [hb]; exact nI_rem (b := np X) (by omega) (by omega)) ?_
          refine rs_istore (lv2 := [(8, .int (nI b)), (7, .int (nI a)), (6, .int (nI x)), (5, .int (nI k)), (4, .ref c0), (3, .int (nI (np X))), (0, .ref 0), (1, .int (nI 8)), (2, .int (nI 10))]) ri_201_85 rfl rm_201.1 (by decide) rfl ?_
          refine rs_aload ri_201_87 rfl rfl ?_
          refine rs_iload ri_201_89 rfl rfl ?_
          refine rs_iload ri_201_91 rfl rfl ?_
          refine rs_bipush (v := nI 67) ri_201_93 rfl (by decide) ?_
          refine rs_irem (r := nI (x % 67)) ri_201_95 rfl (by decide) (nI_rem (a := x) (b := 67) (by omega) (by omega)) ?_
          refine rs_bipush (v := nI 66) ri_201_96 rfl (by decide) ?_
          refine rs_icmp_ne (t := 106) ri_201_98 rfl rfl (fun _ => ?_) (fun q => absurd q (fun q => absurd ((nI_eq (a := x % 67) (b := 66) (by omega) (by omega)).mp q) (by omega)))
          refine rs_bipush (v := nI 20) ri_201_106 rfl (by decide) ?_
          refine rs_iload ri_201_108 rfl rfl ?_
          refine rs_imul (r := nI (20 * a)) ri_201_110 rfl (nI_mul 20 a) ?_
          refine rs_iconst (v := nI 2) ri_201_111 rfl (by decide) ?_
          refine rs_iload ri_201_112 rfl rfl ?_
          refine rs_imul (r := nI (2 * b)) ri_201_114 rfl (nI_mul 2 b) ?_
          refine rs_iadd (r := nI ((20 * a) + (2 * b))) ri_201_115 rfl (nI_add (20 * a) (2 * b)) ?_
          refine rs_iload ri_201_116 rfl rfl ?_
          refine rs_bipush (v := nI 6) ri_201_118 rfl (by decide) ?_
          refine rs_ishr (r := nI (x / 2 ^ 6)) ri_201_120 rfl (nI_shr (v := x) (k := 6) (by omega) (by omega)) ?_
          refine rs_iconst (v := nI 3) ri_201_121 rfl (by decide) ?_
          refine rs_iand (r := nI ((x / 2 ^ 6) % 4)) ri_201_122 rfl (nI_and3 (x / 2 ^ 6)) ?_
          refine rs_iconst (v := nI 3) ri_201_123 rfl (by decide) ?_
          refine rs_icmp_ne (t := 131) ri_201_124 rfl rfl (fun q => absurd (congrArg nI (by omega)) q) (fun _ => ?_)
          refine rs_iconst (v := nI 1) ri_201_127 rfl (by decide) ?_
          refine rs_goto (t := 132) ri_201_128 rfl ?_
          refine rs_iadd (r := nI (((20 * a) + (2 * b)) + 1)) ri_201_132 rfl (nI_add ((20 * a) + (2 * b)) 1) ?_
          refine rs_iast (j := k) ri_201_133 rfl (by omega) hla.1 (ro_vn (by omega) (by omega)) (nI_clamp (by omega)) ?_
          refine rs_iinc (v := nI (k + 1)) (lv2 := [(5, .int (nI (k + 1))), (8, .int (nI b)), (7, .int (nI a)), (6, .int (nI x)), (4, .ref c0), (3, .int (nI (np X))), (0, .ref 0), (1, .int (nI 8)), (2, .int (nI 10))]) ri_201_134 rfl rfl (nI_1 k) rm_201.1 (by decide) rfl ?_
          refine rs_goto (t := 21) ri_201_137 rfl ?_
          refine ro_w_lv (lv := [(5, .int (nI (k + 1))), (4, .ref c0), (3, .int (nI (np X))), (0, .ref 0), (1, .int (nI 8)), (2, .int (nI 10))]) (ro_sub_c rfl (ro_sub_c rfl (ro_sub_c rfl (ro_sub_c rfl (ro_sub_c rfl (ro_sub_c rfl (ro_sub_n rfl))))))) ?_
          exact ih (k + 1) _ _ (by omega) (nw_s hnw) (lr_s hla) (fun i hi => by
            by_cases q : i = k
            · rw [if_pos q]; omega
            · rw [if_neg q]; exact hf i hi)
        · refine rs_iload ri_201_21 rfl rfl ?_
          refine rs_aload ri_201_23 rfl rfl ?_
          refine rs_len (v := nI (sc X 8 % 11)) ri_201_25 rfl (by omega) (hla.1) (by decide) rfl ?_
          refine rs_icmp_ge (t := 140) ri_201_26 rfl rfl (fun q => absurd q (nI_ge (a := k) (b := sc X 8 % 11) (by omega) (by omega))) (fun _ => ?_)
          refine rs_aload_n ri_201_29 rfl rfl ?_
          refine rs_iload_n ri_201_30 rfl rfl ?_
          refine rs_iconst (v := nI 1) ri_201_31 rfl (by decide) ?_
          refine rs_iadd (r := nI 9) ri_201_32 rfl (by decide) ?_
          refine rs_iload ri_201_33 rfl rfl ?_
          refine rs_iconst (v := nI 3) ri_201_35 rfl (by decide) ?_
          refine rs_irem (r := nI (k % 3)) ri_201_36 rfl (by decide) (nI_rem (a := k) (b := 3) (by omega) (by omega)) ?_
          refine rs_iadd (r := nI (9 + (k % 3))) ri_201_37 rfl (nI_add 9 (k % 3)) ?_
          refine rs_stat (As := [.ref 0, .int (nI (9 + k % 3))]) (r := []) ri_201_38 rfl rm_193.2.2.2 rfl rfl rfl (Nat.le_of_ble_eq_true rfl) (⟨Nat.le_refl _, by show _ ≤ 10; omega⟩) (by omega) (lx_193 hX (by omega)) ?_
          rintro v M2 ⟨e1, e2⟩
          rw [e1, e2]
          show ro_w X _ 201 _ 41 [(5, .int (nI k)), (4, .ref c0), (3, .int (nI (np X))), (0, .ref 0), (1, .int (nI 8)), (2, .int (nI 10))] [.int (nI (sc X (9 + k % 3)))] M (1, 0 + sc X 8 % 11)
          refine rs_iload ri_201_41 rfl rfl ?_
          refine rs_ishr (r := nI x) ri_201_43 rfl (by rw [hx]; exact nI_shr (v := sc X (9 + k % 3)) (k := k) (by omega) (by omega)) ?_
          refine rs_istore (lv2 := [(6, .int (nI x)), (5, .int (nI k)), (4, .ref c0), (3, .int (nI (np X))), (0, .ref 0), (1, .int (nI 8)), (2, .int (nI 10))]) ri_201_44 rfl rm_201.1 (by decide) rfl ?_
          refine rs_iload_n ri_201_46 rfl rfl ?_
          refine rs_iconst (v := nI 2) ri_201_47 rfl (by decide) ?_
          refine rs_icmp_ge (t := 55) ri_201_48 rfl rfl (fun _ => ?_) (fun q => absurd (nI_le (a := 2) (b := np X) (by omega) (by omega)) q)
          refine rs_iload ri_201_55 rfl rfl ?_
          refine rs_iload_n ri_201_57 rfl rfl ?_
          refine rs_irem (r := nI a) ri_201_58 rfl (nI_ne0 (by omega) (by omega)) (by rw [ha]; exact nI_rem (a := x) (b := np X) (by omega) (by omega)) ?_
          refine rs_istore (lv2 := [(7, .int (nI a)), (6, .int (nI x)), (5, .int (nI k)), (4, .ref c0), (3, .int (nI (np X))), (0, .ref 0), (1, .int (nI 8)), (2, .int (nI 10))]) ri_201_59 rfl rm_201.1 (by decide) rfl ?_
          refine rs_iload_n ri_201_61 rfl rfl ?_
          refine rs_iconst (v := nI 2) ri_201_62 rfl (by decide) ?_
          refine rs_icmp_ge (t := 70) ri_201_63 rfl rfl (fun _ => ?_) (fun q => absurd (nI_le (a := 2) (b := np X) (by omega) (by omega)) q)
          refine rs_iload ri_201_70 rfl rfl ?_
          refine rs_iconst (v := nI 1) ri_201_72 rfl (by decide) ?_
          refine rs_iadd (r := nI (a + 1)) ri_201_73 rfl (nI_add a 1) ?_
          refine rs_iload ri_201_74 rfl rfl ?_
          refine rs_iconst (v := nI 3) ri_201_76 rfl (by decide) ?_
          refine rs_ishr (r := nI (x / 2 ^ 3)) ri_201_77 rfl (nI_shr (v := x) (k := 3) (by omega) (by omega)) ?_
          refine rs_iload_n ri_201_78 rfl rfl ?_
          refine rs_iconst (v := nI 1) ri_201_79 rfl (by decide) ?_
          refine rs_isub (r := nI ((np X) - 1)) ri_201_80 rfl (nI_sub (a := (np X)) (b := 1) (by omega)) ?_
          refine rs_irem (r := nI ((x / 2 ^ 3) % ((np X) - 1))) ri_201_81 rfl (nI_ne0 (by omega) (by omega)) (nI_rem (a := (x / 2 ^ 3)) (b := ((np X) - 1)) (by omega) (by omega)) ?_
          refine rs_iadd (r := nI ((a + 1) + ((x / 2 ^ 3) % ((np X) - 1)))) ri_201_82 rfl (nI_add (a + 1) ((x / 2 ^ 3) % ((np X) - 1))) ?_
          refine rs_iload_n ri_201_83 rfl rfl ?_
          refine rs_irem (r := nI b) ri_201_84 rfl (nI_ne0 (by omega) (by omega)) (by rw [hb]; exact nI_rem (b := np X) (by omega) (by omega)) ?_
          refine rs_istore (lv2 := [(8, .int (nI b)), (7, .int (nI a)), (6, .int (nI x)), (5, .int (nI k)), (4, .ref c0), (3, .int (nI (np X))), (0, .ref 0), (1, .int (nI 8)), (2, .int (nI 10))]) ri_201_85 rfl rm_201.1 (by decide) rfl ?_
          refine rs_aload ri_201_87 rfl rfl ?_
          refine rs_iload ri_201_89 rfl rfl ?_
          refine rs_iload ri_201_91 rfl rfl ?_
          refine rs_bipush (v := nI 67) ri_201_93 rfl (by decide) ?_
          refine rs_irem (r := nI (x % 67)) ri_201_95 rfl (by decide) (nI_rem (a := x) (b := 67) (by omega) (by omega)) ?_
          refine rs_bipush (v := nI 66) ri_201_96 rfl (by decide) ?_
          refine rs_icmp_ne (t := 106) ri_201_98 rfl rfl (fun _ => ?_) (fun q => absurd q (fun q => absurd ((nI_eq (a := x % 67) (b := 66) (by omega) (by omega)).mp q) (by omega)))
          refine rs_bipush (v := nI 20) ri_201_106 rfl (by decide) ?_
          refine rs_iload ri_201_108 rfl rfl ?_
          refine rs_imul (r := nI (20 * a)) ri_201_110 rfl (nI_mul 20 a) ?_
          refine rs_iconst (v := nI 2) ri_201_111 rfl (by decide) ?_
          refine rs_iload ri_201_112 rfl rfl ?_
          refine rs_imul (r := nI (2 * b)) ri_201_114 rfl (nI_mul 2 b) ?_
          refine rs_iadd (r := nI ((20 * a) + (2 * b))) ri_201_115 rfl (nI_add (20 * a) (2 * b)) ?_
          refine rs_iload ri_201_116 rfl rfl ?_
          refine rs_bipush (v := nI 6) ri_201_118 rfl (by decide) ?_
          refine rs_ishr (r := nI (x / 2 ^ 6)) ri_201_120 rfl (nI_shr (v := x) (k := 6) (by omega) (by omega)) ?_
          refine rs_iconst (v := nI 3) ri_201_121 rfl (by decide) ?_
          refine rs_iand (r := nI ((x / 2 ^ 6) % 4)) ri_201_122 rfl (nI_and3 (x / 2 ^ 6)) ?_
          refine rs_iconst (v := nI 3) ri_201_123 rfl (by decide) ?_
          refine rs_icmp_ne (t := 131) ri_201_124 rfl rfl (fun _ => ?_) (fun q => absurd q (fun q => absurd ((nI_eq (a := (x / 2 ^ 6) % 4) (b := 3) (by omega) (by omega)).mp q) (by omega)))
          refine rs_iconst (v := nI 0) ri_201_131 rfl (by decide) ?_
          refine rs_iadd (r := nI (((20 * a) + (2 * b)) + 0)) ri_201_132 rfl (nI_add ((20 * a) + (2 * b)) 0) ?_
          refine rs_iast (j := k) ri_201_133 rfl (by omega) hla.1 (ro_vn (by omega) (by omega)) (nI_clamp (by omega)) ?_
          refine rs_iinc (v := nI (k + 1)) (lv2 := [(5, .int (nI (k + 1))), (8, .int (nI b)), (7, .int (nI a)), (6, .int (nI x)), (4, .ref c0), (3, .int (nI (np X))), (0, .ref 0), (1, .int (nI 8)), (2, .int (nI 10))]) ri_201_134 rfl rfl (nI_1 k) rm_201.1 (by decide) rfl ?_
          refine rs_goto (t := 21) ri_201_137 rfl ?_
          refine ro_w_lv (lv := [(5, .int (nI (k + 1))), (4, .ref c0), (3, .int (nI (np X))), (0, .ref 0), (1, .int (nI 8)), (2, .int (nI 10))]) (ro_sub_c rfl (ro_sub_c rfl (ro_sub_c rfl (ro_sub_c rfl (ro_sub_c rfl (ro_sub_c rfl (ro_sub_n rfl))))))) ?_
          exact ih (k + 1) _ _ (by omega) (nw_s hnw) (lr_s hla) (fun i hi => by
            by_cases q : i = k
            · rw [if_pos q]; omega
            · rw [if_neg q]; exact hf i hi)
theorem lx_201 {M0 : ro_Mm} (hX : X.1 ≤ 260) (h159 : 159 ≤ M0.1.length) : ro_cwp X 5 201 [.ref 0, .int (nI 8), .int (nI 10)] M0 (fun v M2 => ∃ c0 f, v = some (.ref c0) ∧ nw M0 M2 c0 ∧ lr_a M2 c0 (sc X 8 % 11) f ∧ ∀ i, i < sc X 8 % 11 → f i < 128) := by
  refine rs_begin (lv0 := [(0, .ref 0), (1, .int (nI 8)), (2, .int (nI 10))]) (by decide) rfl (by rw [rm_201.1]; exact Nat.le_of_ble_eq_true rfl) rfl ?_
  have hs8 := sc_lt (X := X) (i := 8) (by omega)
  refine rs_aload_n ri_201_0 rfl rfl ?_
  refine rs_stat (As := [.ref 0]) (r := []) ri_201_1 rfl rm_194.2.2.2 rfl rfl rfl (Nat.le_of_ble_eq_true rfl) (⟨by decide, by decide⟩) (by omega) (lx_194 hX) ?_
  rintro v M2 ⟨e1, e2⟩
  rw [e1, e2]
  show ro_w X _ 201 _ 4 [(0, .ref 0), (1, .int (nI 8)), (2, .int (nI 10))] [.int (nI (np X))] M0 (0, 0)
  refine rs_istore_n (lv2 := [(3, .int (nI (np X))), (0, .ref 0), (1, .int (nI 8)), (2, .int (nI 10))]) ri_201_4 rfl rm_201.1 (by decide) rfl ?_
  refine rs_aload_n ri_201_5 rfl rfl ?_
  refine rs_iload_n ri_201_6 rfl rfl ?_
  refine rs_stat (As := [.ref 0, .int (nI 8)]) (r := []) ri_201_7 rfl rm_193.2.2.2 rfl rfl rfl (Nat.le_of_ble_eq_true rfl) (⟨by decide, by decide⟩) (by omega) (lx_193 hX (by omega)) ?_
  rintro v M2 ⟨e1, e2⟩
  rw [e1, e2]
  show ro_w X _ 201 _ 10 [(3, .int (nI (np X))), (0, .ref 0), (1, .int (nI 8)), (2, .int (nI 10))] [.int (nI (sc X 8))] M0 (0, 0)
  refine rs_iload_n ri_201_10 rfl rfl ?_
  refine rs_iconst (v := nI 1) ri_201_11 rfl (by decide) ?_
  refine rs_iadd (r := nI 11) ri_201_12 rfl (by decide) ?_
  refine rs_irem (r := nI ((sc X 8) % 11)) ri_201_13 rfl (by decide) (nI_rem (a := (sc X 8)) (b := 11) (by omega) (by omega)) ?_
  refine rs_newa (c := M0.1.length + 4) (k := 16) (n := sc X 8 % 11) (c1 := 1) (c2 := 0 + sc X 8 % 11) ri_201_14 rfl rfl (nI_pos (by omega)) (nI_clamp (by omega)) (by omega) rfl (by decide) rfl rfl rfl (by decide) (by show 0 + sc X 8 % 11 ≤ 10; omega) ?_
  refine rs_astore (lv2 := [(4, .ref (M0.1.length + 4)), (3, .int (nI (np X))), (0, .ref 0), (1, .int (nI 8)), (2, .int (nI 10))]) ri_201_16 rfl rm_201.1 (by decide) rfl ?_
  refine rs_iconst (v := nI 0) ri_201_18 rfl (by decide) ?_
  refine rs_istore (lv2 := [(5, .int (nI 0)), (4, .ref (M0.1.length + 4)), (3, .int (nI (np X))), (0, .ref 0), (1, .int (nI 8)), (2, .int (nI 10))]) ri_201_19 rfl rm_201.1 (by decide) rfl ?_
  exact lp_201 hX (by omega) (sc X 8 % 11) 0 _ _ (by omega) nw_new lr_new (fun i hi => by decide)
end LAWQ
