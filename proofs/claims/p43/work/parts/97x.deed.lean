/-! the law's body: the evening in deed, laid back -/
section LAWX
variable {X : ro_Sx} {L : List (List Int32 × List Int32)}
section DEED
variable {cs : Nat × Nat} {od : Nat → Nat → Int32 → Int32 → Int32} {hb nt : Int32}
theorem hcs_15 (hcs : cs.1 + 2 ≤ (ro_lim 206).1 ∧ cs.2 + 15 ≤ (ro_lim 206).2) : cs.1 ≤ (ro_lim 206).1 ∧ cs.2 ≤ (ro_lim 206).2 := ⟨by omega, by omega⟩
theorem zs_back {M M2 : ro_Mm} (h : zs X L od hb nt M) (hk : kv L M2) (g : kw kS_b M M2) (h56 : M2.2.1 5 6 = M.2.1 5 12) : zs X L od hb nt M2 := by
  obtain ⟨h1, h2, h3, h4, h5, h6, h7, h8, h9, h10⟩ := h
  have e : ∀ c j, (c = 5 ∧ j ≠ 6 ∨ c = 9 ∨ c = 10 ∨ (13 ≤ c ∧ c ≤ 15)) → M2.2.1 c j = M.2.1 c j := fun c j h => g.2.1 c j (by omega) (cm_lv (by omega)) (by
    unfold kS_b
    simp only [Bool.or_eq_false_iff, Bool.and_eq_false_iff, beq_eq_false_iff_ne]
    omega)
  have e6 : M2.2.1 5 6 = M.2.1 5 6 := h56.trans h8
  refine ⟨hk, (e 5 4 (by decide)).trans h2, (odv_c (fun i => e 9 i (by omega)) (e 5 5 (by decide)) e6).trans h3, (e 5 7 (by decide)).trans h4, (e 5 5 (by decide)).trans h5, (e 5 10 (by decide)).trans h6, (e 5 11 (by decide)).trans h7, by rw [e 5 12 (by decide), h8, e6], fun i hi => ?_, (e 15 0 (by decide)).trans h10⟩
  rw [e 13 i (by omega), e 14 i (by omega), e 10 i (by omega)]
  exact h9 i hi
theorem lq_662 {S : pu_T} (hcs : cs.1 + 2 ≤ (ro_lim 206).1 ∧ cs.2 + 15 ≤ (ro_lim 206).2) (hX : X.1 ≤ 260) (hok : pu_ok (np X) S) (hSI : ∀ i, i < np X → S.1 i = nI (on0 X i) ∧ S.2 i = nI (on1 X i)) : ∀ e y M, y + e = np X → zs X L od hb nt M → zn M S → ro_w X 2000 206 lw_PP 662 [(17, .int (nI y)), (0, .ref 0), (1, .ref 4), (2, .int (nI (np X)))] [] M cs := by
  have hnp := np_b (X := X)
  have hcs0 := hcs_15 hcs
  intro e
  induction e with
  | zero =>
    intro y M hye hz hn
    refine rs_iload ri_206_662 rfl rfl ?_
    refine rs_iload_n ri_206_664 rfl rfl ?_
    refine rs_icmp_ge (t := 710) ri_206_665 rfl rfl (fun _ => ?_) (fun q => absurd (nI_le (a := np X) (b := y) (by omega) (by omega)) q)
    refine ro_w_lv (lv := [(0, .ref 0), (1, .ref 4), (2, .int (nI (np X)))]) (ro_sub_c rfl (ro_sub_c rfl (ro_sub_c rfl (ro_sub_n rfl)))) ?_
    exact lq_710 hcs hX hok hSI hz hn
  | succ e ih =>
    intro y M hye hz hn
    have b0 := on0_b (X := X) (p := y)
    have b1 := on1_b (X := X) (p := y)
    have hs := hSI y (by omega)
    refine rs_iload ri_206_662 rfl rfl ?_
    refine rs_iload_n ri_206_664 rfl rfl ?_
    refine rs_icmp_ge (t := 710) ri_206_665 rfl rfl (fun q => absurd q (nI_ge (a := y) (b := np X) (by omega) (by omega))) (fun _ => ?_)
    refine rs_aload_n ri_206_668 rfl rfl ?_
    refine rs_iload ri_206_669 rfl rfl ?_
    refine rs_iconst (v := nI 0) ri_206_671 rfl (by decide) ?_
    have s0 : M.2.1 7 y = S.1 y := congrFun (congrArg Prod.fst hn) y
    have t0 : M.2.1 8 y = S.2 y := congrFun (congrArg Prod.snd hn) y
    refine rs_virt (c := 4) (As := [.int (nI y), .int (nI 0)]) (r := []) ri_206_672 rfl (by decide) rm_36.2.2.2 rm_36.2.2.1 rfl rfl rfl (by decide) (lr_4 hz.1) (Nat.le_of_ble_eq_true rfl) (hcs0) (by omega) (ca_of0 (X := X) hz.1 hnp hz.2.1 (by omega)) ?_
    rintro v M1 ⟨f1, q1⟩
    rw [f1, s0, hs.1]
    show ro_w X _ 206 _ 675 [(17, .int (nI y)), (0, .ref 0), (1, .ref 4), (2, .int (nI (np X)))] [.int (nI (on0 X y))] M1 cs
    have hz1 := zs_q hz q1
    have hn1 := zn_q hn q1
    refine rs_aload_n ri_206_675 rfl rfl ?_
    refine rs_iload ri_206_676 rfl rfl ?_
    refine rs_iconst (v := nI 0) ri_206_678 rfl (by decide) ?_
    refine rs_stat (As := [.ref 0, .int (nI y), .int (nI 0)]) (r := [.int (nI (on0 X y))]) ri_206_679 rfl rm_195.2.2.2 rfl rfl rfl (Nat.le_of_ble_eq_true rfl) (hcs0) (by omega) (lx_195_0 hX (by omega)) ?_
    rintro v M9 ⟨g1, g2⟩
    rw [g1, g2]
    show ro_w X _ 206 _ 682 [(17, .int (nI y)), (0, .ref 0), (1, .ref 4), (2, .int (nI (np X)))] [.int (nI (on0 X y)), .int (nI (on0 X y))] M1 cs
    refine rs_icmp_ne (t := 702) ri_206_682 rfl rfl (fun q => absurd (congrArg nI (by omega)) q) (fun _ => ?_)
    refine rs_aload_n ri_206_685 rfl rfl ?_
    refine rs_iload ri_206_686 rfl rfl ?_
    refine rs_iconst (v := nI 1) ri_206_688 rfl (by decide) ?_
    have s1 : M1.2.1 7 y = S.1 y := congrFun (congrArg Prod.fst hn1) y
    have t1 : M1.2.1 8 y = S.2 y := congrFun (congrArg Prod.snd hn1) y
    refine rs_virt (c := 4) (As := [.int (nI y), .int (nI 1)]) (r := []) ri_206_689 rfl (by decide) rm_36.2.2.2 rm_36.2.2.1 rfl rfl rfl (by decide) (lr_4 hz1.1) (Nat.le_of_ble_eq_true rfl) (hcs0) (by omega) (ca_of1 (X := X) hz1.1 hnp hz1.2.1 (by omega)) ?_
    rintro v M2 ⟨f2, q2⟩
    rw [f2, t1, hs.2]
    show ro_w X _ 206 _ 692 [(17, .int (nI y)), (0, .ref 0), (1, .ref 4), (2, .int (nI (np X)))] [.int (nI (on1 X y))] M2 cs
    have hz2 := zs_q hz1 q2
    have hn2 := zn_q hn1 q2
    refine rs_aload_n ri_206_692 rfl rfl ?_
    refine rs_iload ri_206_693 rfl rfl ?_
    refine rs_iconst (v := nI 1) ri_206_695 rfl (by decide) ?_
    refine rs_stat (As := [.ref 0, .int (nI y), .int (nI 1)]) (r := [.int (nI (on1 X y))]) ri_206_696 rfl rm_195.2.2.2 rfl rfl rfl (Nat.le_of_ble_eq_true rfl) (hcs0) (by omega) (lx_195_1 hX (by omega)) ?_
    rintro v M9 ⟨g1, g2⟩
    rw [g1, g2]
    show ro_w X _ 206 _ 699 [(17, .int (nI y)), (0, .ref 0), (1, .ref 4), (2, .int (nI (np X)))] [.int (nI (on1 X y)), .int (nI (on1 X y))] M2 cs
    refine rs_icmp_eq (t := 704) ri_206_699 rfl rfl (fun _ => ?_) (fun q => absurd (congrArg nI (by omega)) q)
    refine rs_iinc (v := nI (y + 1)) (lv2 := [(17, .int (nI (y + 1))), (0, .ref 0), (1, .ref 4), (2, .int (nI (np X)))]) ri_206_704 rfl rfl (nI_1 y) rm_206.1 (by decide) rfl ?_
    refine rs_goto (t := 662) ri_206_707 rfl ?_
    exact ih (y + 1) _ (by omega) hz2 hn2
theorem lq_650 (hcs : cs.1 + 2 ≤ (ro_lim 206).1 ∧ cs.2 + 15 ≤ (ro_lim 206).2) (hX : X.1 ≤ 260) {M : ro_Mm} (hz : zs X L od hb nt M) : ro_w X 2000 206 lw_PP 650 [(0, .ref 0), (1, .ref 4), (2, .int (nI (np X)))] [] M cs := by
  have hnp := np_b (X := X)
  have hcs0 := hcs_15 hcs
  refine rs_aload_n ri_206_650 rfl rfl ?_
  refine rs_virt (c := 4) (As := []) (r := []) ri_206_651 rfl (by decide) rm_152.2.2.2 rm_152.2.2.1 rfl rfl rfl (by decide) (lr_4 hz.1) (Nat.le_of_ble_eq_true rfl) (hcs0) (by omega) (ca_back (X := X) hz.1 hnp hz.2.2.2.2.2.2.1 hz.2.2.2.2.2.1) ?_
  rintro v M1 ⟨f1, k1, w1, g1, g2, g3⟩
  rw [f1, hz.2.2.2.2.2.2.2.2.2]
  show ro_w X _ 206 _ 654 [(0, .ref 0), (1, .ref 4), (2, .int (nI (np X)))] [.int (nI 0)] M1 cs
  refine rs_if_eq (t := 659) ri_206_654 rfl rfl (fun _ => ?_) (fun q => absurd (by decide) q)
  refine rs_iconst (v := nI 0) ri_206_659 rfl (by decide) ?_
  refine rs_istore (lv2 := [(17, .int (nI 0)), (0, .ref 0), (1, .ref 4), (2, .int (nI (np X)))]) ri_206_660 rfl rm_206.1 (by decide) rfl ?_
  have hz1 := zs_back hz k1 w1 g3
  have hSI : ∀ i, i < np X → (pu_now M1).1 i = nI (on0 X i) ∧ (pu_now M1).2 i = nI (on1 X i) := fun i hi => ⟨(g1 i hi).1.trans (hz.2.2.2.2.2.2.2.2.1 i hi).1, (g1 i hi).2.trans (hz.2.2.2.2.2.2.2.2.1 i hi).2.1⟩
  have hok : pu_ok (np X) (pu_now M1) := fun i hi => by
    obtain ⟨e1, e2⟩ := hSI i hi
    rw [e1, e2]
    have a := nI_rng (v := on0 X i) (m := 20) on0_b (by decide)
    have b := nI_rng (v := on1 X i) (m := 20) on1_b (by decide)
    exact ⟨a.1, a.2, b.1, b.2⟩
  exact lq_662 hcs hX hok hSI (np X) 0 M1 (by omega) hz1 rfl
theorem lq_634 {B : Nat} {SE : pu_T} (hcs : cs.1 + 2 ≤ (ro_lim 206).1 ∧ cs.2 + 15 ≤ (ro_lim 206).2) (hX : X.1 ≤ 260) (hB : sT SE (np X) = nI B) {M : ro_Mm} (hz : zs X L od hb nt M) (hS : pu_at (np X) M 6 SE) : ro_w X 2000 206 lw_PP 634 [(12, .int (nI B)), (0, .ref 0), (1, .ref 4), (2, .int (nI (np X)))] [] M cs := by
  have hnp := np_b (X := X)
  have hcs0 := hcs_15 hcs
  refine rs_aload_n ri_206_634 rfl rfl ?_
  refine rs_iconst (v := nI 1) ri_206_635 rfl (by decide) ?_
  refine rs_virt (c := 4) (As := [.int (nI 1)]) (r := []) ri_206_636 rfl (by decide) rm_190.2.2.2 rm_190.2.2.1 rfl rfl rfl (by decide) (lr_4 hz.1) (Nat.le_of_ble_eq_true rfl) (hcs0) (by omega) (ca_cnt1 (X := X) hz.1 hnp hz.2.1) ?_
  rintro v M1 ⟨f1, q1⟩
  rw [f1, su_c (np X) (fun k hk => (show M.2.1 7 k = SE.1 k from (hS k hk).1))]
  show ro_w X _ 206 _ 639 [(12, .int (nI B)), (0, .ref 0), (1, .ref 4), (2, .int (nI (np X)))] [.int ((su SE.1 (np X)))] M1 cs
  have hz1 := zs_q hz q1
  have hS1 : pu_at (np X) M1 6 SE := pu_at_c hS (fun y _ => ⟨q1.2.1 7 y (by decide) rfl, q1.2.1 8 y (by decide) rfl⟩)
  refine rs_aload_n ri_206_639 rfl rfl ?_
  refine rs_iconst (v := nI 2) ri_206_640 rfl (by decide) ?_
  refine rs_virt (c := 4) (As := [.int (nI 2)]) (r := [.int ((su SE.1 (np X)))]) ri_206_641 rfl (by decide) rm_190.2.2.2 rm_190.2.2.1 rfl rfl rfl (by decide) (lr_4 hz1.1) (Nat.le_of_ble_eq_true rfl) (hcs0) (by omega) (ca_cnt2 (X := X) hz1.1 hnp hz1.2.1) ?_
  rintro v M2 ⟨f2, q2⟩
  rw [f2, su_c (np X) (fun k hk => (show M1.2.1 8 k = SE.2 k from (hS1 k hk).2))]
  show ro_w X _ 206 _ 644 [(12, .int (nI B)), (0, .ref 0), (1, .ref 4), (2, .int (nI (np X)))] [.int ((su SE.2 (np X))), .int ((su SE.1 (np X)))] M2 cs
  have hz2 := zs_q hz1 q2
  have hS2 : pu_at (np X) M2 6 SE := pu_at_c hS1 (fun y _ => ⟨q2.2.1 7 y (by decide) rfl, q2.2.1 8 y (by decide) rfl⟩)
  refine rs_iadd (r := ((su SE.1 (np X))) + ((su SE.2 (np X)))) ri_206_644 rfl rfl ?_
  refine rs_iload ri_206_645 rfl rfl ?_
  refine rs_icmp_ne (t := 657) ri_206_647 rfl rfl (fun q => absurd (hB) q) (fun _ => ?_)
  refine ro_w_lv (lv := [(0, .ref 0), (1, .ref 4), (2, .int (nI (np X)))]) (ro_sub_c rfl (ro_sub_c rfl (ro_sub_c rfl (ro_sub_n rfl)))) ?_
  exact lq_650 hcs hX hz2
theorem lq_584 {B ct : Nat} {h : Nat → Nat} {SE : pu_T} (hcs : cs.1 + 2 ≤ (ro_lim 206).1 ∧ cs.2 + 15 ≤ (ro_lim 206).2) (hX : X.1 ≤ 260) (hB : sT SE (np X) = nI B) (hc : 163 ≤ ct) (hb7 : ∀ i, i < 2 * np X → h i < 128) (hh : ∀ y, y < np X → SE.1 y = nI (h (2 * y)) ∧ SE.2 y = nI (h (2 * y + 1))) : ∀ e y M, y + e = np X → zs X L od hb nt M → pu_at (np X) M 6 SE → lr_a M ct (2 * np X) h → ro_w X 2000 206 lw_PP 584 [(17, .int (nI y)), (12, .int (nI B)), (10, .ref ct), (0, .ref 0), (1, .ref 4), (2, .int (nI (np X)))] [] M cs := by
  have hnp := np_b (X := X)
  have hcs0 := hcs_15 hcs
  intro e
  induction e with
  | zero =>
    intro y M hye hz hS hla
    refine rs_iload ri_206_584 rfl rfl ?_
    refine rs_iload_n ri_206_586 rfl rfl ?_
    refine rs_icmp_ge (t := 634) ri_206_587 rfl rfl (fun _ => ?_) (fun q => absurd (nI_le (a := np X) (b := y) (by omega) (by omega)) q)
    refine ro_w_lv (lv := [(12, .int (nI B)), (0, .ref 0), (1, .ref 4), (2, .int (nI (np X)))]) (ro_sub_c rfl (ro_sub_c rfl (ro_sub_c rfl (ro_sub_c rfl (ro_sub_n rfl))))) ?_
    exact lq_634 hcs hX hB hz hS
  | succ e ih =>
    intro y M hye hz hS hla
    have b0 := hb7 (2 * y) (by omega)
    have b1 := hb7 (2 * y + 1) (by omega)
    have hs := hh y (by omega)
    have s0 : M.2.1 7 y = SE.1 y := (hS y (by omega)).1
    have t0 : M.2.1 8 y = SE.2 y := (hS y (by omega)).2
    refine rs_iload ri_206_584 rfl rfl ?_
    refine rs_iload_n ri_206_586 rfl rfl ?_
    refine rs_icmp_ge (t := 634) ri_206_587 rfl rfl (fun q => absurd q (nI_ge (a := y) (b := np X) (by omega) (by omega))) (fun _ => ?_)
    refine rs_aload_n ri_206_590 rfl rfl ?_
    refine rs_iload ri_206_591 rfl rfl ?_
    refine rs_iconst (v := nI 0) ri_206_593 rfl (by decide) ?_
    refine rs_virt (c := 4) (As := [.int (nI y), .int (nI 0)]) (r := []) ri_206_594 rfl (by decide) rm_36.2.2.2 rm_36.2.2.1 rfl rfl rfl (by decide) (lr_4 hz.1) (Nat.le_of_ble_eq_true rfl) (hcs0) (by omega) (ca_of0 (X := X) hz.1 hnp hz.2.1 (by omega)) ?_
    rintro v M1 ⟨f1, q1⟩
    rw [f1, s0, hs.1]
    show ro_w X _ 206 _ 597 [(17, .int (nI y)), (12, .int (nI B)), (10, .ref ct), (0, .ref 0), (1, .ref 4), (2, .int (nI (np X)))] [.int (nI (h (2 * y)))] M1 cs
    have hz1 := zs_q hz q1
    have hS1 : pu_at (np X) M1 6 SE := pu_at_c hS (fun y _ => ⟨q1.2.1 7 y (by decide) rfl, q1.2.1 8 y (by decide) rfl⟩)
    have hla1 := lr_q hla q1 hc
    refine rs_aload ri_206_597 rfl rfl ?_
    refine rs_iconst (v := nI 2) ri_206_599 rfl (by decide) ?_
    refine rs_iload ri_206_600 rfl rfl ?_
    refine rs_imul (r := nI (2 * y)) ri_206_602 rfl (nI_mul 2 y) ?_
    refine rs_iald (v := nI (h (2 * y))) ri_206_603 rfl (by omega) (hla1).1 (ro_vn (k := (2 * y)) (by omega) (by omega)) (lr_g (hla1) (by omega) (by omega)) ?_
    refine rs_icmp_ne (t := 626) ri_206_604 rfl rfl (fun q => absurd (congrArg nI (by omega)) q) (fun _ => ?_)
    refine rs_aload_n ri_206_607 rfl rfl ?_
    refine rs_iload ri_206_608 rfl rfl ?_
    refine rs_iconst (v := nI 1) ri_206_610 rfl (by decide) ?_
    refine rs_virt (c := 4) (As := [.int (nI y), .int (nI 1)]) (r := []) ri_206_611 rfl (by decide) rm_36.2.2.2 rm_36.2.2.1 rfl rfl rfl (by decide) (lr_4 hz1.1) (Nat.le_of_ble_eq_true rfl) (hcs0) (by omega) (ca_of1 (X := X) hz1.1 hnp hz1.2.1 (by omega)) ?_
    rintro v M2 ⟨f2, q2⟩
    rw [f2, (show M1.2.1 8 y = SE.2 y from (hS1 y (by omega)).2), hs.2]
    show ro_w X _ 206 _ 614 [(17, .int (nI y)), (12, .int (nI B)), (10, .ref ct), (0, .ref 0), (1, .ref 4), (2, .int (nI (np X)))] [.int (nI (h (2 * y + 1)))] M2 cs
    have hz2 := zs_q hz1 q2
    have hS2 : pu_at (np X) M2 6 SE := pu_at_c hS1 (fun y _ => ⟨q2.2.1 7 y (by decide) rfl, q2.2.1 8 y (by decide) rfl⟩)
    have hla2 := lr_q hla1 q2 hc
    refine rs_aload ri_206_614 rfl rfl ?_
    refine rs_iconst (v := nI 2) ri_206_616 rfl (by decide) ?_
    refine rs_iload ri_206_617 rfl rfl ?_
    refine rs_imul (r := nI (2 * y)) ri_206_619 rfl (nI_mul 2 y) ?_
    refine rs_iconst (v := nI 1) ri_206_620 rfl (by decide) ?_
    refine rs_iadd (r := nI ((2 * y) + 1)) ri_206_621 rfl (nI_add (2 * y) 1) ?_
    refine rs_iald (v := nI (h ((2 * y) + 1))) ri_206_622 rfl (by omega) (hla2).1 (ro_vn (k := ((2 * y) + 1)) (by omega) (by omega)) (lr_g (hla2) (by omega) (by omega)) ?_
    refine rs_icmp_eq (t := 628) ri_206_623 rfl rfl (fun _ => ?_) (fun q => absurd (congrArg nI (by omega)) q)
    refine rs_iinc (v := nI (y + 1)) (lv2 := [(17, .int (nI (y + 1))), (12, .int (nI B)), (10, .ref ct), (0, .ref 0), (1, .ref 4), (2, .int (nI (np X)))]) ri_206_628 rfl rfl (nI_1 y) rm_206.1 (by decide) rfl ?_
    refine rs_goto (t := 584) ri_206_631 rfl ?_
    exact ih (y + 1) _ (by omega) hz2 hS2 hla2
theorem lq_542 {B ct bt x rf e : Nat} {wh : Int32} {h : Nat → Nat} {SE : pu_T} (hcs : cs.1 + 2 ≤ (ro_lim 206).1 ∧ cs.2 + 15 ≤ (ro_lim 206).2) (hX : X.1 ≤ 260) (hB : sT SE (np X) = nI B) (hc : 163 ≤ ct) (hb7 : ∀ i, i < 2 * np X → h i < 128) (hh : ∀ y, y < np X → SE.1 y = nI (h (2 * y)) ∧ SE.2 y = nI (h (2 * y + 1))) (hx : x &&& bt = x) {M : ro_Mm} (hz : zs X L od hb nt M) (hS : pu_at (np X) M 6 SE) (hla : lr_a M ct (2 * np X) h) (h0 : M.2.1 11 0 = nI e) (h1 : M.2.1 11 1 = nI rf) : ro_w X 2000 206 lw_PP 542 [(16, .int wh), (15, .int (nI bt)), (14, .int (nI x)), (12, .int (nI B)), (10, .ref ct), (9, .int wh), (8, .int (nI rf)), (6, .int (nI e)), (0, .ref 0), (1, .ref 4), (2, .int (nI (np X)))] [] M cs := by
  have hnp := np_b (X := X)
  have hcs0 := hcs_15 hcs
  refine rs_iload ri_206_542 rfl rfl ?_
  refine rs_iload ri_206_544 rfl rfl ?_
  refine rs_iconst (v := ((-1 : Int32))) ri_206_546 rfl (by decide) ?_
  refine rs_ixor (r := (nI bt) ^^^ ((-1 : Int32))) ri_206_547 rfl rfl ?_
  refine rs_iand (r := (nI x) &&& ((nI bt) ^^^ ((-1 : Int32)))) ri_206_548 rfl rfl ?_
  refine rs_if_ne (t := 579) ri_206_549 rfl rfl (fun q => absurd (and_cl hx) q) (fun _ => ?_)
  refine rs_iload ri_206_552 rfl rfl ?_
  refine rs_iload ri_206_554 rfl rfl ?_
  refine rs_icmp_ne (t := 579) ri_206_556 rfl rfl (fun q => absurd (rfl) q) (fun _ => ?_)
  refine rs_aload_n ri_206_559 rfl rfl ?_
  refine rs_iconst (v := nI 1) ri_206_560 rfl (by decide) ?_
  refine rs_virt (c := 4) (As := [.int (nI 1)]) (r := []) ri_206_561 rfl (by decide) rm_148.2.2.2 rm_148.2.2.1 rfl rfl rfl (by decide) (lr_4 hz.1) (Nat.le_of_ble_eq_true rfl) (hcs0) (by omega) (ca_led (X := X) hz.1 (k := 1) (by decide)) ?_
  rintro v M1 ⟨f1, q1⟩
  rw [f1, h1]
  show ro_w X _ 206 _ 564 [(16, .int wh), (15, .int (nI bt)), (14, .int (nI x)), (12, .int (nI B)), (10, .ref ct), (9, .int wh), (8, .int (nI rf)), (6, .int (nI e)), (0, .ref 0), (1, .ref 4), (2, .int (nI (np X)))] [.int (nI rf)] M1 cs
  have hz1 := zs_q hz q1
  have hS1 : pu_at (np X) M1 6 SE := pu_at_c hS (fun y _ => ⟨q1.2.1 7 y (by decide) rfl, q1.2.1 8 y (by decide) rfl⟩)
  have hla1 := lr_q hla q1 hc
  refine rs_iload ri_206_564 rfl rfl ?_
  refine rs_icmp_ne (t := 579) ri_206_566 rfl rfl (fun q => absurd (rfl) q) (fun _ => ?_)
  refine rs_aload_n ri_206_569 rfl rfl ?_
  refine rs_iconst (v := nI 0) ri_206_570 rfl (by decide) ?_
  refine rs_virt (c := 4) (As := [.int (nI 0)]) (r := []) ri_206_571 rfl (by decide) rm_148.2.2.2 rm_148.2.2.1 rfl rfl rfl (by decide) (lr_4 hz1.1) (Nat.le_of_ble_eq_true rfl) (hcs0) (by omega) (ca_led (X := X) hz1.1 (k := 0) (by decide)) ?_
  rintro v M2 ⟨f2, q2⟩
  rw [f2, (q1.2.1 11 0 (by decide) rfl).trans h0]
  show ro_w X _ 206 _ 574 [(16, .int wh), (15, .int (nI bt)), (14, .int (nI x)), (12, .int (nI B)), (10, .ref ct), (9, .int wh), (8, .int (nI rf)), (6, .int (nI e)), (0, .ref 0), (1, .ref 4), (2, .int (nI (np X)))] [.int (nI e)] M2 cs
  have hz2 := zs_q hz1 q2
  have hS2 : pu_at (np X) M2 6 SE := pu_at_c hS1 (fun y _ => ⟨q2.2.1 7 y (by decide) rfl, q2.2.1 8 y (by decide) rfl⟩)
  have hla2 := lr_q hla1 q2 hc
  refine rs_iload ri_206_574 rfl rfl ?_
  refine rs_icmp_eq (t := 581) ri_206_576 rfl rfl (fun _ => ?_) (fun q => absurd (rfl) q)
  refine rs_iconst (v := nI 0) ri_206_581 rfl (by decide) ?_
  refine rs_istore (lv2 := [(17, .int (nI 0)), (16, .int wh), (15, .int (nI bt)), (14, .int (nI x)), (12, .int (nI B)), (10, .ref ct), (9, .int wh), (8, .int (nI rf)), (6, .int (nI e)), (0, .ref 0), (1, .ref 4), (2, .int (nI (np X)))]) ri_206_582 rfl rm_206.1 (by decide) rfl ?_
  refine ro_w_lv (lv := [(17, .int (nI 0)), (12, .int (nI B)), (10, .ref ct), (0, .ref 0), (1, .ref 4), (2, .int (nI (np X)))]) (ro_sub_c rfl (ro_sub_c rfl (ro_sub_c rfl (ro_sub_c rfl (ro_sub_c rfl (ro_sub_c rfl (ro_sub_n rfl))))))) ?_
  exact lq_584 hcs hX hB hc hb7 hh (np X) 0 M2 (by omega) hz2 hS2 hla2
theorem lq_427 {B ct cn x e : Nat} {g h : Nat → Nat} {S : pu_T} (hcs : cs.1 + 2 ≤ (ro_lim 206).1 ∧ cs.2 + 15 ≤ (ro_lim 206).2) (hX : X.1 ≤ 260) (hB : sT (ep od hb g (S, 0, -2, 0) e).1 (np X) = nI B) (hc : 163 ≤ ct) (hcn : 163 ≤ cn) (hb7 : ∀ i, i < 2 * np X → h i < 128) (hh : ∀ y, y < np X → (ep od hb g (S, 0, -2, 0) e).1.1 y = nI (h (2 * y)) ∧ (ep od hb g (S, 0, -2, 0) e).1.2 y = nI (h (2 * y + 1))) (hx : x &&& eb od hb g (S, 0, -2, 0) e = x) (he : e ≤ 10) (hg : ∀ i, i < e → g i < 128) (ho : ∀ i, i < e → of_ok (np X) (g i)) (hm : ∀ i, i < e → may (g i) (ep od hb g (S, 0, -2, 0) i) = true) : ∀ d k M, k + d = e → zs X L od hb nt M → pu_at (np X) M 6 (ep od hb g (S, 0, -2, 0) k).1 → lr_a M ct (2 * np X) h → lr_a M cn e g → M.2.1 11 0 = nI k → M.2.1 11 1 = nI (en od hb g (S, 0, -2, 0) k) → ro_w X 2000 206 lw_PP 427 [(17, .int (nI k)), (16, .int ((ep od hb g (S, 0, -2, 0) k).2.2.2)), (15, .int (nI (eb od hb g (S, 0, -2, 0) k))), (14, .int (nI x)), (12, .int (nI B)), (10, .ref ct), (9, .int ((ep od hb g (S, 0, -2, 0) e).2.2.2)), (8, .int (nI (en od hb g (S, 0, -2, 0) e))), (7, .ref cn), (6, .int (nI e)), (0, .ref 0), (1, .ref 4), (2, .int (nI (np X)))] [] M cs := by
  have hnp := np_b (X := X)
  have hcs0 := hcs_15 hcs
  intro d
  induction d with
  | zero =>
    intro k M hke hz hS hla hln h0 h1
    have ek : k = e := by omega
    subst ek
    refine rs_iload ri_206_427 rfl rfl ?_
    refine rs_iload ri_206_429 rfl rfl ?_
    refine rs_icmp_ge (t := 542) ri_206_431 rfl rfl (fun _ => ?_) (fun q => absurd (nI_le (a := k) (b := k) (by omega) (by omega)) q)
    refine ro_w_lv (lv := [(16, .int ((ep od hb g (S, 0, -2, 0) k).2.2.2)), (15, .int (nI (eb od hb g (S, 0, -2, 0) k))), (14, .int (nI x)), (12, .int (nI B)), (10, .ref ct), (9, .int ((ep od hb g (S, 0, -2, 0) k).2.2.2)), (8, .int (nI (en od hb g (S, 0, -2, 0) k))), (6, .int (nI k)), (0, .ref 0), (1, .ref 4), (2, .int (nI (np X)))]) (ro_sub_c rfl (ro_sub_c rfl (ro_sub_c rfl (ro_sub_c rfl (ro_sub_c rfl (ro_sub_c rfl (ro_sub_c rfl (ro_sub_c rfl (ro_sub_c rfl (ro_sub_c rfl (ro_sub_c rfl (ro_sub_n rfl)))))))))))) ?_
    exact lq_542 hcs hX hB hc hb7 hh hx hz hS hla h0 h1
  | succ d ih =>
    intro k M hke hz hS hla hln h0 h1
    have hgk := hg k (by omega)
    obtain ⟨hi, hj, hij⟩ := ho k (by omega)
    have hmk := hm k (by omega)
    have hst := ep_s_y (od := od) (hb := hb) (k := k) hmk
    have hst : ep od hb g (S, 0, -2, 0) (k + 1) = _ := hst
    have ebk : eb od hb g (S, 0, -2, 0) (k + 1) = (if rf_at od hb (g k) (ep od hb g (S, 0, -2, 0) k) = true then eb od hb g (S, 0, -2, 0) k + 2 ^ k else eb od hb g (S, 0, -2, 0) k) := rfl
    have enk : en od hb g (S, 0, -2, 0) (k + 1) = (if rf_at od hb (g k) (ep od hb g (S, 0, -2, 0) k) = true then en od hb g (S, 0, -2, 0) k + 1 else en od hb g (S, 0, -2, 0) k) := rfl
    have lt := eb_lt (od := od) (hb := hb) (g := g) (T := (S, 0, -2, 0)) k
    have lt9 : eb od hb g (S, 0, -2, 0) k < 2147483648 := Nat.lt_of_lt_of_le lt.1 (Nat.le_trans (Nat.pow_le_pow_right (by decide) (show k ≤ 30 by omega)) (by decide))
    unfold may at hmk
    by_cases e2 : g k % 2 = 0
    · rw [if_pos e2] at hst hmk
      have eod : odv M L (g k / 20) (g k % 20 / 2) (M.2.1 7 (g k % 20 / 2)) (M.2.1 8 (g k % 20 / 2)) = (od (g k / 20) (g k % 20 / 2) ((ep od hb g (S, 0, -2, 0) k).1.1 (g k % 20 / 2)) ((ep od hb g (S, 0, -2, 0) k).1.2 (g k % 20 / 2))) := by rw [hz.2.2.1, (hS _ hj).1, (hS _ hj).2]
      by_cases r : rf_at od hb (g k) (ep od hb g (S, 0, -2, 0) k) = true
      · rw [if_pos r] at hst ebk enk
        have hlt : ¬ (od (g k / 20) (g k % 20 / 2) ((ep od hb g (S, 0, -2, 0) k).1.1 (g k % 20 / 2)) ((ep od hb g (S, 0, -2, 0) k).1.2 (g k % 20 / 2))) < hb := by
          unfold rf_at at r
          intro q
          rw [decide_eq_true q] at r
          rw [Bool.not_true, Bool.and_false] at r
          exact absurd r (by decide)
        refine rs_iload ri_206_427 rfl rfl ?_
        refine rs_iload ri_206_429 rfl rfl ?_
        refine rs_icmp_ge (t := 542) ri_206_431 rfl rfl (fun q => absurd q (nI_ge (a := k) (b := e) (by omega) (by omega))) (fun _ => ?_)
        refine rs_bipush (v := nI 10) ri_206_434 rfl (by decide) ?_
        refine rs_aload ri_206_436 rfl rfl ?_
        refine rs_iload ri_206_438 rfl rfl ?_
        refine rs_iald (v := nI (g k)) ri_206_440 rfl (by omega) (hln).1 (ro_vn (k := k) (by omega) (by omega)) (lr_g (hln) (by omega) (by omega)) ?_
        refine rs_bipush (v := nI 20) ri_206_441 rfl (by decide) ?_
        refine rs_idiv (r := nI ((g k) / 20)) ri_206_443 rfl (by decide) (nI_div (a := (g k)) (b := 20) (by omega) (by omega)) ?_
        refine rs_imul (r := nI (10 * ((g k) / 20))) ri_206_444 rfl (nI_mul 10 ((g k) / 20)) ?_
        refine rs_aload ri_206_445 rfl rfl ?_
        refine rs_iload ri_206_447 rfl rfl ?_
        refine rs_iald (v := nI (g k)) ri_206_449 rfl (by omega) (hln).1 (ro_vn (k := k) (by omega) (by omega)) (lr_g (hln) (by omega) (by omega)) ?_
        refine rs_bipush (v := nI 20) ri_206_450 rfl (by decide) ?_
        refine rs_irem (r := nI ((g k) % 20)) ri_206_452 rfl (by decide) (nI_rem (a := (g k)) (b := 20) (by omega) (by omega)) ?_
        refine rs_iconst (v := nI 2) ri_206_453 rfl (by decide) ?_
        refine rs_idiv (r := nI (((g k) % 20) / 2)) ri_206_454 rfl (by decide) (nI_div (a := ((g k) % 20)) (b := 2) (by omega) (by omega)) ?_
        refine rs_iadd (r := nI ((10 * ((g k) / 20)) + (((g k) % 20) / 2))) ri_206_455 rfl (nI_add (10 * ((g k) / 20)) (((g k) % 20) / 2)) ?_
        refine rs_istore (lv2 := [(18, .int (nI ((10 * ((g k) / 20)) + (((g k) % 20) / 2)))), (17, .int (nI k)), (16, .int ((ep od hb g (S, 0, -2, 0) k).2.2.2)), (15, .int (nI (eb od hb g (S, 0, -2, 0) k))), (14, .int (nI x)), (12, .int (nI B)), (10, .ref ct), (9, .int ((ep od hb g (S, 0, -2, 0) e).2.2.2)), (8, .int (nI (en od hb g (S, 0, -2, 0) e))), (7, .ref cn), (6, .int (nI e)), (0, .ref 0), (1, .ref 4), (2, .int (nI (np X)))]) ri_206_456 rfl rm_206.1 (by decide) rfl ?_
        refine rs_aload ri_206_458 rfl rfl ?_
        refine rs_iload ri_206_460 rfl rfl ?_
        refine rs_iald (v := nI (g k)) ri_206_462 rfl (by omega) (hln).1 (ro_vn (k := k) (by omega) (by omega)) (lr_g (hln) (by omega) (by omega)) ?_
        refine rs_iconst (v := nI 2) ri_206_463 rfl (by decide) ?_
        refine rs_irem (r := nI ((g k) % 2)) ri_206_464 rfl (by decide) (nI_rem (a := (g k)) (b := 2) (by omega) (by omega)) ?_
        refine rs_iconst (v := nI 1) ri_206_465 rfl (by decide) ?_
        refine rs_icmp_ne (t := 473) ri_206_466 rfl rfl (fun _ => ?_) (fun q => absurd q (fun q => absurd ((nI_eq (a := g k % 2) (b := 1) (by omega) (by omega)).mp q) (by omega)))
        refine rs_aload_n ri_206_473 rfl rfl ?_
        refine rs_iload ri_206_474 rfl rfl ?_
        refine rs_virt (c := 4) (As := [.int (nI (10 * (g k / 20) + g k % 20 / 2))]) (r := []) ri_206_476 rfl (by decide) rm_55.2.2.2 rm_55.2.2.1 rfl rfl rfl (by decide) (lr_4 hz.1) (Nat.le_of_ble_eq_true rfl) (hcs0) (by omega) (ca_odds (X := X) hz.1 hnp hz.2.1 hi hj hij) ?_
        rintro v M1 ⟨f1, q1⟩
        rw [f1, eod]
        show ro_w X _ 206 _ 479 [(18, .int (nI ((10 * ((g k) / 20)) + (((g k) % 20) / 2)))), (17, .int (nI k)), (16, .int ((ep od hb g (S, 0, -2, 0) k).2.2.2)), (15, .int (nI (eb od hb g (S, 0, -2, 0) k))), (14, .int (nI x)), (12, .int (nI B)), (10, .ref ct), (9, .int ((ep od hb g (S, 0, -2, 0) e).2.2.2)), (8, .int (nI (en od hb g (S, 0, -2, 0) e))), (7, .ref cn), (6, .int (nI e)), (0, .ref 0), (1, .ref 4), (2, .int (nI (np X)))] [.int ((od (g k / 20) (g k % 20 / 2) ((ep od hb g (S, 0, -2, 0) k).1.1 (g k % 20 / 2)) ((ep od hb g (S, 0, -2, 0) k).1.2 (g k % 20 / 2))))] M1 cs
        have hz1 := zs_q hz q1
        have hS1 : pu_at (np X) M1 6 (ep od hb g (S, 0, -2, 0) k).1 := pu_at_c hS (fun y _ => ⟨q1.2.1 7 y (by decide) rfl, q1.2.1 8 y (by decide) rfl⟩)
        have hla1 := lr_q hla q1 hc
        have hln1 := lr_q hln q1 hcn
        have h01 := (q1.2.1 11 0 (by decide) rfl).trans h0
        have h11 := (q1.2.1 11 1 (by decide) rfl).trans h1
        refine rs_aload_n ri_206_479 rfl rfl ?_
        refine rs_iconst (v := nI 0) ri_206_480 rfl (by decide) ?_
        refine rs_bipush (v := nI 6) ri_206_481 rfl (by decide) ?_
        refine rs_virt (c := 4) (As := [.int (nI 0), .int (nI 6)]) (r := [.int ((od (g k / 20) (g k % 20 / 2) ((ep od hb g (S, 0, -2, 0) k).1.1 (g k % 20 / 2)) ((ep od hb g (S, 0, -2, 0) k).1.2 (g k % 20 / 2))))]) ri_206_483 rfl (by decide) rm_36.2.2.2 rm_36.2.2.1 rfl rfl rfl (by decide) (lr_4 hz1.1) (Nat.le_of_ble_eq_true rfl) (hcs0) (by omega) (ca_of6 (X := X) hz1.1) ?_
        rintro v M2 ⟨f2, q2⟩
        rw [f2, hz1.2.2.2.1]
        show ro_w X _ 206 _ 486 [(18, .int (nI ((10 * ((g k) / 20)) + (((g k) % 20) / 2)))), (17, .int (nI k)), (16, .int ((ep od hb g (S, 0, -2, 0) k).2.2.2)), (15, .int (nI (eb od hb g (S, 0, -2, 0) k))), (14, .int (nI x)), (12, .int (nI B)), (10, .ref ct), (9, .int ((ep od hb g (S, 0, -2, 0) e).2.2.2)), (8, .int (nI (en od hb g (S, 0, -2, 0) e))), (7, .ref cn), (6, .int (nI e)), (0, .ref 0), (1, .ref 4), (2, .int (nI (np X)))] [.int hb, .int ((od (g k / 20) (g k % 20 / 2) ((ep od hb g (S, 0, -2, 0) k).1.1 (g k % 20 / 2)) ((ep od hb g (S, 0, -2, 0) k).1.2 (g k % 20 / 2))))] M2 cs
        have hz2 := zs_q hz1 q2
        have hS2 : pu_at (np X) M2 6 (ep od hb g (S, 0, -2, 0) k).1 := pu_at_c hS1 (fun y _ => ⟨q2.2.1 7 y (by decide) rfl, q2.2.1 8 y (by decide) rfl⟩)
        have hla2 := lr_q hla1 q2 hc
        have hln2 := lr_q hln1 q2 hcn
        have h02 := (q2.2.1 11 0 (by decide) rfl).trans h01
        have h12 := (q2.2.1 11 1 (by decide) rfl).trans h11
        refine rs_icmp_lt (t := 493) ri_206_486 rfl rfl (fun q => absurd q (hlt)) (fun _ => ?_)
        refine rs_iconst (v := nI 1) ri_206_489 rfl (by decide) ?_
        refine rs_goto (t := 494) ri_206_490 rfl ?_
        refine rs_istore (lv2 := [(19, .int (nI 1)), (18, .int (nI ((10 * ((g k) / 20)) + (((g k) % 20) / 2)))), (17, .int (nI k)), (16, .int ((ep od hb g (S, 0, -2, 0) k).2.2.2)), (15, .int (nI (eb od hb g (S, 0, -2, 0) k))), (14, .int (nI x)), (12, .int (nI B)), (10, .ref ct), (9, .int ((ep od hb g (S, 0, -2, 0) e).2.2.2)), (8, .int (nI (en od hb g (S, 0, -2, 0) e))), (7, .ref cn), (6, .int (nI e)), (0, .ref 0), (1, .ref 4), (2, .int (nI (np X)))]) ri_206_494 rfl rm_206.1 (by decide) rfl ?_
        refine rs_aload_n ri_206_496 rfl rfl ?_
        refine rs_iload ri_206_497 rfl rfl ?_
        refine rs_iload ri_206_499 rfl rfl ?_
        refine rs_virt (c := 4) (As := [.int (nI (10 * (g k / 20) + g k % 20 / 2)), .int (nI 1)]) (r := []) ri_206_501 rfl (by decide) rm_144.2.2.2 rm_144.2.2.1 rfl rfl rfl (by decide) (lr_4 hz2.1) (Nat.le_of_ble_eq_true rfl) (hcs0) (by omega) (ca_off1 (X := X) hz2.1 hnp hz2.2.1 hi hj hij hS2 hmk) ?_
        rintro v M3 ⟨f3, k3, w3, s3, l3, m3⟩
        rw [f3]
        show ro_w X _ 206 _ 504 [(19, .int (nI 1)), (18, .int (nI ((10 * ((g k) / 20)) + (((g k) % 20) / 2)))), (17, .int (nI k)), (16, .int ((ep od hb g (S, 0, -2, 0) k).2.2.2)), (15, .int (nI (eb od hb g (S, 0, -2, 0) k))), (14, .int (nI x)), (12, .int (nI B)), (10, .ref ct), (9, .int ((ep od hb g (S, 0, -2, 0) e).2.2.2)), (8, .int (nI (en od hb g (S, 0, -2, 0) e))), (7, .ref cn), (6, .int (nI e)), (0, .ref 0), (1, .ref 4), (2, .int (nI (np X)))] [.int (nI (g k / 20))] M3 cs
        have hz3 := zs_o hz2 k3 w3
        have hla3 := lr_w hla2 w3 hc
        have hln3 := lr_w hln2 w3 hcn
        rw [h02, nI_1] at l3
        rw [h12, nI_1] at m3
        refine rs_if_ge (t := 509) ri_206_504 rfl rfl (fun _ => ?_) (fun q => absurd (nI_le (a := 0) (by omega) (by omega)) q)
        refine rs_iload ri_206_509 rfl rfl ?_
        refine rs_iconst (v := nI 1) ri_206_511 rfl (by decide) ?_
        refine rs_icmp_ne (t := 536) ri_206_512 rfl rfl (fun q => absurd (by decide) q) (fun _ => ?_)
        refine rs_iload ri_206_515 rfl rfl ?_
        refine rs_iconst (v := nI 1) ri_206_517 rfl (by decide) ?_
        refine rs_iload ri_206_518 rfl rfl ?_
        refine rs_ishl (r := (nI 1) <<< ((nI k) &&& 31)) ri_206_520 rfl rfl ?_
        refine rs_ior (r := nI (eb od hb g (S, 0, -2, 0) (k + 1))) ri_206_521 rfl ((show nI (eb od hb g (S, 0, -2, 0) k) ||| ((1 : Int32) <<< (nI k &&& 31)) = _ from by rw [rb_or k (by omega) _ lt.1, ebk])) ?_
        refine rs_istore (lv2 := [(15, .int (nI (eb od hb g (S, 0, -2, 0) (k + 1)))), (19, .int (nI 1)), (18, .int (nI ((10 * ((g k) / 20)) + (((g k) % 20) / 2)))), (17, .int (nI k)), (16, .int ((ep od hb g (S, 0, -2, 0) k).2.2.2)), (14, .int (nI x)), (12, .int (nI B)), (10, .ref ct), (9, .int ((ep od hb g (S, 0, -2, 0) e).2.2.2)), (8, .int (nI (en od hb g (S, 0, -2, 0) e))), (7, .ref cn), (6, .int (nI e)), (0, .ref 0), (1, .ref 4), (2, .int (nI (np X)))]) ri_206_522 rfl rm_206.1 (by decide) rfl ?_
        refine rs_iload ri_206_524 rfl rfl ?_
        refine rs_iconst (v := nI 1) ri_206_526 rfl (by decide) ?_
        refine rs_iload ri_206_527 rfl rfl ?_
        refine rs_bipush (v := nI 10) ri_206_529 rfl (by decide) ?_
        refine rs_irem (r := nI (g k % 20 / 2)) ri_206_531 rfl (by decide) ((nI_rem (a := 10 * (g k / 20) + g k % 20 / 2) (b := 10) (by omega) (by decide)).trans (congrArg nI (by omega))) ?_
        refine rs_ishl (r := (nI 1) <<< ((nI (g k % 20 / 2)) &&& 31)) ri_206_532 rfl rfl ?_
        refine rs_ior (r := ((ep od hb g (S, 0, -2, 0) (k + 1)).2.2.2)) ri_206_533 rfl (by rw [hst]; rfl) ?_
        refine rs_istore (lv2 := [(16, .int ((ep od hb g (S, 0, -2, 0) (k + 1)).2.2.2)), (15, .int (nI (eb od hb g (S, 0, -2, 0) (k + 1)))), (19, .int (nI 1)), (18, .int (nI ((10 * ((g k) / 20)) + (((g k) % 20) / 2)))), (17, .int (nI k)), (14, .int (nI x)), (12, .int (nI B)), (10, .ref ct), (9, .int ((ep od hb g (S, 0, -2, 0) e).2.2.2)), (8, .int (nI (en od hb g (S, 0, -2, 0) e))), (7, .ref cn), (6, .int (nI e)), (0, .ref 0), (1, .ref 4), (2, .int (nI (np X)))]) ri_206_534 rfl rm_206.1 (by decide) rfl ?_
        refine rs_iinc (v := nI (k + 1)) (lv2 := [(17, .int (nI (k + 1))), (16, .int ((ep od hb g (S, 0, -2, 0) (k + 1)).2.2.2)), (15, .int (nI (eb od hb g (S, 0, -2, 0) (k + 1)))), (19, .int (nI 1)), (18, .int (nI ((10 * ((g k) / 20)) + (((g k) % 20) / 2)))), (14, .int (nI x)), (12, .int (nI B)), (10, .ref ct), (9, .int ((ep od hb g (S, 0, -2, 0) e).2.2.2)), (8, .int (nI (en od hb g (S, 0, -2, 0) e))), (7, .ref cn), (6, .int (nI e)), (0, .ref 0), (1, .ref 4), (2, .int (nI (np X)))]) ri_206_536 rfl rfl (nI_1 k) rm_206.1 (by decide) rfl ?_
        refine rs_goto (t := 427) ri_206_539 rfl ?_
        refine ro_w_lv (lv := [(17, .int (nI (k + 1))), (16, .int ((ep od hb g (S, 0, -2, 0) (k + 1)).2.2.2)), (15, .int (nI (eb od hb g (S, 0, -2, 0) (k + 1)))), (14, .int (nI x)), (12, .int (nI B)), (10, .ref ct), (9, .int ((ep od hb g (S, 0, -2, 0) e).2.2.2)), (8, .int (nI (en od hb g (S, 0, -2, 0) e))), (7, .ref cn), (6, .int (nI e)), (0, .ref 0), (1, .ref 4), (2, .int (nI (np X)))]) (ro_sub_c rfl (ro_sub_c rfl (ro_sub_c rfl (ro_sub_c rfl (ro_sub_c rfl (ro_sub_c rfl (ro_sub_c rfl (ro_sub_c rfl (ro_sub_c rfl (ro_sub_c rfl (ro_sub_c rfl (ro_sub_c rfl (ro_sub_c rfl (ro_sub_n rfl)))))))))))))) ?_
        have E1 : (ep od hb g (S, 0, -2, 0) (k + 1)).1 = pu_rf (ep od hb g (S, 0, -2, 0) k).1 (g k / 20) := by rw [hst]; rfl
        rw [← E1] at s3
        exact ih (k + 1) M3 (by omega) hz3 s3 hla3 hln3 l3 (m3.trans (by rw [enk]))
      · rw [if_neg r] at hst ebk enk
        have hlt : (od (g k / 20) (g k % 20 / 2) ((ep od hb g (S, 0, -2, 0) k).1.1 (g k % 20 / 2)) ((ep od hb g (S, 0, -2, 0) k).1.2 (g k % 20 / 2))) < hb := by
          unfold rf_at at r
          rw [decide_eq_true e2, Bool.true_and] at r
          simp only [Bool.not_eq_true', decide_eq_false_iff_not, Decidable.not_not] at r
          exact r
        refine rs_iload ri_206_427 rfl rfl ?_
        refine rs_iload ri_206_429 rfl rfl ?_
        refine rs_icmp_ge (t := 542) ri_206_431 rfl rfl (fun q => absurd q (nI_ge (a := k) (b := e) (by omega) (by omega))) (fun _ => ?_)
        refine rs_bipush (v := nI 10) ri_206_434 rfl (by decide) ?_
        refine rs_aload ri_206_436 rfl rfl ?_
        refine rs_iload ri_206_438 rfl rfl ?_
        refine rs_iald (v := nI (g k)) ri_206_440 rfl (by omega) (hln).1 (ro_vn (k := k) (by omega) (by omega)) (lr_g (hln) (by omega) (by omega)) ?_
        refine rs_bipush (v := nI 20) ri_206_441 rfl (by decide) ?_
        refine rs_idiv (r := nI ((g k) / 20)) ri_206_443 rfl (by decide) (nI_div (a := (g k)) (b := 20) (by omega) (by omega)) ?_
        refine rs_imul (r := nI (10 * ((g k) / 20))) ri_206_444 rfl (nI_mul 10 ((g k) / 20)) ?_
        refine rs_aload ri_206_445 rfl rfl ?_
        refine rs_iload ri_206_447 rfl rfl ?_
        refine rs_iald (v := nI (g k)) ri_206_449 rfl (by omega) (hln).1 (ro_vn (k := k) (by omega) (by omega)) (lr_g (hln) (by omega) (by omega)) ?_
        refine rs_bipush (v := nI 20) ri_206_450 rfl (by decide) ?_
        refine rs_irem (r := nI ((g k) % 20)) ri_206_452 rfl (by decide) (nI_rem (a := (g k)) (b := 20) (by omega) (by omega)) ?_
        refine rs_iconst (v := nI 2) ri_206_453 rfl (by decide) ?_
        refine rs_idiv (r := nI (((g k) % 20) / 2)) ri_206_454 rfl (by decide) (nI_div (a := ((g k) % 20)) (b := 2) (by omega) (by omega)) ?_
        refine rs_iadd (r := nI ((10 * ((g k) / 20)) + (((g k) % 20) / 2))) ri_206_455 rfl (nI_add (10 * ((g k) / 20)) (((g k) % 20) / 2)) ?_
        refine rs_istore (lv2 := [(18, .int (nI ((10 * ((g k) / 20)) + (((g k) % 20) / 2)))), (17, .int (nI k)), (16, .int ((ep od hb g (S, 0, -2, 0) k).2.2.2)), (15, .int (nI (eb od hb g (S, 0, -2, 0) k))), (14, .int (nI x)), (12, .int (nI B)), (10, .ref ct), (9, .int ((ep od hb g (S, 0, -2, 0) e).2.2.2)), (8, .int (nI (en od hb g (S, 0, -2, 0) e))), (7, .ref cn), (6, .int (nI e)), (0, .ref 0), (1, .ref 4), (2, .int (nI (np X)))]) ri_206_456 rfl rm_206.1 (by decide) rfl ?_
        refine rs_aload ri_206_458 rfl rfl ?_
        refine rs_iload ri_206_460 rfl rfl ?_
        refine rs_iald (v := nI (g k)) ri_206_462 rfl (by omega) (hln).1 (ro_vn (k := k) (by omega) (by omega)) (lr_g (hln) (by omega) (by omega)) ?_
        refine rs_iconst (v := nI 2) ri_206_463 rfl (by decide) ?_
        refine rs_irem (r := nI ((g k) % 2)) ri_206_464 rfl (by decide) (nI_rem (a := (g k)) (b := 2) (by omega) (by omega)) ?_
        refine rs_iconst (v := nI 1) ri_206_465 rfl (by decide) ?_
        refine rs_icmp_ne (t := 473) ri_206_466 rfl rfl (fun _ => ?_) (fun q => absurd q (fun q => absurd ((nI_eq (a := g k % 2) (b := 1) (by omega) (by omega)).mp q) (by omega)))
        refine rs_aload_n ri_206_473 rfl rfl ?_
        refine rs_iload ri_206_474 rfl rfl ?_
        refine rs_virt (c := 4) (As := [.int (nI (10 * (g k / 20) + g k % 20 / 2))]) (r := []) ri_206_476 rfl (by decide) rm_55.2.2.2 rm_55.2.2.1 rfl rfl rfl (by decide) (lr_4 hz.1) (Nat.le_of_ble_eq_true rfl) (hcs0) (by omega) (ca_odds (X := X) hz.1 hnp hz.2.1 hi hj hij) ?_
        rintro v M1 ⟨f1, q1⟩
        rw [f1, eod]
        show ro_w X _ 206 _ 479 [(18, .int (nI ((10 * ((g k) / 20)) + (((g k) % 20) / 2)))), (17, .int (nI k)), (16, .int ((ep od hb g (S, 0, -2, 0) k).2.2.2)), (15, .int (nI (eb od hb g (S, 0, -2, 0) k))), (14, .int (nI x)), (12, .int (nI B)), (10, .ref ct), (9, .int ((ep od hb g (S, 0, -2, 0) e).2.2.2)), (8, .int (nI (en od hb g (S, 0, -2, 0) e))), (7, .ref cn), (6, .int (nI e)), (0, .ref 0), (1, .ref 4), (2, .int (nI (np X)))] [.int ((od (g k / 20) (g k % 20 / 2) ((ep od hb g (S, 0, -2, 0) k).1.1 (g k % 20 / 2)) ((ep od hb g (S, 0, -2, 0) k).1.2 (g k % 20 / 2))))] M1 cs
        have hz1 := zs_q hz q1
        have hS1 : pu_at (np X) M1 6 (ep od hb g (S, 0, -2, 0) k).1 := pu_at_c hS (fun y _ => ⟨q1.2.1 7 y (by decide) rfl, q1.2.1 8 y (by decide) rfl⟩)
        have hla1 := lr_q hla q1 hc
        have hln1 := lr_q hln q1 hcn
        have h01 := (q1.2.1 11 0 (by decide) rfl).trans h0
        have h11 := (q1.2.1 11 1 (by decide) rfl).trans h1
        refine rs_aload_n ri_206_479 rfl rfl ?_
        refine rs_iconst (v := nI 0) ri_206_480 rfl (by decide) ?_
        refine rs_bipush (v := nI 6) ri_206_481 rfl (by decide) ?_
        refine rs_virt (c := 4) (As := [.int (nI 0), .int (nI 6)]) (r := [.int ((od (g k / 20) (g k % 20 / 2) ((ep od hb g (S, 0, -2, 0) k).1.1 (g k % 20 / 2)) ((ep od hb g (S, 0, -2, 0) k).1.2 (g k % 20 / 2))))]) ri_206_483 rfl (by decide) rm_36.2.2.2 rm_36.2.2.1 rfl rfl rfl (by decide) (lr_4 hz1.1) (Nat.le_of_ble_eq_true rfl) (hcs0) (by omega) (ca_of6 (X := X) hz1.1) ?_
        rintro v M2 ⟨f2, q2⟩
        rw [f2, hz1.2.2.2.1]
        show ro_w X _ 206 _ 486 [(18, .int (nI ((10 * ((g k) / 20)) + (((g k) % 20) / 2)))), (17, .int (nI k)), (16, .int ((ep od hb g (S, 0, -2, 0) k).2.2.2)), (15, .int (nI (eb od hb g (S, 0, -2, 0) k))), (14, .int (nI x)), (12, .int (nI B)), (10, .ref ct), (9, .int ((ep od hb g (S, 0, -2, 0) e).2.2.2)), (8, .int (nI (en od hb g (S, 0, -2, 0) e))), (7, .ref cn), (6, .int (nI e)), (0, .ref 0), (1, .ref 4), (2, .int (nI (np X)))] [.int hb, .int ((od (g k / 20) (g k % 20 / 2) ((ep od hb g (S, 0, -2, 0) k).1.1 (g k % 20 / 2)) ((ep od hb g (S, 0, -2, 0) k).1.2 (g k % 20 / 2))))] M2 cs
        have hz2 := zs_q hz1 q2
        have hS2 : pu_at (np X) M2 6 (ep od hb g (S, 0, -2, 0) k).1 := pu_at_c hS1 (fun y _ => ⟨q2.2.1 7 y (by decide) rfl, q2.2.1 8 y (by decide) rfl⟩)
        have hla2 := lr_q hla1 q2 hc
        have hln2 := lr_q hln1 q2 hcn
        have h02 := (q2.2.1 11 0 (by decide) rfl).trans h01
        have h12 := (q2.2.1 11 1 (by decide) rfl).trans h11
        refine rs_icmp_lt (t := 493) ri_206_486 rfl rfl (fun _ => ?_) (fun q => absurd (hlt) q)
        refine rs_iconst (v := nI 0) ri_206_493 rfl (by decide) ?_
        refine rs_istore (lv2 := [(19, .int (nI 0)), (18, .int (nI ((10 * ((g k) / 20)) + (((g k) % 20) / 2)))), (17, .int (nI k)), (16, .int ((ep od hb g (S, 0, -2, 0) k).2.2.2)), (15, .int (nI (eb od hb g (S, 0, -2, 0) k))), (14, .int (nI x)), (12, .int (nI B)), (10, .ref ct), (9, .int ((ep od hb g (S, 0, -2, 0) e).2.2.2)), (8, .int (nI (en od hb g (S, 0, -2, 0) e))), (7, .ref cn), (6, .int (nI e)), (0, .ref 0), (1, .ref 4), (2, .int (nI (np X)))]) ri_206_494 rfl rm_206.1 (by decide) rfl ?_
        refine rs_aload_n ri_206_496 rfl rfl ?_
        refine rs_iload ri_206_497 rfl rfl ?_
        refine rs_iload ri_206_499 rfl rfl ?_
        refine rs_virt (c := 4) (As := [.int (nI (10 * (g k / 20) + g k % 20 / 2)), .int (nI 0)]) (r := []) ri_206_501 rfl (by decide) rm_144.2.2.2 rm_144.2.2.1 rfl rfl rfl (by decide) (lr_4 hz2.1) (Nat.le_of_ble_eq_true rfl) (hcs0) (by omega) (ca_off0 (X := X) hz2.1 hnp hz2.2.1 hi hj hij hS2 hmk) ?_
        rintro v M3 ⟨f3, k3, w3, s3, l3, m3⟩
        rw [f3]
        show ro_w X _ 206 _ 504 [(19, .int (nI 0)), (18, .int (nI ((10 * ((g k) / 20)) + (((g k) % 20) / 2)))), (17, .int (nI k)), (16, .int ((ep od hb g (S, 0, -2, 0) k).2.2.2)), (15, .int (nI (eb od hb g (S, 0, -2, 0) k))), (14, .int (nI x)), (12, .int (nI B)), (10, .ref ct), (9, .int ((ep od hb g (S, 0, -2, 0) e).2.2.2)), (8, .int (nI (en od hb g (S, 0, -2, 0) e))), (7, .ref cn), (6, .int (nI e)), (0, .ref 0), (1, .ref 4), (2, .int (nI (np X)))] [.int (nI (g k % 20 / 2))] M3 cs
        have hz3 := zs_o hz2 k3 w3
        have hla3 := lr_w hla2 w3 hc
        have hln3 := lr_w hln2 w3 hcn
        rw [h02, nI_1] at l3
        rw [h12] at m3
        refine rs_if_ge (t := 509) ri_206_504 rfl rfl (fun _ => ?_) (fun q => absurd (nI_le (a := 0) (by omega) (by omega)) q)
        refine rs_iload ri_206_509 rfl rfl ?_
        refine rs_iconst (v := nI 1) ri_206_511 rfl (by decide) ?_
        refine rs_icmp_ne (t := 536) ri_206_512 rfl rfl (fun _ => ?_) (fun q => absurd q (by decide))
        refine rs_iinc (v := nI (k + 1)) (lv2 := [(17, .int (nI (k + 1))), (19, .int (nI 0)), (18, .int (nI ((10 * ((g k) / 20)) + (((g k) % 20) / 2)))), (16, .int ((ep od hb g (S, 0, -2, 0) k).2.2.2)), (15, .int (nI (eb od hb g (S, 0, -2, 0) k))), (14, .int (nI x)), (12, .int (nI B)), (10, .ref ct), (9, .int ((ep od hb g (S, 0, -2, 0) e).2.2.2)), (8, .int (nI (en od hb g (S, 0, -2, 0) e))), (7, .ref cn), (6, .int (nI e)), (0, .ref 0), (1, .ref 4), (2, .int (nI (np X)))]) ri_206_536 rfl rfl (nI_1 k) rm_206.1 (by decide) rfl ?_
        refine rs_goto (t := 427) ri_206_539 rfl ?_
        have E2 : (ep od hb g (S, 0, -2, 0) (k + 1)).2.2.2 = (ep od hb g (S, 0, -2, 0) k).2.2.2 := by rw [hst]
        have LV : ro_w X 2000 206 lw_PP 427 [(17, .int (nI (k + 1))), (16, .int ((ep od hb g (S, 0, -2, 0) (k + 1)).2.2.2)), (15, .int (nI (eb od hb g (S, 0, -2, 0) (k + 1)))), (14, .int (nI x)), (12, .int (nI B)), (10, .ref ct), (9, .int ((ep od hb g (S, 0, -2, 0) e).2.2.2)), (8, .int (nI (en od hb g (S, 0, -2, 0) e))), (7, .ref cn), (6, .int (nI e)), (0, .ref 0), (1, .ref 4), (2, .int (nI (np X)))] [] M3 cs → ro_w X 2000 206 lw_PP 427 [(17, .int (nI (k + 1))), (16, .int ((ep od hb g (S, 0, -2, 0) k).2.2.2)), (15, .int (nI (eb od hb g (S, 0, -2, 0) k))), (14, .int (nI x)), (12, .int (nI B)), (10, .ref ct), (9, .int ((ep od hb g (S, 0, -2, 0) e).2.2.2)), (8, .int (nI (en od hb g (S, 0, -2, 0) e))), (7, .ref cn), (6, .int (nI e)), (0, .ref 0), (1, .ref 4), (2, .int (nI (np X)))] [] M3 cs := fun a => by
          rw [E2, ebk] at a
          exact a
        refine ro_w_lv (lv := [(17, .int (nI (k + 1))), (16, .int ((ep od hb g (S, 0, -2, 0) k).2.2.2)), (15, .int (nI (eb od hb g (S, 0, -2, 0) k))), (14, .int (nI x)), (12, .int (nI B)), (10, .ref ct), (9, .int ((ep od hb g (S, 0, -2, 0) e).2.2.2)), (8, .int (nI (en od hb g (S, 0, -2, 0) e))), (7, .ref cn), (6, .int (nI e)), (0, .ref 0), (1, .ref 4), (2, .int (nI (np X)))]) (ro_sub_c rfl (ro_sub_c rfl (ro_sub_c rfl (ro_sub_c rfl (ro_sub_c rfl (ro_sub_c rfl (ro_sub_c rfl (ro_sub_c rfl (ro_sub_c rfl (ro_sub_c rfl (ro_sub_c rfl (ro_sub_c rfl (ro_sub_c rfl (ro_sub_n rfl)))))))))))))) ?_
        refine LV ?_
        have E1 : (ep od hb g (S, 0, -2, 0) (k + 1)).1 = pu_gw (ep od hb g (S, 0, -2, 0) k).1 (g k / 20) (g k % 20 / 2) := by rw [hst]
        rw [← E1] at s3
        exact ih (k + 1) M3 (by omega) hz3 s3 hla3 hln3 l3 (m3.trans (by rw [enk]))
    · rw [if_neg e2] at hst hmk
      have r : ¬ rf_at od hb (g k) (ep od hb g (S, 0, -2, 0) k) = true := by unfold rf_at; rw [decide_eq_false e2, Bool.false_and]; decide
      rw [if_neg r] at ebk enk
      refine rs_iload ri_206_427 rfl rfl ?_
      refine rs_iload ri_206_429 rfl rfl ?_
      refine rs_icmp_ge (t := 542) ri_206_431 rfl rfl (fun q => absurd q (nI_ge (a := k) (b := e) (by omega) (by omega))) (fun _ => ?_)
      refine rs_bipush (v := nI 10) ri_206_434 rfl (by decide) ?_
      refine rs_aload ri_206_436 rfl rfl ?_
      refine rs_iload ri_206_438 rfl rfl ?_
      refine rs_iald (v := nI (g k)) ri_206_440 rfl (by omega) (hln).1 (ro_vn (k := k) (by omega) (by omega)) (lr_g (hln) (by omega) (by omega)) ?_
      refine rs_bipush (v := nI 20) ri_206_441 rfl (by decide) ?_
      refine rs_idiv (r := nI ((g k) / 20)) ri_206_443 rfl (by decide) (nI_div (a := (g k)) (b := 20) (by omega) (by omega)) ?_
      refine rs_imul (r := nI (10 * ((g k) / 20))) ri_206_444 rfl (nI_mul 10 ((g k) / 20)) ?_
      refine rs_aload ri_206_445 rfl rfl ?_
      refine rs_iload ri_206_447 rfl rfl ?_
      refine rs_iald (v := nI (g k)) ri_206_449 rfl (by omega) (hln).1 (ro_vn (k := k) (by omega) (by omega)) (lr_g (hln) (by omega) (by omega)) ?_
      refine rs_bipush (v := nI 20) ri_206_450 rfl (by decide) ?_
      refine rs_irem (r := nI ((g k) % 20)) ri_206_452 rfl (by decide) (nI_rem (a := (g k)) (b := 20) (by omega) (by omega)) ?_
      refine rs_iconst (v := nI 2) ri_206_453 rfl (by decide) ?_
      refine rs_idiv (r := nI (((g k) % 20) / 2)) ri_206_454 rfl (by decide) (nI_div (a := ((g k) % 20)) (b := 2) (by omega) (by omega)) ?_
      refine rs_iadd (r := nI ((10 * ((g k) / 20)) + (((g k) % 20) / 2))) ri_206_455 rfl (nI_add (10 * ((g k) / 20)) (((g k) % 20) / 2)) ?_
      refine rs_istore (lv2 := [(18, .int (nI ((10 * ((g k) / 20)) + (((g k) % 20) / 2)))), (17, .int (nI k)), (16, .int ((ep od hb g (S, 0, -2, 0) k).2.2.2)), (15, .int (nI (eb od hb g (S, 0, -2, 0) k))), (14, .int (nI x)), (12, .int (nI B)), (10, .ref ct), (9, .int ((ep od hb g (S, 0, -2, 0) e).2.2.2)), (8, .int (nI (en od hb g (S, 0, -2, 0) e))), (7, .ref cn), (6, .int (nI e)), (0, .ref 0), (1, .ref 4), (2, .int (nI (np X)))]) ri_206_456 rfl rm_206.1 (by decide) rfl ?_
      refine rs_aload ri_206_458 rfl rfl ?_
      refine rs_iload ri_206_460 rfl rfl ?_
      refine rs_iald (v := nI (g k)) ri_206_462 rfl (by omega) (hln).1 (ro_vn (k := k) (by omega) (by omega)) (lr_g (hln) (by omega) (by omega)) ?_
      refine rs_iconst (v := nI 2) ri_206_463 rfl (by decide) ?_
      refine rs_irem (r := nI ((g k) % 2)) ri_206_464 rfl (by decide) (nI_rem (a := (g k)) (b := 2) (by omega) (by omega)) ?_
      refine rs_iconst (v := nI 1) ri_206_465 rfl (by decide) ?_
      refine rs_icmp_ne (t := 473) ri_206_466 rfl rfl (fun q => absurd (congrArg nI (show g k % 2 = 1 by omega)) q) (fun _ => ?_)
      refine rs_iconst (v := nI 2) ri_206_469 rfl (by decide) ?_
      refine rs_goto (t := 494) ri_206_470 rfl ?_
      refine rs_istore (lv2 := [(19, .int (nI 2)), (18, .int (nI ((10 * ((g k) / 20)) + (((g k) % 20) / 2)))), (17, .int (nI k)), (16, .int ((ep od hb g (S, 0, -2, 0) k).2.2.2)), (15, .int (nI (eb od hb g (S, 0, -2, 0) k))), (14, .int (nI x)), (12, .int (nI B)), (10, .ref ct), (9, .int ((ep od hb g (S, 0, -2, 0) e).2.2.2)), (8, .int (nI (en od hb g (S, 0, -2, 0) e))), (7, .ref cn), (6, .int (nI e)), (0, .ref 0), (1, .ref 4), (2, .int (nI (np X)))]) ri_206_494 rfl rm_206.1 (by decide) rfl ?_
      refine rs_aload_n ri_206_496 rfl rfl ?_
      refine rs_iload ri_206_497 rfl rfl ?_
      refine rs_iload ri_206_499 rfl rfl ?_
      refine rs_virt (c := 4) (As := [.int (nI (10 * (g k / 20) + g k % 20 / 2)), .int (nI 2)]) (r := []) ri_206_501 rfl (by decide) rm_144.2.2.2 rm_144.2.2.1 rfl rfl rfl (by decide) (lr_4 hz.1) (Nat.le_of_ble_eq_true rfl) (hcs0) (by omega) (ca_off2 (X := X) hz.1 hnp hz.2.1 hi hj hij hS hmk) ?_
      rintro v M1 ⟨f1, k1, w1, s1, l1, m1⟩
      rw [f1]
      show ro_w X _ 206 _ 504 [(19, .int (nI 2)), (18, .int (nI ((10 * ((g k) / 20)) + (((g k) % 20) / 2)))), (17, .int (nI k)), (16, .int ((ep od hb g (S, 0, -2, 0) k).2.2.2)), (15, .int (nI (eb od hb g (S, 0, -2, 0) k))), (14, .int (nI x)), (12, .int (nI B)), (10, .ref ct), (9, .int ((ep od hb g (S, 0, -2, 0) e).2.2.2)), (8, .int (nI (en od hb g (S, 0, -2, 0) e))), (7, .ref cn), (6, .int (nI e)), (0, .ref 0), (1, .ref 4), (2, .int (nI (np X)))] [.int (nI (g k % 20 / 2))] M1 cs
      have hz1 := zs_o hz k1 w1
      have hla1 := lr_w hla w1 hc
      have hln1 := lr_w hln w1 hcn
      rw [h0, nI_1] at l1
      rw [h1] at m1
      refine rs_if_ge (t := 509) ri_206_504 rfl rfl (fun _ => ?_) (fun q => absurd (nI_le (a := 0) (by omega) (by omega)) q)
      refine rs_iload ri_206_509 rfl rfl ?_
      refine rs_iconst (v := nI 1) ri_206_511 rfl (by decide) ?_
      refine rs_icmp_ne (t := 536) ri_206_512 rfl rfl (fun _ => ?_) (fun q => absurd q (by decide))
      refine rs_iinc (v := nI (k + 1)) (lv2 := [(17, .int (nI (k + 1))), (19, .int (nI 2)), (18, .int (nI ((10 * ((g k) / 20)) + (((g k) % 20) / 2)))), (16, .int ((ep od hb g (S, 0, -2, 0) k).2.2.2)), (15, .int (nI (eb od hb g (S, 0, -2, 0) k))), (14, .int (nI x)), (12, .int (nI B)), (10, .ref ct), (9, .int ((ep od hb g (S, 0, -2, 0) e).2.2.2)), (8, .int (nI (en od hb g (S, 0, -2, 0) e))), (7, .ref cn), (6, .int (nI e)), (0, .ref 0), (1, .ref 4), (2, .int (nI (np X)))]) ri_206_536 rfl rfl (nI_1 k) rm_206.1 (by decide) rfl ?_
      refine rs_goto (t := 427) ri_206_539 rfl ?_
      have E2 : (ep od hb g (S, 0, -2, 0) (k + 1)).2.2.2 = (ep od hb g (S, 0, -2, 0) k).2.2.2 := by rw [hst]
      have LV : ro_w X 2000 206 lw_PP 427 [(17, .int (nI (k + 1))), (16, .int ((ep od hb g (S, 0, -2, 0) (k + 1)).2.2.2)), (15, .int (nI (eb od hb g (S, 0, -2, 0) (k + 1)))), (14, .int (nI x)), (12, .int (nI B)), (10, .ref ct), (9, .int ((ep od hb g (S, 0, -2, 0) e).2.2.2)), (8, .int (nI (en od hb g (S, 0, -2, 0) e))), (7, .ref cn), (6, .int (nI e)), (0, .ref 0), (1, .ref 4), (2, .int (nI (np X)))] [] M1 cs → ro_w X 2000 206 lw_PP 427 [(17, .int (nI (k + 1))), (16, .int ((ep od hb g (S, 0, -2, 0) k).2.2.2)), (15, .int (nI (eb od hb g (S, 0, -2, 0) k))), (14, .int (nI x)), (12, .int (nI B)), (10, .ref ct), (9, .int ((ep od hb g (S, 0, -2, 0) e).2.2.2)), (8, .int (nI (en od hb g (S, 0, -2, 0) e))), (7, .ref cn), (6, .int (nI e)), (0, .ref 0), (1, .ref 4), (2, .int (nI (np X)))] [] M1 cs := fun a => by
        rw [E2, ebk] at a
        exact a
      refine ro_w_lv (lv := [(17, .int (nI (k + 1))), (16, .int ((ep od hb g (S, 0, -2, 0) k).2.2.2)), (15, .int (nI (eb od hb g (S, 0, -2, 0) k))), (14, .int (nI x)), (12, .int (nI B)), (10, .ref ct), (9, .int ((ep od hb g (S, 0, -2, 0) e).2.2.2)), (8, .int (nI (en od hb g (S, 0, -2, 0) e))), (7, .ref cn), (6, .int (nI e)), (0, .ref 0), (1, .ref 4), (2, .int (nI (np X)))]) (ro_sub_c rfl (ro_sub_c rfl (ro_sub_c rfl (ro_sub_c rfl (ro_sub_c rfl (ro_sub_c rfl (ro_sub_c rfl (ro_sub_c rfl (ro_sub_c rfl (ro_sub_c rfl (ro_sub_c rfl (ro_sub_c rfl (ro_sub_c rfl (ro_sub_n rfl)))))))))))))) ?_
      refine LV ?_
      have E1 : (ep od hb g (S, 0, -2, 0) (k + 1)).1 = pu_gc (ep od hb g (S, 0, -2, 0) k).1 (g k / 20) (g k % 20 / 2) := by rw [hst]
      rw [← E1] at s1
      exact ih (k + 1) M1 (by omega) hz1 s1 hla1 hln1 l1 (m1.trans (by rw [enk]))
end DEED
end LAWX
