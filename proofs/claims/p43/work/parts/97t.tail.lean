/-! the law's body, from behind: richest, stays -/
section LAWT
variable {X : ro_Sx} {L : List (List Int32 × List Int32)}
abbrev lw_PP : ro_Po := fun v _ => v = some (.int 1)
/-- the people as they were told -/
def zt (X : ro_Sx) (L : List (List Int32 × List Int32)) (M : ro_Mm) : Prop := kv L M ∧ M.2.1 5 4 = nI (np X) ∧ ∀ i, i < np X → M.2.1 7 i = nI (on0 X i) ∧ M.2.1 8 i = nI (on1 X i) ∧ M.2.1 10 i = nI (on3 X i)
theorem zt_q {M M2 : ro_Mm} (h : zt X L M) (g : kq M M2) : zt X L M2 := by
  refine ⟨kv_c h.1 g, ?_, fun i hi => ?_⟩
  · rw [g.2.1 5 4 (by decide) rfl]; exact h.2.1
  · rw [g.2.1 7 i (by decide) rfl, g.2.1 8 i (by decide) rfl, g.2.1 10 i (by decide) rfl]; exact h.2.2 i hi
theorem kq_od {M M2 : ro_Mm} (g : kq M M2) : odv M2 L = odv M L := odv_c (fun i => g.2.1 9 i (by decide) rfl) (g.2.1 5 5 (by decide) rfl) (g.2.1 5 6 (by decide) rfl)
theorem kq_now {M M2 : ro_Mm} (g : kq M M2) : pu_now M2 = pu_now M := Prod.ext (funext fun i => g.2.1 7 i (by decide) rfl) (funext fun i => g.2.1 8 i (by decide) rfl)
theorem kq_ri {M M2 : ro_Mm} {B : Nat → Nat} (g : kq M M2) (h : ri_is M B) : ri_is M2 B := ri_is_c (g.2.1 5 4 (by decide) rfl) (fun i => g.2.1 7 i (by decide) rfl) (fun i => g.2.1 8 i (by decide) rfl) h
theorem fc_le {a b : UInt64} (ha : fp_P a) (hb : fp_P b) (h : fp_Z a ≤ fp_Z b) (op : CmpOp) : ∃ r, Op.cmpValue (FP.dcmp a b) op = r ∧ ¬ 0 < r ∧ r ≤ 0 := by
  refine ⟨_, fp_cmp ha hb op, ?_⟩
  by_cases c : fp_Z a < fp_Z b
  · rw [if_pos c]; decide
  · rw [if_neg c, if_pos (by omega)]; decide
theorem fc_ge {a b : UInt64} (ha : fp_P a) (hb : fp_P b) (h : fp_Z b ≤ fp_Z a) (op : CmpOp) : ∃ r, Op.cmpValue (FP.dcmp a b) op = r ∧ ¬ r < 0 ∧ 0 ≤ r := by
  refine ⟨_, fp_cmp ha hb op, ?_⟩
  rw [if_neg (by omega)]
  by_cases c : fp_Z a = fp_Z b
  · rw [if_pos c]; decide
  · rw [if_neg c]; decide
theorem fc_eq {a b : UInt64} (ha : fp_P a) (hb : fp_P b) (h : fp_Z a = fp_Z b) (op : CmpOp) : Op.cmpValue (FP.dcmp a b) op = nI 0 := by
  rw [fp_cmp ha hb op, if_neg (by omega), if_pos h]; rfl
theorem fc_ne {a b : UInt64} (ha : fp_P a) (hb : fp_P b) (h : ¬ fp_Z a = fp_Z b) (op : CmpOp) : ∃ r, Op.cmpValue (FP.dcmp a b) op = r ∧ ¬ r = 0 := by
  refine ⟨_, fp_cmp ha hb op, ?_⟩
  by_cases c : fp_Z a < fp_Z b
  · rw [if_pos c]; decide
  · rw [if_neg c, if_neg h]; decide
section TAIL
variable {cs : Nat × Nat}
theorem lq_rich {B : Nat → Nat} (hcs : cs.1 ≤ (ro_lim 206).1 ∧ cs.2 ≤ (ro_lim 206).2) (hB : np X = 0 ∨ ∀ s, s < 5 → B s < np X) : ∀ e k M, k + e = np X → zt X L M → ri_is M B → ro_w X 2000 206 lw_PP 1544 [(23, .int (nI k)), (22, .int ((ri_u B k))), (1, .ref 4), (2, .int (nI (np X)))] [] M cs := by
  have hnp := np_b (X := X)
  intro e
  induction e with
  | zero =>
    intro k M hke hz hr
    have ek : k = np X := by omega
    by_cases n0 : np X = 0
    · refine rs_iload ri_206_1544 rfl rfl ?_
      refine rs_iload_n ri_206_1546 rfl rfl ?_
      refine rs_icmp_ge (t := 1581) ri_206_1547 rfl rfl (fun _ => ?_) (fun q => absurd (nI_le (a := np X) (b := k) (by omega) (by omega)) q)
      refine rs_iload ri_206_1581 rfl rfl ?_
      refine rs_iload_n ri_206_1583 rfl rfl ?_
      refine rs_if_ne (t := 1591) ri_206_1584 rfl rfl (fun q => absurd (congrArg nI n0) q) (fun _ => ?_)
      refine rs_iconst (v := nI 0) ri_206_1587 rfl (by decide) ?_
      refine rs_goto (t := 1593) ri_206_1588 rfl ?_
      refine rs_icmp_ne (t := 1600) ri_206_1593 rfl rfl (fun q => absurd (by rw [ek, n0]; exact ri_0 B) q) (fun _ => ?_)
      refine rs_iconst (v := nI 1) ri_206_1596 rfl (by decide) ?_
      refine rs_goto (t := 1601) ri_206_1597 rfl ?_
      refine rs_zret (p := true) ri_206_1601 rm_206.2.1 hcs rfl ?_
      exact rfl
    · refine rs_iload ri_206_1544 rfl rfl ?_
      refine rs_iload_n ri_206_1546 rfl rfl ?_
      refine rs_icmp_ge (t := 1581) ri_206_1547 rfl rfl (fun _ => ?_) (fun q => absurd (nI_le (a := np X) (b := k) (by omega) (by omega)) q)
      refine rs_iload ri_206_1581 rfl rfl ?_
      refine rs_iload_n ri_206_1583 rfl rfl ?_
      refine rs_if_ne (t := 1591) ri_206_1584 rfl rfl (fun _ => ?_) (fun q => absurd q (nI_ne0 (by omega) (by omega)))
      refine rs_bipush (v := nI 31) ri_206_1591 rfl (by decide) ?_
      refine rs_icmp_ne (t := 1600) ri_206_1593 rfl rfl (fun q => absurd (by rw [ek]; exact ri_n (hB.resolve_left n0)) q) (fun _ => ?_)
      refine rs_iconst (v := nI 1) ri_206_1596 rfl (by decide) ?_
      refine rs_goto (t := 1601) ri_206_1597 rfl ?_
      refine rs_zret (p := true) ri_206_1601 rm_206.2.1 hcs rfl ?_
      exact rfl
  | succ e ih =>
    intro k M hke hz hr
    have hB2 := hB.resolve_left (by omega)
    refine rs_iload ri_206_1544 rfl rfl ?_
    refine rs_iload_n ri_206_1546 rfl rfl ?_
    refine rs_icmp_ge (t := 1581) ri_206_1547 rfl rfl (fun q => absurd q (nI_ge (a := k) (b := np X) (by omega) (by omega))) (fun _ => ?_)
    refine rs_iload ri_206_1550 rfl rfl ?_
    refine rs_aload_n ri_206_1552 rfl rfl ?_
    refine rs_iload ri_206_1553 rfl rfl ?_
    refine rs_virt (c := 4) (As := [.int (nI k)]) (r := [.int ((ri_u B k))]) ri_206_1555 rfl (by decide) rm_117.2.2.2 rm_117.2.2.1 rfl rfl rfl (by decide) (lr_4 hz.1) (Nat.le_of_ble_eq_true rfl) (hcs) (by omega) (ca_rich (X := X) hz.1 hnp hz.2.1 (by omega) hB2 hr) ?_
    rintro v M1 ⟨e1, q1⟩
    rw [e1]
    show ro_w X _ 206 _ 1558 [(23, .int (nI k)), (22, .int ((ri_u B k))), (1, .ref 4), (2, .int (nI (np X)))] [.int ((ri_e B k)), .int ((ri_u B k))] M1 cs
    have hz1 := zt_q hz q1
    have hr1 := kq_ri q1 hr
    refine rs_iand (r := nI 0) ri_206_1558 rfl ((ri_s B k).1) ?_
    refine rs_if_eq (t := 1564) ri_206_1559 rfl rfl (fun _ => ?_) (fun q => absurd (by decide) q)
    refine rs_iload ri_206_1564 rfl rfl ?_
    refine rs_aload_n ri_206_1566 rfl rfl ?_
    refine rs_iload ri_206_1567 rfl rfl ?_
    refine rs_virt (c := 4) (As := [.int (nI k)]) (r := [.int ((ri_u B k))]) ri_206_1569 rfl (by decide) rm_117.2.2.2 rm_117.2.2.1 rfl rfl rfl (by decide) (lr_4 hz1.1) (Nat.le_of_ble_eq_true rfl) (hcs) (by omega) (ca_rich (X := X) hz1.1 hnp hz1.2.1 (by omega) hB2 hr1) ?_
    rintro v M2 ⟨e2, q2⟩
    rw [e2]
    show ro_w X _ 206 _ 1572 [(23, .int (nI k)), (22, .int ((ri_u B k))), (1, .ref 4), (2, .int (nI (np X)))] [.int ((ri_e B k)), .int ((ri_u B k))] M2 cs
    have hz2 := zt_q hz1 q2
    have hr2 := kq_ri q2 hr1
    refine rs_ior (r := ((ri_u B (k + 1)))) ri_206_1572 rfl ((ri_s B k).2) ?_
    refine rs_istore (lv2 := [(22, .int ((ri_u B (k + 1)))), (23, .int (nI k)), (1, .ref 4), (2, .int (nI (np X)))]) ri_206_1573 rfl rm_206.1 (by decide) rfl ?_
    refine rs_iinc (v := nI (k + 1)) (lv2 := [(23, .int (nI (k + 1))), (22, .int ((ri_u B (k + 1)))), (1, .ref 4), (2, .int (nI (np X)))]) ri_206_1575 rfl rfl (nI_1 k) rm_206.1 (by decide) rfl ?_
    refine rs_goto (t := 1544) ri_206_1578 rfl ?_
    exact ih (k + 1) M2 (by omega) hz2 hr2
theorem lq_1538 (hcs : cs.1 ≤ (ro_lim 206).1 ∧ cs.2 ≤ (ro_lim 206).2) {M : ro_Mm} (hz : zt X L M) : ro_w X 2000 206 lw_PP 1538 [(1, .ref 4), (2, .int (nI (np X)))] [] M cs := by
  have hnp := np_b (X := X)
  by_cases n0 : np X = 0
  · refine rs_iconst (v := nI 0) ri_206_1538 rfl (by decide) ?_
    refine rs_istore (lv2 := [(22, .int (nI 0)), (1, .ref 4), (2, .int (nI (np X)))]) ri_206_1539 rfl rm_206.1 (by decide) rfl ?_
    refine rs_iconst (v := nI 0) ri_206_1541 rfl (by decide) ?_
    refine rs_istore (lv2 := [(23, .int (nI 0)), (22, .int (nI 0)), (1, .ref 4), (2, .int (nI (np X)))]) ri_206_1542 rfl rm_206.1 (by decide) rfl ?_
    refine rs_iload ri_206_1544 rfl rfl ?_
    refine rs_iload_n ri_206_1546 rfl rfl ?_
    refine rs_icmp_ge (t := 1581) ri_206_1547 rfl rfl (fun _ => ?_) (fun q => absurd (nI_le (a := np X) (b := 0) (by omega) (by omega)) q)
    refine rs_iload ri_206_1581 rfl rfl ?_
    refine rs_iload_n ri_206_1583 rfl rfl ?_
    refine rs_if_ne (t := 1591) ri_206_1584 rfl rfl (fun q => absurd (congrArg nI n0) q) (fun _ => ?_)
    refine rs_iconst (v := nI 0) ri_206_1587 rfl (by decide) ?_
    refine rs_goto (t := 1593) ri_206_1588 rfl ?_
    refine rs_icmp_ne (t := 1600) ri_206_1593 rfl rfl (fun q => absurd (by decide) q) (fun _ => ?_)
    refine rs_iconst (v := nI 1) ri_206_1596 rfl (by decide) ?_
    refine rs_goto (t := 1601) ri_206_1597 rfl ?_
    refine rs_zret (p := true) ri_206_1601 rm_206.2.1 hcs rfl ?_
    exact rfl
  · obtain ⟨B, b1, b2⟩ := ri_ex hnp (by omega) hz.2.1
    refine rs_iconst (v := nI 0) ri_206_1538 rfl (by decide) ?_
    refine rs_istore (lv2 := [(22, .int (nI 0)), (1, .ref 4), (2, .int (nI (np X)))]) ri_206_1539 rfl rm_206.1 (by decide) rfl ?_
    refine rs_iconst (v := nI 0) ri_206_1541 rfl (by decide) ?_
    refine rs_istore (lv2 := [(23, .int (nI 0)), (22, .int (nI 0)), (1, .ref 4), (2, .int (nI (np X)))]) ri_206_1542 rfl rm_206.1 (by decide) rfl ?_
    have h := lq_rich hcs (Or.inr b1) (np X) 0 M (by omega) hz b2
    rw [ri_0] at h
    exact h
/-- of k offers at random: the fraction -/
def sA (od : Nat → Nat → Int32 → Int32 → Int32) (p : Nat) (S : pu_T) (k : Nat) : Nat := if k = 0 then 1 else if st_n p S = 0 then 1 else if k = 1 then st_t od p S else out_s p (st_2 od p S) p 0
def sB (p : Nat) (S : pu_T) (k : Nat) : Nat := if k = 0 then 1 else if st_n p S = 0 then 1 else if k = 1 then 12 * st_n p S else 27949074753600 * 12 * st_n p S
theorem sAB {od : Nat → Nat → Int32 → Int32 → Int32} {p : Nat} (hp : p ≤ 6) (S : pu_T) (k : Nat) : 0 < sB p S k ∧ sB p S k < 2 ^ 54 ∧ sA od p S k ≤ sB p S k ∧ (k < 2 → sA od p S (k + 1) * sB p S k ≤ sA od p S k * sB p S (k + 1)) := by
  have nb := st_nb hp S
  have tb := st_tb (od := od) (p := p) S
  have ob : out_s p (st_2 od p S) p 0 ≤ 27949074753600 * st_t od p S := out_s_le (c := 27949074753600) (f := st_2 od p S) (g := fun a b => if pu_mw S a b = true then 12 - pa_o od a b S else 0) (fun a b => by
    unfold st_2
    by_cases mw : pu_mw S a b = true
    · simp only [if_pos mw]
      rw [Nat.mul_comm]
      exact Nat.mul_le_mul_right _ (st_eb hp)
    · simp only [if_neg mw]; exact Nat.zero_le _) p 0
  have key : ∀ m, 0 < sB p S m ∧ sB p S m < 2 ^ 54 ∧ sA od p S m ≤ sB p S m := by
    intro m
    unfold sA sB
    by_cases m0 : m = 0
    · rw [if_pos m0, if_pos m0]; decide
    · rw [if_neg m0, if_neg m0]
      by_cases n0 : st_n p S = 0
      · rw [if_pos n0, if_pos n0]; decide
      · rw [if_neg n0, if_neg n0]
        by_cases m1 : m = 1
        · rw [if_pos m1, if_pos m1]; omega
        · rw [if_neg m1, if_neg m1]; omega
  refine ⟨(key k).1, (key k).2.1, (key k).2.2, fun hk => ?_⟩
  rcases (show k = 0 ∨ k = 1 by omega) with e | e
  · subst e
    have h1 := (key 1).2.2
    have a0 : sA od p S 0 = 1 := rfl
    have b0 : sB p S 0 = 1 := rfl
    rw [a0, b0, Nat.mul_one, Nat.one_mul]
    exact h1
  · subst e
    by_cases n0 : st_n p S = 0
    · have hA : ∀ m, sA od p S m = 1 := fun m => by unfold sA; rw [if_pos n0]; split <;> rfl
      have hB : ∀ m, sB p S m = 1 := fun m => by unfold sB; rw [if_pos n0]; split <;> rfl
      rw [hA, hA, hB, hB]; decide
    · have hA1 : sA od p S 1 = st_t od p S := by unfold sA; rw [if_neg (by decide), if_neg n0, if_pos rfl]
      have hA2 : sA od p S 2 = out_s p (st_2 od p S) p 0 := by unfold sA; rw [if_neg (by decide), if_neg n0, if_neg (by decide)]
      have hB1 : sB p S 1 = 12 * st_n p S := by unfold sB; rw [if_neg (by decide), if_neg n0, if_pos rfl]
      have hB2 : sB p S 2 = 27949074753600 * 12 * st_n p S := by unfold sB; rw [if_neg (by decide), if_neg n0, if_neg (by decide)]
      rw [hA1, hA2, hB1, hB2]
      have := Nat.mul_le_mul_right (12 * st_n p S) ob
      have e : 27949074753600 * st_t od p S * (12 * st_n p S) = st_t od p S * (27949074753600 * 12 * st_n p S) := by
        rw [Nat.mul_comm 27949074753600, Nat.mul_assoc, Nat.mul_assoc 27949074753600]
      rw [← e]
      exact this
theorem ca_st {M : ro_Mm} {od : Nat → Nat → Int32 → Int32 → Int32} {S : pu_T} (hz : zt X L M) (ho : odv M L = od) (hS : pu_now M = S) {k v : Nat} (hk : k ≤ 2) (hv : v ≤ 1) : ro_cwp X 7 105 [.ref 4, .int (nI k), .int (nI v)] M (fun q M2 => q = some (.long (lo_f (sA od (np X) S k) (sB (np X) S k) v)) ∧ kq M M2) := by
  subst ho hS
  refine ca_stays (a := sA (odv M L) (np X) (pu_now M) k) (b := sB (np X) (pu_now M) k) hz.1 np_b hz.2.1 hk (fun e => ⟨if_pos e, if_pos e⟩) (fun e n0 => ?_) (fun e n0 => ?_) (fun e n0 => ?_) hv <;> unfold sA sB
  · rw [if_neg e, if_neg e, if_pos n0, if_pos n0]; exact ⟨rfl, rfl⟩
  · have k0 : ¬ k = 0 := by omega
    rw [if_neg k0, if_neg k0, if_neg n0, if_neg n0, if_pos e, if_pos e]; exact ⟨rfl, rfl⟩
  · have k0 : ¬ k = 0 := by omega
    have k1 : ¬ k = 1 := by omega
    rw [if_neg k0, if_neg k0, if_neg n0, if_neg n0, if_neg k1, if_neg k1]; exact ⟨rfl, rfl⟩
theorem fp_W2 : fp_U = 562949953421312 * fp_W := by
  rw [fp_UW]
theorem lq_stays {od : Nat → Nat → Int32 → Int32 → Int32} {S : pu_T} (hcs : cs.1 ≤ (ro_lim 206).1 ∧ cs.2 ≤ (ro_lim 206).2) : ∀ e k M x, k + e = 3 → zt X L M → odv M L = od → pu_now M = S → fp_P x → fp_Z x ≤ fp_U + 4 * fp_W → (k < 3 → ∃ a b, 0 < b ∧ a * fp_U ≤ fp_Z x * b + 4 * fp_W * b ∧ sA od (np X) S k * b ≤ a * sB (np X) S k) → ro_w X 2000 206 lw_PP 1482 [(22, .int (nI k)), (20, .double x), (1, .ref 4), (2, .int (nI (np X)))] [] M cs := by
  have hnp := np_b (X := X)
  have W0 := fp_W0
  have UW := fp_W2
  intro e
  induction e with
  | zero =>
    intro k M x hke hz ho hS hx hx2 hk
    refine rs_iload ri_206_1482 rfl rfl ?_
    refine rs_iconst (v := nI 3) ri_206_1484 rfl (by decide) ?_
    refine rs_icmp_ge (t := 1538) ri_206_1485 rfl rfl (fun _ => ?_) (fun q => absurd (nI_le (a := 3) (b := k) (by omega) (by omega)) q)
    refine ro_w_lv (lv := [(1, .ref 4), (2, .int (nI (np X)))]) (ro_sub_c rfl (ro_sub_c rfl (ro_sub_n rfl))) ?_
    exact lq_1538 hcs hz
  | succ e ih =>
    intro k M x hke hz ho hS hx hx2 hk
    obtain ⟨a, b, hb, hab, hcr⟩ := hk (by omega)
    obtain ⟨s1, s2, s3, s4⟩ := sAB (od := od) hnp S k
    obtain ⟨i1, i2, i3, i4⟩ := fq_y s1 s2 s3
    obtain ⟨is, his⟩ : ∃ is, is = fq (sA od (np X) S k) (sB (np X) S k) := ⟨_, rfl⟩
    rw [← his] at i1 i2 i3 i4
    have cmp := ar7 (K := 4) s1 hb i2 hab hcr
    obtain ⟨e1, e2, e3⟩ := fp_e12_is
    obtain ⟨d1, d2, d3⟩ := fp_add hx e1 (by omega)
    obtain ⟨r1, hr1, hr1b, hr1c⟩ := fc_le i1 d1 (by omega) .l
    obtain ⟨r2, hr2, hr2b, hr2c⟩ := fc_ge i1 fp_0.1 (by rw [fp_0.2]; exact Nat.zero_le _) .g
    refine rs_iload ri_206_1482 rfl rfl ?_
    refine rs_iconst (v := nI 3) ri_206_1484 rfl (by decide) ?_
    refine rs_icmp_ge (t := 1538) ri_206_1485 rfl rfl (fun q => absurd q (nI_ge (a := k) (b := 3) (by omega) (by omega))) (fun _ => ?_)
    refine rs_aload_n ri_206_1488 rfl rfl ?_
    refine rs_iload ri_206_1489 rfl rfl ?_
    refine rs_iconst (v := nI 0) ri_206_1491 rfl (by decide) ?_
    refine rs_virt (c := 4) (As := [.int (nI k), .int (nI 0)]) (r := []) ri_206_1492 rfl (by decide) rm_105.2.2.2 rm_105.2.2.1 rfl rfl rfl (by decide) (lr_4 hz.1) (Nat.le_of_ble_eq_true rfl) (hcs) (by omega) (ca_st (X := X) hz ho hS (by omega) (by decide)) ?_
    rintro v M1 ⟨f1, q1⟩
    rw [f1]
    show ro_w X _ 206 _ 1495 [(22, .int (nI k)), (20, .double x), (1, .ref 4), (2, .int (nI (np X)))] [.long ((lo_f (sA od (np X) S k) (sB (np X) S k) 0))] M1 cs
    have hz1 := zt_q hz q1
    have ho1 := (kq_od q1).trans ho
    have hS1 := (kq_now q1).trans hS
    refine rs_l2d (r := FP.l2d ((lo_f (sA od (np X) S k) (sB (np X) S k) 0))) ri_206_1495 rfl rfl ?_
    refine rs_aload_n ri_206_1496 rfl rfl ?_
    refine rs_iload ri_206_1497 rfl rfl ?_
    refine rs_iconst (v := nI 1) ri_206_1499 rfl (by decide) ?_
    refine rs_virt (c := 4) (As := [.int (nI k), .int (nI 1)]) (r := [.double (FP.l2d ((lo_f (sA od (np X) S k) (sB (np X) S k) 0)))]) ri_206_1500 rfl (by decide) rm_105.2.2.2 rm_105.2.2.1 rfl rfl rfl (by decide) (lr_4 hz1.1) (Nat.le_of_ble_eq_true rfl) (hcs) (by omega) (ca_st (X := X) hz1 ho1 hS1 (by omega) (by decide)) ?_
    rintro v M2 ⟨f2, q2⟩
    rw [f2]
    show ro_w X _ 206 _ 1503 [(22, .int (nI k)), (20, .double x), (1, .ref 4), (2, .int (nI (np X)))] [.long ((lo_f (sA od (np X) S k) (sB (np X) S k) 1)), .double (FP.l2d ((lo_f (sA od (np X) S k) (sB (np X) S k) 0)))] M2 cs
    have hz2 := zt_q hz1 q2
    have ho2 := (kq_od q2).trans ho1
    have hS2 := (kq_now q2).trans hS1
    refine rs_l2d (r := FP.l2d ((lo_f (sA od (np X) S k) (sB (np X) S k) 1))) ri_206_1503 rfl rfl ?_
    refine rs_ddiv (r := is) ri_206_1504 rfl (show vf_n64 (fq _ _) by rw [← his]; exact fp_P_ok i1) his.symm ?_
    refine rs_dstore (lv2 := [(23, .double is), (22, .int (nI k)), (20, .double x), (1, .ref 4), (2, .int (nI (np X)))]) ri_206_1505 rfl rm_206.1 (by decide) rfl ?_
    refine rs_dload ri_206_1507 rfl rfl ?_
    refine rs_dload ri_206_1509 rfl rfl ?_
    refine rs_ldc2x (v := fp_e12) ri_206_1511 rfl rfl rfl ?_
    refine rs_dadd (r := FP.dadd x fp_e12) ri_206_1514 rfl (fp_P_ok d1) rfl ?_
    refine rs_dcmp (r := r1) ri_206_1515 rfl (hr1) ?_
    refine rs_if_gt (t := 1526) ri_206_1516 rfl rfl (fun q => absurd q (hr1b)) (fun _ => ?_)
    refine rs_dload ri_206_1519 rfl rfl ?_
    refine rs_dconst (v := FP.dconst0) ri_206_1521 rfl rfl ?_
    refine rs_dcmp (r := r2) ri_206_1522 rfl (hr2) ?_
    refine rs_if_ge (t := 1528) ri_206_1523 rfl rfl (fun _ => ?_) (fun q => absurd (hr2c) q)
    refine rs_dload ri_206_1528 rfl rfl ?_
    refine rs_dstore (lv2 := [(20, .double is), (23, .double is), (22, .int (nI k)), (1, .ref 4), (2, .int (nI (np X)))]) ri_206_1530 rfl rm_206.1 (by decide) rfl ?_
    refine rs_iinc (v := nI (k + 1)) (lv2 := [(22, .int (nI (k + 1))), (20, .double is), (23, .double is), (1, .ref 4), (2, .int (nI (np X)))]) ri_206_1532 rfl rfl (nI_1 k) rm_206.1 (by decide) rfl ?_
    refine rs_goto (t := 1482) ri_206_1535 rfl ?_
    refine ro_w_lv (lv := [(22, .int (nI (k + 1))), (20, .double is), (1, .ref 4), (2, .int (nI (np X)))]) (ro_sub_c rfl (ro_sub_c rfl (ro_sub_c rfl (ro_sub_c rfl (ro_sub_n rfl))))) ?_
    exact ih (k + 1) M2 is (by omega) hz2 ho2 hS2 i1 i4 (fun hk2 => ⟨_, _, s1, i3, s4 (by omega)⟩)
theorem lq_1476 (hcs : cs.1 ≤ (ro_lim 206).1 ∧ cs.2 ≤ (ro_lim 206).2) {M : ro_Mm} (hz : zt X L M) : ro_w X 2000 206 lw_PP 1476 [(1, .ref 4), (2, .int (nI (np X)))] [] M cs := by
  refine rs_dconst (v := FP.dconst1) ri_206_1476 rfl rfl ?_
  refine rs_dstore (lv2 := [(20, .double (FP.dconst1)), (1, .ref 4), (2, .int (nI (np X)))]) ri_206_1477 rfl rm_206.1 (by decide) rfl ?_
  refine rs_iconst (v := nI 0) ri_206_1479 rfl (by decide) ?_
  refine rs_istore (lv2 := [(22, .int (nI 0)), (20, .double (FP.dconst1)), (1, .ref 4), (2, .int (nI (np X)))]) ri_206_1480 rfl rm_206.1 (by decide) rfl ?_
  refine lq_stays hcs 3 0 M _ (by omega) hz rfl rfl fp_1.1 (by rw [fp_1.2]; exact Nat.le_add_right _ _) (fun _ => ⟨1, 1, by decide, ?_, ?_⟩)
  · rw [fp_1.2]; omega
  · have a0 : sA (odv M L) (np X) (pu_now M) 0 = 1 := rfl
    have b0 : sB (np X) (pu_now M) 0 = 1 := rfl
    rw [a0, b0]; exact Nat.le_refl _
end TAIL
end LAWT
