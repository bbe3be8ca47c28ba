/-! the law's body from its first place; the small machine answers true -/
section LAWZ
variable {X : ro_Sx} {L : List (List Int32 × List Int32)}
section TOP
variable {cs : Nat × Nat} {od : Nat → Nat → Int32 → Int32 → Int32} {hb nt : Int32} {S : pu_T}
theorem nw_l {M M2 : ro_Mm} {c : Nat} (h : nw M M2 c) : M2.1.length = M.1.length + 1 ∧ c = M.1.length + 4 := by
  obtain ⟨h1, ⟨s, h2⟩, _⟩ := h
  rw [h2, List.length_append]
  exact ⟨rfl, h1⟩
theorem lq_97 {cv m e : Nat} {g : Nat → Nat} (hcs : cs.1 + 4 ≤ (ro_lim 206).1 ∧ cs.2 + 37 ≤ (ro_lim 206).2) (hX : X.1 ≤ 260) (hSI : ∀ i, i < np X → S.1 i = nI (on0 X i) ∧ S.2 i = nI (on1 X i)) (hok : pu_ok (np X) S) (hm10 : m ≤ 10) (hem : e ≤ m) (hg : ∀ i, i < m → g i < 128) (ho : ∀ i, i < e → of_ok (np X) (g i)) (hm : ∀ i, i < e → may (g i) (ep od hb g (S, 0, -2, 0) i) = true) (hcv : 163 ≤ cv) {M : ro_Mm} (hz : zb X L od hb nt S M) (hlv : lr_a M cv m g) (hl : cv < M.1.length + 4) : ro_w X 2000 206 lw_PP 97 [(6, .int (nI e)), (3, .ref cv), (0, .ref 0), (1, .ref 4), (2, .int (nI (np X)))] [] M cs := by
  have hnp := np_b (X := X)
  have he : e ≤ 10 := by omega
  have hge : ∀ i, i < e → g i < 128 := fun i hi => hg i (by omega)
  have hle := ev_e (X := X) he ho
  have hel := eb_lt (od := od) (hb := hb) (g := g) (T := (S, 0, -2, 0)) e
  have hea := ep_a (od := od) (hb := hb) (g := g) (T := (S, 0, -2, 0)) (p := np X) hok e ho hm
  have hcs1 : (cs.1 + 1, cs.2 + 10).1 ≤ (ro_lim 206).1 ∧ (cs.1 + 1, cs.2 + 10).2 ≤ (ro_lim 206).2 := ⟨(by show cs.1 + 1 ≤ _; omega), (by show cs.2 + 10 ≤ _; omega)⟩
  refine rs_aload_n ri_206_97 rfl rfl ?_
  refine rs_iload ri_206_98 rfl rfl ?_
  refine rs_statl (As := [.ref cv, .int (nI e)]) (r := []) (mx := ro_lim 206) (c1 := cs.1 + 1) (c2 := cs.2 + 10) ri_206_100 rfl rm_205.2.2.2 rfl rfl (Nat.le_of_ble_eq_true rfl) rfl rfl rfl rfl (by omega) (by omega) (by omega) (lx_205 hcv hm10 hem hlv hl) ?_
  rintro v M1 ⟨cn, g1, g2, hln⟩
  rw [g1]
  show ro_w X _ 206 _ 103 [(6, .int (nI e)), (3, .ref cv), (0, .ref 0), (1, .ref 4), (2, .int (nI (np X)))] [.ref cn] M1 (cs.1 + 1, cs.2 + 10)
  obtain ⟨u1, u2⟩ := nw_l g2
  have hcn : @LE.le Nat _ 163 cn := by have := kv_len hz.1; omega
  have hz1 := zb_nw hz g2 hcn
  refine rs_astore (lv2 := [(7, .ref cn), (6, .int (nI e)), (3, .ref cv), (0, .ref 0), (1, .ref 4), (2, .int (nI (np X)))]) ri_206_103 rfl rm_206.1 (by decide) rfl ?_
  refine rs_aload_n ri_206_105 rfl rfl ?_
  refine rs_iconst (v := nI 0) ri_206_106 rfl (by decide) ?_
  refine rs_aload ri_206_107 rfl rfl ?_
  refine rs_stat (As := [.ref 4, .int (nI 0), .ref cn]) (r := []) ri_206_109 rfl rm_200.2.2.2 rfl rfl rfl (Nat.le_of_ble_eq_true rfl) (hcs1) (by omega) (lx_200 (X := X) hz1.1 hcn (by omega) (by decide) hge hln) ?_
  rintro v M2 ⟨f2, k2, v2, hsb2⟩
  rw [f2]
  show ro_w X _ 206 _ 112 [(7, .ref cn), (6, .int (nI e)), (3, .ref cv), (0, .ref 0), (1, .ref 4), (2, .int (nI (np X)))] [.int (ro_b true)] M2 (cs.1 + 1, cs.2 + 10)
  have hz2 := zb_r hz1 k2 v2 (by decide)
  have hln2 := lr_w hln v2 hcn
  have u3 : M2.1.length = M1.1.length := by rw [v2.1]
  refine rs_ifne_b (t := 117) ri_206_112 rfl rfl (fun _ => ?_) (fun q => absurd (q.symm.trans (rfl)) (by decide))
  refine rs_aload_n ri_206_117 rfl rfl ?_
  refine rs_iconst (v := nI 0) ri_206_118 rfl (by decide) ?_
  refine rs_bipush (v := nI 20) ri_206_119 rfl (by decide) ?_
  refine rs_iconst (v := nI 0) ri_206_121 rfl (by decide) ?_
  refine rs_virt (c := 4) (As := [.int (nI 0), .int (nI 20), .int (nI 0)]) (r := []) ri_206_122 rfl (by decide) rm_79.2.2.2 rm_79.2.2.1 rfl rfl rfl (by decide) (lr_4 hz2.1) (Nat.le_of_ble_eq_true rfl) (hcs1) (by omega) (ze_0 hz2 he he hge hle hsb2) ?_
  rintro v M3 ⟨f3, q3⟩
  rw [f3, ep_n (od := od) (hb := hb) (g := g) (T := (S, 0, -2, 0)) rfl e hm]
  show ro_w X _ 206 _ 125 [(7, .ref cn), (6, .int (nI e)), (3, .ref cv), (0, .ref 0), (1, .ref 4), (2, .int (nI (np X)))] [.int (nI (en od hb g (S, 0, -2, 0) e))] M3 (cs.1 + 1, cs.2 + 10)
  have hz3 := zb_q hz2 q3
  have hsb3 := sh_q (by decide) (kq_w q3) (fun _ => rfl) (fun _ => rfl) hsb2
  have hln3 := lr_q hln2 q3 hcn
  have u4 : M3.1.length = M2.1.length := by rw [q3.1]
  refine rs_istore (lv2 := [(8, .int (nI (en od hb g (S, 0, -2, 0) e))), (7, .ref cn), (6, .int (nI e)), (3, .ref cv), (0, .ref 0), (1, .ref 4), (2, .int (nI (np X)))]) ri_206_125 rfl rm_206.1 (by decide) rfl ?_
  refine rs_aload_n ri_206_127 rfl rfl ?_
  refine rs_iconst (v := nI 0) ri_206_128 rfl (by decide) ?_
  refine rs_bipush (v := nI 20) ri_206_129 rfl (by decide) ?_
  refine rs_iconst (v := nI 2) ri_206_131 rfl (by decide) ?_
  refine rs_virt (c := 4) (As := [.int (nI 0), .int (nI 20), .int (nI 2)]) (r := []) ri_206_132 rfl (by decide) rm_79.2.2.2 rm_79.2.2.1 rfl rfl rfl (by decide) (lr_4 hz3.1) (Nat.le_of_ble_eq_true rfl) (hcs1) (by omega) (ze_2 hz3 he he hge hle hsb3) ?_
  rintro v M4 ⟨f4, q4⟩
  rw [f4]
  show ro_w X _ 206 _ 135 [(8, .int (nI (en od hb g (S, 0, -2, 0) e))), (7, .ref cn), (6, .int (nI e)), (3, .ref cv), (0, .ref 0), (1, .ref 4), (2, .int (nI (np X)))] [.int ((ep od hb g (S, 0, -2, 0) e).2.2.2)] M4 (cs.1 + 1, cs.2 + 10)
  have hz4 := zb_q hz3 q4
  have hsb4 := sh_q (by decide) (kq_w q4) (fun _ => rfl) (fun _ => rfl) hsb3
  have hln4 := lr_q hln3 q4 hcn
  have u5 : M4.1.length = M3.1.length := by rw [q4.1]
  refine rs_istore (lv2 := [(9, .int ((ep od hb g (S, 0, -2, 0) e).2.2.2)), (8, .int (nI (en od hb g (S, 0, -2, 0) e))), (7, .ref cn), (6, .int (nI e)), (3, .ref cv), (0, .ref 0), (1, .ref 4), (2, .int (nI (np X)))]) ri_206_135 rfl rm_206.1 (by decide) rfl ?_
  refine rs_iconst (v := nI 2) ri_206_137 rfl (by decide) ?_
  refine rs_iload_n ri_206_138 rfl rfl ?_
  refine rs_imul (r := nI (2 * (np X))) ri_206_139 rfl (nI_mul 2 (np X)) ?_
  obtain ⟨ct, hct⟩ : ∃ c0, c0 = M4.1.length + 4 := ⟨_, rfl⟩
  refine rs_newa (c := ct) (k := 16) (n := 2 * (np X)) (c1 := cs.1 + 1 + 1) (c2 := cs.2 + 10 + (2 * (np X))) ri_206_140 rfl rfl (nI_pos (by omega)) (nI_clamp (by omega)) (by omega) rfl (by decide) hct.symm rfl rfl (by omega) (by omega) ?_
  refine rs_astore (lv2 := [(10, .ref ct), (9, .int ((ep od hb g (S, 0, -2, 0) e).2.2.2)), (8, .int (nI (en od hb g (S, 0, -2, 0) e))), (7, .ref cn), (6, .int (nI e)), (3, .ref cv), (0, .ref 0), (1, .ref 4), (2, .int (nI (np X)))]) ri_206_142 rfl rm_206.1 (by decide) rfl ?_
  refine rs_iconst (v := nI 0) ri_206_144 rfl (by decide) ?_
  refine rs_istore (lv2 := [(11, .int (nI 0)), (10, .ref ct), (9, .int ((ep od hb g (S, 0, -2, 0) e).2.2.2)), (8, .int (nI (en od hb g (S, 0, -2, 0) e))), (7, .ref cn), (6, .int (nI e)), (3, .ref cv), (0, .ref 0), (1, .ref 4), (2, .int (nI (np X)))]) ri_206_145 rfl rm_206.1 (by decide) rfl ?_
  refine rs_iconst (v := nI 0) ri_206_147 rfl (by decide) ?_
  refine rs_istore (lv2 := [(12, .int (nI 0)), (11, .int (nI 0)), (10, .ref ct), (9, .int ((ep od hb g (S, 0, -2, 0) e).2.2.2)), (8, .int (nI (en od hb g (S, 0, -2, 0) e))), (7, .ref cn), (6, .int (nI e)), (3, .ref cv), (0, .ref 0), (1, .ref 4), (2, .int (nI (np X)))]) ri_206_148 rfl rm_206.1 (by decide) rfl ?_
  refine rs_iconst (v := nI 0) ri_206_150 rfl (by decide) ?_
  refine rs_istore (lv2 := [(13, .int (nI 0)), (12, .int (nI 0)), (11, .int (nI 0)), (10, .ref ct), (9, .int ((ep od hb g (S, 0, -2, 0) e).2.2.2)), (8, .int (nI (en od hb g (S, 0, -2, 0) e))), (7, .ref cn), (6, .int (nI e)), (3, .ref cv), (0, .ref 0), (1, .ref 4), (2, .int (nI (np X)))]) ri_206_151 rfl rm_206.1 (by decide) rfl ?_
  have hnw : nw M4 (ro_new M4 (16, 2 * (np X))) ct := by rw [hct]; exact nw_new
  have hc6 : 163 ≤ ct := by have := kv_len hz4.1; omega
  obtain ⟨h, hh⟩ : ∃ h : Nat → Nat, h = fun i => (if i % 2 = 0 then (ep od hb g (S, 0, -2, 0) e).1.1 (i / 2) else (ep od hb g (S, 0, -2, 0) e).1.2 (i / 2)).toNatClampNeg := ⟨_, rfl⟩
  have hh2 : ∀ y, y < np X → (ep od hb g (S, 0, -2, 0) e).1.1 y = nI (h (2 * y)) ∧ (ep od hb g (S, 0, -2, 0) e).1.2 y = nI (h (2 * y + 1)) ∧ h (2 * y) ≤ 20 ∧ h (2 * y + 1) ≤ 20 := fun y hy => by
    obtain ⟨b1, b2, b3, b4⟩ := hea.1 y hy
    obtain ⟨n, n1, n2⟩ := ro_20 ⟨b1, b2⟩
    obtain ⟨m, m1, m2⟩ := ro_20 ⟨b3, b4⟩
    have e1 : h (2 * y) = n := by
      rw [hh]
      show (if 2 * y % 2 = 0 then (ep od hb g (S, 0, -2, 0) e).1.1 (2 * y / 2) else (ep od hb g (S, 0, -2, 0) e).1.2 (2 * y / 2)).toNatClampNeg = n
      rw [if_pos (by omega), show 2 * y / 2 = y by omega, n2]
      exact nI_clamp (by omega)
    have e2 : h (2 * y + 1) = m := by
      rw [hh]
      show (if (2 * y + 1) % 2 = 0 then (ep od hb g (S, 0, -2, 0) e).1.1 ((2 * y + 1) / 2) else (ep od hb g (S, 0, -2, 0) e).1.2 ((2 * y + 1) / 2)).toNatClampNeg = m
      rw [if_neg (by omega), show (2 * y + 1) / 2 = y by omega, m2]
      exact nI_clamp (by omega)
    rw [e1, e2]
    exact ⟨n2, m2, n1, m1⟩
  have hb7 : ∀ i, i < 2 * np X → h i < 128 := fun i hi => by
    obtain ⟨_, _, c1, c2⟩ := hh2 (i / 2) (by omega)
    rcases Nat.mod_two_eq_zero_or_one i with q | q
    · rw [show 2 * (i / 2) = i by omega] at c1; omega
    · rw [show 2 * (i / 2) + 1 = i by omega] at c2; omega
  refine ro_w_lv (lv := [(13, .int (nI 0)), (12, .int (nI (bf X 0))), (11, .int (nI (sb h 0))), (10, .ref ct), (9, .int ((ep od hb g (S, 0, -2, 0) e).2.2.2)), (8, .int (nI (en od hb g (S, 0, -2, 0) e))), (7, .ref cn), (6, .int (nI e)), (0, .ref 0), (1, .ref 4), (2, .int (nI (np X)))]) (ro_sub_c rfl (ro_sub_c rfl (ro_sub_c rfl (ro_sub_c rfl (ro_sub_c rfl (ro_sub_c rfl (ro_sub_c rfl (ro_sub_c rfl (ro_sub_c rfl (ro_sub_c rfl (ro_sub_c rfl (ro_sub_n rfl)))))))))))) ?_
  exact lq_153 (cs := (cs.1 + 1 + 1, cs.2 + 10 + 2 * np X)) ⟨(by show cs.1 + 1 + 1 + 2 ≤ _; omega), (by show cs.2 + 10 + 2 * np X + 15 ≤ _; omega)⟩ hX hSI hok he hge ho hm hcn hc6 hb7 (fun y hy => ⟨(hh2 y hy).1, (hh2 y hy).2.1⟩) (np X) 0 _ (fun _ => 0) (by omega) (zb_nw hz4 hnw hc6) (sh_nw (by decide) hnw hc6 hsb4) (by rw [hct]; exact lr_new) (lr_nw hln4 hnw (by omega) (by omega)) (fun i hi => absurd hi (by omega)) (by omega)
theorem lq_18 (hcs : cs.1 + 5 ≤ (ro_lim 206).1 ∧ cs.2 + 47 ≤ (ro_lim 206).2) (hX : X.1 ≤ 260) {M : ro_Mm} (hk : kv L M) (hbz : bz X M) : ro_w X 2000 206 lw_PP 18 [(0, .ref 0), (1, .ref 4)] [] M cs := by
  have hnp := np_b (X := X)
  have hcs0 : cs.1 ≤ (ro_lim 206).1 ∧ cs.2 ≤ (ro_lim 206).2 := ⟨by omega, by omega⟩
  have hcs1 : (cs.1 + 1, cs.2 + 10).1 ≤ (ro_lim 206).1 ∧ (cs.1 + 1, cs.2 + 10).2 ≤ (ro_lim 206).2 := ⟨(by show cs.1 + 1 ≤ _; omega), (by show cs.2 + 10 ≤ _; omega)⟩
  obtain ⟨z1, z2, z3, _⟩ := hbz
  have hz : zb X L (odv M L) (M.2.1 5 7) (M.2.1 5 5) (pu_now M) M := ⟨hk, z1, rfl, rfl, rfl, rfl, fun i hi => (z2 i hi).2.2.2, z3 0 (by decide), z3 1 (by decide)⟩
  generalize odv M L = od at hz
  generalize M.2.1 5 7 = hb at hz
  generalize M.2.1 5 5 = nt at hz
  obtain ⟨S, hS⟩ : ∃ S, S = pu_now M := ⟨_, rfl⟩
  rw [← hS] at hz
  have hSI : ∀ i, i < np X → S.1 i = nI (on0 X i) ∧ S.2 i = nI (on1 X i) := fun i hi => by
    rw [hS]
    exact ⟨(z2 i hi).1, (z2 i hi).2.1⟩
  have hok : pu_ok (np X) S := fun i hi => by
    obtain ⟨e1, e2⟩ := hSI i hi
    rw [e1, e2]
    have a := nI_rng (v := on0 X i) (m := 20) on0_b (by decide)
    have b := nI_rng (v := on1 X i) (m := 20) on1_b (by decide)
    exact ⟨a.1, a.2, b.1, b.2⟩
  have hm10 : sc X 8 % 11 ≤ 10 := by omega
  refine rs_aload_n ri_206_18 rfl rfl ?_
  refine rs_stat (As := [.ref 0]) (r := []) ri_206_19 rfl rm_194.2.2.2 rfl rfl rfl (Nat.le_of_ble_eq_true rfl) (hcs0) (by omega) (lx_194 hX) ?_
  rintro v M9 ⟨g1, g2⟩
  rw [g1, g2]
  show ro_w X _ 206 _ 22 [(0, .ref 0), (1, .ref 4)] [.int (nI (np X))] M cs
  refine rs_istore_n (lv2 := [(2, .int (nI (np X))), (0, .ref 0), (1, .ref 4)]) ri_206_22 rfl rm_206.1 (by decide) rfl ?_
  refine rs_aload_n ri_206_23 rfl rfl ?_
  refine rs_bipush (v := nI 8) ri_206_24 rfl (by decide) ?_
  refine rs_bipush (v := nI 10) ri_206_26 rfl (by decide) ?_
  refine rs_statl (As := [.ref 0, .int (nI 8), .int (nI 10)]) (r := []) (mx := ro_lim 206) (c1 := cs.1 + 1) (c2 := cs.2 + 10) ri_206_28 rfl rm_201.2.2.2 rfl rfl (Nat.le_of_ble_eq_true rfl) rfl rfl rfl rfl (by omega) (by omega) (by omega) (lx_201 hX (kv_len hk)) ?_
  rintro v M1 ⟨cv, g, g1, g2, hlv, hg⟩
  rw [g1]
  show ro_w X _ 206 _ 31 [(2, .int (nI (np X))), (0, .ref 0), (1, .ref 4)] [.ref cv] M1 (cs.1 + 1, cs.2 + 10)
  generalize sc X 8 % 11 = m at hm10 hlv hg
  obtain ⟨u1, u2⟩ := nw_l g2
  have hcv : @LE.le Nat _ 163 cv := by have := kv_len hk; omega
  have hz1 := zb_nw hz g2 hcv
  refine rs_astore_n (lv2 := [(3, .ref cv), (2, .int (nI (np X))), (0, .ref 0), (1, .ref 4)]) ri_206_31 rfl rm_206.1 (by decide) rfl ?_
  refine rs_aload_n ri_206_32 rfl rfl ?_
  refine rs_aload_n ri_206_33 rfl rfl ?_
  refine rs_stat (As := [.ref 0, .ref cv]) (r := []) ri_206_34 rfl rm_202.2.2.2 rfl rfl rfl (Nat.le_of_ble_eq_true rfl) (hcs1) (by omega) (lx_202 hX hcv hm10 hlv hg) ?_
  rintro v M9 ⟨⟨len, q1, hle⟩, q2⟩
  rw [q1, q2]
  show ro_w X _ 206 _ 37 [(3, .ref cv), (2, .int (nI (np X))), (0, .ref 0), (1, .ref 4)] [.int (nI len)] M1 (cs.1 + 1, cs.2 + 10)
  have hlen : len ≤ 10 := by have := hle.2.1; omega
  refine rs_istore (lv2 := [(4, .int (nI len)), (3, .ref cv), (2, .int (nI (np X))), (0, .ref 0), (1, .ref 4)]) ri_206_37 rfl rm_206.1 (by decide) rfl ?_
  refine rs_aload_n ri_206_39 rfl rfl ?_
  refine rs_iconst (v := nI 0) ri_206_40 rfl (by decide) ?_
  refine rs_iconst (v := nI 0) ri_206_41 rfl (by decide) ?_
  refine rs_iconst (v := nI 0) ri_206_42 rfl (by decide) ?_
  refine rs_virt (c := 4) (As := [.int (nI 0), .int (nI 0), .int (nI 0)]) (r := []) ri_206_43 rfl (by decide) rm_177.2.2.2 rm_177.2.2.1 rfl rfl rfl (by decide) (lr_4 hz1.1) (Nat.le_of_ble_eq_true rfl) (hcs1) (by omega) (ca_row (X := X) hz1.1 (s := 0) (z := 0) (by decide) (by decide)) ?_
  rintro v M2 ⟨f2, k2, v2, _⟩
  rw [f2]
  show ro_w X _ 206 _ 46 [(4, .int (nI len)), (3, .ref cv), (2, .int (nI (np X))), (0, .ref 0), (1, .ref 4)] [.int (nI 1)] M2 (cs.1 + 1, cs.2 + 10)
  have hz2 := zb_r hz1 k2 v2 (by decide)
  have hlv2 := lr_w hlv v2 hcv
  have u3 : M2.1.length = M1.1.length := by rw [v2.1]
  refine rs_iconst (v := nI 1) ri_206_46 rfl (by decide) ?_
  refine rs_icmp_ne (t := 70) ri_206_47 rfl rfl (fun q => absurd (by decide) q) (fun _ => ?_)
  refine rs_aload_n ri_206_50 rfl rfl ?_
  refine rs_iconst (v := nI 0) ri_206_51 rfl (by decide) ?_
  refine rs_aload_n ri_206_52 rfl rfl ?_
  refine rs_stat (As := [.ref 4, .int (nI 0), .ref cv]) (r := []) ri_206_53 rfl rm_200.2.2.2 rfl rfl rfl (Nat.le_of_ble_eq_true rfl) (hcs1) (by omega) (lx_200 (X := X) hz2.1 hcv (by omega) (by decide) hg hlv2) ?_
  rintro v M3 ⟨f3, k3, v3, hsb3⟩
  rw [f3]
  show ro_w X _ 206 _ 56 [(4, .int (nI len)), (3, .ref cv), (2, .int (nI (np X))), (0, .ref 0), (1, .ref 4)] [.int (ro_b true)] M3 (cs.1 + 1, cs.2 + 10)
  have hz3 := zb_r hz2 k3 v3 (by decide)
  have hlv3 := lr_w hlv2 v3 hcv
  have u4 : M3.1.length = M2.1.length := by rw [v3.1]
  refine rs_ifeq_b (t := 70) ri_206_56 rfl rfl (fun q => absurd (q.symm.trans (rfl)) (by decide)) (fun _ => ?_)
  refine rs_aload_n ri_206_59 rfl rfl ?_
  refine rs_iconst (v := nI 0) ri_206_60 rfl (by decide) ?_
  refine rs_bipush (v := nI 20) ri_206_61 rfl (by decide) ?_
  refine rs_iconst (v := nI 1) ri_206_63 rfl (by decide) ?_
  refine rs_virt (c := 4) (As := [.int (nI 0), .int (nI 20), .int (nI 1)]) (r := []) ri_206_64 rfl (by decide) rm_79.2.2.2 rm_79.2.2.1 rfl rfl rfl (by decide) (lr_4 hz3.1) (Nat.le_of_ble_eq_true rfl) (hcs1) (by omega) (ze_1 hz3 hm10 hlen hg hle hsb3) ?_
  rintro v M4 ⟨f4, q4⟩
  rw [f4]
  show ro_w X _ 206 _ 67 [(4, .int (nI len)), (3, .ref cv), (2, .int (nI (np X))), (0, .ref 0), (1, .ref 4)] [.int ((ep od hb g (S, 0, -2, 0) len).2.2.1)] M4 (cs.1 + 1, cs.2 + 10)
  have hz4 := zb_q hz3 q4
  have hlv4 := lr_q hlv3 q4 hcv
  have u5 : M4.1.length = M3.1.length := by rw [q4.1]
  refine rs_goto (t := 72) ri_206_67 rfl ?_
  rcases ep_till (od := od) (hb := hb) (g := g) (T := (S, 0, -2, 0)) rfl len (by omega) with ⟨t1, t2⟩ | ⟨j, t0, t1, t2⟩
  · rw [t1]
    have hlm := hle.2.1
    refine rs_istore (lv2 := [(5, .int ((-2 : Int32))), (4, .int (nI len)), (3, .ref cv), (2, .int (nI (np X))), (0, .ref 0), (1, .ref 4)]) ri_206_72 rfl rm_206.1 (by decide) rfl ?_
    refine rs_iload ri_206_74 rfl rfl ?_
    refine rs_bipush (v := ((-9 : Int32))) ri_206_76 rfl (by decide) ?_
    refine rs_icmp_ne (t := 83) ri_206_78 rfl rfl (fun _ => ?_) (fun q => absurd q (by decide))
    refine rs_iload ri_206_83 rfl rfl ?_
    refine rs_if_ge (t := 93) ri_206_85 rfl rfl (fun q => absurd q (by decide)) (fun _ => ?_)
    refine rs_iload ri_206_88 rfl rfl ?_
    refine rs_goto (t := 95) ri_206_90 rfl ?_
    refine rs_istore (lv2 := [(6, .int (nI len)), (5, .int ((-2 : Int32))), (4, .int (nI len)), (3, .ref cv), (2, .int (nI (np X))), (0, .ref 0), (1, .ref 4)]) ri_206_95 rfl rm_206.1 (by decide) rfl ?_
    refine ro_w_lv (lv := [(6, .int (nI len)), (3, .ref cv), (0, .ref 0), (1, .ref 4), (2, .int (nI (np X)))]) (ro_sub_c rfl (ro_sub_c rfl (ro_sub_c rfl (ro_sub_c rfl (ro_sub_c rfl (ro_sub_n rfl)))))) ?_
    exact lq_97 (cs := (cs.1 + 1, cs.2 + 10)) ⟨(by show cs.1 + 1 + 4 ≤ _; omega), (by show cs.2 + 10 + 37 ≤ _; omega)⟩ hX hSI hok hm10 (by omega) hg (fun i hi => hle.2.2.1 i (by omega)) t2 hcv hz4 hlv4 (by omega)
  · rw [t1]
    have hlm := hle.2.1
    refine rs_istore (lv2 := [(5, .int (nI j)), (4, .int (nI len)), (3, .ref cv), (2, .int (nI (np X))), (0, .ref 0), (1, .ref 4)]) ri_206_72 rfl rm_206.1 (by decide) rfl ?_
    refine rs_iload ri_206_74 rfl rfl ?_
    refine rs_bipush (v := ((-9 : Int32))) ri_206_76 rfl (by decide) ?_
    refine rs_icmp_ne (t := 83) ri_206_78 rfl rfl (fun _ => ?_) (fun q => absurd q (fun q => absurd (show nI j < 0 by rw [q]; decide) (nI_pos (by omega))))
    refine rs_iload ri_206_83 rfl rfl ?_
    refine rs_if_ge (t := 93) ri_206_85 rfl rfl (fun _ => ?_) (fun q => absurd (nI_le (a := 0) (by omega) (by omega)) q)
    refine rs_iload ri_206_93 rfl rfl ?_
    refine rs_istore (lv2 := [(6, .int (nI j)), (5, .int (nI j)), (4, .int (nI len)), (3, .ref cv), (2, .int (nI (np X))), (0, .ref 0), (1, .ref 4)]) ri_206_95 rfl rm_206.1 (by decide) rfl ?_
    refine ro_w_lv (lv := [(6, .int (nI j)), (3, .ref cv), (0, .ref 0), (1, .ref 4), (2, .int (nI (np X)))]) (ro_sub_c rfl (ro_sub_c rfl (ro_sub_c rfl (ro_sub_c rfl (ro_sub_c rfl (ro_sub_n rfl)))))) ?_
    exact lq_97 (cs := (cs.1 + 1, cs.2 + 10)) ⟨(by show cs.1 + 1 + 4 ≤ _; omega), (by show cs.2 + 10 + 37 ≤ _; omega)⟩ hX hSI hok hm10 (by omega) hg (fun i hi => hle.2.2.1 i (by omega)) t2 hcv hz4 hlv4 (by omega)
theorem lq_0 (hX : X.1 ≤ 260) : ro_w X 2000 206 lw_PP 0 [(0, .ref 0)] [] ro_M0 (0, 0) := by
  refine rs_new (c := 4) (c1 := 1) (c2 := 9) (mx := ro_lim 206) ri_206_0 rfl rfl rfl (by decide +kernel) rfl rfl (by decide) (by decide) ?_
  show ro_w X _ 206 _ 3 [(0, .ref 0)] [.ref 4] ro_k1 (1, 9)
  refine rs_dup ri_206_3 rfl rfl ?_
  refine rs_spec (As := []) (r := [.ref 4]) (c1 := 159) (c2 := 77239) (mx := ro_lim 206) ri_206_4 (by decide) rfl rm_0.2.2.2 rfl rfl (Nat.le_of_ble_eq_true rfl) rfl rfl rfl rfl (by decide) (by decide) (by decide) ro_made1 ?_
  rintro v M1 ⟨g1, g2⟩
  rw [g1, g2]
  show ro_w X _ 206 _ 7 [(0, .ref 0)] [.ref 4] ro_M1 (159, 77239)
  refine rs_astore_n (lv2 := [(1, .ref 4), (0, .ref 0)]) ri_206_7 rfl rm_206.1 (by decide) rfl ?_
  refine rs_aload_n ri_206_8 rfl rfl ?_
  refine rs_aload_n ri_206_9 rfl rfl ?_
  refine rs_statl (As := [.ref 4, .ref 0]) (r := []) (mx := ro_lim 206) (c1 := 160) (c2 := 77258) ri_206_10 rfl rm_196.2.2.2 rfl rfl (Nat.le_of_ble_eq_true rfl) rfl rfl rfl rfl (by decide) (by decide) (by omega) (lx_196 hX kv_1 (bu_1 (X := X)).1 (bu_1 (X := X)).2) ?_
  rintro v M2 ⟨f2, L2, k2, b2⟩
  rw [f2]
  show ro_w X _ 206 _ 13 [(1, .ref 4), (0, .ref 0)] [.int (ro_b true)] M2 (160, 77258)
  refine rs_ifne_b (t := 18) ri_206_13 rfl rfl (fun _ => ?_) (fun q => absurd (q.symm.trans (rfl)) (by decide))
  refine ro_w_lv (lv := [(0, .ref 0), (1, .ref 4)]) (ro_sub_c rfl (ro_sub_c rfl (ro_sub_n rfl))) ?_
  exact lq_18 (cs := (160, 77258)) ⟨by decide, by decide⟩ hX k2 b2
theorem ro_pure : ro_Pure := fun L xs hL => lq_0 (X := (L, xs)) hL
end TOP
end LAWZ
