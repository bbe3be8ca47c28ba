/-! the class's calls, on: fractions (pay, mean, stays, test, honest, enough) -/
section FRAC
variable {X : ro_Sx} {L : List (List Int32 × List Int32)} {M : ro_Mm}
/-- a part of a fraction in lowest terms -/
def lo_f (a b v : Nat) : Int64 := if v = 0 then lN (a / Nat.gcd a b) else lN (b / Nat.gcd a b)
theorem lo_fx {A : ro_Mm} {a b v : Nat} (ha : a < 2 ^ 63) (hb : b < 2 ^ 63) (hb0 : 0 < b) (hv : v ≤ 1) : xf_102 (xm_100 A (lN a) (lN b)) (nI v) = lo_f a b v := by
  rw [(lo_set ha hb hb0).1]
  unfold xf_102 lo_f
  rcases (show v = 0 ∨ v = 1 by omega) with e | e <;> subst e
  · rw [if_pos (by decide), if_pos rfl]; rfl
  · rw [if_neg (by decide), if_neg (by decide)]; rfl
theorem lo_95 {A : ro_Mm} {v : Nat} (hv : v ≤ 1) : xf_95 A (nI v) = true := by
  rcases (show v = 0 ∨ v = 1 by omega) with e | e <;> subst e <;> rfl
theorem ca_pay (hk : kv L M) {p i j N r v : Nat} (hp : p ≤ 6) (e1 : M.2.1 5 4 = nI p) (hi : i < p) (hj : j < p) (hij : i ≠ j) (hN : N ≤ 8) (hr : r ≤ 8) (hv : v ≤ 1) : ro_cwp X 7 94 [.ref 4, .int (nI (10 * i + j)), .int (nI N), .int (nI r), .int (nI v)] M (fun q M2 => q = some (.long (lo_f (pa_P (odv M L) i j N (pu_now M) 0 r) (12 ^ N) v)) ∧ kq M M2) := by
  have hI := (kg_inv hk).1
  have e0 : (kg L M).2.1 5 4 = nI p := (kg_c (by decide)).trans e1
  obtain ⟨a1, a2, a3⟩ := ab_x (i := i) (j := j) (by omega) (by omega)
  have b1 := x56_t hp e0 hi hj hij
  have b2 : xf_13 (kg L M) (nI N) 0 8 = true := ro_w13.mpr (nI_rng (m := 8) hN (by decide))
  have b3 : xf_13 (kg L M) (nI r) 0 8 = true := ro_w13.mpr (nI_rng (m := 8) hr (by decide))
  have b4 : xf_95 (kg L M) (nI v) = true := lo_95 hv
  obtain ⟨c1, c2, c3⟩ := pa_97 (kg_od hk) hp e0 hi hj hij hN (ro_eqv_r hI.1)
  rw [kg_now] at c3
  have er' : (nI r).toNatClampNeg = r := nI_clamp (by omega)
  have n0 : ¬ nI r < 0 := nI_pos (by omega)
  have n9 : ¬ (9 : Int32) ≤ nI r := nI_ge (b := 9) (by omega) (by decide)
  obtain ⟨w1, w2⟩ := pw_99 (M := xm_97 (kg L M) (nI i) (nI j) (nI N)) hN
  have hb := pa_b (i := i) (j := j) (kg_od hk) N (pu_now M) 0 r
  have h12 := pw_8 hN
  have m96 : xm_96 (kg L M) (nI i) (nI j) (nI N) (nI r) = xm_100 (xm_97 (kg L M) (nI i) (nI j) (nI N)) (lN (pa_P (odv M L) i j N (pu_now M) 0 r)) (lN (12 ^ N)) := by
    unfold xm_96; rw [if_neg n0, if_neg n9, er', c3 r (by omega), w1]
  have hm : xm_94 (kg L M) (nI (10 * i + j)) (nI N) (nI r) (nI v) = xm_100 (xm_97 (kg L M) (nI i) (nI j) (nI N)) (lN (pa_P (odv M L) i j N (pu_now M) 0 r)) (lN (12 ^ N)) := by
    unfold xm_94; rw [if_pos b1, if_pos b2, if_pos b3, if_pos b4, a1, a2, m96]
  have f94 : xf_94 (kg L M) (nI (10 * i + j)) (nI N) (nI r) (nI v) = lo_f (pa_P (odv M L) i j N (pu_now M) 0 r) (12 ^ N) v := by
    unfold xf_94; rw [if_pos b1, if_pos b2, if_pos b3, if_pos b4, a1, a2, m96]
    exact lo_fx (by omega) (by omega) (pw_pos N) hv
  have E := lo_eqv c2 (a := pa_P (odv M L) i j N (pu_now M) 0 r) (b := 12 ^ N) (by omega) (by omega) (pw_pos N)
  have h := kc_r (A := some (.long (xf_94 (kg L M) (nI (10 * i + j)) (nI N) (nI r) (nI v)))) hk rfl rfl (xs_94 (X := X) (kg_lay hk.1) (all_11 hI).1) (fun c k _ h2 => by rw [hm]; exact E.2.1 c k h2) (fun c k _ h2 => by rw [hm]; exact E.2.2 c k h2)
  rw [f94] at h
  exact h
theorem ca_mean (hk : kv L M) {p i j N v : Nat} (hp : p ≤ 6) (e1 : M.2.1 5 4 = nI p) (hi : i < p) (hj : j < p) (hij : i ≠ j) (hN : N ≤ 8) (hv : v ≤ 1) : ro_cwp X 7 103 [.ref 4, .int (nI (10 * i + j)), .int (nI N), .int (nI v)] M (fun q M2 => q = some (.long (lo_f (mn_s (fun q => pa_P (odv M L) i j N (pu_now M) 0 q) 8 1) (12 ^ N) v)) ∧ kq M M2) := by
  have hI := (kg_inv hk).1
  have e0 : (kg L M).2.1 5 4 = nI p := (kg_c (by decide)).trans e1
  obtain ⟨a1, a2, a3⟩ := ab_x (i := i) (j := j) (by omega) (by omega)
  have b1 := x56_t hp e0 hi hj hij
  have b2 : xf_13 (kg L M) (nI N) 0 8 = true := ro_w13.mpr (nI_rng (m := 8) hN (by decide))
  have b4 : xf_95 (kg L M) (nI v) = true := lo_95 hv
  obtain ⟨c1, c2, c3⟩ := pa_97 (kg_od hk) hp e0 hi hj hij hN (ro_eqv_r hI.1)
  rw [kg_now] at c3
  obtain ⟨w1, w2⟩ := pw_99 (M := xm_97 (kg L M) (nI i) (nI j) (nI N)) hN
  have h12 := pw_8 hN
  have hb := mn_b (f := fun q => pa_P (odv M L) i j N (pu_now M) 0 q) (b := 429981696) (fun t => Nat.le_trans (pa_b (i := i) (j := j) (kg_od hk) N (pu_now M) 0 t) h12) 8 1 (by decide)
  obtain ⟨s1, s2⟩ := mn_104 (f := fun q => pa_P (odv M L) i j N (pu_now M) 0 q) c3 (v1 := nI i) (v2 := nI j) (v3 := nI N) 8 1 lp_N 0 (by omega) (lp_hug (by omega))
  rw [Nat.zero_add] at s1
  have s1 : (xg_104_13 lp_N (xm_97 (kg L M) (nI i) (nI j) (nI N)) 1 0 (nI i) (nI j) (nI N)).2 = lN (mn_s (fun q => pa_P (odv M L) i j N (pu_now M) 0 q) 8 1) := s1
  generalize hT : mn_s (fun q => pa_P (odv M L) i j N (pu_now M) 0 q) 8 1 = T at *
  have m104 : xm_104 (kg L M) (nI i) (nI j) (nI N) = xm_100 (xm_97 (kg L M) (nI i) (nI j) (nI N)) (lN T) (lN (12 ^ N)) := by
    unfold xm_104; rw [s1, w1]
  have hm : xm_103 (kg L M) (nI (10 * i + j)) (nI N) (nI v) = xm_100 (xm_97 (kg L M) (nI i) (nI j) (nI N)) (lN T) (lN (12 ^ N)) := by
    unfold xm_103; rw [if_pos b1, if_pos b2, if_pos b4, a1, a2, m104]
  have f103 : xf_103 (kg L M) (nI (10 * i + j)) (nI N) (nI v) = lo_f T (12 ^ N) v := by
    unfold xf_103; rw [if_pos b1, if_pos b2, if_pos b4, a1, a2, m104]
    exact lo_fx (by omega) (by omega) (pw_pos N) hv
  have E := lo_eqv c2 (a := T) (b := 12 ^ N) (by omega) (by omega) (pw_pos N)
  have h := kc_r (A := some (.long (xf_103 (kg L M) (nI (10 * i + j)) (nI N) (nI v)))) hk rfl rfl (xs_103 (X := X) (kg_lay hk.1) (all_12 hI).1) (fun c k _ h2 => by rw [hm]; exact E.2.1 c k h2) (fun c k _ h2 => by rw [hm]; exact E.2.2 c k h2)
  rw [f103] at h
  exact h
/-- the weights of how many are refused -/
theorem sm_lin {f g : Nat → Nat} (a b : Nat) : ∀ n, sm_n (fun q => a * f q + b * g q) n = a * sm_n f n + b * sm_n g n
  | 0 => by simp [sm_n]
  | n + 1 => by
    rw [sm_n, sm_n, sm_n, sm_lin a b n, Nat.mul_add, Nat.mul_add]
    omega
theorem pa_sum {od : Nat → Nat → Int32 → Int32 → Int32} (hod : od_is M od) {i j : Nat} : ∀ (l : Nat) (S : pu_T) (r : Nat), r + l ≤ 8 → sm_n (fun q => pa_P od i j l S r q) 9 = 12 ^ l := by
  intro l
  induction l with
  | zero =>
    intro S r hr
    have h1 := sm_upd (f := fun _ => 0) (g := fun q => pa_P od i j 0 S r q) (a := r) (n := 9) (by omega) (fun t _ ht => by show (if t = r then 1 else 0) = 0; rw [if_neg ht])
    have z : ∀ m, sm_n (fun _ => 0) m = 0 := fun m => by
      induction m with
      | zero => rfl
      | succ m ih => rw [sm_n, ih]
    have e : pa_P od i j 0 S r r = 1 := by rw [pa_P, if_pos rfl]
    rw [z 9, e] at h1
    rw [Nat.pow_zero]
    omega
  | succ l ih =>
    intro S r hr
    by_cases e : pu_mw S i j = true
    · have h1 : sm_n (fun q => pa_P od i j (l + 1) S r q) 9 = sm_n (fun q => pa_o od i j S * pa_P od i j l (pu_rf S i) (r + 1) q + (12 - pa_o od i j S) * pa_P od i j l (pu_gw S i j) r q) 9 := sm_ext (fun t _ => by rw [pa_P, if_pos e])
      rw [h1, sm_lin, ih _ _ (by omega), ih _ _ (by omega), ← Nat.add_mul, Nat.pow_succ, Nat.mul_comm (12 ^ l)]
      have := (pa_ob (i := i) (j := j) hod S).1
      congr 1
      omega
    · have h1 : sm_n (fun q => pa_P od i j (l + 1) S r q) 9 = sm_n (fun q => 12 * pa_P od i j l S r q + 0 * pa_P od i j l S r q) 9 := sm_ext (fun t _ => by rw [pa_P, if_neg e, Nat.zero_mul, Nat.add_zero])
      rw [h1, sm_lin, ih _ _ (by omega), Nat.zero_mul, Nat.add_zero, Nat.pow_succ, Nat.mul_comm]
theorem pa_z1 {od : Nat → Nat → Int32 → Int32 → Int32} {i j : Nat} : ∀ (l : Nat) (S : pu_T) (r q : Nat), r + l < q → pa_P od i j l S r q = 0 := by
  intro l
  induction l with
  | zero => intro S r q h; rw [pa_P, if_neg (by omega)]
  | succ l ih =>
    intro S r q h
    rw [pa_P, ih _ _ _ (by omega), ih _ _ _ (by omega), ih _ _ _ (by omega)]
    by_cases e : pu_mw S i j = true
    · rw [if_pos e]; omega
    · rw [if_neg e]
theorem pa_z2 {od : Nat → Nat → Int32 → Int32 → Int32} {i j : Nat} (hij : i ≠ j) : ∀ (l : Nat) (S : pu_T) (r q w : Nat), w ≤ 20 → S.1 i = nI w → r + w < q → pa_P od i j l S r q = 0 := by
  intro l
  induction l with
  | zero => intro S r q w hw hS h; rw [pa_P, if_neg (by omega)]
  | succ l ih =>
    intro S r q w hw hS h
    rw [pa_P]
    by_cases e : pu_mw S i j = true
    · rw [if_pos e]
      have w0 : 0 < w := by
        unfold pu_mw at e
        simp only [Bool.and_eq_true, decide_eq_true_eq] at e
        have := e.1
        rw [hS] at this
        have h2 := Int32.lt_iff_toInt_lt.mp this
        rw [nI_toInt (by omega)] at h2
        have z : (0 : Int32).toInt = 0 := by decide
        omega
      have e1 : (pu_rf S i).1 i = nI (w - 1) := by
        show pu_set S.1 i (S.1 i - 1) i = _
        unfold pu_set
        rw [if_pos rfl, hS]
        exact nI_sub (b := 1) w0
      have e2 : (pu_gw S i j).1 i = nI (w - 1) := by
        show pu_set (pu_set S.1 i (S.1 i - 1)) j (S.1 j + 1) i = _
        unfold pu_set
        rw [if_neg hij, if_pos rfl, hS]
        exact nI_sub (b := 1) w0
      rw [ih _ _ _ (w - 1) (by omega) e1 (by omega), ih _ _ _ (w - 1) (by omega) e2 (by omega)]
      omega
    · rw [if_neg e, ih _ _ _ w hw hS h]
/-- stays -/
theorem ca_stays (hk : kv L M) {p n : Nat} (hp : p ≤ 6) (e1 : M.2.1 5 4 = nI p) (hn : n ≤ 2) {a b : Nat} (h0 : n = 0 → a = 1 ∧ b = 1) (h1 : ¬ n = 0 → st_n p (pu_now M) = 0 → a = 1 ∧ b = 1) (h2 : n = 1 → ¬ st_n p (pu_now M) = 0 → a = st_t (odv M L) p (pu_now M) ∧ b = 12 * st_n p (pu_now M)) (h3 : n = 2 → ¬ st_n p (pu_now M) = 0 → a = out_s p (st_2 (odv M L) p (pu_now M)) p 0 ∧ b = 27949074753600 * 12 * st_n p (pu_now M)) {v : Nat} (hv : v ≤ 1) : ro_cwp X 7 105 [.ref 4, .int (nI n), .int (nI v)] M (fun q M2 => q = some (.long (lo_f a b v)) ∧ kq M M2) := by
  have hI := (kg_inv hk).1
  have e0 : (kg L M).2.1 5 4 = nI p := (kg_c (by decide)).trans e1
  have b1 : xf_13 (kg L M) (nI n) 0 2 = true := ro_w13.mpr (nI_rng (m := 2) hn (by decide))
  have b4 : xf_95 (kg L M) (nI v) = true := lo_95 hv
  obtain ⟨A, a2, b2, hA, ha, hb, hb0, m1, m2, m3, m4, m5, m6⟩ := sp_106 (kg_od hk) hp e0 hI.1 hn
  rw [kg_now] at m4 m5 m6
  have eab : a2 = a ∧ b2 = b := by
    by_cases q0 : n = 0
    · exact ⟨(m3 q0).1.trans (h0 q0).1.symm, (m3 q0).2.trans (h0 q0).2.symm⟩
    · by_cases q1 : st_n p (pu_now M) = 0
      · exact ⟨(m4 q0 q1).1.trans (h1 q0 q1).1.symm, (m4 q0 q1).2.trans (h1 q0 q1).2.symm⟩
      · rcases (show n = 1 ∨ n = 2 by omega) with q | q
        · exact ⟨(m5 q q1).1.trans (h2 q q1).1.symm, (m5 q q1).2.trans (h2 q q1).2.symm⟩
        · exact ⟨(m6 q q1).1.trans (h3 q q1).1.symm, (m6 q q1).2.trans (h3 q q1).2.symm⟩
  rw [eab.1] at m1 ha
  rw [eab.2] at m1 hb hb0
  have hm : xm_105 (kg L M) (nI n) (nI v) = xm_100 A (lN a) (lN b) := by unfold xm_105; rw [if_pos b1, if_pos b4, m1]
  have f : xf_105 (kg L M) (nI n) (nI v) = lo_f a b v := by
    unfold xf_105; rw [if_pos b1, if_pos b4, m1]
    exact lo_fx ha hb hb0 hv
  have E := lo_eqv hA ha hb hb0
  have h := kc_r (A := some (.long (xf_105 (kg L M) (nI n) (nI v)))) hk rfl rfl (xs_105 (X := X) (kg_lay hk.1) (all_13 hI).1) (fun c k _ h2 => by rw [hm]; exact E.2.1 c k h2) (fun c k _ h2 => by rw [hm]; exact E.2.2 c k h2)
  rw [f] at h
  exact h
/-- a forged one is found -/
def te_a (C F t : Nat) : Nat := ch_sm F C (min t C) (min t C) 1
def te_b (C t : Nat) : Nat := ch_wy C (min t C)
theorem te_n {C F t : Nat} (hC : C ≤ 20) (hF : F ≤ C) : te_a C F t < 2 ^ 50 ∧ te_b C t < 2 ^ 50 ∧ 0 < te_b C t := by
  have hsb := ch_smb hC hF (L := min t C) (by omega) (min t C) 1 (by omega)
  have hbb := ch_wb (n := C) (k := min t C) hC (by omega)
  unfold te_a te_b
  refine ⟨by omega, by omega, ?_⟩
  unfold ch_wy
  rw [if_pos (by omega)]
  exact (ch_e0 C (by omega) (min t C) (by omega) (by omega)).2
theorem te_who (hk : kv L M) {i C f : Nat} (hi : i < 6) (hC : C ≤ 20) (hf : f ≤ 20) (eC : M.2.1 8 i = nI C) (ef : M.2.1 10 i = nI f) {A : ro_Mm} (hA : ro_eqv (kg L M) A) : xf_30 A (nI i) 1 = nI C ∧ xf_39 A (nI i) = nI (min f C) := by
  have a8 : A.2.1 8 i = nI C := (hA.2.1 8 i rfl).trans ((kg_c (by decide)).trans eC)
  have a10 : A.2.1 10 i = nI f := (hA.2.1 10 i rfl).trans ((kg_c (by decide)).trans ef)
  refine ⟨by rw [x30_1 hi]; exact a8, ?_⟩
  unfold xf_39 ro_min
  rw [x30_3 hi, x32 hi, a10]
  show (if A.2.1 8 i < nI f then A.2.1 8 i else nI f) = _
  rw [a8]
  by_cases z : C < f
  · rw [if_pos (nI_lt z (by omega))]; congr 1; omega
  · rw [if_neg (nI_nlt (by omega) (by omega))]; congr 1; omega
theorem te_112 (hk : kv L M) {i C f t : Nat} (hi : i < 6) (hC : C ≤ 20) (hf : f ≤ 20) (eC : M.2.1 8 i = nI C) (ef : M.2.1 10 i = nI f) (ht : t ≤ 20) {A : ro_Mm} (hA : ro_eqv (kg L M) A) : xm_112 A (nI i) (nI t) 1 = xm_100 A (lN (te_a C (min f C) t)) (lN (te_b C t)) := by
  obtain ⟨w1, w2⟩ := te_who hk hi hC hf eC ef hA
  have e : ro_min (nI t) (nI C) = nI (min t C) := by
    unfold ro_min
    by_cases z : C < t
    · rw [if_pos (nI_lt z (by omega))]; congr 1; omega
    · rw [if_neg (nI_nlt (by omega) (by omega))]; congr 1; omega
  obtain ⟨g1, g2⟩ := ch_112 (M := A) hC (Nat.min_le_right f C) (L := min t C) (by omega) (v1 := nI i) (v2 := nI t) (v3 := nI 1) (min t C) 1 lp_N 0 (by omega) (lp_hug (by omega))
  rw [Nat.zero_add] at g1
  have g1 : (xg_112_35 lp_N A 1 0 (nI (min t C)) (nI (min f C)) (nI C) (nI i) (nI t) 1).2 = lN (te_a C (min f C) t) := g1
  obtain ⟨k1, k2⟩ := ch_113 (M := A) (N := C) (K := min t C) hC (by omega)
  unfold xm_112
  rw [w1, w2, e, g1, k1]
  rfl
theorem ca_test (hk : kv L M) {p i C f t v : Nat} (hp : p ≤ 6) (e1 : M.2.1 5 4 = nI p) (hi : i < p) (hC : C ≤ 20) (hf : f ≤ 20) (eC : M.2.1 8 i = nI C) (ef : M.2.1 10 i = nI f) (ht : t ≤ 20) (hv : v ≤ 1) : ro_cwp X 5 111 [.ref 4, .int (nI i), .int (nI t), .int (nI v)] M (fun q M2 => q = some (.long (lo_f (te_a C (min f C) t) (te_b C t) v)) ∧ kq M M2) := by
  have hI := (kg_inv hk).1
  have e0 : (kg L M).2.1 5 4 = nI p := (kg_c (by decide)).trans e1
  have b1 : xf_29 (kg L M) (nI i) = true := x29_t hp e0 hi
  have b2 : xf_13 (kg L M) (nI t) 0 20 = true := ro_w13.mpr (nI_rng (m := 20) ht (by decide))
  have b4 : xf_95 (kg L M) (nI v) = true := lo_95 hv
  have m1 := te_112 hk (i := i) (by omega) hC hf eC ef ht (ro_eqv_r hI.1)
  obtain ⟨n1, n2, n3⟩ := te_n (t := t) hC (Nat.min_le_right f C)
  have hm : xm_111 (kg L M) (nI i) (nI t) (nI v) = xm_100 (kg L M) (lN (te_a C (min f C) t)) (lN (te_b C t)) := by unfold xm_111; rw [if_pos b1, if_pos b2, if_pos b4, m1]
  have ff : xf_111 (kg L M) (nI i) (nI t) (nI v) = lo_f (te_a C (min f C) t) (te_b C t) v := by
    unfold xf_111; rw [if_pos b1, if_pos b2, if_pos b4, m1]
    exact lo_fx (by omega) (by omega) n3 hv
  have E := lo_eqv (ro_eqv_r hI.1) (a := te_a C (min f C) t) (b := te_b C t) (by omega) (by omega) n3
  have h := kc_r (A := some (.long (xf_111 (kg L M) (nI i) (nI t) (nI v)))) hk rfl rfl (xs_111 (X := X) (kg_lay hk.1) (all_15 hI).1) (fun c k _ h2 => by rw [hm]; exact E.2.1 c k h2) (fun c k _ h2 => by rw [hm]; exact E.2.2 c k h2)
  rw [ff] at h
  exact h
theorem ca_honest (hk : kv L M) {p i C f t v : Nat} (hp : p ≤ 6) (e1 : M.2.1 5 4 = nI p) (hi : i < p) (hC : C ≤ 20) (hf : f ≤ 20) (eC : M.2.1 8 i = nI C) (ef : M.2.1 10 i = nI f) (ht : t ≤ 20) (hv : v ≤ 1) : ro_cwp X 5 115 [.ref 4, .int (nI i), .int (nI (10 * t + 1)), .int (nI v)] M (fun q M2 => q = some (.long (lo_f (te_a C (min f C) t) (te_b C t) v)) ∧ kq M M2) := by
  have hI := (kg_inv hk).1
  have e0 : (kg L M).2.1 5 4 = nI p := (kg_c (by decide)).trans e1
  have b1 : xf_29 (kg L M) (nI i) = true := x29_t hp e0 hi
  have b2 : xf_13 (kg L M) (nI t) 0 20 = true := ro_w13.mpr (nI_rng (m := 20) ht (by decide))
  have b4 : xf_95 (kg L M) (nI v) = true := lo_95 hv
  have d0 : ¬ nI (10 * t + 1) < 0 := nI_pos (by omega)
  have d1 : nI (10 * t + 1) / 10 = nI t := by
    rw [show (10 : Int32) = nI 10 from rfl, nI_div (by omega) (by decide)]; congr 1; omega
  have d2 : ro_irem (nI (10 * t + 1)) 10 = 1 := by
    rw [show (10 : Int32) = nI 10 from rfl, nI_rem (by omega) (by decide), show (10 * t + 1) % 10 = 1 by omega]; rfl
  have m1 := te_112 hk (i := i) (by omega) hC hf eC ef ht (ro_eqv_r hI.1)
  obtain ⟨n1, n2, n3⟩ := te_n (t := t) hC (Nat.min_le_right f C)
  have hm : xm_115 (kg L M) (nI i) (nI (10 * t + 1)) (nI v) = xm_100 (kg L M) (lN (te_a C (min f C) t)) (lN (te_b C t)) := by unfold xm_115; rw [if_neg d0, d1, d2, if_pos b2, if_neg (by decide), if_pos b1, if_pos b4, m1]
  have ff : xf_115 (kg L M) (nI i) (nI (10 * t + 1)) (nI v) = lo_f (te_a C (min f C) t) (te_b C t) v := by
    unfold xf_115; rw [if_neg d0, d1, d2, if_pos b2, if_neg (by decide), if_pos b1, if_pos b4, m1]
    exact lo_fx (by omega) (by omega) n3 hv
  have E := lo_eqv (ro_eqv_r hI.1) (a := te_a C (min f C) t) (b := te_b C t) (by omega) (by omega) n3
  have h := kc_r (A := some (.long (xf_115 (kg L M) (nI i) (nI (10 * t + 1)) (nI v)))) hk rfl rfl (xs_115 (X := X) (kg_lay hk.1) (all_17 hI).1) (fun c k _ h2 => by rw [hm]; exact E.2.1 c k h2) (fun c k _ h2 => by rw [hm]; exact E.2.2 c k h2)
  rw [ff] at h
  exact h
/-- of n so many, by digits of a great number -/
def te_w (n k : Nat) : Nat := (4294967297 ^ n) / (4294967296 ^ k) % 4294967296
theorem te_w1 : ∀ n, n < 21 → ∀ k, k < 21 → (if k ≤ n then ch_cc n k else 0) = te_w n k := by decide +kernel
theorem te_wy {n k : Nat} (hn : n ≤ 20) (hk : k ≤ 20) : ch_wy n k = te_w n k := te_w1 n (by omega) k (by omega)
def te_s (F C L : Nat) : Nat → Nat → Nat
  | 0, _ => 0
  | d + 1, j => te_w F j * te_w (C - F) (L - j) + te_s F C L d (j + 1)
theorem te_sm {F C L : Nat} (hC : C ≤ 20) (hF : F ≤ C) (hL : L ≤ 20) : ∀ (d j : Nat), d + j ≤ 21 → ch_sm F C L d j = te_s F C L d j
  | 0, _, _ => rfl
  | d + 1, j, h => by rw [ch_sm, te_s, te_wy (by omega) (by omega), te_wy (by omega) (by omega), te_sm hC hF hL d (j + 1) (by omega)]
theorem te_v0 : ∀ C, C < 21 → ∀ F, F < C + 1 → ∀ l, l < C + 1 → te_s F C l l 1 + te_w (C - F) l = te_w C l := by decide +kernel
theorem te_m0 : ∀ C, C < 21 → ∀ F, F < C + 1 → ∀ l, l < C → te_w (C - F) (l + 1) * te_w C l ≤ te_w (C - F) l * te_w C (l + 1) := by decide +kernel
theorem te_e0 : ∀ C, C < 21 → ∀ F, F < C + 1 → te_w (C - F) C = if F = 0 then te_w C C else 0 := by decide +kernel
theorem te_v {C F t : Nat} (hC : C ≤ 20) (hF : F ≤ C) : te_a C F t + te_w (C - F) (min t C) = te_b C t := by
  unfold te_a te_b
  rw [te_sm hC hF (by omega) _ _ (by omega), te_wy hC (by omega)]
  exact te_v0 C (by omega) F (by omega) (min t C) (by omega)
/-- more looking finds no less -/
theorem te_mono {C F t : Nat} (hC : C ≤ 20) (hF : F ≤ C) : te_a C F t * te_b C (t + 1) ≤ te_a C F (t + 1) * te_b C t := by
  by_cases z : t < C
  · have h1 := te_v (t := t) hC hF
    have h2 := te_v (t := t + 1) hC hF
    have h3 := te_m0 C (by omega) F (by omega) t z
    rw [Nat.min_eq_left (by omega)] at h1 h2
    have b1 : te_b C t = te_w C t := by unfold te_b; rw [Nat.min_eq_left (by omega), te_wy hC (by omega)]
    have b2 : te_b C (t + 1) = te_w C (t + 1) := by unfold te_b; rw [Nat.min_eq_left (by omega), te_wy hC (by omega)]
    rw [← b1, ← b2] at h3
    generalize te_a C F t = a1 at *
    generalize te_a C F (t + 1) = a2 at *
    generalize te_w (C - F) t = c1 at *
    generalize te_w (C - F) (t + 1) = c2 at *
    rw [← h1, ← h2] at h3 ⊢
    have e1 : a1 * (a2 + c2) = a1 * a2 + a1 * c2 := Nat.mul_add _ _ _
    have e2 : a2 * (a1 + c1) = a1 * a2 + a2 * c1 := by rw [Nat.mul_add, Nat.mul_comm a2 a1]
    have e3 : c2 * (a1 + c1) = a1 * c2 + c1 * c2 := by rw [Nat.mul_add, Nat.mul_comm c2 a1, Nat.mul_comm c2 c1]
    have e4 : c1 * (a2 + c2) = a2 * c1 + c1 * c2 := by rw [Nat.mul_add, Nat.mul_comm c1 a2]
    omega
  · have e1 : te_a C F (t + 1) = te_a C F t := by unfold te_a; rw [Nat.min_eq_right (by omega), Nat.min_eq_right (by omega)]
    have e2 : te_b C (t + 1) = te_b C t := by unfold te_b; rw [Nat.min_eq_right (by omega), Nat.min_eq_right (by omega)]
    rw [e1, e2]
    exact Nat.le_refl _
theorem te_le {C F t : Nat} (hC : C ≤ 20) (hF : F ≤ C) : te_a C F t ≤ te_b C t := by have := te_v (t := t) hC hF; omega
theorem te_end {C F t : Nat} (hC : C ≤ 20) (hF : F ≤ C) (ht : C ≤ t) : te_a C F t = if F = 0 then 0 else te_b C t := by
  have h1 := te_v (t := t) hC hF
  rw [Nat.min_eq_right ht, te_e0 C (by omega) F (by omega)] at h1
  have b1 : te_b C t = te_w C C := by unfold te_b; rw [Nat.min_eq_right ht, te_wy hC hC]
  by_cases z : F = 0
  · rw [if_pos z] at h1 ⊢; omega
  · rw [if_neg z] at h1 ⊢; omega
theorem te_z {C t : Nat} (hC : C ≤ 20) : te_a C 0 t = 0 := by
  have h1 := te_v (C := C) (F := 0) (t := t) hC (Nat.zero_le _)
  have b1 : te_b C t = te_w (C - 0) (min t C) := by unfold te_b; rw [te_wy hC (by omega)]; rfl
  omega
theorem en_cl (hk : kv L M) {i C f : Nat} (hi : i < 6) (hC : C ≤ 20) (hf : f ≤ 20) (eC : M.2.1 8 i = nI C) (ef : M.2.1 10 i = nI f) : ∀ (d t n : Nat) (A : ro_Mm), t + d = C + 1 → d < n → ro_eqv (kg L M) A →
    ro_eqv (kg L M) (xg_114_41 n A (nI t) (nI C) (nI i) 12).2.2.2 ∧ ((xg_114_41 n A (nI t) (nI C) (nI i) 12).1 = true → 0 ≤ (xg_114_41 n A (nI t) (nI C) (nI i) 12).2.1) ∧ (0 < min f C → 0 < d → (xg_114_41 n A (nI t) (nI C) (nI i) 12).1 = true) ∧ (min f C = 0 → (xg_114_41 n A (nI t) (nI C) (nI i) 12).1 = false) := by
  intro d
  induction d with
  | zero =>
    intro t n A ht hn hA
    obtain ⟨n, rfl⟩ : ∃ m, n = m + 1 := ⟨n - 1, by omega⟩
    have c0 : nI C < nI t := nI_lt (by omega) (by omega)
    rw [xg_114_41, if_pos c0]
    exact ⟨hA, fun q => Bool.noConfusion q, fun _ q => absurd q (Nat.lt_irrefl _), fun _ => rfl⟩
  | succ d ih =>
    intro t n A ht hn hA
    obtain ⟨n, rfl⟩ : ∃ m, n = m + 1 := ⟨n - 1, by omega⟩
    have c0 : ¬ nI C < nI t := nI_nlt (by omega) (by omega)
    have g1 := te_112 hk hi hC hf eC ef (t := t) (by omega) hA
    obtain ⟨n1, n2, n3⟩ := te_n (t := t) hC (Nat.min_le_right f C)
    have hl := te_le (t := t) hC (Nat.min_le_right f C)
    have E := lo_eqv hA (a := te_a C (min f C) t) (b := te_b C t) (by omega) (by omega) n3
    have s := (lo_set (M := A) (a := te_a C (min f C) t) (b := te_b C t) (by omega) (by omega) n3).1
    have p0 : xf_102 (xm_100 A (lN (te_a C (min f C) t)) (lN (te_b C t))) 0 = lN (te_a C (min f C) t / Nat.gcd (te_a C (min f C) t) (te_b C t)) := by rw [s]; unfold xf_102; rw [if_pos rfl]; rfl
    have p1 : xf_102 (xm_100 A (lN (te_a C (min f C) t)) (lN (te_b C t))) 1 = lN (te_b C t / Nat.gcd (te_a C (min f C) t) (te_b C t)) := by rw [s]; unfold xf_102; rw [if_neg (by decide)]; rfl
    have ex : (12 : Int32).toInt64 = lN 12 := nI_l (n := 12) (by omega)
    have cm := en_cmp n1 n2 n3 (x := 12) (by decide)
    have cm2 : (lg_cmp (12 * lN (te_a C (min f C) t)) (lN 12 * lN (te_b C t)) < 0) ↔ te_a C (min f C) t < te_b C t := by
      rw [lg_cmp_lt, show (12 : Int64) * lN (te_a C (min f C) t) = lN (12 * te_a C (min f C) t) from lN_mul 12 _, lN_mul, lN_ltI (by omega) (by omega)]
      omega
    rw [xg_114_41, if_neg c0, g1, p0, p1, ex]
    by_cases z : te_a C (min f C) t < te_b C t
    · rw [if_pos (cm.mpr (cm2.mpr z)), nI_1]
      obtain ⟨i1, i2, i3, i4⟩ := ih (t + 1) n _ (by omega) (by omega) E
      refine ⟨i1, i2, fun h1 _ => i3 h1 ?_, i4⟩
      rcases Nat.eq_zero_or_pos d with q | q
      · have := te_end (t := t) hC (Nat.min_le_right f C) (by omega)
        rw [if_neg (by omega)] at this
        omega
      · exact q
    · rw [if_neg (fun q => z (cm2.mp (cm.mp q)))]
      refine ⟨E, fun _ => nI_pos' (by omega), fun _ _ => rfl, fun h1 => ?_⟩
      rw [h1, te_z hC] at z
      omega
theorem ca_enough (hk : kv L M) {p i C f : Nat} (hp : p ≤ 6) (e1 : M.2.1 5 4 = nI p) (hi : i < p) (hC : C ≤ 20) (hf : f ≤ 20) (eC : M.2.1 8 i = nI C) (ef : M.2.1 10 i = nI f) : ro_cwp X 5 114 [.ref 4, .int (nI i), .int 12] M (fun q M2 => (∃ w, q = some (.int w) ∧ (0 ≤ w ↔ 0 < min f C)) ∧ kq M M2) := by
  have hI := (kg_inv hk).1
  have e0 : (kg L M).2.1 5 4 = nI p := (kg_c (by decide)).trans e1
  have b1 : xf_29 (kg L M) (nI i) = true := x29_t hp e0 hi
  have b2 : xf_13 (kg L M) 12 0 12 = true := ro_w13.mpr (by decide)
  obtain ⟨w1, w2⟩ := te_who hk (i := i) (by omega) hC hf eC ef (ro_eqv_r hI.1)
  have eall : ro_min (xf_30 (kg L M) (nI i) 1) 20 = nI C := by
    rw [w1]
    have n20 : ¬ (20 : Int32) < nI C := nI_nlt (a := 20) (b := C) hC (by decide)
    unfold ro_min
    rw [if_neg n20]
  obtain ⟨r1, r2, r3, r4⟩ := en_cl hk (i := i) (by omega) hC hf eC ef (C + 1) 0 lp_N (kg L M) (by omega) (lp_hug (by omega)) (ro_eqv_r hI.1)
  have hm : xm_114 (kg L M) (nI i) 12 = (xg_114_41 lp_N (kg L M) (nI 0) (nI C) (nI i) 12).2.2.2 := by
    unfold xm_114; rw [if_pos b1, if_pos b2, eall]; rfl
  have f114 : xf_114 (kg L M) (nI i) 12 = if (xg_114_41 lp_N (kg L M) (nI 0) (nI C) (nI i) 12).1 = true then (xg_114_41 lp_N (kg L M) (nI 0) (nI C) (nI i) 12).2.1 else -2 := by
    unfold xf_114; rw [if_pos b1, if_pos b2, eall]; rfl
  have h := kc_r (A := some (.int (xf_114 (kg L M) (nI i) 12))) hk rfl rfl (xs_114 (X := X) (kg_lay hk.1) (all_16 hI).1) (fun c k _ h2 => by rw [hm]; exact r1.2.1 c k h2) (fun c k _ h2 => by rw [hm]; exact r1.2.2 c k h2)
  refine ro_cwp_up (Nat.le_refl _) ?_ h
  rintro q M2 ⟨g1, g2⟩
  refine ⟨⟨_, g1, ?_⟩, g2⟩
  rw [f114]
  by_cases z : 0 < min f C
  · rw [if_pos (r3 z (by omega))]
    exact ⟨fun _ => z, fun _ => r2 (r3 z (by omega))⟩
  · rw [r4 (by omega), if_neg (show ¬ (false = true) by decide)]
    exact ⟨fun q => absurd q (by decide), fun q => absurd q z⟩
end FRAC
