/-! the class's calls, on: round, cleanest; what they tell, kind by kind -/
section ROUND
variable {X : ro_Sx} {L : List (List Int32 × List Int32)} {M : ro_Mm}
def ru_f (h : Nat → Nat) (k : Nat) : Int32 := nI (h k)
/-- a round that is as it may be: N by twos -/
def ru_ok (p N : Nat) (h : Nat → Nat) : Prop := N ≤ 5 ∧ ∀ y, y < N → h (2 * y) < p ∧ h (2 * y + 1) < p ∧ h (2 * y) ≠ h (2 * y + 1)
theorem ru_w {h : Nat → Nat} {o k : Nat} (hh : h (2 * k + o) < 2 ^ 31) : rd_w (ru_f h) o k = h (2 * k + o) := nI_clamp hh
theorem ru_read (hk : kv L M) {p s N : Nat} {h : Nat → Nat} (hp : p ≤ 6) (e1 : M.2.1 5 4 = nI p) (hs : s < 6) (hN : ru_ok p N h) (hb : sh_b M s (2 * N) h) :
    rd_len (kg L M) p (ru_f h) (2 * N) N ∧ ro_eqv (kg L M) (xm_84 (kg L M) (23 + 2 * s)) ∧ (xm_84 (kg L M) (23 + 2 * s)).2.1 42 5 = nI N ∧ rd_ab (xm_84 (kg L M) (23 + 2 * s)) (ru_f h) N := by
  have hI := (kg_inv hk).1
  have e0 : (kg L M).2.1 5 4 = nI p := (kg_c (by decide)).trans e1
  obtain ⟨b1, b2, b3⟩ := hb
  have n42 : 23 + 2 * s ≠ 42 := by omega
  have hc : ro_is (23 + 2 * s) := by unfold ro_is; omega
  have h5 := hN.1
  have hf : ∀ k, k < 2 * N → xf_25 (kg L M) (23 + 2 * s) (nI k) = ru_f h k := fun k hk2 => by
    unfold xf_25 xf_26
    rw [if_neg (nI_pos (by omega)), kg_c (by omega), b2, if_neg (nI_ge hk2 (by omega)), if_neg (show ¬ (60 : Int32) ≤ nI k from nI_ge (b := 60) (by omega) (by omega)), nI_clamp (by omega), kg_J (by omega), show 23 + 2 * s + 1 = 24 + 2 * s by omega]
    exact b3 k hk2
  have two : ∀ y, y < N → xf_57 (kg L M) (ru_f h (2 * y)) (ru_f h (2 * y + 1)) = true := fun y hy => x57_t hp e0 (hN.2 y hy).1 (hN.2 y hy).2.1 (hN.2 y hy).2.2
  have F0 : rd_fr (kg L M) (ro_sI (kg L M) 42 5 0) := ⟨rfl, rfl, fun a j _ _ n4 => by rw [ro_rd_s, if_neg n4]⟩
  obtain ⟨i1, N2, i3, i4, i5, i6, i7⟩ := rd_84 hI hp e0 hc (f := ru_f h) (z := 2 * N) (by omega) 10 0 lp_N (ro_sI (kg L M) 42 5 0) (by omega) (lp_hug (by omega)) F0 (rd_fr_e (ro_eqv_r hI.1) F0)
    (by rw [ro_sI_ne n42, kg_c (by omega)]; exact b2)
    (fun y hy => by rw [← hf y hy]; unfold xf_25 xf_26; rw [ro_sI_ne n42]; rfl)
    (by rw [ro_rd_s, if_pos ⟨rfl, rfl⟩]; rfl) (fun y hy => absurd hy (Nat.not_lt_zero _)) (fun y hy => absurd hy (Nat.not_lt_zero _))
  have eN : N2 = N := by
    rcases Nat.lt_trichotomy N2 N with q | q | q
    · rcases i3.2.2 with w | w | w
      · omega
      · omega
      · exact absurd (two N2 q) w.2
    · exact q
    · have := (i3.2.1 N q).1
      omega
  rw [eN] at i3 i6 i7
  exact ⟨i3, i5, i6, i7⟩
/-- the search's end, by a worth and what is better -/
def ru_F (M : ro_Mm) (L : List (List Int32 × List Int32)) (N : Nat) (h : Nat → Nat) (val : pu_T → Nat → Int32) (btr : Int32 → Int32 → Bool) : rd_A := rd_fd (odv M L) (M.2.1 5 7) (rd_w (ru_f h) 0) (rd_w (ru_f h) 1) val btr N (pu_now M) (2 ^ N) 0 none
def ru_v1 (_ : pu_T) (r : Nat) : Int32 := nI r
def ru_b1 (x y : Int32) : Bool := decide (x < y)
def ru_b2 (x y : Int32) : Bool := decide (y < x)
theorem kg_val {h : Nat → Nat} : rd_val (kg L M) (ru_f h) = rd_val M (ru_f h) := by
  funext S r
  unfold rd_val
  rw [kg_c (by decide)]
theorem ca_round (hk : kv L M) {p N : Nat} {h : Nat → Nat} (hp : p ≤ 6) (e1 : M.2.1 5 4 = nI p) (hN : ru_ok p N h) (hb : sh_b M 2 (2 * N) h) : ro_cwp X 802 83 [.ref 4, .int 2, .int (-1)] M (fun q M2 => q = some (.int (match ru_F M L N h ru_v1 ru_b1 with | none => -2 | some x => x.1)) ∧ kq M M2) := by
  have hI := (kg_inv hk).1
  have e0 : (kg L M).2.1 5 4 = nI p := (kg_c (by decide)).trans e1
  obtain ⟨hl, r2, r3, r4⟩ := ru_read hk hp e1 (s := 2) (by decide) hN hb
  obtain ⟨q1, q2, q3, q4⟩ := rd_86 hI (kg_od hk) hp e0 hl (cl := false) (val := fun _ r => nI r) (btr := fun x y => decide (x < y)) rd_w1 (fun _ => rd_prune2 _ ((kg L M).2.1 5 7) (rd_w (ru_f h) 0) (rd_w (ru_f h) 1)) r2 r3 r4
  rw [kg_now, kg_c (by decide)] at q3
  have q3 : rd_acc (xm_86 (xm_84 (kg L M) 27) false) N (ru_F M L N h ru_v1 ru_b1) := q3
  have q2 : ro_eqv (kg L M) (xm_86 (xm_84 (kg L M) 27) false) := q2
  have s1 : ro_bs 2 = true := (ro_sn (s := 2) (by decide)).1
  have s2 : ro_sc 2 = 27 := (ro_sn (s := 2) (by decide)).2.1
  have y1 : xf_22 (kg L M) 27 = true := by
    unfold xf_22
    rw [kg_c (by decide), show M.2.1 27 1 = 0 from hb.1, if_pos rfl]
  have b2 : (-1 : Int32) ≤ -1 := by decide
  have f85 : xf_85 (xm_84 (kg L M) 27) = nI N := r3
  have hN5 := hN.1
  have c1 : ¬ nI N ≤ -1 := by
    rw [Int32.le_iff_toInt_le, nI_toInt (by omega)]
    have : (-1 : Int32).toInt = -1 := by decide
    omega
  have hm : xm_83 (kg L M) 2 (-1) = xm_86 (xm_84 (kg L M) 27) false := by unfold xm_83; rw [if_pos s1, if_pos b2, s2, if_pos y1, f85, if_neg c1]
  have hf : xf_83 (kg L M) 2 (-1) = match ru_F M L N h ru_v1 ru_b1 with | none => -2 | some x => x.1 := by
    unfold xf_83
    have q4 : xf_86 (xm_84 (kg L M) 27) false = ro_t ((xm_86 (xm_84 (kg L M) 27) false).2.1 42 9) := q4
    rw [if_pos s1, if_pos b2, s2, if_pos y1, f85, if_neg c1, q4]
    cases hq : ru_F M L N h ru_v1 ru_b1 with
    | none =>
      rw [hq] at q3
      have q3 : (xm_86 (xm_84 (kg L M) 27) false).2.1 42 9 = 0 := q3
      rw [q3, if_neg (by decide)]
    | some x =>
      obtain ⟨v, ks⟩ := x
      rw [hq] at q3
      obtain ⟨w4, w5, w6⟩ := q3
      have t1 : ro_t 1 = true := by decide
      rw [w4, if_pos t1, if_neg (by decide)]
      exact w5
  have hc := kc_r (A := some (.int (xf_83 (kg L M) 2 (-1)))) hk rfl rfl (xs_83 (X := X) (kg_lay hk.1) (all_9 hI).1) (fun c k _ h2 => by rw [hm]; exact q2.2.1 c k h2) (fun c k _ h2 => by rw [hm]; exact q2.2.2 c k h2)
  rw [hf] at hc
  exact hc
theorem ca_kind (hk : kv L M) {p N k : Nat} {h : Nat → Nat} (hp : p ≤ 6) (e1 : M.2.1 5 4 = nI p) (hN : ru_ok p N h) (hb : sh_b M 2 (2 * N) h) (hkN : k < N) {v : Int32} {ks : Nat} (hF : ru_F M L N h ru_v1 ru_b1 = some (v, ks)) : ro_cwp X 802 83 [.ref 4, .int 2, .int (nI k)] M (fun q M2 => q = some (.int (nI (ks / 2 ^ (N - 1 - k) % 2))) ∧ kq M M2) := by
  have hI := (kg_inv hk).1
  have e0 : (kg L M).2.1 5 4 = nI p := (kg_c (by decide)).trans e1
  obtain ⟨hl, r2, r3, r4⟩ := ru_read hk hp e1 (s := 2) (by decide) hN hb
  obtain ⟨q1, q2, q3, q4⟩ := rd_86 hI (kg_od hk) hp e0 hl (cl := false) (val := fun _ r => nI r) (btr := fun x y => decide (x < y)) rd_w1 (fun _ => rd_prune2 _ ((kg L M).2.1 5 7) (rd_w (ru_f h) 0) (rd_w (ru_f h) 1)) r2 r3 r4
  rw [kg_now, kg_c (by decide)] at q3
  have q3 : rd_acc (xm_86 (xm_84 (kg L M) 27) false) N (ru_F M L N h ru_v1 ru_b1) := q3
  rw [hF] at q3
  obtain ⟨w4, w5, w6⟩ := q3
  have q2 : ro_eqv (kg L M) (xm_86 (xm_84 (kg L M) 27) false) := q2
  have s1 : ro_bs 2 = true := (ro_sn (s := 2) (by decide)).1
  have s2 : ro_sc 2 = 27 := (ro_sn (s := 2) (by decide)).2.1
  have y1 : xf_22 (kg L M) 27 = true := by
    unfold xf_22
    rw [kg_c (by decide), show M.2.1 27 1 = 0 from hb.1, if_pos rfl]
  have hN5 := hN.1
  have b2 : (-1 : Int32) ≤ nI k := by
    rw [Int32.le_iff_toInt_le, nI_toInt (by omega)]
    have : (-1 : Int32).toInt = -1 := by decide
    omega
  have f85 : xf_85 (xm_84 (kg L M) 27) = nI N := r3
  have c1 : ¬ nI N ≤ nI k := nI_ge hkN (by omega)
  have c4 : (0 : Int32) ≤ nI k := nI_pos' (by omega)
  have hm : xm_83 (kg L M) 2 (nI k) = xm_86 (xm_84 (kg L M) 27) false := by unfold xm_83; rw [if_pos s1, if_pos b2, s2, if_pos y1, f85, if_neg c1]
  have hf : xf_83 (kg L M) 2 (nI k) = nI (ks / 2 ^ (N - 1 - k) % 2) := by
    unfold xf_83 xf_92
    have q4 : xf_86 (xm_84 (kg L M) 27) false = ro_t ((xm_86 (xm_84 (kg L M) 27) false).2.1 42 9) := q4
    have t1 : ro_t 1 = true := by decide
    have c5 : ¬ nI k < 0 := nI_pos (by omega)
    have c6 : ¬ (10 : Int32) ≤ nI k := nI_ge (b := 10) (by omega) (by omega)
    rw [if_pos s1, if_pos b2, s2, if_pos y1, f85, if_neg c1, q4, w4, if_pos t1, if_pos c4, if_neg c5, if_neg c6, w6, rb_bit k (by omega) _ (rv_lt10 (by omega)), rv_bit N ks k hkN]
  have hc := kc_r (A := some (.int (xf_83 (kg L M) 2 (nI k)))) hk rfl rfl (xs_83 (X := X) (kg_lay hk.1) (all_9 hI).1) (fun c k _ h2 => by rw [hm]; exact q2.2.1 c k h2) (fun c k _ h2 => by rw [hm]; exact q2.2.2 c k h2)
  rw [hf] at hc
  exact hc
theorem ca_clean (hk : kv L M) {p N : Nat} {h : Nat → Nat} (hp : p ≤ 6) (e1 : M.2.1 5 4 = nI p) (hN : ru_ok p N h) (hb : sh_b M 2 (2 * N) h) : ro_cwp X 802 93 [.ref 4, .int 2] M (fun q M2 => q = some (.int (if N = 0 then -2 else match ru_F M L N h (rd_val M (ru_f h)) ru_b2 with | none => -2 | some x => x.1)) ∧ kq M M2) := by
  have hI := (kg_inv hk).1
  have e0 : (kg L M).2.1 5 4 = nI p := (kg_c (by decide)).trans e1
  obtain ⟨hl, r2, r3, r4⟩ := ru_read hk hp e1 (s := 2) (by decide) hN hb
  have r2 : ro_eqv (kg L M) (xm_84 (kg L M) 27) := r2
  have s1 : ro_bs 2 = true := (ro_sn (s := 2) (by decide)).1
  have s2 : ro_sc 2 = 27 := (ro_sn (s := 2) (by decide)).2.1
  have y1 : xf_22 (kg L M) 27 = true := by
    unfold xf_22
    rw [kg_c (by decide), show M.2.1 27 1 = 0 from hb.1, if_pos rfl]
  have f85 : xf_85 (xm_84 (kg L M) 27) = nI N := r3
  have hN5 := hN.1
  by_cases z : N = 0
  · have c2 : nI N ≤ 0 := by rw [z]; decide
    have hm : xm_93 (kg L M) 2 = xm_84 (kg L M) 27 := by unfold xm_93; rw [if_pos s1, s2, if_pos y1, f85, if_pos c2]
    have hf : xf_93 (kg L M) 2 = -2 := by unfold xf_93; rw [if_pos s1, s2, if_pos y1, f85, if_pos c2]
    have hc := kc_r (A := some (.int (xf_93 (kg L M) 2))) hk rfl rfl (xs_93 (X := X) (kg_lay hk.1) (all_10 hI).1) (fun c k _ h2 => by rw [hm]; exact r2.2.1 c k h2) (fun c k _ h2 => by rw [hm]; exact r2.2.2 c k h2)
    rw [hf] at hc
    rw [if_pos z]
    exact hc
  · have c2 : ¬ nI N ≤ 0 := nI_nle (by omega) (by omega)
    have hi := (hl.2.1 0 (by omega)).2.2.1
    have ei := (hl.2.1 0 (by omega)).2.2.2.2.2.1
    obtain ⟨q1, q2, q3, q4⟩ := rd_86 hI (kg_od hk) hp e0 hl (cl := true) (val := rd_val (kg L M) (ru_f h)) (btr := fun x y => decide (y < x)) (rd_w2 hp (by omega) hi ei) (fun q => absurd q (by decide)) r2 r3 r4
    rw [kg_now, kg_c (by decide), kg_val] at q3
    have q3 : rd_acc (xm_86 (xm_84 (kg L M) 27) true) N (ru_F M L N h (rd_val M (ru_f h)) ru_b2) := q3
    have q2 : ro_eqv (kg L M) (xm_86 (xm_84 (kg L M) 27) true) := q2
    have hm : xm_93 (kg L M) 2 = xm_86 (xm_84 (kg L M) 27) true := by unfold xm_93; rw [if_pos s1, s2, if_pos y1, f85, if_neg c2]
    have hf : xf_93 (kg L M) 2 = match ru_F M L N h (rd_val M (ru_f h)) ru_b2 with | none => -2 | some x => x.1 := by
      unfold xf_93
      have q4 : xf_86 (xm_84 (kg L M) 27) true = ro_t ((xm_86 (xm_84 (kg L M) 27) true).2.1 42 9) := q4
      rw [if_pos s1, s2, if_pos y1, f85, if_neg c2, q4]
      cases hq : ru_F M L N h (rd_val M (ru_f h)) ru_b2 with
      | none =>
        rw [hq] at q3
        have q3 : (xm_86 (xm_84 (kg L M) 27) true).2.1 42 9 = 0 := q3
        rw [q3, if_neg (by decide)]
      | some x =>
        obtain ⟨v, ks⟩ := x
        rw [hq] at q3
        obtain ⟨w4, w5, w6⟩ := q3
        have t1 : ro_t 1 = true := by decide
        rw [w4, if_pos t1]
        exact w5
    have hc := kc_r (A := some (.int (xf_93 (kg L M) 2))) hk rfl rfl (xs_93 (X := X) (kg_lay hk.1) (all_10 hI).1) (fun c k _ h2 => by rw [hm]; exact q2.2.1 c k h2) (fun c k _ h2 => by rw [hm]; exact q2.2.2 c k h2)
    rw [hf] at hc
    rw [if_neg z]
    exact hc
/-- what a search by all kinds ends with -/
theorem ru_end {od : Nat → Nat → Int32 → Int32 → Int32} {hab : Int32} {fa fb : Nat → Nat} {val : pu_T → Nat → Int32} {btr : Int32 → Int32 → Bool} {N : Nat} {S0 : pu_T} (tr : ∀ x y z : Int32, btr x y = true → ¬ btr z y = true → ¬ btr z x = true) (rf : ∀ x, ¬ btr x x = true) : ∀ (m s : Nat) (a : rd_A),
    ((a = none ∧ ∀ c, c < s → rd_rn od hab fa fb N 0 S0 0 c = none) ∨ (∃ ks S r, a = some (val S r, ks) ∧ rd_rn od hab fa fb N 0 S0 0 ks = some (S, r) ∧ ∀ c S2 r2, c < s → rd_rn od hab fa fb N 0 S0 0 c = some (S2, r2) → ¬ btr (val S2 r2) (val S r) = true)) →
    ((rd_fd od hab fa fb val btr N S0 m s a = none ∧ ∀ c, c < s + m → rd_rn od hab fa fb N 0 S0 0 c = none) ∨ (∃ ks S r, rd_fd od hab fa fb val btr N S0 m s a = some (val S r, ks) ∧ rd_rn od hab fa fb N 0 S0 0 ks = some (S, r) ∧ ∀ c S2 r2, c < s + m → rd_rn od hab fa fb N 0 S0 0 c = some (S2, r2) → ¬ btr (val S2 r2) (val S r) = true)) := by
  intro m
  induction m with
  | zero => intro s a h; exact h
  | succ m ih =>
    intro s a h
    rw [rd_fd, show s + (m + 1) = s + 1 + m by omega]
    refine ih (s + 1) _ ?_
    have c_s : ∀ c, c < s + 1 → c < s ∨ c = s := fun c hc => by omega
    cases hq : rd_rn od hab fa fb N 0 S0 0 s with
    | none =>
      show ((a = none ∧ _) ∨ _)
      rcases h with ⟨h1, h2⟩ | ⟨ks, S, r, h1, h2, h3⟩
      · refine Or.inl ⟨h1, fun c hc => ?_⟩
        rcases c_s c hc with q | q
        · exact h2 c q
        · rw [q]; exact hq
      · refine Or.inr ⟨ks, S, r, h1, h2, fun c S2 r2 hc e => ?_⟩
        rcases c_s c hc with q | q
        · exact h3 c S2 r2 q e
        · rw [q, hq] at e; cases e
    | some x =>
      obtain ⟨S1, r1⟩ := x
      rcases h with ⟨h1, h2⟩ | ⟨ks, S, r, h1, h2, h3⟩
      · refine Or.inr ⟨s, S1, r1, ?_, hq, fun c S2 r2 hc e => ?_⟩
        · rw [h1]; rfl
        · rcases c_s c hc with q | q
          · rw [h2 c q] at e; cases e
          · rw [q, hq] at e
            cases e
            exact rf _
      · rw [h1]
        show ((rd_up btr (some (val S r, ks)) (val S1 r1) s = none ∧ _) ∨ _)
        by_cases b : btr (val S1 r1) (val S r) = true
        · refine Or.inr ⟨s, S1, r1, if_pos b, hq, fun c S2 r2 hc e => ?_⟩
          rcases c_s c hc with q | q
          · exact tr _ _ _ b (h3 c S2 r2 q e)
          · rw [q, hq] at e
            cases e
            exact rf _
        · refine Or.inr ⟨ks, S, r, if_neg b, h2, fun c S2 r2 hc e => ?_⟩
          rcases c_s c hc with q | q
          · exact h3 c S2 r2 q e
          · rw [q, hq] at e
            cases e
            exact b
theorem ru_F_end {N : Nat} {h : Nat → Nat} {val : pu_T → Nat → Int32} {btr : Int32 → Int32 → Bool} (tr : ∀ x y z : Int32, btr x y = true → ¬ btr z y = true → ¬ btr z x = true) (rf : ∀ x, ¬ btr x x = true) :
    (ru_F M L N h val btr = none ∧ ∀ c, c < 2 ^ N → rd_rn (odv M L) (M.2.1 5 7) (rd_w (ru_f h) 0) (rd_w (ru_f h) 1) N 0 (pu_now M) 0 c = none) ∨ (∃ ks S r, ru_F M L N h val btr = some (val S r, ks) ∧ rd_rn (odv M L) (M.2.1 5 7) (rd_w (ru_f h) 0) (rd_w (ru_f h) 1) N 0 (pu_now M) 0 ks = some (S, r) ∧ ∀ c S2 r2, c < 2 ^ N → rd_rn (odv M L) (M.2.1 5 7) (rd_w (ru_f h) 0) (rd_w (ru_f h) 1) N 0 (pu_now M) 0 c = some (S2, r2) → ¬ btr (val S2 r2) (val S r) = true) := by
  have := ru_end (od := odv M L) (hab := M.2.1 5 7) (fa := rd_w (ru_f h) 0) (fb := rd_w (ru_f h) 1) (val := val) (btr := btr) (N := N) (S0 := pu_now M) tr rf (2 ^ N) 0 none (Or.inl ⟨rfl, fun c hc => absurd hc (Nat.not_lt_zero _)⟩)
  rw [Nat.zero_add] at this
  exact this
theorem ru_t1 : ∀ x y z : Int32, ru_b1 x y = true → ¬ ru_b1 z y = true → ¬ ru_b1 z x = true := by
  intro x y z
  unfold ru_b1
  simp only [decide_eq_true_eq]
  grind
theorem ru_r1 : ∀ x : Int32, ¬ ru_b1 x x = true := by
  intro x
  unfold ru_b1
  simp only [decide_eq_true_eq]
  grind
theorem ru_t2 : ∀ x y z : Int32, ru_b2 x y = true → ¬ ru_b2 z y = true → ¬ ru_b2 z x = true := by
  intro x y z
  unfold ru_b2
  simp only [decide_eq_true_eq]
  grind
theorem ru_r2 : ∀ x : Int32, ¬ ru_b2 x x = true := by
  intro x
  unfold ru_b2
  simp only [decide_eq_true_eq]
  grind
/-- how many at most are refused -/
theorem ru_r {od : Nat → Nat → Int32 → Int32 → Int32} {hab : Int32} {fa fb : Nat → Nat} : ∀ (d k : Nat) (S : pu_T) (r c : Nat) (S2 : pu_T) (r2 : Nat), rd_rn od hab fa fb d k S r c = some (S2, r2) → r ≤ r2 ∧ r2 ≤ r + d
  | 0, k, S, r, c, S2, r2, h => by
    rw [rd_rn] at h
    cases h
    exact ⟨Nat.le_refl _, Nat.le_refl _⟩
  | d + 1, k, S, r, c, S2, r2, h => by
    rw [rd_rn] at h
    cases hq : rd_st od hab fa fb S k (c / 2 ^ d % 2) with
    | none => rw [hq] at h; cases h
    | some x =>
      obtain ⟨S3, i⟩ := x
      rw [hq] at h
      have h : rd_rn od hab fa fb d (k + 1) S3 (r + i) c = some (S2, r2) := h
      have hi : i ≤ 1 := by
        unfold rd_st at hq
        split at hq
        · split at hq
          · cases hq; omega
          · cases hq
        · split at hq
          · split at hq
            · cases hq; omega
            · split at hq
              · cases hq; omega
              · cases hq
          · cases hq
      have := ru_r d (k + 1) S3 (r + i) c S2 r2 h
      omega
/-- both tell the same: that all go over, or not; the purses by the fewest are among all -/
theorem ru_both {N : Nat} {h : Nat → Nat} (val : pu_T → Nat → Int32) :
    (ru_F M L N h ru_v1 ru_b1 = none ∧ ru_F M L N h val ru_b2 = none) ∨ (∃ ks S r v, ru_F M L N h ru_v1 ru_b1 = some (nI r, ks) ∧ r ≤ N ∧ rd_rn (odv M L) (M.2.1 5 7) (rd_w (ru_f h) 0) (rd_w (ru_f h) 1) N 0 (pu_now M) 0 ks = some (S, r) ∧ (∃ k2, ru_F M L N h val ru_b2 = some (v, k2)) ∧ val S r ≤ v) := by
  have key : ∀ ks, ∃ c, c < 2 ^ N ∧ rd_rn (odv M L) (M.2.1 5 7) (rd_w (ru_f h) 0) (rd_w (ru_f h) 1) N 0 (pu_now M) 0 c = rd_rn (odv M L) (M.2.1 5 7) (rd_w (ru_f h) 0) (rd_w (ru_f h) 1) N 0 (pu_now M) 0 ks := by
    intro ks
    refine ⟨ks % 2 ^ N, Nat.mod_lt _ (Nat.two_pow_pos _), ?_⟩
    have gen : ∀ (d k : Nat) (S : pu_T) (r : Nat), d ≤ N → rd_rn (odv M L) (M.2.1 5 7) (rd_w (ru_f h) 0) (rd_w (ru_f h) 1) d k S r (ks % 2 ^ N) = rd_rn (odv M L) (M.2.1 5 7) (rd_w (ru_f h) 0) (rd_w (ru_f h) 1) d k S r ks := by
      intro d
      induction d with
      | zero => intro k S r _; rfl
      | succ d ih =>
        intro k S r hd
        have e : ks % 2 ^ N / 2 ^ d % 2 = ks / 2 ^ d % 2 := by
          have e2 : 2 ^ N = 2 ^ d * (2 * 2 ^ (N - d - 1)) := by
            rw [← Nat.pow_succ', ← Nat.pow_add]
            congr 1
            omega
          rw [e2, Nat.mod_mul_right_div_self, Nat.mod_mul_right_mod]
        rw [rd_rn, rd_rn, e]
        cases rd_st (odv M L) (M.2.1 5 7) (rd_w (ru_f h) 0) (rd_w (ru_f h) 1) S k (ks / 2 ^ d % 2) with
        | none => rfl
        | some x => exact ih (k + 1) x.1 (r + x.2) (by omega)
    exact gen N 0 _ 0 (Nat.le_refl _)
  rcases ru_F_end (M := M) (L := L) (N := N) (h := h) (val := ru_v1) (btr := ru_b1) ru_t1 ru_r1 with ⟨a1, a2⟩ | ⟨ks, S, r, a1, a2, a3⟩
  · rcases ru_F_end (M := M) (L := L) (N := N) (h := h) (val := val) (btr := ru_b2) ru_t2 ru_r2 with ⟨b1, b2⟩ | ⟨ks, S, r, b1, b2, b3⟩
    · exact Or.inl ⟨a1, b1⟩
    · obtain ⟨c, hc, ec⟩ := key ks
      rw [a2 c hc, b2] at ec
      cases ec
  · rcases ru_F_end (M := M) (L := L) (N := N) (h := h) (val := val) (btr := ru_b2) ru_t2 ru_r2 with ⟨b1, b2⟩ | ⟨k2, S2, r2, b1, b2, b3⟩
    · obtain ⟨c, hc, ec⟩ := key ks
      rw [b2 c hc, a2] at ec
      cases ec
    · have hr := ru_r _ _ _ _ _ _ _ a2
      refine Or.inr ⟨ks, S, r, val S2 r2, a1, by omega, a2, ⟨k2, b1⟩, ?_⟩
      obtain ⟨c, hc, ec⟩ := key ks
      have := b3 c S r hc (ec.trans a2)
      unfold ru_b2 at this
      simp only [decide_eq_true_eq] at this
      exact Int32.not_lt.mp this
end ROUND
