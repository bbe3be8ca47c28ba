/-! pairs round, cleanest -/
section ROUND5
variable {X : ro_Sx}
/-- the class's start, its search, and the end of both -/
theorem rd_86 {M : ro_Mm} (h : ro_Inv M) {od : Nat → Nat → Int32 → Int32 → Int32} (hod : od_is M od) {p N z : Nat} (hp : p ≤ 6) (e1 : M.2.1 5 4 = nI p) {f : Nat → Int32} (hl : rd_len M p f z N) {cl : Bool} {val : pu_T → Nat → Int32} {btr : Int32 → Int32 → Bool}
    (hw : ∀ (A : ro_Mm) (S : pu_T) (r ks : Nat) (a : rd_A), rd_S M p N f cl A S → rd_acc A N a → rd_S M p N f cl (xm_88 A (nI r) (nI (rv N ks))) S ∧ rd_acc (xm_88 A (nI r) (nI (rv N ks))) N (rd_up btr a (val S r) ks))
    (hpr : cl = false → ∀ (d k : Nat) (S : pu_T) (r ks : Nat) (v : Int32) (k0 : Nat), ¬ nI r < v → r + d ≤ 100 → rd_ds od (M.2.1 5 7) (rd_w f 0) (rd_w f 1) val btr d k S r ks (some (v, k0)) = some (v, k0))
    {A : ro_Mm} (hA : ro_eqv M A) (e5 : A.2.1 42 5 = nI N) (hab : rd_ab A f N) :
    xp_86 A cl ∧ ro_eqv M (xm_86 A cl) ∧ rd_acc (xm_86 A cl) N (rd_fd od (M.2.1 5 7) (rd_w f 0) (rd_w f 1) val btr N (pu_now M) (2 ^ N) 0 none) ∧ xf_86 A cl = ro_t ((xm_86 A cl).2.1 42 9) := by
  have e18 : xf_18 A = nI p := by show A.2.1 5 4 = nI p; rw [hA.2.1 5 4 rfl]; exact e1
  obtain ⟨c1, c2, c3⟩ := pu_68 (M := M) hA (c := 43) (p := p) (by unfold ro_ip; decide) (by decide) hp
  have E1 : ro_eqv M (xm_68 A 43 6 (nI p)) := pu_fr_e (Or.inr (Or.inl rfl)) hA c3
  have E2 : ro_eqv M (ro_sI (ro_sI (ro_sI (ro_sI (xm_68 A 43 6 (nI p)) 42 8 (ro_b cl)) 42 9 (0 : Int32)) 42 6 (0 : Int32)) 42 7 (0 : Int32)) := ro_eqv_s (ro_eqv_s (ro_eqv_s (ro_eqv_s E1 rfl) rfl) rfl) rfl
  have hS : rd_S M p N f cl (ro_sI (ro_sI (ro_sI (ro_sI (xm_68 A 43 6 (nI p)) 42 8 (ro_b cl)) 42 9 (0 : Int32)) 42 6 (0 : Int32)) 42 7 (0 : Int32)) (pu_now M) := by
    refine ⟨E2, pu_at_c c2 (fun y _ => ⟨?_, ?_⟩), ?_, ?_, fun y hy => ?_⟩
    · rw [ro_sI_ne (by decide), ro_sI_ne (by decide), ro_sI_ne (by decide), ro_sI_ne (by decide)]
    · rw [ro_sI_ne (by decide), ro_sI_ne (by decide), ro_sI_ne (by decide), ro_sI_ne (by decide)]
    · rw [ro_rd_s, if_neg (by omega), ro_rd_s, if_neg (by omega), ro_rd_s, if_neg (by omega), ro_rd_s, if_neg (by omega), c3.2.2 42 5 (by decide) (by decide)]; exact e5
    · rw [ro_rd_s, if_neg (by omega), ro_rd_s, if_neg (by omega), ro_rd_s, if_neg (by omega), ro_rd_s, if_pos ⟨rfl, rfl⟩]
    · simp only [ro_sI_ne (show (46 : Nat) ≠ 42 by decide), ro_sI_ne (show (47 : Nat) ≠ 42 by decide)]
      rw [c3.2.2 46 y (by decide) (by decide), c3.2.2 47 y (by decide) (by decide)]
      exact hab y hy
  have ha : rd_acc (ro_sI (ro_sI (ro_sI (ro_sI (xm_68 A 43 6 (nI p)) 42 8 (ro_b cl)) 42 9 (0 : Int32)) 42 6 (0 : Int32)) 42 7 (0 : Int32)) N none := by
    show (ro_sI (ro_sI (ro_sI (ro_sI (xm_68 A 43 6 (nI p)) 42 8 (ro_b cl)) 42 9 (0 : Int32)) 42 6 (0 : Int32)) 42 7 (0 : Int32)).2.1 42 9 = 0
    rw [ro_rd_s, if_neg (by omega), ro_rd_s, if_neg (by omega), ro_rd_s, if_pos ⟨rfl, rfl⟩]
  have hn : N < rc_N := by rw [rc_N_eq]; have := hl.1; omega
  obtain ⟨q1, q2, q3⟩ := rd_sea (val := val) (btr := btr) hod hp hl.1 (fun y hy => (hl.2.1 y hy).2.2) hw hpr N 0 rc_N (by omega) hn _ (pu_now M) 0 0 none (Nat.le_refl _) hS ha
  rw [← rd_top] at q3
  have z0 : nI (rv 0 0) = 0 := rfl
  rw [z0, nI_0] at q1 q2 q3
  have m86 : xm_86 A cl = xr_sea rc_N (ro_sI (ro_sI (ro_sI (ro_sI (xm_68 A 43 6 (nI p)) 42 8 (ro_b cl)) 42 9 (0 : Int32)) 42 6 (0 : Int32)) 42 7 (0 : Int32)) 0 0 0 := by
    unfold xm_86 xm_87; rw [e18]
  have f86 : xf_86 A cl = ro_t ((xm_86 A cl).2.1 42 9) := rfl
  rw [← m86] at q2 q3
  refine ⟨?_, q2.1, q3, f86⟩
  have h9 : (xm_86 A cl).2.1 42 9 = 0 ∨ (xm_86 A cl).2.1 42 9 = 1 := by
    cases hq : rd_fd od (M.2.1 5 7) (rd_w f 0) (rd_w f 1) val btr N (pu_now M) (2 ^ N) 0 none with
    | none => rw [hq] at q3; exact Or.inl q3
    | some x => rw [hq] at q3; exact Or.inr q3.1
  have p86 : xp_86 A cl = (xp_68 A 43 6 (xf_18 A) ∧ (xpr_sea rc_N (ro_sI (ro_sI (ro_sI (ro_sI (xm_68 A 43 6 (xf_18 A)) 42 8 (ro_b cl)) 42 9 (0 : Int32)) 42 6 (0 : Int32)) 42 7 (0 : Int32)) 0 0 0 ∧ (((xm_86 A cl).2.1 42 9 = 0 ∨ (xm_86 A cl).2.1 42 9 = 1) ∧ True))) := rfl
  rw [p86, e18]
  exact ⟨c1, q1, h9, trivial⟩
theorem rd_S_w {M : ro_Mm} {p N : Nat} {f : Nat → Int32} {cl : Bool} {A : ro_Mm} {S : pu_T} {x y : Int32} (h : rd_S M p N f cl A S) : rd_S M p N f cl (ro_sI (ro_sI (ro_sI A 42 9 1) 42 6 x) 42 7 y) S := by
  obtain ⟨h1, h2, h3, h4, h5⟩ := h
  refine ⟨ro_eqv_s (ro_eqv_s (ro_eqv_s h1 rfl) rfl) rfl, pu_at_c h2 (fun y _ => ⟨?_, ?_⟩), ?_, ?_, fun y hy => ?_⟩
  · rw [ro_sI_ne (by decide), ro_sI_ne (by decide), ro_sI_ne (by decide)]
  · rw [ro_sI_ne (by decide), ro_sI_ne (by decide), ro_sI_ne (by decide)]
  · rw [ro_rd_s, if_neg (by omega), ro_rd_s, if_neg (by omega), ro_rd_s, if_neg (by omega)]; exact h3
  · rw [ro_rd_s, if_neg (by omega), ro_rd_s, if_neg (by omega), ro_rd_s, if_neg (by omega)]; exact h4
  · simp only [ro_sI_ne (show (46 : Nat) ≠ 42 by decide), ro_sI_ne (show (47 : Nat) ≠ 42 by decide)]
    exact h5 y hy
theorem rd_acc_w {A : ro_Mm} {N : Nat} {x : Int32} {ks : Nat} : rd_acc (ro_sI (ro_sI (ro_sI A 42 9 1) 42 6 x) 42 7 (nI (rv N ks))) N (some (x, ks)) := by
  refine ⟨?_, ?_, ?_⟩
  · rw [ro_rd_s, if_neg (by omega), ro_rd_s, if_neg (by omega), ro_rd_s, if_pos ⟨rfl, rfl⟩]
  · rw [ro_rd_s, if_neg (by omega), ro_rd_s, if_pos ⟨rfl, rfl⟩]
  · rw [ro_rd_s, if_pos ⟨rfl, rfl⟩]
theorem rd_w1 {M : ro_Mm} {p N : Nat} {f : Nat → Int32} (A : ro_Mm) (S : pu_T) (r ks : Nat) (a : rd_A) (hS : rd_S M p N f false A S) (ha : rd_acc A N a) : rd_S M p N f false (xm_88 A (nI r) (nI (rv N ks))) S ∧ rd_acc (xm_88 A (nI r) (nI (rv N ks))) N (rd_up (fun x y => decide (x < y)) a (nI r) ks) := by
  have c8 : A.2.1 42 8 = 0 := hS.2.2.2.1
  unfold xm_88
  rw [if_pos c8]
  cases a with
  | none =>
    have c9 : A.2.1 42 9 = 0 := ha
    rw [if_pos c9]
    by_cases c : A.2.1 42 6 ≤ nI r
    · rw [if_pos c]; exact ⟨rd_S_w hS, rd_acc_w⟩
    · rw [if_neg c]; exact ⟨rd_S_w hS, rd_acc_w⟩
  | some x =>
    obtain ⟨b, k0⟩ := x
    obtain ⟨a1, a2, a3⟩ := ha
    have c9 : ¬ A.2.1 42 9 = 0 := by rw [a1]; decide
    have hu : rd_up (fun x y => decide (x < y)) (some (b, k0)) (nI r) ks = if A.2.1 42 6 ≤ nI r then some (b, k0) else some (nI r, ks) := by
      rw [a2]
      show (if decide (nI r < b) = true then _ else _) = _
      by_cases q : nI r < b
      · rw [if_pos (by simp [q]), if_neg (Int32.not_le.mpr q)]
      · rw [if_neg (by simp [q]), if_pos (Int32.not_lt.mp q)]
    rw [if_neg c9, hu]
    by_cases c : A.2.1 42 6 ≤ nI r
    · rw [if_pos c, if_pos c]; exact ⟨hS, a1, a2, a3⟩
    · rw [if_neg c, if_neg c]; exact ⟨rd_S_w hS, rd_acc_w⟩
theorem rd_w2 {M : ro_Mm} {p N : Nat} (hp : p ≤ 6) {f : Nat → Int32} (hN : 0 < N) (hi : rd_w f 0 0 < p) (ei : f 0 = nI (rd_w f 0 0)) (A : ro_Mm) (S : pu_T) (r ks : Nat) (a : rd_A) (hS : rd_S M p N f true A S) (ha : rd_acc A N a) : rd_S M p N f true (xm_88 A (nI r) (nI (rv N ks))) S ∧ rd_acc (xm_88 A (nI r) (nI (rv N ks))) N (rd_up (fun x y => decide (y < x)) a (rd_val M f S r) ks) := by
  have c8 : ¬ A.2.1 42 8 = 0 := by rw [hS.2.2.2.1]; decide
  have e46 : A.2.1 46 0 = nI (rd_w f 0 0) := by rw [(hS.2.2.2.2 0 hN).1]; exact ei
  have hv : xf_37 A 43 (A.2.1 46 0) = rd_val M f S r := by
    unfold xf_37 xf_38
    rw [e46, x31 (by omega), x32 (by omega), hS.1.2.1 5 5 rfl]
    have t1 : A.2.1 (43 + 1) (rd_w f 0 0) = S.1 (rd_w f 0 0) := (hS.2.1 _ hi).1
    have t2 : A.2.1 (43 + 2) (rd_w f 0 0) = S.2 (rd_w f 0 0) := (hS.2.1 _ hi).2
    rw [t1, t2]; rfl
  unfold xm_88
  rw [if_neg c8, hv]
  cases a with
  | none =>
    have c9 : A.2.1 42 9 = 0 := ha
    rw [if_pos c9]
    by_cases c : rd_val M f S r ≤ A.2.1 42 6
    · rw [if_pos c]; exact ⟨rd_S_w hS, rd_acc_w⟩
    · rw [if_neg c]; exact ⟨rd_S_w hS, rd_acc_w⟩
  | some x =>
    obtain ⟨b, k0⟩ := x
    obtain ⟨a1, a2, a3⟩ := ha
    have c9 : ¬ A.2.1 42 9 = 0 := by rw [a1]; decide
    have hu : rd_up (fun x y => decide (y < x)) (some (b, k0)) (rd_val M f S r) ks = if rd_val M f S r ≤ A.2.1 42 6 then some (b, k0) else some (rd_val M f S r, ks) := by
      rw [a2]
      show (if decide (b < rd_val M f S r) = true then _ else _) = _
      by_cases q : b < rd_val M f S r
      · rw [if_pos (by simp [q]), if_neg (Int32.not_le.mpr q)]
      · rw [if_neg (by simp [q]), if_pos (Int32.not_lt.mp q)]
    rw [if_neg c9, hu]
    by_cases c : rd_val M f S r ≤ A.2.1 42 6
    · rw [if_pos c, if_pos c]; exact ⟨hS, a1, a2, a3⟩
    · rw [if_neg c, if_neg c]; exact ⟨rd_S_w hS, rd_acc_w⟩
theorem rv_lt10 {N ks : Nat} (hN : N ≤ 10) : rv N ks < 1024 := by
  have := rv_lt N ks
  have := Nat.pow_le_pow_right (n := 2) (by decide) hN
  have e : (2 : Nat) ^ 10 = 1024 := by decide
  omega
theorem all_9 {M : ro_Mm} (h : ro_Inv M) {v1 v2 : Int32} : xp_83 M v1 v2 ∧ xp_247 (xm_83 M v1 v2) v1 v2 ∧ xf_247 (xm_83 M v1 v2) v1 v2 = xf_83 M v1 v2 ∧ ro_eqv M (xm_247 (xm_83 M v1 v2) v1 v2) := by
  obtain ⟨p, hp, e1, e2⟩ := ro_ppl h
  obtain ⟨od, hod⟩ := od_ex h
  by_cases b1 : ro_bs v1 = true
  · have f1 : ∀ A : ro_Mm, xf_198 A v1 = true := fun A => by rw [ro_w198]; exact b1
    by_cases b2 : (-1 : Int32) ≤ v2
    · by_cases y1 : xf_22 M (ro_sc v1) = true
      · obtain ⟨f, z, N, hz, e191, hb, hl, r1, r2, r3, r4⟩ := rd_read h hp e1 b1 y1
        obtain ⟨s1, s2, s3⟩ := ro_sx b1
        have hN := hl.1
        obtain ⟨q1, q2, q3, q4⟩ := rd_86 h hod hp e1 hl (cl := false) (val := fun _ r => nI r) (btr := fun x y => decide (x < y)) rd_w1 (fun _ => rd_prune2 od (M.2.1 5 7) (rd_w f 0) (rd_w f 1)) r2 r3 r4
        obtain ⟨g0, _⟩ := by_yes h b1 y1
        -- the reference, over any memory that agrees
        have RF : ∀ A : ro_Mm, ro_eqv M A → xf_248 A v1 = nI N ∧ xp_247 A v1 v2 ∧ ro_eqv M (xm_247 A v1 v2) ∧ rd_ra (rd_fd od (M.2.1 5 7) (rd_w f 0) (rd_w f 1) (fun _ r => nI r) (fun x y => decide (x < y)) N (pu_now M) (2 ^ N) 0 none) (xg_247_44 lp_N A 0 0 (-2) (nI N) v1 v2).2.1 (xg_247_44 lp_N A 0 0 (-2) (nI N) v1 v2).2.2.1 ∧ (0 : Int32) ≤ xf_235 A v1 := fun A hA => by
          obtain ⟨t1, t2⟩ := rd_248 h hA s1 hz e191 hb hl 10 0 lp_N (by omega) (by omega) (lp_hug (by omega))
          rw [nI_0] at t1 t2
          have p10 : 2 ^ N ≤ 1024 := Nat.pow_le_pow_right (n := 2) (by decide) hN
          obtain ⟨i1, i2, i3⟩ := rd_247 h hod hp e2 hl hb (v2 := v2) (2 ^ N) 0 lp_N A 0 (-2) none (by omega) (lp_hug (by omega)) hA rfl
          rw [nI_0] at i1 i2 i3
          have g1 : xf_235 A v1 = 0 := by rw [← g0]; unfold xf_235; rw [hA.2.1 190 _ rfl]
          have g2 : (0 : Int32) ≤ xf_235 A v1 := by rw [g1]; decide
          have t3 : xf_248 A v1 = nI N := t1
          refine ⟨t3, ?_, ?_, i3, g2⟩
          · unfold xp_247
            rw [t3]
            exact ⟨fun _ => ⟨fun _ => ⟨xp_235_t b1, fun _ => ⟨⟨t2, trivial⟩, i1, trivial⟩, fun y => absurd g2 y⟩, fun y => absurd b2 y⟩, fun y => absurd (f1 _) y⟩
          · unfold xm_247
            rw [if_pos (f1 _), if_pos b2, if_pos g2, t3]; exact i2
        have f85 : xf_85 (xm_84 M (ro_sc v1)) = nI N := r3
        by_cases c1 : nI N ≤ v2
        · have hm : xm_83 M v1 v2 = xm_84 M (ro_sc v1) := by unfold xm_83; rw [if_pos b1, if_pos b2, if_pos y1, f85, if_pos c1]
          rw [hm]
          obtain ⟨u1, u2, u3, u4, u5⟩ := RF _ r2
          refine ⟨?_, u2, ?_, u3⟩
          · unfold xp_83
            rw [f85]
            exact ⟨fun _ => ⟨fun _ => ⟨fun _ => ⟨r1, fun _ => trivial, fun y => absurd c1 y⟩, fun y => absurd y1 y⟩, fun y => absurd b2 y⟩, fun y => absurd b1 y⟩
          · unfold xf_247 xf_83
            rw [if_pos (f1 _), if_pos b2, if_pos u5, u1, if_pos b1, if_pos b2, if_pos y1, f85, if_pos c1]
            have c2 : ¬ v2 < nI N := Int32.not_lt.mpr c1
            rw [if_neg c2]
            by_cases c3 : (xg_247_44 lp_N (xm_84 M (ro_sc v1)) 0 0 (-2) (nI N) v1 v2).2.2.1 < 0
            · rw [if_pos c3]
            · rw [if_neg c3]
        · have hm : xm_83 M v1 v2 = xm_86 (xm_84 M (ro_sc v1)) false := by unfold xm_83; rw [if_pos b1, if_pos b2, if_pos y1, f85, if_neg c1]
          rw [hm]
          obtain ⟨u1, u2, u3, u4, u5⟩ := RF _ q2
          refine ⟨?_, u2, ?_, u3⟩
          · unfold xp_83
            rw [f85]
            exact ⟨fun _ => ⟨fun _ => ⟨fun _ => ⟨r1, fun y => absurd y c1, fun _ => ⟨q1, trivial⟩⟩, fun y => absurd y1 y⟩, fun y => absurd b2 y⟩, fun y => absurd b1 y⟩
          · unfold xf_247 xf_83
            rw [if_pos (f1 _), if_pos b2, if_pos u5, u1, if_pos b1, if_pos b2, if_pos y1, f85, if_neg c1, q4]
            have c2 : v2 < nI N := Int32.not_le.mp c1
            rw [if_pos c2]
            cases hq : rd_fd od (M.2.1 5 7) (rd_w f 0) (rd_w f 1) (fun _ r => nI r) (fun x y => decide (x < y)) N (pu_now M) (2 ^ N) 0 none with
            | none =>
              rw [hq] at u4 q3
              have u4 : (xg_247_44 lp_N (xm_86 (xm_84 M (ro_sc v1)) false) 0 0 (-2) (nI N) v1 v2).2.2.1 = -2 := u4
              have q3 : (xm_86 (xm_84 M (ro_sc v1)) false).2.1 42 9 = 0 := q3
              rw [u4, if_pos (by decide), q3, if_neg (by decide)]
            | some x =>
              obtain ⟨v, ks⟩ := x
              rw [hq] at u4 q3
              obtain ⟨w1, w2, w3⟩ := u4
              obtain ⟨w4, w5, w6⟩ := q3
              have c3 : ¬ nI ks < 0 := nI_pos (by omega)
              have t1 : ro_t 1 = true := by decide
              rw [w2, if_neg c3, w4, if_pos t1, w1]
              unfold xf_91 xf_92
              rw [w5, w6]
              by_cases c4 : (0 : Int32) ≤ v2
              · rw [if_pos c4, if_pos c4]
                have c5 : ¬ v2 < 0 := Int32.not_lt.mpr c4
                obtain ⟨k, hk, ek⟩ := nI_of c5
                subst ek
                have kN : k < N := (nI_ltI hk (by omega)).mp c2
                have c6 : ¬ (10 : Int32) ≤ nI k := nI_ge (b := 10) (by omega) (by omega)
                rw [if_neg c5, if_neg c6, rb_bit k (by omega) _ (rv_lt10 hN)]
                have e : nI N - 1 - nI k = nI (N - 1 - k) := by
                  show nI N - nI 1 - nI k = _
                  rw [nI_sub (by omega), nI_sub (by omega)]
                rw [e, rb_bit (N - 1 - k) (by omega) ks w3, rv_bit N ks k kN]
              · rw [if_neg c4, if_neg c4]
      · have hm : xm_83 M v1 v2 = M := by unfold xm_83; rw [if_pos b1, if_pos b2, if_neg y1]
        obtain ⟨g0, g1⟩ := by_no h b1 y1
        have n0 : ¬ (0 : Int32) ≤ xf_235 M v1 := Int32.not_le.mpr g0
        rw [hm]
        refine ⟨⟨fun _ => ⟨fun _ => ⟨fun y => absurd y y1, fun _ => trivial⟩, fun y => absurd b2 y⟩, fun y => absurd b1 y⟩, ?_, ?_, ?_⟩
        · unfold xp_247
          exact ⟨fun _ => ⟨fun _ => ⟨xp_235_t b1, fun y => absurd y n0, fun _ => ⟨xp_235_t b1, trivial⟩⟩, fun y => absurd b2 y⟩, fun y => absurd (f1 _) y⟩
        · unfold xf_247 xf_83
          rw [if_pos (f1 _), if_pos b2, if_neg n0, if_pos b1, if_pos b2, if_neg y1, g1]
        · unfold xm_247
          rw [if_pos (f1 _), if_pos b2, if_neg n0]
          exact ro_eqv_r h.1
    · have hm : xm_83 M v1 v2 = M := by unfold xm_83; rw [if_pos b1, if_neg b2]
      rw [hm]
      refine ⟨⟨fun _ => ⟨fun y => absurd y b2, fun _ => trivial⟩, fun y => absurd b1 y⟩, ⟨fun _ => ⟨fun y => absurd y b2, fun _ => trivial⟩, fun _ => trivial⟩, ?_, ?_⟩
      · unfold xf_247 xf_83
        rw [if_pos (f1 _), if_neg b2, if_pos b1, if_neg b2]
      · unfold xm_247
        rw [if_pos (f1 _), if_neg b2]
        exact ro_eqv_r h.1
  · have hm : xm_83 M v1 v2 = M := by unfold xm_83; rw [if_neg b1]
    have f1 : ¬ xf_198 M v1 = true := by rw [ro_w198]; exact b1
    rw [hm]
    refine ⟨⟨fun y => absurd y b1, fun _ => trivial⟩, ⟨fun y => absurd y f1, fun _ => trivial⟩, ?_, ?_⟩
    · unfold xf_247 xf_83
      rw [if_neg f1, if_neg b1]
    · unfold xm_247
      rw [if_neg f1]
      exact ro_eqv_r h.1
theorem all_10 {M : ro_Mm} (h : ro_Inv M) {v1 : Int32} : xp_93 M v1 ∧ xp_250 (xm_93 M v1) v1 ∧ xf_250 (xm_93 M v1) v1 = xf_93 M v1 ∧ ro_eqv M (xm_250 (xm_93 M v1) v1) := by
  obtain ⟨p, hp, e1, e2⟩ := ro_ppl h
  obtain ⟨od, hod⟩ := od_ex h
  by_cases b1 : ro_bs v1 = true
  · have f1 : ∀ A : ro_Mm, xf_198 A v1 = true := fun A => by rw [ro_w198]; exact b1
    by_cases y1 : xf_22 M (ro_sc v1) = true
    · obtain ⟨f, z, N, hz, e191, hb, hl, r1, r2, r3, r4⟩ := rd_read h hp e1 b1 y1
      obtain ⟨s1, s2, s3⟩ := ro_sx b1
      have hN := hl.1
      obtain ⟨g0, _⟩ := by_yes h b1 y1
      have G : ∀ A : ro_Mm, ro_eqv M A → xf_248 A v1 = nI N ∧ xp_248 A v1 ∧ (0 : Int32) ≤ xf_235 A v1 := fun A hA => by
        obtain ⟨t1, t2⟩ := rd_248 h hA s1 hz e191 hb hl 10 0 lp_N (by omega) (by omega) (lp_hug (by omega))
        rw [nI_0] at t1 t2
        have g1 : xf_235 A v1 = 0 := by rw [← g0]; unfold xf_235; rw [hA.2.1 190 _ rfl]
        exact ⟨t1, ⟨t2, trivial⟩, by rw [g1]; decide⟩
      have f85 : xf_85 (xm_84 M (ro_sc v1)) = nI N := r3
      by_cases c1 : 0 < N
      · have c2 : ¬ nI N ≤ 0 := nI_nle c1 (by omega)
        have hi := (hl.2.1 0 c1).2.2.1
        have ei := (hl.2.1 0 c1).2.2.2.2.2.1
        obtain ⟨q1, q2, q3, q4⟩ := rd_86 h hod hp e1 hl (cl := true) (val := rd_val M f) (btr := fun x y => decide (y < x)) (rd_w2 hp c1 hi ei) (fun q => absurd q (by decide)) r2 r3 r4
        have hm : xm_93 M v1 = xm_86 (xm_84 M (ro_sc v1)) true := by unfold xm_93; rw [if_pos b1, if_pos y1, f85, if_neg c2]
        rw [hm]
        obtain ⟨t3, t2, g2⟩ := G _ q2
        have p10 : 2 ^ N ≤ 1024 := Nat.pow_le_pow_right (n := 2) (by decide) hN
        obtain ⟨i1, i2, i3⟩ := rd_250 h hod hp e2 hl c1 hb (2 ^ N) 0 lp_N (xm_86 (xm_84 M (ro_sc v1)) true) (-2) none (by omega) (lp_hug (by omega)) q2 rfl
        rw [nI_0] at i1 i2 i3
        refine ⟨?_, ?_, ?_, ?_⟩
        · unfold xp_93
          rw [f85]
          exact ⟨fun _ => ⟨fun _ => ⟨r1, fun y => absurd y c2, fun _ => ⟨q1, trivial⟩⟩, fun y => absurd y1 y⟩, fun y => absurd b1 y⟩
        · unfold xp_250
          rw [t3]
          exact ⟨fun _ => ⟨xp_235_t b1, fun _ => ⟨t2, i1, trivial⟩, fun y => absurd g2 y⟩, fun y => absurd (f1 _) y⟩
        · unfold xf_250 xf_93
          rw [if_pos (f1 _), if_pos g2, t3, if_pos b1, if_pos y1, f85, if_neg c2, q4]
          unfold xf_91
          cases hq : rd_fd od (M.2.1 5 7) (rd_w f 0) (rd_w f 1) (rd_val M f) (fun x y => decide (y < x)) N (pu_now M) (2 ^ N) 0 none with
          | none =>
            rw [hq] at i3 q3
            have q3 : (xm_86 (xm_84 M (ro_sc v1)) true).2.1 42 9 = 0 := q3
            rw [q3, if_neg (by decide)]; exact i3
          | some x =>
            obtain ⟨v, ks⟩ := x
            rw [hq] at i3 q3
            rw [q3.1, if_pos (by decide), q3.2.1]; exact i3
        · unfold xm_250
          rw [if_pos (f1 _), if_pos g2, t3]; exact i2
      · have c2 : nI N ≤ 0 := nI_le (b := 0) (by omega) (by omega)
        have hm : xm_93 M v1 = xm_84 M (ro_sc v1) := by unfold xm_93; rw [if_pos b1, if_pos y1, f85, if_pos c2]
        rw [hm]
        obtain ⟨t3, t2, g2⟩ := G _ r2
        have eN : N = 0 := by omega
        subst eN
        obtain ⟨m, em⟩ := lp_9
        have c0 : ¬ (1 : Int32) <<< (nI 0 &&& 31) ≤ 0 := by decide
        have i0 : xg_250_35 lp_N (xm_84 M (ro_sc v1)) 0 (-2) (nI 0) v1 = (0, -2, xm_84 M (ro_sc v1)) := by
          rw [em, xg_250_35, if_neg c0, if_pos c2]
        have i1 : xq_250_35 lp_N (xm_84 M (ro_sc v1)) 0 (-2) (nI 0) v1 := by
          rw [em, xq_250_35]
          exact ⟨fun y => absurd y c0, fun _ => ⟨fun _ => trivial, fun y => absurd c2 y⟩⟩
        refine ⟨?_, ?_, ?_, ?_⟩
        · unfold xp_93
          rw [f85]
          exact ⟨fun _ => ⟨fun _ => ⟨r1, fun _ => trivial, fun y => absurd c2 y⟩, fun y => absurd y1 y⟩, fun y => absurd b1 y⟩
        · unfold xp_250
          rw [t3]
          exact ⟨fun _ => ⟨xp_235_t b1, fun _ => ⟨t2, i1, trivial⟩, fun y => absurd g2 y⟩, fun y => absurd (f1 _) y⟩
        · unfold xf_250 xf_93
          rw [if_pos (f1 _), if_pos g2, t3, if_pos b1, if_pos y1, f85, if_pos c2, i0]
        · unfold xm_250
          rw [if_pos (f1 _), if_pos g2, t3, i0]; exact r2
    · have hm : xm_93 M v1 = M := by unfold xm_93; rw [if_pos b1, if_neg y1]
      obtain ⟨g0, g1⟩ := by_no h b1 y1
      have n0 : ¬ (0 : Int32) ≤ xf_235 M v1 := Int32.not_le.mpr g0
      rw [hm]
      refine ⟨⟨fun _ => ⟨fun y => absurd y y1, fun _ => trivial⟩, fun y => absurd b1 y⟩, ?_, ?_, ?_⟩
      · unfold xp_250
        exact ⟨fun _ => ⟨xp_235_t b1, fun y => absurd y n0, fun _ => ⟨xp_235_t b1, trivial⟩⟩, fun y => absurd (f1 _) y⟩
      · unfold xf_250 xf_93
        rw [if_pos (f1 _), if_neg n0, if_pos b1, if_neg y1, g1]
      · unfold xm_250
        rw [if_pos (f1 _), if_neg n0]
        exact ro_eqv_r h.1
  · have hm : xm_93 M v1 = M := by unfold xm_93; rw [if_neg b1]
    have f1 : ¬ xf_198 M v1 = true := by rw [ro_w198]; exact b1
    rw [hm]
    refine ⟨⟨fun y => absurd y b1, fun _ => trivial⟩, ⟨fun y => absurd y f1, fun _ => trivial⟩, ?_, ?_⟩
    · unfold xf_250 xf_93
      rw [if_neg f1, if_neg b1]
    · unfold xm_250
      rw [if_neg f1]
      exact ro_eqv_r h.1
end ROUND5

