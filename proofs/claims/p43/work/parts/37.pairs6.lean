/-! pairs of calls, on: taken, row (by program, wip/whole/gen37.py) -/
section PAIRS6
variable {X : ro_Sx}
theorem lp_9 : ∃ m, lp_N = m + 9 := ⟨99991, lp_N_eq⟩
theorem lp_hug {p : Nat} (h : p ≤ 90000) : p < lp_N := by rw [lp_N_eq]; omega
theorem cl_189 {M : ro_Mm} {v0 v1 : Int32} : ∀ (d j n : Nat) (v2 : Int32), j + d = 8 → d < n → xq_189_4 n M (nI j) v2 v0 v1 := by
  intro d
  induction d with
  | zero =>
    intro j n v2 hj hn
    cases n with
    | zero => omega
    | succ n =>
      have e : j = 8 := by omega
      have q : (8 : Int32) ≤ nI j := by rw [e]; decide
      rw [xq_189_4]
      exact ⟨fun _ => trivial, fun y => absurd q y⟩
  | succ d ih =>
    intro j n v2 hj hn
    cases n with
    | zero => omega
    | succ n =>
      rw [xq_189_4, ← nI_succ]
      exact ⟨fun _ => trivial, fun _ => ⟨fun _ => trivial, fun _ => ⟨fun _ => trivial, fun _ => ⟨fun _ => trivial, fun _ => ih (j + 1) n _ (by omega) (by omega)⟩⟩⟩⟩
theorem xp_189_t {M : ro_Mm} {v0 v1 : Int32} : xp_189 M v0 v1 := ⟨cl_189 8 0 lp_N v0 (by omega) (lp_hug (by omega)), trivial⟩
theorem ro_eight {w : Int32} (h : 0 ≤ w ∧ w ≤ 7) : w = 0 ∨ w = 1 ∨ w = 2 ∨ w = 3 ∨ w = 4 ∨ w = 5 ∨ w = 6 ∨ w = 7 := by grind
theorem xf_189_n {M : ro_Mm} {k : Int32} (hk : 0 ≤ k ∧ k ≤ 7) : xf_189 M (-1) k = false := by
  obtain ⟨m, e⟩ := lp_9
  unfold xf_189
  rw [e]
  rcases ro_eight hk with z | z | z | z | z | z | z | z <;> rw [z] <;> rfl
theorem ro_w161 {M : ro_Mm} {v : Int32} : xf_161 M v = xf_195 M v 0 7 := by grind [xf_161, xf_195]
theorem pc_38 {M : ro_Mm} (_h : ro_Inv M) {v1 v2 : Int32} : xp_187 M v1 v2 :=
  ⟨fun _ => ⟨fun _ => ⟨fun _ => trivial, fun _ => ⟨fun _ => ⟨xp_189_t, trivial⟩, fun _ => ⟨xp_189_t, trivial⟩⟩⟩, fun _ => trivial⟩, fun _ => trivial⟩
/-- zeros from k to p -/
def ro_z (J : Nat → Nat → Int64) (c k p : Nat) : Nat → Nat → Int64 := fun a j => if a = c ∧ k ≤ j ∧ j < p then 0 else J a j
theorem ro_z_end {J : Nat → Nat → Int64} {c k p : Nat} (h : p ≤ k) : ro_z J c k p = J := by
  funext a j
  unfold ro_z
  rw [if_neg (by omega)]
theorem ro_z_step {J : Nat → Nat → Int64} {c k p : Nat} (h : k < p) : ro_z (ro_up2 J c k 0) c (k + 1) p = ro_z J c k p := by
  funext a j
  unfold ro_z
  by_cases e1 : a = c ∧ j = k
  · have z1 : ¬ (a = c ∧ k + 1 ≤ j ∧ j < p) := by omega
    have z2 : a = c ∧ k ≤ j ∧ j < p := by omega
    rw [if_neg z1, if_pos z2, e1.1, e1.2, ro_up_s]
  · have z3 : ro_up2 J c k 0 a j = J a j := by unfold ro_up2; rw [if_neg e1]
    rw [z3]
    by_cases e2 : a = c ∧ k + 1 ≤ j ∧ j < p
    · have z2 : a = c ∧ k ≤ j ∧ j < p := by omega
      rw [if_pos e2, if_pos z2]
    · have z2 : ¬ (a = c ∧ k ≤ j ∧ j < p) := by omega
      rw [if_neg e2, if_neg z2]
theorem ro_nle {k : Nat} (h : k < 1000) : nI k ≤ nI k := nI_le (Nat.le_refl _) (by omega)
theorem ro_vn {k n : Nat} (h : k < n) (hn : n < 1000) : vp_in (nI k) n := by unfold vp_in; exact nI_in h (by omega)
theorem cl_178 {c0 p : Nat} {v1 : Int32} (hp : p ≤ 60) : ∀ (d k n : Nat) (M : ro_Mm), k + d = p → d < n →
    (xg_178_12 n M (nI k) c0 v1 (nI p)).2 = (M.1, M.2.1, ro_z M.2.2.1 (c0 + 1) k p, M.2.2.2) ∧ xq_178_12 n M (nI k) c0 v1 (nI p) := by
  intro d
  induction d with
  | zero =>
    intro k n M hk hn
    cases n with
    | zero => omega
    | succ n =>
      have e : k = p := by omega
      have q := ro_nle (show p < 1000 by omega)
      rw [e, xg_178_12, xq_178_12, if_pos q, ro_z_end (Nat.le_refl _)]
      exact ⟨rfl, fun _ => trivial, fun y => absurd q y⟩
  | succ d ih =>
    intro k n M hk hn
    cases n with
    | zero => omega
    | succ n =>
      have q1 : ¬ nI p ≤ nI k := nI_ge (by omega) (by omega)
      have q2 : ¬ (60 : Int32) ≤ nI k := nI_ge (a := k) (b := 60) (by omega) (by omega)
      have q3 : (nI k).toNatClampNeg = k := nI_clamp (by omega)
      rw [xg_178_12, xq_178_12, if_neg q1, if_neg q2, q3, ← nI_succ]
      obtain ⟨i1, i2⟩ := ih (k + 1) n (ro_sJ M (c0 + 1) k 0) (by omega) (by omega)
      rw [i1]
      refine ⟨?_, fun _ => trivial, fun _ => ⟨fun _ => trivial, fun _ => ⟨ro_vn (by omega) (by omega), i2⟩⟩⟩
      have e5 := ro_z_step (J := M.2.2.1) (c := c0 + 1) (show k < p by omega)
      rw [← e5]
      rfl
theorem ro_60n {i : Nat} (hi : i < 6) : (60 : Int32) * nI i + 60 = nI (60 * i + 60) ∧ (60 : Int32) * nI i = nI (60 * i) := by
  rcases (show i = 0 ∨ i = 1 ∨ i = 2 ∨ i = 3 ∨ i = 4 ∨ i = 5 by omega) with e | e | e | e | e | e <;> rw [e] <;> decide
theorem cl_301 {i : Nat} (hi : i < 6) {v2 v3 : Int32} : ∀ (d k n : Nat) (M : ro_Mm), k + d = 60 * i + 60 → d < n →
    (xg_301_54 n M (nI k) (nI i) v2 v3).2 = (M.1, M.2.1, ro_z M.2.2.1 192 k (60 * i + 60), M.2.2.2) ∧ xq_301_54 n M (nI k) (nI i) v2 v3 := by
  have b := (ro_60n hi).1
  intro d
  induction d with
  | zero =>
    intro k n M hk hn
    cases n with
    | zero => omega
    | succ n =>
      have e : k = 60 * i + 60 := by omega
      have q := ro_nle (show 60 * i + 60 < 1000 by omega)
      rw [e, xg_301_54, xq_301_54, b, if_pos q, ro_z_end (Nat.le_refl _)]
      exact ⟨rfl, fun _ => trivial, fun y => absurd q y⟩
  | succ d ih =>
    intro k n M hk hn
    cases n with
    | zero => omega
    | succ n =>
      have q1 : ¬ nI (60 * i + 60) ≤ nI k := nI_ge (by omega) (by omega)
      have q3 : (nI k).toNatClampNeg = k := nI_clamp (by omega)
      rw [xg_301_54, xq_301_54, b, if_neg q1, q3, ← nI_succ]
      obtain ⟨i1, i2⟩ := ih (k + 1) n (ro_sJ M 192 k 0) (by omega) (by omega)
      rw [i1]
      refine ⟨?_, fun _ => trivial, fun _ => ⟨ro_vn (by omega) (by omega), i2⟩⟩
      have e5 := ro_z_step (J := M.2.2.1) (c := 192) (show k < 60 * i + 60 by omega)
      rw [← e5]
      rfl
def rw_A (M : ro_Mm) (c : Nat) (v2 v3 : Int32) (p : Nat) : ro_Mm := (M.1, (ro_sI (ro_sI M c 1 v2) c 2 v3).2.1, ro_z M.2.2.1 (c + 1) 0 p, M.2.2.2)
def rw_B (A : ro_Mm) (i : Nat) (v2 v3 : Int32) : ro_Mm := (A.1, (ro_sI (ro_sI A 190 i (-2 - v2)) 191 i v3).2.1, ro_z A.2.2.1 192 (60 * i) (60 * i + 60), A.2.2.2)
theorem x178 {M : ro_Mm} {c p : Nat} {v2 : Int32} (hp : p ≤ 60) : xm_178 M c v2 (nI p) = rw_A M c v2 (nI p) p ∧ xp_178 M c v2 (nI p) := by
  have g := cl_178 (c0 := c) (v1 := v2) hp p 0 lp_N (ro_sI (ro_sI M c 1 v2) c 2 (nI p)) (by omega) (lp_hug (by omega))
  rw [nI_0] at g
  exact ⟨g.1, g.2, trivial⟩
theorem x301 {A : ro_Mm} {i : Nat} (hi : i < 6) {v2 v3 : Int32} : (xg_301_54 lp_N (ro_sI (ro_sI A 190 i (-2 - v2)) 191 i v3) (60 * nI i) (nI i) v2 v3).2 = rw_B A i v2 v3 ∧ xq_301_54 lp_N (ro_sI (ro_sI A 190 i (-2 - v2)) 191 i v3) (60 * nI i) (nI i) v2 v3 := by
  rw [(ro_60n hi).2]
  exact cl_301 hi 60 (60 * i) lp_N _ (by omega) (lp_hug (by omega))
theorem pc_34 {M : ro_Mm} (_h : ro_Inv M) {v1 v2 v3 : Int32} : xp_177 M v1 v2 v3 := by
  refine ⟨fun _ => ⟨fun _ => ⟨fun y => ⟨fun z => ⟨?_, trivial⟩, fun _ => trivial⟩, fun _ => trivial⟩, fun _ => trivial⟩, fun _ => trivial⟩
  have hp := ro_cle (n := 60) z y (by decide)
  rw [ro_nI_of z]
  exact (x178 hp).2
theorem pp_34a {A : ro_Mm} {v1 v2 v3 : Int32} : xp_301 A v1 v2 v3 := by
  refine ⟨fun w => ⟨fun _ => ⟨fun _ => ⟨fun _ => ?_, fun _ => trivial⟩, fun _ => trivial⟩, fun _ => trivial⟩, fun _ => trivial⟩
  rw [ro_w198] at w
  obtain ⟨s1, s2, s3⟩ := ro_sx w
  have e := ro_nI_of (ro_bs_t w).1
  refine ⟨s1, s1, ?_, trivial⟩
  have g := (x301 (A := A) s2 (v2 := v2) (v3 := v3)).2
  rw [← e] at g
  exact g
theorem pp_34 {M : ro_Mm} (_h : ro_Inv M) {v1 v2 v3 : Int32} : xp_301 (xm_177 M v1 v2 v3) v1 v2 v3 := pp_34a
theorem pe_34 {M : ro_Mm} (_h : ro_Inv M) {v1 v2 v3 : Int32} : xf_301 (xm_177 M v1 v2 v3) v1 v2 v3 = xf_177 M v1 v2 v3 := by
  have e : xf_195 (xm_177 M v1 v2 v3) v2 0 4 = xf_195 M v2 0 4 := rfl
  unfold xf_301 xf_177
  rw [ro_w198, ro_w13_195, e]
theorem pi_34 {M : ro_Mm} (h : ro_Inv M) {v1 v2 v3 : Int32} : ro_Inv (xm_301 (xm_177 M v1 v2 v3) v1 v2 v3) := by
  have hl := xl_301 (xl_177 h.1 (pc_34 h (v1 := v1) (v2 := v2) (v3 := v3))) (pp_34 h)
  by_cases hg : ro_bs v1 = true ∧ (0 ≤ v2 ∧ v2 ≤ 4) ∧ v3 ≤ 60 ∧ 0 ≤ v3
  · obtain ⟨h1, h2, h3, h4⟩ := hg
    obtain ⟨s1, s2, s3⟩ := ro_sx h1
    have hp := ro_cle (n := 60) h4 h3 (by decide)
    have e3 := ro_nI_of h4
    have e1 := ro_nI_of (ro_bs_t h1).1
    have eA : xm_177 M v1 v2 v3 = rw_A M (ro_sc v1) v2 v3 v3.toNatClampNeg := by
      unfold xm_177
      rw [if_pos h1, if_pos (ro_w13.mpr h2), if_pos h3, if_pos h4]
      have g := (x178 (M := M) (c := ro_sc v1) (v2 := v2) hp).1
      rw [← e3] at g
      exact g
    have eB : xm_301 (rw_A M (ro_sc v1) v2 v3 v3.toNatClampNeg) v1 v2 v3 = rw_B (rw_A M (ro_sc v1) v2 v3 v3.toNatClampNeg) v1.toNatClampNeg v2 v3 := by
      unfold xm_301
      rw [if_pos (by rw [ro_w198]; exact h1), if_pos (ro_w195.mpr h2), if_pos h3, if_pos h4]
      have g := (x301 (A := rw_A M (ro_sc v1) v2 v3 v3.toNatClampNeg) s2 (v2 := v2) (v3 := v3)).1
      rw [← e1] at g
      exact g
    rw [eA, eB] at hl ⊢
    refine ⟨hl, iv_r_c (fun c j e => ?_) h.2.1, iv_s_one (i := v1.toNatClampNeg) h.2.2 ?_ ?_⟩
    · obtain ⟨n1, n2, n3⟩ := ro_lr_ne e
      have n4 : c ≠ ro_sc v1 := fun e => n3 (by rw [e]; exact ro_sc_is v1)
      show (ro_up2 (ro_up2 (ro_up2 (ro_up2 M.2.1 (ro_sc v1) 1 v2) (ro_sc v1) 2 v3) 190 v1.toNatClampNeg (-2 - v2)) 191 v1.toNatClampNeg v3) c j = _
      rw [ro_up_o n2, ro_up_o n1, ro_up_o n4, ro_up_o n4]
    · intro s hs hne
      have n1 : 23 + 2 * s ≠ 190 := by omega
      have n0 : 23 + 2 * s ≠ 191 := by omega
      have n2 : 23 + 2 * s ≠ ro_sc v1 := by omega
      have n3 : 190 ≠ ro_sc v1 := by omega
      have n4 : 191 ≠ ro_sc v1 := by omega
      have n5 : 59 ≠ ro_sc v1 := by omega
      refine ⟨fun j => ?_, ?_, ?_, ?_, fun k hk => ⟨?_, ?_⟩⟩
      · show (ro_up2 (ro_up2 (ro_up2 (ro_up2 M.2.1 (ro_sc v1) 1 v2) (ro_sc v1) 2 v3) 190 v1.toNatClampNeg (-2 - v2)) 191 v1.toNatClampNeg v3) (23 + 2 * s) j = _
        rw [ro_up_o n0, ro_up_o n1, ro_up_o n2, ro_up_o n2]
      · show (ro_up2 (ro_up2 (ro_up2 (ro_up2 M.2.1 (ro_sc v1) 1 v2) (ro_sc v1) 2 v3) 190 v1.toNatClampNeg (-2 - v2)) 191 v1.toNatClampNeg v3) 190 s = _
        rw [ro_up_o (by decide), ro_up_p hne, ro_up_o n3, ro_up_o n3]
      · show (ro_up2 (ro_up2 (ro_up2 (ro_up2 M.2.1 (ro_sc v1) 1 v2) (ro_sc v1) 2 v3) 190 v1.toNatClampNeg (-2 - v2)) 191 v1.toNatClampNeg v3) 191 s = _
        rw [ro_up_p hne, ro_up_o (by decide), ro_up_o n4, ro_up_o n4]
      · show (ro_up2 (ro_up2 (ro_up2 (ro_up2 M.2.1 (ro_sc v1) 1 v2) (ro_sc v1) 2 v3) 190 v1.toNatClampNeg (-2 - v2)) 191 v1.toNatClampNeg v3) 59 2 = _
        rw [ro_up_o (by decide), ro_up_o (by decide), ro_up_o n5, ro_up_o n5]
      · show ro_z (ro_z M.2.2.1 (ro_sc v1 + 1) 0 v3.toNatClampNeg) 192 (60 * v1.toNatClampNeg) (60 * v1.toNatClampNeg + 60) 192 (60 * s + k) = _
        unfold ro_z
        rw [if_neg (by omega), if_neg (by omega)]
      · show ro_z (ro_z M.2.2.1 (ro_sc v1 + 1) 0 v3.toNatClampNeg) 192 (60 * v1.toNatClampNeg) (60 * v1.toNatClampNeg + 60) (24 + 2 * s) k = _
        unfold ro_z
        rw [if_neg (by omega), if_neg (by omega)]
    · have n1 : ro_sc v1 ≠ 190 := by omega
      have n0 : ro_sc v1 ≠ 191 := by omega
      have n5 : 59 ≠ ro_sc v1 := by omega
      unfold iv_sh
      rw [← s3]
      have r1 : (rw_B (rw_A M (ro_sc v1) v2 v3 v3.toNatClampNeg) v1.toNatClampNeg v2 v3).2.1 (ro_sc v1) 1 = v2 := by
        show (ro_up2 (ro_up2 (ro_up2 (ro_up2 M.2.1 (ro_sc v1) 1 v2) (ro_sc v1) 2 v3) 190 v1.toNatClampNeg (-2 - v2)) 191 v1.toNatClampNeg v3) (ro_sc v1) 1 = _
        rw [ro_up_o n0, ro_up_o n1, ro_up_p (by decide), ro_up_s]
      have r2 : (rw_B (rw_A M (ro_sc v1) v2 v3 v3.toNatClampNeg) v1.toNatClampNeg v2 v3).2.1 (ro_sc v1) 2 = v3 := by
        show (ro_up2 (ro_up2 (ro_up2 (ro_up2 M.2.1 (ro_sc v1) 1 v2) (ro_sc v1) 2 v3) 190 v1.toNatClampNeg (-2 - v2)) 191 v1.toNatClampNeg v3) (ro_sc v1) 2 = _
        rw [ro_up_o n0, ro_up_o n1, ro_up_s]
      have r3 : (rw_B (rw_A M (ro_sc v1) v2 v3 v3.toNatClampNeg) v1.toNatClampNeg v2 v3).2.1 190 v1.toNatClampNeg = -2 - v2 := by
        show (ro_up2 (ro_up2 (ro_up2 (ro_up2 M.2.1 (ro_sc v1) 1 v2) (ro_sc v1) 2 v3) 190 v1.toNatClampNeg (-2 - v2)) 191 v1.toNatClampNeg v3) 190 v1.toNatClampNeg = _
        rw [ro_up_o (by decide), ro_up_s]
      have r4 : (rw_B (rw_A M (ro_sc v1) v2 v3 v3.toNatClampNeg) v1.toNatClampNeg v2 v3).2.1 191 v1.toNatClampNeg = v3 := by
        show (ro_up2 (ro_up2 (ro_up2 (ro_up2 M.2.1 (ro_sc v1) 1 v2) (ro_sc v1) 2 v3) 190 v1.toNatClampNeg (-2 - v2)) 191 v1.toNatClampNeg v3) 191 v1.toNatClampNeg = _
        rw [ro_up_s]
      rw [r1, r2, r3, r4]
      refine Or.inr (Or.inr ⟨h2.1, h2.2, rfl, rfl, h4, h3, fun k hk => ?_⟩)
      show ro_z (ro_z M.2.2.1 (ro_sc v1 + 1) 0 v3.toNatClampNeg) 192 (60 * v1.toNatClampNeg) (60 * v1.toNatClampNeg + 60) 192 (60 * v1.toNatClampNeg + k) = ro_z (ro_z M.2.2.1 (ro_sc v1 + 1) 0 v3.toNatClampNeg) 192 (60 * v1.toNatClampNeg) (60 * v1.toNatClampNeg + 60) (24 + 2 * v1.toNatClampNeg) k
      unfold ro_z
      have y1 : 192 = 192 ∧ 60 * v1.toNatClampNeg ≤ 60 * v1.toNatClampNeg + k ∧ 60 * v1.toNatClampNeg + k < 60 * v1.toNatClampNeg + 60 := by omega
      have y2 : ¬ (24 + 2 * v1.toNatClampNeg = 192 ∧ 60 * v1.toNatClampNeg ≤ k ∧ k < 60 * v1.toNatClampNeg + 60) := by omega
      have y3 : 24 + 2 * v1.toNatClampNeg = ro_sc v1 + 1 ∧ 0 ≤ k ∧ k < v3.toNatClampNeg := by omega
      rw [if_pos y1, if_neg y2, if_pos y3]
  · have eA : xm_177 M v1 v2 v3 = M := by
      unfold xm_177
      by_cases h1 : ro_bs v1 = true
      · by_cases h2 : 0 ≤ v2 ∧ v2 ≤ 4
        · by_cases h3 : v3 ≤ 60
          · rw [if_pos h1, if_pos (ro_w13.mpr h2), if_pos h3, if_neg (fun y => hg ⟨h1, h2, h3, y⟩)]
          · rw [if_pos h1, if_pos (ro_w13.mpr h2), if_neg h3]
        · rw [if_pos h1, if_neg (fun y => h2 (ro_w13.mp y))]
      · rw [if_neg h1]
    have eB : xm_301 M v1 v2 v3 = M := by
      unfold xm_301
      rw [ro_w198]
      by_cases h1 : ro_bs v1 = true
      · by_cases h2 : 0 ≤ v2 ∧ v2 ≤ 4
        · by_cases h3 : v3 ≤ 60
          · rw [if_pos h1, if_pos (ro_w195.mpr h2), if_pos h3, if_neg (fun y => hg ⟨h1, h2, h3, y⟩)]
          · rw [if_pos h1, if_pos (ro_w195.mpr h2), if_neg h3]
        · rw [if_pos h1, if_neg (fun y => h2 (ro_w195.mp y))]
      · rw [if_neg h1]
    rw [eA, eB]
    exact h
end PAIRS6

