/-! payings by weights, the class's; pairs pay, mean -/
section PAY2
variable {X : ro_Sx}
def sm_n (f : Nat → Nat) : Nat → Nat
  | 0 => 0
  | n + 1 => sm_n f n + f n
theorem sm_ext {f g : Nat → Nat} : ∀ {n : Nat}, (∀ t, t < n → g t = f t) → sm_n g n = sm_n f n
  | 0, _ => rfl
  | n + 1, h => by rw [sm_n, sm_n, sm_ext (n := n) (fun t ht => h t (by omega)), h n (by omega)]
theorem sm_upd {f g : Nat → Nat} {a : Nat} : ∀ {n : Nat}, a < n → (∀ t, t < n → t ≠ a → g t = f t) → sm_n g n + f a = sm_n f n + g a
  | 0, h, _ => by omega
  | n + 1, h, he => by
    rw [sm_n, sm_n]
    by_cases e : a = n
    · have := sm_ext (f := f) (g := g) (n := n) (fun t ht => he t (by omega) (by omega))
      rw [this, e]; omega
    · have := sm_upd (f := f) (g := g) (a := a) (n := n) (by omega) (fun t ht h2 => he t (by omega) h2)
      have h3 := he n (by omega) (fun q => e q.symm)
      omega
/-- purses after k were offered, r of them refused -/
def pa_st (S : pu_T) (i j k r : Nat) : pu_T := (pu_set (pu_set S.1 i (S.1 i - nI k)) j (S.1 j + nI k - nI r), pu_set S.2 i (S.2 i + nI r))
theorem pa_st_rf {S : pu_T} {i j k r : Nat} (hij : i ≠ j) : pu_rf (pa_st S i j k r) i = pa_st S i j (k + 1) (r + 1) := by
  unfold pu_rf pa_st
  refine Prod.ext (funext fun t => ?_) (funext fun t => ?_) <;> simp only [pu_set]
  · by_cases e : t = i
    · subst e
      simp only [if_true, if_neg hij, nI_succ]
      grind
    · by_cases e2 : t = j
      · subst e2
        simp only [if_true, if_neg e, nI_succ]
        grind
      · simp only [if_neg e, if_neg e2]
  · by_cases e : t = i
    · subst e
      simp only [if_true, nI_succ]
      grind
    · simp only [if_neg e]
theorem pa_st_gw {S : pu_T} {i j k r : Nat} (hij : i ≠ j) : pu_gw (pa_st S i j k r) i j = pa_st S i j (k + 1) r := by
  unfold pu_gw pa_st
  refine Prod.ext (funext fun t => ?_) rfl
  simp only [pu_set]
  by_cases e : t = i
  · subst e
    simp only [if_true, if_neg hij, nI_succ]
    grind
  · by_cases e2 : t = j
    · subst e2
      simp only [if_true, if_neg e, nI_succ]
      grind
    · simp only [if_neg e, if_neg e2]
theorem pa_st_0 {S : pu_T} {i j : Nat} : pa_st S i j 0 0 = S := by
  unfold pa_st
  refine Prod.ext (funext fun t => ?_) (funext fun t => ?_) <;> simp only [pu_set, nI_0]
  · by_cases e2 : t = j
    · subst e2; simp only [if_true]; grind
    · by_cases e : t = i
      · subst e; simp only [if_true, if_neg e2]; grind
      · simp only [if_neg e, if_neg e2]
  · by_cases e : t = i
    · subst e; simp only [if_true]; grind
    · simp only [if_neg e]
/-- 12 to the n-th, in the class -/
theorem pw_99 {M : ro_Mm} {N : Nat} (hN : N ≤ 8) : xf_99 M (nI N) = lN (12 ^ N) ∧ xp_99 M (nI N) := by
  have L : ∀ (d k n : Nat), k + d = N → d < n → (xg_99_4 n M (nI k) (lN (12 ^ k)) (nI N)).2 = lN (12 ^ N) ∧ xq_99_4 n M (nI k) (lN (12 ^ k)) (nI N) := by
    intro d
    induction d with
    | zero =>
      intro k n hk hn
      obtain ⟨n, rfl⟩ : ∃ m, n = m + 1 := ⟨n - 1, by omega⟩
      have c0 : nI N ≤ nI k := nI_le (by omega) (by omega)
      rw [xg_99_4, xq_99_4, if_pos c0, show k = N by omega]
      exact ⟨rfl, fun _ => trivial, fun y => absurd (nI_le (Nat.le_refl _) (by omega)) y⟩
    | succ d ih =>
      intro k n hk hn
      obtain ⟨n, rfl⟩ : ∃ m, n = m + 1 := ⟨n - 1, by omega⟩
      have c0 : ¬ nI N ≤ nI k := nI_ge (by omega) (by omega)
      have c1 : ¬ (8 : Int32) ≤ nI k := nI_ge (b := 8) (by omega) (by omega)
      have e : lN (12 ^ k) * 12 = lN (12 ^ (k + 1)) := by rw [show lN (12 ^ k) * 12 = lN (12 ^ k * 12) from lN_mul _ 12, Nat.pow_succ]
      obtain ⟨i1, i2⟩ := ih (k + 1) n (by omega) (by omega)
      rw [xg_99_4, xq_99_4, if_neg c0, if_neg c1, nI_1, e]
      exact ⟨i1, fun y => absurd y c0, fun _ => ⟨fun y => absurd y c1, fun _ => i2⟩⟩
  obtain ⟨l1, l2⟩ := L N 0 lp_N (by omega) (lp_hug (by omega))
  exact ⟨l1, l2, trivial⟩
/-- weights in the class's rows -/
def pa_J (A : ro_Mm) (op wt : Nat → Nat) : Prop := ∀ q, q < 9 → A.2.2.1 53 q = lN (op q) ∧ A.2.2.1 52 q = lN (wt q)
def pa_at (p : Nat) (A : ro_Mm) (S : pu_T) (i j : Nat) : Prop := ∃ a b c, pu_at p A 49 (pu_set (pu_set S.1 i a) j b, pu_set S.2 i c)
theorem pa_set {p : Nat} {A : ro_Mm} {S : pu_T} {i j k r : Nat} (hp : p ≤ 6) (hi : i < p) (hj : j < p) (hij : i ≠ j) (h7 : A.2.1 7 = S.1) (h8 : A.2.1 8 = S.2) (h : pa_at p A S i j) :
    xm_16 (xm_17 (xm_16 A 49 (nI i) (xf_30 A (nI i) 0 - nI k)) 49 (nI i) (xf_30 (xm_16 A 49 (nI i) (xf_30 A (nI i) 0 - nI k)) (nI i) 1 + nI r)) 49 (nI j) (xf_30 (xm_17 (xm_16 A 49 (nI i) (xf_30 A (nI i) 0 - nI k)) 49 (nI i) (xf_30 (xm_16 A 49 (nI i) (xf_30 A (nI i) 0 - nI k)) (nI i) 1 + nI r)) (nI j) 0 + nI k - nI r) =
      ro_sI (ro_sI (ro_sI A 50 i (S.1 i - nI k)) 51 i (S.2 i + nI r)) 50 j (S.1 j + nI k - nI r) ∧
    pu_at p (ro_sI (ro_sI (ro_sI A 50 i (S.1 i - nI k)) 51 i (S.2 i + nI r)) 50 j (S.1 j + nI k - nI r)) 49 (pa_st S i j k r) ∧ pu_fr A (ro_sI (ro_sI (ro_sI A 50 i (S.1 i - nI k)) 51 i (S.2 i + nI r)) 50 j (S.1 j + nI k - nI r)) 49 := by
  have hi6 : i < 6 := by omega
  have hj6 : j < 6 := by omega
  refine ⟨?_, ?_, rfl, rfl, fun a b n1 n2 => ?_⟩
  · have e1 : xf_30 A (nI i) 0 = S.1 i := by rw [x30_0 hi6, h7]
    rw [e1, x16 hi6]
    have e2 : xf_30 (ro_sI A (49 + 1) i (S.1 i - nI k)) (nI i) 1 = S.2 i := by rw [x30_1 hi6, ro_sI_ne (by decide), h8]
    rw [e2, x17 hi6]
    have e3 : xf_30 (ro_sI (ro_sI A (49 + 1) i (S.1 i - nI k)) (49 + 2) i (S.2 i + nI r)) (nI j) 0 = S.1 j := by rw [x30_0 hj6, ro_sI_ne (by decide), ro_sI_ne (by decide), h7]
    rw [e3, x16 hj6]
  · obtain ⟨a, b, c, h⟩ := h
    intro t ht
    obtain ⟨h1, h2⟩ := h t ht
    have h1 : A.2.1 50 t = pu_set (pu_set S.1 i a) j b t := h1
    have h2 : A.2.1 51 t = pu_set S.2 i c t := h2
    constructor
    · show (ro_sI (ro_sI (ro_sI A 50 i (S.1 i - nI k)) 51 i (S.2 i + nI r)) 50 j (S.1 j + nI k - nI r)).2.1 50 t = pu_set (pu_set S.1 i (S.1 i - nI k)) j (S.1 j + nI k - nI r) t
      simp only [ro_rd_s, true_and]
      unfold pu_set at h1 ⊢
      by_cases e2 : t = j
      · simp only [if_pos e2]
      · by_cases e : t = i
        · simp only [if_neg e2, if_pos e, show ¬ (50 = 51 ∧ t = i) by omega, if_false]
        · simp only [if_neg e2, if_neg e, show ¬ (50 = 51 ∧ t = i) by omega, if_false]
          rw [h1]; simp only [if_neg e2, if_neg e]
    · show (ro_sI (ro_sI (ro_sI A 50 i (S.1 i - nI k)) 51 i (S.2 i + nI r)) 50 j (S.1 j + nI k - nI r)).2.1 51 t = pu_set S.2 i (S.2 i + nI r) t
      simp only [ro_rd_s, true_and]
      unfold pu_set at h2 ⊢
      by_cases e : t = i
      · simp only [if_pos e, show ¬ (51 = 50 ∧ t = j) by omega, if_false]
      · simp only [if_neg e, show ¬ (51 = 50 ∧ t = j) by omega, show ¬ (51 = 50 ∧ t = i) by omega, if_false]
        rw [h2]; simp only [if_neg e]
  · have n1 : a ≠ 50 := n1
    have n2 : a ≠ 51 := n2
    rw [ro_sI_ne n1, ro_sI_ne n2, ro_sI_ne n1]
theorem pa_at_st {p : Nat} {A : ro_Mm} {S : pu_T} {i j k r : Nat} (h : pu_at p A 49 (pa_st S i j k r)) : pa_at p A S i j := ⟨_, _, _, h⟩
/-- one more offered, with r refused ahead of it -/
theorem pa_98 {M : ro_Mm} {od : Nat → Nat → Int32 → Int32 → Int32} (hod : od_is M od) {p i j : Nat} (hp : p ≤ 6) (hi : i < p) (hj : j < p) (hij : i ≠ j) {A : ro_Mm} {op wt : Nat → Nat} {k r l : Nat} (hk : k ≤ 7) (hr : r ≤ k) (hl : l ≤ 8) (hA : ro_eqv M A) (h : pa_at p A (pu_now M) i j) (hJ : pa_J A op wt) :
    xp_98 A (nI i) (nI j) (nI k) (nI r) (nI l) ∧ ro_eqv M (xm_98 A (nI i) (nI j) (nI k) (nI r) (nI l)) ∧ pa_at p (xm_98 A (nI i) (nI j) (nI k) (nI r) (nI l)) (pu_now M) i j ∧
    pa_J (xm_98 A (nI i) (nI j) (nI k) (nI r) (nI l)) (fun t => if pu_mw (pa_st (pu_now M) i j k r) i j = true then (if t = r then op r * (12 - pa_o od i j (pa_st (pu_now M) i j k r)) else if t = r + 1 then op (r + 1) + op r * pa_o od i j (pa_st (pu_now M) i j k r) else op t) else (if t = r then 0 else op t))
      (fun t => if pu_mw (pa_st (pu_now M) i j k r) i j = true then wt t else (if t = r then wt r + op r * 12 ^ l else wt t)) := by
  have p49 : ro_ip 49 := by unfold ro_ip; decide
  have c49 : pu_c 49 := Or.inr (Or.inr (Or.inl rfl))
  have hi6 : i < 6 := by omega
  have hj6 : j < 6 := by omega
  have h7 : A.2.1 7 = (pu_now M).1 := funext fun t => hA.2.1 7 t rfl
  have h8 : A.2.1 8 = (pu_now M).2 := funext fun t => hA.2.1 8 t rfl
  obtain ⟨s1, s2, s3⟩ := pa_set (k := k) (r := r) hp hi hj hij h7 h8 h
  generalize hE : ro_sI (ro_sI (ro_sI A 50 i ((pu_now M).1 i - nI k)) 51 i ((pu_now M).2 i + nI r)) 50 j ((pu_now M).1 j + nI k - nI r) = E at s1 s2 s3
  have E0 := pu_fr_e c49 hA s3
  have n0 : ¬ nI r < 0 := nI_pos (by omega)
  have n1 : ¬ (9 : Int32) ≤ nI r + 1 := by rw [nI_1]; exact nI_ge (b := 9) (by omega) (by decide)
  have n2 : nI r < (9 : Int32) := nI_lt (b := 9) (by omega) (by decide)
  have er : (nI r).toNatClampNeg = r := nI_clamp (by omega)
  have er1 : (nI (r + 1)).toNatClampNeg = r + 1 := nI_clamp (by omega)
  have v1 : vp_in (nI (r + 1)) 9 := ro_vn (by omega) (by decide)
  have m75 := pu_75 s2 hp hi hj
  have JE : E.2.2.1 = A.2.2.1 := by rw [s3.2.1]
  by_cases mw : pu_mw (pa_st (pu_now M) i j k r) i j = true
  · rw [mw] at m75
    obtain ⟨o1, o2, o3, o4, o5⟩ := hod.2.1 E 49 i j E0 p49 hi6 hj6
    obtain ⟨ob, oe⟩ := pa_ob (i := i) (j := j) hod (pa_st (pu_now M) i j k r)
    rw [(s2 j hj).1, (s2 j hj).2, oe] at o1
    have od2 : (12 : Int32) - nI (pa_o od i j (pa_st (pu_now M) i j k r)) = nI (12 - pa_o od i j (pa_st (pu_now M) i j k r)) := nI_sub (a := 12) ob
    have x1 : (nI (pa_o od i j (pa_st (pu_now M) i j k r))).toInt64 = lN (pa_o od i j (pa_st (pu_now M) i j k r)) := nI_l (by omega)
    have x2 : (nI (12 - pa_o od i j (pa_st (pu_now M) i j k r))).toInt64 = lN (12 - pa_o od i j (pa_st (pu_now M) i j k r)) := nI_l (by omega)
    have jr := (hJ r (by omega)).1
    have jr1 := (hJ (r + 1) (by omega)).1
    have rr : r ≠ r + 1 := by omega
    have e : xm_98 A (nI i) (nI j) (nI k) (nI r) (nI l) = ro_sJ (ro_sJ (xm_58 E 49 (nI i) (nI j)) 53 (r + 1) (lN (op (r + 1) + op r * pa_o od i j (pa_st (pu_now M) i j k r)))) 53 r (lN (op r * (12 - pa_o od i j (pa_st (pu_now M) i j k r)))) := by
      unfold xm_98
      rw [s1, if_neg n0, if_neg n1, if_pos n2, m75, if_pos rfl, o1, od2, x1, x2, nI_1, er, er1, jr, jr1, lN_mul, lN_add]
      have e2 : ∀ v, (ro_sJ (xm_58 E 49 (nI i) (nI j)) 53 (r + 1) v).2.2.1 53 r = lN (op r) := fun v => by
        show (if 53 = 53 ∧ r = r + 1 then v else (xm_58 E 49 (nI i) (nI j)).2.2.1 53 r) = _
        rw [if_neg (by omega), o5, JE, jr]
      rw [e2, lN_mul]
    rw [e]
    refine ⟨?_, ⟨o3.1, o3.2.1, fun c t hct => ?_⟩, pa_at_st (k := k) (r := r) (pu_at_c s2 (fun t _ => ⟨o4 50 t (by decide) (by decide) (by omega), o4 51 t (by decide) (by decide) (by omega)⟩)), fun q hq => ?_⟩
    · unfold xp_98
      rw [s1, nI_1]
      exact ⟨fun y => absurd y n0, fun _ => ⟨fun y => absurd y (by rw [← nI_1]; exact n1), fun _ => ⟨fun _ => ⟨fun _ => ⟨o2, v1, v1, trivial⟩, fun y => absurd m75 y⟩, fun y => absurd n2 y⟩⟩⟩
    · have nc : c ≠ 53 := fun q => by rw [q] at hct; exact Bool.noConfusion hct
      rw [ro_sJ_ne nc, ro_sJ_ne nc]; exact o3.2.2 c t hct
    · simp only [if_pos mw]
      constructor
      · show (if 53 = 53 ∧ q = r then lN (op r * (12 - pa_o od i j (pa_st (pu_now M) i j k r))) else if 53 = 53 ∧ q = r + 1 then lN (op (r + 1) + op r * pa_o od i j (pa_st (pu_now M) i j k r)) else (xm_58 E 49 (nI i) (nI j)).2.2.1 53 q) = _
        by_cases a : q = r
        · rw [if_pos ⟨rfl, a⟩, if_pos a]
        · rw [if_neg (fun y => a y.2), if_neg a]
          by_cases b : q = r + 1
          · rw [if_pos ⟨rfl, b⟩, if_pos b]
          · rw [if_neg (fun y => b y.2), if_neg b, o5, JE]; exact (hJ q hq).1
      · rw [ro_sJ_ne (by decide), ro_sJ_ne (by decide), o5, JE]; exact (hJ q hq).2
  · have wf : pu_mw (pa_st (pu_now M) i j k r) i j = false := by cases hq : pu_mw (pa_st (pu_now M) i j k r) i j with | true => exact absurd hq mw | false => rfl
    rw [wf] at m75
    have nf : ¬ (false = true) := by decide
    obtain ⟨w1, w2⟩ := pw_99 (M := E) hl
    have jr := hJ r (by omega)
    have e : xm_98 A (nI i) (nI j) (nI k) (nI r) (nI l) = ro_sJ (ro_sJ E 52 r (lN (wt r + op r * 12 ^ l))) 53 r 0 := by
      unfold xm_98
      rw [s1, if_neg n0, if_neg n1, if_pos n2, m75, if_neg nf, w1, er, jr.1, jr.2, lN_mul, lN_add]
    rw [e]
    refine ⟨?_, ⟨E0.1, E0.2.1, fun c t hct => ?_⟩, pa_at_st (k := k) (r := r) s2, fun q hq => ?_⟩
    · unfold xp_98
      rw [s1, nI_1]
      exact ⟨fun y => absurd y n0, fun _ => ⟨fun y => absurd y (by rw [← nI_1]; exact n1), fun _ => ⟨fun _ => ⟨fun y => absurd (m75.symm.trans y) nf, fun _ => ⟨w2, trivial⟩⟩, fun y => absurd n2 y⟩⟩⟩
    · have nc : c ≠ 53 := fun q => by rw [q] at hct; exact Bool.noConfusion hct
      have nc2 : c ≠ 52 := fun q => by rw [q] at hct; exact Bool.noConfusion hct
      rw [ro_sJ_ne nc, ro_sJ_ne nc2]; exact E0.2.2 c t hct
    · simp only [if_neg mw]
      constructor
      · show (if 53 = 53 ∧ q = r then 0 else if 53 = 52 ∧ q = r then lN (wt r + op r * 12 ^ l) else E.2.2.1 53 q) = _
        by_cases a : q = r
        · rw [if_pos ⟨rfl, a⟩, if_pos a]; rfl
        · rw [if_neg (fun y => a y.2), if_neg a, if_neg (by omega), JE]; exact (hJ q hq).1
      · rw [ro_sJ_ne (by decide)]
        show (if 52 = 52 ∧ q = r then lN (wt r + op r * 12 ^ l) else E.2.2.1 52 q) = _
        by_cases a : q = r
        · rw [if_pos ⟨rfl, a⟩, if_pos a]
        · rw [if_neg (fun y => a y.2), if_neg a, JE]; exact (hJ q hq).2
/-- what the weights come to: those below r are of the stage k, the others of the next -/
def pa_V (od : Nat → Nat → Int32 → Int32 → Int32) (S : pu_T) (i j k l r q : Nat) (op : Nat → Nat) (t : Nat) : Nat := op t * (if t < r then pa_P od i j (l + 1) (pa_st S i j k t) t q else pa_P od i j l (pa_st S i j (k + 1) t) t q)
theorem pa_V_step {od : Nat → Nat → Int32 → Int32 → Int32} {S : pu_T} {i j k l r q : Nat} {op wt : Nat → Nat} (hij : i ≠ j) (hr : r ≤ 7) (hq : q < 9) :
    sm_n (pa_V od S i j k l r q (fun t => if pu_mw (pa_st S i j k r) i j = true then (if t = r then op r * (12 - pa_o od i j (pa_st S i j k r)) else if t = r + 1 then op (r + 1) + op r * pa_o od i j (pa_st S i j k r) else op t) else (if t = r then 0 else op t))) 9 + (if pu_mw (pa_st S i j k r) i j = true then wt q else (if q = r then wt r + op r * 12 ^ (l + 1) else wt q)) =
    sm_n (pa_V od S i j k l (r + 1) q op) 9 + wt q := by
  by_cases mw : pu_mw (pa_st S i j k r) i j = true
  · simp only [if_pos mw]
    -- first the r-th alone, then the one behind it
    have h1 := sm_upd (f := pa_V od S i j k l (r + 1) q op) (g := fun t => if t = r then op r * ((12 - pa_o od i j (pa_st S i j k r)) * pa_P od i j l (pa_st S i j (k + 1) r) r q) else pa_V od S i j k l (r + 1) q op t) (a := r) (n := 9) (by omega) (fun t _ ht => by simp only [if_neg ht])
    have h2 := sm_upd (f := fun t => if t = r then op r * ((12 - pa_o od i j (pa_st S i j k r)) * pa_P od i j l (pa_st S i j (k + 1) r) r q) else pa_V od S i j k l (r + 1) q op t) (g := pa_V od S i j k l r q (fun t => if t = r then op r * (12 - pa_o od i j (pa_st S i j k r)) else if t = r + 1 then op (r + 1) + op r * pa_o od i j (pa_st S i j k r) else op t)) (a := r + 1) (n := 9) (by omega) (fun t _ ht => by
      unfold pa_V
      by_cases e : t = r
      · simp only [e, eq_self, if_true, Nat.lt_irrefl, if_false, Nat.mul_assoc]
      · by_cases e2 : t < r
        · simp only [if_neg e, if_neg ht, if_pos e2, if_pos (show t < r + 1 by omega)]
        · simp only [if_neg e, if_neg ht, if_neg e2, if_neg (show ¬ t < r + 1 by omega)])
    simp only [if_true, if_neg (show ¬ r + 1 = r by omega)] at h1 h2
    have v1 : pa_V od S i j k l (r + 1) q op r = op r * (pa_o od i j (pa_st S i j k r) * pa_P od i j l (pa_st S i j (k + 1) (r + 1)) (r + 1) q + (12 - pa_o od i j (pa_st S i j k r)) * pa_P od i j l (pa_st S i j (k + 1) r) r q) := by
      unfold pa_V
      rw [if_pos (by omega), pa_P, if_pos mw, pa_st_rf hij, pa_st_gw hij]
    have v2 : pa_V od S i j k l (r + 1) q op (r + 1) = op (r + 1) * pa_P od i j l (pa_st S i j (k + 1) (r + 1)) (r + 1) q := by
      unfold pa_V
      rw [if_neg (by omega)]
    have v3 : pa_V od S i j k l r q (fun t => if t = r then op r * (12 - pa_o od i j (pa_st S i j k r)) else if t = r + 1 then op (r + 1) + op r * pa_o od i j (pa_st S i j k r) else op t) (r + 1) = op (r + 1) * pa_P od i j l (pa_st S i j (k + 1) (r + 1)) (r + 1) q + op r * (pa_o od i j (pa_st S i j k r) * pa_P od i j l (pa_st S i j (k + 1) (r + 1)) (r + 1) q) := by
      unfold pa_V
      dsimp only
      rw [if_neg (show ¬ r + 1 < r by omega), if_neg (show ¬ r + 1 = r by omega), if_pos rfl, Nat.add_mul, Nat.mul_assoc]
    rw [v1, Nat.mul_add] at h1
    rw [v2, v3] at h2
    omega
  · simp only [if_neg mw]
    have h1 := sm_upd (f := pa_V od S i j k l (r + 1) q op) (g := pa_V od S i j k l r q (fun t => if t = r then 0 else op t)) (a := r) (n := 9) (by omega) (fun t _ ht => by
      unfold pa_V
      by_cases e2 : t < r
      · simp only [if_neg ht, if_pos e2, if_pos (show t < r + 1 by omega)]
      · simp only [if_neg ht, if_neg e2, if_neg (show ¬ t < r + 1 by omega)])
    have v1 : pa_V od S i j k l (r + 1) q op r = op r * (12 ^ (l + 1) * (if q = r then 1 else 0)) := by
      unfold pa_V
      rw [if_pos (by omega), pa_stuck mw]
    have v2 : pa_V od S i j k l r q (fun t => if t = r then 0 else op t) r = 0 := by
      unfold pa_V
      dsimp only
      rw [if_pos rfl, Nat.zero_mul]
    rw [v1, v2] at h1
    by_cases e : q = r
    · rw [if_pos e] at h1 ⊢
      rw [Nat.mul_one] at h1
      rw [e] at h1 ⊢
      omega
    · rw [if_neg e] at h1 ⊢
      rw [Nat.mul_zero, Nat.mul_zero] at h1
      omega
section STAGES
variable {M : ro_Mm} {od : Nat → Nat → Int32 → Int32 → Int32} {p i j : Nat}
/-- a stage: from many refused to few -/
theorem pa_95 (hod : od_is M od) (hp : p ≤ 6) (hi : i < p) (hj : j < p) (hij : i ≠ j) {N k l : Nat} (hN : N ≤ 8) (hk : k + l + 1 = N) {T : Nat → Nat} : ∀ (r n : Nat) (A : ro_Mm) (op wt : Nat → Nat), r ≤ k + 1 → r < n → ro_eqv M A → pa_at p A (pu_now M) i j → pa_J A op wt → (∀ t, k + 1 < t → op t = 0) → (∀ q, q < 9 → sm_n (pa_V od (pu_now M) i j k l r q op) 9 + wt q = T q) →
    xq_97_95 n A (nI r + -1) (nI k) (nI i) (nI j) (nI N) ∧ ∃ op2 wt2, ro_eqv M (xg_97_95 n A (nI r + -1) (nI k) (nI i) (nI j) (nI N)).2 ∧ pa_at p (xg_97_95 n A (nI r + -1) (nI k) (nI i) (nI j) (nI N)).2 (pu_now M) i j ∧ pa_J (xg_97_95 n A (nI r + -1) (nI k) (nI i) (nI j) (nI N)).2 op2 wt2 ∧ (∀ t, k + 1 < t → op2 t = 0) ∧ (∀ q, q < 9 → sm_n (pa_V od (pu_now M) i j k l 0 q op2) 9 + wt2 q = T q) := by
  intro r
  induction r with
  | zero =>
    intro n A op wt hr hn hA hat hJ h0 hT
    obtain ⟨n, rfl⟩ : ∃ m, n = m + 1 := ⟨n - 1, by omega⟩
    have c0 : nI 0 + -1 < 0 := by decide
    rw [xg_97_95, xq_97_95, if_pos c0]
    exact ⟨⟨fun _ => trivial, fun y => absurd c0 y⟩, op, wt, hA, hat, hJ, h0, hT⟩
  | succ r ih =>
    intro n A op wt hr hn hA hat hJ h0 hT
    obtain ⟨n, rfl⟩ : ∃ m, n = m + 1 := ⟨n - 1, by omega⟩
    have c0 : ¬ nI r < 0 := nI_pos (by omega)
    have el : nI N - nI k = nI (l + 1) := by rw [nI_sub (by omega)]; congr 1; omega
    obtain ⟨x1, x2, x3, x4⟩ := pa_98 hod hp hi hj hij (k := k) (r := r) (l := l + 1) (by omega) (by omega) (by omega) hA hat hJ
    obtain ⟨i1, i2⟩ := ih n _ _ _ (by omega) (by omega) x2 x3 x4 (fun t ht => by
        show (if pu_mw (pa_st (pu_now M) i j k r) i j = true then (if t = r then op r * (12 - pa_o od i j (pa_st (pu_now M) i j k r)) else if t = r + 1 then op (r + 1) + op r * pa_o od i j (pa_st (pu_now M) i j k r) else op t) else (if t = r then 0 else op t)) = 0
        rw [if_neg (show ¬ t = r by omega), if_neg (show ¬ t = r + 1 by omega), if_neg (show ¬ t = r by omega), h0 t ht, ite_self])
      (fun q hq => by rw [← hT q hq]; exact pa_V_step hij (by omega) hq)
    rw [xg_97_95, xq_97_95, ro_m1, if_neg c0, el]
    exact ⟨⟨fun y => absurd y c0, fun _ => ⟨x1, i1⟩⟩, i2⟩
/-- all stages -/
theorem pa_78 (hod : od_is M od) (hp : p ≤ 6) (hi : i < p) (hj : j < p) (hij : i ≠ j) {N : Nat} (hN : N ≤ 8) {T : Nat → Nat} : ∀ (d k n : Nat) (A : ro_Mm) (op wt : Nat → Nat), k + d = N → d < n → ro_eqv M A → pa_at p A (pu_now M) i j → pa_J A op wt → (∀ t, k < t → op t = 0) → (∀ q, q < 9 → sm_n (fun t => op t * pa_P od i j d (pa_st (pu_now M) i j k t) t q) 9 + wt q = T q) →
    xq_97_78 n A (nI k) (nI i) (nI j) (nI N) ∧ ∃ op2 wt2, ro_eqv M (xg_97_78 n A (nI k) (nI i) (nI j) (nI N)).2 ∧ pa_J (xg_97_78 n A (nI k) (nI i) (nI j) (nI N)).2 op2 wt2 ∧ (∀ q, q < 9 → op2 q + wt2 q = T q) := by
  intro d
  induction d with
  | zero =>
    intro k n A op wt hk hn hA hat hJ h0 hT
    obtain ⟨n, rfl⟩ : ∃ m, n = m + 1 := ⟨n - 1, by omega⟩
    have c0 : nI N ≤ nI k := nI_le (by omega) (by omega)
    rw [xg_97_78, xq_97_78, if_pos c0]
    refine ⟨⟨fun _ => trivial, fun y => absurd c0 y⟩, op, wt, hA, hJ, fun q hq => ?_⟩
    rw [← hT q hq]
    congr 1
    have h1 := sm_upd (f := fun _ => 0) (g := fun t => op t * pa_P od i j 0 (pa_st (pu_now M) i j k t) t q) (a := q) (n := 9) hq (fun t _ ht => by rw [pa_P, if_neg (fun e => ht e.symm), Nat.mul_zero])
    have z : ∀ m, sm_n (fun _ => 0) m = 0 := fun m => by
      induction m with
      | zero => rfl
      | succ m ih => rw [sm_n, ih]
    rw [z 9, pa_P, if_pos rfl] at h1
    omega
  | succ d ih =>
    intro k n A op wt hk hn hA hat hJ h0 hT
    obtain ⟨n, rfl⟩ : ∃ m, n = m + 1 := ⟨n - 1, by omega⟩
    have c0 : ¬ nI N ≤ nI k := nI_ge (by omega) (by omega)
    have c1 : ¬ (8 : Int32) ≤ nI k := nI_ge (b := 8) (by omega) (by omega)
    obtain ⟨a1, op2, wt2, a2, a3, a4, a5, a6⟩ := pa_95 hod hp hi hj hij hN (k := k) (l := d) (by omega) (T := T) (k + 1) lp_N A op wt (Nat.le_refl _) (lp_hug (by omega)) hA hat hJ (fun t ht => h0 t (by omega)) (fun q hq => by
      rw [← hT q hq]
      congr 1
      refine sm_ext (fun t _ => ?_)
      unfold pa_V
      by_cases e : t < k + 1
      · rw [if_pos e]
      · rw [h0 t (by omega), Nat.zero_mul, Nat.zero_mul])
    rw [ro_m1] at a1 a2 a3 a4
    obtain ⟨i1, i2⟩ := ih (k + 1) n _ op2 wt2 (by omega) (by omega) a2 a3 a4 a5 (fun q hq => by
      rw [← a6 q hq]
      congr 1)
    rw [xg_97_78, xq_97_78, if_neg c0, if_neg c1, nI_1]
    exact ⟨⟨fun y => absurd y c0, fun _ => ⟨fun y => absurd y c1, fun _ => ⟨a1, i1⟩⟩⟩, i2⟩
end STAGES
end PAY2

