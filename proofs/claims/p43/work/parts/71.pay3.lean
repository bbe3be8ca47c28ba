/-! pairs pay, mean -/
section PAY3
variable {X : ro_Sx}
theorem pa_24 {M : ro_Mm} {v1 v2 v3 : Int32} : ∀ (d k n : Nat) (A : ro_Mm), k + d = 9 → d < n → ro_eqv M A → (∀ t, t < k → A.2.2.1 53 t = lN (if t = 0 then 1 else 0) ∧ A.2.2.1 52 t = lN 0) →
    xq_97_24 n A (nI k) v1 v2 v3 ∧ ro_eqv M (xg_97_24 n A (nI k) v1 v2 v3).2 ∧ (xg_97_24 n A (nI k) v1 v2 v3).2.2.1 = A.2.1 ∧ pa_J (xg_97_24 n A (nI k) v1 v2 v3).2 (fun t => if t = 0 then 1 else 0) (fun _ => 0) := by
  intro d
  induction d with
  | zero =>
    intro k n A hk hn hA hJ
    obtain ⟨n, rfl⟩ : ∃ m, n = m + 1 := ⟨n - 1, by omega⟩
    have c0 : (9 : Int32) ≤ nI k := nI_le (a := 9) (by omega) (by omega)
    rw [xg_97_24, xq_97_24, if_pos c0]
    exact ⟨⟨fun _ => trivial, fun y => absurd c0 y⟩, hA, rfl, fun q hq => hJ q (by omega)⟩
  | succ d ih =>
    intro k n A hk hn hA hJ
    obtain ⟨n, rfl⟩ : ∃ m, n = m + 1 := ⟨n - 1, by omega⟩
    have c0 : ¬ (9 : Int32) ≤ nI k := nI_ge (b := 9) (by omega) (by omega)
    have ek : (nI k).toNatClampNeg = k := nI_clamp (by omega)
    have vk : vp_in (nI k) 9 := ro_vn (by omega) (by decide)
    have step : ∀ v : Nat, v = (if k = 0 then 1 else 0) → ro_eqv M (ro_sJ (ro_sJ A 52 k 0) 53 k (lN v)) ∧ (∀ t, t < k + 1 → (ro_sJ (ro_sJ A 52 k 0) 53 k (lN v)).2.2.1 53 t = lN (if t = 0 then 1 else 0) ∧ (ro_sJ (ro_sJ A 52 k 0) 53 k (lN v)).2.2.1 52 t = lN 0) := by
      intro v hv
      refine ⟨⟨hA.1, hA.2.1, fun c t hct => ?_⟩, fun t ht => ?_⟩
      · rw [ro_sJ_ne (fun q => by rw [q] at hct; exact Bool.noConfusion hct), ro_sJ_ne (fun q => by rw [q] at hct; exact Bool.noConfusion hct)]; exact hA.2.2 c t hct
      · constructor
        · show (if 53 = 53 ∧ t = k then lN v else if 53 = 52 ∧ t = k then 0 else A.2.2.1 53 t) = _
          by_cases e : t = k
          · rw [if_pos ⟨rfl, e⟩, hv, e]
          · rw [if_neg (fun q => e q.2), if_neg (fun q => e q.2)]; exact (hJ t (by omega)).1
        · rw [ro_sJ_ne (by decide)]
          show (if 52 = 52 ∧ t = k then 0 else A.2.2.1 52 t) = _
          by_cases e : t = k
          · rw [if_pos ⟨rfl, e⟩]; rfl
          · rw [if_neg (fun q => e q.2)]; exact (hJ t (by omega)).2
    by_cases z : k = 0
    · have z2 : nI k = 0 := by rw [z]; rfl
      obtain ⟨s1, s2⟩ := step 1 (by rw [if_pos z])
      obtain ⟨i1, i2, i3, i4⟩ := ih (k + 1) n _ (by omega) (by omega) s1 s2
      rw [xg_97_24, xq_97_24, if_neg c0, if_pos z2, ek, nI_1]
      exact ⟨⟨fun y => absurd y c0, fun _ => ⟨vk, fun _ => ⟨vk, i1⟩, fun y => absurd z2 y⟩⟩, i2, i3, i4⟩
    · have z2 : ¬ nI k = 0 := nI_ne0 (by omega) (by omega)
      obtain ⟨s1, s2⟩ := step 0 (by rw [if_neg z])
      obtain ⟨i1, i2, i3, i4⟩ := ih (k + 1) n _ (by omega) (by omega) s1 s2
      rw [xg_97_24, xq_97_24, if_neg c0, if_neg z2, ek, nI_1]
      exact ⟨⟨fun y => absurd y c0, fun _ => ⟨vk, fun y => absurd y z2, fun _ => ⟨vk, i1⟩⟩⟩, i2, i3, i4⟩
theorem pa_129 {M : ro_Mm} {v1 v2 v3 : Int32} {op wt : Nat → Nat} : ∀ (d k n : Nat) (A : ro_Mm), k + d = 9 → d < n → ro_eqv M A → (∀ t, t < 9 → A.2.2.1 53 t = lN (op t) ∧ A.2.2.1 52 t = lN (if t < k then op t + wt t else wt t)) →
    xq_97_129 n A (nI k) v1 v2 v3 ∧ ro_eqv M (xg_97_129 n A (nI k) v1 v2 v3).2 ∧ ∀ t, t < 9 → (xg_97_129 n A (nI k) v1 v2 v3).2.2.2.1 52 t = lN (op t + wt t) := by
  intro d
  induction d with
  | zero =>
    intro k n A hk hn hA hJ
    obtain ⟨n, rfl⟩ : ∃ m, n = m + 1 := ⟨n - 1, by omega⟩
    have c0 : (9 : Int32) ≤ nI k := nI_le (a := 9) (by omega) (by omega)
    rw [xg_97_129, xq_97_129, if_pos c0]
    refine ⟨⟨fun _ => trivial, fun y => absurd c0 y⟩, hA, fun t ht => ?_⟩
    have := (hJ t ht).2
    rw [if_pos (by omega)] at this
    exact this
  | succ d ih =>
    intro k n A hk hn hA hJ
    obtain ⟨n, rfl⟩ : ∃ m, n = m + 1 := ⟨n - 1, by omega⟩
    have c0 : ¬ (9 : Int32) ≤ nI k := nI_ge (b := 9) (by omega) (by omega)
    have ek : (nI k).toNatClampNeg = k := nI_clamp (by omega)
    have vk : vp_in (nI k) 9 := ro_vn (by omega) (by decide)
    have jk := hJ k (by omega)
    rw [if_neg (Nat.lt_irrefl k)] at jk
    obtain ⟨i1, i2, i3⟩ := ih (k + 1) n (ro_sJ A 52 k (lN (wt k + op k))) (by omega) (by omega)
      ⟨hA.1, hA.2.1, fun c t hct => by rw [ro_sJ_ne (fun q => by rw [q] at hct; exact Bool.noConfusion hct)]; exact hA.2.2 c t hct⟩
      (fun t ht => by
        constructor
        · rw [ro_sJ_ne (by decide)]; exact (hJ t ht).1
        · show (if 52 = 52 ∧ t = k then lN (wt k + op k) else A.2.2.1 52 t) = _
          by_cases e : t = k
          · rw [if_pos ⟨rfl, e⟩, e, if_pos (by omega), Nat.add_comm]
          · rw [if_neg (fun q => e q.2), (hJ t ht).2]
            by_cases e2 : t < k
            · rw [if_pos e2, if_pos (by omega)]
            · rw [if_neg e2, if_neg (by omega)])
    rw [xg_97_129, xq_97_129, if_neg c0, ek, jk.1, jk.2, lN_add, nI_1]
    exact ⟨⟨fun y => absurd y c0, fun _ => ⟨vk, vk, vk, i1⟩⟩, i2, i3⟩
theorem pu_set_id {f : Nat → Int32} {i : Nat} : pu_set f i (f i) = f := funext fun t => by
  unfold pu_set
  by_cases e : t = i
  · rw [if_pos e, e]
  · rw [if_neg e]
theorem pa_97 {M : ro_Mm} {od : Nat → Nat → Int32 → Int32 → Int32} (hod : od_is M od) {p i j : Nat} (hp : p ≤ 6) (e1 : M.2.1 5 4 = nI p) (hi : i < p) (hj : j < p) (hij : i ≠ j) {N : Nat} (hN : N ≤ 8) {A : ro_Mm} (hA : ro_eqv M A) :
    xp_97 A (nI i) (nI j) (nI N) ∧ ro_eqv M (xm_97 A (nI i) (nI j) (nI N)) ∧ ∀ q, q < 9 → (xm_97 A (nI i) (nI j) (nI N)).2.2.1 52 q = lN (pa_P od i j N (pu_now M) 0 q) := by
  have e18 : xf_18 A = nI p := (hA.2.1 5 4 rfl).trans e1
  obtain ⟨c1, c2, c3⟩ := pu_68 (M := M) hA (c := 49) (p := p) (by unfold ro_ip; decide) (by decide) hp
  have E1 := pu_fr_e (Or.inr (Or.inr (Or.inl rfl))) hA c3
  obtain ⟨d1, d2, d3, d4⟩ := pa_24 (M := M) (v1 := nI i) (v2 := nI j) (v3 := nI N) 9 0 lp_N (xm_68 A 49 6 (nI p)) (by omega) (lp_hug (by omega)) E1 (fun t ht => absurd ht (Nat.not_lt_zero _))
  have at0 : pa_at p (xg_97_24 lp_N (xm_68 A 49 6 (nI p)) (nI 0) (nI i) (nI j) (nI N)).2 (pu_now M) i j := by
    refine ⟨(pu_now M).1 i, (pu_now M).1 j, (pu_now M).2 i, ?_⟩
    rw [pu_set_id, pu_set_id, pu_set_id]
    intro k hk
    rw [d3]
    exact c2 k hk
  obtain ⟨f1, op, wt, f2, f3, f4⟩ := pa_78 hod hp hi hj hij hN (T := fun q => pa_P od i j N (pu_now M) 0 q) N 0 lp_N _ _ _ (by omega) (lp_hug (by omega)) d2 at0 d4 (fun t ht => if_neg (by omega)) (fun q hq => by
    have h1 := sm_upd (f := fun _ => 0) (g := fun t => (if t = 0 then 1 else 0) * pa_P od i j N (pa_st (pu_now M) i j 0 t) t q) (a := 0) (n := 9) (by decide) (fun t _ ht => by rw [if_neg ht, Nat.zero_mul])
    have z : ∀ m, sm_n (fun _ => 0) m = 0 := fun m => by
      induction m with
      | zero => rfl
      | succ m ih => rw [sm_n, ih]
    rw [z 9, if_pos rfl, pa_st_0, Nat.one_mul] at h1
    omega)
  obtain ⟨g1, g2, g3⟩ := pa_129 (M := M) (v1 := nI i) (v2 := nI j) (v3 := nI N) (op := op) (wt := wt) 9 0 lp_N _ (by omega) (lp_hug (by omega)) f2 (fun t ht => ⟨(f3 t ht).1, by rw [if_neg (Nat.not_lt_zero _)]; exact (f3 t ht).2⟩)
  have m97 : xm_97 A (nI i) (nI j) (nI N) = (xg_97_129 lp_N (xg_97_78 lp_N (xg_97_24 lp_N (xm_68 A 49 6 (nI p)) (nI 0) (nI i) (nI j) (nI N)).2 (nI 0) (nI i) (nI j) (nI N)).2 (nI 0) (nI i) (nI j) (nI N)).2 := by
    unfold xm_97; rw [e18]; rfl
  rw [m97]
  refine ⟨?_, g2, fun q hq => ?_⟩
  · unfold xp_97
    rw [e18]
    exact ⟨c1, d1, f1, g1, trivial⟩
  · rw [g3 q hq, f4 q hq]
theorem pa_252_6 {M : ro_Mm} {v1 v2 : Int32} : ∀ (d k n : Nat) (B : ro_Mm), k + d = 9 → d < n → ro_eqv M B → (∀ t, t < k → B.2.2.1 183 t = 0) →
    xq_252_6 n B (nI k) v1 v2 ∧ ro_eqv M (xg_252_6 n B (nI k) v1 v2).2 ∧ (xg_252_6 n B (nI k) v1 v2).2.2.1 = B.2.1 ∧ ∀ t, t < 9 → (xg_252_6 n B (nI k) v1 v2).2.2.2.1 183 t = 0 := by
  intro d
  induction d with
  | zero =>
    intro k n B hk hn hB hJ
    obtain ⟨n, rfl⟩ : ∃ m, n = m + 1 := ⟨n - 1, by omega⟩
    have c0 : (8 : Int32) < nI k := nI_lt (a := 8) (by omega) (by omega)
    rw [xg_252_6, xq_252_6, if_pos c0]
    exact ⟨⟨fun _ => trivial, fun y => absurd c0 y⟩, hB, rfl, fun q hq => hJ q (by omega)⟩
  | succ d ih =>
    intro k n B hk hn hB hJ
    obtain ⟨n, rfl⟩ : ∃ m, n = m + 1 := ⟨n - 1, by omega⟩
    have c0 : ¬ (8 : Int32) < nI k := nI_nlt (a := 8) (by omega) (by omega)
    have ek : (nI k).toNatClampNeg = k := nI_clamp (by omega)
    have vk : vp_in (nI k) 9 := ro_vn (by omega) (by decide)
    obtain ⟨i1, i2, i3, i4⟩ := ih (k + 1) n (ro_sJ B 183 k 0) (by omega) (by omega)
      ⟨hB.1, hB.2.1, fun c t hct => by rw [ro_sJ_ne (fun q => by rw [q] at hct; exact Bool.noConfusion hct)]; exact hB.2.2 c t hct⟩
      (fun t ht => by
        show (if 183 = 183 ∧ t = k then 0 else B.2.2.1 183 t) = 0
        by_cases e : t = k
        · rw [if_pos ⟨rfl, e⟩]
        · rw [if_neg (fun q => e q.2)]; exact hJ t (by omega))
    rw [xg_252_6, xq_252_6, if_neg c0, ek, nI_1]
    exact ⟨⟨fun y => absurd y c0, fun _ => ⟨vk, i1⟩⟩, i2, i3, i4⟩
theorem pa_252_45 {B : ro_Mm} {v1 : Int32} {N : Nat} (hN : N ≤ 8) : ∀ (d k n : Nat), k + d = N → d < n → (xg_252_45 n B (nI k) (lN (12 ^ k)) v1 (nI N)).2 = lN (12 ^ N) ∧ xq_252_45 n B (nI k) (lN (12 ^ k)) v1 (nI N) := by
  intro d
  induction d with
  | zero =>
    intro k n hk hn
    obtain ⟨n, rfl⟩ : ∃ m, n = m + 1 := ⟨n - 1, by omega⟩
    have c0 : nI N ≤ nI k := nI_le (by omega) (by omega)
    rw [xg_252_45, xq_252_45, if_pos c0, show k = N by omega]
    exact ⟨rfl, fun _ => trivial, fun y => absurd (nI_le (Nat.le_refl _) (by omega)) y⟩
  | succ d ih =>
    intro k n hk hn
    obtain ⟨n, rfl⟩ : ∃ m, n = m + 1 := ⟨n - 1, by omega⟩
    have c0 : ¬ nI N ≤ nI k := nI_ge (by omega) (by omega)
    have e : lN (12 ^ k) * 12 = lN (12 ^ (k + 1)) := by rw [show lN (12 ^ k) * 12 = lN (12 ^ k * 12) from lN_mul _ 12, Nat.pow_succ]
    obtain ⟨i1, i2⟩ := ih (k + 1) n (by omega) (by omega)
    rw [xg_252_45, xq_252_45, if_neg c0, nI_1, e]
    exact ⟨i1, fun y => absurd y c0, fun _ => i2⟩
theorem pa_252 {M : ro_Mm} (h : ro_Inv M) {od : Nat → Nat → Int32 → Int32 → Int32} (hod : od_is M od) {p i j : Nat} (hp : p ≤ 6) (e2 : M.2.1 163 1 = nI p) (hi : i < p) (hj : j < p) (hij : i ≠ j) {N : Nat} (hN : N ≤ 8) {v1 : Int32} (ei : v1 / 10 = nI i) (ej : ro_irem v1 10 = nI j) {B : ro_Mm} (hB : ro_eqv M B) :
    xp_252 B v1 (nI N) ∧ ro_eqv M (xm_252 B v1 (nI N)) ∧ xf_252 B v1 (nI N) = lN (12 ^ N) ∧ ∀ q, q < 9 → (xm_252 B v1 (nI N)).2.2.1 183 q = lN (pa_P od i j N (pu_now M) 0 q) := by
  obtain ⟨b1, b2, b3⟩ := pu_228 h hB hp e2
  have E1 := pu_fr_e (Or.inr (Or.inr (Or.inr rfl))) hB b3
  obtain ⟨c1, c2, c3, c4⟩ := pa_252_6 (M := M) (v1 := v1) (v2 := nI N) 9 0 lp_N (xm_228 B) (by omega) (lp_hug (by omega)) E1 (fun t ht => absurd ht (Nat.not_lt_zero _))
  have at0 : pu_at p (xg_252_6 lp_N (xm_228 B) (nI 0) v1 (nI N)).2 180 (pu_now M) := by
    intro k hk
    rw [c3]
    exact b2 k hk
  obtain ⟨d1, d2, d3, d4⟩ := pa_ref hod hp hi hj hij N rc_N _ (pu_now M) 0 1 (by rw [rc_N_eq]; omega) (by omega) c2 at0
  obtain ⟨f1, f2⟩ := pa_252_45 (B := xm_253 (xg_252_6 lp_N (xm_228 B) 0 v1 (nI N)).2 (nI i) (nI j) (nI N) 0 1) (v1 := v1) hN N 0 lp_N (by omega) (lp_hug (by omega))
  have m252 : xm_252 B v1 (nI N) = xr_pay rc_N (xg_252_6 lp_N (xm_228 B) (nI 0) v1 (nI N)).2 (nI i) (nI j) (nI N) (nI 0) (lN 1) := by
    unfold xm_252 xm_253; rw [ei, ej]; rfl
  refine ⟨?_, by rw [m252]; exact d2, ?_, fun q hq => ?_⟩
  · unfold xp_252
    rw [ei, ej]
    exact ⟨b1, c1, d1, f2, trivial⟩
  · unfold xf_252
    rw [ei, ej]
    exact f1
  · rw [m252, d4 q hq, c4 q hq, Nat.one_mul, Int64.zero_add]
theorem ro_08 {v : Int32} (h : 0 ≤ v ∧ v ≤ 8) : ∃ n, n ≤ 8 ∧ v = nI n := by
  obtain ⟨j, hj, e⟩ := nI_of2 (x := v) (M := 8) (n := 8) (by decide) (Int32.not_lt.mpr h.1) h.2
  exact ⟨j, hj, e⟩
theorem pw_pos (N : Nat) : 0 < 12 ^ N := Nat.pow_pos (by decide)
theorem pw_8 {N : Nat} (h : N ≤ 8) : 12 ^ N ≤ 429981696 := by
  have := Nat.pow_le_pow_right (n := 12) (by decide) h
  exact this
theorem all_11 {M : ro_Mm} (h : ro_Inv M) {v1 v2 v3 v4 : Int32} : xp_94 M v1 v2 v3 v4 ∧ xp_251 (xm_94 M v1 v2 v3 v4) v1 v2 v3 v4 ∧ xf_251 (xm_94 M v1 v2 v3 v4) v1 v2 v3 v4 = xf_94 M v1 v2 v3 v4 ∧ ro_eqv M (xm_251 (xm_94 M v1 v2 v3 v4) v1 v2 v3 v4) := by
  obtain ⟨od, hod⟩ := od_ex h
  obtain ⟨p, hp, e1, e2⟩ := ro_ppl h
  have f2 : ∀ A : ro_Mm, ro_eqv M A → xf_227 A v1 = xf_56 M v1 := fun A hA => by
    rw [ro_two (ro_eqv_i hA h)]; unfold xf_56 xf_57 xf_29; rw [hA.2.1 5 4 rfl]
  have NO : ∀ (g : xp_94 M v1 v2 v3 v4) (g1 : xf_94 M v1 v2 v3 v4 = -9223372036854775808) (g2 : xm_94 M v1 v2 v3 v4 = M) (g3 : ¬ (xf_227 M v1 = true ∧ xf_195 M v2 0 8 = true ∧ xf_195 M v3 0 8 = true ∧ xf_195 M v4 0 1 = true)), xp_94 M v1 v2 v3 v4 ∧ xp_251 (xm_94 M v1 v2 v3 v4) v1 v2 v3 v4 ∧ xf_251 (xm_94 M v1 v2 v3 v4) v1 v2 v3 v4 = xf_94 M v1 v2 v3 v4 ∧ ro_eqv M (xm_251 (xm_94 M v1 v2 v3 v4) v1 v2 v3 v4) := by
    intro g g1 g2 g3
    rw [g2, g1]
    refine ⟨g, ⟨fun y1 => ⟨fun y2 => ⟨fun y3 => ⟨fun y4 => absurd ⟨y1, y2, y3, y4⟩ g3, fun _ => trivial⟩, fun _ => trivial⟩, fun _ => trivial⟩, fun _ => trivial⟩, ?_, ?_⟩
    · unfold xf_251
      by_cases y1 : xf_227 M v1 = true
      · rw [if_pos y1]
        by_cases y2 : xf_195 M v2 0 8 = true
        · rw [if_pos y2]
          by_cases y3 : xf_195 M v3 0 8 = true
          · rw [if_pos y3]
            by_cases y4 : xf_195 M v4 0 1 = true
            · exact absurd ⟨y1, y2, y3, y4⟩ g3
            · rw [if_neg y4]
          · rw [if_neg y3]
        · rw [if_neg y2]
      · rw [if_neg y1]
    · have : xm_251 M v1 v2 v3 v4 = M := by
        unfold xm_251
        by_cases y1 : xf_227 M v1 = true
        · rw [if_pos y1]
          by_cases y2 : xf_195 M v2 0 8 = true
          · rw [if_pos y2]
            by_cases y3 : xf_195 M v3 0 8 = true
            · rw [if_pos y3]
              by_cases y4 : xf_195 M v4 0 1 = true
              · exact absurd ⟨y1, y2, y3, y4⟩ g3
              · rw [if_neg y4]
            · rw [if_neg y3]
          · rw [if_neg y2]
        · rw [if_neg y1]
      rw [this]; exact ro_eqv_r h.1
  by_cases b1 : xf_56 M v1 = true
  · by_cases b2 : xf_13 M v2 0 8 = true
    · by_cases b3 : xf_13 M v3 0 8 = true
      · by_cases b4 : xf_95 M v4 = true
        · have hv := lo_is.mp b4
          obtain ⟨i, j, hi, hj, hij, ei, ej⟩ := ro_two_i hp e1 b1
          obtain ⟨N, hN, eN⟩ := ro_08 (ro_w13.mp b2)
          obtain ⟨r, hr, er⟩ := ro_08 (ro_w13.mp b3)
          obtain ⟨c1, c2, c3⟩ := pa_97 hod hp e1 hi hj hij hN (ro_eqv_r h.1)
          have er' : (nI r).toNatClampNeg = r := nI_clamp (by omega)
          have n0 : ¬ nI r < 0 := nI_pos (by omega)
          have n9 : ¬ (9 : Int32) ≤ nI r := nI_ge (b := 9) (by omega) (by decide)
          obtain ⟨w1, w2⟩ := pw_99 (M := xm_97 M (nI i) (nI j) (nI N)) hN
          have hb := pa_b (i := i) (j := j) hod N (pu_now M) 0 r
          have h12 := pw_8 hN
          have m96 : xm_96 M (nI i) (nI j) (nI N) (nI r) = xm_100 (xm_97 M (nI i) (nI j) (nI N)) (lN (pa_P od i j N (pu_now M) 0 r)) (lN (12 ^ N)) := by
            unfold xm_96; rw [if_neg n0, if_neg n9, er', c3 r (by omega), w1]
          have p96 : xp_96 M (nI i) (nI j) (nI N) (nI r) := by
            unfold xp_96
            rw [er', c3 r (by omega), w1]
            exact ⟨c1, fun y => absurd y n0, fun _ => ⟨fun y => absurd y n9, fun _ => ⟨w2, (lo_set (by omega) (by omega) (pw_pos N)).2, trivial⟩⟩⟩
          have hm : xm_94 M v1 v2 v3 v4 = xm_100 (xm_97 M (nI i) (nI j) (nI N)) (lN (pa_P od i j N (pu_now M) 0 r)) (lN (12 ^ N)) := by
            unfold xm_94; rw [if_pos b1, if_pos b2, if_pos b3, if_pos b4, ei, ej, eN, er, m96]
          have E := lo_eqv c2 (a := pa_P od i j N (pu_now M) 0 r) (b := 12 ^ N) (by omega) (by omega) (pw_pos N)
          obtain ⟨d1, d2, d3, d4⟩ := pa_252 h hod hp e2 hi hj hij hN ei ej E
          obtain ⟨q1, q2⟩ := lo_part (M := xm_97 M (nI i) (nI j) (nI N)) (B := xm_252 (xm_100 (xm_97 M (nI i) (nI j) (nI N)) (lN (pa_P od i j N (pu_now M) 0 r)) (lN (12 ^ N))) v1 (nI N)) (a := pa_P od i j N (pu_now M) 0 r) (b := 12 ^ N) (by omega) (by omega) (pw_pos N) hv
          have y1 : xf_227 (xm_100 (xm_97 M (nI i) (nI j) (nI N)) (lN (pa_P od i j N (pu_now M) 0 r)) (lN (12 ^ N))) v1 = true := by rw [f2 _ E]; exact b1
          have y2 : ∀ A : ro_Mm, xf_195 A v2 0 8 = true := fun A => by rw [ro_w195]; exact ro_w13.mp b2
          have y3 : ∀ A : ro_Mm, xf_195 A v3 0 8 = true := fun A => by rw [ro_w195]; exact ro_w13.mp b3
          have y4 : ∀ A : ro_Mm, xf_195 A v4 0 1 = true := fun A => lo_is2.mpr hv
          have vr : vp_in (nI r) 9 := ro_vn (by omega) (by decide)
          rw [hm]
          refine ⟨?_, ?_, ?_, ?_⟩
          · unfold xp_94
            rw [ei, ej, eN, er]
            exact ⟨fun _ => ⟨fun _ => ⟨fun _ => ⟨fun _ => ⟨p96, trivial⟩, fun _ => trivial⟩, fun _ => trivial⟩, fun _ => trivial⟩, fun _ => trivial⟩
          · unfold xp_251
            rw [eN, er, er', d3, d4 r (by omega)]
            exact ⟨fun _ => ⟨fun _ => ⟨fun _ => ⟨fun _ => ⟨d1, vr, q2, trivial⟩, fun _ => trivial⟩, fun _ => trivial⟩, fun _ => trivial⟩, fun _ => trivial⟩
          · unfold xf_251 xf_94
            rw [if_pos y1, if_pos (y2 _), if_pos (y3 _), if_pos (y4 _), if_pos b1, if_pos b2, if_pos b3, if_pos b4, ei, ej, eN, er, er', d3, d4 r (by omega), m96]
            exact q1
          · unfold xm_251
            rw [if_pos y1, if_pos (y2 _), if_pos (y3 _), if_pos (y4 _), eN]
            exact d2
        · refine NO ⟨fun _ => ⟨fun _ => ⟨fun _ => ⟨fun y => absurd y b4, fun _ => trivial⟩, fun _ => trivial⟩, fun _ => trivial⟩, fun _ => trivial⟩ ?_ ?_ (fun q => b4 (lo_is.mpr (lo_is2.mp q.2.2.2)))
          · unfold xf_94; rw [if_pos b1, if_pos b2, if_pos b3, if_neg b4]
          · unfold xm_94; rw [if_pos b1, if_pos b2, if_pos b3, if_neg b4]
      · refine NO ⟨fun _ => ⟨fun _ => ⟨fun y => absurd y b3, fun _ => trivial⟩, fun _ => trivial⟩, fun _ => trivial⟩ ?_ ?_ (fun q => b3 (by rw [ro_w13_195]; exact q.2.2.1))
        · unfold xf_94; rw [if_pos b1, if_pos b2, if_neg b3]
        · unfold xm_94; rw [if_pos b1, if_pos b2, if_neg b3]
    · refine NO ⟨fun _ => ⟨fun y => absurd y b2, fun _ => trivial⟩, fun _ => trivial⟩ ?_ ?_ (fun q => b2 (by rw [ro_w13_195]; exact q.2.1))
      · unfold xf_94; rw [if_pos b1, if_neg b2]
      · unfold xm_94; rw [if_pos b1, if_neg b2]
  · refine NO ⟨fun y => absurd y b1, fun _ => trivial⟩ ?_ ?_ (fun q => b1 (by rw [← f2 M (ro_eqv_r h.1)]; exact q.1))
    · unfold xf_94; rw [if_neg b1]
    · unfold xm_94; rw [if_neg b1]
/-- how many of them on the whole -/
def mn_s (f : Nat → Nat) : Nat → Nat → Nat
  | 0, _ => 0
  | d + 1, k => k * f k + mn_s f d (k + 1)
theorem mn_b {f : Nat → Nat} {b : Nat} (hf : ∀ t, f t ≤ b) : ∀ (d k : Nat), k + d ≤ 9 → mn_s f d k ≤ d * (9 * b)
  | 0, _, _ => Nat.zero_le _
  | d + 1, k, h => by
    rw [mn_s]
    have h1 := mn_b hf d (k + 1) (by omega)
    have h2 : k * f k ≤ 9 * b := Nat.mul_le_mul (by omega) (hf k)
    rw [Nat.add_mul, Nat.one_mul]
    omega
theorem mn_104 {A : ro_Mm} {f : Nat → Nat} (hf : ∀ q, q < 9 → A.2.2.1 52 q = lN (f q)) {v1 v2 v3 : Int32} : ∀ (d k n s : Nat), k + d = 9 → d < n → (xg_104_13 n A (nI k) (lN s) v1 v2 v3).2 = lN (s + mn_s f d k) ∧ xq_104_13 n A (nI k) (lN s) v1 v2 v3 := by
  intro d
  induction d with
  | zero =>
    intro k n s hk hn
    obtain ⟨n, rfl⟩ : ∃ m, n = m + 1 := ⟨n - 1, by omega⟩
    have c0 : (9 : Int32) ≤ nI k := nI_le (a := 9) (by omega) (by omega)
    rw [xg_104_13, xq_104_13, if_pos c0, mn_s]
    exact ⟨rfl, fun _ => trivial, fun y => absurd c0 y⟩
  | succ d ih =>
    intro k n s hk hn
    obtain ⟨n, rfl⟩ : ∃ m, n = m + 1 := ⟨n - 1, by omega⟩
    have c0 : ¬ (9 : Int32) ≤ nI k := nI_ge (b := 9) (by omega) (by omega)
    have ek : (nI k).toNatClampNeg = k := nI_clamp (by omega)
    have vk : vp_in (nI k) 9 := ro_vn (by omega) (by decide)
    obtain ⟨i1, i2⟩ := ih (k + 1) n (s + k * f k) (by omega) (by omega)
    rw [xg_104_13, xq_104_13, if_neg c0, ek, hf k (by omega), nI_l (by omega), lN_mul, lN_add, nI_1, mn_s, ← Nat.add_assoc]
    exact ⟨i1, fun y => absurd y c0, fun _ => ⟨vk, i2⟩⟩
theorem mn_255 {A : ro_Mm} {f : Nat → Nat} (hf : ∀ q, q < 9 → A.2.2.1 183 q = lN (f q)) {v4 : Int64} {v1 v2 v3 : Int32} : ∀ (d k n s : Nat), k + d = 9 → d < n → (xg_255_45 n A (nI k) (lN s) v4 v1 v2 v3).2 = lN (s + mn_s f d k) ∧ xq_255_45 n A (nI k) (lN s) v4 v1 v2 v3 := by
  intro d
  induction d with
  | zero =>
    intro k n s hk hn
    obtain ⟨n, rfl⟩ : ∃ m, n = m + 1 := ⟨n - 1, by omega⟩
    have c0 : (8 : Int32) < nI k := nI_lt (a := 8) (by omega) (by omega)
    rw [xg_255_45, xq_255_45, if_pos c0, mn_s]
    exact ⟨rfl, fun _ => trivial, fun y => absurd c0 y⟩
  | succ d ih =>
    intro k n s hk hn
    obtain ⟨n, rfl⟩ : ∃ m, n = m + 1 := ⟨n - 1, by omega⟩
    have c0 : ¬ (8 : Int32) < nI k := nI_nlt (a := 8) (by omega) (by omega)
    have ek : (nI k).toNatClampNeg = k := nI_clamp (by omega)
    have vk : vp_in (nI k) 9 := ro_vn (by omega) (by decide)
    obtain ⟨i1, i2⟩ := ih (k + 1) n (s + k * f k) (by omega) (by omega)
    rw [xg_255_45, xq_255_45, if_neg c0, ek, hf k (by omega), nI_l (by omega), lN_mul, lN_add, nI_1, mn_s, ← Nat.add_assoc]
    exact ⟨i1, fun y => absurd y c0, fun _ => ⟨vk, i2⟩⟩
theorem all_12 {M : ro_Mm} (h : ro_Inv M) {v1 v2 v4 : Int32} : xp_103 M v1 v2 v4 ∧ xp_255 (xm_103 M v1 v2 v4) v1 v2 v4 ∧ xf_255 (xm_103 M v1 v2 v4) v1 v2 v4 = xf_103 M v1 v2 v4 ∧ ro_eqv M (xm_255 (xm_103 M v1 v2 v4) v1 v2 v4) := by
  obtain ⟨od, hod⟩ := od_ex h
  obtain ⟨p, hp, e1, e2⟩ := ro_ppl h
  have f2 : ∀ A : ro_Mm, ro_eqv M A → xf_227 A v1 = xf_56 M v1 := fun A hA => by
    rw [ro_two (ro_eqv_i hA h)]; unfold xf_56 xf_57 xf_29; rw [hA.2.1 5 4 rfl]
  have NO : ∀ (g : xp_103 M v1 v2 v4) (g1 : xf_103 M v1 v2 v4 = -9223372036854775808) (g2 : xm_103 M v1 v2 v4 = M) (g3 : ¬ (xf_227 M v1 = true ∧ xf_195 M v2 0 8 = true ∧ xf_195 M v4 0 1 = true)), xp_103 M v1 v2 v4 ∧ xp_255 (xm_103 M v1 v2 v4) v1 v2 v4 ∧ xf_255 (xm_103 M v1 v2 v4) v1 v2 v4 = xf_103 M v1 v2 v4 ∧ ro_eqv M (xm_255 (xm_103 M v1 v2 v4) v1 v2 v4) := by
    intro g g1 g2 g3
    rw [g2, g1]
    refine ⟨g, ⟨fun y1 => ⟨fun y2 => ⟨fun y4 => absurd ⟨y1, y2, y4⟩ g3, fun _ => trivial⟩, fun _ => trivial⟩, fun _ => trivial⟩, ?_, ?_⟩
    · unfold xf_255
      by_cases y1 : xf_227 M v1 = true
      · rw [if_pos y1]
        by_cases y2 : xf_195 M v2 0 8 = true
        · rw [if_pos y2]
          by_cases y4 : xf_195 M v4 0 1 = true
          · exact absurd ⟨y1, y2, y4⟩ g3
          · rw [if_neg y4]
        · rw [if_neg y2]
      · rw [if_neg y1]
    · have : xm_255 M v1 v2 v4 = M := by
        unfold xm_255
        by_cases y1 : xf_227 M v1 = true
        · rw [if_pos y1]
          by_cases y2 : xf_195 M v2 0 8 = true
          · rw [if_pos y2]
            by_cases y4 : xf_195 M v4 0 1 = true
            · exact absurd ⟨y1, y2, y4⟩ g3
            · rw [if_neg y4]
          · rw [if_neg y2]
        · rw [if_neg y1]
      rw [this]; exact ro_eqv_r h.1
  by_cases b1 : xf_56 M v1 = true
  · by_cases b2 : xf_13 M v2 0 8 = true
    · by_cases b4 : xf_95 M v4 = true
      · have hv := lo_is.mp b4
        obtain ⟨i, j, hi, hj, hij, ei, ej⟩ := ro_two_i hp e1 b1
        obtain ⟨N, hN, eN⟩ := ro_08 (ro_w13.mp b2)
        obtain ⟨c1, c2, c3⟩ := pa_97 hod hp e1 hi hj hij hN (ro_eqv_r h.1)
        obtain ⟨w1, w2⟩ := pw_99 (M := xm_97 M (nI i) (nI j) (nI N)) hN
        have h12 := pw_8 hN
        have hb := mn_b (f := fun q => pa_P od i j N (pu_now M) 0 q) (b := 429981696) (fun t => Nat.le_trans (pa_b (i := i) (j := j) hod N (pu_now M) 0 t) h12) 8 1 (by decide)
        obtain ⟨s1, s2⟩ := mn_104 (f := fun q => pa_P od i j N (pu_now M) 0 q) c3 (v1 := nI i) (v2 := nI j) (v3 := nI N) 8 1 lp_N 0 (by omega) (lp_hug (by omega))
        rw [Nat.zero_add] at s1
        have s1 : (xg_104_13 lp_N (xm_97 M (nI i) (nI j) (nI N)) 1 0 (nI i) (nI j) (nI N)).2 = lN (mn_s (fun q => pa_P od i j N (pu_now M) 0 q) 8 1) := s1
        have s2 : xq_104_13 lp_N (xm_97 M (nI i) (nI j) (nI N)) 1 0 (nI i) (nI j) (nI N) := s2
        generalize hT : mn_s (fun q => pa_P od i j N (pu_now M) 0 q) 8 1 = T at *
        have m104 : xm_104 M (nI i) (nI j) (nI N) = xm_100 (xm_97 M (nI i) (nI j) (nI N)) (lN T) (lN (12 ^ N)) := by
          unfold xm_104; rw [s1, w1]
        have p104 : xp_104 M (nI i) (nI j) (nI N) := by
          unfold xp_104
          rw [s1, w1]
          exact ⟨c1, s2, w2, (lo_set (by omega) (by omega) (pw_pos N)).2, trivial⟩
        have hm : xm_103 M v1 v2 v4 = xm_100 (xm_97 M (nI i) (nI j) (nI N)) (lN T) (lN (12 ^ N)) := by
          unfold xm_103; rw [if_pos b1, if_pos b2, if_pos b4, ei, ej, eN, m104]
        have E := lo_eqv c2 (a := T) (b := 12 ^ N) (by omega) (by omega) (pw_pos N)
        obtain ⟨d1, d2, d3, d4⟩ := pa_252 h hod hp e2 hi hj hij hN ei ej E
        obtain ⟨q1, q2⟩ := lo_part (M := xm_97 M (nI i) (nI j) (nI N)) (B := xm_252 (xm_100 (xm_97 M (nI i) (nI j) (nI N)) (lN T) (lN (12 ^ N))) v1 (nI N)) (a := T) (b := 12 ^ N) (by omega) (by omega) (pw_pos N) hv
        obtain ⟨t1, t2⟩ := mn_255 (f := fun q => pa_P od i j N (pu_now M) 0 q) d4 (v4 := lN (12 ^ N)) (v1 := v1) (v2 := nI N) (v3 := v4) 8 1 lp_N 0 (by omega) (lp_hug (by omega))
        rw [Nat.zero_add, hT] at t1
        have t1 : (xg_255_45 lp_N (xm_252 (xm_100 (xm_97 M (nI i) (nI j) (nI N)) (lN T) (lN (12 ^ N))) v1 (nI N)) 1 0 (lN (12 ^ N)) v1 (nI N) v4).2 = lN T := t1
        have t2 : xq_255_45 lp_N (xm_252 (xm_100 (xm_97 M (nI i) (nI j) (nI N)) (lN T) (lN (12 ^ N))) v1 (nI N)) 1 0 (lN (12 ^ N)) v1 (nI N) v4 := t2
        have y1 : xf_227 (xm_100 (xm_97 M (nI i) (nI j) (nI N)) (lN T) (lN (12 ^ N))) v1 = true := by rw [f2 _ E]; exact b1
        have y2 : ∀ A : ro_Mm, xf_195 A v2 0 8 = true := fun A => by rw [ro_w195]; exact ro_w13.mp b2
        have y4 : ∀ A : ro_Mm, xf_195 A v4 0 1 = true := fun A => lo_is2.mpr hv
        rw [hm]
        refine ⟨?_, ?_, ?_, ?_⟩
        · unfold xp_103
          rw [ei, ej, eN]
          exact ⟨fun _ => ⟨fun _ => ⟨fun _ => ⟨p104, trivial⟩, fun _ => trivial⟩, fun _ => trivial⟩, fun _ => trivial⟩
        · unfold xp_255
          rw [eN, d3, t1]
          exact ⟨fun _ => ⟨fun _ => ⟨fun _ => ⟨d1, t2, q2, trivial⟩, fun _ => trivial⟩, fun _ => trivial⟩, fun _ => trivial⟩
        · unfold xf_255 xf_103
          rw [if_pos y1, if_pos (y2 _), if_pos (y4 _), if_pos b1, if_pos b2, if_pos b4, ei, ej, eN, d3, t1, m104]
          exact q1
        · unfold xm_255
          rw [if_pos y1, if_pos (y2 _), if_pos (y4 _), eN]
          exact d2
      · refine NO ⟨fun _ => ⟨fun _ => ⟨fun y => absurd y b4, fun _ => trivial⟩, fun _ => trivial⟩, fun _ => trivial⟩ ?_ ?_ (fun q => b4 (lo_is.mpr (lo_is2.mp q.2.2)))
        · unfold xf_103; rw [if_pos b1, if_pos b2, if_neg b4]
        · unfold xm_103; rw [if_pos b1, if_pos b2, if_neg b4]
    · refine NO ⟨fun _ => ⟨fun y => absurd y b2, fun _ => trivial⟩, fun _ => trivial⟩ ?_ ?_ (fun q => b2 (by rw [ro_w13_195]; exact q.2.1))
      · unfold xf_103; rw [if_pos b1, if_neg b2]
      · unfold xm_103; rw [if_pos b1, if_neg b2]
  · refine NO ⟨fun y => absurd y b1, fun _ => trivial⟩ ?_ ?_ (fun q => b1 (by rw [← f2 M (ro_eqv_r h.1)]; exact q.1))
    · unfold xf_103; rw [if_neg b1]
    · unfold xm_103; rw [if_neg b1]
end PAY3

