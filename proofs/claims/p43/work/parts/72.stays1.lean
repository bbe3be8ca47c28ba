/-! what stays whole at random: sums over pairs, the class's -/
section STAYS1
theorem lo_eq {a b c d : Nat} (hb : 0 < b) (hd : 0 < d) (h : a * d = c * b) : a / Nat.gcd a b = c / Nat.gcd c d ∧ b / Nat.gcd a b = d / Nat.gcd c d := by
  have e1 : a / Nat.gcd a b = a * d / Nat.gcd (a * d) (b * d) := by rw [Nat.gcd_mul_right, Nat.mul_div_mul_right _ _ hd]
  have e2 : c / Nat.gcd c d = c * b / Nat.gcd (c * b) (d * b) := by rw [Nat.gcd_mul_right, Nat.mul_div_mul_right _ _ hb]
  have e3 : b / Nat.gcd a b = b * d / Nat.gcd (a * d) (b * d) := by rw [Nat.gcd_mul_right, Nat.mul_div_mul_right _ _ hd]
  have e4 : d / Nat.gcd c d = d * b / Nat.gcd (c * b) (d * b) := by rw [Nat.gcd_mul_right, Nat.mul_div_mul_right _ _ hb]
  rw [e1, e2, e3, e4, h, Nat.mul_comm d b]
  exact ⟨rfl, rfl⟩
/-- sums over all b but a, over all a -/
def in_s (a : Nat) (f : Nat → Nat) : Nat → Nat → Nat
  | 0, _ => 0
  | d + 1, k => (if a = k then 0 else f k) + in_s a f d (k + 1)
def out_s (p : Nat) (f : Nat → Nat → Nat) : Nat → Nat → Nat
  | 0, _ => 0
  | d + 1, a => in_s a (f a) p 0 + out_s p f d (a + 1)
theorem in_s_le {a c : Nat} {f g : Nat → Nat} (h : ∀ b, f b ≤ c * g b) : ∀ d k, in_s a f d k ≤ c * in_s a g d k
  | 0, _ => Nat.zero_le _
  | d + 1, k => by
    rw [in_s, in_s, Nat.mul_add]
    have := in_s_le (a := a) h d (k + 1)
    by_cases e : a = k
    · rw [if_pos e, if_pos e]; omega
    · rw [if_neg e, if_neg e]; have := h k; omega
theorem out_s_le {p c : Nat} {f g : Nat → Nat → Nat} (h : ∀ a b, f a b ≤ c * g a b) : ∀ d a, out_s p f d a ≤ c * out_s p g d a
  | 0, _ => Nat.zero_le _
  | d + 1, a => by
    rw [out_s, out_s, Nat.mul_add]
    have h1 := out_s_le (p := p) h d (a + 1)
    have h2 := in_s_le (a := a) (h a) p 0
    omega
theorem in_s_1 {a : Nat} {f : Nat → Nat} (h : ∀ b, f b ≤ 1) : ∀ d k, in_s a f d k ≤ d ∧ (k ≤ a → a < k + d → in_s a f d k + 1 ≤ d)
  | 0, k => ⟨Nat.zero_le _, fun h1 h2 => by omega⟩
  | d + 1, k => by
    rw [in_s]
    obtain ⟨i1, i2⟩ := in_s_1 (a := a) h d (k + 1)
    have := h k
    by_cases e : a = k
    · rw [if_pos e]; exact ⟨by omega, fun _ _ => by omega⟩
    · rw [if_neg e]; exact ⟨by omega, fun h1 h2 => by have := i2 (by omega) (by omega); omega⟩
theorem out_s_1 {p : Nat} {f : Nat → Nat → Nat} (h : ∀ a b, f a b ≤ 1) : ∀ d a, a + d = p → out_s p f d a + d ≤ d * p
  | 0, _, _ => by rw [out_s]; omega
  | d + 1, a, hp => by
    rw [out_s, Nat.add_mul, Nat.one_mul]
    have h1 := out_s_1 (p := p) h d (a + 1) (by omega)
    have h2 := (in_s_1 (a := a) (h a) p 0).2 (Nat.zero_le _) (by omega)
    omega
/-- how many may be offered, in how many of twelve they are taken, all together -/
def st_n (p : Nat) (S : pu_T) : Nat := out_s p (fun a b => if pu_mw S a b = true then 1 else 0) p 0
def st_t (od : Nat → Nat → Int32 → Int32 → Int32) (p : Nat) (S : pu_T) : Nat := out_s p (fun a b => if pu_mw S a b = true then 12 - pa_o od a b S else 0) p 0
theorem st_nb {p : Nat} (hp : p ≤ 6) (S : pu_T) : st_n p S ≤ 30 := by
  have h := out_s_1 (p := p) (f := fun a b => if pu_mw S a b = true then 1 else 0) (fun a b => by
    by_cases e : pu_mw S a b = true
    · simp only [if_pos e]; exact Nat.le_refl _
    · simp only [if_neg e]; exact Nat.zero_le _) p 0 (by omega)
  have e : out_s p (fun a b => if pu_mw S a b = true then 1 else 0) p 0 = st_n p S := rfl
  rw [e] at h
  have : p = 0 ∨ p = 1 ∨ p = 2 ∨ p = 3 ∨ p = 4 ∨ p = 5 ∨ p = 6 := by omega
  rcases this with q | q | q | q | q | q | q <;> subst q <;> omega
theorem st_tb {od : Nat → Nat → Int32 → Int32 → Int32} {p : Nat} (S : pu_T) : st_t od p S ≤ 12 * st_n p S := by
  refine out_s_le (fun a b => ?_) p 0
  by_cases e : pu_mw S a b = true
  · simp only [if_pos e]; omega
  · simp only [if_neg e]; omega
section TA
variable {M : ro_Mm} {od : Nat → Nat → Int32 → Int32 → Int32} {p : Nat} {S : pu_T}
theorem ta_27 (hod : od_is M od) (hp : p ≤ 6) {a : Nat} (ha : a < p) : ∀ (d k n : Nat) (A : ro_Mm) (c t : Nat), k + d = p → d < n → ro_eqv M A → pu_at p A 49 S → A.2.1 48 7 = nI c → A.2.1 48 8 = nI t →
    xq_107_27 n A (nI k) (nI a) (nI p) ∧ ro_eqv M (xg_107_27 n A (nI k) (nI a) (nI p)).2 ∧ pu_at p (xg_107_27 n A (nI k) (nI a) (nI p)).2 49 S ∧ (xg_107_27 n A (nI k) (nI a) (nI p)).2.2.1 48 7 = nI (c + in_s a (fun b => if pu_mw S a b = true then 1 else 0) d k) ∧ (xg_107_27 n A (nI k) (nI a) (nI p)).2.2.1 48 8 = nI (t + in_s a (fun b => if pu_mw S a b = true then 12 - pa_o od a b S else 0) d k) ∧ (xg_107_27 n A (nI k) (nI a) (nI p)).2.2.2.1 = A.2.2.1 := by
  have p49 : ro_ip 49 := by unfold ro_ip; decide
  intro d
  induction d with
  | zero =>
    intro k n A c t hk hn hA hS h7 h8
    obtain ⟨n, rfl⟩ : ∃ m, n = m + 1 := ⟨n - 1, by omega⟩
    have c0 : nI p ≤ nI k := nI_le (by omega) (by omega)
    rw [xg_107_27, xq_107_27, if_pos c0, in_s, in_s]
    exact ⟨⟨fun _ => trivial, fun y => absurd c0 y⟩, hA, hS, h7, h8, rfl⟩
  | succ d ih =>
    intro k n A c t hk hn hA hS h7 h8
    obtain ⟨n, rfl⟩ : ∃ m, n = m + 1 := ⟨n - 1, by omega⟩
    have c0 : ¬ nI p ≤ nI k := nI_ge (by omega) (by omega)
    have hkp : k < p := by omega
    rw [in_s, in_s]
    by_cases e : a = k
    · have e2 : nI a = nI k := by rw [e]
      obtain ⟨i1, i2⟩ := ih (k + 1) n A c t (by omega) (by omega) hA hS h7 h8
      rw [xg_107_27, xq_107_27, if_neg c0, if_pos e2, nI_1, if_pos e, if_pos e, Nat.zero_add, Nat.zero_add]
      exact ⟨⟨fun y => absurd y c0, fun _ => ⟨fun _ => i1, fun y => absurd e2 y⟩⟩, i2⟩
    · have e2 : ¬ nI a = nI k := fun q => e ((nI_eq (by omega) (by omega)).mp q)
      have m75 := pu_75 hS hp ha hkp
      rw [if_neg e, if_neg e]
      by_cases mw : pu_mw S a k = true
      · rw [mw] at m75
        simp only [if_pos mw]
        have E1 : ro_eqv M (ro_sI A 48 7 (nI (c + 1))) := ro_eqv_s hA rfl
        have S1 : pu_at p (ro_sI A 48 7 (nI (c + 1))) 49 S := pu_at_c hS (fun y _ => ⟨ro_sI_ne (by decide), ro_sI_ne (by decide)⟩)
        obtain ⟨o1, o2, o3, o4, o5⟩ := hod.2.1 _ 49 a k E1 p49 (by omega) (by omega)
        obtain ⟨ob, oe⟩ := pa_ob (i := a) (j := k) hod S
        rw [(S1 k hkp).1, (S1 k hkp).2, oe] at o1
        have od2 : (12 : Int32) - nI (pa_o od a k S) = nI (12 - pa_o od a k S) := nI_sub (a := 12) ob
        have r7 : (xm_58 (ro_sI A 48 7 (nI (c + 1))) 49 (nI a) (nI k)).2.1 48 7 = nI (c + 1) := by rw [o4 48 7 (by decide) (by decide) (by decide), ro_rd_s, if_pos ⟨rfl, rfl⟩]
        obtain ⟨i1, i2, i3, i4, i5, i6⟩ := ih (k + 1) n (ro_sI (xm_58 (ro_sI A 48 7 (nI (c + 1))) 49 (nI a) (nI k)) 48 8 (nI (t + (12 - pa_o od a k S)))) (c + 1) (t + (12 - pa_o od a k S)) (by omega) (by omega) (ro_eqv_s o3 rfl)
          (pu_at_c S1 (fun y _ => ⟨by rw [ro_sI_ne (by decide)]; exact o4 50 y (by decide) (by decide) (by omega), by rw [ro_sI_ne (by decide)]; exact o4 51 y (by decide) (by decide) (by omega)⟩))
          (by rw [ro_rd_s, if_neg (by omega)]; exact r7) (by rw [ro_rd_s, if_pos ⟨rfl, rfl⟩])
        rw [xg_107_27, xq_107_27, if_neg c0, if_neg e2, if_pos m75, h7, h8, nI_1 c, nI_1 k, o1, od2, nI_add]
        refine ⟨⟨fun y => absurd y c0, fun _ => ⟨fun y => absurd y e2, fun _ => ⟨fun _ => ⟨o2, i1⟩, fun y => absurd m75 y⟩⟩⟩, i2, i3, ?_, ?_, ?_⟩
        · rw [i4]; congr 1; omega
        · rw [i5]; congr 1; omega
        · rw [i6]; exact o5
      · have wf : pu_mw S a k = false := by cases hq : pu_mw S a k with | true => exact absurd hq mw | false => rfl
        have nm : ¬ xf_75 A 49 (nI a) (nI k) = true := by rw [m75, wf]; decide
        simp only [if_neg mw, Nat.zero_add]
        obtain ⟨i1, i2⟩ := ih (k + 1) n A c t (by omega) (by omega) hA hS h7 h8
        rw [xg_107_27, xq_107_27, if_neg c0, if_neg e2, if_neg nm, nI_1]
        exact ⟨⟨fun y => absurd y c0, fun _ => ⟨fun y => absurd y e2, fun _ => ⟨fun y => absurd y nm, fun _ => i1⟩⟩⟩, i2⟩
theorem ta_20 (hod : od_is M od) (hp : p ≤ 6) : ∀ (d a n : Nat) (A : ro_Mm) (c t : Nat), a + d = p → d < n → ro_eqv M A → pu_at p A 49 S → A.2.1 48 7 = nI c → A.2.1 48 8 = nI t →
    xq_107_20 n A (nI a) (nI p) ∧ ro_eqv M (xg_107_20 n A (nI a) (nI p)).2 ∧ pu_at p (xg_107_20 n A (nI a) (nI p)).2 49 S ∧ (xg_107_20 n A (nI a) (nI p)).2.2.1 48 7 = nI (c + out_s p (fun a b => if pu_mw S a b = true then 1 else 0) d a) ∧ (xg_107_20 n A (nI a) (nI p)).2.2.1 48 8 = nI (t + out_s p (fun a b => if pu_mw S a b = true then 12 - pa_o od a b S else 0) d a) ∧ (xg_107_20 n A (nI a) (nI p)).2.2.2.1 = A.2.2.1 := by
  intro d
  induction d with
  | zero =>
    intro a n A c t hk hn hA hS h7 h8
    obtain ⟨n, rfl⟩ : ∃ m, n = m + 1 := ⟨n - 1, by omega⟩
    have c0 : nI p ≤ nI a := nI_le (by omega) (by omega)
    rw [xg_107_20, xq_107_20, if_pos c0, out_s, out_s]
    exact ⟨⟨fun _ => trivial, fun y => absurd c0 y⟩, hA, hS, h7, h8, rfl⟩
  | succ d ih =>
    intro a n A c t hk hn hA hS h7 h8
    obtain ⟨n, rfl⟩ : ∃ m, n = m + 1 := ⟨n - 1, by omega⟩
    have c0 : ¬ nI p ≤ nI a := nI_ge (by omega) (by omega)
    obtain ⟨x1, x2, x3, x4, x5, x6⟩ := ta_27 hod hp (a := a) (by omega) p 0 lp_N A c t (by omega) (lp_hug (by omega)) hA hS h7 h8
    obtain ⟨i1, i2, i3, i4, i5, i6⟩ := ih (a + 1) n _ _ _ (by omega) (by omega) x2 x3 x4 x5
    rw [xg_107_20, xq_107_20, if_neg c0, nI_1, out_s, out_s]
    refine ⟨⟨fun y => absurd y c0, fun _ => ⟨x1, i1⟩⟩, i2, i3, ?_, ?_, ?_⟩
    · rw [← Nat.add_assoc]; exact i4
    · rw [← Nat.add_assoc]; exact i5
    · exact i6.trans x6
theorem ta_107 (hod : od_is M od) (hp : p ≤ 6) (e1 : M.2.1 5 4 = nI p) {A : ro_Mm} (hA : ro_eqv M A) (hS : pu_at p A 49 S) : xp_107 A ∧ ro_eqv M (xm_107 A) ∧ pu_at p (xm_107 A) 49 S ∧ (xm_107 A).2.1 48 7 = nI (st_n p S) ∧ (xm_107 A).2.1 48 8 = nI (st_t od p S) ∧ (xm_107 A).2.2.1 = A.2.2.1 := by
  have A0 : ro_eqv M (ro_sI (ro_sI A 48 7 0) 48 8 0) := ro_eqv_s (ro_eqv_s hA rfl) rfl
  have e18 : xf_18 (ro_sI (ro_sI A 48 7 0) 48 8 0) = nI p := (A0.2.1 5 4 rfl).trans e1
  obtain ⟨x1, x2, x3, x4, x5, x6⟩ := ta_20 hod hp p 0 lp_N (ro_sI (ro_sI A 48 7 0) 48 8 0) 0 0 (by omega) (lp_hug (by omega)) A0 (pu_at_c hS (fun y _ => ⟨by rw [ro_sI_ne (by decide), ro_sI_ne (by decide)], by rw [ro_sI_ne (by decide), ro_sI_ne (by decide)]⟩))
    (by rw [ro_rd_s, if_neg (by omega), ro_rd_s, if_pos ⟨rfl, rfl⟩]; rfl) (by rw [ro_rd_s, if_pos ⟨rfl, rfl⟩]; rfl)
  rw [Nat.zero_add] at x4 x5
  have m : xm_107 A = (xg_107_20 lp_N (ro_sI (ro_sI A 48 7 0) 48 8 0) (nI 0) (nI p)).2 := by unfold xm_107; rw [e18]; rfl
  rw [m]
  refine ⟨?_, x2, x3, x4, x5, x6⟩
  unfold xp_107
  rw [e18]
  exact ⟨x1, trivial⟩
/-- how likely all stay whole by one more, of so many -/
def st_e (od : Nat → Nat → Int32 → Int32 → Int32) (p : Nat) (S : pu_T) : Nat := if st_n p S = 0 then 27949074753600 else st_t od p S * (2329089562800 / st_n p S)
theorem st_dv : ∀ n, n < 31 → 0 < n → 2329089562800 / n * n = 2329089562800 := by decide +kernel
theorem st_eb (hp : p ≤ 6) : st_e od p S ≤ 27949074753600 := by
  unfold st_e
  by_cases z : st_n p S = 0
  · rw [if_pos z]; exact Nat.le_refl _
  · rw [if_neg z]
    have h1 := st_tb (od := od) (p := p) S
    have h2 := st_dv (st_n p S) (by have := st_nb hp S; omega) (by omega)
    have h3 : st_t od p S * (2329089562800 / st_n p S) ≤ 12 * st_n p S * (2329089562800 / st_n p S) := Nat.mul_le_mul_right _ h1
    have h4 : 12 * st_n p S * (2329089562800 / st_n p S) = 12 * (2329089562800 / st_n p S * st_n p S) := by rw [Nat.mul_assoc, Nat.mul_comm (st_n p S)]
    rw [h4, h2] at h3
    exact h3
def st_2 (od : Nat → Nat → Int32 → Int32 → Int32) (p : Nat) (S : pu_T) (a b : Nat) : Nat := if pu_mw S a b = true then (12 - pa_o od a b S) * st_e od p (pu_gw S a b) else 0
theorem ta_22 (hod : od_is M od) (hp : p ≤ 6) (e1 : M.2.1 5 4 = nI p) {a : Nat} (ha : a < p) : ∀ (d k n : Nat) (A : ro_Mm) (s : Nat), k + d = p → d < n → ro_eqv M A → pu_at p A 49 S →
    xq_108_22 n A (nI k) (nI a) (nI p) (lN s) ∧ ro_eqv M (xg_108_22 n A (nI k) (nI a) (nI p) (lN s)).2.2 ∧ pu_at p (xg_108_22 n A (nI k) (nI a) (nI p) (lN s)).2.2 49 S ∧ (xg_108_22 n A (nI k) (nI a) (nI p) (lN s)).2.1 = lN (s + in_s a (st_2 od p S a) d k) := by
  have p49 : ro_ip 49 := by unfold ro_ip; decide
  have c49 : pu_c 49 := Or.inr (Or.inr (Or.inl rfl))
  intro d
  induction d with
  | zero =>
    intro k n A s hk hn hA hS
    obtain ⟨n, rfl⟩ : ∃ m, n = m + 1 := ⟨n - 1, by omega⟩
    have c0 : nI p ≤ nI k := nI_le (by omega) (by omega)
    rw [xg_108_22, xq_108_22, if_pos c0, in_s]
    exact ⟨⟨fun _ => trivial, fun y => absurd c0 y⟩, hA, hS, rfl⟩
  | succ d ih =>
    intro k n A s hk hn hA hS
    obtain ⟨n, rfl⟩ : ∃ m, n = m + 1 := ⟨n - 1, by omega⟩
    have c0 : ¬ nI p ≤ nI k := nI_ge (by omega) (by omega)
    have hkp : k < p := by omega
    rw [in_s]
    by_cases e : a = k
    · have e2 : nI a = nI k := by rw [e]
      obtain ⟨i1, i2⟩ := ih (k + 1) n A s (by omega) (by omega) hA hS
      rw [xg_108_22, xq_108_22, if_neg c0, if_pos e2, nI_1, if_pos e, Nat.zero_add]
      exact ⟨⟨fun y => absurd y c0, fun _ => ⟨fun _ => i1, fun y => absurd e2 y⟩⟩, i2⟩
    · have e2 : ¬ nI a = nI k := fun q => e ((nI_eq (by omega) (by omega)).mp q)
      have m75 := pu_75 hS hp ha hkp
      rw [if_neg e]
      by_cases mw : pu_mw S a k = true
      · rw [mw] at m75
        have e22 : st_2 od p S a k = (12 - pa_o od a k S) * st_e od p (pu_gw S a k) := by unfold st_2; rw [if_pos mw]
        obtain ⟨o1, o2, o3, o4, o5⟩ := hod.2.1 _ 49 a k hA p49 (by omega) (by omega)
        obtain ⟨ob, oe⟩ := pa_ob (i := a) (j := k) hod S
        rw [(hS k hkp).1, (hS k hkp).2, oe] at o1
        have od2 : (12 : Int32) - nI (pa_o od a k S) = nI (12 - pa_o od a k S) := nI_sub (a := 12) ob
        have x2 : (nI (12 - pa_o od a k S)).toInt64 = lN (12 - pa_o od a k S) := nI_l (by omega)
        have S1 : pu_at p (xm_58 A 49 (nI a) (nI k)) 49 S := pu_at_c hS (fun y _ => ⟨o4 50 y (by decide) (by decide) (by omega), o4 51 y (by decide) (by decide) (by omega)⟩)
        obtain ⟨g1, g2⟩ := pu_78 S1 hp ha hkp e
        have E2 := pu_fr_e c49 o3 g2
        obtain ⟨t1, t2, t3, t4, t5, t6⟩ := ta_107 hod hp e1 E2 g1
        obtain ⟨u1, u2⟩ := pu_78 t3 hp hkp ha (fun q => e q.symm)
        rw [pu_gw_gw e] at u1
        have E4 := pu_fr_e c49 t2 u2
        have nb := st_nb hp (pu_gw S a k)
        have tb := st_tb (od := od) (p := p) (pu_gw S a k)
        obtain ⟨i1, i2, i3, i4⟩ := ih (k + 1) n _ (s + (12 - pa_o od a k S) * st_e od p (pu_gw S a k)) (by omega) (by omega) E4 u1
        rw [e22]
        by_cases z : st_n p (pu_gw S a k) = 0
        · have z2 : nI (st_n p (pu_gw S a k)) ≤ 0 := by rw [z]; decide
          have ee : st_e od p (pu_gw S a k) = 27949074753600 := by unfold st_e; rw [if_pos z]
          have sum : lN s + lN (12 - pa_o od a k S) * 27949074753600 = lN (s + (12 - pa_o od a k S) * st_e od p (pu_gw S a k)) := by
            rw [ee, show lN (12 - pa_o od a k S) * 27949074753600 = lN ((12 - pa_o od a k S) * 27949074753600) from lN_mul _ 27949074753600, lN_add]
          rw [xg_108_22, xq_108_22, if_neg c0, if_neg e2, if_pos m75, t4, if_pos z2, o1, od2, x2, nI_1, sum]
          exact ⟨⟨fun y => absurd y c0, fun _ => ⟨fun y => absurd y e2, fun _ => ⟨fun _ => ⟨o2, t1, fun _ => i1, fun y => absurd z2 y⟩, fun y => absurd m75 y⟩⟩⟩, i2, i3, by rw [i4, Nat.add_assoc]⟩
        · have z2 : ¬ nI (st_n p (pu_gw S a k)) ≤ 0 := nI_nle (by omega) (by omega)
          have ee : st_e od p (pu_gw S a k) = st_t od p (pu_gw S a k) * (2329089562800 / st_n p (pu_gw S a k)) := by unfold st_e; rw [if_neg z]
          have y1 : (nI (st_n p (pu_gw S a k))).toInt64 = lN (st_n p (pu_gw S a k)) := nI_l (by omega)
          have y2 : (nI (st_t od p (pu_gw S a k))).toInt64 = lN (st_t od p (pu_gw S a k)) := nI_l (by omega)
          have y3 : (2329089562800 : Int64) / lN (st_n p (pu_gw S a k)) = lN (2329089562800 / st_n p (pu_gw S a k)) := lN_div (a := 2329089562800) (by decide) (by omega)
          have sum : lN s + lN (12 - pa_o od a k S) * (lN (st_t od p (pu_gw S a k)) * (2329089562800 / lN (st_n p (pu_gw S a k)))) = lN (s + (12 - pa_o od a k S) * st_e od p (pu_gw S a k)) := by
            rw [ee, y3, lN_mul, lN_mul, lN_add]
          have nz : ¬ lN (st_n p (pu_gw S a k)) = 0 := lo_ne0 (by omega) (by omega)
          rw [xg_108_22, xq_108_22, if_neg c0, if_neg e2, if_pos m75, t4, if_neg z2, o1, od2, x2, t5, y1, y2, nI_1, sum]
          exact ⟨⟨fun y => absurd y c0, fun _ => ⟨fun y => absurd y e2, fun _ => ⟨fun _ => ⟨o2, t1, fun y => absurd y z2, fun _ => ⟨nz, i1⟩⟩, fun y => absurd m75 y⟩⟩⟩, i2, i3, by rw [i4, Nat.add_assoc]⟩
      · have wf : pu_mw S a k = false := by cases hq : pu_mw S a k with | true => exact absurd hq mw | false => rfl
        have nm : ¬ xf_75 A 49 (nI a) (nI k) = true := by rw [m75, wf]; decide
        have e22 : st_2 od p S a k = 0 := by unfold st_2; rw [if_neg mw]
        obtain ⟨i1, i2⟩ := ih (k + 1) n A s (by omega) (by omega) hA hS
        rw [xg_108_22, xq_108_22, if_neg c0, if_neg e2, if_neg nm, nI_1, e22, Nat.zero_add]
        exact ⟨⟨fun y => absurd y c0, fun _ => ⟨fun y => absurd y e2, fun _ => ⟨fun y => absurd y nm, fun _ => i1⟩⟩⟩, i2⟩
theorem ta_13 (hod : od_is M od) (hp : p ≤ 6) (e1 : M.2.1 5 4 = nI p) : ∀ (d a n : Nat) (A : ro_Mm) (s : Nat), a + d = p → d < n → ro_eqv M A → pu_at p A 49 S →
    xq_108_13 n A (nI a) (nI p) (lN s) ∧ ro_eqv M (xg_108_13 n A (nI a) (nI p) (lN s)).2.2 ∧ (xg_108_13 n A (nI a) (nI p) (lN s)).2.1 = lN (s + out_s p (st_2 od p S) d a) := by
  intro d
  induction d with
  | zero =>
    intro a n A s hk hn hA hS
    obtain ⟨n, rfl⟩ : ∃ m, n = m + 1 := ⟨n - 1, by omega⟩
    have c0 : nI p ≤ nI a := nI_le (by omega) (by omega)
    rw [xg_108_13, xq_108_13, if_pos c0, out_s]
    exact ⟨⟨fun _ => trivial, fun y => absurd c0 y⟩, hA, rfl⟩
  | succ d ih =>
    intro a n A s hk hn hA hS
    obtain ⟨n, rfl⟩ : ∃ m, n = m + 1 := ⟨n - 1, by omega⟩
    have c0 : ¬ nI p ≤ nI a := nI_ge (by omega) (by omega)
    obtain ⟨x1, x2, x3, x4⟩ := ta_22 hod hp e1 (a := a) (by omega) p 0 lp_N A s (by omega) (lp_hug (by omega)) hA hS
    have x4 : (xg_108_22 lp_N A 0 (nI a) (nI p) (lN s)).2.1 = lN (s + in_s a (st_2 od p S a) p 0) := x4
    obtain ⟨i1, i2, i3⟩ := ih (a + 1) n _ (s + in_s a (st_2 od p S a) p 0) (by omega) (by omega) x2 x3
    rw [xg_108_13, xq_108_13, if_neg c0, nI_1, out_s, x4]
    exact ⟨⟨fun y => absurd y c0, fun _ => ⟨x1, i1⟩⟩, i2, by rw [← Nat.add_assoc]; exact i3⟩
theorem ta_108 (hod : od_is M od) (hp : p ≤ 6) (e1 : M.2.1 5 4 = nI p) {A : ro_Mm} (hA : ro_eqv M A) (hS : pu_at p A 49 S) : xp_108 A ∧ ro_eqv M (xm_108 A) ∧ xf_108 A = lN (out_s p (st_2 od p S) p 0) := by
  have e18 : xf_18 A = nI p := (hA.2.1 5 4 rfl).trans e1
  obtain ⟨x1, x2, x3⟩ := ta_13 hod hp e1 p 0 lp_N A 0 (by omega) (lp_hug (by omega)) hA hS
  rw [Nat.zero_add] at x3
  refine ⟨?_, ?_, ?_⟩
  · unfold xp_108; rw [e18]; exact ⟨x1, trivial⟩
  · unfold xm_108; rw [e18]; exact x2
  · unfold xf_108; rw [e18]; exact x3
end TA
end STAYS1

