/-! pair stays -/
section STAYS3
variable {X : ro_Sx}
section SP
variable {M : ro_Mm} {od : Nat → Nat → Int32 → Int32 → Int32} {p : Nat}
theorem sp_t {S : pu_T} : out_s p (sc_w od (fun _ => 1) S) p 0 = st_t od p S := by
  unfold st_t
  congr 1
  funext a b
  unfold sc_w
  by_cases e : pu_mw S a b = true
  · rw [if_pos e, if_pos e, Nat.mul_one]
  · rw [if_neg e, if_neg e]
/-- of one more: a fraction by the number of pairs, by all -/
theorem sp_1 (hp : p ≤ 6) {S : pu_T} (h : ¬ st_n p S = 0) : st_t od p S / Nat.gcd (st_t od p S) (12 * st_n p S) = st_e od p S / Nat.gcd (st_e od p S) 27949074753600 ∧ 12 * st_n p S / Nat.gcd (st_t od p S) (12 * st_n p S) = 27949074753600 / Nat.gcd (st_e od p S) 27949074753600 := by
  have hb := st_nb hp S
  refine lo_eq (by omega) (by decide) ?_
  have dv := st_dv (st_n p S) (by omega) (by omega)
  unfold st_e
  rw [if_neg h]
  have e : st_t od p S * (2329089562800 / st_n p S) * (12 * st_n p S) = st_t od p S * (12 * (2329089562800 / st_n p S * st_n p S)) := by
    rw [Nat.mul_assoc]
    congr 1
    rw [Nat.mul_left_comm]
  rw [e, dv]
theorem sp_e0 {S : pu_T} (h : st_n p S = 0) : st_e od p S / Nat.gcd (st_e od p S) 27949074753600 = 1 ∧ 27949074753600 / Nat.gcd (st_e od p S) 27949074753600 = 1 := by
  unfold st_e
  rw [if_pos h, Nat.gcd_self]
  exact ⟨Nat.div_self (by decide), Nat.div_self (by decide)⟩
theorem sp_q (hp : p ≤ 6) (S : pu_T) : 27949074753600 / Nat.gcd (st_e od p S) 27949074753600 ≤ 360 := by
  by_cases z : st_n p S = 0
  · rw [(sp_e0 z).2]; decide
  · rw [← (sp_1 hp z).2]
    have h1 := Nat.div_le_self (12 * st_n p S) (Nat.gcd (st_t od p S) (12 * st_n p S))
    have h2 := st_nb hp S
    omega
theorem sp_F1 (hod : od_is M od) (hp : p ≤ 6) (e2 : M.2.1 163 1 = nI p) {n : Nat} : sc_F M p 1 (n + 2) (st_e od p) 27949074753600 := by
  refine sc_step hod hp e2 (sc_0 (n := n)) (by decide) (by decide) (fun _ => Nat.le_refl _) (fun _ => ?_) (by decide) (fun S z => sp_e0 z) (fun S z => ?_)
  · rw [Nat.gcd_self]; decide
  · rw [sp_t, Nat.one_mul]; exact sp_1 hp z
/-- of two more -/
def sp_3 (od : Nat → Nat → Int32 → Int32 → Int32) (p : Nat) (S : pu_T) : Nat := if st_n p S = 0 then 27949074753600 * 12 * 2329089562800 else out_s p (st_2 od p S) p 0 * (2329089562800 / st_n p S)
theorem sp_2 (hp : p ≤ 6) {S : pu_T} (h : ¬ st_n p S = 0) : out_s p (st_2 od p S) p 0 / Nat.gcd (out_s p (st_2 od p S) p 0) (27949074753600 * 12 * st_n p S) = sp_3 od p S / Nat.gcd (sp_3 od p S) (27949074753600 * 12 * 2329089562800) ∧ 27949074753600 * 12 * st_n p S / Nat.gcd (out_s p (st_2 od p S) p 0) (27949074753600 * 12 * st_n p S) = 27949074753600 * 12 * 2329089562800 / Nat.gcd (sp_3 od p S) (27949074753600 * 12 * 2329089562800) := by
  have hb := st_nb hp S
  refine lo_eq (by omega) (by decide) ?_
  have dv := st_dv (st_n p S) (by omega) (by omega)
  unfold sp_3
  rw [if_neg h]
  generalize out_s p (st_2 od p S) p 0 = T
  have e : T * (2329089562800 / st_n p S) * (27949074753600 * 12 * st_n p S) = T * (27949074753600 * 12 * (2329089562800 / st_n p S * st_n p S)) := by
    rw [Nat.mul_assoc]
    congr 1
    rw [Nat.mul_left_comm]
  rw [e, dv]
theorem sp_F2 (hod : od_is M od) (hp : p ≤ 6) (e2 : M.2.1 163 1 = nI p) {n : Nat} : sc_F M p 2 (n + 3) (sp_3 od p) (27949074753600 * 12 * 2329089562800) := by
  refine sc_step hod hp e2 (sp_F1 hod hp e2 (n := n)) (by decide) (by decide) (fun S => st_eb hp) (fun S => sp_q hp S) (by decide) (fun S z => ?_) (fun S z => ?_)
  · unfold sp_3
    rw [if_pos z, Nat.gcd_self]
    exact ⟨Nat.div_self (by decide), Nat.div_self (by decide)⟩
  · exact sp_2 hp z
/-- the class's fraction, for n of them -/
theorem sp_106 (hod : od_is M od) (hp : p ≤ 6) (e1 : M.2.1 5 4 = nI p) (hM : ro_lay M) {n : Nat} (hn : n ≤ 2) : ∃ (A : ro_Mm) (a b : Nat), ro_eqv M A ∧ a < 2 ^ 63 ∧ b < 2 ^ 63 ∧ 0 < b ∧ xm_106 M (nI n) = xm_100 A (lN a) (lN b) ∧ xp_106 M (nI n) ∧
    (n = 0 → a = 1 ∧ b = 1) ∧ (¬ n = 0 → st_n p (pu_now M) = 0 → a = 1 ∧ b = 1) ∧ (n = 1 → ¬ st_n p (pu_now M) = 0 → a = st_t od p (pu_now M) ∧ b = 12 * st_n p (pu_now M)) ∧ (n = 2 → ¬ st_n p (pu_now M) = 0 → a = out_s p (st_2 od p (pu_now M)) p 0 ∧ b = 27949074753600 * 12 * st_n p (pu_now M)) := by
  have e18 : xf_18 M = nI p := e1
  obtain ⟨c2, c3, c4⟩ := pu_68 (M := M) (ro_eqv_r hM) (c := 49) (p := p) (by unfold ro_ip; decide) (by decide) hp
  have E1 := pu_fr_e (Or.inr (Or.inr (Or.inl rfl))) (ro_eqv_r hM) c4
  obtain ⟨t1, t2, t3, t4, t5, t6⟩ := ta_107 hod hp e1 E1 c3
  obtain ⟨u1, u2, u3⟩ := ta_108 hod hp e1 t2 t3
  have nb := st_nb hp (pu_now M)
  have tb := st_tb (od := od) (p := p) (pu_now M)
  have y1 : (nI (st_n p (pu_now M))).toInt64 = lN (st_n p (pu_now M)) := nI_l (by omega)
  have y2 : (nI (st_t od p (pu_now M))).toInt64 = lN (st_t od p (pu_now M)) := nI_l (by omega)
  have S1 := fun C : ro_Mm => (lo_set (M := C) (a := 1) (b := 1) (by decide) (by decide) (by decide)).2
  by_cases n0 : n = 0
  · have c0 : nI n ≤ 0 := by rw [n0]; decide
    refine ⟨_, 1, 1, t2, by decide, by decide, by decide, ?_, ?_, fun _ => ⟨rfl, rfl⟩, fun y => absurd n0 y, fun y => by omega, fun y => by omega⟩
    · unfold xm_106; rw [e18, if_pos c0]; rfl
    · unfold xp_106; rw [e18]; exact ⟨c2, t1, fun _ => ⟨S1 _, trivial⟩, fun y => absurd c0 y⟩
  · have c0 : ¬ nI n ≤ 0 := nI_nle (by omega) (by omega)
    by_cases z : st_n p (pu_now M) = 0
    · have zz : nI (st_n p (pu_now M)) = 0 := by rw [z]; rfl
      refine ⟨_, 1, 1, t2, by decide, by decide, by decide, ?_, ?_, fun y => absurd y n0, fun _ _ => ⟨rfl, rfl⟩, fun _ y => absurd z y, fun _ y => absurd z y⟩
      · unfold xm_106; rw [e18, if_neg c0, t4, if_pos zz]; rfl
      · unfold xp_106; rw [e18, t4]; exact ⟨c2, t1, fun y => absurd y c0, fun _ => ⟨fun _ => ⟨S1 _, trivial⟩, fun y => absurd zz y⟩⟩
    · have zz : ¬ nI (st_n p (pu_now M)) = 0 := nI_ne0 (by omega) (by omega)
      by_cases n1 : n = 1
      · have c1 : nI n = 1 := by rw [n1]; rfl
        have f : (12 : Int64) * lN (st_n p (pu_now M)) = lN (12 * st_n p (pu_now M)) := lN_mul 12 _
        refine ⟨_, st_t od p (pu_now M), 12 * st_n p (pu_now M), t2, by omega, by omega, by omega, ?_, ?_, fun y => absurd y n0, fun _ y => absurd y z, fun _ _ => ⟨rfl, rfl⟩, fun y => by omega⟩
        · unfold xm_106; rw [e18, if_neg c0, t4, if_neg zz, if_pos c1, t5, y1, y2, f]
        · unfold xp_106; rw [e18, t4, t5, y1, y2, f]; exact ⟨c2, t1, fun y => absurd y c0, fun _ => ⟨fun y => absurd y zz, fun _ => ⟨fun _ => ⟨(lo_set (by omega) (by omega) (by omega)).2, trivial⟩, fun y => absurd c1 y⟩⟩⟩
      · have c1 : ¬ nI n = 1 := by
          intro y
          exact n1 ((nI_eq (b := 1) (by omega) (by decide)).mp y)
        have f : (144 : Int64) * lN (st_n p (pu_now M)) * 2329089562800 = lN (27949074753600 * 12 * st_n p (pu_now M)) := by
          rw [show (144 : Int64) * lN (st_n p (pu_now M)) = lN (144 * st_n p (pu_now M)) from lN_mul 144 _, show lN (144 * st_n p (pu_now M)) * 2329089562800 = lN (144 * st_n p (pu_now M) * 2329089562800) from lN_mul _ 2329089562800]
          congr 1; omega
        have hs : out_s p (st_2 od p (pu_now M)) p 0 ≤ 12 * 27949074753600 * 30 := by
          have h1 := out_s_le (p := p) (c := 12 * 27949074753600) (f := st_2 od p (pu_now M)) (g := fun a b => if pu_mw (pu_now M) a b = true then 1 else 0) (fun a b => by
            unfold st_2
            by_cases mw : pu_mw (pu_now M) a b = true
            · simp only [if_pos mw, Nat.mul_one]
              exact Nat.mul_le_mul (by omega) (st_eb hp)
            · simp only [if_neg mw]; exact Nat.zero_le _) p 0
          have h2 : 12 * 27949074753600 * out_s p (fun a b => if pu_mw (pu_now M) a b = true then 1 else 0) p 0 ≤ 12 * 27949074753600 * 30 := Nat.mul_le_mul_left _ nb
          omega
        refine ⟨_, out_s p (st_2 od p (pu_now M)) p 0, 27949074753600 * 12 * st_n p (pu_now M), u2, by omega, by omega, by omega, ?_, ?_, fun y => absurd y n0, fun _ y => absurd y z, fun y => absurd y n1, fun _ _ => ⟨rfl, rfl⟩⟩
        · unfold xm_106; rw [e18, if_neg c0, t4, if_neg zz, if_neg c1, u3, y1, f]
        · unfold xp_106; rw [e18, t4, u3, y1, f]; exact ⟨c2, t1, fun y => absurd y c0, fun _ => ⟨fun y => absurd y zz, fun _ => ⟨fun y => absurd y c1, fun _ => ⟨u1, (lo_set (by omega) (by omega) (by omega)).2, trivial⟩⟩⟩⟩
end SP
theorem all_13 {M : ro_Mm} (h : ro_Inv M) {v1 v2 : Int32} : xp_105 M v1 v2 ∧ xp_256 (xm_105 M v1 v2) v1 v2 ∧ xf_256 (xm_105 M v1 v2) v1 v2 = xf_105 M v1 v2 ∧ ro_eqv M (xm_256 (xm_105 M v1 v2) v1 v2) := by
  obtain ⟨od, hod⟩ := od_ex h
  obtain ⟨p, hp, e1, e2⟩ := ro_ppl h
  by_cases b1 : xf_13 M v1 0 2 = true
  · have f1 : ∀ A : ro_Mm, xf_195 A v1 0 2 = true := fun A => by rw [ro_w195]; exact ro_w13.mp b1
    by_cases b2 : xf_95 M v2 = true
    · have hv := lo_is.mp b2
      have f2 : ∀ A : ro_Mm, xf_195 A v2 0 1 = true := fun A => lo_is2.mpr hv
      obtain ⟨n, hn, en⟩ := nI_of2 (x := v1) (M := 2) (n := 2) (by decide) (Int32.not_lt.mpr (ro_w13.mp b1).1) (ro_w13.mp b1).2
      obtain ⟨A, a, b, hA, ha, hb, hb0, m1, m2, m3, m4, m5, m6⟩ := sp_106 hod hp e1 h.1 hn
      have hm : xm_105 M v1 v2 = xm_100 A (lN a) (lN b) := by unfold xm_105; rw [if_pos b1, if_pos b2, en, m1]
      have E := lo_eqv hA ha hb hb0
      obtain ⟨r1, r2, r3⟩ := pu_228 h E hp e2
      have E2 := pu_fr_e (Or.inr (Or.inr (Or.inr rfl))) E r3
      -- the reference's fraction is the class's
      have REF : xpr_sty rc_N (xm_228 (xm_100 A (lN a) (lN b))) (nI n) ∧ ro_eqv M (xr_sty rc_N (xm_228 (xm_100 A (lN a) (lN b))) (nI n)) ∧ (xr_sty rc_N (xm_228 (xm_100 A (lN a) (lN b))) (nI n)).2.2.1 163 33 = lN (a / Nat.gcd a b) ∧ (xr_sty rc_N (xm_228 (xm_100 A (lN a) (lN b))) (nI n)).2.2.1 163 34 = lN (b / Nat.gcd a b) := by
        have one : (1 / Nat.gcd 1 1) = 1 := by rw [Nat.gcd_self]
        have h3 : n = 0 ∨ n = 1 ∨ n = 2 := by omega
        rcases h3 with q | q | q
        · obtain ⟨k, hk⟩ : ∃ k, rc_N = k + 1 := ⟨99, rc_N_eq⟩
          obtain ⟨s1, s2, s3, s4, s5⟩ := (sc_0 (M := M) (p := p) (n := k)) _ _ E2 r2
          obtain ⟨ea, eb⟩ := m3 q
          have fr : (1 / Nat.gcd 1 1) = a / Nat.gcd a b ∧ 1 / Nat.gcd 1 1 = b / Nat.gcd a b := by rw [ea, eb]; exact ⟨rfl, rfl⟩
          rw [q, hk]
          exact ⟨s1, s2, s4.trans (congrArg lN fr.1), s5.trans (congrArg lN fr.2)⟩
        · obtain ⟨k, hk⟩ : ∃ k, rc_N = k + 2 := ⟨98, rc_N_eq⟩
          obtain ⟨s1, s2, s3, s4, s5⟩ := (sp_F1 hod hp e2 (n := k)) _ _ E2 r2
          have fr : st_e od p (pu_now M) / Nat.gcd (st_e od p (pu_now M)) 27949074753600 = a / Nat.gcd a b ∧ 27949074753600 / Nat.gcd (st_e od p (pu_now M)) 27949074753600 = b / Nat.gcd a b := by
            by_cases z : st_n p (pu_now M) = 0
            · obtain ⟨x, y⟩ := m4 (by omega) z
              rw [x, y, one]; exact sp_e0 z
            · obtain ⟨x, y⟩ := m5 q z
              rw [x, y]; exact ⟨(sp_1 hp z).1.symm, (sp_1 hp z).2.symm⟩
          rw [fr.1] at s4
          rw [fr.2] at s5
          rw [q, hk]
          exact ⟨s1, s2, s4, s5⟩
        · obtain ⟨k, hk⟩ : ∃ k, rc_N = k + 3 := ⟨97, rc_N_eq⟩
          obtain ⟨s1, s2, s3, s4, s5⟩ := (sp_F2 hod hp e2 (n := k)) _ _ E2 r2
          have fr : sp_3 od p (pu_now M) / Nat.gcd (sp_3 od p (pu_now M)) (27949074753600 * 12 * 2329089562800) = a / Nat.gcd a b ∧ 27949074753600 * 12 * 2329089562800 / Nat.gcd (sp_3 od p (pu_now M)) (27949074753600 * 12 * 2329089562800) = b / Nat.gcd a b := by
            by_cases z : st_n p (pu_now M) = 0
            · obtain ⟨x, y⟩ := m4 (by omega) z
              rw [x, y, one]
              unfold sp_3
              rw [if_pos z, Nat.gcd_self]
              exact ⟨Nat.div_self (by decide), Nat.div_self (by decide)⟩
            · obtain ⟨x, y⟩ := m6 q z
              rw [x, y]; exact ⟨(sp_2 hp z).1.symm, (sp_2 hp z).2.symm⟩
          rw [fr.1] at s4
          rw [fr.2] at s5
          rw [q, hk]
          exact ⟨s1, s2, s4, s5⟩
      obtain ⟨q1, q2, q3, q4⟩ := REF
      have ls := (lo_set (M := A) ha hb hb0).1
      rw [hm]
      refine ⟨?_, ?_, ?_, ?_⟩
      · unfold xp_105
        rw [en]
        exact ⟨fun _ => ⟨fun _ => ⟨m2, trivial⟩, fun _ => trivial⟩, fun _ => trivial⟩
      · unfold xp_256 xp_257
        rw [en]
        exact ⟨fun _ => ⟨fun _ => ⟨r1, q1, trivial⟩, fun _ => trivial⟩, fun _ => trivial⟩
      · unfold xf_256 xf_105 xm_257
        rw [if_pos (f1 _), if_pos (f2 _), if_pos b1, if_pos b2, en, q3, q4, m1, ls]
        unfold xf_102
        rcases hv with y | y <;> subst y
        · rw [if_pos rfl, if_pos rfl]; rfl
        · rw [if_neg (by decide), if_neg (by decide)]; rfl
      · unfold xm_256 xm_257
        rw [if_pos (f1 _), if_pos (f2 _), en]
        exact q2
    · have f2 : ¬ xf_195 M v2 0 1 = true := fun q => b2 (lo_is.mpr (lo_is2.mp q))
      have hm : xm_105 M v1 v2 = M := by unfold xm_105; rw [if_pos b1, if_neg b2]
      rw [hm]
      refine ⟨⟨fun _ => ⟨fun y => absurd y b2, fun _ => trivial⟩, fun _ => trivial⟩, ⟨fun _ => ⟨fun y => absurd y f2, fun _ => trivial⟩, fun _ => trivial⟩, ?_, ?_⟩
      · unfold xf_256 xf_105; rw [if_pos (f1 _), if_neg f2, if_pos b1, if_neg b2]
      · unfold xm_256; rw [if_pos (f1 _), if_neg f2]; exact ro_eqv_r h.1
  · have f1 : ¬ xf_195 M v1 0 2 = true := by rw [← ro_w13_195]; exact b1
    have hm : xm_105 M v1 v2 = M := by unfold xm_105; rw [if_neg b1]
    rw [hm]
    refine ⟨⟨fun y => absurd y b1, fun _ => trivial⟩, ⟨fun y => absurd y f1, fun _ => trivial⟩, ?_, ?_⟩
    · unfold xf_256 xf_105; rw [if_neg f1, if_neg b1]
    · unfold xm_256; rw [if_neg f1]; exact ro_eqv_r h.1
end STAYS3

