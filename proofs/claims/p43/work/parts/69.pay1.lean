/-! payings, way by way: the reference's goPay -/
section PAY1
/-- odds, in twelfths -/
def pa_o (od : Nat → Nat → Int32 → Int32 → Int32) (i j : Nat) (S : pu_T) : Nat := (od i j (S.1 j) (S.2 j)).toNatClampNeg
/-- of 12 to the l-th ways: in how many q are refused at the end, r are now -/
def pa_P (od : Nat → Nat → Int32 → Int32 → Int32) (i j : Nat) : Nat → pu_T → Nat → Nat → Nat
  | 0, _, r, q => if q = r then 1 else 0
  | l + 1, S, r, q => if pu_mw S i j = true then pa_o od i j S * pa_P od i j l (pu_rf S i) (r + 1) q + (12 - pa_o od i j S) * pa_P od i j l (pu_gw S i j) r q else 12 * pa_P od i j l S r q
section PA
variable {M : ro_Mm} {od : Nat → Nat → Int32 → Int32 → Int32} {i j : Nat}
theorem pa_ob (hod : od_is M od) (S : pu_T) : pa_o od i j S ≤ 12 ∧ od i j (S.1 j) (S.2 j) = nI (pa_o od i j S) := by
  obtain ⟨h0, h1⟩ := hod.1 i j (S.1 j) (S.2 j)
  exact ⟨ro_cle (n := 12) h0 h1 (by decide), ro_nI_of h0⟩
theorem pa_b (hod : od_is M od) : ∀ (l : Nat) (S : pu_T) (r q : Nat), pa_P od i j l S r q ≤ 12 ^ l := by
  intro l
  induction l with
  | zero =>
    intro S r q
    rw [pa_P]
    by_cases e : q = r
    · rw [if_pos e]; exact Nat.le_refl _
    · rw [if_neg e]; exact Nat.zero_le _
  | succ l ih =>
    intro S r q
    rw [pa_P, Nat.pow_succ]
    by_cases e : pu_mw S i j = true
    · rw [if_pos e]
      have ho := (pa_ob (i := i) (j := j) hod S).1
      have h1 := Nat.mul_le_mul_left (pa_o od i j S) (ih (pu_rf S i) (r + 1) q)
      have h2 := Nat.mul_le_mul_left (12 - pa_o od i j S) (ih (pu_gw S i j) r q)
      have h3 : pa_o od i j S * 12 ^ l + (12 - pa_o od i j S) * 12 ^ l = 12 ^ l * 12 := by
        rw [← Nat.add_mul, show pa_o od i j S + (12 - pa_o od i j S) = 12 by omega, Nat.mul_comm]
      omega
    · rw [if_neg e]
      have := ih S r q
      omega
theorem pa_stuck {S : pu_T} (h : ¬ pu_mw S i j = true) : ∀ (l r q : Nat), pa_P od i j l S r q = 12 ^ l * (if q = r then 1 else 0) := by
  intro l
  induction l with
  | zero => intro r q; rw [pa_P, Nat.pow_zero, Nat.one_mul]
  | succ l ih => intro r q; rw [pa_P, if_neg h, ih, Nat.pow_succ, Nat.mul_comm (12 ^ l) 12, Nat.mul_assoc]
end PA
theorem pa_ref {M : ro_Mm} {od : Nat → Nat → Int32 → Int32 → Int32} (hod : od_is M od) {p i j : Nat} (hp : p ≤ 6) (hi : i < p) (hj : j < p) (hij : i ≠ j) : ∀ (l n : Nat) (B : ro_Mm) (S : pu_T) (r w : Nat), l < n → r + l ≤ 8 → ro_eqv M B → pu_at p B 180 S →
    xpr_pay n B (nI i) (nI j) (nI l) (nI r) (lN w) ∧ ro_eqv M (xr_pay n B (nI i) (nI j) (nI l) (nI r) (lN w)) ∧ pu_at p (xr_pay n B (nI i) (nI j) (nI l) (nI r) (lN w)) 180 S ∧ (∀ q, q < 9 → (xr_pay n B (nI i) (nI j) (nI l) (nI r) (lN w)).2.2.1 183 q = B.2.2.1 183 q + lN (w * pa_P od i j l S r q)) := by
  have c180 : pu_c 180 := Or.inr (Or.inr (Or.inr rfl))
  have hi6 : i < 6 := by omega
  have hj6 : j < 6 := by omega
  obtain ⟨q1, q2, q3, q4⟩ := ro_n6 hi6
  intro l
  induction l with
  | zero =>
    intro n B S r w hn hr hB hS
    obtain ⟨n, rfl⟩ : ∃ m, n = m + 1 := ⟨n - 1, by omega⟩
    show xpb_253 (xr_pay n) (xpr_pay n) B (nI i) (nI j) (nI 0) (nI r) (lN w) ∧ ro_eqv M (xmb_253 (xr_pay n) B (nI i) (nI j) (nI 0) (nI r) (lN w)) ∧ pu_at p (xmb_253 (xr_pay n) B (nI i) (nI j) (nI 0) (nI r) (lN w)) 180 S ∧ (∀ q, q < 9 → (xmb_253 (xr_pay n) B (nI i) (nI j) (nI 0) (nI r) (lN w)).2.2.1 183 q = B.2.2.1 183 q + lN (w * pa_P od i j 0 S r q))
    have z0 : nI 0 = 0 := rfl
    have er : (nI r).toNatClampNeg = r := nI_clamp (by omega)
    have vr : vp_in (nI r) 9 := ro_vn (by omega) (by decide)
    by_cases z : lg_cmp (lN w) 0 = 0
    · have e : xmb_253 (xr_pay n) B (nI i) (nI j) (nI 0) (nI r) (lN w) = B := by unfold xmb_253; rw [if_pos z]
      rw [e]
      have w0 : lN w = 0 := (lg_cmp_eq _ _).mp z
      refine ⟨?_, hB, hS, fun q hq => ?_⟩
      · unfold xpb_253; exact ⟨fun _ => trivial, fun y => absurd z y⟩
      · rw [← lN_mul, w0, Int64.zero_mul, Int64.add_zero]
    · have e : xmb_253 (xr_pay n) B (nI i) (nI j) (nI 0) (nI r) (lN w) = ro_sJ B 183 r (B.2.2.1 183 r + lN w) := by unfold xmb_253; rw [if_neg z, if_pos z0, er]
      rw [e]
      refine ⟨?_, ⟨hB.1, hB.2.1, fun c k hck => ?_⟩, hS, fun q hq => ?_⟩
      · unfold xpb_253; exact ⟨fun y => absurd y z, fun _ => ⟨fun _ => ⟨vr, vr, trivial⟩, fun y => absurd z0 y⟩⟩
      · rw [ro_sJ_ne (fun q => by rw [q] at hck; exact Bool.noConfusion hck)]; exact hB.2.2 c k hck
      · rw [pa_P]
        show (if 183 = 183 ∧ q = r then B.2.2.1 183 r + lN w else B.2.2.1 183 q) = _
        by_cases eq : q = r
        · rw [if_pos ⟨rfl, eq⟩, if_pos eq, eq, Nat.mul_one]
        · rw [if_neg (fun y => eq y.2), if_neg eq, Nat.mul_zero]; exact (Int64.add_zero _).symm
  | succ l ih =>
    intro n B S r w hn hr hB hS
    obtain ⟨n, rfl⟩ : ∃ m, n = m + 1 := ⟨n - 1, by omega⟩
    show xpb_253 (xr_pay n) (xpr_pay n) B (nI i) (nI j) (nI (l + 1)) (nI r) (lN w) ∧ ro_eqv M (xmb_253 (xr_pay n) B (nI i) (nI j) (nI (l + 1)) (nI r) (lN w)) ∧ pu_at p (xmb_253 (xr_pay n) B (nI i) (nI j) (nI (l + 1)) (nI r) (lN w)) 180 S ∧ (∀ q, q < 9 → (xmb_253 (xr_pay n) B (nI i) (nI j) (nI (l + 1)) (nI r) (lN w)).2.2.1 183 q = B.2.2.1 183 q + lN (w * pa_P od i j (l + 1) S r q))
    have z0 : ¬ nI (l + 1) = 0 := nI_ne0 (by omega) (by omega)
    by_cases z : lg_cmp (lN w) 0 = 0
    · have e : xmb_253 (xr_pay n) B (nI i) (nI j) (nI (l + 1)) (nI r) (lN w) = B := by unfold xmb_253; rw [if_pos z]
      rw [e]
      have w0 : lN w = 0 := (lg_cmp_eq _ _).mp z
      refine ⟨?_, hB, hS, fun q hq => ?_⟩
      · unfold xpb_253; exact ⟨fun _ => trivial, fun y => absurd z y⟩
      · rw [← lN_mul, w0, Int64.zero_mul, Int64.add_zero]
    · obtain ⟨w1, w2⟩ := pu_241 hS hp hi hj
      by_cases mw : pu_mw S i j = true
      · rw [mw] at w1
        obtain ⟨o6, o7, o8, o9, o10⟩ := hod.2.2 B i j hB hi6 hj6
        have s1 : B.2.1 181 j = S.1 j := (hS j hj).1
        have s2 : B.2.1 182 j = S.2 j := (hS j hj).2
        obtain ⟨ob, oe⟩ := pa_ob (i := i) (j := j) hod S
        rw [s1, s2, oe] at o6
        have od2 : (12 : Int32) - nI (pa_o od i j S) = nI (12 - pa_o od i j S) := nI_sub (a := 12) ob
        have a0 : pu_at p (xm_229 B (nI i) (nI j)) 180 S := pu_at_c hS (fun y _ => ⟨o9 181 y (by decide) (by decide), o9 182 y (by decide) (by decide)⟩)
        obtain ⟨g3, g4, g5⟩ := pu_244 a0 hp hi
        have E2 := pu_fr_e c180 o8 g4
        obtain ⟨p1, p2, p3, p4⟩ := ih n (xm_244 (xm_229 B (nI i) (nI j)) (nI i)) (pu_rf S i) (r + 1) (w * pa_o od i j S) (by omega) (by omega) E2 g3
        generalize hA3 : xr_pay n (xm_244 (xm_229 B (nI i) (nI j)) (nI i)) (nI i) (nI j) (nI l) (nI (r + 1)) (lN (w * pa_o od i j S)) = A3 at p2 p3 p4
        have t1 : A3.2.1 181 i = (pu_rf S i).1 i := (p3 i hi).1
        have t2 : A3.2.1 182 i = (pu_rf S i).2 i := (p3 i hi).2
        obtain ⟨k1, k2⟩ := pu_u3 (i := i) (x := (pu_rf S i).1 i + 1) (y := (pu_rf S i).2 i - 1) p3
        have k1 : pu_at p (ro_sI (ro_sI A3 181 i ((pu_rf S i).1 i + 1)) 182 i ((pu_rf S i).2 i - 1)) 180 (pu_tb (pu_rf S i) i) := k1
        rw [pu_tb_rf] at k1
        have E4 := pu_fr_e c180 p2 k2
        generalize hA4 : ro_sI (ro_sI A3 (180 + 1) i ((pu_rf S i).1 i + 1)) (180 + 2) i ((pu_rf S i).2 i - 1) = A4 at k1 k2 E4
        obtain ⟨m1, m2, m3⟩ := pu_245 k1 hp hi hj hij
        have E5 := pu_fr_e c180 E4 m2
        obtain ⟨n1, n2, n3, n4⟩ := ih n (xm_245 A4 (nI i) (nI j)) (pu_gw S i j) r (w * (12 - pa_o od i j S)) (by omega) (by omega) E5 m1
        generalize hA6 : xr_pay n (xm_245 A4 (nI i) (nI j)) (nI i) (nI j) (nI l) (nI r) (lN (w * (12 - pa_o od i j S))) = A6 at n2 n3 n4
        obtain ⟨u1, u2, u3⟩ := pu_245 n3 hp hj hi (fun q => hij q.symm)
        rw [pu_gw_gw hij] at u1
        have E7 := pu_fr_e c180 n2 u2
        have x1 : (nI (pa_o od i j S)).toInt64 = lN (pa_o od i j S) := nI_l (by omega)
        have x2 : (nI (12 - pa_o od i j S)).toInt64 = lN (12 - pa_o od i j S) := nI_l (by omega)
        have hA4 : ro_sI (ro_sI A3 181 i ((pu_rf S i).1 i + 1)) 182 i ((pu_rf S i).2 i - 1) = A4 := hA4
        have e : xmb_253 (xr_pay n) B (nI i) (nI j) (nI (l + 1)) (nI r) (lN w) = xm_245 A6 (nI j) (nI i) := by
          unfold xmb_253
          rw [if_neg z, if_neg z0, w1, if_pos rfl, o6, od2, x1, x2, nI_pred, nI_1, lN_mul, lN_mul, hA3, q3, t1, t2, hA4, hA6]
        rw [e]
        refine ⟨?_, E7, u1, fun q hq => ?_⟩
        · unfold xpb_253
          rw [w1, o6, od2, x1, x2, nI_pred, nI_1, lN_mul, lN_mul, hA3, q3, t1, t2, hA4, hA6]
          exact ⟨fun y => absurd y z, fun _ => ⟨fun y => absurd y z0, fun _ => ⟨w2, fun _ => ⟨o7, g5, p1, q4, q4, q4, q4, m3, n1, u3, trivial⟩, fun y => absurd rfl y⟩⟩⟩
        · have j1 : (xm_245 A6 (nI j) (nI i)).2.2.1 = A6.2.2.1 := by rw [u2.2.1]
          have j2 : (xm_245 A4 (nI i) (nI j)).2.2.1 = A3.2.2.1 := by rw [m2.2.1, k2.2.1]
          have j3 : (xm_244 (xm_229 B (nI i) (nI j)) (nI i)).2.2.1 = B.2.2.1 := by rw [g4.2.1]; exact o10
          rw [j1, n4 q hq, j2, p4 q hq, j3, pa_P, if_pos mw, Int64.add_assoc, lN_add, Nat.mul_add, Nat.mul_assoc, Nat.mul_assoc]
      · have wf : pu_mw S i j = false := by cases hq : pu_mw S i j with | true => exact absurd hq mw | false => rfl
        rw [wf] at w1
        have nf : ¬ (false = true) := by decide
        obtain ⟨p1, p2, p3, p4⟩ := ih n B S r (w * 12) (by omega) (by omega) hB hS
        have x1 : lN w * 12 = lN (w * 12) := lN_mul w 12
        have e : xmb_253 (xr_pay n) B (nI i) (nI j) (nI (l + 1)) (nI r) (lN w) = xr_pay n B (nI i) (nI j) (nI l) (nI r) (lN (w * 12)) := by
          unfold xmb_253
          rw [if_neg z, if_neg z0, w1, if_neg nf, nI_pred, x1]
        rw [e]
        refine ⟨?_, p2, p3, fun q hq => ?_⟩
        · unfold xpb_253
          rw [w1, nI_pred, x1]
          exact ⟨fun y => absurd y z, fun _ => ⟨fun y => absurd y z0, fun _ => ⟨w2, fun y => absurd y nf, fun _ => ⟨p1, trivial⟩⟩⟩⟩
        · rw [p4 q hq, pa_P, if_neg mw, Nat.mul_assoc]
end PAY1

