/-! what stays whole at random, the reference's; pair stays -/
section STAYS2
variable {X : ro_Sx}
section SC
variable {M : ro_Mm} {od : Nat → Nat → Int32 → Int32 → Int32} {p : Nat} {S : pu_T}
theorem sc_14 (hp : p ≤ 6) (e2 : M.2.1 163 1 = nI p) {B : ro_Mm} (hB : ro_eqv M B) (hS : pu_at p B 180 S) {a : Nat} (ha : a < p) : ∀ (d k n c : Nat), k + d = p → d < n →
    (xg_258_14 n B (nI k) (nI a) (nI c)).2 = nI (c + in_s a (fun b => if pu_mw S a b = true then 1 else 0) d k) ∧ xq_258_14 n B (nI k) (nI a) (nI c) := by
  have ep : B.2.1 163 1 = nI p := (hB.2.1 163 1 rfl).trans e2
  intro d
  induction d with
  | zero =>
    intro k n c hk hn
    obtain ⟨n, rfl⟩ : ∃ m, n = m + 1 := ⟨n - 1, by omega⟩
    have c0 : nI p ≤ nI k := nI_le (by omega) (by omega)
    rw [xg_258_14, xq_258_14, ep, if_pos c0, in_s]
    exact ⟨rfl, fun _ => trivial, fun y => absurd c0 y⟩
  | succ d ih =>
    intro k n c hk hn
    obtain ⟨n, rfl⟩ : ∃ m, n = m + 1 := ⟨n - 1, by omega⟩
    have c0 : ¬ nI p ≤ nI k := nI_ge (by omega) (by omega)
    have hkp : k < p := by omega
    rw [in_s]
    by_cases e : a = k
    · have e2 : nI a = nI k := by rw [e]
      obtain ⟨i1, i2⟩ := ih (k + 1) n c (by omega) (by omega)
      rw [xg_258_14, xq_258_14, ep, if_neg c0, if_pos e2, nI_1 k, if_pos e, Nat.zero_add]
      exact ⟨i1, fun y => absurd y c0, fun _ => ⟨fun _ => i2, fun y => absurd e2 y⟩⟩
    · have e2 : ¬ nI a = nI k := fun q => e ((nI_eq (by omega) (by omega)).mp q)
      obtain ⟨w1, w2⟩ := pu_241 hS hp ha hkp
      rw [if_neg e]
      by_cases mw : pu_mw S a k = true
      · rw [mw] at w1
        simp only [if_pos mw]
        obtain ⟨i1, i2⟩ := ih (k + 1) n (c + 1) (by omega) (by omega)
        rw [xg_258_14, xq_258_14, ep, if_neg c0, if_neg e2, if_pos w1, nI_1 k, nI_1 c]
        exact ⟨by rw [i1, Nat.add_assoc], fun y => absurd y c0, fun _ => ⟨fun y => absurd y e2, fun _ => ⟨w2, fun _ => i2, fun y => absurd w1 y⟩⟩⟩
      · have wf : pu_mw S a k = false := by cases hq : pu_mw S a k with | true => exact absurd hq mw | false => rfl
        have nm : ¬ xf_241 B (nI a) (nI k) = true := by rw [w1, wf]; decide
        simp only [if_neg mw, Nat.zero_add]
        obtain ⟨i1, i2⟩ := ih (k + 1) n c (by omega) (by omega)
        rw [xg_258_14, xq_258_14, ep, if_neg c0, if_neg e2, if_neg nm, nI_1 k]
        exact ⟨i1, fun y => absurd y c0, fun _ => ⟨fun y => absurd y e2, fun _ => ⟨w2, fun y => absurd y nm, fun _ => i2⟩⟩⟩
theorem sc_258 (hp : p ≤ 6) (e2 : M.2.1 163 1 = nI p) {B : ro_Mm} (hB : ro_eqv M B) (hS : pu_at p B 180 S) : xf_258 B = nI (st_n p S) ∧ xp_258 B := by
  have ep : B.2.1 163 1 = nI p := (hB.2.1 163 1 rfl).trans e2
  have L : ∀ (d a n c : Nat), a + d = p → d < n → (xg_258_4 n B (nI a) (nI c)).2 = nI (c + out_s p (fun a b => if pu_mw S a b = true then 1 else 0) d a) ∧ xq_258_4 n B (nI a) (nI c) := by
    intro d
    induction d with
    | zero =>
      intro a n c ha hn
      obtain ⟨n, rfl⟩ : ∃ m, n = m + 1 := ⟨n - 1, by omega⟩
      have c0 : nI p ≤ nI a := nI_le (by omega) (by omega)
      rw [xg_258_4, xq_258_4, ep, if_pos c0, out_s]
      exact ⟨rfl, fun _ => trivial, fun y => absurd c0 y⟩
    | succ d ih =>
      intro a n c ha hn
      obtain ⟨n, rfl⟩ : ∃ m, n = m + 1 := ⟨n - 1, by omega⟩
      have c0 : ¬ nI p ≤ nI a := nI_ge (by omega) (by omega)
      obtain ⟨x1, x2⟩ := sc_14 hp e2 hB hS (a := a) (by omega) p 0 lp_N c (by omega) (lp_hug (by omega))
      have x1 : (xg_258_14 lp_N B 0 (nI a) (nI c)).2 = _ := x1
      obtain ⟨i1, i2⟩ := ih (a + 1) n _ (by omega) (by omega)
      rw [xg_258_4, xq_258_4, ep, if_neg c0, x1, nI_1, out_s, ← Nat.add_assoc]
      exact ⟨i1, fun y => absurd y c0, fun _ => ⟨x2, i2⟩⟩
  obtain ⟨l1, l2⟩ := L p 0 lp_N 0 (by omega) (lp_hug (by omega))
  rw [Nat.zero_add] at l1
  exact ⟨l1, l2, trivial⟩
/-- what goStay of the rest comes to: a fraction e by D -/
def sc_F (M : ro_Mm) (p left n : Nat) (e : pu_T → Nat) (D : Nat) : Prop := ∀ (B : ro_Mm) (S : pu_T), ro_eqv M B → pu_at p B 180 S →
  xpr_sty n B (nI left) ∧ ro_eqv M (xr_sty n B (nI left)) ∧ pu_at p (xr_sty n B (nI left)) 180 S ∧ (xr_sty n B (nI left)).2.2.1 163 33 = lN (e S / Nat.gcd (e S) D) ∧ (xr_sty n B (nI left)).2.2.1 163 34 = lN (D / Nat.gcd (e S) D)
def sc_w (od : Nat → Nat → Int32 → Int32 → Int32) (e : pu_T → Nat) (S : pu_T) (a b : Nat) : Nat := if pu_mw S a b = true then (12 - pa_o od a b S) * e (pu_gw S a b) else 0
theorem sc_x {s D : Nat} (hD : 0 < D) : s / Nat.gcd s D * D = s * (D / Nat.gcd s D) := by
  have gp : 0 < Nat.gcd s D := Nat.gcd_pos_of_pos_right s hD
  have ea : s / Nat.gcd s D * Nat.gcd s D = s := Nat.div_mul_cancel (Nat.gcd_dvd_left s D)
  have eb : D / Nat.gcd s D * Nat.gcd s D = D := Nat.div_mul_cancel (Nat.gcd_dvd_right s D)
  generalize Nat.gcd s D = g at *
  generalize s / g = a at *
  generalize D / g = b at *
  subst ea eb
  rw [Nat.mul_comm b g, ← Nat.mul_assoc]
theorem sc_48 (hod : od_is M od) (hp : p ≤ 6) (e2 : M.2.1 163 1 = nI p) {left n1 D : Nat} {e : pu_T → Nat} (hF : sc_F M p left n1 e D) (hD : 0 < D) (hD2 : D ≤ 27949074753600) (he : ∀ S, e S ≤ D) (hq : ∀ S, D / Nat.gcd (e S) D ≤ 360) {v2 : Int32} {a : Nat} (ha : a < p) :
    ∀ (d k n s : Nat) (B : ro_Mm), k + d = p → d < n → s + in_s a (sc_w od e S a) d k ≤ 360 * D → ro_eqv M B → pu_at p B 180 S →
    xq_257_48 (xr_sty n1) (xpr_sty n1) n B (nI k) (nI a) (lN (D / Nat.gcd s D)) (lN (s / Nat.gcd s D)) v2 (nI (left + 1)) ∧
    ro_eqv M (xg_257_48 (xr_sty n1) n B (nI k) (nI a) (lN (D / Nat.gcd s D)) (lN (s / Nat.gcd s D)) v2 (nI (left + 1))).2.2.2 ∧ pu_at p (xg_257_48 (xr_sty n1) n B (nI k) (nI a) (lN (D / Nat.gcd s D)) (lN (s / Nat.gcd s D)) v2 (nI (left + 1))).2.2.2 180 S ∧
    (xg_257_48 (xr_sty n1) n B (nI k) (nI a) (lN (D / Nat.gcd s D)) (lN (s / Nat.gcd s D)) v2 (nI (left + 1))).2.1 = lN (D / Nat.gcd (s + in_s a (sc_w od e S a) d k) D) ∧ (xg_257_48 (xr_sty n1) n B (nI k) (nI a) (lN (D / Nat.gcd s D)) (lN (s / Nat.gcd s D)) v2 (nI (left + 1))).2.2.1 = lN ((s + in_s a (sc_w od e S a) d k) / Nat.gcd (s + in_s a (sc_w od e S a) d k) D) := by
  have c180 : pu_c 180 := Or.inr (Or.inr (Or.inr rfl))
  intro d
  induction d with
  | zero =>
    intro k n s B hk hn hs hB hS
    obtain ⟨n, rfl⟩ : ∃ m, n = m + 1 := ⟨n - 1, by omega⟩
    have ep : B.2.1 163 1 = nI p := (hB.2.1 163 1 rfl).trans e2
    have c0 : nI p ≤ nI k := nI_le (by omega) (by omega)
    rw [xg_257_48, xq_257_48, ep, if_pos c0, in_s]
    exact ⟨⟨fun _ => trivial, fun y => absurd c0 y⟩, hB, hS, rfl, rfl⟩
  | succ d ih =>
    intro k n s B hk hn hs hB hS
    obtain ⟨n, rfl⟩ : ∃ m, n = m + 1 := ⟨n - 1, by omega⟩
    have ep : B.2.1 163 1 = nI p := (hB.2.1 163 1 rfl).trans e2
    have c0 : ¬ nI p ≤ nI k := nI_ge (by omega) (by omega)
    have hkp : k < p := by omega
    rw [in_s] at hs ⊢
    by_cases z : a = k
    · have z2 : nI a = nI k := by rw [z]
      rw [if_pos z, Nat.zero_add] at hs ⊢
      obtain ⟨i1, i2⟩ := ih (k + 1) n s B (by omega) (by omega) hs hB hS
      rw [xg_257_48, xq_257_48, ep, if_neg c0, if_pos z2, nI_1]
      exact ⟨⟨fun y => absurd y c0, fun _ => ⟨fun _ => i1, fun y => absurd z2 y⟩⟩, i2⟩
    · have z2 : ¬ nI a = nI k := fun q => z ((nI_eq (by omega) (by omega)).mp q)
      obtain ⟨w1, w2⟩ := pu_241 hS hp ha hkp
      rw [if_neg z] at hs ⊢
      by_cases mw : pu_mw S a k = true
      · rw [mw] at w1
        have ew : sc_w od e S a k = (12 - pa_o od a k S) * e (pu_gw S a k) := by unfold sc_w; rw [if_pos mw]
        rw [ew] at hs ⊢
        obtain ⟨o6, o7, o8, o9, o10⟩ := hod.2.2 B a k hB (by omega) (by omega)
        obtain ⟨ob, oe⟩ := pa_ob (i := a) (j := k) hod S
        have s1 : B.2.1 181 k = S.1 k := (hS k hkp).1
        have s2 : B.2.1 182 k = S.2 k := (hS k hkp).2
        rw [s1, s2, oe] at o6
        have od2 : (12 : Int32) - nI (pa_o od a k S) = nI (12 - pa_o od a k S) := nI_sub (a := 12) ob
        have x2 : (nI (12 - pa_o od a k S)).toInt64 = lN (12 - pa_o od a k S) := nI_l (by omega)
        have a0 : pu_at p (xm_229 B (nI a) (nI k)) 180 S := pu_at_c hS (fun y _ => ⟨o9 181 y (by decide) (by decide), o9 182 y (by decide) (by decide)⟩)
        obtain ⟨m1, m2, m3⟩ := pu_245 a0 hp ha hkp z
        have E2 := pu_fr_e c180 o8 m2
        obtain ⟨f1, f2, f3, f4, f5⟩ := hF _ _ E2 m1
        have hlv : nI (left + 1) - 1 = nI left := nI_pred left
        generalize hB3 : xr_sty n1 (xm_245 (xm_229 B (nI a) (nI k)) (nI a) (nI k)) (nI left) = B3 at f2 f3 f4 f5
        obtain ⟨u1, u2, u3⟩ := pu_245 f3 hp hkp ha (fun q => z q.symm)
        rw [pu_gw_gw z] at u1
        have E4 := pu_fr_e c180 f2 u2
        -- the sum so far, as a fraction
        have he' := he (pu_gw S a k)
        have hq' := hq (pu_gw S a k)
        have g2 : 0 < Nat.gcd (e (pu_gw S a k)) D := Nat.gcd_pos_of_pos_right _ hD
        have g1 : 0 < Nat.gcd s D := Nat.gcd_pos_of_pos_right _ hD
        have xs := sc_x (s := s) hD
        have xe := sc_x (s := e (pu_gw S a k)) hD
        have ha' : e (pu_gw S a k) / Nat.gcd (e (pu_gw S a k)) D ≤ D / Nat.gcd (e (pu_gw S a k)) D := Nat.div_le_div_right he'
        have hab : s / Nat.gcd s D ≤ s := Nat.div_le_self _ _
        have hbl : D / Nat.gcd s D ≤ D := Nat.div_le_self _ _
        have hbl0 : 0 < D / Nat.gcd s D := Nat.div_pos (Nat.gcd_le_right _ hD) g1
        have hb0 : 0 < D / Nat.gcd (e (pu_gw S a k)) D := Nat.div_pos (Nat.gcd_le_right _ hD) g2
        generalize hA : s / Nat.gcd s D = ab at *
        generalize hBl : D / Nat.gcd s D = bl at *
        generalize e (pu_gw S a k) / Nat.gcd (e (pu_gw S a k)) D = a' at *
        generalize D / Nat.gcd (e (pu_gw S a k)) D = b' at *
        have k1 : ab * b' ≤ (360 * 27949074753600) * 360 := Nat.mul_le_mul (by omega) hq'
        have k2 : (12 - pa_o od a k S) * a' ≤ 12 * 360 := Nat.mul_le_mul (by omega) (by omega)
        have k3 : (12 - pa_o od a k S) * a' * bl ≤ (12 * 360) * 27949074753600 := Nat.mul_le_mul k2 (by omega)
        have k4 : bl * b' ≤ 27949074753600 * 360 := Nat.mul_le_mul (by omega) hq'
        have k5 : 0 < bl * b' := Nat.mul_pos hbl0 hb0
        have cross : (ab * b' + (12 - pa_o od a k S) * a' * bl) * D = (s + (12 - pa_o od a k S) * e (pu_gw S a k)) * (bl * b') := by
          rw [Nat.add_mul, Nat.add_mul]
          congr 1
          · rw [Nat.mul_right_comm, xs, Nat.mul_assoc]
          · calc (12 - pa_o od a k S) * a' * bl * D = (12 - pa_o od a k S) * (a' * D) * bl := by rw [Nat.mul_right_comm, Nat.mul_assoc (12 - pa_o od a k S)]
              _ = (12 - pa_o od a k S) * e (pu_gw S a k) * (bl * b') := by rw [xe, ← Nat.mul_assoc, Nat.mul_assoc _ b' bl, Nat.mul_comm b' bl]
        obtain ⟨q1, q2⟩ := lo_eq k5 hD cross
        obtain ⟨r1, r2⟩ := lo_low (M := xm_245 B3 (nI k) (nI a)) (a := ab * b' + (12 - pa_o od a k S) * a' * bl) (b := bl * b') (v4 := 0) (by omega) (by omega) k5 (Or.inl rfl)
        obtain ⟨r3, r4⟩ := lo_low (M := xm_245 B3 (nI k) (nI a)) (a := ab * b' + (12 - pa_o od a k S) * a' * bl) (b := bl * b') (v4 := 1) (by omega) (by omega) k5 (Or.inr rfl)
        rw [if_pos rfl, q1] at r1
        rw [if_neg (by decide), q2] at r3
        have xx : lN ab * lN b' + lN (12 - pa_o od a k S) * lN a' * lN bl = lN (ab * b' + (12 - pa_o od a k S) * a' * bl) := by rw [lN_mul, lN_mul, lN_mul, lN_add]
        have yy : lN bl * lN b' = lN (bl * b') := lN_mul _ _
        obtain ⟨i1, i2, i3, i4, i5⟩ := ih (k + 1) n (s + (12 - pa_o od a k S) * e (pu_gw S a k)) (xm_245 B3 (nI k) (nI a)) (by omega) (by omega) (by omega) E4 u1
        rw [xg_257_48, xq_257_48, ep, if_neg c0, if_neg z2, w1, if_pos rfl, hlv, hB3, o6, od2, x2, f4, f5, xx, yy, r1, r3, nI_1]
        exact ⟨⟨fun y => absurd y c0, fun _ => ⟨fun y => absurd y z2, fun _ => ⟨w2, fun _ => ⟨o7, m3, f1, u3, r2, r4, i1⟩, fun y => absurd rfl y⟩⟩⟩, i2, i3, by rw [i4, Nat.add_assoc], by rw [i5, Nat.add_assoc]⟩
      · have wf : pu_mw S a k = false := by cases hq : pu_mw S a k with | true => exact absurd hq mw | false => rfl
        have nm : ¬ xf_241 B (nI a) (nI k) = true := by rw [w1, wf]; decide
        have ew : sc_w od e S a k = 0 := by unfold sc_w; rw [if_neg mw]
        rw [ew, Nat.zero_add] at hs ⊢
        obtain ⟨i1, i2⟩ := ih (k + 1) n s B (by omega) (by omega) hs hB hS
        rw [xg_257_48, xq_257_48, ep, if_neg c0, if_neg z2, if_neg nm, nI_1]
        exact ⟨⟨fun y => absurd y c0, fun _ => ⟨fun y => absurd y z2, fun _ => ⟨w2, fun y => absurd y nm, fun _ => i1⟩⟩⟩, i2⟩
theorem sc_36 (hod : od_is M od) (hp : p ≤ 6) (e2 : M.2.1 163 1 = nI p) {left n1 D : Nat} {e : pu_T → Nat} (hF : sc_F M p left n1 e D) (hD : 0 < D) (hD2 : D ≤ 27949074753600) (he : ∀ S, e S ≤ D) (hq : ∀ S, D / Nat.gcd (e S) D ≤ 360) {v2 : Int32} :
    ∀ (d a n s : Nat) (B : ro_Mm), a + d = p → d < n → s + out_s p (sc_w od e S) d a ≤ 360 * D → ro_eqv M B → pu_at p B 180 S →
    xq_257_36 (xr_sty n1) (xpr_sty n1) n B (nI a) (lN (D / Nat.gcd s D)) (lN (s / Nat.gcd s D)) v2 (nI (left + 1)) ∧
    ro_eqv M (xg_257_36 (xr_sty n1) n B (nI a) (lN (D / Nat.gcd s D)) (lN (s / Nat.gcd s D)) v2 (nI (left + 1))).2.2.2 ∧ pu_at p (xg_257_36 (xr_sty n1) n B (nI a) (lN (D / Nat.gcd s D)) (lN (s / Nat.gcd s D)) v2 (nI (left + 1))).2.2.2 180 S ∧
    (xg_257_36 (xr_sty n1) n B (nI a) (lN (D / Nat.gcd s D)) (lN (s / Nat.gcd s D)) v2 (nI (left + 1))).2.1 = lN (D / Nat.gcd (s + out_s p (sc_w od e S) d a) D) ∧ (xg_257_36 (xr_sty n1) n B (nI a) (lN (D / Nat.gcd s D)) (lN (s / Nat.gcd s D)) v2 (nI (left + 1))).2.2.1 = lN ((s + out_s p (sc_w od e S) d a) / Nat.gcd (s + out_s p (sc_w od e S) d a) D) := by
  intro d
  induction d with
  | zero =>
    intro a n s B hk hn hs hB hS
    obtain ⟨n, rfl⟩ : ∃ m, n = m + 1 := ⟨n - 1, by omega⟩
    have ep : B.2.1 163 1 = nI p := (hB.2.1 163 1 rfl).trans e2
    have c0 : nI p ≤ nI a := nI_le (by omega) (by omega)
    rw [xg_257_36, xq_257_36, ep, if_pos c0, out_s]
    exact ⟨⟨fun _ => trivial, fun y => absurd c0 y⟩, hB, hS, rfl, rfl⟩
  | succ d ih =>
    intro a n s B hk hn hs hB hS
    obtain ⟨n, rfl⟩ : ∃ m, n = m + 1 := ⟨n - 1, by omega⟩
    have ep : B.2.1 163 1 = nI p := (hB.2.1 163 1 rfl).trans e2
    have c0 : ¬ nI p ≤ nI a := nI_ge (by omega) (by omega)
    rw [out_s] at hs ⊢
    obtain ⟨x1, x2, x3, x4, x5⟩ := sc_48 hod hp e2 hF hD hD2 he hq (v2 := v2) (a := a) (by omega) p 0 lp_N s B (by omega) (lp_hug (by omega)) (by omega) hB hS
    rw [nI_0] at x1 x2 x3 x4 x5
    obtain ⟨i1, i2, i3, i4, i5⟩ := ih (a + 1) n (s + in_s a (sc_w od e S a) p 0) _ (by omega) (by omega) (by omega) x2 x3
    rw [xg_257_36, xq_257_36, ep, if_neg c0, x4, x5, nI_1]
    exact ⟨⟨fun y => absurd y c0, fun _ => ⟨x1, i1⟩⟩, i2, i3, by rw [i4, Nat.add_assoc], by rw [i5, Nat.add_assoc]⟩
theorem sc_0 {n : Nat} : sc_F M p 0 (n + 1) (fun _ => 1) 1 := by
  intro B S hB hS
  show xpb_257 (xr_sty n) (xpr_sty n) B (nI 0) ∧ ro_eqv M (xmb_257 (xr_sty n) B (nI 0)) ∧ pu_at p (xmb_257 (xr_sty n) B (nI 0)) 180 S ∧ (xmb_257 (xr_sty n) B (nI 0)).2.2.1 163 33 = _ ∧ (xmb_257 (xr_sty n) B (nI 0)).2.2.1 163 34 = _
  have z0 : nI 0 = 0 := rfl
  have e : xmb_257 (xr_sty n) B (nI 0) = ro_sJ (ro_sJ B 163 33 1) 163 34 1 := by unfold xmb_257; rw [if_pos z0]
  rw [e]
  have g1 : lN (1 / Nat.gcd 1 1) = 1 := by rw [Nat.gcd_self]; rfl
  refine ⟨?_, ⟨hB.1, hB.2.1, fun c k hck => ?_⟩, hS, g1.symm, g1.symm⟩
  · unfold xpb_257; exact ⟨fun _ => trivial, fun y => absurd z0 y⟩
  · rw [ro_sJ_ne (fun q => by rw [q] at hck; exact Bool.noConfusion hck), ro_sJ_ne (fun q => by rw [q] at hck; exact Bool.noConfusion hck)]; exact hB.2.2 c k hck
theorem sc_step (hod : od_is M od) (hp : p ≤ 6) (e2 : M.2.1 163 1 = nI p) {left n1 D : Nat} {e : pu_T → Nat} (hF : sc_F M p left n1 e D) (hD : 0 < D) (hD2 : D ≤ 27949074753600) (he : ∀ S, e S ≤ D) (hq : ∀ S, D / Nat.gcd (e S) D ≤ 360) (hl : left ≤ 5) {e3 : pu_T → Nat} {D3 : Nat}
    (h0 : ∀ S, st_n p S = 0 → e3 S / Nat.gcd (e3 S) D3 = 1 ∧ D3 / Nat.gcd (e3 S) D3 = 1)
    (h1 : ∀ S, ¬ st_n p S = 0 → out_s p (sc_w od e S) p 0 / Nat.gcd (out_s p (sc_w od e S) p 0) (D * 12 * st_n p S) = e3 S / Nat.gcd (e3 S) D3 ∧ (D * 12 * st_n p S) / Nat.gcd (out_s p (sc_w od e S) p 0) (D * 12 * st_n p S) = D3 / Nat.gcd (e3 S) D3) :
    sc_F M p (left + 1) (n1 + 1) e3 D3 := by
  intro B S hB hS
  show xpb_257 (xr_sty n1) (xpr_sty n1) B (nI (left + 1)) ∧ ro_eqv M (xmb_257 (xr_sty n1) B (nI (left + 1))) ∧ pu_at p (xmb_257 (xr_sty n1) B (nI (left + 1))) 180 S ∧ (xmb_257 (xr_sty n1) B (nI (left + 1))).2.2.1 163 33 = _ ∧ (xmb_257 (xr_sty n1) B (nI (left + 1))).2.2.1 163 34 = _
  have z0 : ¬ nI (left + 1) = 0 := nI_ne0 (by omega) (by omega)
  obtain ⟨n1', n2'⟩ := sc_258 hp e2 hB hS
  have keep : ∀ (C : ro_Mm) (u v : Int64), ro_eqv M C → ro_eqv M (ro_sJ (ro_sJ C 163 33 u) 163 34 v) := fun C u v hC => ⟨hC.1, hC.2.1, fun c k hck => by
    rw [ro_sJ_ne (fun q => by rw [q] at hck; exact Bool.noConfusion hck), ro_sJ_ne (fun q => by rw [q] at hck; exact Bool.noConfusion hck)]; exact hC.2.2 c k hck⟩
  by_cases z : st_n p S = 0
  · have zz : xf_258 B = 0 := by rw [n1', z]; rfl
    have ee : xmb_257 (xr_sty n1) B (nI (left + 1)) = ro_sJ (ro_sJ B 163 33 1) 163 34 1 := by unfold xmb_257; rw [if_neg z0, if_pos zz]
    rw [ee, (h0 S z).1, (h0 S z).2]
    refine ⟨?_, keep _ _ _ hB, hS, rfl, rfl⟩
    unfold xpb_257
    exact ⟨fun y => absurd y z0, fun _ => ⟨n2', fun _ => trivial, fun y => absurd zz y⟩⟩
  · have hnb := st_nb hp S
    have zz : ¬ nI (st_n p S) = 0 := nI_ne0 (by omega) (by omega)
    have hsum : out_s p (sc_w od e S) p 0 ≤ 360 * D := by
      have h1 := out_s_le (p := p) (c := 12 * D) (f := sc_w od e S) (g := fun a b => if pu_mw S a b = true then 1 else 0) (fun a b => by
        unfold sc_w
        by_cases mw : pu_mw S a b = true
        · simp only [if_pos mw, Nat.mul_one]
          exact Nat.mul_le_mul (by omega) (he _)
        · simp only [if_neg mw]; exact Nat.zero_le _) p 0
      have h2 : 12 * D * out_s p (fun a b => if pu_mw S a b = true then 1 else 0) p 0 ≤ 12 * D * 30 := Nat.mul_le_mul_left _ hnb
      omega
    obtain ⟨x1, x2, x3, x4, x5⟩ := sc_36 hod hp e2 hF hD hD2 he hq (S := S) (v2 := nI (st_n p S)) p 0 lp_N 0 B (by omega) (lp_hug (by omega)) (by omega) hB hS
    rw [Nat.zero_div, Nat.gcd_zero_left, Nat.div_self hD] at x1 x2 x3 x4 x5
    rw [Nat.zero_add] at x4 x5
    obtain ⟨h1a, h1b⟩ := h1 S z
    generalize hT : out_s p (sc_w od e S) p 0 = T at *
    have xs := sc_x (s := T) hD
    have gp : 0 < Nat.gcd T D := Nat.gcd_pos_of_pos_right _ hD
    have hbl : D / Nat.gcd T D ≤ D := Nat.div_le_self _ _
    have hbl0 : 0 < D / Nat.gcd T D := Nat.div_pos (Nat.gcd_le_right _ hD) gp
    have hab : T / Nat.gcd T D ≤ T := Nat.div_le_self _ _
    generalize T / Nat.gcd T D = ab at *
    generalize D / Nat.gcd T D = bl at *
    have k1 : bl * 12 * st_n p S ≤ 27949074753600 * 12 * 30 := Nat.mul_le_mul (by omega) hnb
    have k2 : 0 < bl * 12 * st_n p S := Nat.mul_pos (by omega) (by omega)
    have k3 : 0 < D * 12 * st_n p S := Nat.mul_pos (by omega) (by omega)
    have cross : ab * (D * 12 * st_n p S) = T * (bl * 12 * st_n p S) := by
      rw [← Nat.mul_assoc, ← Nat.mul_assoc, ← Nat.mul_assoc, ← Nat.mul_assoc, xs]
    obtain ⟨q1, q2⟩ := lo_eq k2 k3 cross
    have y1 : (nI (st_n p S)).toInt64 = lN (st_n p S) := nI_l (by omega)
    have y2 : lN bl * 12 * lN (st_n p S) = lN (bl * 12 * st_n p S) := by rw [show lN bl * 12 = lN (bl * 12) from lN_mul _ 12, lN_mul]
    have L0 : ∀ C : ro_Mm, xf_254 C (lN ab) (lN (bl * 12 * st_n p S)) 0 = lN (e3 S / Nat.gcd (e3 S) D3) ∧ xp_254 C (lN ab) (lN (bl * 12 * st_n p S)) 0 := fun C => by
      obtain ⟨r1, r2⟩ := lo_low (M := C) (a := ab) (b := bl * 12 * st_n p S) (v4 := 0) (by omega) (by omega) k2 (Or.inl rfl)
      rw [if_pos rfl, q1, h1a] at r1
      exact ⟨r1, r2⟩
    have L1 : ∀ C : ro_Mm, xf_254 C (lN ab) (lN (bl * 12 * st_n p S)) 1 = lN (D3 / Nat.gcd (e3 S) D3) ∧ xp_254 C (lN ab) (lN (bl * 12 * st_n p S)) 1 := fun C => by
      obtain ⟨r1, r2⟩ := lo_low (M := C) (a := ab) (b := bl * 12 * st_n p S) (v4 := 1) (by omega) (by omega) k2 (Or.inr rfl)
      rw [if_neg (by decide), q2, h1b] at r1
      exact ⟨r1, r2⟩
    rw [nI_0] at x1 x2 x3 x4 x5
    have x4 : (xg_257_36 (xr_sty n1) lp_N B 0 1 0 (nI (st_n p S)) (nI (left + 1))).2.1 = lN bl := x4
    have x5 : (xg_257_36 (xr_sty n1) lp_N B 0 1 0 (nI (st_n p S)) (nI (left + 1))).2.2.1 = lN ab := x5
    have x1 : xq_257_36 (xr_sty n1) (xpr_sty n1) lp_N B 0 1 0 (nI (st_n p S)) (nI (left + 1)) := x1
    have x2 : ro_eqv M (xg_257_36 (xr_sty n1) lp_N B 0 1 0 (nI (st_n p S)) (nI (left + 1))).2.2.2 := x2
    have x3 : pu_at p (xg_257_36 (xr_sty n1) lp_N B 0 1 0 (nI (st_n p S)) (nI (left + 1))).2.2.2 180 S := x3
    generalize hC : (xg_257_36 (xr_sty n1) lp_N B 0 1 0 (nI (st_n p S)) (nI (left + 1))).2.2.2 = C at x2 x3
    have ee : xmb_257 (xr_sty n1) B (nI (left + 1)) = ro_sJ (ro_sJ C 163 33 (lN (e3 S / Nat.gcd (e3 S) D3))) 163 34 (lN (D3 / Nat.gcd (e3 S) D3)) := by
      unfold xmb_257
      rw [if_neg z0, n1', if_neg zz, x4, x5, hC, y1, y2, (L0 _).1, (L1 _).1]
    rw [ee]
    refine ⟨?_, keep _ _ _ x2, x3, ?_, rfl⟩
    · unfold xpb_257
      rw [n1', x4, x5, hC, y1, y2]
      exact ⟨fun y => absurd y z0, fun _ => ⟨n2', fun y => absurd y zz, fun _ => ⟨x1, (L0 _).2, (L1 _).2, trivial⟩⟩⟩
    · rfl
end SC
end STAYS2

