/-! rounds, the reference's search, and both pairs -/
section ROUND4
variable {X : ro_Sx}
def rd_out (p N : Nat) (o : Option (pu_T × Nat)) (x : Bool × Int32 × Int32 × Int32 × ro_Mm) : Prop := match o with
  | none => x.1 = true ∧ x.2.1 = -2
  | some (S2, r2) => x.1 = false ∧ x.2.2.2.1 = nI r2 ∧ pu_at p x.2.2.2.2 180 S2 ∧ pu_ok p S2 ∧ r2 ≤ N
section REF
variable {M : ro_Mm} {p N z : Nat} {f : Nat → Int32} {od : Nat → Nat → Int32 → Int32 → Int32}
theorem rd_249 (h : ro_Inv M) (hod : od_is M od) (hp : p ≤ 6) (hN : N ≤ 10) (hf : ∀ y, y < N → 2 * y + 1 < z ∧ xf_57 M (f (2 * y)) (f (2 * y + 1)) = true ∧ rd_w f 0 y < p ∧ rd_w f 1 y < p ∧ rd_w f 0 y ≠ rd_w f 1 y ∧ f (2 * y) = nI (rd_w f 0 y) ∧ f (2 * y + 1) = nI (rd_w f 1 y))
    {v : Int32} (hb : ∀ k, k < z → xf_238 M v (nI k) = f k ∧ xp_238 M v (nI k)) {c : Nat} (hc : c < 1024) :
    ∀ (d k n : Nat), k + d = N → d < n → ∀ (B : ro_Mm) (S : pu_T) (r : Nat), r ≤ k → ro_eqv M B → pu_at p B 180 S → pu_ok p S →
    xq_249_10 n B (nI k) (nI r) v (nI N) (nI c) ∧ ro_eqv M (xg_249_10 n B (nI k) (nI r) v (nI N) (nI c)).2.2.2.2 ∧ rd_out p N (rd_rn od (M.2.1 5 7) (rd_w f 0) (rd_w f 1) d k S r c) (xg_249_10 n B (nI k) (nI r) v (nI N) (nI c)) := by
  have h2 : M.2.1 168 2 = M.2.1 5 7 := h.2.1.1.2.2.2.2.2.2.2.2.2.1
  intro d
  induction d with
  | zero =>
    intro k n hk hn B S r hr hB hS ho
    cases n with
    | zero => omega
    | succ n =>
      have c0 : nI N ≤ nI k := nI_le (by omega) (by omega)
      rw [xg_249_10, xq_249_10, if_pos c0, rd_rn]
      exact ⟨⟨fun _ => trivial, fun y => absurd c0 y⟩, hB, rfl, rfl, hS, ho, by omega⟩
  | succ d ih =>
    intro k n hk hn B S r hr hB hS ho
    cases n with
    | zero => omega
    | succ n =>
      have c0 : ¬ nI N ≤ nI k := nI_ge (by omega) (by omega)
      obtain ⟨hz, h57, hi, hj, hij, ei, ej⟩ := hf k (by omega)
      generalize hgi : rd_w f 0 k = i at *
      generalize hgj : rd_w f 1 k = j at *
      have hi6 : i < 6 := by omega
      have hj6 : j < 6 := by omega
      have e2 : ∀ k, xf_238 B v k = xf_238 M v k := fun k => by unfold xf_238; rw [hB.2.2 192 _ rfl]
      obtain ⟨f1, f2⟩ := hb (2 * k) (by omega)
      obtain ⟨g1, g2⟩ := hb (2 * k + 1) hz
      have bit : (nI c >>> (((nI N - 1) - nI k) &&& 31)) &&& 1 = nI (c / 2 ^ d % 2) := by
        have e : (nI N - 1) - nI k = nI d := by
          show nI N - nI 1 - nI k = nI d
          rw [nI_sub (by omega), nI_sub (by omega)]
          congr 1; omega
        rw [e]
        exact rb_bit d (by omega) c hc
      have hbr : M.2.1 168 2 = M.2.1 5 7 := h2
      rw [xg_249_10, xq_249_10, if_neg c0, rd_2k, nI_1, nI_1, bit, e2, e2, f1, g1, ei, ej, rd_rn]
      have st : rd_st od (M.2.1 5 7) (rd_w f 0) (rd_w f 1) S k (c / 2 ^ d % 2) = if c / 2 ^ d % 2 = 1 then (if pu_mc S i j = true then some (pu_gc S i j, 0) else none)
          else (if pu_mw S i j = true then (if od i j (S.1 j) (S.2 j) < M.2.1 5 7 then some (pu_gw S i j, 0)
            else (if S.2 j < 20 then some (pu_gc (pu_rf S i) i j, 1) else none)) else none) := by
        unfold rd_st; rw [hgi, hgj]
      rw [st]
      obtain ⟨w1, w2⟩ := pu_240 hS hp hi hj
      obtain ⟨w3, w4⟩ := pu_241 hS hp hi hj
      by_cases b1 : c / 2 ^ d % 2 = 1
      · have b2 : nI (c / 2 ^ d % 2) = 1 := by rw [b1]; rfl
        rw [if_pos b2, if_pos b1, w1]
        by_cases w : pu_mc S i j = true
        · obtain ⟨u1, u2, u3⟩ := pu_242 hS hp hi hj hij
          obtain ⟨q1, q2, q3⟩ := ih (k + 1) n (by omega) (by omega) _ (pu_gc S i j) r (by omega) (pu_fr_e (Or.inr (Or.inr (Or.inr rfl))) hB u2) u1 (pu_ok_gc ho hi hj hij w)
          rw [if_pos w, if_pos w]
          exact ⟨⟨fun y => absurd y c0, fun _ => ⟨f2, g2, fun _ => ⟨w2, fun _ => ⟨u3, q1⟩, fun y => absurd w y⟩, fun y => absurd b2 y⟩⟩, q2, q3⟩
        · rw [if_neg w, if_neg w]
          exact ⟨⟨fun y => absurd y c0, fun _ => ⟨f2, g2, fun _ => ⟨w2, fun y => absurd y w, fun _ => trivial⟩, fun y => absurd b2 y⟩⟩, hB, rfl, rfl⟩
      · have b2 : ¬ nI (c / 2 ^ d % 2) = 1 := by
          rw [show c / 2 ^ d % 2 = 0 by omega]; decide
        rw [if_neg b2, if_neg b1, w3]
        by_cases w : pu_mw S i j = true
        · obtain ⟨o6, o7, o8, o9, o10⟩ := hod.2.2 B i j hB hi6 hj6
          have sj : B.2.1 181 j = S.1 j ∧ B.2.1 182 j = S.2 j := hS j hj
          rw [sj.1, sj.2] at o6
          have a6 : pu_at p (xm_243 B (nI i) (nI j)) 180 S := pu_at_c hS (fun y _ => ⟨o9 181 y (by decide) (by decide), o9 182 y (by decide) (by decide)⟩)
          have hBB : ro_eqv M (xm_243 B (nI i) (nI j)) := o8
          have hab : B.2.1 168 2 = M.2.1 5 7 := (hB.2.1 168 2 rfl).trans h2
          have q243 : xf_243 B (nI i) (nI j) = if od i j (S.1 j) (S.2 j) < M.2.1 5 7 then false else true := by unfold xf_243; rw [o6, hab]
          rw [if_pos w, if_pos w, q243]
          by_cases c1 : od i j (S.1 j) (S.2 j) < M.2.1 5 7
          · have nf : ¬ (false = true) := by decide
            obtain ⟨u1, u2, u3⟩ := pu_245 a6 hp hi hj hij
            obtain ⟨q1, q2, q3⟩ := ih (k + 1) n (by omega) (by omega) _ (pu_gw S i j) r (by omega) (pu_fr_e (Or.inr (Or.inr (Or.inr rfl))) hBB u2) u1 (pu_ok_gw ho hi hj hij w)
            rw [if_pos c1, if_pos c1, if_neg nf]
            exact ⟨⟨fun y => absurd y c0, fun _ => ⟨f2, g2, fun y => absurd y b2, fun _ => ⟨w4, fun _ => ⟨⟨o7, trivial⟩, fun y => absurd y nf, fun _ => ⟨u3, q1⟩⟩, fun y => absurd w y⟩⟩⟩, q2, q3⟩
          · have tt : (true = true) := rfl
            obtain ⟨u1, u2, u3⟩ := pu_244 a6 hp hi
            have ok2 := pu_ok_rf ho hi w
            obtain ⟨x1, x2⟩ := pu_240 u1 hp hi hj
            rw [if_neg c1, if_neg c1, if_pos tt, x1]
            by_cases c3 : S.2 j < 20
            · have c4 : pu_mc (pu_rf S i) i j = true := by rw [pu_mc_rf ho hi hij w]; exact c3
              obtain ⟨u4, u5, u6⟩ := pu_242 u1 hp hi hj hij
              obtain ⟨q1, q2, q3⟩ := ih (k + 1) n (by omega) (by omega) _ _ (r + 1) (by omega) (pu_fr_e (Or.inr (Or.inr (Or.inr rfl))) (pu_fr_e (Or.inr (Or.inr (Or.inr rfl))) hBB u2) u5) u4 (pu_ok_gc ok2 hi hj hij c4)
              rw [if_pos c3, if_pos c4, nI_1]
              exact ⟨⟨fun y => absurd y c0, fun _ => ⟨f2, g2, fun y => absurd y b2, fun _ => ⟨w4, fun _ => ⟨⟨o7, trivial⟩, fun _ => ⟨u3, x2, fun _ => ⟨u6, q1⟩, fun y => absurd c4 y⟩, fun y => absurd tt y⟩, fun y => absurd w y⟩⟩⟩, q2, q3⟩
            · have c4 : ¬ pu_mc (pu_rf S i) i j = true := by rw [pu_mc_rf ho hi hij w]; exact c3
              rw [if_neg c3, if_neg c4]
              exact ⟨⟨fun y => absurd y c0, fun _ => ⟨f2, g2, fun y => absurd y b2, fun _ => ⟨w4, fun _ => ⟨⟨o7, trivial⟩, fun _ => ⟨u3, x2, fun y => absurd y c4, fun _ => trivial⟩, fun y => absurd tt y⟩, fun y => absurd w y⟩⟩⟩, pu_fr_e (Or.inr (Or.inr (Or.inr rfl))) hBB u2, rfl, rfl⟩
        · rw [if_neg w, if_neg w]
          exact ⟨⟨fun y => absurd y c0, fun _ => ⟨f2, g2, fun y => absurd y b2, fun _ => ⟨w4, fun y => absurd y w, fun _ => trivial⟩⟩⟩, hB, rfl, rfl⟩
/-- one kind of all: its outcome -/
theorem rd_kind (h : ro_Inv M) (hod : od_is M od) (hp : p ≤ 6) (e2 : M.2.1 163 1 = nI p) (hl : rd_len M p f z N) {v : Int32} (hb : ∀ k, k < z → xf_238 M v (nI k) = f k ∧ xp_238 M v (nI k)) {c : Nat} (hc : c < 1024) {B : ro_Mm} (hB : ro_eqv M B) :
    xp_249 B v (nI N) (nI c) ∧ ro_eqv M (xm_249 B v (nI N) (nI c)) ∧ (match rd_rn od (M.2.1 5 7) (rd_w f 0) (rd_w f 1) N 0 (pu_now M) 0 c with
      | none => xf_249 B v (nI N) (nI c) = -2
      | some (S2, r2) => xf_249 B v (nI N) (nI c) = nI r2 ∧ pu_at p (xm_249 B v (nI N) (nI c)) 180 S2 ∧ pu_ok p S2 ∧ r2 ≤ N) := by
  obtain ⟨b1, b2, b3⟩ := pu_228 h hB hp e2
  obtain ⟨q1, q2, q3⟩ := rd_249 h hod hp hl.1 hl.2.1 hb hc N 0 lp_N (by omega) (lp_hug (by have := hl.1; omega)) (xm_228 B) (pu_now M) 0 (Nat.le_refl _) (pu_fr_e (Or.inr (Or.inr (Or.inr rfl))) hB b3) b2 (pu_ok_now h hp)
  rw [nI_0] at q1 q2 q3
  refine ⟨⟨b1, q1, trivial⟩, q2, ?_⟩
  unfold xf_249 xm_249
  cases ho : rd_rn od (M.2.1 5 7) (rd_w f 0) (rd_w f 1) N 0 (pu_now M) 0 c with
  | none =>
    rw [ho] at q3
    show (if (xg_249_10 lp_N (xm_228 B) 0 0 v (nI N) (nI c)).1 = true then _ else _) = _
    rw [if_pos q3.1]; exact q3.2
  | some x =>
    obtain ⟨S2, r2⟩ := x
    rw [ho] at q3
    have q4 : ¬ (xg_249_10 lp_N (xm_228 B) 0 0 v (nI N) (nI c)).1 = true := by
      have : (xg_249_10 lp_N (xm_228 B) 0 0 v (nI N) (nI c)).1 = false := q3.1
      rw [this]; decide
    refine ⟨?_, q3.2.2⟩
    rw [if_neg q4]; exact q3.2.1
def rd_ra (a : rd_A) (v5 v4 : Int32) : Prop := match a with
  | none => v4 = -2
  | some (v, ks) => v5 = v ∧ v4 = nI ks ∧ ks < 1024
theorem rd_247 (h : ro_Inv M) (hod : od_is M od) (hp : p ≤ 6) (e2 : M.2.1 163 1 = nI p) (hl : rd_len M p f z N) {v : Int32} (hb : ∀ k, k < z → xf_238 M v (nI k) = f k ∧ xp_238 M v (nI k)) {v2 : Int32} :
    ∀ (m s n : Nat) (B : ro_Mm) (v5 v4 : Int32) (a : rd_A), s + m = 2 ^ N → m < n → ro_eqv M B → rd_ra a v5 v4 →
    xq_247_44 n B (nI s) v5 v4 (nI N) v v2 ∧ ro_eqv M (xg_247_44 n B (nI s) v5 v4 (nI N) v v2).2.2.2 ∧ rd_ra (rd_fd od (M.2.1 5 7) (rd_w f 0) (rd_w f 1) (fun _ r => nI r) (fun x y => decide (x < y)) N (pu_now M) m s a) (xg_247_44 n B (nI s) v5 v4 (nI N) v v2).2.1 (xg_247_44 n B (nI s) v5 v4 (nI N) v v2).2.2.1 := by
  have p10 : 2 ^ N ≤ 1024 := by
    have := Nat.pow_le_pow_right (n := 2) (by decide) hl.1
    exact this
  intro m
  induction m with
  | zero =>
    intro s n B v5 v4 a hs hn hB ha
    cases n with
    | zero => omega
    | succ n =>
      have c0 : (1 : Int32) <<< (nI N &&& 31) ≤ nI s := by rw [rb_sh N (by have := hl.1; omega)]; exact nI_le (by omega) (by omega)
      rw [xg_247_44, xq_247_44, if_pos c0, rd_fd]
      exact ⟨⟨fun _ => trivial, fun y => absurd c0 y⟩, hB, ha⟩
  | succ m ih =>
    intro s n B v5 v4 a hs hn hB ha
    cases n with
    | zero => omega
    | succ n =>
      have c0 : ¬ (1 : Int32) <<< (nI N &&& 31) ≤ nI s := by rw [rb_sh N (by have := hl.1; omega)]; exact nI_ge (by omega) (by omega)
      obtain ⟨k1, k2, k3⟩ := rd_kind h hod hp e2 hl hb (c := s) (by omega) hB
      rw [xg_247_44, xq_247_44, if_neg c0, nI_1, rd_fd]
      cases ho : rd_rn od (M.2.1 5 7) (rd_w f 0) (rd_w f 1) N 0 (pu_now M) 0 s with
      | none =>
        rw [ho] at k3
        have k3 : xf_249 B v (nI N) (nI s) = -2 := k3
        rw [k3, if_pos (by decide)]
        obtain ⟨i1, i2, i3⟩ := ih (s + 1) n (xm_249 B v (nI N) (nI s)) v5 v4 a (by omega) (by omega) k2 ha
        exact ⟨⟨fun y => absurd y c0, fun _ => ⟨k1, fun _ => i1, fun y => absurd (by decide) y⟩⟩, i2, i3⟩
      | some x =>
        obtain ⟨S2, r2⟩ := x
        rw [ho] at k3
        have k4 : xf_249 B v (nI N) (nI s) = nI r2 := k3.1
        have r10 : r2 ≤ 10 := by have := k3.2.2.2; have := hl.1; omega
        have c1 : ¬ nI r2 < 0 := nI_pos (by omega)
        rw [k4, if_neg c1]
        cases a with
        | none =>
          have c2 : v4 < 0 := by rw [show v4 = -2 from ha]; decide
          obtain ⟨i1, i2, i3⟩ := ih (s + 1) n (xm_249 B v (nI N) (nI s)) (nI r2) (nI s) (some (nI r2, s)) (by omega) (by omega) k2 ⟨rfl, rfl, by omega⟩
          rw [if_pos c2]
          exact ⟨⟨fun y => absurd y c0, fun _ => ⟨k1, fun y => absurd y c1, fun _ => ⟨fun _ => i1, fun y => absurd c2 y⟩⟩⟩, i2, i3⟩
        | some x =>
          obtain ⟨b, ks⟩ := x
          obtain ⟨a1, a2, a3⟩ := ha
          have c2 : ¬ v4 < 0 := by rw [a2]; exact nI_pos (by omega)
          rw [if_neg c2]
          have hu : rd_u2 (fun _ r => nI r) (fun x y => decide (x < y)) (some (b, ks)) (some (S2, r2)) s = if nI r2 < v5 then some (nI r2, s) else some (b, ks) := by
            rw [a1]
            show (if decide (nI r2 < b) = true then _ else _) = _
            by_cases q : nI r2 < b
            · rw [if_pos q, if_pos (by simp [q])]
            · rw [if_neg q, if_neg (by simp [q])]
          rw [hu]
          by_cases c3 : nI r2 < v5
          · obtain ⟨i1, i2, i3⟩ := ih (s + 1) n (xm_249 B v (nI N) (nI s)) (nI r2) (nI s) (some (nI r2, s)) (by omega) (by omega) k2 ⟨rfl, rfl, by omega⟩
            rw [if_pos c3, if_pos c3]
            exact ⟨⟨fun y => absurd y c0, fun _ => ⟨k1, fun y => absurd y c1, fun _ => ⟨fun y => absurd y c2, fun _ => ⟨fun _ => i1, fun y => absurd c3 y⟩⟩⟩⟩, i2, i3⟩
          · obtain ⟨i1, i2, i3⟩ := ih (s + 1) n (xm_249 B v (nI N) (nI s)) v5 v4 (some (b, ks)) (by omega) (by omega) k2 ⟨a1, a2, a3⟩
            rw [if_neg c3, if_neg c3]
            exact ⟨⟨fun y => absurd y c0, fun _ => ⟨k1, fun y => absurd y c1, fun _ => ⟨fun y => absurd y c2, fun _ => ⟨fun y => absurd y c3, fun _ => i1⟩⟩⟩⟩, i2, i3⟩
/-- what a clean outcome is worth -/
def rd_val (M : ro_Mm) (f : Nat → Int32) (S : pu_T) (_ : Nat) : Int32 := (4 : Int32) * S.1 (rd_w f 0 0) + M.2.1 5 5 * S.2 (rd_w f 0 0)
theorem rd_val_pos (h : ro_Inv M) {S : pu_T} (ho : pu_ok p S) (hi : rd_w f 0 0 < p) {r : Nat} : (0 : Int32) ≤ rd_val M f S r := by
  obtain ⟨a1, a2, a3, a4⟩ := ho _ hi
  obtain ⟨x, hx, ex⟩ := ro_20 ⟨a1, a2⟩
  obtain ⟨y, hy, ey⟩ := ro_20 ⟨a3, a4⟩
  obtain ⟨w, hw, ew⟩ := nI_of2 (x := M.2.1 5 5) (M := 4) (n := 4) (by decide) (Int32.not_lt.mpr h.2.1.1.2.2.2.2.1) h.2.1.1.2.2.2.2.2.1
  unfold rd_val
  rw [ex, ey, ew]
  have hm : w * y ≤ 4 * 20 := Nat.mul_le_mul hw hy
  have e : (4 : Int32) * nI x = nI (4 * x) := nI_mul 4 x
  rw [e, nI_mul, nI_add]
  exact nI_pos' (by omega)
def rd_rb (a : rd_A) (v3 : Int32) : Prop := match a with
  | none => v3 = -2
  | some (v, _) => v3 = v
theorem rd_250 (h : ro_Inv M) (hod : od_is M od) (hp : p ≤ 6) (e2 : M.2.1 163 1 = nI p) (hl : rd_len M p f z N) (hN : 0 < N) {v : Int32} (hb : ∀ k, k < z → xf_238 M v (nI k) = f k ∧ xp_238 M v (nI k)) :
    ∀ (m s n : Nat) (B : ro_Mm) (v3 : Int32) (a : rd_A), s + m = 2 ^ N → m < n → ro_eqv M B → rd_rb a v3 →
    xq_250_35 n B (nI s) v3 (nI N) v ∧ ro_eqv M (xg_250_35 n B (nI s) v3 (nI N) v).2.2 ∧ rd_rb (rd_fd od (M.2.1 5 7) (rd_w f 0) (rd_w f 1) (rd_val M f) (fun x y => decide (y < x)) N (pu_now M) m s a) (xg_250_35 n B (nI s) v3 (nI N) v).2.1 := by
  have p10 : 2 ^ N ≤ 1024 := by
    have := Nat.pow_le_pow_right (n := 2) (by decide) hl.1
    exact this
  have nN : ¬ nI N ≤ 0 := nI_nle hN (by have := hl.1; omega)
  obtain ⟨hz, h57, hi, hj, hij, ei, ej⟩ := hl.2.1 0 hN
  obtain ⟨f1, f2⟩ := hb 0 (by omega)
  have hi6 : rd_w f 0 0 < 6 := by omega
  obtain ⟨n1, n2, n3, n4⟩ := ro_n6 (k := rd_w f 0 0) hi6
  intro m
  induction m with
  | zero =>
    intro s n B v3 a hs hn hB ha
    cases n with
    | zero => omega
    | succ n =>
      have c0 : (1 : Int32) <<< (nI N &&& 31) ≤ nI s := by rw [rb_sh N (by have := hl.1; omega)]; exact nI_le (by omega) (by omega)
      rw [xg_250_35, xq_250_35, if_pos c0, rd_fd]
      exact ⟨⟨fun _ => trivial, fun y => absurd c0 y⟩, hB, ha⟩
  | succ m ih =>
    intro s n B v3 a hs hn hB ha
    cases n with
    | zero => omega
    | succ n =>
      have c0 : ¬ (1 : Int32) <<< (nI N &&& 31) ≤ nI s := by rw [rb_sh N (by have := hl.1; omega)]; exact nI_ge (by omega) (by omega)
      obtain ⟨k1, k2, k3⟩ := rd_kind h hod hp e2 hl hb (c := s) (by omega) hB
      have e238 : xf_238 (xm_249 B v (nI N) (nI s)) v 0 = nI (rd_w f 0 0) := by
        rw [← ei]
        have : f (2 * 0) = f 0 := rfl
        rw [this, ← f1]
        unfold xf_238
        rw [k2.2.2 192 _ rfl]
        rfl
      have p238 : xp_238 (xm_249 B v (nI N) (nI s)) v 0 := f2
      rw [xg_250_35, xq_250_35, if_neg c0, if_neg nN, nI_1, e238, n3, rd_fd]
      cases ho : rd_rn od (M.2.1 5 7) (rd_w f 0) (rd_w f 1) N 0 (pu_now M) 0 s with
      | none =>
        rw [ho] at k3
        have k3 : xf_249 B v (nI N) (nI s) = -2 := k3
        have c1 : ¬ (0 : Int32) ≤ -2 := by decide
        rw [k3, if_neg c1]
        obtain ⟨i1, i2, i3⟩ := ih (s + 1) n (xm_249 B v (nI N) (nI s)) v3 a (by omega) (by omega) k2 ha
        exact ⟨⟨fun y => absurd y c0, fun _ => ⟨fun y => absurd y nN, fun _ => ⟨k1, fun y => absurd y c1, fun _ => i1⟩⟩⟩, i2, i3⟩
      | some x =>
        obtain ⟨S2, r2⟩ := x
        rw [ho] at k3
        have k4 : xf_249 B v (nI N) (nI s) = nI r2 := k3.1
        have k5 : pu_at p (xm_249 B v (nI N) (nI s)) 180 S2 := k3.2.1
        have k6 : pu_ok p S2 := k3.2.2.1
        have r10 : r2 ≤ 10 := by have := k3.2.2.2; have := hl.1; omega
        have c1 : (0 : Int32) ≤ nI r2 := nI_pos' (by omega)
        have hv : (4 : Int32) * (xm_249 B v (nI N) (nI s)).2.1 181 (rd_w f 0 0) + B.2.1 168 0 * (xm_249 B v (nI N) (nI s)).2.1 182 (rd_w f 0 0) = rd_val M f S2 r2 := by
          have t1 : (xm_249 B v (nI N) (nI s)).2.1 181 (rd_w f 0 0) = S2.1 (rd_w f 0 0) := (k5 _ hi).1
          have t2 : (xm_249 B v (nI N) (nI s)).2.1 182 (rd_w f 0 0) = S2.2 (rd_w f 0 0) := (k5 _ hi).2
          have t3 : B.2.1 168 0 = M.2.1 5 5 := (hB.2.1 168 0 rfl).trans h.2.1.1.2.2.2.1
          rw [t1, t2, t3]; rfl
        have vp := rd_val_pos (f := f) h k6 hi (r := r2)
        rw [k4, if_pos c1, hv]
        cases a with
        | none =>
          have c2 : ¬ rd_val M f S2 r2 ≤ v3 := by
            rw [show v3 = -2 from ha]
            exact fun q => absurd (Int32.le_trans vp q) (by decide)
          obtain ⟨i1, i2, i3⟩ := ih (s + 1) n (xm_249 B v (nI N) (nI s)) (rd_val M f S2 r2) (some (rd_val M f S2 r2, s)) (by omega) (by omega) k2 rfl
          rw [if_neg c2]
          exact ⟨⟨fun y => absurd y c0, fun _ => ⟨fun y => absurd y nN, fun _ => ⟨k1, fun _ => ⟨p238, n4, n4, fun y => absurd y c2, fun _ => i1⟩, fun y => absurd c1 y⟩⟩⟩, i2, i3⟩
        | some x =>
          obtain ⟨b, ks⟩ := x
          have a1 : v3 = b := ha
          have hu : rd_u2 (rd_val M f) (fun x y => decide (y < x)) (some (b, ks)) (some (S2, r2)) s = if rd_val M f S2 r2 ≤ v3 then some (b, ks) else some (rd_val M f S2 r2, s) := by
            rw [a1]
            show (if decide (b < rd_val M f S2 r2) = true then _ else _) = _
            by_cases q : b < rd_val M f S2 r2
            · rw [if_pos (by simp [q]), if_neg (Int32.not_le.mpr q)]
            · rw [if_neg (by simp [q]), if_pos (Int32.not_lt.mp q)]
          rw [hu]
          by_cases c2 : rd_val M f S2 r2 ≤ v3
          · obtain ⟨i1, i2, i3⟩ := ih (s + 1) n (xm_249 B v (nI N) (nI s)) v3 (some (b, ks)) (by omega) (by omega) k2 a1
            rw [if_pos c2, if_pos c2]
            exact ⟨⟨fun y => absurd y c0, fun _ => ⟨fun y => absurd y nN, fun _ => ⟨k1, fun _ => ⟨p238, n4, n4, fun _ => i1, fun y => absurd c2 y⟩, fun y => absurd c1 y⟩⟩⟩, i2, i3⟩
          · obtain ⟨i1, i2, i3⟩ := ih (s + 1) n (xm_249 B v (nI N) (nI s)) (rd_val M f S2 r2) (some (rd_val M f S2 r2, s)) (by omega) (by omega) k2 rfl
            rw [if_neg c2, if_neg c2]
            exact ⟨⟨fun y => absurd y c0, fun _ => ⟨fun y => absurd y nN, fun _ => ⟨k1, fun _ => ⟨p238, n4, n4, fun y => absurd y c2, fun _ => i1⟩, fun y => absurd c1 y⟩⟩⟩, i2, i3⟩
end REF
end ROUND4

