/-! evenings by draws; pair drawn -/
section DRAWN
variable {X : ro_Sx}
theorem dr_nat (u : UInt32) : u.toInt32 = nI u.toNat := by
  apply Int32.toBitVec_inj.mp
  show u.toBitVec = BitVec.ofNat 32 u.toBitVec.toNat
  rw [BitVec.ofNat_toNat, BitVec.setWidth_eq]
theorem dr_sh {z v : Int32} {k : Nat} (h : v.toUInt32 &&& Int32.toUInt32 31 = UInt32.ofNat k) (hk : 0 < k) (hk2 : k < 32) : ∃ n, n < 2 ^ 31 ∧ ro_ushr z v = nI n := by
  refine ⟨(z.toUInt32 >>> UInt32.ofNat k).toNat, ?_, ?_⟩
  · rw [UInt32.toNat_shiftRight, show (UInt32.ofNat k).toNat = k from UInt32.toNat_ofNat_of_lt' (by show k < 4294967296; omega), Nat.mod_eq_of_lt hk2, Nat.shiftRight_eq_div_pow]
    have h1 : z.toUInt32.toNat < 2 ^ 32 := UInt32.toNat_lt _
    have h2 : 2 ^ 1 ≤ 2 ^ k := Nat.pow_le_pow_right (by decide) hk
    have h3 : z.toUInt32.toNat / 2 ^ k ≤ z.toUInt32.toNat / 2 ^ 1 := Nat.div_le_div_left h2 (by decide)
    omega
  · unfold ro_ushr
    rw [h]; exact dr_nat _
theorem dr_i {z v : Int32} {k p : Nat} (h : v.toUInt32 &&& Int32.toUInt32 31 = UInt32.ofNat k) (hk : 0 < k) (hk2 : k < 32) (hp0 : 0 < p) (hp : p ≤ 6) : ∃ i, i < p ∧ ro_irem (ro_ushr z v) (nI p) = nI i := by
  obtain ⟨n, hn, e⟩ := dr_sh (z := z) h hk hk2
  exact ⟨n % p, Nat.mod_lt _ hp0, by rw [e]; exact nI_rem hn (by omega)⟩
/-- what both see while evenings are drawn: how many were refused -/
def dr_S (M : ro_Mm) (p : Nat) (A B : ro_Mm) (r w : Int32) : Prop := ro_eqv M A ∧ ro_eqv M B ∧ (∃ S, pu_at p A 36 S ∧ pu_at p B 180 S) ∧ A.2.1 35 7 = r ∧ A.2.1 35 10 = w
theorem dr_step {M : ro_Mm} (h : ro_Inv M) {od : Nat → Nat → Int32 → Int32 → Int32} (hod : od_is M od) {p : Nat} (hp : p ≤ 6) (hp0 : 0 < p) (e2 : M.2.1 163 1 = nI p) {A B : ro_Mm} {r w : Int32} (hS : dr_S M p A B r w) {v7 v6 z v1 v2 v3 u8 u7 u5 u1 u2 u3 : Int32} (c0 : ¬ v3 ≤ v7) (c9 : ¬ ro_irem u2 100 ≤ u8) :
    ∃ A2 B2 r2, dr_S M p A2 B2 r2 w ∧ (∀ n, xg_141_55 (n + 1) A v7 v6 (nI p) z v1 v2 v3 = xg_141_55 n A2 (v7 + 1) v6 (nI p) (z * 1103515245 + 12345) v1 v2 v3 ∧ (xq_141_55 n A2 (v7 + 1) v6 (nI p) (z * 1103515245 + 12345) v1 v2 v3 → xq_141_55 (n + 1) A v7 v6 (nI p) z v1 v2 v3)) ∧
      (∀ n, xg_273_76 (n + 1) B u8 u7 r u5 z u1 u2 u3 = xg_273_76 n B2 (u8 + 1) u7 r2 u5 (z * 1103515245 + 12345) u1 u2 u3 ∧ (xq_273_76 n B2 (u8 + 1) u7 r2 u5 (z * 1103515245 + 12345) u1 u2 u3 → xq_273_76 (n + 1) B u8 u7 r u5 z u1 u2 u3)) := by
  obtain ⟨s1, s2, ⟨S, s5, s6⟩, s7, s8⟩ := hS
  generalize hz : z * 1103515245 + 12345 = y
  obtain ⟨i, hi, ei⟩ := dr_i (z := y) (v := 8) (k := 8) (by decide) (by decide) (by decide) hp0 hp
  obtain ⟨j, hj, ej⟩ := dr_i (z := y) (v := 12) (k := 12) (by decide) (by decide) (by decide) hp0 hp
  have ep : B.2.1 163 1 = nI p := (s2.2.1 163 1 rfl).trans e2
  have np : (1 : Int32) ≤ nI p := nI_le (a := 1) (by omega) (by omega)
  have nz : ¬ nI p = 0 := nI_ne0 hp0 (by omega)
  have hi6 : i < 6 := by omega
  have hj6 : j < 6 := by omega
  have p36 : ro_ip 36 := by unfold ro_ip; decide
  -- out of what one draw makes
  have OUT : ∀ A2, xm_142 A y (nI p) = A2 → xp_142 A y (nI p) → ∀ n, xg_141_55 (n + 1) A v7 v6 (nI p) z v1 v2 v3 = xg_141_55 n A2 (v7 + 1) v6 (nI p) y v1 v2 v3 ∧ (xq_141_55 n A2 (v7 + 1) v6 (nI p) y v1 v2 v3 → xq_141_55 (n + 1) A v7 v6 (nI p) z v1 v2 v3) := by
    intro A2 a1 a2 n
    rw [xg_141_55, xq_141_55, if_neg c0, hz, a1]
    exact ⟨rfl, fun g => ⟨fun q => absurd q c0, fun _ => ⟨a2, g⟩⟩⟩
  by_cases hij : i = j
  · have same : nI i = nI j := by rw [hij]
    refine ⟨A, B, r, ⟨s1, s2, ⟨S, s5, s6⟩, s7, s8⟩, OUT A ?_ ?_, fun n => ?_⟩
    · unfold xm_142; rw [if_pos np, ei, ej, if_pos same]
    · unfold xp_142; rw [ei, ej]; exact ⟨fun _ => ⟨nz, nz, fun _ => trivial, fun q => absurd same q⟩, fun _ => trivial⟩
    · rw [xg_273_76, xq_273_76, if_neg c9, hz, ep, ei, ej, if_pos same]
      exact ⟨rfl, fun g => ⟨fun q => absurd q c9, fun _ => ⟨nz, nz, fun _ => g, fun q => absurd same q⟩⟩⟩
  · have diff : ¬ nI i = nI j := fun e => hij ((nI_eq (by omega) (by omega)).mp e)
    obtain ⟨w1, w2⟩ := pu_241 s6 hp hi hj
    have w3 := pu_75 s5 hp hi hj
    by_cases mw : pu_mw S i j = true
    · rw [mw] at w1 w3
      obtain ⟨o1, o2, o3, o4, o5⟩ := hod.2.1 A 36 i j s1 p36 hi6 hj6
      obtain ⟨o6, o7, o8, o9, o10⟩ := hod.2.2 B i j s2 hi6 hj6
      have sj : A.2.1 (36 + 1) j = B.2.1 181 j ∧ A.2.1 (36 + 2) j = B.2.1 182 j := ⟨(s5 j hj).1.trans (s6 j hj).1.symm, (s5 j hj).2.trans (s6 j hj).2.symm⟩
      rw [sj.1, sj.2] at o1
      have a5 : pu_at p (xm_58 A 36 (nI i) (nI j)) 36 S := pu_at_c s5 (fun y _ => ⟨o4 37 y (by decide) (by decide) (by omega), o4 38 y (by decide) (by decide) (by omega)⟩)
      have a6 : pu_at p (xm_229 B (nI i) (nI j)) 180 S := pu_at_c s6 (fun y _ => ⟨o9 181 y (by decide) (by decide), o9 182 y (by decide) (by decide)⟩)
      have r35 : ∀ y, (xm_58 A 36 (nI i) (nI j)).2.1 35 y = A.2.1 35 y := fun y => o4 35 y (by decide) (by decide) (by omega)
      have x142 : xp_142 A y (nI p) := by
        unfold xp_142; rw [ei, ej]; exact ⟨fun _ => ⟨nz, nz, fun _ => trivial, fun _ => ⟨fun _ => ⟨o2, trivial⟩, fun _ => trivial⟩⟩, fun _ => trivial⟩
      by_cases hab : od i j (B.2.1 181 j) (B.2.1 182 j) ≤ ro_irem (ro_ushr y 20) 12
      · obtain ⟨g1, g2⟩ := pu_78 a5 hp hi hj hij
        obtain ⟨g3, g4, g5⟩ := pu_245 a6 hp hi hj hij
        refine ⟨xm_78 (xm_58 A 36 (nI i) (nI j)) 36 (nI i) (nI j), xm_245 (xm_229 B (nI i) (nI j)) (nI i) (nI j), r, ⟨pu_fr_e (Or.inl rfl) o3 g2, pu_fr_e (Or.inr (Or.inr (Or.inr rfl))) o8 g4, ⟨_, g1, g3⟩, ?_, ?_⟩, OUT _ ?_ x142, fun n => ?_⟩
        · rw [g2.2.2 35 7 (by decide) (by decide), r35]; exact s7
        · rw [g2.2.2 35 10 (by decide) (by decide), r35]; exact s8
        · unfold xm_142; rw [if_pos np, ei, ej, if_neg diff, w3, if_pos rfl, o1, if_pos hab]; rfl
        · rw [xg_273_76, xq_273_76, if_neg c9, hz, ep, ei, ej, if_neg diff, w1, if_pos rfl, o6, if_pos hab]
          exact ⟨rfl, fun g => ⟨fun q => absurd q c9, fun _ => ⟨nz, nz, fun q => absurd q diff, fun _ => ⟨w2, fun _ => ⟨o7, fun _ => ⟨g5, g⟩, fun q => absurd hab q⟩, fun q => absurd rfl q⟩⟩⟩⟩
      · obtain ⟨g1, g2⟩ := pu_77 a5 hp hi
        obtain ⟨g3, g4, g5⟩ := pu_244 a6 hp hi
        have e76 : xm_76 (xm_58 A 36 (nI i) (nI j)) (nI i) (nI j) true = ro_sI (ro_sI (xm_77 (xm_58 A 36 (nI i) (nI j)) 36 (nI i)) 35 7 (A.2.1 35 7 + 1)) 35 9 (A.2.1 35 9 ||| (1 : Int32) <<< (nI j &&& 31)) := by
          unfold xm_76
          rw [if_pos rfl, r35, r35]
        refine ⟨ro_sI (ro_sI (xm_77 (xm_58 A 36 (nI i) (nI j)) 36 (nI i)) 35 7 (A.2.1 35 7 + 1)) 35 9 (A.2.1 35 9 ||| (1 : Int32) <<< (nI j &&& 31)), xm_244 (xm_229 B (nI i) (nI j)) (nI i), r + 1, ⟨ro_eqv_s (ro_eqv_s (pu_fr_e (Or.inl rfl) o3 g2) rfl) rfl, pu_fr_e (Or.inr (Or.inr (Or.inr rfl))) o8 g4, ⟨_, pu_at_c g1 (fun y _ => ⟨?_, ?_⟩), g3⟩, ?_, ?_⟩, OUT _ ?_ x142, fun n => ?_⟩
        · rw [ro_sI_ne (by decide), ro_sI_ne (by decide)]
        · rw [ro_sI_ne (by decide), ro_sI_ne (by decide)]
        · rw [ro_rd_s, if_neg (by omega), ro_rd_s, if_pos ⟨rfl, rfl⟩, s7]
        · rw [ro_rd_s, if_neg (by omega), ro_rd_s, if_neg (by omega), g2.2.2 35 10 (by decide) (by decide), r35]; exact s8
        · unfold xm_142; rw [if_pos np, ei, ej, if_neg diff, w3, if_pos rfl, o1, if_neg hab, e76]
        · rw [xg_273_76, xq_273_76, if_neg c9, hz, ep, ei, ej, if_neg diff, w1, if_pos rfl, o6, if_neg hab]
          exact ⟨rfl, fun g => ⟨fun q => absurd q c9, fun _ => ⟨nz, nz, fun q => absurd q diff, fun _ => ⟨w2, fun _ => ⟨o7, fun q => absurd q hab, fun _ => ⟨g5, g⟩⟩, fun q => absurd rfl q⟩⟩⟩⟩
    · have wf : pu_mw S i j = false := by cases hq : pu_mw S i j with | true => exact absurd hq mw | false => rfl
      rw [wf] at w1 w3
      have nf : ¬ (false = true) := by decide
      refine ⟨A, B, r, ⟨s1, s2, ⟨S, s5, s6⟩, s7, s8⟩, OUT A ?_ ?_, fun n => ?_⟩
      · unfold xm_142; rw [if_pos np, ei, ej, if_neg diff, w3, if_neg nf]
      · unfold xp_142; rw [ei, ej, w3]; exact ⟨fun _ => ⟨nz, nz, fun q => absurd q diff, fun _ => ⟨fun q => absurd q nf, fun _ => trivial⟩⟩, fun _ => trivial⟩
      · rw [xg_273_76, xq_273_76, if_neg c9, hz, ep, ei, ej, if_neg diff, w1, if_neg nf]
        exact ⟨rfl, fun g => ⟨fun q => absurd q c9, fun _ => ⟨nz, nz, fun q => absurd q diff, fun _ => ⟨w2, fun q => absurd q nf, fun _ => g⟩⟩⟩⟩
/-- one evening -/
theorem dr_one {M : ro_Mm} (h : ro_Inv M) {od : Nat → Nat → Int32 → Int32 → Int32} (hod : od_is M od) {p : Nat} (hp : p ≤ 6) (hp0 : 0 < p) (e2 : M.2.1 163 1 = nI p) {m : Nat} (hm : m ≤ 30) {u2 : Int32} (em : ro_irem u2 100 = nI m) {v6 v1 v2 u7 u5 u1 u3 : Int32} : ∀ (d k n n2 : Nat) (A B : ro_Mm) (r w z : Int32), k + d = m → d < n → d < n2 → dr_S M p A B r w →
    xq_141_55 n A (nI k) v6 (nI p) z v1 v2 (nI m) ∧ xq_273_76 n2 B (nI k) u7 r u5 z u1 u2 u3 ∧ (xg_141_55 n A (nI k) v6 (nI p) z v1 v2 (nI m)).2.1 = (xg_273_76 n2 B (nI k) u7 r u5 z u1 u2 u3).2.2.1 ∧ dr_S M p (xg_141_55 n A (nI k) v6 (nI p) z v1 v2 (nI m)).2.2 (xg_273_76 n2 B (nI k) u7 r u5 z u1 u2 u3).2.2.2 (xg_273_76 n2 B (nI k) u7 r u5 z u1 u2 u3).2.1 w := by
  intro d
  induction d with
  | zero =>
    intro k n n2 A B r w z hk hn hn2 hS
    cases n with
    | zero => omega
    | succ n =>
      cases n2 with
      | zero => omega
      | succ n2 =>
        have c0 : nI m ≤ nI k := nI_le (by omega) (by omega)
        rw [xg_141_55, xq_141_55, xg_273_76, xq_273_76, em, if_pos c0, if_pos c0]
        exact ⟨⟨fun _ => trivial, fun q => absurd c0 q⟩, ⟨fun _ => trivial, fun q => absurd c0 q⟩, rfl, hS⟩
  | succ d ih =>
    intro k n n2 A B r w z hk hn hn2 hS
    cases n with
    | zero => omega
    | succ n =>
      cases n2 with
      | zero => omega
      | succ n2 =>
        have c0 : ¬ nI m ≤ nI k := nI_ge (by omega) (by omega)
        obtain ⟨A2, B2, r2, t1, t2, t3⟩ := dr_step h hod hp hp0 e2 hS (v7 := nI k) (v6 := v6) (z := z) (v1 := v1) (v2 := v2) (v3 := nI m) (u8 := nI k) (u7 := u7) (u5 := u5) (u1 := u1) (u2 := u2) (u3 := u3) c0 (by rw [em]; exact c0)
        obtain ⟨a1, a2⟩ := t2 n
        obtain ⟨b1, b2⟩ := t3 n2
        rw [nI_1] at a1 a2 b1 b2
        obtain ⟨i1, i2, i3, i4⟩ := ih (k + 1) n n2 A2 B2 r2 w (z * 1103515245 + 12345) (by omega) (by omega) (by omega) t1
        rw [a1, b1]
        exact ⟨a2 i1, b2 i2, i3, i4⟩
/-- the whole coins at its end -/
theorem dr_sum {M : ro_Mm} {p : Nat} (hp : p ≤ 6) (e2 : M.2.1 163 1 = nI p) {B : ro_Mm} (hB : ro_eqv M B) {S : pu_T} (s6 : pu_at p B 180 S) {r v6 v4 v1 v2 v3 u7 u6 u4 u1 u2 u3 : Int32} : ∀ (d k n n2 : Nat) (A : ro_Mm) (w : Int32), k + d = p → d < n → d < n2 → ro_eqv M A → pu_at p A 36 S → A.2.1 35 7 = r → A.2.1 35 10 = w →
    xq_141_89 n A (nI k) v6 (nI p) v4 v1 v2 v3 ∧ xq_273_190 n2 B (nI k) u7 u6 w u4 u1 u2 u3 ∧ dr_S M p (xg_141_89 n A (nI k) v6 (nI p) v4 v1 v2 v3).2 B r (xg_273_190 n2 B (nI k) u7 u6 w u4 u1 u2 u3).2 := by
  have ep : B.2.1 163 1 = nI p := (hB.2.1 163 1 rfl).trans e2
  intro d
  induction d with
  | zero =>
    intro k n n2 A w hk hn hn2 a1 a2 a3 a4
    cases n with
    | zero => omega
    | succ n =>
      cases n2 with
      | zero => omega
      | succ n2 =>
        have c0 : nI p ≤ nI k := nI_le (by omega) (by omega)
        rw [xg_141_89, xq_141_89, xg_273_190, xq_273_190, ep, if_pos c0, if_pos c0]
        exact ⟨⟨fun _ => trivial, fun q => absurd c0 q⟩, ⟨fun _ => trivial, fun q => absurd c0 q⟩, a1, hB, ⟨S, a2, s6⟩, a3, a4⟩
  | succ d ih =>
    intro k n n2 A w hk hn hn2 a1 a2 a3 a4
    cases n with
    | zero => omega
    | succ n =>
      cases n2 with
      | zero => omega
      | succ n2 =>
        have c0 : ¬ nI p ≤ nI k := nI_ge (by omega) (by omega)
        have hkp : k < p := by omega
        obtain ⟨q1, q2, q3, q4⟩ := ro_n6 (k := k) (by omega)
        have e3 : xf_31 A 36 (nI k) = B.2.1 181 k := by
          rw [x31 (by omega)]; exact (a2 k hkp).1.trans (s6 k hkp).1.symm
        obtain ⟨i1, i2, i3⟩ := ih (k + 1) n n2 (ro_sI A 35 10 (w + B.2.1 181 k)) (w + B.2.1 181 k) (by omega) (by omega) (by omega) (ro_eqv_s a1 rfl)
          (pu_at_c a2 (fun y _ => ⟨ro_sI_ne (by decide), ro_sI_ne (by decide)⟩)) (by rw [ro_rd_s, if_neg (by omega)]; exact a3) (by rw [ro_rd_s, if_pos ⟨rfl, rfl⟩])
        rw [xg_141_89, xq_141_89, xg_273_190, xq_273_190, ep, if_neg c0, if_neg c0, a4, e3, q3, nI_1]
        exact ⟨⟨fun q => absurd q c0, fun _ => i1⟩, ⟨fun q => absurd q c0, fun _ => ⟨q4, i2⟩⟩, i3⟩
/-- evenings -/
theorem dr_all {M : ro_Mm} (h : ro_Inv M) {od : Nat → Nat → Int32 → Int32 → Int32} (hod : od_is M od) {p : Nat} (hp : p ≤ 6) (e2 : M.2.1 163 1 = nI p) {l m : Nat} (hl : l ≤ 30) (hm : m ≤ 30) {u2 : Int32} (el : u2 / 100 = nI l) (em : ro_irem u2 100 = nI m) {v1 u1 u3 : Int32} : ∀ (d k n n2 : Nat) (A B : ro_Mm) (r w z : Int32), k + d = l → d < n → d < n2 → ro_eqv M A → ro_eqv M B → A.2.1 35 7 = r → A.2.1 35 10 = w →
    xq_141_25 n A (nI k) (nI p) z v1 (nI l) (nI m) ∧ xq_273_53 n2 B (nI k) r w z u1 u2 u3 ∧ ro_eqv M (xg_141_25 n A (nI k) (nI p) z v1 (nI l) (nI m)).2.2 ∧ ro_eqv M (xg_273_53 n2 B (nI k) r w z u1 u2 u3).2.2.2.2 ∧
    (xg_141_25 n A (nI k) (nI p) z v1 (nI l) (nI m)).2.2.2.1 35 7 = (xg_273_53 n2 B (nI k) r w z u1 u2 u3).2.1 ∧ (xg_141_25 n A (nI k) (nI p) z v1 (nI l) (nI m)).2.2.2.1 35 10 = (xg_273_53 n2 B (nI k) r w z u1 u2 u3).2.2.1 := by
  intro d
  induction d with
  | zero =>
    intro k n n2 A B r w z hk hn hn2 a1 b1 a3 a4
    cases n with
    | zero => omega
    | succ n =>
      cases n2 with
      | zero => omega
      | succ n2 =>
        have c0 : nI l ≤ nI k := nI_le (by omega) (by omega)
        rw [xg_141_25, xq_141_25, xg_273_53, xq_273_53, el, if_pos c0, if_pos c0]
        exact ⟨⟨fun _ => trivial, fun q => absurd c0 q⟩, ⟨fun _ => trivial, fun q => absurd c0 q⟩, a1, b1, a3, a4⟩
  | succ d ih =>
    intro k n n2 A B r w z hk hn hn2 a1 b1 a3 a4
    cases n with
    | zero => omega
    | succ n =>
      cases n2 with
      | zero => omega
      | succ n2 =>
        have c0 : ¬ nI l ≤ nI k := nI_ge (by omega) (by omega)
        have ep : B.2.1 163 1 = nI p := (b1.2.1 163 1 rfl).trans e2
        by_cases hp0 : 0 < p
        · have c1 : ¬ nI p ≤ 0 := nI_nle hp0 (by omega)
          obtain ⟨c2, c3, c4⟩ := pu_68 (M := M) a1 (c := 36) (p := p) (by unfold ro_ip; decide) (by decide) hp
          obtain ⟨d2, d3, d4⟩ := pu_228 h b1 hp e2
          have S1 : dr_S M p (xm_68 A 36 6 (nI p)) (xm_228 B) r w := ⟨pu_fr_e (Or.inl rfl) a1 c4, pu_fr_e (Or.inr (Or.inr (Or.inr rfl))) b1 d4, ⟨_, c3, d3⟩, by rw [c4.2.2 35 7 (by decide) (by decide)]; exact a3, by rw [c4.2.2 35 10 (by decide) (by decide)]; exact a4⟩
          obtain ⟨x1, x2, x3, x4⟩ := dr_one h hod hp hp0 e2 hm em (v6 := nI k) (v1 := v1) (v2 := nI l) (u7 := nI k) (u5 := w) (u1 := u1) (u3 := u3) m 0 lp_N lp_N _ _ r w z (by omega) (lp_hug (by omega)) (lp_hug (by omega)) S1
          obtain ⟨t1, t2, ⟨S, t5, t6⟩, t7, t8⟩ := x4
          obtain ⟨y1, y2, y3⟩ := dr_sum hp e2 t2 t6 (v6 := nI k) (v4 := (xg_273_76 lp_N (xm_228 B) 0 (nI k) r w z u1 u2 u3).2.2.1) (v1 := v1) (v2 := nI l) (v3 := nI m) (u7 := nI k) (u6 := (xg_273_76 lp_N (xm_228 B) 0 (nI k) r w z u1 u2 u3).2.1) (u4 := (xg_273_76 lp_N (xm_228 B) 0 (nI k) r w z u1 u2 u3).2.2.1) (u1 := u1) (u2 := u2) (u3 := u3) p 0 lp_N lp_N _ w (by omega) (lp_hug (by omega)) (lp_hug (by omega)) t1 t5 t7 t8
          obtain ⟨z1, z2, z3, z4, z5⟩ := y3
          obtain ⟨i1, i2, i3, i4, i5, i6⟩ := ih (k + 1) n n2 _ _ _ _ (xg_273_76 lp_N (xm_228 B) 0 (nI k) r w z u1 u2 u3).2.2.1 (by omega) (by omega) (by omega) z1 z2 z4 z5
          have x3 : (xg_141_55 lp_N (xm_68 A 36 6 (nI p)) 0 (nI k) (nI p) z v1 (nI l) (nI m)).2.1 = (xg_273_76 lp_N (xm_228 B) 0 (nI k) r w z u1 u2 u3).2.2.1 := x3
          rw [xg_141_25, xq_141_25, xg_273_53, xq_273_53, el, ep, if_neg c0, if_neg c0, if_neg c1, if_neg c1, x3, nI_1]
          exact ⟨⟨fun q => absurd q c0, fun _ => ⟨fun q => absurd q c1, fun _ => ⟨c2, x1, y1, i1⟩⟩⟩, ⟨fun q => absurd q c0, fun _ => ⟨fun q => absurd q c1, fun _ => ⟨d2, x2, y2, i2⟩⟩⟩, i3, i4, i5, i6⟩
        · have c1 : nI p ≤ 0 := nI_le (b := 0) (by omega) (by omega)
          rw [xg_141_25, xq_141_25, xg_273_53, xq_273_53, el, ep, if_neg c0, if_neg c0, if_pos c1, if_pos c1]
          exact ⟨⟨fun q => absurd q c0, fun _ => ⟨fun _ => trivial, fun q => absurd c1 q⟩⟩, ⟨fun q => absurd q c0, fun _ => ⟨fun _ => trivial, fun q => absurd c1 q⟩⟩, a1, b1, a3, a4⟩
theorem ro_30 {v : Int32} (h : 1 ≤ v ∧ v ≤ 30) : ∃ n, n ≤ 30 ∧ v = nI n := by
  obtain ⟨j, hj, e⟩ := nI_of2 (x := v) (M := 30) (n := 30) (by decide) (by grind) h.2
  exact ⟨j, hj, e⟩
theorem all_21 {M : ro_Mm} (h : ro_Inv M) {v1 v2 v3 : Int32} : xp_140 M v1 v2 v3 ∧ xp_273 (xm_140 M v1 v2 v3) v1 v2 v3 ∧ xf_273 (xm_140 M v1 v2 v3) v1 v2 v3 = xf_140 M v1 v2 v3 ∧ ro_eqv M (xm_273 (xm_140 M v1 v2 v3) v1 v2 v3) := by
  obtain ⟨p, hp, e1, e2⟩ := ro_ppl h
  obtain ⟨od, hod⟩ := od_ex h
  have NO : ∀ (g : xp_140 M v1 v2 v3) (g2 : xm_140 M v1 v2 v3 = M) (g3 : xp_273 M v1 v2 v3) (g4 : xf_273 M v1 v2 v3 = xf_140 M v1 v2 v3) (g5 : xm_273 M v1 v2 v3 = M), xp_140 M v1 v2 v3 ∧ xp_273 (xm_140 M v1 v2 v3) v1 v2 v3 ∧ xf_273 (xm_140 M v1 v2 v3) v1 v2 v3 = xf_140 M v1 v2 v3 ∧ ro_eqv M (xm_273 (xm_140 M v1 v2 v3) v1 v2 v3) := by
    intro g g2 g3 g4 g5
    rw [g2, g5]
    exact ⟨g, g3, g4, ro_eqv_r h.1⟩
  by_cases a : v2 < 0
  · refine NO ?_ ?_ ?_ ?_ ?_
    · exact ⟨fun _ => trivial, fun q => absurd a q⟩
    · unfold xm_140; rw [if_pos a]
    · exact ⟨fun _ => trivial, fun q => absurd a q⟩
    · unfold xf_273 xf_140; rw [if_pos a, if_pos a]
    · unfold xm_273; rw [if_pos a]
  · by_cases b : xf_13 M (v2 / 100) 1 30 = true
    · have b2 : ∀ A : ro_Mm, xf_195 A (v2 / 100) 1 30 = true := fun A => by rw [ro_w195]; exact ro_w13.mp b
      by_cases c : xf_13 M (ro_irem v2 100) 1 30 = true
      · have c2 : ∀ A : ro_Mm, xf_195 A (ro_irem v2 100) 1 30 = true := fun A => by rw [ro_w195]; exact ro_w13.mp c
        by_cases d : xf_13 M v3 0 1 = true
        · have d2 : ∀ A : ro_Mm, xf_195 A v3 0 1 = true := fun A => by rw [ro_w195]; exact ro_w13.mp d
          obtain ⟨l, hl, el⟩ := ro_30 (ro_w13.mp b)
          obtain ⟨m, hm, em⟩ := ro_30 (ro_w13.mp c)
          have A0 : ro_eqv M (ro_sI (ro_sI M 35 7 0) 35 10 0) := ro_eqv_s (ro_eqv_s (ro_eqv_r h.1) rfl) rfl
          have e18 : xf_18 (ro_sI (ro_sI M 35 7 0) 35 10 0) = nI p := e1
          have A7 : (ro_sI (ro_sI M 35 7 0) 35 10 0).2.1 35 7 = 0 := by rw [ro_rd_s, if_neg (by omega), ro_rd_s, if_pos ⟨rfl, rfl⟩]
          have A10 : (ro_sI (ro_sI M 35 7 0) 35 10 0).2.1 35 10 = 0 := by rw [ro_rd_s, if_pos ⟨rfl, rfl⟩]
          have R := fun B (hB : ro_eqv M B) => dr_all h hod hp e2 hl hm el em (v1 := v1) (u1 := v1) (u3 := v3) l 0 lp_N lp_N (ro_sI (ro_sI M 35 7 0) 35 10 0) B 0 0 v1 (by omega) (lp_hug (by omega)) (lp_hug (by omega)) A0 hB A7 A10
          have m141 : xm_141 M v1 (v2 / 100) (ro_irem v2 100) = (xg_141_25 lp_N (ro_sI (ro_sI M 35 7 0) 35 10 0) (nI 0) (nI p) v1 v1 (nI l) (nI m)).2.2 := by
            unfold xm_141; rw [e18, el, em]; rfl
          have hm : xm_140 M v1 v2 v3 = (xg_141_25 lp_N (ro_sI (ro_sI M 35 7 0) 35 10 0) (nI 0) (nI p) v1 v1 (nI l) (nI m)).2.2 := by
            unfold xm_140; rw [if_neg a, if_pos b, if_pos c, if_pos d, m141]
          obtain ⟨r1, r2, r3, r4, r5, r6⟩ := R M (ro_eqv_r h.1)
          obtain ⟨q1, q2, q3, q4, q5, q6⟩ := R _ r3
          rw [hm]
          refine ⟨?_, ?_, ?_, ?_⟩
          · unfold xp_140 xp_141
            rw [e18, el, em]
            exact ⟨fun q => absurd q a, fun _ => ⟨fun _ => ⟨fun _ => ⟨fun _ => ⟨⟨r1, trivial⟩, trivial⟩, fun _ => trivial⟩, fun _ => trivial⟩, fun _ => trivial⟩⟩
          · exact ⟨fun q => absurd q a, fun _ => ⟨fun _ => ⟨fun _ => ⟨fun _ => ⟨q2, trivial⟩, fun _ => trivial⟩, fun _ => trivial⟩, fun _ => trivial⟩⟩
          · unfold xf_273 xf_140 xf_143 xf_80
            rw [if_neg a, if_neg a, if_pos b, if_pos (b2 _), if_pos c, if_pos (c2 _), if_pos d, if_pos (d2 _), m141, q5, q6]
            rfl
          · unfold xm_273
            rw [if_neg a, if_pos (b2 _), if_pos (c2 _), if_pos (d2 _)]
            exact q4
        · have d2 : ¬ xf_195 M v3 0 1 = true := by rw [← ro_w13_195]; exact d
          refine NO ?_ ?_ ?_ ?_ ?_
          · exact ⟨fun q => absurd q a, fun _ => ⟨fun _ => ⟨fun _ => ⟨fun q => absurd q d, fun _ => trivial⟩, fun _ => trivial⟩, fun _ => trivial⟩⟩
          · unfold xm_140; rw [if_neg a, if_pos b, if_pos c, if_neg d]
          · exact ⟨fun q => absurd q a, fun _ => ⟨fun _ => ⟨fun _ => ⟨fun q => absurd q d2, fun _ => trivial⟩, fun _ => trivial⟩, fun _ => trivial⟩⟩
          · unfold xf_273 xf_140; rw [if_neg a, if_neg a, if_pos (b2 _), if_pos (c2 _), if_neg d2, if_pos b, if_pos c, if_neg d]
          · unfold xm_273; rw [if_neg a, if_pos (b2 _), if_pos (c2 _), if_neg d2]
      · have c2 : ¬ xf_195 M (ro_irem v2 100) 1 30 = true := by rw [← ro_w13_195]; exact c
        refine NO ?_ ?_ ?_ ?_ ?_
        · exact ⟨fun q => absurd q a, fun _ => ⟨fun _ => ⟨fun q => absurd q c, fun _ => trivial⟩, fun _ => trivial⟩⟩
        · unfold xm_140; rw [if_neg a, if_pos b, if_neg c]
        · exact ⟨fun q => absurd q a, fun _ => ⟨fun _ => ⟨fun q => absurd q c2, fun _ => trivial⟩, fun _ => trivial⟩⟩
        · unfold xf_273 xf_140; rw [if_neg a, if_neg a, if_pos (b2 _), if_neg c2, if_pos b, if_neg c]
        · unfold xm_273; rw [if_neg a, if_pos (b2 _), if_neg c2]
    · have b2 : ¬ xf_195 M (v2 / 100) 1 30 = true := by rw [← ro_w13_195]; exact b
      refine NO ?_ ?_ ?_ ?_ ?_
      · exact ⟨fun q => absurd q a, fun _ => ⟨fun q => absurd q b, fun _ => trivial⟩⟩
      · unfold xm_140; rw [if_neg a, if_neg b]
      · exact ⟨fun q => absurd q a, fun _ => ⟨fun q => absurd q b2, fun _ => trivial⟩⟩
      · unfold xf_273 xf_140; rw [if_neg a, if_neg a, if_neg b2, if_neg b]
      · unfold xm_273; rw [if_neg a, if_neg b2]
end DRAWN

