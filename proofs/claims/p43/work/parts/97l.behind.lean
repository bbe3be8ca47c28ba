/-! the class's calls, on: behind; the way that was played is among them -/
section BEHIND
variable {X : ro_Sx} {L : List (List Int32 × List Int32)} {M : ro_Mm}
theorem ev_66k (hk : kv L M) {p s z len : Nat} {g : Nat → Nat} (hp : p ≤ 6) (e1 : M.2.1 5 4 = nI p) (hs : s < 6) (hz : z ≤ 60) (hb : sh_b M s z g) (hg : ∀ i, i < z → g i < 2 ^ 31) (hl : ev_l p g z len) :
    ev_fr (kg L M) (xm_66 (kg L M) (23 + 2 * s)) ∧ ro_eqv (kg L M) (xm_66 (kg L M) (23 + 2 * s)) ∧ (xm_66 (kg L M) (23 + 2 * s)).2.1 35 6 = nI len ∧ ev_rd (xm_66 (kg L M) (23 + 2 * s)) (fun k => nI (g k)) len := by
  have hI := (kg_inv hk).1
  have e0 : (kg L M).2.1 5 4 = nI p := (kg_c (by decide)).trans e1
  obtain ⟨b1, b2, b3⟩ := hb
  have hf : ∀ k, k < z → xf_25 (kg L M) (23 + 2 * s) (nI k) = nI (g k) := fun k hk2 => by
    unfold xf_25 xf_26
    rw [if_neg (nI_pos (by omega)), kg_c (by omega), b2, if_neg (nI_ge hk2 (by omega)), if_neg (show ¬ (60 : Int32) ≤ nI k from nI_ge (b := 60) (by omega) (by omega)), nI_clamp (by omega), kg_J (by omega), show 23 + 2 * s + 1 = 24 + 2 * s by omega]
    exact b3 k hk2
  have F0 : ev_fr (kg L M) (ro_sI (kg L M) 35 6 0) := ⟨rfl, rfl, fun a j _ _ _ n4 => by rw [ro_rd_s, if_neg n4]⟩
  have n35 : 23 + 2 * s ≠ 35 := by omega
  have hc : ro_is (23 + 2 * s) := by unfold ro_is; omega
  obtain ⟨i1, len2, i2, i3, i4, i5, i6, i7, i8, i9, i10⟩ := ev_66 hI hc (f := fun k => nI (g k)) hz 20 0 lp_N (ro_sI (kg L M) 35 6 0) (by omega) (lp_hug (by omega)) F0 (ev_fr_e (ro_eqv_r hI.1) F0)
    (by rw [ro_sI_ne n35, kg_c (by omega)]; exact b2)
    (fun y hy => by rw [← hf y hy]; unfold xf_25 xf_26; rw [ro_sI_ne n35]; rfl)
    (by rw [ro_rd_s, if_pos ⟨rfl, rfl⟩]; rfl) (fun y hy => absurd hy (Nat.not_lt_zero _)) (fun y hy => absurd hy (Nat.not_lt_zero _))
  have el : len2 = len := ev_l_u (p := p) (g := g) (z := z) ⟨i3, i4, fun k hk2 => (of_ev hp e0 (hg k (i9 k hk2).1)).mp (i9 k hk2).2, by
    rcases i10 with q | q | q
    · exact Or.inl q
    · exact Or.inr (Or.inl q)
    · exact Or.inr (Or.inr (fun w => q.2 ((of_ev hp e0 (hg _ q.1)).mpr w)))⟩ hl
  rw [el] at i7 i8
  exact ⟨i5, i6, i7, i8⟩
def be_wh (g : Nat → Nat) (l : Nat) : Bool := decide (g l % 2 = 0)
def be_a (g : Nat → Nat) (l : Nat) : Nat := g l / 20
def be_b (g : Nat → Nat) (l : Nat) : Nat := g l % 20 / 2
/-- the ways -/
noncomputable def be_R (M : ro_Mm) (p len z2 : Nat) (g h : Nat → Nat) : List (Nat × Nat) := wy_R (be_wh g) (be_a g) (be_b g) (wy_td p z2 (fun k => nI (h k))) len 0 (wy_S0 M p)
theorem kg_S0 {p : Nat} : wy_S0 (kg L M) p = wy_S0 M p := by
  unfold wy_S0
  refine Prod.ext (funext fun k => ?_) (funext fun k => ?_)
  · show (if k < p then (kg L M).2.1 7 k else 0) = if k < p then M.2.1 7 k else 0
    rw [kg_c (by decide)]
  · show (if k < p then (kg L M).2.1 8 k else 0) = if k < p then M.2.1 8 k else 0
    rw [kg_c (by decide)]
theorem ca_behind (hk : kv L M) {p z len z2 w : Nat} {g h : Nat → Nat} (hp : p ≤ 6) (e1 : M.2.1 5 4 = nI p) (hz : z ≤ 60) (hb : sh_b M 0 z g) (hg : ∀ i, i < z → g i < 2 ^ 31) (hl : ev_l p g z len) (hz2 : z2 ≤ 60) (hb2 : sh_b M 1 z2 h) (hh : ∀ i, i < z2 → h i < 2 ^ 31) (hw : w ≤ 3) :
    ro_cwp X 5 119 [.ref 4, .int 0, .int 1, .int (nI w)] M (fun r M2 => r = some (.int (wy_an (wy_ph (be_R M p len z2 g h) (1, 0, 0)) (nI w))) ∧ kq M M2) := by
  have hI := (kg_inv hk).1
  have e0 : (kg L M).2.1 5 4 = nI p := (kg_c (by decide)).trans e1
  have hlen : len ≤ 20 := hl.1
  obtain ⟨fA, hA, eA, rA⟩ := ev_66k hk hp e1 (s := 0) (by decide) hz hb hg hl
  have fA : ev_fr (kg L M) (xm_66 (kg L M) 23) := fA
  have hA : ro_eqv (kg L M) (xm_66 (kg L M) 23) := hA
  have eA : (xm_66 (kg L M) 23).2.1 35 6 = nI len := eA
  have rA : ev_rd (xm_66 (kg L M) 23) (fun k => nI (g k)) len := rA
  have low : ∀ x j, x ≠ 39 → x ≠ 40 → x ≠ 41 → x ≠ 35 → (xm_66 (kg L M) 23).2.1 x j = (kg L M).2.1 x j := fun x j n1 n2 n3 n4 => fA.2.2 x j n1 n2 n3 (fun q => n4 q.1)
  obtain ⟨c0, c, lvA⟩ := wy_lv_of (M := xm_66 (kg L M) 23) (ro_lev_c (kg_inv hk).2 (by rw [fA.2.1]))
  have gx : ∀ l, l < len → g l < 2 ^ 31 := fun l hl2 => hg l (Nat.lt_of_lt_of_le hl2 hl.2.1)
  have m120 := wy_120 (M := xm_66 (kg L M) 23) (wh := be_wh g) (a := be_a g) (b := be_b g) (K := len) (p := p) (z := z2) (ch := 25) (t := fun y => (nI (h y)).toInt) (td := wy_td p z2 (fun k => nI (h k))) (S := wy_S0 M p) lvA hlen eA
    (fun l hl2 => by
      obtain ⟨r1, r2, r3⟩ := rA l hl2
      obtain ⟨x1, x2, x3⟩ := of_x (gx l hl2)
      simp only [x1, x2, x3] at r1 r2 r3
      refine ⟨r1, r2, ?_⟩
      rw [r3]
      unfold be_wh
      rw [decide_eq_true_iff]
      exact nI_eq (b := 0) (by omega) (by decide))
    (fun l hl2 => ⟨Nat.lt_of_lt_of_le (hl.2.2.1 l hl2).1 hp, Nat.lt_of_lt_of_le (hl.2.2.1 l hl2).2.1 hp, (hl.2.2.1 l hl2).2.2⟩) hp hz2
    ((low 5 4 (by omega) (by omega) (by omega) (by omega)).trans e0)
    ((low 25 2 (by decide) (by decide) (by decide) (by decide)).trans ((kg_c (by decide)).trans hb2.2.1)) (by unfold ro_is; omega)
    (fun y hy => by
      have e : xf_25 (xm_66 (kg L M) 23) 25 (nI y) = nI (h y) := by
        unfold xf_25 xf_26
        rw [low 25 2 (by decide) (by decide) (by decide) (by decide), fA.2.1, if_neg (nI_pos (by omega)), kg_c (by decide), show M.2.1 25 2 = nI z2 from hb2.2.1, if_neg (nI_ge hy (by omega)), if_neg (show ¬ (60 : Int32) ≤ nI y from nI_ge (b := 60) (by omega) (by omega)), nI_clamp (by omega), kg_J (by decide)]
        exact hb2.2.2 y hy
      have e3 : iI (nI (h y)).toInt = nI (h y) := Int32.ofInt_toInt _
      show xf_25 (xm_66 (kg L M) 23) 25 (nI y) = iI (nI (h y)).toInt ∧ (iI (nI (h y)).toInt).toInt = (nI (h y)).toInt
      rw [e3]
      exact ⟨e, rfl⟩)
    (by rw [← kg_S0 (L := L)]; exact wy_S0_ok hI)
    (fun i hi => by
      rw [low 7 i (by omega) (by omega) (by omega) (by omega), low 8 i (by omega) (by omega) (by omega) (by omega), kg_c (by decide), kg_c (by decide)]
      exact ⟨(if_pos hi).symm, (if_pos hi).symm⟩)
    (fun i _ hi => ⟨if_neg hi, if_neg hi⟩)
    (fun S hS => wy_td_n hp hS)
  obtain ⟨n1, n2, n3⟩ := m120
  obtain ⟨s1, s2, s3⟩ := ro_sn (s := 0) (by decide)
  obtain ⟨u1, u2, u3⟩ := ro_sn (s := 1) (by decide)
  have s1 : ro_bs 0 = true := s1
  have s2 : ro_sc 0 = 23 := s2
  have u1 : ro_bs 1 = true := u1
  have u2 : ro_sc 1 = 25 := u2
  have y1 : xf_22 (kg L M) 23 = true := by
    unfold xf_22
    rw [kg_c (by decide), show M.2.1 23 1 = 0 from hb.1, if_pos rfl]
  have y2 : xf_22 (kg L M) 25 = true := by
    unfold xf_22
    rw [kg_c (by decide), show M.2.1 25 1 = 0 from hb2.1, if_pos rfl]
  have b3 : xf_13 (kg L M) (nI w) 0 3 = true := ro_w13.mpr (nI_rng (m := 3) hw (by decide))
  have hcnt : (wy_ph (be_R M p len z2 g h) (1, 0, 0)).1 < 2 ^ 31 := by
    have q := wy_ph_n (1, 0, 0) (be_R M p len z2 g h)
    have q2 : (be_R M p len z2 g h).length ≤ 2 ^ len := wy_R_len _ _ _ _ _ _ _
    have q3 : 2 ^ len ≤ 2 ^ 20 := Nat.pow_le_pow_right (by decide) hlen
    have q4 : (2 : Nat) ^ 20 < 2 ^ 31 := by decide
    rw [Nat.mul_one] at q
    rw [q]
    omega
  have hm : xm_119 (kg L M) 0 1 (nI w) = xm_120 (xm_66 (kg L M) 23) 25 := by
    unfold xm_119
    rw [if_pos s1, if_pos u1, if_pos b3, s2, u2, if_pos y1, if_pos y2]
  have hf : xf_119 (kg L M) 0 1 (nI w) = wy_an (wy_ph (be_R M p len z2 g h) (1, 0, 0)) (nI w) := by
    unfold xf_119
    rw [if_pos s1, if_pos u1, if_pos b3, s2, u2, if_pos y1, if_pos y2]
    exact wy_cls n3 hcnt
  have xp := (all_20 (kg_inv hk) (v1 := 0) (v2 := 1) (v3 := nI w)).1
  have hL := xl_119 ⟨hI.1, (kg_inv hk).2⟩ xp
  rw [hm] at hL
  have eqC : ro_eqv (kg L M) (xm_120 (xm_66 (kg L M) 23) 25) := wy_eqv hA n2 hL.1
  refine ro_cwp_up (Nat.le_refl _) ?_ (kc_call hk.1 rfl (xs_119 (X := X) ⟨hI.1, (kg_inv hk).2⟩ xp))
  rintro r M2 ⟨G, ⟨g1, g2⟩, hR⟩
  rw [hm] at g2
  rw [g2] at hR
  rw [hf] at g1
  exact ⟨g1, kq_of eqC hL.2 hR⟩
/-- ones in a number of d bits -/
def pc : Nat → Nat → Nat
  | 0, _ => 0
  | d + 1, m => m % 2 + pc d (m / 2)
theorem pc_0 : ∀ d, pc d 0 = 0
  | 0 => rfl
  | d + 1 => by rw [pc, Nat.zero_mod, Nat.zero_div, pc_0 d]
theorem pc_e : ∀ (d m : Nat), m < 2 ^ d → pc (d + 1) m = pc d m
  | 0, m, h => by
    have : m = 0 := by simpa using h
    rw [this]; rfl
  | d + 1, m, h => by
    rw [Nat.pow_succ] at h
    rw [pc, pc_e d (m / 2) (by omega)]
    rfl
theorem pc_u : ∀ (k d m : Nat), m < 2 ^ d → pc (d + k) m = pc d m
  | 0, d, m, _ => rfl
  | k + 1, d, m, h => by
    have h2 : m < 2 ^ (d + k) := Nat.lt_of_lt_of_le h (Nat.pow_le_pow_right (by decide) (by omega))
    rw [← Nat.add_assoc, pc_e (d + k) m h2, pc_u k d m h]
/-- an element of the list: how many, which -/
theorem be_el {wh : Nat → Bool} {a b : Nat → Nat} {td : pu_T → Bool} : ∀ (d l : Nat) (S : pu_T) (e : Nat × Nat), e ∈ wy_R wh a b td d l S → ∃ m, m < 2 ^ d ∧ e.2 = 2 ^ l * m ∧ e.1 = pc d m * 1048576 + 2 ^ l * m
  | 0, l, S, e, h => by
    unfold wy_R at h
    split at h
    · have e0 : e = (0, 0) := List.mem_singleton.mp h
      subst e0
      exact ⟨0, by decide, rfl, by rw [pc]; simp⟩
    · cases h
  | d + 1, l, S, e, h => by
    have ih := be_el (wh := wh) (a := a) (b := b) (td := td) d (l + 1)
    have up : ∀ Q, e ∈ wy_R wh a b td d (l + 1) Q → ∃ m, m < 2 ^ (d + 1) ∧ e.2 = 2 ^ l * m ∧ e.1 = pc (d + 1) m * 1048576 + 2 ^ l * m := by
      intro Q hQ
      obtain ⟨m, h1, h2, h3⟩ := ih Q e hQ
      have e2 : 2 ^ (l + 1) * m = 2 ^ l * (2 * m) := by rw [Nat.pow_succ, Nat.mul_assoc]
      refine ⟨2 * m, by rw [Nat.pow_succ]; omega, by rw [h2, e2], ?_⟩
      rw [h3, e2, pc, show 2 * m % 2 = 0 by omega, show 2 * m / 2 = m by omega, Nat.zero_add]
    unfold wy_R at h
    split at h
    · split at h
      · rcases List.mem_append.mp h with h | h
        · exact up _ h
        · obtain ⟨y, hy, ey⟩ := List.mem_map.mp h
          obtain ⟨m, h1, h2, h3⟩ := ih _ y hy
          have lt : 2 ^ l < 2 ^ (l + 1) := Nat.pow_lt_pow_right (by decide) (by omega)
          have o : y.2 ||| 2 ^ l = y.2 + 2 ^ l := by
            rw [h2]
            exact (Nat.two_pow_add_eq_or_of_lt lt m).symm
          have e2 : 2 ^ (l + 1) * m + 2 ^ l = 2 ^ l * (2 * m + 1) := by rw [Nat.pow_succ, Nat.mul_assoc, Nat.mul_add, Nat.mul_one]
          refine ⟨2 * m + 1, by rw [Nat.pow_succ]; omega, ?_, ?_⟩
          · rw [← ey]
            show y.2 ||| 2 ^ l = _
            rw [o, h2, e2]
          · rw [← ey]
            show y.1 + (1048576 + 2 ^ l) = _
            rw [h3, pc, show (2 * m + 1) % 2 = 1 by omega, show (2 * m + 1) / 2 = m by omega, ← e2]
            omega
      · cases h
    · split at h
      · exact up _ h
      · cases h
/-- what the list comes to, against one of it -/
theorem be_1 : ∀ (Q : List (Nat × Nat)), (∀ e, e ∈ Q → wy_eo e) → ∀ e, e ∈ Q → 1 ≤ (wy_ph Q (1, 0, 0)).1 ∧ (wy_ph Q (1, 0, 0)).2.1 ≤ e.1 ∧ (wy_ph Q (1, 0, 0)).2.2 &&& e.2 = (wy_ph Q (1, 0, 0)).2.2
  | [], _, e, h => absurd h List.not_mem_nil
  | s :: Q, ho, e, h => by
    have hs := wy_e1_o (ho s List.mem_cons_self)
    have e0 : wy_ph (s :: Q) (1, 0, 0) = wy_mo (1, s.1, s.2) (wy_ph Q (1, 0, 0)) := by rw [← hs]; rfl
    rw [e0]
    rcases List.mem_cons.mp h with h | h
    · rw [h]
      refine ⟨Nat.le_add_right _ _, Nat.min_le_left _ _, ?_⟩
      show (s.2 &&& (wy_ph Q (1, 0, 0)).2.2) &&& s.2 = s.2 &&& (wy_ph Q (1, 0, 0)).2.2
      rw [Nat.and_comm, ← Nat.and_assoc, Nat.and_self]
    · obtain ⟨i1, i2, i3⟩ := be_1 Q (fun e he => ho e (List.mem_cons_of_mem _ he)) e h
      refine ⟨Nat.le_add_right _ _, Nat.le_trans (Nat.min_le_right _ _) i2, ?_⟩
      show (s.2 &&& (wy_ph Q (1, 0, 0)).2.2) &&& e.2 = s.2 &&& (wy_ph Q (1, 0, 0)).2.2
      rw [Nat.and_assoc, i3]
theorem be_2 : ∀ (Q : List (Nat × Nat)), (∀ e, e ∈ Q → wy_eo e) → Q ≠ [] → ∃ e, e ∈ Q ∧ (wy_ph Q (1, 0, 0)).2.1 = e.1
  | [], _, h => absurd rfl h
  | s :: Q, ho, _ => by
    have hs := wy_e1_o (ho s List.mem_cons_self)
    have e0 : (wy_ph (s :: Q) (1, 0, 0)).2.1 = min s.1 (wy_ph Q (1, 0, 0)).2.1 := by
      show (wy_mo (wy_e1 (1, 0, 0) s) (wy_ph Q (1, 0, 0))).2.1 = _
      rw [hs]; rfl
    rw [e0]
    by_cases q : Q = []
    · refine ⟨s, List.mem_cons_self, ?_⟩
      rw [q]
      obtain ⟨c, h1, h2, h3⟩ := ho s List.mem_cons_self
      show min s.1 1099511627776 = s.1
      omega
    · obtain ⟨e, he, ee⟩ := be_2 Q (fun e he => ho e (List.mem_cons_of_mem _ he)) q
      by_cases z : s.1 ≤ (wy_ph Q (1, 0, 0)).2.1
      · exact ⟨s, List.mem_cons_self, Nat.min_eq_left z⟩
      · exact ⟨e, List.mem_cons_of_mem _ he, by rw [Nat.min_eq_right (by omega)]; exact ee⟩
/-- refused at place k -/
def rf_at (od : Nat → Nat → Int32 → Int32 → Int32) (hb : Int32) (x : Nat) (T : ep_T) : Bool := decide (x % 2 = 0) && !(decide (od (x / 20) (x % 20 / 2) (T.1.1 (x % 20 / 2)) (T.1.2 (x % 20 / 2)) < hb))
/-- may be offered -/
def may (x : Nat) (T : ep_T) : Bool := if x % 2 = 0 then pu_mw T.1 (x / 20) (x % 20 / 2) else pu_mc T.1 (x / 20) (x % 20 / 2)
theorem ep_s_y {od : Nat → Nat → Int32 → Int32 → Int32} {hb : Int32} {x k : Nat} {T : ep_T} (h : may x T = true) : ep_s od hb x k T = if x % 2 = 0 then (if rf_at od hb x T = true then ep_rf (x / 20) (x % 20 / 2) T else (pu_gw T.1 (x / 20) (x % 20 / 2), T.2)) else (pu_gc T.1 (x / 20) (x % 20 / 2), T.2) := by
  unfold may at h
  unfold ep_s rf_at
  by_cases e : x % 2 = 0
  · rw [if_pos e] at h
    rw [if_pos e, if_pos e, if_pos h, decide_eq_true e, Bool.true_and]
    by_cases c : od (x / 20) (x % 20 / 2) (T.1.1 (x % 20 / 2)) (T.1.2 (x % 20 / 2)) < hb
    · rw [if_pos c, decide_eq_true c, if_neg (by decide)]
    · rw [if_neg c, decide_eq_false c, if_pos (by decide)]
  · rw [if_neg e] at h
    rw [if_neg e, if_neg e, if_pos h]
/-- which were refused of the first k, how many -/
def eb (od : Nat → Nat → Int32 → Int32 → Int32) (hb : Int32) (g : Nat → Nat) (T : ep_T) : Nat → Nat
  | 0 => 0
  | k + 1 => if rf_at od hb (g k) (ep od hb g T k) = true then eb od hb g T k + 2 ^ k else eb od hb g T k
def en (od : Nat → Nat → Int32 → Int32 → Int32) (hb : Int32) (g : Nat → Nat) (T : ep_T) : Nat → Nat
  | 0 => 0
  | k + 1 => if rf_at od hb (g k) (ep od hb g T k) = true then en od hb g T k + 1 else en od hb g T k
theorem eb_lt {od : Nat → Nat → Int32 → Int32 → Int32} {hb : Int32} {g : Nat → Nat} {T : ep_T} : ∀ k, eb od hb g T k < 2 ^ k ∧ en od hb g T k ≤ k
  | 0 => ⟨Nat.lt_of_lt_of_le Nat.zero_lt_one (Nat.le_refl _), Nat.le_refl _⟩
  | k + 1 => by
    obtain ⟨h1, h2⟩ := eb_lt (od := od) (hb := hb) (g := g) (T := T) k
    rw [eb, en, Nat.pow_succ]
    split <;> omega
theorem ep_n {od : Nat → Nat → Int32 → Int32 → Int32} {hb : Int32} {g : Nat → Nat} {T : ep_T} (h0 : T.2.1 = 0) : ∀ k, (∀ l, l < k → may (g l) (ep od hb g T l) = true) → (ep od hb g T k).2.1 = nI (en od hb g T k)
  | 0, _ => h0
  | k + 1, h => by
    have ih := ep_n (od := od) (hb := hb) (g := g) h0 k (fun l hl => h l (by omega))
    rw [ep, ep_s_y (h k (by omega)), en]
    by_cases e : g k % 2 = 0
    · rw [if_pos e]
      by_cases r : rf_at od hb (g k) (ep od hb g T k) = true
      · rw [if_pos r, if_pos r, ← nI_1, ← ih]; rfl
      · rw [if_neg r, if_neg r]; exact ih
    · have r : ¬ rf_at od hb (g k) (ep od hb g T k) = true := by unfold rf_at; rw [decide_eq_false e, Bool.false_and]; decide
      rw [if_neg e, if_neg r]; exact ih
/-- the way that was played, among the ways -/
theorem be_in {od : Nat → Nat → Int32 → Int32 → Int32} {hb : Int32} {g : Nat → Nat} {T : ep_T} {td : pu_T → Bool} {len : Nat} (hm : ∀ l, l < len → may (g l) (ep od hb g T l) = true) : ∀ k, k ≤ len → ∀ e, e ∈ wy_R (be_wh g) (be_a g) (be_b g) td (len - k) k (ep od hb g T k).1 → (e.1 + (en od hb g T k * 1048576 + eb od hb g T k), e.2 + eb od hb g T k) ∈ wy_R (be_wh g) (be_a g) (be_b g) td len 0 T.1
  | 0, _, e, h => by
    show (e.1 + (0 * 1048576 + 0), e.2 + 0) ∈ _
    rw [Nat.zero_mul]
    exact h
  | k + 1, hk, e, h => by
    have ih := be_in (od := od) (hb := hb) (T := T) (td := td) hm k (by omega)
    have hy := hm k (by omega)
    have es : ep od hb g T (k + 1) = ep_s od hb (g k) k (ep od hb g T k) := rfl
    rw [es, ep_s_y hy] at h
    have ed : len - k = (len - (k + 1)) + 1 := by omega
    rw [ed] at ih
    unfold may at hy
    rw [eb, en]
    by_cases e0 : g k % 2 = 0
    · rw [if_pos e0] at h hy
      have hw : be_wh g k = true := decide_eq_true e0
      by_cases r : rf_at od hb (g k) (ep od hb g T k) = true
      · rw [if_pos r] at h
        rw [if_pos r, if_pos r]
        have h2 := ih (wy_no k e) (by
          unfold wy_R
          rw [if_pos hw]
          show wy_no k e ∈ if pu_mw (ep od hb g T k).1 (g k / 20) (g k % 20 / 2) = true then _ else _
          rw [if_pos hy]
          exact List.mem_append.mpr (Or.inr (List.mem_map.mpr ⟨e, h, rfl⟩)))
        obtain ⟨m, m1, m2, m3⟩ := be_el _ _ _ _ h
        have lt : 2 ^ k < 2 ^ (k + 1) := Nat.pow_lt_pow_right (by decide) (by omega)
        have o : e.2 ||| 2 ^ k = e.2 + 2 ^ k := by
          rw [m2]
          exact (Nat.two_pow_add_eq_or_of_lt lt m).symm
        have q : (e.1 + ((en od hb g T k + 1) * 1048576 + (eb od hb g T k + 2 ^ k)), e.2 + (eb od hb g T k + 2 ^ k)) = ((wy_no k e).1 + (en od hb g T k * 1048576 + eb od hb g T k), (wy_no k e).2 + eb od hb g T k) := by
          refine Prod.ext ?_ ?_
          · show e.1 + ((en od hb g T k + 1) * 1048576 + (eb od hb g T k + 2 ^ k)) = e.1 + (1048576 + 2 ^ k) + (en od hb g T k * 1048576 + eb od hb g T k)
            omega
          · show e.2 + (eb od hb g T k + 2 ^ k) = (e.2 ||| 2 ^ k) + eb od hb g T k
            rw [o]; omega
        rw [q]
        exact h2
      · rw [if_neg r] at h
        rw [if_neg r, if_neg r]
        refine ih e ?_
        unfold wy_R
        rw [if_pos hw]
        show e ∈ if pu_mw (ep od hb g T k).1 (g k / 20) (g k % 20 / 2) = true then _ else _
        rw [if_pos hy]
        exact List.mem_append.mpr (Or.inl h)
    · rw [if_neg e0] at h hy
      have hw : ¬ be_wh g k = true := by unfold be_wh; rw [decide_eq_false e0]; decide
      have r : ¬ rf_at od hb (g k) (ep od hb g T k) = true := by unfold rf_at; rw [decide_eq_false e0, Bool.false_and]; decide
      rw [if_neg r, if_neg r]
      refine ih e ?_
      unfold wy_R
      rw [if_neg hw]
      show e ∈ if pu_mc (ep od hb g T k).1 (g k / 20) (g k % 20 / 2) = true then _ else _
      rw [if_pos hy]
      exact h
/-- what behind tells of an evening by habit whose purses are told -/
theorem be_all {od : Nat → Nat → Int32 → Int32 → Int32} {hb : Int32} {g : Nat → Nat} {T : ep_T} {td : pu_T → Bool} {len : Nat} (h10 : len ≤ 10) (hm : ∀ l, l < len → may (g l) (ep od hb g T l) = true) (ht : td (ep od hb g T len).1 = true) :
    ∃ n c b x, wy_ph (wy_R (be_wh g) (be_a g) (be_b g) td len 0 T.1) (1, 0, 0) = (n, c * 1048576 + b, x) ∧ 1 ≤ n ∧ n < 2 ^ 31 ∧ c ≤ en od hb g T len ∧ b < 1024 ∧ c = pc 10 b ∧ x &&& b = x ∧ x &&& eb od hb g T len = x := by
  have hin := be_in (od := od) (hb := hb) (T := T) (td := td) hm len (Nat.le_refl _) (0, 0) (by
    rw [Nat.sub_self]
    unfold wy_R
    rw [if_pos ht]
    exact List.mem_cons_self)
  rw [show ((0, 0) : Nat × Nat).1 = 0 from rfl, show ((0, 0) : Nat × Nat).2 = 0 from rfl, Nat.zero_add, Nat.zero_add] at hin
  have hlen := wy_R_len (be_wh g) (be_a g) (be_b g) td len 0 T.1
  have hno : ∀ e, e ∈ wy_R (be_wh g) (be_a g) (be_b g) td len 0 T.1 → ∃ m, m < 2 ^ len ∧ e.2 = m ∧ e.1 = pc len m * 1048576 + m := fun e he => by
    obtain ⟨m, m1, m2, m3⟩ := be_el _ _ _ _ he
    rw [Nat.pow_zero, Nat.one_mul] at m2 m3
    exact ⟨m, m1, m2, m3⟩
  have hel : ∀ e, e ∈ wy_R (be_wh g) (be_a g) (be_b g) td len 0 T.1 → wy_eo e := fun e he => by
    obtain ⟨c, m, q1, q2, q3, q4⟩ := wy_R_el len 0 _ e he
    rw [Nat.zero_add] at q2
    exact ⟨c, by omega, Nat.lt_of_lt_of_le q2 (Nat.pow_le_pow_right (show 0 < 2 by decide) (show len ≤ 20 by omega)), q3⟩
  have hp2 : 2 ^ len ≤ 2 ^ 10 := Nat.pow_le_pow_right (by decide) h10
  have hn := wy_ph_n (1, 0, 0) (wy_R (be_wh g) (be_a g) (be_b g) td len 0 T.1)
  generalize wy_R (be_wh g) (be_a g) (be_b g) td len 0 T.1 = Q at hin hlen hno hel hn
  obtain ⟨a1, a2, a3⟩ := be_1 Q hel _ hin
  obtain ⟨e, he, ee⟩ := be_2 Q hel (fun q => by rw [q] at hin; exact absurd hin List.not_mem_nil)
  obtain ⟨m, m1, m2, m3⟩ := hno e he
  obtain ⟨b1, b2, b3⟩ := be_1 Q hel e he
  obtain ⟨l1, l2⟩ := eb_lt (od := od) (hb := hb) (g := g) (T := T) len
  have hpc : pc len m = pc 10 m := by
    have := pc_u (10 - len) len m m1
    rw [← this]; congr 1; omega
  have a2 : (wy_ph Q (1, 0, 0)).2.1 ≤ en od hb g T len * 1048576 + eb od hb g T len := a2
  have hn : (wy_ph Q (1, 0, 0)).1 = Q.length * 1 := hn
  refine ⟨(wy_ph Q (1, 0, 0)).1, pc 10 m, m, (wy_ph Q (1, 0, 0)).2.2, ?_, a1, by omega, ?_, by omega, rfl, ?_, a3⟩
  · refine Prod.ext rfl (Prod.ext ?_ rfl)
    show (wy_ph Q (1, 0, 0)).2.1 = _
    rw [ee, m3, hpc]
  · rw [ee, m3, hpc] at a2
    omega
  · rw [← m2]; exact b3
theorem be_an {n c b x : Nat} (hn : 1 ≤ n) (hb : b < 1024) : wy_an (n, c * 1048576 + b, x) (nI 0) = nI n ∧ wy_an (n, c * 1048576 + b, x) (nI 1) = nI c ∧ wy_an (n, c * 1048576 + b, x) (nI 2) = nI b ∧ wy_an (n, c * 1048576 + b, x) (nI 3) = nI x := by
  have n0 : ¬ n = 0 := by omega
  have d1 : (c * 1048576 + b) / 1048576 = c := by omega
  have d2 : (c * 1048576 + b) % 1048576 = b := by omega
  unfold wy_an
  refine ⟨?_, ?_, ?_, ?_⟩
  · rw [if_pos (by decide)]; show (if n = 0 then 0 else nI n) = _; rw [if_neg n0]
  · rw [if_neg (by decide), if_neg (by decide)]; show (if n = 0 then -2 else if nI 1 = 1 then nI ((c * 1048576 + b) / 1048576) else _) = _; rw [if_neg n0, if_pos (by decide), d1]
  · rw [if_neg (by decide), if_neg (by decide)]; show (if n = 0 then -2 else if nI 2 = 1 then _ else nI ((c * 1048576 + b) % 1048576)) = _; rw [if_neg n0, if_neg (by decide), d2]
  · rw [if_neg (by decide), if_pos (by decide)]; show (if n = 0 then 0 else nI x) = _; rw [if_neg n0]
end BEHIND
