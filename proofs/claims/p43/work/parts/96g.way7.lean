/-! ways behind an evening: the table cleared, a level and the next, all levels; the key ahead of all -/
section WYG
theorem wy_130n {M : ro_Mm} {v1 v4 v5 : Int32} : xf_130 M v1 (-1) v4 v5 = -1 := by
  unfold xf_130
  rw [if_pos (by decide)]
theorem wy_135_g {M M2 : ro_Mm} (h : ∀ x j, x ≤ 150 → M2.2.1 x j = M.2.1 x j) {v1 : Int32} {k : Int64} {v y : Int32} : xf_135 M2 v1 k v y = xf_135 M v1 k v y := by
  by_cases c1 : v1 < 0
  · unfold xf_135 xf_130
    simp only [if_pos c1]
  · by_cases c2 : (20 : Int32) < v1
    · unfold xf_135 xf_130
      simp only [if_pos c2]
    · obtain ⟨l, hl, rfl⟩ := nI_of2 (M := (20 : Int32)) (n := 20) rfl c1 (Int32.not_lt.mp c2)
      exact wy_135_c h hl
theorem wy_ky_g {M M2 : ro_Mm} (h : ∀ x j, x ≤ 150 → M2.2.1 x j = M.2.1 x j) {a b : Nat → Nat} : wy_ky M2 a b = wy_ky M a b := by
  funext l k
  unfold wy_ky
  rw [wy_135_g h, wy_135_g h, wy_135_g h]
theorem wy_kn_g {M M2 : ro_Mm} (h : ∀ x j, x ≤ 150 → M2.2.1 x j = M.2.1 x j) {a b : Nat → Nat} : wy_kn M2 a b = wy_kn M a b := by
  funext l k
  unfold wy_kn
  rw [wy_135_g h, wy_135_g h, wy_135_g h]
theorem wy_kc_g {M M2 : ro_Mm} (h : ∀ x j, x ≤ 150 → M2.2.1 x j = M.2.1 x j) {a b : Nat → Nat} : wy_kc M2 a b = wy_kc M a b := by
  funext l k
  unfold wy_kc
  rw [wy_135_g h, wy_135_g h]
theorem wy_ww_c {M M2 : ro_Mm} (h : ∀ x j, x ≤ 150 → M2.2.1 x j = M.2.1 x j) {l : Nat} (hl : l ≤ 20) {W : Nat → wy_W} (g : wy_ww M l W) : wy_ww M2 l W := fun n hn => by
  rw [h (64 + l) n (by omega), h (86 + l) n (by omega), h (108 + l) n (by omega), h (130 + l) n (by omega)]
  exact g n hn
theorem wy_ev_c {M M2 : ro_Mm} (h : ∀ x j, x ≤ 150 → M2.2.1 x j = M.2.1 x j) {wh : Nat → Bool} {a b : Nat → Nat} {T : Nat → wy_W} {K : Nat} (g : wy_ev M wh a b T K) : wy_ev M2 wh a b T K :=
  ⟨g.1, g.2.1, fun l hl => wy_ww_c h (Nat.le_trans hl g.1) (g.2.2 l hl)⟩
theorem wy_rd_c {M M2 : ro_Mm} (h : ∀ x j, x ≤ 150 → M2.2.1 x j = M.2.1 x j) {wh : Nat → Bool} {a b : Nat → Nat} {K : Nat} (g : wy_rd M wh a b K) : wy_rd M2 wh a b K := fun y hy => by
  rw [h 39 y (by omega), h 40 y (by omega), h 41 y (by omega)]; exact g y hy
theorem wy_128 : ∀ (r i n : Nat) (M : ro_Mm), i + r = 1024 → r < n → (∀ j, j < i → M.2.1 151 j = 0) → xq_128_10 n M (nI i) ∧ (∀ j, j < 1024 → (xg_128_10 n M (nI i)).2.2.1 151 j = 0) ∧ (xg_128_10 n M (nI i)).2.1 = M.1 ∧ (xg_128_10 n M (nI i)).2.2.2 = M.2.2 ∧ ∀ x j, x ≠ 151 → (xg_128_10 n M (nI i)).2.2.1 x j = M.2.1 x j := by
  intro r
  induction r with
  | zero =>
    intro i n M hi hn h
    cases n with
    | zero => exact absurd hn (Nat.not_lt_zero _)
    | succ n =>
      have c0 : (1024 : Int32) ≤ nI i := nI_le (a := 1024) (by omega) (by omega)
      rw [xg_128_10, xq_128_10, if_pos c0]
      exact ⟨⟨fun _ => trivial, fun y => absurd c0 y⟩, fun j hj => h j (by omega), rfl, rfl, fun _ _ _ => rfl⟩
  | succ r ih =>
    intro i n M hi hn h
    cases n with
    | zero => exact absurd hn (Nat.not_lt_zero _)
    | succ n =>
      have c0 : ¬ (1024 : Int32) ≤ nI i := nI_ge (b := 1024) (by omega) (by decide)
      have ei : (nI i).toNatClampNeg = i := nI_clamp (by omega)
      obtain ⟨i1, i2, i3, i4, i5⟩ := ih (i + 1) n (ro_sI M 151 i 0) (by omega) (by omega) (fun j hj => by
        rw [ro_rd_s]
        by_cases z : j = i
        · rw [if_pos ⟨rfl, z⟩]
        · rw [if_neg (fun q => z q.2)]; exact h j (by omega))
      rw [xg_128_10, xq_128_10, if_neg c0, ei, ← nI_succ]
      refine ⟨⟨fun y => absurd y c0, fun _ => ⟨nI_in (by omega) (by decide), i1⟩⟩, i2, i3, i4, fun x j hx => ?_⟩
      rw [i5 x j hx, ro_sI_ne hx]
theorem wy_clr (M : ro_Mm) (h : lnt M ≠ 151) : xp_128 M ∧ (∀ j, j < 1024 → (xm_128 M).2.1 151 j = 0) ∧ (xm_128 M).1 = M.1 ∧ (xm_128 M).2.2 = M.2.2 ∧ (xm_128 M).2.1 (lnt M) 4 = 0 ∧ ∀ x j, x ≠ 151 → x ≠ lnt M → (xm_128 M).2.1 x j = M.2.1 x j := by
  obtain ⟨i1, i2, i3, i4, i5⟩ := wy_128 1024 0 lp_N (ro_sI M (lnt M) 4 0) (by omega) (lp_hug (by omega)) (fun j hj => absurd hj (Nat.not_lt_zero _))
  unfold xp_128 xm_128
  refine ⟨⟨i1, trivial⟩, i2, i3, i4, ?_, fun x j h1 h2 => ?_⟩
  · refine (i5 _ _ h).trans ?_
    rw [ro_rd_s, if_pos ⟨rfl, rfl⟩]
  · refine (i5 _ _ h1).trans ?_
    rw [ro_sI_ne h2]
def wy_f2 (Mb M : ro_Mm) : Prop := M.1 = Mb.1 ∧ (∀ x j, (x < 151 ∨ 162 < x) → M.2.1 x j = Mb.2.1 x j) ∧ ∀ x j, (x < 153 ∨ 162 < x) → M.2.2.1 x j = Mb.2.2.1 x j
theorem wy_f2_150 {Mb M : ro_Mm} (h : wy_f2 Mb M) : ∀ x j, x ≤ 150 → M.2.1 x j = Mb.2.1 x j := fun x j hx => h.2.1 x j (Or.inl (by omega))
theorem wy_f2_t {A B C : ro_Mm} (h : wy_f2 A B) (g : wy_f2 B C) : wy_f2 A C := ⟨g.1.trans h.1, fun x j q => (g.2.1 x j q).trans (h.2.1 x j q), fun x j q => (g.2.2 x j q).trans (h.2.2 x j q)⟩
theorem wy_f2_r (A : ro_Mm) : wy_f2 A A := ⟨rfl, fun _ _ _ => rfl, fun _ _ _ => rfl⟩
theorem wy_f2_f {c : Nat} {A B : ro_Mm} (h : wy_fr c A B) (hc : c = 153 ∨ c = 158) : wy_f2 A B := ⟨h.1, fun x j q => h.2.2.1 x j (by omega) (by omega) (by omega), fun x j q => h.2.2.2 x j (by omega)⟩
theorem wy_clr_f2 {M : ro_Mm} {c0 c : Nat} (h : wy_lv M c0 c) : wy_f2 M (xm_128 M) := by
  obtain ⟨h1, h2, h3⟩ := h
  obtain ⟨_, _, e1, e2, _, e4⟩ := wy_clr M (by rw [h2]; omega)
  rw [h2] at e4
  exact ⟨e1, fun x j q => e4 x j (by omega) (by omega), fun x j _ => by rw [e2]⟩
/-- a level between two offers -/
def wy_li (Mb : ro_Mm) (wh : Nat → Bool) (a b : Nat → Nat) (T : Nat → wy_W) (d l : Nat) (x : wy_T) (M : ro_Mm) : Prop := wy_f2 Mb M ∧ ∃ c0 c s F, wy_lv M c0 c ∧ wy_tb M c0 s (l * 2097152) F ∧ s ≤ 2 ^ l ∧ (∀ i, i < s → ∃ f, wy_kr (wy_w wh a b T d l) (M.2.2.1 (c0 + 1) i) f) ∧
  wy_pf (fun j => wy_ph (wy_G wh (wy_ky Mb a b) (wy_kn Mb a b) (wy_kc Mb a b) d l (M.2.2.1 (c0 + 1) j)) (F j)) s = x
theorem wy_trn {M : ro_Mm} {c0 c : Nat} (h : wy_lv M c0 c) : wy_lv (xm_133 M) c c0 := by
  refine ⟨?_, ?_, by have := h.2.2; omega⟩
  · unfold lft
    rw [xm133_8]
    exact h.2.1
  · unfold lnt
    rw [xm133_9]
    exact h.1
section LV
variable {Mb : ro_Mm} {wh : Nat → Bool} {a b : Nat → Nat} {T : Nat → wy_W} {K d l : Nat} {x : wy_T}
theorem wy_level (hE : wy_ev Mb wh a b T K) (hr : wy_rd Mb wh a b K) (hT : wy_tu T) (hl : l + (d + 1) = K) {M : ro_Mm} (h : wy_li Mb wh a b T (d + 1) l x M) {v2 : Int32} {c1 : Nat} :
    xp_128 M ∧ xq_120_83 lp_N (xm_128 M) 0 (nI l) v2 c1 ∧ wy_li Mb wh a b T d (l + 1) x (xm_133 (xg_120_83 lp_N (xm_128 M) 0 (nI l) v2 c1).2) := by
  have hK := hE.1
  obtain ⟨fb, c0, c, s, F, lv, tb, s2, hk, hp⟩ := h
  obtain ⟨lv1, lv2, lv3⟩ := lv
  have lv : wy_lv M c0 c := ⟨lv1, lv2, lv3⟩
  obtain ⟨e1, e2, e3, e4, e5, e6⟩ := wy_clr M (by rw [lv2]; omega)
  have ff := wy_clr_f2 lv
  rw [lv2] at e5 e6
  have fb1 := wy_f2_t fb ff
  have h150 := wy_f2_150 fb1
  have lvc : wy_lv (xm_128 M) c0 c := wy_lv_c lv (by rw [e4])
  refine ⟨e1, ?_⟩
  generalize hM1 : xm_128 M = M1 at *
  have hE1 : wy_ev M1 wh a b T K := wy_ev_c h150 hE
  have hr1 : wy_rd M1 wh a b K := wy_rd_c h150 hr
  have ky := wy_ky_g (a := a) (b := b) h150
  have kn := wy_kn_g (a := a) (b := b) h150
  have kc := wy_kc_g (a := a) (b := b) h150
  have eJ : M1.2.2.1 = M.2.2.1 := by rw [e4]
  obtain ⟨t1, t2, t3, t4⟩ := tb
  have tb1 : wy_tb M1 c0 s (l * 2097152) F := by
    refine ⟨?_, t2, fun j hj => ?_, ?_⟩
    · rw [e6 c0 4 (by omega) (by omega)]; exact t1
    · rw [e6 (c0 + 2) j (by omega) (by omega), e6 (c0 + 3) j (by omega) (by omega), e6 (c0 + 4) j (by omega) (by omega), eJ]; exact t3 j hj
    · rw [eJ]; exact t4
  have hk1 : ∀ i, i < s → ∃ f, wy_kr (wy_w wh a b T (d + 1) l) (M1.2.2.1 (c0 + 1) i) f := by rw [eJ]; exact hk
  have G0 : wy_gi M1 wh a b d l c0 c (l * 2097152) F (fun k => ∃ f, wy_kr (wy_w wh a b T d (l + 1)) k f) 0 M1 := by
    refine ⟨wy_fr_r c M1, 0, F, ⟨e5, by omega, fun j hj => absurd hj (Nat.not_lt_zero _), fun i j hi => absurd hi (Nat.not_lt_zero _)⟩, ⟨fun h hh => e2 h hh, fun j hj => absurd hj (Nat.not_lt_zero _)⟩, Nat.le_refl _, fun j hj => absurd hj (Nat.not_lt_zero _), rfl⟩
  have main := wy_83 (V := fun k => ∃ f, wy_kr (wy_w wh a b T d (l + 1)) k f) hE1 hr1 lvc tb1 (by omega) hl (fun hw i hi => by
      obtain ⟨f, hf⟩ := hk1 i hi
      have z1 := wy_sty hE1 hl hw hf
      have z2 := wy_stn hE1 hl hw hf
      refine ⟨fun n => ?_, fun n => ?_⟩
      · by_cases q : ∀ n, n < 12 → wy_in (wy_fw f (a l) (b l) 1 n) (wy_w wh a b T d (l + 1) n).1
        · exact ⟨_, z1.1 q⟩
        · rw [z1.2 q] at n; exact absurd wy_neg n
      · by_cases q : ∀ n, n < 12 → wy_in (wy_fw f (a l) (b l) 0 n) (wy_w wh a b T d (l + 1) n).1
        · exact ⟨_, z2.1 q⟩
        · rw [z2.2 q] at n; exact absurd wy_neg n) (fun hw i hi n => by
      obtain ⟨f, hf⟩ := hk1 i hi
      have z1 := wy_stc2 hE1 hl hw hf
      by_cases q : ∀ n, n < 12 → wy_in (wy_fc f (a l) (b l) n) (wy_w wh a b T d (l + 1) n).1
      · exact ⟨_, z1.1 q⟩
      · rw [z1.2 q] at n; exact absurd wy_neg n) (by
      by_cases q : l + 1 ≤ 13
      · right
        have p : 2 ^ l ≤ 2 ^ 12 := Nat.pow_le_pow_right (by decide) (by omega)
        have p2 : (2 : Nat) ^ 12 = 4096 := by decide
        omega
      · left
        intro s key hv hi
        exact wy_cap hE hT (d := d) (l := l + 1) (by omega) (by omega) hv hi) (v2 := v2) (c1 := c1) s 0 lp_N M1 (by omega) (lp_hug (by omega)) G0
  rw [nI_0] at main
  obtain ⟨m1, m2⟩ := main
  refine ⟨m1, ?_⟩
  generalize (xg_120_83 lp_N M1 0 (nI l) v2 c1).2 = M2 at m2
  obtain ⟨g1, s3, E, g2, g3, g4, g5, g6⟩ := m2
  have lv2' : wy_lv M2 c0 c := wy_lv_c lvc g1.2.1
  have b1 : (xm_133 M2).1 = M2.1 := rfl
  have b2 : (xm_133 M2).2.1 = M2.2.1 := rfl
  have b3 : (xm_133 M2).2.2.1 = M2.2.2.1 := rfl
  have f12 : wy_f2 M1 M2 := wy_f2_f g1 (by omega)
  refine ⟨wy_f2_t fb1 ⟨b1.trans f12.1, fun x j q => by rw [b2]; exact f12.2.1 x j q, fun x j q => by rw [b3]; exact f12.2.2 x j q⟩, c, c0, s3, E, wy_trn lv2', ?_, ?_, ?_, ?_⟩
  · unfold wy_tb at g2 ⊢
    rw [b2, b3, Nat.succ_mul]
    exact g2
  · rw [Nat.pow_succ]; omega
  · rw [b3]; exact g5
  · rw [b3, ← ky, ← kn, ← kc]
    refine g6.trans ?_
    rw [← hp, ky, kn, kc, eJ]
theorem wy_71 (hE : wy_ev Mb wh a b T K) (hr : wy_rd Mb wh a b K) (hT : wy_tu T) {c1 : Nat} : ∀ (d l n : Nat) (M : ro_Mm), l + d = K → d < n → wy_li Mb wh a b T d l x M → xq_120_71 n M (nI l) (nI K) c1 ∧ wy_li Mb wh a b T 0 K x (xg_120_71 n M (nI l) (nI K) c1).2 := by
  have hK := hE.1
  intro d
  induction d with
  | zero =>
    intro l n M hl hn h
    cases n with
    | zero => exact absurd hn (Nat.not_lt_zero _)
    | succ n =>
      have c0 : nI K ≤ nI l := nI_le (by omega) (by omega)
      rw [xg_120_71, xq_120_71, if_pos c0]
      have e : l = K := by omega
      rw [e] at h
      exact ⟨⟨fun _ => trivial, fun y => absurd c0 y⟩, h⟩
  | succ d ih =>
    intro l n M hl hn h
    cases n with
    | zero => exact absurd hn (Nat.not_lt_zero _)
    | succ n =>
      have c0 : ¬ nI K ≤ nI l := nI_ge (by omega) (by omega)
      obtain ⟨g1, g2, g3⟩ := wy_level hE hr hT hl h (v2 := nI K) (c1 := c1)
      obtain ⟨i1, i2⟩ := ih (l + 1) n _ (by omega) (by omega) g3
      rw [xg_120_71, xq_120_71, if_neg c0, ← nI_succ]
      exact ⟨⟨fun y => absurd y c0, fun _ => ⟨g1, g2, i1⟩⟩, i2⟩
/-- at the end one row is left, or none -/
theorem wy_end (hT : wy_tu T) {M : ro_Mm} (h : wy_li Mb wh a b T 0 K x M) (hK : K ≤ 20) : (x.1 = 0 ∧ M.2.1 (lft M) 4 = 0) ∨ (1 ≤ x.1 ∧ ¬ M.2.1 (lft M) 4 ≤ 0 ∧ M.2.1 (lft M + 2) 0 = nI x.1 ∧ M.2.1 (lft M + 3) 0 = nI x.2.1 ∧ M.2.1 (lft M + 4) 0 = nI x.2.2 ∧ x.2.1 < 2 ^ 31) := by
  obtain ⟨_, c0, c, s, F, ⟨lv, _⟩, ⟨t1, t2, t3, t4⟩, _, hk, hp⟩ := h
  rw [lv]
  have all : ∀ i, i < s → M.2.2.1 (c0 + 1) i = lN (wy_he (fun _ => 31) 0 12) := by
    intro i hi
    obtain ⟨f, hf⟩ := hk i hi
    rw [hf.2]
    refine congrArg lN (wy_he_c 12 0 (fun n _ hn => ?_))
    have g := (hf.1 n (by omega)).1
    have e : (wy_w wh a b T 0 K n).2 = (wy_w wh a b T 0 K n).1 := by
      show (T n).2 = (T n).1
      rcases hT n (by omega) with ⟨t, _, _, q⟩ | q <;> rw [q]
    unfold wy_dd
    rw [e, if_pos g]
  have s1 : s ≤ 1 := by
    by_cases q : s ≤ 1
    · exact q
    · have := t4 0 1 (by omega) (by omega) ((all 0 (by omega)).trans (all 1 (by omega)).symm)
      omega
  by_cases z : s = 0
  · subst z
    left
    rw [← hp]
    exact ⟨rfl, t1⟩
  · have e1 : s = 1 := by omega
    subst e1
    right
    obtain ⟨a1, a2, a3, a4, a5, a6, a7⟩ := t3 0 (by omega)
    have ex : x = wy_mo wy_ne (wy_mo (wy_e1 (F 0) (0, 0)) wy_ne) := hp.symm
    have ex2 : x = F 0 := by
      rw [ex, wy_ne_r (wy_gd_e1 _ _), wy_ne_l (wy_gd_e1 _ _)]
      have m1 : min ((F 0).2.1 + 0) 1099511627776 = (F 0).2.1 := by omega
      have m2 : ((F 0).2.2 ||| 0) &&& 1048575 = (F 0).2.2 := by
        rw [Nat.or_zero]
        have := Nat.and_two_pow_sub_one_eq_mod (F 0).2.2 20
        have e : 2 ^ 20 - 1 = 1048575 := by decide
        rw [e] at this
        rw [this]
        exact Nat.mod_eq_of_lt a5
      exact Prod.ext rfl (Prod.ext m1 m2)
    rw [ex2]
    refine ⟨a6, ?_, a1, a2, a3, by omega⟩
    rw [t1]
    decide
end LV
/-! the key ahead of all -/
def wy_dn (i n : Nat) : Bool := decide (n < i) || (decide (6 ≤ n) && decide (n < 6 + i))
theorem wy_dn_i {i n : Nat} : wy_dn i n = true ↔ n < i ∨ (6 ≤ n ∧ n < 6 + i) := by
  unfold wy_dn
  rw [Bool.or_eq_true, Bool.and_eq_true, decide_eq_true_iff, decide_eq_true_iff, decide_eq_true_iff]
def wy_sU (W : Nat → wy_W) (i n : Nat) : wy_W := if wy_dn i n = true then W n else ((0, 0), (99, -99))
def wy_sf (v : Nat → Int) (i n : Nat) : Int := if wy_dn i n = true then v n else 0
theorem wy_up_s {α : Type} {g : Nat → α} {w : α} {i : Nat} (hi : i < 6) : ∀ n, n < 12 → (if wy_dn (i + 1) n = true then g n else w) = wy_up (wy_up (fun n => if wy_dn i n = true then g n else w) i (g i)) (6 + i) (g (6 + i)) n := by
  intro n hn
  by_cases q : n = 6 + i
  · rw [q, wy_up_e, if_pos (wy_dn_i.mpr (by omega))]
  · rw [wy_up_n q]
    by_cases r : n = i
    · rw [r, wy_up_e, if_pos (wy_dn_i.mpr (by omega))]
    · rw [wy_up_n r]
      by_cases s : wy_dn i n = true
      · rw [if_pos s, if_pos (wy_dn_i.mpr (by have := wy_dn_i.mp s; omega))]
      · rw [if_neg s, if_neg (fun z => s (wy_dn_i.mpr (by have := wy_dn_i.mp z; omega)))]
theorem wy_129 {M : ro_Mm} {W : Nat → wy_W} (hw : wy_ww M 0 W) {v : Nat → Int} (hv : ∀ n, n < 12 → 0 ≤ v n ∧ v n ≤ 20)
    (hM : ∀ i, i < 6 → (xf_29 M (nI i) = true → xf_30 M (nI i) 0 = iI (v i) ∧ xf_30 M (nI i) 1 = iI (v (6 + i))) ∧ (¬ xf_29 M (nI i) = true → v i = 0 ∧ v (6 + i) = 0)) :
    ∀ (r i n : Nat) (k : Int64), i + r = 6 → r < n → ((∀ n, n < 12 → wy_dn i n = true → wy_in (v n) (W n).1) → wy_kr (wy_sU W i) k (wy_sf v i)) → ((¬ ∀ n, n < 12 → wy_dn i n = true → wy_in (v n) (W n).1) → k = -1) →
    xq_129_4 n M (nI i) k ∧ ((∀ n, n < 12 → wy_in (v n) (W n).1) → wy_kr W (xg_129_4 n M (nI i) k).2 v) ∧ ((¬ ∀ n, n < 12 → wy_in (v n) (W n).1) → (xg_129_4 n M (nI i) k).2 = -1) := by
  intro r
  induction r with
  | zero =>
    intro i n k hi hn h1 h2
    cases n with
    | zero => exact absurd hn (Nat.not_lt_zero _)
    | succ n =>
      have c0 : (6 : Int32) ≤ nI i := nI_le (a := 6) (by omega) (by omega)
      have e6 : i = 6 := by omega
      subst e6
      have al : ∀ n, n < 12 → wy_dn 6 n = true := fun n hn => wy_dn_i.mpr (by omega)
      rw [xg_129_4, xq_129_4, if_pos c0]
      refine ⟨⟨fun _ => trivial, fun y => absurd c0 y⟩, fun g => ?_, fun g => h2 (fun q => g (fun n hn => q n hn (al n hn)))⟩
      exact wy_kr_c (h1 (fun n hn _ => g n hn)) (fun n hn => ⟨(if_pos (al n hn)).symm, (if_pos (al n hn)).symm⟩)
  | succ r ih =>
    intro i n k hi hn h1 h2
    cases n with
    | zero => exact absurd hn (Nat.not_lt_zero _)
    | succ n =>
      have c0 : ¬ (6 : Int32) ≤ nI i := nI_ge (b := 6) (by omega) (by decide)
      obtain ⟨m1, m2⟩ := hM i (by omega)
      have v1 := hv i (by omega)
      have v2 := hv (6 + i) (by omega)
      have step : xf_29 M (nI i) = true ∨ ¬ xf_29 M (nI i) = true := Decidable.em _
      -- both cases: the same two numbers
      have both : ∀ k2, k2 = xf_130 M (nI 0) (xf_130 M (nI 0) k (nI i) (iI (v i))) (nI (6 + i)) (iI (v (6 + i))) →
          ((∀ n, n < 12 → wy_dn (i + 1) n = true → wy_in (v n) (W n).1) → wy_kr (wy_sU W (i + 1)) k2 (wy_sf v (i + 1))) ∧ ((¬ ∀ n, n < 12 → wy_dn (i + 1) n = true → wy_in (v n) (W n).1) → k2 = -1) := by
        intro k2 ek
        rw [ek]
        by_cases al : ∀ n, n < 12 → wy_dn i n = true → wy_in (v n) (W n).1
        · have e1 := wy_130 (n := i) (v := v i) (by omega) hw (h1 al) (by omega) (by omega) (by omega)
          by_cases i1 : wy_in (v i) (W i).1
          · have e2 := wy_130 (n := 6 + i) (v := v (6 + i)) (by omega) hw (e1.1 i1) (by omega) (by omega) (by omega)
            by_cases i2 : wy_in (v (6 + i)) (W (6 + i)).1
            · have e3 := wy_kr_c (V := wy_sU W (i + 1)) (g := wy_sf v (i + 1)) (e2.1 i2) (fun n hn => ⟨wy_up_s (by omega) n hn, wy_up_s (by omega) n hn⟩)
              refine ⟨fun _ => e3, fun g => absurd (fun n hn d => ?_) g⟩
              have := (e3.1 n hn).1
              unfold wy_sU wy_sf at this
              rw [if_pos d, if_pos d] at this
              exact this
            · refine ⟨fun g => absurd (g (6 + i) (by omega) (wy_dn_i.mpr (by omega))) i2, fun _ => e2.2 i2⟩
          · refine ⟨fun g => absurd (g i (by omega) (wy_dn_i.mpr (by omega))) i1, fun _ => by rw [e1.2 i1, wy_130n]⟩
        · rw [h2 al, wy_130n, wy_130n]
          refine ⟨fun g => absurd (fun n hn d => g n hn (wy_dn_i.mpr (by have := wy_dn_i.mp d; omega))) al, fun _ => rfl⟩
      rw [xg_129_4, xq_129_4, if_neg c0, ← nI_succ, wy_6]
      by_cases c1 : xf_29 M (nI i) = true
      · obtain ⟨n1, n2⟩ := m1 c1
        obtain ⟨b1, b2⟩ := both (xf_130 M (0 : Int32) (xf_130 M (0 : Int32) k (nI i) (xf_30 M (nI i) (0 : Int32))) (nI (6 + i)) (xf_30 M (nI i) (1 : Int32))) (by rw [n1, n2, nI_0])
        obtain ⟨j1, j2, j3⟩ := ih (i + 1) n _ (by omega) (by omega) b1 b2
        rw [if_pos c1]
        exact ⟨⟨fun y => absurd y c0, fun _ => ⟨fun _ => j1, fun y => absurd c1 y⟩⟩, j2, j3⟩
      · obtain ⟨n1, n2⟩ := m2 c1
        have z0 : (0 : Int32) = iI 0 := rfl
        obtain ⟨b1, b2⟩ := both (xf_130 M (0 : Int32) (xf_130 M (0 : Int32) k (nI i) (0 : Int32)) (nI (6 + i)) (0 : Int32)) (by rw [n1, n2, nI_0, ← z0])
        obtain ⟨j1, j2, j3⟩ := ih (i + 1) n _ (by omega) (by omega) b1 b2
        rw [if_neg c1]
        exact ⟨⟨fun y => absurd y c0, fun _ => ⟨fun y => absurd y c1, fun _ => j1⟩⟩, j2, j3⟩
theorem wy_sta {M : ro_Mm} {W : Nat → wy_W} (hw : wy_ww M 0 W) {v : Nat → Int} (hv : ∀ n, n < 12 → 0 ≤ v n ∧ v n ≤ 20)
    (hM : ∀ i, i < 6 → (xf_29 M (nI i) = true → xf_30 M (nI i) 0 = iI (v i) ∧ xf_30 M (nI i) 1 = iI (v (6 + i))) ∧ (¬ xf_29 M (nI i) = true → v i = 0 ∧ v (6 + i) = 0)) :
    xp_129 M ∧ ((∀ n, n < 12 → wy_in (v n) (W n).1) → wy_kr W (xf_129 M) v) ∧ ((¬ ∀ n, n < 12 → wy_in (v n) (W n).1) → xf_129 M = -1) := by
  have nd : ∀ n, ¬ wy_dn 0 n = true := fun n q => by have := wy_dn_i.mp q; omega
  obtain ⟨g1, g2, g3⟩ := wy_129 hw hv hM 6 0 lp_N 0 (by omega) (lp_hug (by omega)) (fun _ => ⟨fun n hn => by
      unfold wy_sU wy_sf
      rw [if_neg (nd n), if_neg (nd n)]
      exact ⟨⟨Int.le_refl _, Int.le_refl _⟩, Int.le_refl _, by decide⟩, by
      have e : wy_he (wy_dd (wy_sU W 0) (wy_sf v 0)) 0 12 = wy_he (fun _ => 0) 0 12 := wy_he_c 12 0 (fun n _ _ => by
        unfold wy_dd wy_sU wy_sf
        rw [if_neg (nd n), if_neg (nd n), if_neg (by decide)]; rfl)
      rw [e]; rfl⟩) (fun g => absurd (fun n _ d => absurd d (nd n)) g)
  exact ⟨⟨g1, trivial⟩, g2, g3⟩
end WYG

