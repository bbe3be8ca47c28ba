/-! ways behind an evening: find, whole -/
section WYI
theorem wy_ok_gw {S : pu_T} (hS : wy_ok S) {a b : Nat} (ha : a < 6) (hb : b < 6) (hab : a ≠ b) (hm : pu_mw S a b = true) : wy_ok (pu_gw S a b) := by
  intro n hn
  obtain ⟨m1, m2, m3⟩ := (wy_mw ha hb).mp hm
  obtain ⟨g1, g2, g3, g4⟩ := wy_fw_e (f := wy_v S) (y := 1) ha hb hab
  rw [wy_v_gw hS ha hb hab n hn]
  have va := hS a (by omega)
  have vb := hS b (by omega)
  have vc := hS (6 + a) (by omega)
  by_cases q : n = a
  · rw [q, g1]; omega
  · by_cases r : n = b
    · rw [r, g2]; omega
    · by_cases s : n = 6 + a
      · rw [s, g3]; omega
      · rw [g4 n q r s]; exact hS n hn
theorem wy_ok_rf {S : pu_T} (hS : wy_ok S) {a b : Nat} (ha : a < 6) (hb : b < 6) (hab : a ≠ b) (hm : pu_mw S a b = true) : wy_ok (pu_rf S a) := by
  intro n hn
  obtain ⟨m1, m2, m3⟩ := (wy_mw ha hb).mp hm
  obtain ⟨g1, g2, g3, g4⟩ := wy_fw_e (f := wy_v S) (y := 0) ha hb hab
  rw [wy_v_rf hS ha hb hab n hn]
  have va := hS a (by omega)
  have vb := hS b (by omega)
  have vc := hS (6 + a) (by omega)
  by_cases q : n = a
  · rw [q, g1]; omega
  · by_cases r : n = b
    · rw [r, g2]; omega
    · by_cases s : n = 6 + a
      · rw [s, g3]; omega
      · rw [g4 n q r s]; exact hS n hn
theorem wy_ok_gc {S : pu_T} (hS : wy_ok S) {a b : Nat} (ha : a < 6) (hb : b < 6) (hab : a ≠ b) (hm : pu_mc S a b = true) : wy_ok (pu_gc S a b) := by
  intro n hn
  obtain ⟨m1, m2⟩ := wy_mc.mp hm
  obtain ⟨g1, g2, g4⟩ := wy_fc_e (f := wy_v S) hab
  rw [wy_v_gc hS ha hb hab n hn]
  have va := hS (6 + a) (by omega)
  have vb := hS (6 + b) (by omega)
  by_cases q : n = 6 + a
  · rw [q, g1]; omega
  · by_cases r : n = 6 + b
    · rw [r, g2]; omega
    · rw [g4 n q r]; exact hS n hn
theorem wy_R_nil {wh : Nat → Bool} {a b : Nat → Nat} {td : pu_T → Bool} {K : Nat} (ha : ∀ l, l < K → a l < 6 ∧ b l < 6 ∧ a l ≠ b l) (ht : ∀ S, wy_ok S → ¬ td S = true) : ∀ (d l : Nat) (S : pu_T), l + d = K → wy_ok S → wy_R wh a b td d l S = []
  | 0, l, S, _, hS => by
    unfold wy_R
    rw [if_neg (ht S hS)]
  | d + 1, l, S, hl, hS => by
    obtain ⟨h1, h2, h3⟩ := ha l (by omega)
    rw [wy_R]
    by_cases hw : wh l = true
    · rw [if_pos hw]
      by_cases hm : pu_mw S (a l) (b l) = true
      · rw [if_pos hm, wy_R_nil ha ht d (l + 1) _ (by omega) (wy_ok_gw hS h1 h2 h3 hm), wy_R_nil ha ht d (l + 1) _ (by omega) (wy_ok_rf hS h1 h2 h3 hm)]
        rfl
      · rw [if_neg hm]
    · rw [if_neg hw]
      by_cases hm : pu_mc S (a l) (b l) = true
      · rw [if_pos hm, wy_R_nil ha ht d (l + 1) _ (by omega) (wy_ok_gc hS h1 h2 h3 hm)]
      · rw [if_neg hm]
def wy_f3 (M M2 : ro_Mm) : Prop := M2.1 = M.1 ∧ (∀ x j, (x < 64 ∨ 162 < x) → M2.2.1 x j = M.2.1 x j) ∧ ∀ x j, (x < 153 ∨ 162 < x) → M2.2.2.1 x j = M.2.2.1 x j
theorem wy_f3_t {A B C : ro_Mm} (h : wy_f3 A B) (g : wy_f3 B C) : wy_f3 A C := ⟨g.1.trans h.1, fun x j q => (g.2.1 x j q).trans (h.2.1 x j q), fun x j q => (g.2.2 x j q).trans (h.2.2 x j q)⟩
theorem wy_f3_a {A B : ro_Mm} (h : wy_fa A B) : wy_f3 A B := ⟨h.1, fun x j q => h.2.2 x j (by omega), fun x j _ => by rw [h.2.1]⟩
theorem wy_f3_2 {A B : ro_Mm} (h : wy_f2 A B) : wy_f3 A B := ⟨h.1, fun x j q => h.2.1 x j (by omega), h.2.2⟩
theorem wy_kr_W {U V : Nat → wy_W} {k : Int64} {f : Nat → Int} (h : wy_kr U k f) (e : U = V) : wy_kr V k f := e ▸ h
/-- what find leaves -/
def wy_is (M : ro_Mm) (x : wy_T) : Prop := (x.1 = 0 ∧ M.2.1 (lft M) 4 = 0) ∨ (1 ≤ x.1 ∧ ¬ M.2.1 (lft M) 4 ≤ 0 ∧ M.2.1 (lft M + 2) 0 = nI x.1 ∧ M.2.1 (lft M + 3) 0 = nI x.2.1 ∧ M.2.1 (lft M + 4) 0 = nI x.2.2 ∧ x.2.1 < 2 ^ 31)
theorem wy_120 {M : ro_Mm} {c0 c : Nat} (hlv : wy_lv M c0 c) {wh : Nat → Bool} {a b : Nat → Nat} {K p z ch : Nat} {t : Nat → Int} {td : pu_T → Bool} {S : pu_T} (hK : K ≤ 20) (e35 : M.2.1 35 6 = nI K) (hr : wy_rd M wh a b K) (ha : ∀ l, l < K → a l < 6 ∧ b l < 6 ∧ a l ≠ b l) (hp : p ≤ 6) (hz : z ≤ 60) (e1 : M.2.1 5 4 = nI p) (ec : M.2.1 ch 2 = nI z) (hc : ro_is ch) (hf : ∀ y, y < z → xf_25 M ch (nI y) = iI (t y) ∧ (iI (t y)).toInt = t y)
    (hS : wy_ok S) (s1 : ∀ i, i < p → M.2.1 7 i = S.1 i ∧ M.2.1 8 i = S.2 i) (s2 : ∀ i, i < 6 → ¬ i < p → S.1 i = 0 ∧ S.2 i = 0) (ht : ∀ S, wy_ok S → (td S = true ↔ ∀ n, n < 12 → wy_in (wy_v S n) (wy_tw p z t n).1)) :
    xp_120 M ch ∧ wy_f3 M (xm_120 M ch) ∧ wy_is (xm_120 M ch) (wy_ph (wy_R wh a b td K 0 S) (1, 0, 0)) := by
  obtain ⟨lv1, lv2, lv3⟩ := hlv
  have hlv : wy_lv M c0 c := ⟨lv1, lv2, lv3⟩
  have c33 : ch < 64 := by unfold ro_is at hc; omega
  -- the size of the level come from is 0
  have fA : wy_f3 M (ro_sI M c0 4 0) := ⟨rfl, fun x j q => by rw [ro_sI_ne (by omega)], fun x j _ => rfl⟩
  have lvA : wy_lv (ro_sI M c0 4 0) c0 c := wy_lv_c hlv rfl
  have eK : ro_min (xf_121 (ro_sI M c0 4 0)) (20 : Int32) = nI K := by
    have e : xf_121 (ro_sI M c0 4 0) = nI K := by
      unfold xf_121
      rw [ro_sI_ne (by omega)]; exact e35
    rw [e]
    have := wy_min (x := K) (y := 20) (by omega) (by decide)
    rw [Nat.min_eq_left hK] at this
    exact this
  have hrA : wy_rd (ro_sI M c0 4 0) wh a b K := fun y hy => by
    rw [ro_sI_ne (by omega), ro_sI_ne (by omega), ro_sI_ne (by omega)]; exact hr y hy
  have hfA : ∀ y, y < z → xf_25 (ro_sI M c0 4 0) ch (nI y) = iI (t y) ∧ (iI (t y)).toInt = t y := fun y hy => by
    have e : xf_25 (ro_sI M c0 4 0) ch (nI y) = xf_25 M ch (nI y) := by
      unfold xf_25 xf_26
      rw [ro_sI_ne (by omega)]; rfl
    rw [e]; exact hf y hy
  obtain ⟨x1, x2, x3⟩ := wy_122 (A := ro_sI M c0 4 0) (K := K) hK hp hz (by rw [ro_sI_ne (by omega)]; exact e1) (by rw [ro_sI_ne (by omega)]; exact ec) hc hfA 12 0 lp_N (ro_sI M c0 4 0) (by omega) (lp_hug (by omega)) (wy_fa_r _) (fun m hm => absurd hm (Nat.not_lt_zero _)) (fun m hm => absurd hm (Nat.not_lt_zero _))
  rw [nI_0] at x1 x2 x3
  have x122 : xp_122 (ro_sI M c0 4 0) (nI K) ch := ⟨x1, trivial⟩
  unfold xm_120 xp_120
  rw [lv1, eK]
  rcases x3 with ⟨k1, k2, k3⟩ | ⟨k1, k2, k3⟩
  · -- all that is told can be had
    have ef : xf_122 (ro_sI M c0 4 0) (nI K) ch = true := by
      unfold xf_122
      rw [k2]; rfl
    rw [ef, if_pos rfl]
    have eB : xm_122 (ro_sI M c0 4 0) (nI K) ch = (xg_122_2 lp_N (ro_sI M c0 4 0) 0 (nI K) ch).2.2.2 := rfl
    rw [← eB] at x2 k3
    generalize xm_122 (ro_sI M c0 4 0) (nI K) ch = B at x2 k3 ⊢
    have hT : wy_tu (wy_tw p z t) := fun n hn => by
      unfold wy_tw
      by_cases q : n % 6 < p ∧ 2 * (n % 6) + n / 6 < z
      · rw [if_pos q]
        exact Or.inl ⟨_, (k1 n hn q).1, (k1 n hn q).2, rfl⟩
      · rw [if_neg q]
        exact Or.inr rfl
    have hrB : wy_rd B wh a b K := fun y hy => by
      rw [x2.2.2 39 y (by omega), x2.2.2 40 y (by omega), x2.2.2 41 y (by omega)]; exact hrA y hy
    obtain ⟨g1, g2, g3, g4⟩ := wy_35 (A := B) (T := wy_tw p z t) (v2 := nI K) (c1 := ch) hK ha K lp_N B (lp_hug (by omega)) (Nat.le_refl _) (wy_fa_r B) hrB (fun l h1 h2 => by
      have e : l = K := by omega
      subst e
      rw [Nat.sub_self]
      exact k3)
    have lvB : wy_lv B c0 c := wy_lv_c lvA (by rw [x2.2.1])
    generalize (xg_120_35 lp_N B (nI K - 1) (nI K) ch).2 = C at g2 g3 g4 ⊢
    have lvC : wy_lv C c0 c := wy_lv_c lvB (by rw [g2.2.1])
    obtain ⟨d1, d2, d3, d4, d5, d6⟩ := wy_clr C (by rw [lvC.2.1]; omega)
    have fD := wy_clr_f2 lvC
    rw [lvC.2.1] at d5 d6
    generalize xm_128 C = D at d2 d3 d4 d5 d6 fD ⊢
    have h150 := wy_f2_150 fD
    have eD := wy_ev_c h150 g4
    have rD := wy_rd_c h150 g3
    have lvD : wy_lv D c0 c := wy_lv_c lvC (by rw [d4])
    have low : ∀ x j, x < 64 → D.2.1 x j = M.2.1 x j := fun x j hx => by
      rw [h150 x j (by omega), g2.2.2 x j (Or.inl hx), x2.2.2 x j (Or.inl hx), ro_sI_ne (by omega)]
    have wD : wy_ww D 0 (wy_w wh a b (wy_tw p z t) K 0) := by
      have := eD.2.2 0 (Nat.zero_le _)
      rw [Nat.sub_zero] at this
      exact this
    obtain ⟨j1, j2, j3⟩ := wy_sta wD hS (fun i hi => by
      have a1 : ¬ nI i < 0 := nI_pos (by omega)
      have a2 : ¬ (6 : Int32) ≤ nI i := nI_ge (b := 6) hi (by decide)
      have e29 : xf_29 D (nI i) = true ↔ i < p := by
        unfold xf_29
        rw [if_neg a1, if_neg a2, low 5 4 (by omega), e1]
        by_cases q : i < p
        · rw [if_neg (nI_ge q (by omega))]; exact ⟨fun _ => q, fun _ => rfl⟩
        · rw [if_pos (nI_le (by omega) (by omega))]; exact ⟨fun z => Bool.noConfusion z, fun z => absurd z q⟩
      have v1 : wy_v S i = (S.1 i).toInt := wy_v1 hi
      have v2 : wy_v S (6 + i) = (S.2 i).toInt := wy_v2
      refine ⟨fun q => ?_, fun q => ?_⟩
      · obtain ⟨q1, q2⟩ := s1 i (e29.mp q)
        have r1 : xf_30 D (nI i) 0 = D.2.1 7 i := by
          unfold xf_30
          rw [if_pos rfl, x31 hi]
        have r2 : xf_30 D (nI i) 1 = D.2.1 8 i := by
          unfold xf_30
          rw [if_neg (by decide), if_pos rfl, x32 hi]
        rw [r1, r2, low 7 i (by omega), low 8 i (by omega), q1, q2, v1, v2]
        exact ⟨(Int32.ofInt_toInt _).symm, (Int32.ofInt_toInt _).symm⟩
      · obtain ⟨q1, q2⟩ := s2 i hi (fun y => q (e29.mpr y))
        rw [v1, v2, q1, q2]
        exact ⟨rfl, rfl⟩)
    -- the one row ahead of all
    have tb0 : wy_tb D c 0 (0 * 2097152) (fun _ => (1, 0, 0)) := ⟨d5, by omega, fun j hj => absurd hj (Nat.not_lt_zero _), fun i j hi => absurd hi (Nat.not_lt_zero _)⟩
    have hx0 : wy_hx D c 0 := ⟨fun h hh => d2 h hh, fun j hj => absurd hj (Nat.not_lt_zero _)⟩
    obtain ⟨r1, s', E, r2, r3, r4, r5, r6, r7⟩ := wy_rch (e := (1, 0, 0)) (k := xf_129 D) lvD.2.1 (by omega) tb0 hx0 (Nat.lt_of_le_of_lt (Nat.le_of_eq (Nat.zero_mul _)) (Nat.pow_pos (by decide))) (Nat.le_refl 1) (Nat.zero_le _) (show (0 : Nat) < 1048576 from Nat.zero_lt_succ _) (fun _ _ => Nat.zero_lt_succ _)
    have z1 : nI ((1, 0, 0) : wy_T).1 = (1 : Int32) := rfl
    have z2 : nI ((1, 0, 0) : wy_T).2.1 = (0 : Int32) := rfl
    rw [z1, z2] at r1 r2 r3 r5 r6 r7
    have RG := wy_RG eD ht K 0 S (by omega) hS
    have hli : wy_li D wh a b (wy_tw p z t) K 0 (wy_ph (wy_R wh a b td K 0 S) (1, 0, 0)) (xm_133 (xm_131 D (xf_129 D) 1 0 0)) := by
      generalize xm_131 D (xf_129 D) 1 0 0 = F at r2 r3 r5 r6 r7
      have b1 : (xm_133 F).1 = F.1 := rfl
      have b2 : (xm_133 F).2.1 = F.2.1 := rfl
      have b3 : (xm_133 F).2.2.1 = F.2.2.1 := rfl
      have fF : wy_f2 D F := wy_f2_f r5 (by omega)
      have lvF : wy_lv F c0 c := wy_lv_c lvD r5.2.1
      refine ⟨⟨b1.trans fF.1, fun x j q => by rw [b2]; exact fF.2.1 x j q, fun x j q => by rw [b3]; exact fF.2.2 x j q⟩, c, c0, s', E, wy_trn lvF, ?_, r4, fun i hi => ?_, ?_⟩
      · unfold wy_tb at r2 ⊢
        rw [b2, b3]; exact r2
      · rw [b3]
        rcases r6 i hi with ⟨n0, q⟩ | ⟨y, hy, _⟩
        · rw [q]
          by_cases al : ∀ n, n < 12 → wy_in (wy_v S n) (wy_w wh a b (wy_tw p z t) K 0 n).1
          · exact ⟨_, j2 al⟩
          · rw [j3 al] at n0; exact absurd wy_neg n0
        · exact absurd hy (Nat.not_lt_zero _)
      · rw [b3]
        refine (r7 _).trans ?_
        show wy_mo wy_ne _ = _
        by_cases al : ∀ n, n < 12 → wy_in (wy_v S n) (wy_w wh a b (wy_tw p z t) K 0 n).1
        · have kk := j2 al
          rw [if_neg (wy_kr_p kk).2, wy_ne_l (wy_gd_ph _ _), RG.1 _ kk]
        · rw [j3 al, if_pos wy_neg, RG.2 al, wy_ne_l wy_gd_ne]
          rfl
    obtain ⟨l1, l2⟩ := wy_71 eD rD hT (c1 := ch) K 0 lp_N _ (by omega) (lp_hug (by omega)) hli
    rw [nI_0] at l1 l2
    refine ⟨⟨x122, fun _ => ⟨g1, d1, j1, r1, l1, trivial⟩, fun y => absurd rfl y⟩, ?_, wy_end hT l2 hK⟩
    exact wy_f3_t fA (wy_f3_t (wy_f3_a x2) (wy_f3_t (wy_f3_a g2) (wy_f3_t (wy_f3_2 fD) (wy_f3_2 l2.1))))
  · -- something that nobody can have
    have ef : xf_122 (ro_sI M c0 4 0) (nI K) ch = false := by
      unfold xf_122
      rw [if_pos k2]; exact k3
    have nf : ¬ false = true := by decide
    rw [ef, if_neg nf]
    have eB : xm_122 (ro_sI M c0 4 0) (nI K) ch = (xg_122_2 lp_N (ro_sI M c0 4 0) 0 (nI K) ch).2.2.2 := rfl
    rw [← eB] at x2
    refine ⟨⟨x122, fun y => absurd y nf, fun _ => trivial⟩, wy_f3_t fA (wy_f3_a x2), Or.inl ⟨?_, ?_⟩⟩
    · have e : wy_R wh a b td K 0 S = [] := wy_R_nil ha (fun S hS q => k1 (fun n hn q2 => by
        have g := (ht S hS).mp q n hn
        unfold wy_tw at g
        rw [if_pos q2] at g
        have v := hS n hn
        have g1 := g.1
        have g2 := g.2
        simp only at g1 g2
        omega)) K 0 S (by omega) hS
      rw [e]; rfl
    · have lvB : wy_lv (xm_122 (ro_sI M c0 4 0) (nI K) ch) c0 c := wy_lv_c lvA (by rw [x2.2.1])
      rw [lvB.1, x2.2.2 c0 4 (by omega), ro_rd_s, if_pos ⟨rfl, rfl⟩]
end WYI

