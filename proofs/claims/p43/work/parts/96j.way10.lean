/-! ways behind an evening: the reference goes through all, meets those that are as told -/
section WYJ
/-- so many bits are set, one taken away after the other -/
def wy_pc : Nat → Nat → Prop
  | 0, s => s = 0
  | c + 1, s => s ≠ 0 ∧ wy_pc c (s &&& (s - 1))
theorem wy_pc_l {M : ro_Mm} {v0 : Int32} : ∀ (c s n x : Nat), s < 2 ^ 20 → c < n → wy_pc c s → xq_272_4 n M (nI s) (nI x) v0 ∧ (xg_272_4 n M (nI s) (nI x) v0).2 = nI (x + c) := by
  intro c
  induction c with
  | zero =>
    intro s n x hs hn h
    cases n with
    | zero => exact absurd hn (Nat.not_lt_zero _)
    | succ n =>
      have e : s = 0 := h
      subst e
      have c0 : nI 0 = (0 : Int32) := rfl
      rw [xg_272_4, xq_272_4, if_pos c0]
      exact ⟨⟨fun _ => trivial, fun y => absurd c0 y⟩, rfl⟩
  | succ c ih =>
    intro s n x hs hn h
    cases n with
    | zero => exact absurd hn (Nat.not_lt_zero _)
    | succ n =>
      obtain ⟨h1, h2⟩ := h
      have c0 : ¬ nI s = (0 : Int32) := nI_ne0 (by omega) (by omega)
      have e1 : nI s &&& (nI s - 1) = nI (s &&& (s - 1)) := by
        have e : nI s - 1 = nI (s - 1) := nI_sub (b := 1) (by omega)
        rw [e]
        exact nx_and _ _
      obtain ⟨i1, i2⟩ := ih (s &&& (s - 1)) n (x + 1) (Nat.lt_of_le_of_lt Nat.and_le_left hs) (by omega) h2
      rw [xg_272_4, xq_272_4, if_neg c0, e1, ← nI_succ]
      exact ⟨⟨fun y => absurd y c0, fun _ => i1⟩, by rw [i2]; congr 1; omega⟩
theorem wy_pc_u {l : Nat} : ∀ (c s : Nat), s < 2 ^ l → wy_pc c s → wy_pc (c + 1) (2 ^ l + s) := by
  have p : 0 < 2 ^ l := Nat.two_pow_pos l
  intro c
  induction c with
  | zero =>
    intro s hs h
    have e : s = 0 := h
    subst e
    refine ⟨by omega, ?_⟩
    show (2 ^ l + 0) &&& (2 ^ l + 0 - 1) = 0
    rw [Nat.add_zero, Nat.and_two_pow_sub_one_eq_mod]
    exact Nat.mod_self _
  | succ c ih =>
    intro s hs h
    obtain ⟨h1, h2⟩ := h
    refine ⟨by omega, ?_⟩
    have h3 := ih (s &&& (s - 1)) (Nat.lt_of_le_of_lt Nat.and_le_left hs) h2
    have e : (2 ^ l + s) &&& (2 ^ l + s - 1) = 2 ^ l + (s &&& (s - 1)) := by
      have e1 : 2 ^ l + s - 1 = 2 ^ l + (s - 1) := by omega
      rw [e1]
      apply Nat.eq_of_testBit_eq
      intro j
      have t : ∀ y, y < 2 ^ l → (2 ^ l + y).testBit j = if j < l then y.testBit j else (1 : Nat).testBit (j - l) := by
        intro y hy
        have := Nat.testBit_two_pow_mul_add 1 hy j
        rw [Nat.mul_one] at this
        exact this
      rw [Nat.testBit_and, t s hs, t (s - 1) (by omega), t _ (Nat.lt_of_le_of_lt Nat.and_le_left hs), Nat.testBit_and]
      by_cases q : j < l
      · rw [if_pos q, if_pos q, if_pos q]
      · rw [if_neg q, if_neg q, if_neg q, Bool.and_self]
    rw [e]
    exact h3
theorem wy_or_u {l s : Nat} (hs : s < 2 ^ l) : s ||| 2 ^ l = 2 ^ l + s := by
  have := Nat.two_pow_add_eq_or_of_lt hs 1
  rw [Nat.mul_one] at this
  rw [this, Nat.or_comm]
abbrev wy_Me : Type := Int32 × Int32 × Int32 × Int32
def wy_bt (x : wy_Me) (e : Nat × Nat) : Bool := decide (x.2.1 < 0) || (!(decide (x.2.1 < nI (e.1 / 1048576))) && (!(decide (nI (e.1 / 1048576) = x.2.1)) || decide (nI e.2 ≤ x.2.2.1)))
/-- a way is met -/
def wy_mt (x : wy_Me) (e : Nat × Nat) : wy_Me := (x.1 + 1, (if wy_bt x e = true then nI (e.1 / 1048576) else x.2.1), (if wy_bt x e = true then nI e.2 else x.2.2.1), x.2.2.2 &&& nI e.2)
def wy_at (M : ro_Mm) (x : wy_Me) : Prop := M.2.1 163 38 = x.1 ∧ M.2.1 163 39 = x.2.1 ∧ M.2.1 163 40 = x.2.2.1 ∧ M.2.1 163 41 = x.2.2.2
/-- what the reference's search may change -/
def wy_fz (M M2 : ro_Mm) : Prop := M2.1 = M.1 ∧ M2.2.2 = M.2.2 ∧ ∀ x j, x ≠ 181 → x ≠ 182 → ¬ (x = 163 ∧ 38 ≤ j ∧ j ≤ 41) → M2.2.1 x j = M.2.1 x j
theorem wy_fz_t {A B C : ro_Mm} (h : wy_fz A B) (g : wy_fz B C) : wy_fz A C := ⟨g.1.trans h.1, g.2.1.trans h.2.1, fun x j a b c => (g.2.2 x j a b c).trans (h.2.2 x j a b c)⟩
theorem wy_fz_r (A : ro_Mm) : wy_fz A A := ⟨rfl, rfl, fun _ _ _ _ _ => rfl⟩
theorem wy_fz_p {A B : ro_Mm} (h : pu_fr A B 180) : wy_fz A B := ⟨h.1, h.2.1, fun x j n1 n2 _ => h.2.2 x j n1 n2⟩
theorem wy_at_p {A B : ro_Mm} {x : wy_Me} (h : pu_fr A B 180) (g : wy_at A x) : wy_at B x := by
  unfold wy_at
  rw [h.2.2 163 38 (by decide) (by decide), h.2.2 163 39 (by decide) (by decide), h.2.2 163 40 (by decide) (by decide), h.2.2 163 41 (by decide) (by decide)]
  exact g
theorem wy_271 {M : ro_Mm} {x : wy_Me} (hx : wy_at M x) {c s : Nat} (hs : s < 2 ^ 20) (hc : c ≤ 20) (hp : wy_pc c s) : xp_271 M (nI s) ∧ wy_at (xm_271 M (nI s)) (wy_mt x (c * 1048576 + s, s)) ∧ wy_fz M (xm_271 M (nI s)) ∧ ∀ y j, y ≠ 163 → (xm_271 M (nI s)).2.1 y j = M.2.1 y j := by
  obtain ⟨a1, a2, a3, a4⟩ := hx
  have ed : (c * 1048576 + s) / 1048576 = c := by
    have : s < 1048576 := hs
    omega
  have e272 : ∀ B : ro_Mm, xp_272 B (nI s) ∧ xf_272 B (nI s) = nI c := by
    intro B
    have h := wy_pc_l (M := B) (v0 := nI s) c s lp_N 0 hs (lp_hug (by omega)) hp
    rw [Nat.zero_add, nI_0] at h
    exact ⟨⟨h.1, trivial⟩, h.2⟩
  refine ⟨⟨(e272 _).1, trivial⟩, ?_⟩
  have z : ∀ (b : Bool), (if b = true then ro_sI (ro_sI (ro_sI (ro_sI M 163 38 (x.1 + 1)) 163 41 (x.2.2.2 &&& nI s)) 163 39 (nI c)) 163 40 (nI s) else ro_sI (ro_sI M 163 38 (x.1 + 1)) 163 41 (x.2.2.2 &&& nI s)) = xm_271 M (nI s) → b = wy_bt x (c * 1048576 + s, s) → wy_at (xm_271 M (nI s)) (wy_mt x (c * 1048576 + s, s)) ∧ wy_fz M (xm_271 M (nI s)) ∧ ∀ y j, y ≠ 163 → (xm_271 M (nI s)).2.1 y j = M.2.1 y j := by
    intro b eb hb
    rw [← eb]
    unfold wy_mt wy_at
    rw [← hb, ed]
    cases b with
    | true =>
      simp only [if_true]
      refine ⟨⟨?_, ?_, ?_, ?_⟩, ⟨rfl, rfl, fun y j n1 n2 n3 => ?_⟩, fun y j n => ?_⟩
      · rw [ro_rd_s, if_neg (by omega), ro_rd_s, if_neg (by omega), ro_rd_s, if_neg (by omega), ro_rd_s, if_pos ⟨rfl, rfl⟩]
      · rw [ro_rd_s, if_neg (by omega), ro_rd_s, if_pos ⟨rfl, rfl⟩]
      · rw [ro_rd_s, if_pos ⟨rfl, rfl⟩]
      · rw [ro_rd_s, if_neg (by omega), ro_rd_s, if_neg (by omega), ro_rd_s, if_pos ⟨rfl, rfl⟩]
      · rw [ro_rd_s, if_neg (by omega), ro_rd_s, if_neg (by omega), ro_rd_s, if_neg (by omega), ro_rd_s, if_neg (by omega)]
      · rw [ro_sI_ne n, ro_sI_ne n, ro_sI_ne n, ro_sI_ne n]
    | false =>
      have nf : ¬ false = true := by decide
      simp only [if_neg nf]
      refine ⟨⟨?_, ?_, ?_, ?_⟩, ⟨rfl, rfl, fun y j n1 n2 n3 => ?_⟩, fun y j n => ?_⟩
      · rw [ro_rd_s, if_neg (by omega), ro_rd_s, if_pos ⟨rfl, rfl⟩]
      · rw [ro_rd_s, if_neg (by omega), ro_rd_s, if_neg (by omega)]; exact a2
      · rw [ro_rd_s, if_neg (by omega), ro_rd_s, if_neg (by omega)]; exact a3
      · rw [ro_rd_s, if_pos ⟨rfl, rfl⟩]
      · rw [ro_rd_s, if_neg (by omega), ro_rd_s, if_neg (by omega)]
      · rw [ro_sI_ne n, ro_sI_ne n]
  have em : xm_271 M (nI s) = if wy_bt x (c * 1048576 + s, s) = true then ro_sI (ro_sI (ro_sI (ro_sI M 163 38 (x.1 + 1)) 163 41 (x.2.2.2 &&& nI s)) 163 39 (nI c)) 163 40 (nI s) else ro_sI (ro_sI M 163 38 (x.1 + 1)) 163 41 (x.2.2.2 &&& nI s) := by
    unfold xm_271
    rw [a1, a2, a3, a4, (e272 _).2]
    unfold wy_bt
    rw [ed]
    by_cases q1 : x.2.1 < 0
    · rw [if_pos q1, if_pos (by simp [q1])]
    · rw [if_neg q1]
      by_cases q2 : x.2.1 < nI c
      · rw [if_pos q2, if_neg (by simp [q1, q2])]
      · rw [if_neg q2]
        by_cases q3 : nI c = x.2.1
        · rw [if_pos q3]
          by_cases q4 : nI s ≤ x.2.2.1
          · rw [if_pos q4, if_pos (by simp [q1, q2, q3, q4])]
          · rw [if_neg q4, if_neg (by rw [decide_eq_false q1, decide_eq_false q2, decide_eq_true q3, decide_eq_false q4]; decide)]
        · rw [if_neg q3, if_pos (by simp [q1, q2, q3])]
  exact z _ em.symm rfl
/-- as told -/
def wy_mk (S : pu_T) (g : Nat → Int32) (k : Nat) : Prop := (k % 2 = 0 → S.1 (k / 2) = g k) ∧ (k % 2 = 1 → S.2 (k / 2) = g k)
noncomputable def wy_td (p z : Nat) (g : Nat → Int32) (S : pu_T) : Bool := @decide (∀ k, k < z → k / 2 < p → wy_mk S g k) (Classical.propDecidable _)
theorem wy_td_i {p z : Nat} {g : Nat → Int32} {S : pu_T} : wy_td p z g S = true ↔ ∀ k, k < z → k / 2 < p → wy_mk S g k := @decide_eq_true_iff _ (Classical.propDecidable _)
theorem wy_270 {M : ro_Mm} {p z : Nat} {g : Nat → Int32} {S : pu_T} {w : Int32} (hp : p ≤ 6) (hz : z ≤ 60) (e36 : M.2.1 163 36 = w) (hw : vp_in w 6) (e1 : M.2.1 163 1 = nI p) (ez : M.2.1 191 w.toNatClampNeg = nI z) (hg : ∀ k, k < z → xf_238 M w (nI k) = g k ∧ xp_238 M w (nI k)) (hS : pu_at p M 180 S) :
    ∀ (r i n : Nat), i + r = z → r < n → (∀ k, k < i → k / 2 < p → wy_mk S g k) → xq_270_2 n M (nI i) ∧ (((xg_270_2 n M (nI i)).1 = false ∧ wy_td p z g S = true) ∨ ((xg_270_2 n M (nI i)).1 = true ∧ (xg_270_2 n M (nI i)).2.1 = false ∧ ¬ wy_td p z g S = true)) := by
  intro r
  induction r with
  | zero =>
    intro i n hi hn h
    cases n with
    | zero => exact absurd hn (Nat.not_lt_zero _)
    | succ n =>
      have c0 : nI z ≤ nI i := nI_le (by omega) (by omega)
      have e : i = z := by omega
      rw [xg_270_2, xq_270_2, e36, ez, if_pos c0]
      exact ⟨⟨hw, fun _ => trivial, fun y => absurd c0 y⟩, Or.inl ⟨rfl, wy_td_i.mpr (fun k hk => h k (by omega))⟩⟩
  | succ r ih =>
    intro i n hi hn h
    cases n with
    | zero => exact absurd hn (Nat.not_lt_zero _)
    | succ n =>
      have c0 : ¬ nI z ≤ nI i := nI_ge (by omega) (by omega)
      have ed : nI i / (2 : Int32) = nI (i / 2) := nI_div (b := 2) (by omega) (by decide)
      have er : ro_irem (nI i) (2 : Int32) = nI (i % 2) := nI_rem (b := 2) (by omega) (by decide)
      obtain ⟨g1, g2⟩ := hg i (by omega)
      rw [xg_270_2, xq_270_2, e36, ez, if_neg c0, e1, ed, er, g1]
      by_cases q : i / 2 < p
      · have c1 : ¬ nI p ≤ nI (i / 2) := nI_ge q (by omega)
        have ec : (nI (i / 2)).toNatClampNeg = i / 2 := nI_clamp (by omega)
        have vi : vp_in (nI (i / 2)) 6 := nI_in (by omega) (by decide)
        obtain ⟨s1, s2⟩ := hS (i / 2) q
        have s1 : M.2.1 181 (i / 2) = S.1 (i / 2) := s1
        have s2 : M.2.1 182 (i / 2) = S.2 (i / 2) := s2
        rw [if_neg c1, ec, s1, s2]
        have next : wy_mk S g i → xq_270_2 n M (nI i + 1) ∧ (((xg_270_2 n M (nI i + 1)).1 = false ∧ wy_td p z g S = true) ∨ ((xg_270_2 n M (nI i + 1)).1 = true ∧ (xg_270_2 n M (nI i + 1)).2.1 = false ∧ ¬ wy_td p z g S = true)) := fun hm => by
          rw [← nI_succ]
          exact ih (i + 1) n (by omega) (by omega) (fun k hk hk2 => by
            by_cases y : k = i
            · rw [y]; exact hm
            · exact h k (by omega) hk2)
        have stop : ¬ wy_mk S g i → ¬ wy_td p z g S = true := fun hm y => hm (wy_td_i.mp y i (by omega) q)
        rcases Nat.mod_two_eq_zero_or_one i with m | m
        · have c2 : nI (i % 2) = (0 : Int32) := by rw [m]; rfl
          rw [if_pos c2]
          by_cases y : S.1 (i / 2) = g i
          · obtain ⟨n1, n2⟩ := next ⟨fun _ => y, fun y2 => by omega⟩
            rw [if_pos y]
            exact ⟨⟨hw, fun y => absurd y c0, fun _ => ⟨fun y => absurd y c1, fun _ => ⟨fun _ => ⟨vi, g2, fun _ => n1, fun y2 => absurd y y2⟩, fun y2 => absurd c2 y2⟩⟩⟩, n2⟩
          · rw [if_neg y]
            exact ⟨⟨hw, fun y => absurd y c0, fun _ => ⟨fun y => absurd y c1, fun _ => ⟨fun _ => ⟨vi, g2, fun y2 => absurd y2 y, fun _ => trivial⟩, fun y2 => absurd c2 y2⟩⟩⟩, Or.inr ⟨rfl, rfl, stop (fun y2 => y (y2.1 m))⟩⟩
        · have c2 : ¬ nI (i % 2) = (0 : Int32) := by rw [m]; decide
          rw [if_neg c2]
          by_cases y : S.2 (i / 2) = g i
          · obtain ⟨n1, n2⟩ := next ⟨fun y2 => by omega, fun _ => y⟩
            rw [if_pos y]
            exact ⟨⟨hw, fun y => absurd y c0, fun _ => ⟨fun y => absurd y c1, fun _ => ⟨fun y2 => absurd y2 c2, fun _ => ⟨vi, g2, fun _ => n1, fun y2 => absurd y y2⟩⟩⟩⟩, n2⟩
          · rw [if_neg y]
            exact ⟨⟨hw, fun y => absurd y c0, fun _ => ⟨fun y => absurd y c1, fun _ => ⟨fun y2 => absurd y2 c2, fun _ => ⟨vi, g2, fun y2 => absurd y2 y, fun _ => trivial⟩⟩⟩⟩, Or.inr ⟨rfl, rfl, stop (fun y2 => y (y2.2 m))⟩⟩
      · have c1 : nI p ≤ nI (i / 2) := nI_le (by omega) (by omega)
        rw [if_pos c1]
        refine ⟨⟨hw, fun y => absurd y c0, fun _ => ⟨fun _ => trivial, fun y => absurd c1 y⟩⟩, Or.inl ⟨rfl, wy_td_i.mpr (fun k hk hk2 => h k ?_ hk2)⟩⟩
        omega
/-- what both rows tell, as the reference reads them -/
def wy_bx (M : ro_Mm) (wh : Nat → Bool) (a b : Nat → Nat) (K p z : Nat) (f g : Nat → Int32) (u w : Int32) : Prop := M.2.1 163 35 = u ∧ M.2.1 163 36 = w ∧ M.2.1 163 37 = nI K ∧ M.2.1 163 1 = nI p ∧ M.2.1 191 w.toNatClampNeg = nI z ∧ vp_in w 6 ∧ (∀ k, k < z → xf_238 M w (nI k) = g k ∧ xp_238 M w (nI k)) ∧
  ∀ l, l < K → xf_238 M u (nI l) = f l ∧ xp_238 M u (nI l) ∧ f l / 20 = nI (a l) ∧ ro_irem (f l) 20 / 2 = nI (b l) ∧ (ro_irem (f l) 2 = 1 ↔ ¬ wh l = true) ∧ a l < p ∧ b l < p ∧ a l ≠ b l
theorem wy_bx_c {M M2 : ro_Mm} {wh : Nat → Bool} {a b : Nat → Nat} {K p z : Nat} {f g : Nat → Int32} {u w : Int32} (h : wy_bx M wh a b K p z f g u w) (e : wy_fz M M2) : wy_bx M2 wh a b K p z f g u w := by
  obtain ⟨h1, h2, h3, h4, h5, h6, h7, h8⟩ := h
  have e238 : ∀ x y, xf_238 M2 x y = xf_238 M x y := fun x y => by unfold xf_238; rw [e.2.1]
  refine ⟨?_, ?_, ?_, ?_, ?_, h6, fun k hk => ⟨(e238 _ _).trans (h7 k hk).1, (h7 k hk).2⟩, fun l hl => ⟨(e238 _ _).trans (h8 l hl).1, (h8 l hl).2⟩⟩
  · rw [e.2.2 163 35 (by omega) (by omega) (by omega)]; exact h1
  · rw [e.2.2 163 36 (by omega) (by omega) (by omega)]; exact h2
  · rw [e.2.2 163 37 (by omega) (by omega) (by omega)]; exact h3
  · rw [e.2.2 163 1 (by omega) (by omega) (by omega)]; exact h4
  · rw [e.2.2 191 _ (by omega) (by omega) (by omega)]; exact h5
def wy_pr (q s : Nat) (e : Nat × Nat) : Nat × Nat := (q + e.1, s ||| e.2)
theorem wy_pr_n (q s l : Nat) (L : List (Nat × Nat)) : (L.map (wy_no l)).map (wy_pr q s) = L.map (wy_pr (q + (1048576 + 2 ^ l)) (s ||| 2 ^ l)) := by
  rw [List.map_map]
  congr 1
  funext e
  show (q + (e.1 + (1048576 + 2 ^ l)), s ||| (e.2 ||| 2 ^ l)) = (q + (1048576 + 2 ^ l) + e.1, (s ||| 2 ^ l) ||| e.2)
  rw [Nat.or_comm e.2, Nat.or_assoc]
  congr 1
  omega
theorem wy_dfs {wh : Nat → Bool} {a b : Nat → Nat} {K p z : Nat} {f g : Nat → Int32} {u w : Int32} (hp : p ≤ 6) (hz : z ≤ 60) (hK : K ≤ 20) : ∀ (d l n : Nat) (M : ro_Mm) (S : pu_T) (c s : Nat) (x : wy_Me), l + d = K → d < n → wy_bx M wh a b K p z f g u w → pu_at p M 180 S → wy_at M x → wy_pc c s → c ≤ l → s < 2 ^ l →
    xpr_bhd n M (nI l) (nI s) ∧ wy_at (xr_bhd n M (nI l) (nI s)) (((wy_R wh a b (wy_td p z g) d l S).map (wy_pr (c * 1048576 + s) s)).foldl wy_mt x) ∧ pu_at p (xr_bhd n M (nI l) (nI s)) 180 S ∧ wy_fz M (xr_bhd n M (nI l) (nI s)) := by
  intro d
  induction d with
  | zero =>
    intro l n M S c s x hl hn hB hS hx hc hcl hs
    cases n with
    | zero => exact absurd hn (Nat.not_lt_zero _)
    | succ n =>
      obtain ⟨h1, h2, h3, h4, h5, h6, h7, h8⟩ := hB
      have e : l = K := by omega
      subst e
      have hs20 : s < 2 ^ 20 := Nat.lt_of_lt_of_le hs (Nat.pow_le_pow_right (by decide) hK)
      obtain ⟨t1, t2⟩ := wy_270 hp hz h2 h6 h4 h5 h7 hS z 0 lp_N (by omega) (lp_hug (by omega)) (fun k hk => absurd hk (Nat.not_lt_zero _))
      rw [nI_0] at t1 t2
      show xpb_269 (xr_bhd n) (xpr_bhd n) M (nI l) (nI s) ∧ wy_at (xmb_269 (xr_bhd n) M (nI l) (nI s)) _ ∧ pu_at p (xmb_269 (xr_bhd n) M (nI l) (nI s)) 180 S ∧ wy_fz M (xmb_269 (xr_bhd n) M (nI l) (nI s))
      unfold xpb_269 xmb_269 wy_R
      rw [h3, if_pos rfl]
      rcases t2 with ⟨y1, y2⟩ | ⟨y1, y2, y3⟩
      · have e270 : xf_270 M = true := by unfold xf_270; rw [y1]; rfl
        obtain ⟨m1, m2, m3, m4⟩ := wy_271 hx hs20 (by omega) hc
        rw [e270, if_pos rfl, if_pos y2]
        refine ⟨⟨fun _ => ⟨⟨t1, trivial⟩, fun _ => ⟨m1, trivial⟩, fun y => absurd rfl y⟩, fun y => absurd rfl y⟩, ?_, pu_at_c hS (fun k _ => ⟨m4 _ _ (by decide), m4 _ _ (by decide)⟩), m3⟩
        show wy_at _ (wy_mt x (c * 1048576 + s + 0, s ||| 0))
        rw [Nat.add_zero, Nat.or_zero]
        exact m2
      · have e270 : xf_270 M = false := by unfold xf_270; rw [if_pos y1]; exact y2
        have nf : ¬ false = true := by decide
        rw [e270, if_neg nf, if_neg y3]
        exact ⟨⟨fun _ => ⟨⟨t1, trivial⟩, fun y => absurd y nf, fun _ => trivial⟩, fun y => absurd rfl y⟩, hx, hS, wy_fz_r M⟩
  | succ d ih =>
    intro l n M S c s x hl hn hB hS hx hc hcl hs
    cases n with
    | zero => exact absurd hn (Nat.not_lt_zero _)
    | succ n =>
      obtain ⟨h1, h2, h3, h4, h5, h6, h7, h8⟩ := hB
      have hB : wy_bx M wh a b K p z f g u w := ⟨h1, h2, h3, h4, h5, h6, h7, h8⟩
      obtain ⟨f1, f2, f3, f4, f5, f6, f7, f8⟩ := h8 l (by omega)
      have c0 : ¬ nI l = nI K := fun q => by
        have := (nI_eq (a := l) (b := K) (by omega) (by omega)).mp q
        omega
      have hs1 : s < 2 ^ (l + 1) := Nat.lt_of_lt_of_le hs (Nat.pow_le_pow_right (by decide) (by omega))
      show xpb_269 (xr_bhd n) (xpr_bhd n) M (nI l) (nI s) ∧ wy_at (xmb_269 (xr_bhd n) M (nI l) (nI s)) _ ∧ pu_at p (xmb_269 (xr_bhd n) M (nI l) (nI s)) 180 S ∧ wy_fz M (xmb_269 (xr_bhd n) M (nI l) (nI s))
      unfold xpb_269 xmb_269
      rw [h3, if_neg c0, h1, f1, f3, f4, ← nI_succ, wy_R]
      by_cases hw : wh l = true
      · have c1 : ¬ ro_irem (f l) 2 = 1 := fun q => f5.mp q hw
        rw [if_neg c1, if_pos hw]
        obtain ⟨w1, w2⟩ := pu_241 hS hp f6 f7
        rw [w1]
        by_cases hm : pu_mw S (a l) (b l) = true
        · have ea : (nI (a l)).toNatClampNeg = a l := nI_clamp (by omega)
          have va : vp_in (nI (a l)) 6 := nI_in (by omega) (by decide)
          have eo : nI s ||| (1 : Int32) <<< (nI l &&& 31) = nI (2 ^ l + s) := by rw [wy_1l l (by omega), wy_or, wy_or_u hs]
          rw [if_pos hm, if_pos hm, eo, ea]
          obtain ⟨p1, p2, p3⟩ := pu_245 hS hp f6 f7 f8
          generalize xm_245 M (nI (a l)) (nI (b l)) = M1 at p1 p2 ⊢
          obtain ⟨i1, i2, i3, i4⟩ := ih (l + 1) n M1 _ c s x (by omega) (by omega) (wy_bx_c hB (wy_fz_p p2)) p1 (wy_at_p p2 hx) hc (by omega) hs1
          generalize xr_bhd n M1 (nI (l + 1)) (nI s) = M2 at i2 i3 i4 ⊢
          obtain ⟨k1, k2, k3⟩ := pu_245 i3 hp f7 f6 (fun q => f8 q.symm)
          rw [pu_gw_gw f8] at k1
          generalize xm_245 M2 (nI (b l)) (nI (a l)) = M3 at k1 k2 ⊢
          obtain ⟨r1, r2, r3⟩ := pu_244 k1 hp f6
          generalize xm_244 M3 (nI (a l)) = M4 at r1 r2 ⊢
          have F4 : wy_fz M M4 := wy_fz_t (wy_fz_p p2) (wy_fz_t i4 (wy_fz_t (wy_fz_p k2) (wy_fz_p r2)))
          obtain ⟨j1, j2, j3, j4⟩ := ih (l + 1) n M4 _ (c + 1) (2 ^ l + s) _ (by omega) (by omega) (wy_bx_c hB F4) r1 (wy_at_p r2 (wy_at_p k2 i2)) (wy_pc_u c s hs hc) (by omega) (by rw [Nat.pow_succ]; omega)
          generalize xr_bhd n M4 (nI (l + 1)) (nI (2 ^ l + s)) = M5 at j2 j3 j4 ⊢
          have q1 : M5.2.1 181 (a l) = (pu_rf S (a l)).1 (a l) := (j3 (a l) f6).1
          have q2 : M5.2.1 182 (a l) = (pu_rf S (a l)).2 (a l) := (j3 (a l) f6).2
          rw [q1, q2]
          obtain ⟨u1, u2⟩ := pu_u3 (c := 180) (i := a l) j3 (x := (pu_rf S (a l)).1 (a l) + 1) (y := (pu_rf S (a l)).2 (a l) - 1)
          have et : (pu_set (pu_rf S (a l)).1 (a l) ((pu_rf S (a l)).1 (a l) + 1), pu_set (pu_rf S (a l)).2 (a l) ((pu_rf S (a l)).2 (a l) - 1)) = S := pu_tb_rf
          rw [et] at u1
          refine ⟨⟨fun y => absurd y c0, fun _ => ⟨f2, f2, f2, fun y => absurd y c1, fun _ => ⟨w2, fun _ => ⟨p3, i1, k3, r3, j1, va, va, va, va, trivial⟩, fun y => absurd hm y⟩⟩⟩, ?_, u1, wy_fz_t F4 (wy_fz_t j4 (wy_fz_p u2))⟩
          refine wy_at_p u2 ?_
          rw [List.map_append, List.foldl_append, wy_pr_n, wy_or_u hs]
          have eq : c * 1048576 + s + (1048576 + 2 ^ l) = (c + 1) * 1048576 + (2 ^ l + s) := by omega
          rw [eq]
          exact j2
        · rw [if_neg hm, if_neg hm]
          exact ⟨⟨fun y => absurd y c0, fun _ => ⟨f2, f2, f2, fun y => absurd y c1, fun _ => ⟨w2, fun y => absurd y hm, fun _ => trivial⟩⟩⟩, hx, hS, wy_fz_r M⟩
      · have c1 : ro_irem (f l) 2 = 1 := f5.mpr hw
        rw [if_pos c1, if_neg hw]
        obtain ⟨w1, w2⟩ := pu_240 hS hp f6 f7
        rw [w1]
        by_cases hm : pu_mc S (a l) (b l) = true
        · rw [if_pos hm, if_pos hm]
          obtain ⟨p1, p2, p3⟩ := pu_242 hS hp f6 f7 f8
          generalize xm_242 M (nI (a l)) (nI (b l)) = M1 at p1 p2 ⊢
          obtain ⟨i1, i2, i3, i4⟩ := ih (l + 1) n M1 _ c s x (by omega) (by omega) (wy_bx_c hB (wy_fz_p p2)) p1 (wy_at_p p2 hx) hc (by omega) hs1
          generalize xr_bhd n M1 (nI (l + 1)) (nI s) = M2 at i2 i3 i4 ⊢
          obtain ⟨k1, k2, k3⟩ := pu_242 i3 hp f7 f6 (fun q => f8 q.symm)
          rw [pu_gc_gc f8] at k1
          refine ⟨⟨fun y => absurd y c0, fun _ => ⟨f2, f2, f2, fun _ => ⟨w2, fun _ => ⟨p3, i1, k3, trivial⟩, fun y => absurd hm y⟩, fun y => absurd c1 y⟩⟩, wy_at_p k2 i2, k1, wy_fz_t (wy_fz_p p2) (wy_fz_t i4 (wy_fz_p k2))⟩
        · rw [if_neg hm, if_neg hm]
          exact ⟨⟨fun y => absurd y c0, fun _ => ⟨f2, f2, f2, fun _ => ⟨w2, fun y => absurd y hm, fun _ => trivial⟩, fun y => absurd c1 y⟩⟩, hx, hS, wy_fz_r M⟩
end WYJ

