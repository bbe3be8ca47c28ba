/-! ways behind an evening: what is met, what a list comes to; the pair behind -/
section WYK
/-- what has been met, and what the list so far comes to -/
def wy_rl (x : wy_Me) (t : wy_T) : Prop := wy_gd t ∧ x.1 = nI t.1 ∧ ((t.1 = 0 ∧ x.2.1 = -2 ∧ x.2.2.1 = -2 ∧ x.2.2.2 = -1 ∧ t = wy_ne) ∨ (1 ≤ t.1 ∧ t.2.1 < 22020096 ∧ x.2.1 = nI (t.2.1 / 1048576) ∧ x.2.2.1 = nI (t.2.1 % 1048576) ∧ x.2.2.2 = nI t.2.2 ∧ t.2.2 < 1048576))
def wy_eo (e : Nat × Nat) : Prop := ∃ c, c ≤ 20 ∧ e.2 < 1048576 ∧ e.1 = c * 1048576 + e.2
theorem wy_e1_o {e : Nat × Nat} (h : wy_eo e) : wy_e1 (1, 0, 0) e = (1, e.1, e.2) := by
  obtain ⟨c, h1, h2, h3⟩ := h
  refine Prod.ext rfl (Prod.ext ?_ ?_)
  · show min (0 + e.1) 1099511627776 = e.1
    omega
  · show (0 ||| e.2) &&& 1048575 = e.2
    have := Nat.and_two_pow_sub_one_eq_mod e.2 20
    have z : 2 ^ 20 - 1 = 1048575 := by decide
    rw [z] at this
    rw [Nat.zero_or, this]
    exact Nat.mod_eq_of_lt h2
theorem wy_rl_s {x : wy_Me} {t : wy_T} {e : Nat × Nat} (h : wy_rl x t) (he : wy_eo e) : wy_rl (wy_mt x e) (wy_mo t (wy_e1 (1, 0, 0) e)) := by
  obtain ⟨h0, h1, h2⟩ := h
  refine ⟨wy_gd_mo h0 (wy_gd_e1 _ _), ?_, ?_⟩
  · show x.1 + 1 = nI (t.1 + 1)
    rw [h1, nI_succ]
  · rw [wy_e1_o he]
    obtain ⟨c, c1, c2, c3⟩ := he
    rcases h2 with ⟨a1, a2, a3, a4, a5⟩ | ⟨a1, a2, a3, a4, a5, a6⟩
    · right
      have bt : wy_bt x e = true := by
        unfold wy_bt
        rw [a2]
        rfl
      rw [a5]
      unfold wy_mt
      rw [if_pos bt, if_pos bt, a4]
      have m2 : (wy_mo wy_ne (1, e.1, e.2)).2.1 = e.1 := by
        show min 1099511627776 e.1 = e.1
        omega
      have m3 : (wy_mo wy_ne (1, e.1, e.2)).2.2 = e.2 := by
        show 1048575 &&& e.2 = e.2
        have := Nat.and_two_pow_sub_one_eq_mod e.2 20
        have z : 2 ^ 20 - 1 = 1048575 := by decide
        rw [z] at this
        rw [Nat.and_comm, this]
        exact Nat.mod_eq_of_lt c2
      rw [m2, m3]
      refine ⟨?_, by omega, rfl, ?_, ?_, c2⟩
      · show 1 ≤ 0 + 1
        omega
      · show nI e.2 = nI (e.1 % 1048576)
        congr 1
        omega
      · show (-1 : Int32) &&& nI e.2 = nI e.2
        exact Int32.neg_one_and
    · right
      have i1 : x.2.1 < 0 ↔ False := by rw [a3]; exact ⟨fun z => nI_pos (by omega) z, fun z => z.elim⟩
      have i2 : x.2.1 < nI (e.1 / 1048576) ↔ t.2.1 / 1048576 < e.1 / 1048576 := by rw [a3]; exact nI_ltI (by omega) (by omega)
      have i3 : nI (e.1 / 1048576) = x.2.1 ↔ e.1 / 1048576 = t.2.1 / 1048576 := by rw [a3]; exact nI_eq (by omega) (by omega)
      have i4 : nI e.2 ≤ x.2.2.1 ↔ e.2 ≤ t.2.1 % 1048576 := by rw [a4]; exact nI_leI (by omega) (by omega)
      have bt : wy_bt x e = true ↔ e.1 ≤ t.2.1 := by
        unfold wy_bt
        rw [decide_eq_false (p := x.2.1 < 0) (fun z => i1.mp z)]
        by_cases p2 : t.2.1 / 1048576 < e.1 / 1048576
        · rw [decide_eq_true (i2.mpr p2)]
          exact ⟨fun z => by simp at z, fun z => by omega⟩
        · rw [decide_eq_false (fun z => p2 (i2.mp z))]
          by_cases p3 : e.1 / 1048576 = t.2.1 / 1048576
          · rw [decide_eq_true (i3.mpr p3)]
            by_cases p4 : e.2 ≤ t.2.1 % 1048576
            · rw [decide_eq_true (i4.mpr p4)]
              exact ⟨fun _ => by omega, fun _ => rfl⟩
            · rw [decide_eq_false (fun z => p4 (i4.mp z))]
              exact ⟨fun z => by simp at z, fun z => by omega⟩
          · rw [decide_eq_false (fun z => p3 (i3.mp z))]
            exact ⟨fun _ => by omega, fun _ => rfl⟩
      unfold wy_mt
      have m3 : x.2.2.2 &&& nI e.2 = nI (t.2.2 &&& e.2) := by rw [a5]; exact nx_and _ _
      have m4 : t.2.2 &&& e.2 < 1048576 := Nat.lt_of_le_of_lt Nat.and_le_left a6
      by_cases q : e.1 ≤ t.2.1
      · rw [if_pos (bt.mpr q), if_pos (bt.mpr q)]
        have m2 : (wy_mo t (1, e.1, e.2)).2.1 = e.1 := Nat.min_eq_right q
        rw [m2]
        refine ⟨?_, by omega, rfl, ?_, m3, m4⟩
        · show 1 ≤ t.1 + 1
          omega
        · show nI e.2 = nI (e.1 % 1048576)
          congr 1
          omega
      · rw [if_neg (fun z => q (bt.mp z)), if_neg (fun z => q (bt.mp z))]
        have m2 : (wy_mo t (1, e.1, e.2)).2.1 = t.2.1 := Nat.min_eq_left (show t.2.1 ≤ e.1 by omega)
        rw [m2]
        refine ⟨?_, a2, a3, a4, m3, m4⟩
        show 1 ≤ t.1 + 1
        omega
theorem wy_rl_l : ∀ (L : List (Nat × Nat)) (x : wy_Me) (t : wy_T), (∀ e, e ∈ L → wy_eo e) → wy_rl x t → wy_rl (L.foldl wy_mt x) (wy_mo t (wy_ph L (1, 0, 0)))
  | [], x, t, _, h => by
    show wy_rl x (wy_mo t wy_ne)
    rw [wy_ne_r h.1]
    exact h
  | e :: L, x, t, he, h => by
    show wy_rl (L.foldl wy_mt (wy_mt x e)) (wy_mo t (wy_mo (wy_e1 (1, 0, 0) e) (wy_ph L (1, 0, 0))))
    rw [← wy_mo_a]
    exact wy_rl_l L _ _ (fun y hy => he y (List.mem_cons_of_mem _ hy)) (wy_rl_s h (he e (List.mem_cons_self ..)))
theorem wy_ph_n (e : wy_T) : ∀ L : List (Nat × Nat), (wy_ph L e).1 = L.length * e.1
  | [] => (Nat.zero_mul _).symm
  | s :: L => by
    show e.1 + (wy_ph L e).1 = (L.length + 1) * e.1
    rw [wy_ph_n e L, Nat.succ_mul, Nat.add_comm]
theorem wy_R_el {wh : Nat → Bool} {a b : Nat → Nat} {td : pu_T → Bool} : ∀ (d l : Nat) (S : pu_T) (e : Nat × Nat), e ∈ wy_R wh a b td d l S → ∃ c m, e.2 = 2 ^ l * m ∧ e.2 < 2 ^ (l + d) ∧ e.1 = c * 1048576 + e.2 ∧ c ≤ d
  | 0, l, S, e, h => by
    unfold wy_R at h
    split at h
    · have e0 : e = (0, 0) := List.mem_singleton.mp h
      subst e0
      exact ⟨0, 0, rfl, Nat.two_pow_pos _, rfl, Nat.le_refl _⟩
    · cases h
  | d + 1, l, S, e, h => by
    have ih := wy_R_el (wh := wh) (a := a) (b := b) (td := td) d (l + 1)
    have pw : l + 1 + d = l + (d + 1) := by omega
    have up : ∀ Q, e ∈ wy_R wh a b td d (l + 1) Q → ∃ c m, e.2 = 2 ^ l * m ∧ e.2 < 2 ^ (l + (d + 1)) ∧ e.1 = c * 1048576 + e.2 ∧ c ≤ d + 1 := by
      intro Q hQ
      obtain ⟨c, m, h1, h2, h3, h4⟩ := ih Q e hQ
      exact ⟨c, 2 * m, by rw [h1, Nat.pow_succ, Nat.mul_assoc], by rw [← pw]; exact h2, h3, by omega⟩
    unfold wy_R at h
    split at h
    · split at h
      · rcases List.mem_append.mp h with h | h
        · exact up _ h
        · obtain ⟨y, hy, ey⟩ := List.mem_map.mp h
          obtain ⟨c, m, h1, h2, h3, h4⟩ := ih _ y hy
          have lt : 2 ^ l < 2 ^ (l + 1) := Nat.pow_lt_pow_right (by decide) (by omega)
          have o : y.2 ||| 2 ^ l = y.2 + 2 ^ l := by
            rw [h1]
            exact (Nat.two_pow_add_eq_or_of_lt lt m).symm
          have b2 : 2 ^ l < 2 ^ (l + 1 + d) := Nat.pow_lt_pow_right (by decide) (by omega)
          refine ⟨c + 1, 2 * m + 1, ?_, ?_, ?_, by omega⟩
          · rw [← ey]
            show y.2 ||| 2 ^ l = _
            rw [o, h1, Nat.pow_succ, Nat.mul_assoc, Nat.mul_add, Nat.mul_one]
          · rw [← ey, ← pw]
            exact Nat.or_lt_two_pow h2 b2
          · rw [← ey]
            show y.1 + (1048576 + 2 ^ l) = (c + 1) * 1048576 + (y.2 ||| 2 ^ l)
            rw [o]
            omega
      · cases h
    · split at h
      · exact up _ h
      · cases h
theorem wy_lv_o {c j : Nat} (h : ro_lv c j = true) : c < 64 ∨ 162 < c := by
  unfold ro_lv at h
  rw [Bool.or_eq_true] at h
  rcases h with h | h
  · unfold ro_lr at h
    split at h <;> first | omega | exact Bool.noConfusion h
  · unfold ro_ls at h
    simp only [Bool.or_eq_true, Bool.and_eq_true, beq_iff_eq] at h
    omega
theorem wy_lj_o {c : Nat} (h : ro_lj c = true) : c < 153 ∨ 162 < c := by
  unfold ro_lj at h
  simp only [Bool.or_eq_true, beq_iff_eq] at h
  omega
theorem wy_eqv {M A C : ro_Mm} (h : ro_eqv M A) (f : wy_f3 A C) (hL : ro_lay C) : ro_eqv M C :=
  ⟨hL, fun c j e => (f.2.1 c j (wy_lv_o e)).trans (h.2.1 c j e), fun c j e => (f.2.2 c j (wy_lj_o e)).trans (h.2.2 c j e)⟩
theorem wy_fz_e {M A B : ro_Mm} (h : ro_eqv M A) (f : wy_fz A B) : ro_eqv M B := by
  refine ⟨⟨f.1.trans h.1.1, fun e he => by rw [f.2.1]; exact h.1.2 e he⟩, fun c j e => ?_, fun c j e => by rw [f.2.1]; exact h.2.2 c j e⟩
  refine (f.2.2 c j (ro_lv_ne e rfl) (ro_lv_ne e rfl) ?_).trans (h.2.1 c j e)
  rintro ⟨q1, q2, q3⟩
  subst q1
  have : j = 38 ∨ j = 39 ∨ j = 40 ∨ j = 41 := by omega
  rcases this with q | q | q | q <;> subst q <;> exact Bool.noConfusion e
theorem wy_lv_of {M : ro_Mm} (h : ro_lev M) : ∃ c0 c, wy_lv M c0 c := by
  rcases h with ⟨a, b⟩ | ⟨a, b⟩
  · refine ⟨153, 158, ?_, ?_, Or.inl ⟨rfl, rfl⟩⟩
    · unfold lft; rw [a]
    · unfold lnt; rw [b]
  · refine ⟨158, 153, ?_, ?_, Or.inr ⟨rfl, rfl⟩⟩
    · unfold lft; rw [a]
    · unfold lnt; rw [b]
/-- purses as they are now, none for those who aren't -/
def wy_S0 (M : ro_Mm) (p : Nat) : pu_T := (fun k => if k < p then M.2.1 7 k else 0, fun k => if k < p then M.2.1 8 k else 0)
theorem wy_S0_ok {M : ro_Mm} (h : ro_Inv M) {p : Nat} : wy_ok (wy_S0 M p) := by
  have hb := h.2.1.2.1
  have bd : ∀ c k, (0 : Int32) ≤ M.2.1 c k → M.2.1 c k ≤ 20 → 0 ≤ (M.2.1 c k).toInt ∧ (M.2.1 c k).toInt ≤ 20 := fun c k a b => ⟨Int32.le_iff_toInt_le.mp a, Int32.le_iff_toInt_le.mp b⟩
  intro n hn
  by_cases q : n < 6
  · rw [wy_v1 q]
    show 0 ≤ (if n < p then M.2.1 7 n else 0 : Int32).toInt ∧ (if n < p then M.2.1 7 n else 0 : Int32).toInt ≤ 20
    split
    · exact bd 7 n (hb n q).1.2.1 (hb n q).1.2.2
    · decide
  · obtain ⟨m, rfl⟩ : ∃ m, n = 6 + m := ⟨n - 6, by omega⟩
    rw [wy_v2]
    show 0 ≤ (if m < p then M.2.1 8 m else 0 : Int32).toInt ∧ (if m < p then M.2.1 8 m else 0 : Int32).toInt ≤ 20
    split
    · exact bd 8 m (hb m (by omega)).2.1.2.1 (hb m (by omega)).2.1.2.2
    · decide
/-- as told: by numbers -/
theorem wy_td_n {p z : Nat} (hp : p ≤ 6) {g : Nat → Int32} {S : pu_T} (hS : wy_ok S) : wy_td p z g S = true ↔ ∀ n, n < 12 → wy_in (wy_v S n) (wy_tw p z (fun y => (g y).toInt) n).1 := by
  rw [wy_td_i]
  constructor
  · intro h n hn
    unfold wy_tw
    by_cases q : n % 6 < p ∧ 2 * (n % 6) + n / 6 < z
    · rw [if_pos q]
      have m := h (2 * (n % 6) + n / 6) q.2 (by omega)
      have ev : wy_v S n = (g (2 * (n % 6) + n / 6)).toInt := by
        by_cases y : n < 6
        · rw [wy_v1 y]
          have := m.1 (by omega)
          rw [show (2 * (n % 6) + n / 6) / 2 = n by omega] at this
          rw [this]
        · obtain ⟨i, rfl⟩ : ∃ i, n = 6 + i := ⟨n - 6, by omega⟩
          rw [wy_v2]
          have := m.2 (by omega)
          rw [show (2 * ((6 + i) % 6) + (6 + i) / 6) / 2 = i by omega] at this
          rw [this]
      exact ⟨by rw [ev]; exact Int.le_refl _, by rw [ev]; exact Int.le_refl _⟩
    · rw [if_neg q]
      exact hS n hn
  · intro h k hk hk2
    have main : ∀ n, n < 12 → n % 6 = k / 2 → n / 6 = k % 2 → (wy_v S n) = (g k).toInt := by
      intro n hn q1 q2
      have i := h n hn
      unfold wy_tw at i
      have ek : 2 * (n % 6) + n / 6 = k := by omega
      rw [if_pos (by omega), ek] at i
      have i1 := i.1
      have i2 := i.2
      simp only at i1 i2
      omega
    refine ⟨fun m => ?_, fun m => ?_⟩
    · have e := main (k / 2) (by omega) (by omega) (by omega)
      rw [wy_v1 (by omega)] at e
      exact Int32.toInt_inj.mp e
    · have e := main (6 + k / 2) (by omega) (by omega) (by omega)
      rw [wy_v2] at e
      exact Int32.toInt_inj.mp e
/-- what both answer -/
def wy_an (x : wy_T) (v3 : Int32) : Int32 := if v3 = 0 then (if x.1 = 0 then 0 else nI x.1) else if v3 = 3 then (if x.1 = 0 then 0 else nI x.2.2) else if x.1 = 0 then -2 else if v3 = 1 then nI (x.2.1 / 1048576) else nI (x.2.1 % 1048576)
theorem wy_cls {C : ro_Mm} {x : wy_T} (h : wy_is C x) (hx : x.1 < 2 ^ 31) {v3 : Int32} : (if v3 = (0 : Int32) then (xf_136 C) else (if v3 = (3 : Int32) then (xf_137 C) else (if (xf_136 C) = (0 : Int32) then (-2 : Int32) else (if v3 = (1 : Int32) then (xf_138 C) else (xf_139 C))))) = wy_an x v3 := by
  unfold wy_an
  rcases h with ⟨h1, h2⟩ | ⟨h1, h2, h3, h4, h5, h6⟩
  · have le : C.2.1 (lft C) 4 ≤ 0 := by rw [h2]; decide
    have e6 : xf_136 C = 0 := by unfold xf_136; rw [if_pos le]
    have e7 : xf_137 C = 0 := by unfold xf_137; rw [if_pos le]
    rw [e6, e7, if_pos rfl, if_pos h1, if_pos h1, if_pos h1]
  · have n0 : ¬ x.1 = 0 := by omega
    have e6 : xf_136 C = nI x.1 := by unfold xf_136; rw [if_neg h2, h3]
    have e7 : xf_137 C = nI x.2.2 := by unfold xf_137; rw [if_neg h2, h5]
    have e8 : xf_138 C = nI (x.2.1 / 1048576) := by
      unfold xf_138
      rw [if_neg h2, h4]
      exact pk_shrN h6 _ 20 (by decide)
    have e9 : xf_139 C = nI (x.2.1 % 1048576) := by
      unfold xf_139
      rw [if_neg h2, h4]
      exact pk_andN (by omega) 20 (by decide)
    have nz : ¬ nI x.1 = 0 := nI_ne0 (by omega) hx
    rw [e6, e7, e8, e9, if_neg nz, if_neg n0, if_neg n0, if_neg n0]
theorem wy_ref {B : ro_Mm} {m : wy_Me} {x : wy_T} (hm : wy_at B m) (h : wy_rl m x) (hx : x.1 < 2 ^ 31) {v3 : Int32} (hv : 0 ≤ v3 ∧ v3 ≤ 3) : (if v3 = (0 : Int32) then (B.2.1 163 38) else (if v3 = (1 : Int32) then (B.2.1 163 39) else (if v3 = (2 : Int32) then (B.2.1 163 40) else (if (B.2.1 163 38) = (0 : Int32) then (0 : Int32) else (B.2.1 163 41))))) = wy_an x v3 := by
  obtain ⟨m1, m2, m3, m4⟩ := hm
  obtain ⟨_, h1, h2⟩ := h
  unfold wy_an
  rw [m1, m2, m3, m4]
  have v : v3 = 0 ∨ v3 = 1 ∨ v3 = 2 ∨ v3 = 3 := by grind
  rcases h2 with ⟨a1, a2, a3, a4, a5⟩ | ⟨a1, a2, a3, a4, a5, a6⟩
  · have z : m.1 = 0 := by rw [h1, a1]; rfl
    rw [a2, a3, z]
    rcases v with v | v | v | v <;> subst v
    · simp [a1]
    · simp [a1]
    · simp [a1]
    · simp [a1]
  · have n0 : ¬ x.1 = 0 := by omega
    have nz : ¬ nI x.1 = 0 := nI_ne0 (by omega) hx
    rw [h1, a3, a4, a5, if_neg n0, if_neg n0, if_neg n0, if_neg nz]
    rcases v with v | v | v | v <;> subst v
    · rfl
    · rfl
    · rfl
    · rfl
end WYK

