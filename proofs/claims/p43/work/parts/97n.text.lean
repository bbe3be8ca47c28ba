/-! the class's calls, on: law, with the text that the law tells -/
section TEXT
variable {X : ro_Sx} {L : List (List Int32 × List Int32)} {M : ro_Mm}
def tb (j : Nat) : Int32 := [112, 45, 98, 47, 50, 43, 119, 47, 52, 45, 99, 47, 51, 43, 104, 37, 51, 43, 110].getD j (-1)
def tx (A : ro_Mm) (a : Nat) : Prop := A.2.1 16 5 = 19 ∧ (∀ i, i < 19 → A.2.1 17 i = tb i) ∧ A.2.1 16 6 = nI a
theorem tx_48 {A : ro_Mm} {a : Nat} (h : tx A a) (ha : a ≤ 19) : xf_48 A = tb a := by
  obtain ⟨h1, h2, h3⟩ := h
  have n0 : ¬ nI a < 0 := nI_pos (by omega)
  unfold xf_48
  rw [h3, h1, if_neg n0]
  by_cases z : a = 19
  · rw [if_pos (show (19 : Int32) ≤ nI a from nI_le (a := 19) (by omega) (by omega)), z]; rfl
  · rw [if_neg (show ¬ (19 : Int32) ≤ nI a from nI_ge (b := 19) (by omega) (by omega)), if_neg (show ¬ (120 : Int32) ≤ nI a from nI_ge (b := 120) (by omega) (by omega)), nI_clamp (by omega)]
    exact h2 a (by omega)
theorem tx_n {A : ro_Mm} {a : Nat} (h : tx A a) : tx (ro_sI A 16 6 (A.2.1 16 6 + 1)) (a + 1) := by
  obtain ⟨h1, h2, h3⟩ := h
  refine ⟨?_, fun i hi => ?_, ?_⟩
  · rw [ro_rd_s, if_neg (by omega)]; exact h1
  · rw [ro_sI_ne (by decide)]; exact h2 i hi
  · rw [ro_rd_s, if_pos ⟨rfl, rfl⟩, h3, nI_succ]
theorem tx_51 {A : ro_Mm} {a : Nat} {w : Int32} (h : tx A a) : tx (xm_51 A w) a := by
  obtain ⟨h1, h2, h3⟩ := h
  obtain ⟨⟨_, _, f3⟩, f4⟩ := pf_51 (A := A) (w := w)
  exact ⟨(f3 16 5 (by omega) (by decide)).trans h1, fun i hi => (f3 17 i (by omega) (by decide)).trans (h2 i hi), f4.trans h3⟩
def CF (F : ro_Mm → Int32 → Int32 → Bool × ro_Mm) (l a b : Nat) : Prop := ∀ A v2, tx A a → (F A (nI l) v2).1 = true ∧ tx (F A (nI l) v2).2 b
def CO (F : ro_Mm → Int32 → Bool × ro_Mm) (a b : Nat) : Prop := ∀ A v, tx A a → (F A v).1 = true ∧ tx (F A v).2 b
/-- a name -/
theorem tx_o1 (n : Nat) {a : Nat} (ha : a < 19) (h1 : pd (tb a) = false) (h2 : ∀ A : ro_Mm, ¬ xf_52 A (tb a) < 0) : CO (xr_par (n + 1)).2 a (a + 1) := by
  intro A v h
  have e := tx_48 h (by omega)
  have nd : ¬ xf_49 A (tb a) = true := by rw [pd_49, h1]; decide
  have e1 : ((xr_par (n + 1)).2 A v).1 = true := by
    show xfb_47 _ _ A v = true
    unfold xfb_47
    rw [e, if_neg nd, if_neg (h2 A)]
  have e2 : ((xr_par (n + 1)).2 A v).2 = xm_51 (ro_sI A 16 6 (A.2.1 16 6 + 1)) (-(tb a)) := by
    show xmb_47 _ _ A v = _
    unfold xmb_47
    rw [e, if_neg nd, if_neg (h2 A)]
  rw [e1, e2]
  exact ⟨rfl, tx_51 (tx_n h)⟩
/-- a number of one digit -/
theorem tx_o2 (n : Nat) {a : Nat} (ha : a < 19) (h1 : pd (tb a) = true) (h2 : pd (tb (a + 1)) = false) : CO (xr_par (n + 1)).2 a (a + 1) := by
  intro A v h
  have e := tx_48 h (by omega)
  have nd : xf_49 A (tb a) = true := by rw [pd_49, h1]
  have e1 : ((xr_par (n + 1)).2 A v).1 = true := by
    show xfb_47 _ _ A v = true
    unfold xfb_47
    rw [e, if_pos nd]
  have e2 : ((xr_par (n + 1)).2 A v).2 = xm_50 A := by
    show xmb_47 _ _ A v = _
    unfold xmb_47
    rw [e, if_pos nd]
  obtain ⟨m, hm⟩ : ∃ m, lp_N = m + 2 := ⟨99998, lp_N_eq⟩
  have hn := tx_n h
  have en := tx_48 hn (by omega)
  have e50 : (xg_50_4 lp_N A 0 0).2.2 = ro_sI A 16 6 (A.2.1 16 6 + 1) := by
    have nd2 : ¬ xf_49 (ro_sI A 16 6 (A.2.1 16 6 + 1)) (tb (a + 1)) = true := by rw [pd_49, h2]; decide
    rw [hm, xg_50_4, if_neg (by decide), e, if_pos nd, xg_50_4, if_neg (by decide), en, if_neg nd2]
  rw [e1, e2]
  refine ⟨rfl, ?_⟩
  unfold xm_50
  rw [e50]
  exact tx_51 hn
theorem tx_5 {n a b : Nat} (h : CO (xr_par n).2 a b) : CF (xr_par (n + 1)).1 5 a b := by
  intro A v2 hA
  have c : ¬ nI 5 ≤ (4 : Int32) := by decide
  have e1 : ((xr_par (n + 1)).1 A (nI 5) v2).1 = ((xr_par n).2 A v2).1 := by
    show xfb_46 (xr_par n).1 (xr_par n).2 A (nI 5) v2 = _
    unfold xfb_46
    rw [if_neg c]
  have e2 : ((xr_par (n + 1)).1 A (nI 5) v2).2 = ((xr_par n).2 A v2).2 := by
    show xmb_46 (xr_par n).1 (xr_par n).2 A (nI 5) v2 = _
    unfold xmb_46
    rw [if_neg c]
  rw [e1, e2]
  exact h A v2 hA
def TL (F46 : ro_Mm → Int32 → Int32 → Bool × ro_Mm) (F47 : ro_Mm → Int32 → Bool × ro_Mm) (l j b e : Nat) : Prop := ∀ A v2 k m, k + j < 100 → j < m → tx A b → ((xg_46_26 F46 F47 m A (nI k) (nI l) v2).1 = true → (xg_46_26 F46 F47 m A (nI k) (nI l) v2).2.1 = true) ∧ tx (xg_46_26 F46 F47 m A (nI k) (nI l) v2).2.2.2 e
theorem tl_0 {F46 : ro_Mm → Int32 → Int32 → Bool × ro_Mm} {F47 : ro_Mm → Int32 → Bool × ro_Mm} {l b : Nat} (hb : b ≤ 19) (h : ∀ A : ro_Mm, ¬ xf_54 A (nI l) (tb b) = true) : TL F46 F47 l 0 b b := by
  intro A v2 k m hk hm hA
  obtain ⟨m, rfl⟩ : ∃ n, m = n + 1 := ⟨m - 1, by omega⟩
  rw [xg_46_26, if_neg (show ¬ (120 : Int32) ≤ nI k from nI_ge (b := 120) (by omega) (by omega)), tx_48 hA hb, if_neg (h A)]
  exact ⟨fun q => Bool.noConfusion q, hA⟩
theorem tl_s {F46 : ro_Mm → Int32 → Int32 → Bool × ro_Mm} {F47 : ro_Mm → Int32 → Bool × ro_Mm} {l j b c e : Nat} (hb : b < 19) (h : ∀ A : ro_Mm, xf_54 A (nI l) (tb b) = true) (h2 : ¬ nI l = 2) (hc : CF F46 (l + 1) (b + 1) c) (hl : TL F46 F47 l j c e) : TL F46 F47 l (j + 1) b e := by
  intro A v2 k m hk hm hA
  obtain ⟨m, rfl⟩ : ∃ n, m = n + 1 := ⟨m - 1, by omega⟩
  obtain ⟨c1, c2⟩ := hc _ v2 (tx_n hA)
  rw [nI_succ l] at c1 c2
  rw [xg_46_26, if_neg (show ¬ (120 : Int32) ≤ nI k from nI_ge (b := 120) (by omega) (by omega)), tx_48 hA (by omega), if_pos (h A), if_pos c1, if_neg h2, ← nI_succ k]
  exact hl _ v2 (k + 1) m (by omega) (by omega) (tx_51 c2)
theorem tx_l {n l j a b e : Nat} (hl : l ≤ 4) (hj : j < 90) (h1 : CF (xr_par n).1 (l + 1) a b) (h2 : TL (xr_par n).1 (xr_par n).2 l j b e) : CF (xr_par (n + 1)).1 l a e := by
  intro A v2 hA
  have c : nI l ≤ (4 : Int32) := nI_le (b := 4) hl (by omega)
  obtain ⟨c1, c2⟩ := h1 A v2 hA
  rw [nI_succ] at c1 c2
  obtain ⟨d1, d2⟩ := h2 _ v2 0 lp_N (by omega) (lp_hug (by omega)) c2
  rw [nI_0] at d1 d2
  have e1 : ((xr_par (n + 1)).1 A (nI l) v2).1 = true := by
    show xfb_46 _ _ A (nI l) v2 = true
    unfold xfb_46
    rw [if_pos c, if_pos c1]
    by_cases z : (xg_46_26 (xr_par n).1 (xr_par n).2 lp_N ((xr_par n).1 A (nI l + 1) v2).2 0 (nI l) v2).1 = true
    · rw [if_pos z]; exact d1 z
    · rw [if_neg z]
  have e2 : ((xr_par (n + 1)).1 A (nI l) v2).2 = (xg_46_26 (xr_par n).1 (xr_par n).2 lp_N ((xr_par n).1 A (nI l + 1) v2).2 0 (nI l) v2).2.2.2 := by
    show xmb_46 _ _ A (nI l) v2 = _
    unfold xmb_46
    rw [if_pos c, if_pos c1]
  rw [e1, e2]
  exact ⟨rfl, d2⟩
theorem tn_52 {a : Nat} (h : tb a = 112 ∨ tb a = 98 ∨ tb a = 119 ∨ tb a = 99 ∨ tb a = 104 ∨ tb a = 110) (A : ro_Mm) : ¬ xf_52 A (tb a) < 0 := by
  rcases h with h | h | h | h | h | h <;> rw [h] <;> unfold xf_52 <;> decide
theorem tn_54 {A : ro_Mm} {l v : Int32} {p : Bool} (h : xf_54 ([], fun _ _ => 0, fun _ _ => 0, fun _ _ => .null) l v = p) : xf_54 A l v = p := h
/-- a term of one name; a term of a name and a number -/
theorem tx_t1 {a : Nat} (ha : a < 19) (h1 : pd (tb a) = false) (h2 : tb a = 112 ∨ tb a = 98 ∨ tb a = 119 ∨ tb a = 99 ∨ tb a = 104 ∨ tb a = 110) (h3 : ∀ A : ro_Mm, ¬ xf_54 A (nI 4) (tb (a + 1)) = true) : CF (xr_par 96).1 4 a (a + 1) :=
  tx_l (n := 95) (by decide) (j := 0) (by decide) (tx_5 (tx_o1 93 ha h1 (fun A => tn_52 h2 A))) (tl_0 (by omega) h3)
theorem tx_t2 {a : Nat} (ha : a + 2 < 19) (h1 : pd (tb a) = false) (h2 : tb a = 112 ∨ tb a = 98 ∨ tb a = 119 ∨ tb a = 99 ∨ tb a = 104 ∨ tb a = 110) (h3 : ∀ A : ro_Mm, xf_54 A (nI 4) (tb (a + 1)) = true) (h4 : pd (tb (a + 2)) = true) (h5 : pd (tb (a + 3)) = false) (h6 : ∀ A : ro_Mm, ¬ xf_54 A (nI 4) (tb (a + 3)) = true) : CF (xr_par 96).1 4 a (a + 3) :=
  tx_l (n := 95) (by decide) (j := 1) (by decide) (tx_5 (tx_o1 93 (by omega) h1 (fun A => tn_52 h2 A))) (tl_s (by omega) h3 (by decide) (tx_5 (tx_o2 93 (by omega) h4 h5)) (tl_0 (by omega) h6))
theorem tx_all : CF (xr_par 100).1 0 0 19 := by
  have t0 : CF (xr_par 96).1 4 0 1 := tx_t1 (by decide) (by decide) (by decide) (fun A => by rw [tn_54 (p := false) (by decide)]; decide)
  have t1 : CF (xr_par 96).1 4 2 5 := tx_t2 (by decide) (by decide) (by decide) (fun A => tn_54 (by decide)) (by decide) (by decide) (fun A => by rw [tn_54 (p := false) (by decide)]; decide)
  have t2 : CF (xr_par 96).1 4 6 9 := tx_t2 (by decide) (by decide) (by decide) (fun A => tn_54 (by decide)) (by decide) (by decide) (fun A => by rw [tn_54 (p := false) (by decide)]; decide)
  have t3 : CF (xr_par 96).1 4 10 13 := tx_t2 (by decide) (by decide) (by decide) (fun A => tn_54 (by decide)) (by decide) (by decide) (fun A => by rw [tn_54 (p := false) (by decide)]; decide)
  have t4 : CF (xr_par 96).1 4 14 17 := tx_t2 (by decide) (by decide) (by decide) (fun A => tn_54 (by decide)) (by decide) (by decide) (fun A => by rw [tn_54 (p := false) (by decide)]; decide)
  have t5 : CF (xr_par 96).1 4 18 19 := tx_t1 (by decide) (by decide) (by decide) (fun A => by rw [tn_54 (p := false) (by decide)]; decide)
  have l5 : TL (xr_par 96).1 (xr_par 96).2 3 0 19 19 := tl_0 (by decide) (fun A => by rw [tn_54 (p := false) (by decide)]; decide)
  have l4 : TL (xr_par 96).1 (xr_par 96).2 3 1 17 19 := tl_s (by decide) (fun A => tn_54 (by decide)) (by decide) t5 l5
  have l3 : TL (xr_par 96).1 (xr_par 96).2 3 2 13 19 := tl_s (by decide) (fun A => tn_54 (by decide)) (by decide) t4 l4
  have l2 : TL (xr_par 96).1 (xr_par 96).2 3 3 9 19 := tl_s (by decide) (fun A => tn_54 (by decide)) (by decide) t3 l3
  have l1 : TL (xr_par 96).1 (xr_par 96).2 3 4 5 19 := tl_s (by decide) (fun A => tn_54 (by decide)) (by decide) t2 l2
  have l0 : TL (xr_par 96).1 (xr_par 96).2 3 5 1 19 := tl_s (by decide) (fun A => tn_54 (by decide)) (by decide) t1 l1
  have c3 : CF (xr_par 97).1 3 0 19 := tx_l (n := 96) (by decide) (by decide) t0 l0
  have c2 : CF (xr_par 98).1 2 0 19 := tx_l (n := 97) (by decide) (j := 0) (by decide) c3 (tl_0 (by decide) (fun A => by rw [tn_54 (p := false) (by decide)]; decide))
  have c1 : CF (xr_par 99).1 1 0 19 := tx_l (n := 98) (by decide) (j := 0) (by decide) c2 (tl_0 (by decide) (fun A => by rw [tn_54 (p := false) (by decide)]; decide))
  exact tx_l (n := 99) (by decide) (j := 0) (by decide) c1 (tl_0 (by decide) (fun A => by rw [tn_54 (p := false) (by decide)]; decide))
theorem tx_45 {A : ro_Mm} (h : tx A 0) : (xg_45_2 lp_N A 0).1 = true ∧ (xg_45_2 lp_N A 0).2.1 = true := by
  obtain ⟨m, hm⟩ : ∃ m, lp_N = m + 1 := ⟨99999, lp_N_eq⟩
  have k : xf_46 A 0 0 = true ∧ tx (xm_46 A 0 0) 19 := by
    unfold xf_46 xm_46
    rw [rc_N_eq]
    exact tx_all A 0 h
  have k2 := tx_51 (w := -59) k.2
  have e1 := tx_48 k.2 (Nat.le_refl _)
  have e2 := tx_48 k2 (Nat.le_refl _)
  have e3 : (xm_51 (xm_46 A 0 0) (-59)).2.1 16 6 = (xm_51 (xm_46 A 0 0) (-59)).2.1 16 5 := by rw [k2.1, k2.2.2]; rfl
  rw [hm, xg_45_2, if_neg (by decide), if_pos k.1, e1, if_neg (by decide), e2, if_neg (by decide), if_pos e3]
  exact ⟨rfl, rfl⟩
def kS_l (c j : Nat) : Bool := (c == 16 && (j == 5 || j == 8)) || c == 19
theorem ca_law (hk : kv L M) (e1 : M.2.1 16 5 = 19) (e2 : ∀ i, i < 19 → M.2.1 17 i = tb i) : ro_cwp X 403 43 [.ref 4] M (fun r M2 => r = some (.int 1) ∧ kw kS_l M M2 ∧ ∃ L2, kv L2 M2) := by
  have hI := (kg_inv hk).1
  obtain ⟨z, q, T, ez, ez2⟩ := lw_tape hI
  have hz := (T 130 (Nat.le_refl _)).hz
  obtain ⟨s1, s2, s3⟩ := lw_S0 (A := kg L M) (B := kg L M) ez (fun _ _ => rfl) ez2 (fun _ _ => rfl)
  have BO := ls_loop T (v1 := 0) z 0 0 lp_N lp_N (lwA (kg L M)) (lwB (kg L M)) [] (by omega) (lp_hug (by omega)) (lp_hug (by omega)) (Nat.le_refl _) (Nat.le_refl _) (Nat.le_refl _) s1 s2 s3
  rw [nI_0] at BO
  obtain ⟨u1, u2, u3, u4, u5⟩ := BO
  have htx : tx (lwA (kg L M)) 0 := by
    refine ⟨?_, fun i hi => ?_, ?_⟩
    · rw [ro_rd_s, if_neg (by omega), ro_rd_s, if_neg (by omega), kg_c (by decide)]; exact e1
    · rw [ro_sI_ne (by decide), ro_sI_ne (by decide), kg_c (by decide)]; exact e2 i hi
    · rw [ro_rd_s, if_neg (by omega), ro_rd_s, if_pos ⟨rfl, rfl⟩]; rfl
  obtain ⟨a1, a2⟩ := tx_45 htx
  rw [a2] at u5
  obtain ⟨fA, _, w3⟩ := u5
  obtain ⟨_, L1, ln, lm, lc1, hS⟩ := w3.resolve_right (fun x => absurd x.1 (by decide))
  have m45 : xm_45 (lwA (kg L M)) = (xg_45_2 lp_N (lwA (kg L M)) 0).2.2.2 := rfl
  have E : xf_45 (ro_sI (ro_sI (kg L M) 16 6 (0 : Int32)) 16 7 (0 : Int32)) = true := by
    show xf_45 (lwA (kg L M)) = true
    unfold xf_45; rw [if_pos a1]; exact a2
  generalize hA' : (xg_45_2 lp_N (lwA (kg L M)) 0).2.2.2 = A' at *
  have m44 : xm_45 (ro_sI (ro_sI (kg L M) 16 6 (0 : Int32)) 16 7 (0 : Int32)) = A' := m45
  have h7 : A'.2.1 16 7 = nI (lw_codes L1).length := hS.1.2.2.2
  obtain ⟨k1, k2, k3, k4, k5, k6⟩ := c44 lc1 (v1 := ro_b true) (lw_codes L1).length 0 lp_N (ro_sI A' 16 5 0) (by omega) (lp_hug (by omega)) (by rw [ro_rd_s, if_neg (by omega)]; exact h7)
  rw [nI_0] at k1 k2 k3 k4 k5 k6
  generalize hG : (xg_44_31 lp_N (ro_sI A' 16 5 0) 0 (ro_b true)).2 = G at *
  have hG7 : G.2.1 16 7 = nI (lw_codes L1).length := by rw [k4 16 7 (by decide), ro_rd_s, if_neg (by omega)]; exact h7
  have tt : (true : Bool) = true := rfl
  have m43 : xm_43 (kg L M) = ro_sI G 16 8 (nI (lw_codes L1).length) := by
    unfold xm_43 xm_44; rw [E, if_pos tt, m44, hG, hG7]
  have f43 : xf_43 (kg L M) = 1 := by
    unfold xf_43 xf_44; rw [E, if_pos tt, if_neg (by decide)]
  have HC : ∀ c j, ¬ (c = 16 ∧ (j = 5 ∨ j = 6 ∨ j = 7 ∨ j = 8)) → c ≠ 18 → c ≠ 19 → (ro_sI G 16 8 (nI (lw_codes L1).length)).2.1 c j = (kg L M).2.1 c j := fun c j n1 n2 n3 => by
    rw [ro_rd_s, if_neg (by omega), k4 c j n3, ro_rd_s, if_neg (by omega)]; exact fA.2.2 c j (by omega) n2
  have h := kc_w (S := kS_l) (A := some (.int (xf_43 (kg L M)))) hk rfl rfl (xs_43 (X := X) (kg_lay hk.1) (all_5 hI).1) (fun c j h1 h2 h3 => by
      unfold kS_l at h3
      simp only [Bool.or_eq_false_iff, Bool.and_eq_false_iff, beq_eq_false_iff_ne] at h3
      have n18 : c ≠ 18 := fun e => by rw [e] at h2; exact Bool.noConfusion h2
      have n166 : ¬ (c = 16 ∧ j = 6) := fun e => by rw [e.1, e.2] at h2; exact Bool.noConfusion h2
      have n167 : ¬ (c = 16 ∧ j = 7) := fun e => by rw [e.1, e.2] at h2; exact Bool.noConfusion h2
      rw [m43]
      exact HC c j (by omega) n18 h3.2)
    (fun c j h1 h2 h3 => by
      rw [m43]
      show G.2.2.1 c j = _
      rw [k3]; show A'.2.2.1 c j = _; rw [fA.2.1])
  refine ro_cwp_up (Nat.le_refl _) ?_ h
  rintro r M2 ⟨g1, g2, g3⟩
  have hI2 : ∀ c j, c < 163 → ro_lv c j = true → kS_l c j = false → M2.2.1 c j = M.2.1 c j := g2.2.1
  obtain ⟨hq, ha, hb, hd, he, hf, hg, hh, hs⟩ := hk
  refine ⟨by rw [g1, f43], g2, L1, kw_q hq g2, ?_, fun i hi => ?_, ?_, ?_, ?_, ?_, ?_, fun s hs6 => ?_⟩
  · unfold kv_a
    rw [hI2 5 4 (by decide) rfl rfl, hI2 5 5 (by decide) rfl rfl, hI2 5 6 (by decide) rfl rfl, hI2 5 7 (by decide) rfl rfl]
    exact ha
  · rw [hI2 7 i (by decide) rfl rfl, hI2 8 i (by decide) rfl rfl, hI2 9 i (by decide) rfl rfl, hI2 10 i (by decide) rfl rfl]
    exact hb i hi
  · obtain ⟨d1, d2, d3, d4⟩ := hd
    unfold kv_d
    rw [hI2 5 10 (by decide) rfl rfl, hI2 5 11 (by decide) rfl rfl, hI2 5 12 (by decide) rfl rfl]
    refine ⟨d1, d2, d3, fun i hi => ?_⟩
    rw [hI2 13 i (by decide) rfl rfl, hI2 14 i (by decide) rfl rfl]
    exact d4 i hi
  · have e5 : M2.2.1 16 5 = 0 := by
      rw [(g3 16 (by decide)).1, m43, ro_rd_s, if_neg (by omega), k4 16 5 (by decide), ro_rd_s, if_pos ⟨rfl, rfl⟩]
    refine ⟨by rw [e5]; decide, fun i hi => ?_⟩
    rw [hI2 17 i (by decide) rfl rfl]
    exact he.2 i hi
  · obtain ⟨t1, t2, t3, t4, t5, t6, t7⟩ := hS
    refine ⟨t3, lc1, ?_, fun k hk2 => ?_, lm⟩
    · rw [(g3 16 (by decide)).1, m43, ro_rd_s, if_pos ⟨rfl, rfl⟩]
    · rw [(g3 19 (by decide)).1, m43, ro_sI_ne (by decide), k6 k (Nat.zero_le _) hk2, ro_sI_ne (by decide)]
      exact t4 k hk2
  · unfold kv_g
    rw [hI2 54 4 (by decide) rfl rfl, hI2 54 5 (by decide) rfl rfl]
    refine ⟨hg.1, fun i hi => ?_⟩
    rw [hI2 55 i (by decide) rfl rfl, hI2 56 i (by decide) rfl rfl, hI2 57 i (by decide) rfl rfl, hI2 58 i (by decide) rfl rfl]
    exact hg.2 i hi
  · unfold kv_h
    rw [hI2 59 2 (by decide) rfl rfl, hI2 59 3 (by decide) rfl rfl]
    refine ⟨hh.1, hh.2.1, fun i hi => ?_⟩
    rw [hI2 60 i (by decide) rfl rfl]
    exact hh.2.2 i hi
  · have l : ∀ j, M2.2.1 (23 + 2 * s) j = M.2.1 (23 + 2 * s) j := fun j => hI2 _ j (by omega) (by unfold ro_lv; rw [ro_ls_i hs6 j]; exact Bool.or_true _) (by
      unfold kS_l
      simp only [Bool.or_eq_false_iff, Bool.and_eq_false_iff, beq_eq_false_iff_ne]
      omega)
    unfold kv_sh
    rw [l, l, l, hI2 59 2 (by decide) rfl rfl]
    exact hs s hs6
end TEXT
