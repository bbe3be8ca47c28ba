/-! pair behind -/
section WYL
variable {X : ro_Sx}
/-- the main case: both rows are of bytes -/
theorem wy_main {M : ro_Mm} (h : ro_Inv2 M) {v1 v2 v3 : Int32} (b1 : ro_bs v1 = true) (b2 : ro_bs v2 = true) (b3 : 0 ≤ v3 ∧ v3 ≤ 3) (y1 : xf_22 M (ro_sc v1) = true) (y2 : xf_22 M (ro_sc v2) = true) :
    xp_66 M (ro_sc v1) ∧ xp_120 (xm_66 M (ro_sc v1)) (ro_sc v2) ∧ ∀ C, xm_120 (xm_66 M (ro_sc v1)) (ro_sc v2) = C → ro_lay C → ro_eqv M C ∧
      ∃ B, ro_sI (ro_sI (ro_sI (ro_sI (ro_sI (ro_sI (ro_sI C 163 35 v1) 163 36 v2) 163 37 (xf_237 (ro_sI (ro_sI C 163 35 v1) 163 36 v2) v1 (20 : Int32))) 163 38 (0 : Int32)) 163 39 (-2 : Int32)) 163 40 (-2 : Int32)) 163 41 (-1 : Int32) = B ∧ xp_237 (ro_sI (ro_sI C 163 35 v1) 163 36 v2) v1 (20 : Int32) ∧ xp_228 B ∧ xp_269 (xm_228 B) (0 : Int32) (0 : Int32) ∧ ro_eqv M (xm_269 (xm_228 B) (0 : Int32) (0 : Int32)) ∧ (xm_269 (xm_228 B) (0 : Int32) (0 : Int32)).2.2.2 = C.2.2.2 ∧
        ∃ x : wy_T, (if v3 = (0 : Int32) then (xf_136 C) else (if v3 = (3 : Int32) then (xf_137 C) else (if (xf_136 C) = (0 : Int32) then (-2 : Int32) else (if v3 = (1 : Int32) then (xf_138 C) else (xf_139 C))))) = wy_an x v3 ∧ (if v3 = (0 : Int32) then ((xm_269 (xm_228 B) (0 : Int32) (0 : Int32)).2.1 163 38) else (if v3 = (1 : Int32) then ((xm_269 (xm_228 B) (0 : Int32) (0 : Int32)).2.1 163 39) else (if v3 = (2 : Int32) then ((xm_269 (xm_228 B) (0 : Int32) (0 : Int32)).2.1 163 40) else (if ((xm_269 (xm_228 B) (0 : Int32) (0 : Int32)).2.1 163 38) = (0 : Int32) then (0 : Int32) else ((xm_269 (xm_228 B) (0 : Int32) (0 : Int32)).2.1 163 41))))) = wy_an x v3 := by
  obtain ⟨p, hp, e1, e2⟩ := ro_ppl h.1
  obtain ⟨f, z, len, hz, e191, hf, hl, x66, hA, fA, eA, rA⟩ := ev_read h.1 b1 y1
  obtain ⟨g0, z2, hz2, t1, t2, t3⟩ := by_yes h.1 b2 y2
  have hlen : len ≤ 20 := hl.1
  have hc2 : ro_is (ro_sc v2) := ro_sc_is v2
  have n35 : ro_sc v2 ≠ 39 ∧ ro_sc v2 ≠ 40 ∧ ro_sc v2 ≠ 41 ∧ ro_sc v2 ≠ 35 := by unfold ro_is at hc2; omega
  -- the offers
  have off : ∀ l, l < len → (f l / 20).toNatClampNeg < p ∧ (ro_irem (f l) 20 / 2).toNatClampNeg < p ∧ (f l / 20).toNatClampNeg ≠ (ro_irem (f l) 20 / 2).toNatClampNeg ∧ f l / 20 = nI (f l / 20).toNatClampNeg ∧ ro_irem (f l) 20 / 2 = nI (ro_irem (f l) 20 / 2).toNatClampNeg := by
    intro l hl2
    obtain ⟨i, j, hi, hj, hij, ei, ej⟩ := ev_57_i hp e1 (hl.2.2.1 l hl2).2
    have ci : (nI i).toNatClampNeg = i := nI_clamp (by omega)
    have cj : (nI j).toNatClampNeg = j := nI_clamp (by omega)
    rw [ei, ej, ci, cj]
    exact ⟨hi, hj, hij, rfl, rfl⟩
  have hwh : ∀ l, (decide (ro_irem (f l) 2 = 0) : Bool) = true ↔ ro_irem (f l) 2 = 0 := fun l => decide_eq_true_iff
  generalize hwe : (fun l => (decide (ro_irem (f l) 2 = 0) : Bool)) = wh at *
  have hwh2 : ∀ l, wh l = true ↔ ro_irem (f l) 2 = 0 := fun l => by rw [← hwe]; exact hwh l
  have hae : ∃ a : Nat → Nat, a = fun l => (f l / 20).toNatClampNeg := ⟨_, rfl⟩
  have hbe : ∃ b : Nat → Nat, b = fun l => (ro_irem (f l) 20 / 2).toNatClampNeg := ⟨_, rfl⟩
  obtain ⟨a, hae⟩ := hae
  obtain ⟨b, hbe⟩ := hbe
  have off2 : ∀ l, l < len → a l < p ∧ b l < p ∧ a l ≠ b l ∧ f l / 20 = nI (a l) ∧ ro_irem (f l) 20 / 2 = nI (b l) := fun l hl2 => by rw [hae, hbe]; exact off l hl2
  have hge : ∃ g : Nat → Int32, g = fun k => xf_25 M (ro_sc v2) (nI k) := ⟨_, rfl⟩
  obtain ⟨g, hge⟩ := hge
  have hg : ∀ k, xf_25 M (ro_sc v2) (nI k) = g k := fun k => by rw [hge]
  have low : ∀ x j, x ≠ 39 → x ≠ 40 → x ≠ 41 → x ≠ 35 → (xm_66 M (ro_sc v1)).2.1 x j = M.2.1 x j := fun x j n1 n2 n3 n4 => fA.2.2 x j n1 n2 n3 (fun q => n4 q.1)
  obtain ⟨c0, c, lvA⟩ := wy_lv_of (M := xm_66 M (ro_sc v1)) (ro_lev_c h.2 (by rw [fA.2.1]))
  have m120 := wy_120 (M := xm_66 M (ro_sc v1)) (wh := wh) (a := a) (b := b) (K := len) (p := p) (z := z2) (ch := ro_sc v2) (t := fun y => (g y).toInt) (td := wy_td p z2 g) (S := wy_S0 M p) lvA hlen eA
    (fun l hl2 => by
      obtain ⟨r1, r2, r3⟩ := rA l hl2
      rw [r1, r2, r3]
      exact ⟨(off2 l hl2).2.2.2.1, (off2 l hl2).2.2.2.2, (hwh2 l).symm⟩)
    (fun l hl2 => ⟨Nat.lt_of_lt_of_le (off2 l hl2).1 hp, Nat.lt_of_lt_of_le (off2 l hl2).2.1 hp, (off2 l hl2).2.2.1⟩) hp hz2
    ((low 5 4 (by omega) (by omega) (by omega) (by omega)).trans e1)
    ((low _ 2 n35.1 n35.2.1 n35.2.2.1 n35.2.2.2).trans t1) hc2
    (fun y hy => by
      have e : xf_25 (xm_66 M (ro_sc v1)) (ro_sc v2) (nI y) = g y := by
        rw [← hg]
        unfold xf_25 xf_26
        rw [low _ 2 n35.1 n35.2.1 n35.2.2.1 n35.2.2.2, fA.2.1]
      have e3 : iI (g y).toInt = g y := Int32.ofInt_toInt _
      show xf_25 (xm_66 M (ro_sc v1)) (ro_sc v2) (nI y) = iI (g y).toInt ∧ (iI (g y).toInt).toInt = (g y).toInt
      rw [e3]
      exact ⟨e, rfl⟩)
    (wy_S0_ok h.1)
    (fun i hi => by
      rw [low 7 i (by omega) (by omega) (by omega) (by omega), low 8 i (by omega) (by omega) (by omega) (by omega)]
      exact ⟨(if_pos hi).symm, (if_pos hi).symm⟩)
    (fun i _ hi => ⟨if_neg hi, if_neg hi⟩)
    (fun S hS => wy_td_n hp hS)
  obtain ⟨n1, n2, n3⟩ := m120
  refine ⟨x66, n1, fun C hC hLC => ?_⟩
  rw [hC] at n2 n3
  have eqC : ro_eqv M C := wy_eqv hA n2 hLC
  refine ⟨eqC, _, rfl, ?_⟩
  have hv1 : vp_in v1 6 := (xp_235_t (M := M) b1).1
  have hv2 : vp_in v2 6 := (xp_235_t (M := M) b2).1
  have eqB1 : ro_eqv M (ro_sI (ro_sI C 163 35 v1) 163 36 v2) := ro_eqv_s (ro_eqv_s eqC rfl) rfl
  have k237 := ev_237 h.1 eqB1 hv1 hz e191 hf hl (m := 20) (by omega) 20 0 lp_N (by omega) (Nat.zero_le _) (lp_hug (by omega))
  rw [Nat.min_eq_right hlen] at k237
  have e237 : xf_237 (ro_sI (ro_sI C 163 35 v1) 163 36 v2) v1 (20 : Int32) = nI len := k237.1
  rw [e237]
  refine ⟨⟨k237.2, trivial⟩, ?_⟩
  have eqB : ro_eqv M (ro_sI (ro_sI (ro_sI (ro_sI (ro_sI (ro_sI (ro_sI C 163 35 v1) 163 36 v2) 163 37 (nI len)) 163 38 (0 : Int32)) 163 39 (-2 : Int32)) 163 40 (-2 : Int32)) 163 41 (-1 : Int32)) := ro_eqv_s (ro_eqv_s (ro_eqv_s (ro_eqv_s (ro_eqv_s eqB1 rfl) rfl) rfl) rfl) rfl
  have rB : ∀ j, (ro_sI (ro_sI (ro_sI (ro_sI (ro_sI (ro_sI (ro_sI C 163 35 v1) 163 36 v2) 163 37 (nI len)) 163 38 (0 : Int32)) 163 39 (-2 : Int32)) 163 40 (-2 : Int32)) 163 41 (-1 : Int32)).2.1 163 j = if j = 41 then -1 else if j = 40 then -2 else if j = 39 then -2 else if j = 38 then 0 else if j = 37 then nI len else if j = 36 then v2 else if j = 35 then v1 else C.2.1 163 j := by
    intro j
    rw [ro_rd_s, ro_rd_s, ro_rd_s, ro_rd_s, ro_rd_s, ro_rd_s, ro_rd_s]
    simp only [true_and]
  have refB : (ro_sI (ro_sI (ro_sI (ro_sI (ro_sI (ro_sI (ro_sI C 163 35 v1) 163 36 v2) 163 37 (nI len)) 163 38 (0 : Int32)) 163 39 (-2 : Int32)) 163 40 (-2 : Int32)) 163 41 (-1 : Int32)).2.2.2 = C.2.2.2 := rfl
  generalize ro_sI (ro_sI (ro_sI (ro_sI (ro_sI (ro_sI (ro_sI C 163 35 v1) 163 36 v2) 163 37 (nI len)) 163 38 (0 : Int32)) 163 39 (-2 : Int32)) 163 40 (-2 : Int32)) 163 41 (-1 : Int32) = B at eqB rB refB ⊢
  obtain ⟨d1, d2, d3⟩ := pu_228 h.1 eqB hp e2
  have eqD : ro_eqv M (xm_228 B) := pu_fr_e (Or.inr (Or.inr (Or.inr rfl))) eqB d3
  have rD : ∀ j, (xm_228 B).2.1 163 j = if j = 41 then -1 else if j = 40 then -2 else if j = 39 then -2 else if j = 38 then 0 else if j = 37 then nI len else if j = 36 then v2 else if j = 35 then v1 else C.2.1 163 j := fun j => (d3.2.2 163 j (by decide) (by decide)).trans (rB j)
  have refD : (xm_228 B).2.2.2 = C.2.2.2 := by rw [d3.2.1]; exact refB
  have e238 : ∀ x y, xf_238 (xm_228 B) x y = xf_238 M x y := fun x y => by unfold xf_238; rw [eqD.2.2 192 _ rfl]
  refine ⟨d1, ?_⟩
  generalize xm_228 B = D at d2 eqD rD refD e238 ⊢
  have hbx : wy_bx D wh a b len p z2 f g v1 v2 := by
    refine ⟨?_, ?_, ?_, (eqD.2.1 163 1 rfl).trans e2, (eqD.2.1 191 _ rfl).trans t2, hv2, fun k hk => ⟨?_, (t3 k hk).2⟩, fun l hl2 => ?_⟩
    · rw [rD]; rfl
    · rw [rD]; rfl
    · rw [rD]; rfl
    · rw [e238, ← (t3 k hk).1]; exact hg k
    · obtain ⟨o1, o2, o3, o4, o5⟩ := off2 l hl2
      obtain ⟨q1, q2⟩ := hf l (Nat.lt_of_lt_of_le hl2 hl.2.1)
      refine ⟨(e238 _ _).trans q1, q2, o4, o5, ?_, o1, o2, o3⟩
      rw [hwh2]
      rcases ev_irem2 (hl.2.2.1 l hl2).1 with q | q <;> rw [q] <;> decide
  have hat : wy_at D (0, -2, -2, -1) := ⟨by rw [rD]; rfl, by rw [rD]; rfl, by rw [rD]; rfl, by rw [rD]; rfl⟩
  have hpu : pu_at p D 180 (wy_S0 M p) := fun k hk => by
    obtain ⟨u1, u2⟩ := d2 k hk
    exact ⟨u1.trans (if_pos hk).symm, u2.trans (if_pos hk).symm⟩
  obtain ⟨s1, s2, s3, s4⟩ := wy_dfs hp hz2 hlen len 0 rc_N D (wy_S0 M p) 0 0 (0, -2, -2, -1) (by omega) (by rw [rc_N_eq]; omega) hbx hpu hat rfl (Nat.le_refl _) (Nat.two_pow_pos _)
  have em : ∀ L : List (Nat × Nat), L.map (wy_pr (0 * 1048576 + 0) 0) = L := fun L => by
    have e : wy_pr (0 * 1048576 + 0) 0 = id := by
      funext y
      show (0 * 1048576 + 0 + y.1, 0 ||| y.2) = y
      rw [Nat.zero_mul, Nat.zero_add, Nat.zero_or]
    rw [e, List.map_id]
  rw [em] at s2
  rw [nI_0] at s1 s2 s3 s4
  have hel : ∀ e, e ∈ wy_R wh a b (wy_td p z2 g) len 0 (wy_S0 M p) → wy_eo e := fun e he => by
    obtain ⟨c, m, q1, q2, q3, q4⟩ := wy_R_el len 0 _ e he
    rw [Nat.zero_add] at q2
    exact ⟨c, by omega, Nat.lt_of_lt_of_le q2 (Nat.pow_le_pow_right (by decide) hlen), q3⟩
  have hrl := wy_rl_l (wy_R wh a b (wy_td p z2 g) len 0 (wy_S0 M p)) (0, -2, -2, -1) wy_ne hel ⟨wy_gd_ne, rfl, Or.inl ⟨rfl, rfl, rfl, rfl, rfl⟩⟩
  rw [wy_ne_l (wy_gd_ph _ _)] at hrl
  have hcnt : (wy_ph (wy_R wh a b (wy_td p z2 g) len 0 (wy_S0 M p)) (1, 0, 0)).1 < 2 ^ 31 := by
    have q := wy_ph_n (1, 0, 0) (wy_R wh a b (wy_td p z2 g) len 0 (wy_S0 M p))
    have q2 := wy_R_len wh a b (wy_td p z2 g) len 0 (wy_S0 M p)
    have q3 : 2 ^ len ≤ 2 ^ 20 := Nat.pow_le_pow_right (by decide) hlen
    have q4 : (2 : Nat) ^ 20 < 2 ^ 31 := by decide
    rw [Nat.mul_one] at q
    rw [q]
    omega
  refine ⟨s1, wy_fz_e eqD s4, ?_, _, wy_cls n3 hcnt, wy_ref s2 hrl hcnt b3⟩
  show (xr_bhd rc_N D 0 0).2.2.2 = C.2.2.2
  rw [s4.2.1]
  exact refD
theorem all_20 {M : ro_Mm} (h : ro_Inv2 M) {v1 v2 v3 : Int32} : xp_119 M v1 v2 v3 ∧ xp_268 (xm_119 M v1 v2 v3) v1 v2 v3 ∧ xf_268 (xm_119 M v1 v2 v3) v1 v2 v3 = xf_119 M v1 v2 v3 ∧ ro_eqv M (xm_268 (xm_119 M v1 v2 v3) v1 v2 v3) ∧ (xm_268 (xm_119 M v1 v2 v3) v1 v2 v3).2.2.2 = (xm_119 M v1 v2 v3).2.2.2 := by
  by_cases b1 : ro_bs v1 = true
  · have f1 : ∀ A : ro_Mm, xf_198 A v1 = true := fun A => by rw [ro_w198]; exact b1
    by_cases b2 : ro_bs v2 = true
    · have f2 : ∀ A : ro_Mm, xf_198 A v2 = true := fun A => by rw [ro_w198]; exact b2
      by_cases b3 : xf_13 M v3 0 3 = true
      · have f3 : ∀ A : ro_Mm, xf_195 A v3 0 3 = true := fun A => by rw [ro_w195]; exact ro_w13.mp b3
        by_cases y1 : xf_22 M (ro_sc v1) = true
        · by_cases y2 : xf_22 M (ro_sc v2) = true
          · obtain ⟨m1, m2, m3⟩ := wy_main h b1 b2 (ro_w13.mp b3) y1 y2
            have hm : xm_119 M v1 v2 v3 = xm_120 (xm_66 M (ro_sc v1)) (ro_sc v2) := by unfold xm_119; rw [if_pos b1, if_pos b2, if_pos b3, if_pos y1, if_pos y2]
            have hp : xp_119 M v1 v2 v3 := by
              unfold xp_119
              exact ⟨fun _ => ⟨fun _ => ⟨fun _ => ⟨fun _ => ⟨fun _ => ⟨m1, m2, trivial⟩, fun y => absurd y2 y⟩, fun y => absurd y1 y⟩, fun y => absurd b3 y⟩, fun y => absurd b2 y⟩, fun y => absurd b1 y⟩
            have hL := xl_119 ⟨h.1.1, h.2⟩ hp
            rw [hm] at hL
            obtain ⟨m4, B, eB, m5, m6, m7, m8, m9, x, m10, m11⟩ := m3 _ rfl hL.1
            have g1 : (0 : Int32) ≤ xf_235 (xm_120 (xm_66 M (ro_sc v1)) (ro_sc v2)) v1 := by
              have e : xf_235 (xm_120 (xm_66 M (ro_sc v1)) (ro_sc v2)) v1 = 0 := by
                rw [← (by_yes h.1 b1 y1).1]
                unfold xf_235
                rw [m4.2.1 190 _ rfl]
              rw [e]; decide
            have g2 : (0 : Int32) ≤ xf_235 (xm_120 (xm_66 M (ro_sc v1)) (ro_sc v2)) v2 := by
              have e : xf_235 (xm_120 (xm_66 M (ro_sc v1)) (ro_sc v2)) v2 = 0 := by
                rw [← (by_yes h.1 b2 y2).1]
                unfold xf_235
                rw [m4.2.1 190 _ rfl]
              rw [e]; decide
            have hf : xf_119 M v1 v2 v3 = wy_an x v3 := by
              rw [← m10]
              unfold xf_119
              rw [if_pos b1, if_pos b2, if_pos b3, if_pos y1, if_pos y2]
            refine ⟨hp, ?_⟩
            rw [hm, hf]
            generalize xm_120 (xm_66 M (ro_sc v1)) (ro_sc v2) = C at *
            refine ⟨?_, ?_, ?_, ?_⟩
            · unfold xp_268
              rw [eB]
              exact ⟨fun _ => ⟨fun _ => ⟨fun _ => ⟨xp_235_t b1, fun _ => ⟨xp_235_t b2, fun _ => ⟨m5, m6, m7, trivial⟩, fun y => absurd g2 y⟩, fun y => absurd g1 y⟩, fun y => absurd (f3 _) y⟩, fun y => absurd (f2 _) y⟩, fun y => absurd (f1 _) y⟩
            · unfold xf_268
              rw [eB, if_pos (f1 _), if_pos (f2 _), if_pos (f3 _), if_pos g1, if_pos g2]
              exact m11
            · unfold xm_268
              rw [eB, if_pos (f1 _), if_pos (f2 _), if_pos (f3 _), if_pos g1, if_pos g2]
              exact m8
            · unfold xm_268
              rw [eB, if_pos (f1 _), if_pos (f2 _), if_pos (f3 _), if_pos g1, if_pos g2]
              exact m9
          · have hm : xm_119 M v1 v2 v3 = M := by unfold xm_119; rw [if_pos b1, if_pos b2, if_pos b3, if_pos y1, if_neg y2]
            obtain ⟨g0, g1⟩ := by_no h.1 b2 y2
            have p1 : (0 : Int32) ≤ xf_235 M v1 := by rw [(by_yes h.1 b1 y1).1]; decide
            have n0 : ¬ (0 : Int32) ≤ xf_235 M v2 := Int32.not_le.mpr g0
            rw [hm]
            refine ⟨⟨fun _ => ⟨fun _ => ⟨fun _ => ⟨fun _ => ⟨fun y => absurd y y2, fun _ => trivial⟩, fun y => absurd y1 y⟩, fun y => absurd b3 y⟩, fun y => absurd b2 y⟩, fun y => absurd b1 y⟩, ?_, ?_, ?_, ?_⟩
            · unfold xp_268
              exact ⟨fun _ => ⟨fun _ => ⟨fun _ => ⟨xp_235_t b1, fun _ => ⟨xp_235_t b2, fun y => absurd y n0, fun _ => ⟨xp_235_t b2, trivial⟩⟩, fun y => absurd p1 y⟩, fun y => absurd (f3 _) y⟩, fun y => absurd (f2 _) y⟩, fun y => absurd (f1 _) y⟩
            · unfold xf_268 xf_119
              rw [if_pos (f1 _), if_pos (f2 _), if_pos (f3 _), if_pos p1, if_neg n0, if_pos b1, if_pos b2, if_pos b3, if_pos y1, if_neg y2, g1]
            · unfold xm_268
              rw [if_pos (f1 _), if_pos (f2 _), if_pos (f3 _), if_pos p1, if_neg n0]
              exact ro_eqv_r h.1.1
            · unfold xm_268
              rw [if_pos (f1 _), if_pos (f2 _), if_pos (f3 _), if_pos p1, if_neg n0]
        · have hm : xm_119 M v1 v2 v3 = M := by unfold xm_119; rw [if_pos b1, if_pos b2, if_pos b3, if_neg y1]
          obtain ⟨g0, g1⟩ := by_no h.1 b1 y1
          have n0 : ¬ (0 : Int32) ≤ xf_235 M v1 := Int32.not_le.mpr g0
          rw [hm]
          refine ⟨⟨fun _ => ⟨fun _ => ⟨fun _ => ⟨fun y => absurd y y1, fun _ => trivial⟩, fun y => absurd b3 y⟩, fun y => absurd b2 y⟩, fun y => absurd b1 y⟩, ?_, ?_, ?_, ?_⟩
          · unfold xp_268
            exact ⟨fun _ => ⟨fun _ => ⟨fun _ => ⟨xp_235_t b1, fun y => absurd y n0, fun _ => ⟨xp_235_t b1, trivial⟩⟩, fun y => absurd (f3 _) y⟩, fun y => absurd (f2 _) y⟩, fun y => absurd (f1 _) y⟩
          · unfold xf_268 xf_119
            rw [if_pos (f1 _), if_pos (f2 _), if_pos (f3 _), if_neg n0, if_pos b1, if_pos b2, if_pos b3, if_neg y1, g1]
          · unfold xm_268
            rw [if_pos (f1 _), if_pos (f2 _), if_pos (f3 _), if_neg n0]
            exact ro_eqv_r h.1.1
          · unfold xm_268
            rw [if_pos (f1 _), if_pos (f2 _), if_pos (f3 _), if_neg n0]
      · have hm : xm_119 M v1 v2 v3 = M := by unfold xm_119; rw [if_pos b1, if_pos b2, if_neg b3]
        have f3 : ¬ xf_195 M v3 0 3 = true := by rw [← ro_w13_195]; exact b3
        rw [hm]
        refine ⟨⟨fun _ => ⟨fun _ => ⟨fun y => absurd y b3, fun _ => trivial⟩, fun y => absurd b2 y⟩, fun y => absurd b1 y⟩, ⟨fun _ => ⟨fun _ => ⟨fun y => absurd y f3, fun _ => trivial⟩, fun _ => trivial⟩, fun _ => trivial⟩, ?_, ?_, ?_⟩
        · unfold xf_268 xf_119
          rw [if_pos (f1 _), if_pos (f2 _), if_neg f3, if_pos b1, if_pos b2, if_neg b3]
        · unfold xm_268
          rw [if_pos (f1 _), if_pos (f2 _), if_neg f3]
          exact ro_eqv_r h.1.1
        · unfold xm_268
          rw [if_pos (f1 _), if_pos (f2 _), if_neg f3]
    · have hm : xm_119 M v1 v2 v3 = M := by unfold xm_119; rw [if_pos b1, if_neg b2]
      have f2 : ¬ xf_198 M v2 = true := by rw [ro_w198]; exact b2
      rw [hm]
      refine ⟨⟨fun _ => ⟨fun y => absurd y b2, fun _ => trivial⟩, fun y => absurd b1 y⟩, ⟨fun _ => ⟨fun y => absurd y f2, fun _ => trivial⟩, fun _ => trivial⟩, ?_, ?_, ?_⟩
      · unfold xf_268 xf_119
        rw [if_pos (f1 _), if_neg f2, if_pos b1, if_neg b2]
      · unfold xm_268
        rw [if_pos (f1 _), if_neg f2]
        exact ro_eqv_r h.1.1
      · unfold xm_268
        rw [if_pos (f1 _), if_neg f2]
  · have hm : xm_119 M v1 v2 v3 = M := by unfold xm_119; rw [if_neg b1]
    have f1 : ¬ xf_198 M v1 = true := by rw [ro_w198]; exact b1
    rw [hm]
    refine ⟨⟨fun y => absurd y b1, fun _ => trivial⟩, ⟨fun y => absurd y f1, fun _ => trivial⟩, ?_, ?_, ?_⟩
    · unfold xf_268 xf_119
      rw [if_neg f1, if_neg b1]
    · unfold xm_268
      rw [if_neg f1]
      exact ro_eqv_r h.1.1
    · unfold xm_268
      rw [if_neg f1]
end WYL

