/-! the law's body: from the evening up to its end to the image -/
section LAWY
variable {X : ro_Sx} {L : List (List Int32 × List Int32)}
section BEFORE
variable {cs : Nat × Nat} {od : Nat → Nat → Int32 → Int32 → Int32} {hb nt : Int32} {S : pu_T}
/-- what holds before the image -/
def zb (X : ro_Sx) (L : List (List Int32 × List Int32)) (od : Nat → Nat → Int32 → Int32 → Int32) (hb nt : Int32) (S : pu_T) (M : ro_Mm) : Prop := kv L M ∧ M.2.1 5 4 = nI (np X) ∧ odv M L = od ∧ M.2.1 5 7 = hb ∧ M.2.1 5 5 = nt ∧ pu_now M = S ∧ (∀ i, i < np X → M.2.1 10 i = nI (on3 X i)) ∧ M.2.1 11 0 = 0 ∧ M.2.1 11 1 = 0
theorem zb_c {M M2 : ro_Mm} (h : zb X L od hb nt S M) (hk : kv L M2) (g : ∀ c j, (5 ≤ c ∧ c ≤ 11 ∧ c ≠ 6) → M2.2.1 c j = M.2.1 c j) : zb X L od hb nt S M2 := by
  obtain ⟨h1, h2, h3, h4, h5, h6, h7, h8, h9⟩ := h
  have e5 : ∀ j, M2.2.1 5 j = M.2.1 5 j := fun j => g 5 j (by omega)
  refine ⟨hk, (e5 4).trans h2, (odv_c (fun i => g 9 i (by omega)) (e5 5) (e5 6)).trans h3, (e5 7).trans h4, (e5 5).trans h5, (Prod.ext (funext fun i => g 7 i (by omega)) (funext fun i => g 8 i (by omega)) : pu_now M2 = pu_now M).trans h6, fun i hi => (g 10 i (by omega)).trans (h7 i hi), (g 11 0 (by omega)).trans h8, (g 11 1 (by omega)).trans h9⟩
theorem zb_v {c j : Nat} (h : 5 ≤ c ∧ c ≤ 11 ∧ c ≠ 6) : ro_lv c j = true := by
  rcases (show c = 5 ∨ c = 7 ∨ c = 8 ∨ c = 9 ∨ c = 10 ∨ c = 11 by omega) with e | e | e | e | e | e <;> rw [e] <;> rfl
theorem zb_q {M M2 : ro_Mm} (h : zb X L od hb nt S M) (g : kq M M2) : zb X L od hb nt S M2 := zb_c h (kv_c h.1 g) (fun c j q => g.2.1 c j (by omega) (zb_v q))
theorem zb_nw {M M2 : ro_Mm} {c0 : Nat} (h : zb X L od hb nt S M) (g : nw M M2 c0) (h0 : 163 ≤ c0) : zb X L od hb nt S M2 := zb_c h (kv_nw h.1 g) (fun c j q => by rw [(g.2.2 c (by omega)).1])
theorem zb_s {M : ro_Mm} {c0 i : Nat} {x : Int32} (h : zb X L od hb nt S M) (h0 : 163 ≤ c0) : zb X L od hb nt S (ro_sI M c0 i x) := zb_c h (kv_s h.1 h0) (fun c j q => ro_sI_ne (by omega))
theorem zb_r {M M2 : ro_Mm} {s : Nat} (h : zb X L od hb nt S M) (hk : kv L M2) (g : kw (kS_r s) M M2) (hs : s < 6) : zb X L od hb nt S M2 := zb_c h hk (fun c j q => g.2.1 c j (by omega) (zb_v q) (by
  unfold kS_r
  simp only [Bool.or_eq_false_iff, beq_eq_false_iff_ne]
  omega))
theorem zb_i {M M2 : ro_Mm} (h : zb X L od hb nt S M) (hSI : ∀ i, i < np X → S.1 i = nI (on0 X i) ∧ S.2 i = nI (on1 X i)) (hk : kv L M2) (g : kw kS_i M M2) (h1 : ∀ i, i < np X → M2.2.1 13 i = M.2.1 7 i ∧ M2.2.1 14 i = M.2.1 8 i) (h2 : ∀ j, j < 4 → M2.2.1 15 j = M.2.1 11 j) (h3 : M2.2.1 5 10 = 1) (h4 : M2.2.1 5 11 = nI (np X)) (h5 : M2.2.1 5 12 = M.2.1 5 6) : zs X L od hb nt M2 ∧ pu_at (np X) M2 6 S ∧ M2.2.1 11 0 = nI 0 ∧ M2.2.1 11 1 = nI 0 := by
  obtain ⟨a1, a2, a3, a4, a5, a6, a7, a8, a9⟩ := h
  have e : ∀ c j, (5 ≤ c ∧ c ≤ 11 ∧ c ≠ 6 ∧ (c = 5 → j < 10)) → M2.2.1 c j = M.2.1 c j := fun c j q => g.2.1 c j (by omega) (zb_v (by omega)) (by
    unfold kS_i
    simp only [Bool.or_eq_false_iff, Bool.and_eq_false_iff, beq_eq_false_iff_ne]
    omega)
  have e7 : ∀ i, M.2.1 7 i = S.1 i := fun i => congrFun (congrArg Prod.fst a6) i
  have e8 : ∀ i, M.2.1 8 i = S.2 i := fun i => congrFun (congrArg Prod.snd a6) i
  refine ⟨⟨hk, (e 5 4 (by decide)).trans a2, (odv_c (fun i => e 9 i (by omega)) (e 5 5 (by decide)) (e 5 6 (by decide))).trans a3, (e 5 7 (by decide)).trans a4, (e 5 5 (by decide)).trans a5, h3, h4, by rw [h5, e 5 6 (by decide)], fun i hi => ?_, ?_⟩, fun i hi => ⟨(e 7 i (by omega)).trans (e7 i), (e 8 i (by omega)).trans (e8 i)⟩, (e 11 0 (by omega)).trans a8, (e 11 1 (by omega)).trans a9⟩
  · rw [(h1 i hi).1, (h1 i hi).2, e 10 i (by omega), e7, e8]
    exact ⟨(hSI i hi).1, (hSI i hi).2, a7 i hi⟩
  · rw [h2 0 (by decide)]; exact a8
/-- the evening by these -/
theorem zb_ep {M : ro_Mm} {g : Nat → Nat} {k : Nat} (h : zb X L od hb nt S M) : ep (odv M L) (M.2.1 5 7) g (ep_0 M) k = ep od hb g (S, 0, -2, 0) k := by
  unfold ep_0
  rw [h.2.2.1, h.2.2.2.1, h.2.2.2.2.2.1]
section EVE
variable {M : ro_Mm} {g : Nat → Nat} {e : Nat}
theorem ev_e (he : e ≤ 10) (ho : ∀ i, i < e → of_ok (np X) (g i)) : ev_l (np X) g e e := ⟨by omega, Nat.le_refl _, ho, Or.inr (Or.inl rfl)⟩
theorem zl_0 (hz : zb X L od hb nt S M) (he : e ≤ 10) (hg : ∀ i, i < e → g i < 128) (ho : ∀ i, i < e → of_ok (np X) (g i)) (hsb : sh_b M 0 e g) {i : Nat} (hi : i < np X) : ro_cwp X 6 64 [.ref 4, .int (nI 0), .int (nI 20), .int (nI i), .int (nI 0)] M (fun r M2 => r = some (.int ((ep od hb g (S, 0, -2, 0) e).1.1 i)) ∧ kq M M2) := by
  refine ro_cwp_up (Nat.le_refl _) ?_ (ca_later (X := X) hz.1 np_b hz.2.1 (s := 0) (by decide) (by omega) hsb (fun i hi => Nat.lt_trans (hg i hi) (by decide)) (ev_e he ho) (n0 := 20) (by decide) hi (w := 0) (by decide))
  rintro r M2 ⟨q1, q2⟩
  rw [if_pos rfl, zb_ep hz, Nat.min_eq_right (by omega)] at q1
  exact ⟨q1, q2⟩
theorem zl_1 (hz : zb X L od hb nt S M) (he : e ≤ 10) (hg : ∀ i, i < e → g i < 128) (ho : ∀ i, i < e → of_ok (np X) (g i)) (hsb : sh_b M 0 e g) {i : Nat} (hi : i < np X) : ro_cwp X 6 64 [.ref 4, .int (nI 0), .int (nI 20), .int (nI i), .int (nI 1)] M (fun r M2 => r = some (.int ((ep od hb g (S, 0, -2, 0) e).1.2 i)) ∧ kq M M2) := by
  refine ro_cwp_up (Nat.le_refl _) ?_ (ca_later (X := X) hz.1 np_b hz.2.1 (s := 0) (by decide) (by omega) hsb (fun i hi => Nat.lt_trans (hg i hi) (by decide)) (ev_e he ho) (n0 := 20) (by decide) hi (w := 1) (by decide))
  rintro r M2 ⟨q1, q2⟩
  rw [if_neg (by decide), if_pos rfl, zb_ep hz, Nat.min_eq_right (by omega)] at q1
  exact ⟨q1, q2⟩
theorem zl_2 (hz : zb X L od hb nt S M) (he : e ≤ 10) (hg : ∀ i, i < e → g i < 128) (ho : ∀ i, i < e → of_ok (np X) (g i)) (hsb : sh_b M 0 e g) {i : Nat} (hi : i < np X) : ro_cwp X 6 64 [.ref 4, .int (nI 0), .int (nI 20), .int (nI i), .int (nI 2)] M (fun r M2 => r = some (.int (4 * (ep od hb g (S, 0, -2, 0) e).1.1 i + nt * (ep od hb g (S, 0, -2, 0) e).1.2 i)) ∧ kq M M2) := by
  refine ro_cwp_up (Nat.le_refl _) ?_ (ca_later (X := X) hz.1 np_b hz.2.1 (s := 0) (by decide) (by omega) hsb (fun i hi => Nat.lt_trans (hg i hi) (by decide)) (ev_e he ho) (n0 := 20) (by decide) hi (w := 2) (by decide))
  rintro r M2 ⟨q1, q2⟩
  rw [if_neg (by decide), if_neg (by decide), zb_ep hz, Nat.min_eq_right (by omega), hz.2.2.2.2.1] at q1
  exact ⟨q1, q2⟩
theorem zl_00 (hz : zb X L od hb nt S M) (he : e ≤ 10) (hg : ∀ i, i < e → g i < 128) (ho : ∀ i, i < e → of_ok (np X) (g i)) (hsb : sh_b M 0 e g) {i : Nat} (hi : i < np X) : ro_cwp X 6 64 [.ref 4, .int (nI 0), .int (nI 0), .int (nI i), .int (nI 0)] M (fun r M2 => r = some (.int (S.1 i)) ∧ kq M M2) := by
  refine ro_cwp_up (Nat.le_refl _) ?_ (ca_later (X := X) hz.1 np_b hz.2.1 (s := 0) (by decide) (by omega) hsb (fun i hi => Nat.lt_trans (hg i hi) (by decide)) (ev_e he ho) (n0 := 0) (by decide) hi (w := 0) (by decide))
  rintro r M2 ⟨q1, q2⟩
  rw [if_pos rfl, zb_ep hz, Nat.min_eq_left (by omega)] at q1
  exact ⟨q1, q2⟩
theorem ze_0 {m : Nat} (hz : zb X L od hb nt S M) (hm : m ≤ 10) (he : e ≤ 10) (hg : ∀ i, i < m → g i < 128) (hl : ev_l (np X) g m e) (hsb : sh_b M 0 m g) : ro_cwp X 6 79 [.ref 4, .int (nI 0), .int (nI 20), .int (nI 0)] M (fun r M2 => r = some (.int ((ep od hb g (S, 0, -2, 0) e).2.1)) ∧ kq M M2) := by
  refine ro_cwp_up (Nat.le_refl _) ?_ (ca_eve (X := X) hz.1 np_b hz.2.1 (s := 0) (by decide) (by omega) hsb (fun i hi => Nat.lt_trans (hg i hi) (by decide)) hl (n0 := 20) (by decide) (w := 0) (by decide))
  rintro r M2 ⟨q1, q2⟩
  rw [if_pos rfl, zb_ep hz, Nat.min_eq_right (by omega)] at q1
  exact ⟨q1, q2⟩
theorem ze_1 {m : Nat} (hz : zb X L od hb nt S M) (hm : m ≤ 10) (he : e ≤ 10) (hg : ∀ i, i < m → g i < 128) (hl : ev_l (np X) g m e) (hsb : sh_b M 0 m g) : ro_cwp X 6 79 [.ref 4, .int (nI 0), .int (nI 20), .int (nI 1)] M (fun r M2 => r = some (.int ((ep od hb g (S, 0, -2, 0) e).2.2.1)) ∧ kq M M2) := by
  refine ro_cwp_up (Nat.le_refl _) ?_ (ca_eve (X := X) hz.1 np_b hz.2.1 (s := 0) (by decide) (by omega) hsb (fun i hi => Nat.lt_trans (hg i hi) (by decide)) hl (n0 := 20) (by decide) (w := 1) (by decide))
  rintro r M2 ⟨q1, q2⟩
  rw [if_neg (by decide), if_pos rfl, zb_ep hz, Nat.min_eq_right (by omega)] at q1
  exact ⟨q1, q2⟩
theorem ze_2 {m : Nat} (hz : zb X L od hb nt S M) (hm : m ≤ 10) (he : e ≤ 10) (hg : ∀ i, i < m → g i < 128) (hl : ev_l (np X) g m e) (hsb : sh_b M 0 m g) : ro_cwp X 6 79 [.ref 4, .int (nI 0), .int (nI 20), .int (nI 2)] M (fun r M2 => r = some (.int ((ep od hb g (S, 0, -2, 0) e).2.2.2)) ∧ kq M M2) := by
  refine ro_cwp_up (Nat.le_refl _) ?_ (ca_eve (X := X) hz.1 np_b hz.2.1 (s := 0) (by decide) (by omega) hsb (fun i hi => Nat.lt_trans (hg i hi) (by decide)) hl (n0 := 20) (by decide) (w := 2) (by decide))
  rintro r M2 ⟨q1, q2⟩
  rw [if_neg (by decide), if_neg (by decide), zb_ep hz, Nat.min_eq_right (by omega)] at q1
  exact ⟨q1, q2⟩
/-- behind, with these purses -/
theorem zl_b {z2 w : Nat} {h : Nat → Nat} (hz : zb X L od hb nt S M) (he : e ≤ 10) (hg : ∀ i, i < e → g i < 128) (ho : ∀ i, i < e → of_ok (np X) (g i)) (hsb : sh_b M 0 e g) (hz2 : z2 ≤ 60) (hh : ∀ i, i < z2 → h i < 128) (hsb1 : sh_b M 1 z2 h) (hw : w ≤ 3) : ro_cwp X 5 119 [.ref 4, .int (nI 0), .int (nI 1), .int (nI w)] M (fun r M2 => r = some (.int (wy_an (wy_ph (wy_R (be_wh g) (be_a g) (be_b g) (wy_td (np X) z2 (fun k => nI (h k))) e 0 (sp (np X) S)) (1, 0, 0)) (nI w))) ∧ kq M M2) := by
  have H := ca_behind (X := X) hz.1 np_b hz.2.1 (by omega) hsb (fun i hi => Nat.lt_trans (hg i hi) (by decide)) (ev_e he ho) hz2 hsb1 (fun i hi => Nat.lt_trans (hh i hi) (by decide)) hw
  unfold be_R at H
  rw [sp_S0 hz.2.2.2.2.2.1] at H
  exact H
end EVE
theorem lx_204w {w : Nat} {v : Int32} {M : ro_Mm} (hv : v = nI w) (hw : w < 1024) : ro_cwp X 1 204 [.int v] M (fun r M2 => r = some (.int (nI (pc 10 w))) ∧ M2 = M) := by
  subst hv
  exact lx_204 hw
theorem lq_409 {B ct cn x e : Nat} {g h : Nat → Nat} (hcs : cs.1 + 2 ≤ (ro_lim 206).1 ∧ cs.2 + 15 ≤ (ro_lim 206).2) (hX : X.1 ≤ 260) (hSI : ∀ i, i < np X → S.1 i = nI (on0 X i) ∧ S.2 i = nI (on1 X i)) (hok : pu_ok (np X) S) (he : e ≤ 10) (hg : ∀ i, i < e → g i < 128) (ho : ∀ i, i < e → of_ok (np X) (g i)) (hm : ∀ i, i < e → may (g i) (ep od hb g (S, 0, -2, 0) i) = true) (hcn : 163 ≤ cn) (hc : 163 ≤ ct) (hb7 : ∀ i, i < 2 * np X → h i < 128) (hh : ∀ y, y < np X → (ep od hb g (S, 0, -2, 0) e).1.1 y = nI (h (2 * y)) ∧ (ep od hb g (S, 0, -2, 0) e).1.2 y = nI (h (2 * y + 1))) (hB : sT (ep od hb g (S, 0, -2, 0) e).1 (np X) = nI B) (hx : x &&& eb od hb g (S, 0, -2, 0) e = x) {M : ro_Mm} (hz : zb X L od hb nt S M) (hla : lr_a M ct (2 * np X) h) (hln : lr_a M cn e g) : ro_w X 2000 206 lw_PP 409 [(14, .int (nI x)), (12, .int (nI B)), (10, .ref ct), (9, .int ((ep od hb g (S, 0, -2, 0) e).2.2.2)), (8, .int (nI (en od hb g (S, 0, -2, 0) e))), (7, .ref cn), (6, .int (nI e)), (0, .ref 0), (1, .ref 4), (2, .int (nI (np X)))] [] M cs := by
  have hnp := np_b (X := X)
  have hcs0 := hcs_15 hcs
  refine rs_aload_n ri_206_409 rfl rfl ?_
  refine rs_virt (c := 4) (As := []) (r := []) ri_206_410 rfl (by decide) rm_150.2.2.2 rm_150.2.2.1 rfl rfl rfl (by decide) (lr_4 hz.1) (Nat.le_of_ble_eq_true rfl) (hcs0) (by omega) (ca_image (X := X) hz.1 hnp hz.2.1) ?_
  rintro v M1 ⟨f1, k1, w1, g1, g2, g3, g4, g5⟩
  rw [f1, hz.2.2.2.2.2.2.2.1]
  show ro_w X _ 206 _ 413 [(14, .int (nI x)), (12, .int (nI B)), (10, .ref ct), (9, .int ((ep od hb g (S, 0, -2, 0) e).2.2.2)), (8, .int (nI (en od hb g (S, 0, -2, 0) e))), (7, .ref cn), (6, .int (nI e)), (0, .ref 0), (1, .ref 4), (2, .int (nI (np X)))] [.int (nI 0)] M1 cs
  refine rs_if_eq (t := 418) ri_206_413 rfl rfl (fun _ => ?_) (fun q => absurd (by decide) q)
  refine rs_iconst (v := nI 0) ri_206_418 rfl (by decide) ?_
  refine rs_istore (lv2 := [(15, .int (nI 0)), (14, .int (nI x)), (12, .int (nI B)), (10, .ref ct), (9, .int ((ep od hb g (S, 0, -2, 0) e).2.2.2)), (8, .int (nI (en od hb g (S, 0, -2, 0) e))), (7, .ref cn), (6, .int (nI e)), (0, .ref 0), (1, .ref 4), (2, .int (nI (np X)))]) ri_206_419 rfl rm_206.1 (by decide) rfl ?_
  refine rs_iconst (v := nI 0) ri_206_421 rfl (by decide) ?_
  refine rs_istore (lv2 := [(16, .int (nI 0)), (15, .int (nI 0)), (14, .int (nI x)), (12, .int (nI B)), (10, .ref ct), (9, .int ((ep od hb g (S, 0, -2, 0) e).2.2.2)), (8, .int (nI (en od hb g (S, 0, -2, 0) e))), (7, .ref cn), (6, .int (nI e)), (0, .ref 0), (1, .ref 4), (2, .int (nI (np X)))]) ri_206_422 rfl rm_206.1 (by decide) rfl ?_
  refine rs_iconst (v := nI 0) ri_206_424 rfl (by decide) ?_
  refine rs_istore (lv2 := [(17, .int (nI 0)), (16, .int (nI 0)), (15, .int (nI 0)), (14, .int (nI x)), (12, .int (nI B)), (10, .ref ct), (9, .int ((ep od hb g (S, 0, -2, 0) e).2.2.2)), (8, .int (nI (en od hb g (S, 0, -2, 0) e))), (7, .ref cn), (6, .int (nI e)), (0, .ref 0), (1, .ref 4), (2, .int (nI (np X)))]) ri_206_425 rfl rm_206.1 (by decide) rfl ?_
  obtain ⟨hz1, hS1, z0, z1⟩ := zb_i hz hSI k1 w1 g1 g2 g3 g4 g5
  show ro_w X _ 206 _ 427 [(17, .int (nI 0)), (16, .int ((ep od hb g (S, 0, -2, 0) 0).2.2.2)), (15, .int (nI (eb od hb g (S, 0, -2, 0) 0))), (14, .int (nI x)), (12, .int (nI B)), (10, .ref ct), (9, .int ((ep od hb g (S, 0, -2, 0) e).2.2.2)), (8, .int (nI (en od hb g (S, 0, -2, 0) e))), (7, .ref cn), (6, .int (nI e)), (0, .ref 0), (1, .ref 4), (2, .int (nI (np X)))] [] M1 cs
  exact lq_427 hcs hX hB hc hcn hb7 hh hx he hg ho hm e 0 M1 (by omega) hz1 hS1 (lr_w hla w1 hc) (lr_w hln w1 hcn) z0 z1
theorem lq_334 {B ct cn e : Nat} {g h : Nat → Nat} (hcs : cs.1 + 2 ≤ (ro_lim 206).1 ∧ cs.2 + 15 ≤ (ro_lim 206).2) (hX : X.1 ≤ 260) (hSI : ∀ i, i < np X → S.1 i = nI (on0 X i) ∧ S.2 i = nI (on1 X i)) (hok : pu_ok (np X) S) (he : e ≤ 10) (hg : ∀ i, i < e → g i < 128) (ho : ∀ i, i < e → of_ok (np X) (g i)) (hm : ∀ i, i < e → may (g i) (ep od hb g (S, 0, -2, 0) i) = true) (hcn : 163 ≤ cn) (hc : 163 ≤ ct) (hb7 : ∀ i, i < 2 * np X → h i < 128) (hh : ∀ y, y < np X → (ep od hb g (S, 0, -2, 0) e).1.1 y = nI (h (2 * y)) ∧ (ep od hb g (S, 0, -2, 0) e).1.2 y = nI (h (2 * y + 1))) (hB : sT (ep od hb g (S, 0, -2, 0) e).1 (np X) = nI B) {M : ro_Mm} (hz : zb X L od hb nt S M) (hsb : sh_b M 0 e g) (hsc : sh_b M 1 (2 * np X) h) (hla : lr_a M ct (2 * np X) h) (hln : lr_a M cn e g) : ro_w X 2000 206 lw_PP 334 [(12, .int (nI B)), (10, .ref ct), (9, .int ((ep od hb g (S, 0, -2, 0) e).2.2.2)), (8, .int (nI (en od hb g (S, 0, -2, 0) e))), (7, .ref cn), (6, .int (nI e)), (0, .ref 0), (1, .ref 4), (2, .int (nI (np X)))] [] M cs := by
  have hnp := np_b (X := X)
  have hcs0 := hcs_15 hcs
  have h60 : 2 * np X ≤ 60 := by omega
  have ag0 : ag (np X) S (sp (np X) S) := sp_ag
  obtain ⟨a1, a2, a3, a4⟩ := ag_k (od := od) (hb := hb) (g := g) (T := (S, 0, -2, 0)) (T2 := (sp (np X) S, 0, -2, 0)) ag0 rfl e ho
  have hm2 := ag_m (od := od) (hb := hb) (g := g) (T := (S, 0, -2, 0)) (T2 := (sp (np X) S, 0, -2, 0)) ag0 rfl ho hm
  obtain ⟨n, c, b, x, hW, h1, h2, h3, h4, h5, h6, h7⟩ := be_all (od := od) (hb := hb) (g := g) (T := (sp (np X) S, 0, -2, 0)) (td := wy_td (np X) (2 * np X) (fun k => nI (h k))) he hm2 (wy_td_i.mpr (fun k hk hk2 => by
    obtain ⟨b1, b2⟩ := a1 (k / 2) hk2
    obtain ⟨c1, c2⟩ := hh (k / 2) hk2
    refine ⟨fun q => ?_, fun q => ?_⟩
    · rw [← b1, c1, show 2 * (k / 2) = k by omega]
    · rw [← b2, c2, show 2 * (k / 2) + 1 = k by omega]))
  have hW : wy_ph (wy_R (be_wh g) (be_a g) (be_b g) (wy_td (np X) (2 * np X) (fun k => nI (h k))) e 0 (sp (np X) S)) (1, 0, 0) = (n, c * 1048576 + b, x) := hW
  rw [← a4] at h3
  rw [← a3] at h7
  have hel := eb_lt (od := od) (hb := hb) (g := g) (T := (S, 0, -2, 0)) e
  obtain ⟨r0, r1, r2, r3⟩ := be_an (n := n) (c := c) (b := b) (x := x) h1 h4
  refine rs_aload_n ri_206_334 rfl rfl ?_
  refine rs_iconst (v := nI 0) ri_206_335 rfl (by decide) ?_
  refine rs_iconst (v := nI 1) ri_206_336 rfl (by decide) ?_
  refine rs_iconst (v := nI 0) ri_206_337 rfl (by decide) ?_
  refine rs_virt (c := 4) (As := [.int (nI 0), .int (nI 1), .int (nI 0)]) (r := []) ri_206_338 rfl (by decide) rm_119.2.2.2 rm_119.2.2.1 rfl rfl rfl (by decide) (lr_4 hz.1) (Nat.le_of_ble_eq_true rfl) (hcs0) (by omega) (zl_b (w := 0) hz he hg ho hsb h60 hb7 hsc (by decide)) ?_
  rintro v M1 ⟨f1, q1⟩
  rw [f1, hW, r0]
  show ro_w X _ 206 _ 341 [(12, .int (nI B)), (10, .ref ct), (9, .int ((ep od hb g (S, 0, -2, 0) e).2.2.2)), (8, .int (nI (en od hb g (S, 0, -2, 0) e))), (7, .ref cn), (6, .int (nI e)), (0, .ref 0), (1, .ref 4), (2, .int (nI (np X)))] [.int (nI n)] M1 cs
  have hz1 := zb_q hz q1
  have hsb1 := sh_q (by decide) (kq_w q1) (fun _ => rfl) (fun _ => rfl) hsb
  have hln1 := lr_q hln q1 hcn
  have hla1 := lr_q hla q1 hc
  have hsc1 := sh_q (by decide) (kq_w q1) (fun _ => rfl) (fun _ => rfl) hsc
  refine rs_istore (lv2 := [(13, .int (nI n)), (12, .int (nI B)), (10, .ref ct), (9, .int ((ep od hb g (S, 0, -2, 0) e).2.2.2)), (8, .int (nI (en od hb g (S, 0, -2, 0) e))), (7, .ref cn), (6, .int (nI e)), (0, .ref 0), (1, .ref 4), (2, .int (nI (np X)))]) ri_206_341 rfl rm_206.1 (by decide) rfl ?_
  refine rs_iload ri_206_343 rfl rfl ?_
  refine rs_iconst (v := nI 1) ri_206_345 rfl (by decide) ?_
  refine rs_icmp_lt (t := 381) ri_206_346 rfl rfl (fun q => absurd q (nI_nlt (a := n) (b := 1) (by omega) (by omega))) (fun _ => ?_)
  refine rs_aload_n ri_206_349 rfl rfl ?_
  refine rs_iconst (v := nI 0) ri_206_350 rfl (by decide) ?_
  refine rs_iconst (v := nI 1) ri_206_351 rfl (by decide) ?_
  refine rs_iconst (v := nI 1) ri_206_352 rfl (by decide) ?_
  refine rs_virt (c := 4) (As := [.int (nI 0), .int (nI 1), .int (nI 1)]) (r := []) ri_206_353 rfl (by decide) rm_119.2.2.2 rm_119.2.2.1 rfl rfl rfl (by decide) (lr_4 hz1.1) (Nat.le_of_ble_eq_true rfl) (hcs0) (by omega) (zl_b (w := 1) hz1 he hg ho hsb1 h60 hb7 hsc1 (by decide)) ?_
  rintro v M2 ⟨f2, q2⟩
  rw [f2, hW, r1]
  show ro_w X _ 206 _ 356 [(13, .int (nI n)), (12, .int (nI B)), (10, .ref ct), (9, .int ((ep od hb g (S, 0, -2, 0) e).2.2.2)), (8, .int (nI (en od hb g (S, 0, -2, 0) e))), (7, .ref cn), (6, .int (nI e)), (0, .ref 0), (1, .ref 4), (2, .int (nI (np X)))] [.int (nI c)] M2 cs
  have hz2 := zb_q hz1 q2
  have hsb2 := sh_q (by decide) (kq_w q2) (fun _ => rfl) (fun _ => rfl) hsb1
  have hln2 := lr_q hln1 q2 hcn
  have hla2 := lr_q hla1 q2 hc
  have hsc2 := sh_q (by decide) (kq_w q2) (fun _ => rfl) (fun _ => rfl) hsc1
  refine rs_iload ri_206_356 rfl rfl ?_
  refine rs_icmp_gt (t := 381) ri_206_358 rfl rfl (fun q => absurd q (nI_nlt (a := en od hb g (S, 0, -2, 0) e) (b := c) (by omega) (by omega))) (fun _ => ?_)
  refine rs_aload_n ri_206_361 rfl rfl ?_
  refine rs_iconst (v := nI 0) ri_206_362 rfl (by decide) ?_
  refine rs_iconst (v := nI 1) ri_206_363 rfl (by decide) ?_
  refine rs_iconst (v := nI 2) ri_206_364 rfl (by decide) ?_
  refine rs_virt (c := 4) (As := [.int (nI 0), .int (nI 1), .int (nI 2)]) (r := []) ri_206_365 rfl (by decide) rm_119.2.2.2 rm_119.2.2.1 rfl rfl rfl (by decide) (lr_4 hz2.1) (Nat.le_of_ble_eq_true rfl) (hcs0) (by omega) (zl_b (w := 2) hz2 he hg ho hsb2 h60 hb7 hsc2 (by decide)) ?_
  rintro v M3 ⟨f3, q3⟩
  rw [f3, hW, r2]
  show ro_w X _ 206 _ 368 [(13, .int (nI n)), (12, .int (nI B)), (10, .ref ct), (9, .int ((ep od hb g (S, 0, -2, 0) e).2.2.2)), (8, .int (nI (en od hb g (S, 0, -2, 0) e))), (7, .ref cn), (6, .int (nI e)), (0, .ref 0), (1, .ref 4), (2, .int (nI (np X)))] [.int (nI b)] M3 cs
  have hz3 := zb_q hz2 q3
  have hsb3 := sh_q (by decide) (kq_w q3) (fun _ => rfl) (fun _ => rfl) hsb2
  have hln3 := lr_q hln2 q3 hcn
  have hla3 := lr_q hla2 q3 hc
  have hsc3 := sh_q (by decide) (kq_w q3) (fun _ => rfl) (fun _ => rfl) hsc2
  refine rs_stat (As := [.int (nI b)]) (r := []) ri_206_368 rfl rm_204.2.2.2 rfl rfl rfl (Nat.le_of_ble_eq_true rfl) (hcs0) (by omega) (lx_204 h4) ?_
  rintro v M9 ⟨g1, g2⟩
  rw [g1, g2]
  show ro_w X _ 206 _ 371 [(13, .int (nI n)), (12, .int (nI B)), (10, .ref ct), (9, .int ((ep od hb g (S, 0, -2, 0) e).2.2.2)), (8, .int (nI (en od hb g (S, 0, -2, 0) e))), (7, .ref cn), (6, .int (nI e)), (0, .ref 0), (1, .ref 4), (2, .int (nI (np X)))] [.int (nI (pc 10 b))] M3 cs
  refine rs_aload_n ri_206_371 rfl rfl ?_
  refine rs_iconst (v := nI 0) ri_206_372 rfl (by decide) ?_
  refine rs_iconst (v := nI 1) ri_206_373 rfl (by decide) ?_
  refine rs_iconst (v := nI 1) ri_206_374 rfl (by decide) ?_
  refine rs_virt (c := 4) (As := [.int (nI 0), .int (nI 1), .int (nI 1)]) (r := [.int (nI (pc 10 b))]) ri_206_375 rfl (by decide) rm_119.2.2.2 rm_119.2.2.1 rfl rfl rfl (by decide) (lr_4 hz3.1) (Nat.le_of_ble_eq_true rfl) (hcs0) (by omega) (zl_b (w := 1) hz3 he hg ho hsb3 h60 hb7 hsc3 (by decide)) ?_
  rintro v M4 ⟨f4, q4⟩
  rw [f4, hW, r1]
  show ro_w X _ 206 _ 378 [(13, .int (nI n)), (12, .int (nI B)), (10, .ref ct), (9, .int ((ep od hb g (S, 0, -2, 0) e).2.2.2)), (8, .int (nI (en od hb g (S, 0, -2, 0) e))), (7, .ref cn), (6, .int (nI e)), (0, .ref 0), (1, .ref 4), (2, .int (nI (np X)))] [.int (nI c), .int (nI (pc 10 b))] M4 cs
  have hz4 := zb_q hz3 q4
  have hsb4 := sh_q (by decide) (kq_w q4) (fun _ => rfl) (fun _ => rfl) hsb3
  have hln4 := lr_q hln3 q4 hcn
  have hla4 := lr_q hla3 q4 hc
  have hsc4 := sh_q (by decide) (kq_w q4) (fun _ => rfl) (fun _ => rfl) hsc3
  refine rs_icmp_eq (t := 383) ri_206_378 rfl rfl (fun _ => ?_) (fun q => absurd (congrArg nI (by omega)) q)
  refine rs_aload_n ri_206_383 rfl rfl ?_
  refine rs_iconst (v := nI 0) ri_206_384 rfl (by decide) ?_
  refine rs_iconst (v := nI 1) ri_206_385 rfl (by decide) ?_
  refine rs_iconst (v := nI 3) ri_206_386 rfl (by decide) ?_
  refine rs_virt (c := 4) (As := [.int (nI 0), .int (nI 1), .int (nI 3)]) (r := []) ri_206_387 rfl (by decide) rm_119.2.2.2 rm_119.2.2.1 rfl rfl rfl (by decide) (lr_4 hz4.1) (Nat.le_of_ble_eq_true rfl) (hcs0) (by omega) (zl_b (w := 3) hz4 he hg ho hsb4 h60 hb7 hsc4 (by decide)) ?_
  rintro v M5 ⟨f5, q5⟩
  rw [f5, hW, r3]
  show ro_w X _ 206 _ 390 [(13, .int (nI n)), (12, .int (nI B)), (10, .ref ct), (9, .int ((ep od hb g (S, 0, -2, 0) e).2.2.2)), (8, .int (nI (en od hb g (S, 0, -2, 0) e))), (7, .ref cn), (6, .int (nI e)), (0, .ref 0), (1, .ref 4), (2, .int (nI (np X)))] [.int (nI x)] M5 cs
  have hz5 := zb_q hz4 q5
  have hsb5 := sh_q (by decide) (kq_w q5) (fun _ => rfl) (fun _ => rfl) hsb4
  have hln5 := lr_q hln4 q5 hcn
  have hla5 := lr_q hla4 q5 hc
  have hsc5 := sh_q (by decide) (kq_w q5) (fun _ => rfl) (fun _ => rfl) hsc4
  refine rs_istore (lv2 := [(14, .int (nI x)), (13, .int (nI n)), (12, .int (nI B)), (10, .ref ct), (9, .int ((ep od hb g (S, 0, -2, 0) e).2.2.2)), (8, .int (nI (en od hb g (S, 0, -2, 0) e))), (7, .ref cn), (6, .int (nI e)), (0, .ref 0), (1, .ref 4), (2, .int (nI (np X)))]) ri_206_390 rfl rm_206.1 (by decide) rfl ?_
  refine rs_iload ri_206_392 rfl rfl ?_
  refine rs_aload_n ri_206_394 rfl rfl ?_
  refine rs_iconst (v := nI 0) ri_206_395 rfl (by decide) ?_
  refine rs_iconst (v := nI 1) ri_206_396 rfl (by decide) ?_
  refine rs_iconst (v := nI 2) ri_206_397 rfl (by decide) ?_
  refine rs_virt (c := 4) (As := [.int (nI 0), .int (nI 1), .int (nI 2)]) (r := [.int (nI x)]) ri_206_398 rfl (by decide) rm_119.2.2.2 rm_119.2.2.1 rfl rfl rfl (by decide) (lr_4 hz5.1) (Nat.le_of_ble_eq_true rfl) (hcs0) (by omega) (zl_b (w := 2) hz5 he hg ho hsb5 h60 hb7 hsc5 (by decide)) ?_
  rintro v M6 ⟨f6, q6⟩
  rw [f6, hW, r2]
  show ro_w X _ 206 _ 401 [(14, .int (nI x)), (13, .int (nI n)), (12, .int (nI B)), (10, .ref ct), (9, .int ((ep od hb g (S, 0, -2, 0) e).2.2.2)), (8, .int (nI (en od hb g (S, 0, -2, 0) e))), (7, .ref cn), (6, .int (nI e)), (0, .ref 0), (1, .ref 4), (2, .int (nI (np X)))] [.int (nI b), .int (nI x)] M6 cs
  have hz6 := zb_q hz5 q6
  have hsb6 := sh_q (by decide) (kq_w q6) (fun _ => rfl) (fun _ => rfl) hsb5
  have hln6 := lr_q hln5 q6 hcn
  have hla6 := lr_q hla5 q6 hc
  have hsc6 := sh_q (by decide) (kq_w q6) (fun _ => rfl) (fun _ => rfl) hsc5
  refine rs_iconst (v := ((-1 : Int32))) ri_206_401 rfl (by decide) ?_
  refine rs_ixor (r := (nI b) ^^^ ((-1 : Int32))) ri_206_402 rfl rfl ?_
  refine rs_iand (r := (nI x) &&& ((nI b) ^^^ ((-1 : Int32)))) ri_206_403 rfl rfl ?_
  refine rs_if_eq (t := 409) ri_206_404 rfl rfl (fun _ => ?_) (fun q => absurd (and_cl h6) q)
  refine ro_w_lv (lv := [(14, .int (nI x)), (12, .int (nI B)), (10, .ref ct), (9, .int ((ep od hb g (S, 0, -2, 0) e).2.2.2)), (8, .int (nI (en od hb g (S, 0, -2, 0) e))), (7, .ref cn), (6, .int (nI e)), (0, .ref 0), (1, .ref 4), (2, .int (nI (np X)))]) (ro_sub_c rfl (ro_sub_c rfl (ro_sub_c rfl (ro_sub_c rfl (ro_sub_c rfl (ro_sub_c rfl (ro_sub_c rfl (ro_sub_c rfl (ro_sub_c rfl (ro_sub_c rfl (ro_sub_n rfl))))))))))) ?_
  exact lq_409 hcs hX hSI hok he hg ho hm hcn hc hb7 hh hB h7 hz6 hla6 hln6
theorem lq_303 {B Bs ct cn e : Nat} {g h : Nat → Nat} (hcs : cs.1 + 2 ≤ (ro_lim 206).1 ∧ cs.2 + 15 ≤ (ro_lim 206).2) (hX : X.1 ≤ 260) (hSI : ∀ i, i < np X → S.1 i = nI (on0 X i) ∧ S.2 i = nI (on1 X i)) (hok : pu_ok (np X) S) (he : e ≤ 10) (hg : ∀ i, i < e → g i < 128) (ho : ∀ i, i < e → of_ok (np X) (g i)) (hm : ∀ i, i < e → may (g i) (ep od hb g (S, 0, -2, 0) i) = true) (hcn : 163 ≤ cn) (hc : 163 ≤ ct) (hb7 : ∀ i, i < 2 * np X → h i < 128) (hh : ∀ y, y < np X → (ep od hb g (S, 0, -2, 0) e).1.1 y = nI (h (2 * y)) ∧ (ep od hb g (S, 0, -2, 0) e).1.2 y = nI (h (2 * y + 1))) (hB : sT S (np X) = nI B) (hBs : sT (ep od hb g (S, 0, -2, 0) e).1 (np X) = nI Bs) {M : ro_Mm} (hz : zb X L od hb nt S M) (hsb : sh_b M 0 e g) (hla : lr_a M ct (2 * np X) h) (hln : lr_a M cn e g) : ro_w X 2000 206 lw_PP 303 [(12, .int (nI B)), (11, .int (nI Bs)), (10, .ref ct), (9, .int ((ep od hb g (S, 0, -2, 0) e).2.2.2)), (8, .int (nI (en od hb g (S, 0, -2, 0) e))), (7, .ref cn), (6, .int (nI e)), (0, .ref 0), (1, .ref 4), (2, .int (nI (np X)))] [] M cs := by
  have hnp := np_b (X := X)
  have hcs0 := hcs_15 hcs
  have h60 : 2 * np X ≤ 60 := by omega
  have hel := eb_lt (od := od) (hb := hb) (g := g) (T := (S, 0, -2, 0)) e
  have hea := ep_a (od := od) (hb := hb) (g := g) (T := (S, 0, -2, 0)) (p := np X) hok e ho hm
  have hE : nI Bs = nI B := by rw [← hBs, ← hB]; exact hea.2
  obtain ⟨w, w1, w2, w3⟩ := ep_w (od := od) (hb := hb) (g := g) (T := (S, 0, -2, 0)) hnp rfl e ho hm
  refine rs_iload ri_206_303 rfl rfl ?_
  refine rs_iload ri_206_305 rfl rfl ?_
  refine rs_icmp_ne (t := 320) ri_206_307 rfl rfl (fun q => absurd (hE) q) (fun _ => ?_)
  refine rs_iload ri_206_310 rfl rfl ?_
  refine rs_stat (As := [.int ((ep od hb g (S, 0, -2, 0) e).2.2.2)]) (r := []) ri_206_312 rfl rm_204.2.2.2 rfl rfl rfl (Nat.le_of_ble_eq_true rfl) (hcs0) (by omega) (lx_204w w1 (by omega)) ?_
  rintro v M9 ⟨g1, g2⟩
  rw [g1, g2]
  show ro_w X _ 206 _ 315 [(12, .int (nI B)), (11, .int (nI Bs)), (10, .ref ct), (9, .int ((ep od hb g (S, 0, -2, 0) e).2.2.2)), (8, .int (nI (en od hb g (S, 0, -2, 0) e))), (7, .ref cn), (6, .int (nI e)), (0, .ref 0), (1, .ref 4), (2, .int (nI (np X)))] [.int (nI (pc 10 w))] M cs
  refine rs_iload ri_206_315 rfl rfl ?_
  refine rs_icmp_le (t := 322) ri_206_317 rfl rfl (fun _ => ?_) (fun q => absurd (nI_le (a := pc 10 w) (b := en od hb g (S, 0, -2, 0) e) (by omega) (by omega)) q)
  refine rs_aload_n ri_206_322 rfl rfl ?_
  refine rs_iconst (v := nI 1) ri_206_323 rfl (by decide) ?_
  refine rs_aload ri_206_324 rfl rfl ?_
  refine rs_stat (As := [.ref 4, .int (nI 1), .ref ct]) (r := []) ri_206_326 rfl rm_200.2.2.2 rfl rfl rfl (Nat.le_of_ble_eq_true rfl) (hcs0) (by omega) (lx_200 (X := X) hz.1 hc h60 (by decide) hb7 hla) ?_
  rintro v M1 ⟨f1, k1, v1, hsc1⟩
  rw [f1]
  show ro_w X _ 206 _ 329 [(12, .int (nI B)), (11, .int (nI Bs)), (10, .ref ct), (9, .int ((ep od hb g (S, 0, -2, 0) e).2.2.2)), (8, .int (nI (en od hb g (S, 0, -2, 0) e))), (7, .ref cn), (6, .int (nI e)), (0, .ref 0), (1, .ref 4), (2, .int (nI (np X)))] [.int (ro_b true)] M1 cs
  have hz1 := zb_r hz k1 v1 (by decide)
  have hla1 := lr_w hla v1 hc
  have hln1 := lr_w hln v1 hcn
  have hsb1 := sh_q (by decide) v1 (fun _ => rfl) (fun _ => rfl) hsb
  refine rs_ifne_b (t := 334) ri_206_329 rfl rfl (fun _ => ?_) (fun q => absurd (q.symm.trans (rfl)) (by decide))
  refine ro_w_lv (lv := [(12, .int (nI B)), (10, .ref ct), (9, .int ((ep od hb g (S, 0, -2, 0) e).2.2.2)), (8, .int (nI (en od hb g (S, 0, -2, 0) e))), (7, .ref cn), (6, .int (nI e)), (0, .ref 0), (1, .ref 4), (2, .int (nI (np X)))]) (ro_sub_c rfl (ro_sub_c rfl (ro_sub_c rfl (ro_sub_c rfl (ro_sub_c rfl (ro_sub_c rfl (ro_sub_c rfl (ro_sub_c rfl (ro_sub_c rfl (ro_sub_n rfl)))))))))) ?_
  exact lq_334 hcs hX hSI hok he hg ho hm hcn hc hb7 hh (hea.2.trans hB) hz1 hsb1 hsc1 hla1 hln1
/-- sums -/
def sb (h : Nat → Nat) : Nat → Nat
  | 0 => 0
  | n + 1 => sb h n + (h (2 * n) + h (2 * n + 1))
def bf (X : ro_Sx) : Nat → Nat
  | 0 => 0
  | n + 1 => bf X n + (on0 X n + on1 X n)
theorem sb_s {h : Nat → Nat} {T : pu_T} : ∀ n, (∀ y, y < n → T.1 y = nI (h (2 * y)) ∧ T.2 y = nI (h (2 * y + 1))) → sT T n = nI (sb h n)
  | 0, _ => rfl
  | n + 1, q => by
    have ih := sb_s n (fun y hy => q y (by omega))
    unfold sT at ih ⊢
    rw [su, su, (q n (by omega)).1, (q n (by omega)).2, sb, ← nI_add, ← nI_add, ← ih]
    grind
theorem bf_s : ∀ n, (∀ y, y < n → S.1 y = nI (on0 X y) ∧ S.2 y = nI (on1 X y)) → sT S n = nI (bf X n)
  | 0, _ => rfl
  | n + 1, q => by
    have ih := bf_s n (fun y hy => q y (by omega))
    unfold sT at ih ⊢
    rw [su, su, (q n (by omega)).1, (q n (by omega)).2, bf, ← nI_add, ← nI_add, ← ih]
    grind
theorem lq_153 {ct cn e : Nat} {g h : Nat → Nat} (hcs : cs.1 + 2 ≤ (ro_lim 206).1 ∧ cs.2 + 15 ≤ (ro_lim 206).2) (hX : X.1 ≤ 260) (hSI : ∀ i, i < np X → S.1 i = nI (on0 X i) ∧ S.2 i = nI (on1 X i)) (hok : pu_ok (np X) S) (he : e ≤ 10) (hg : ∀ i, i < e → g i < 128) (ho : ∀ i, i < e → of_ok (np X) (g i)) (hm : ∀ i, i < e → may (g i) (ep od hb g (S, 0, -2, 0) i) = true) (hcn : 163 ≤ cn) (hc : 163 ≤ ct) (hb7 : ∀ i, i < 2 * np X → h i < 128) (hh : ∀ y, y < np X → (ep od hb g (S, 0, -2, 0) e).1.1 y = nI (h (2 * y)) ∧ (ep od hb g (S, 0, -2, 0) e).1.2 y = nI (h (2 * y + 1))) : ∀ d y M f, y + d = np X → zb X L od hb nt S M → sh_b M 0 e g → lr_a M ct (2 * np X) f → lr_a M cn e g → (∀ i, i < 2 * y → f i = h i) → ct ≠ cn → ro_w X 2000 206 lw_PP 153 [(13, .int (nI y)), (12, .int (nI (bf X y))), (11, .int (nI (sb h y))), (10, .ref ct), (9, .int ((ep od hb g (S, 0, -2, 0) e).2.2.2)), (8, .int (nI (en od hb g (S, 0, -2, 0) e))), (7, .ref cn), (6, .int (nI e)), (0, .ref 0), (1, .ref 4), (2, .int (nI (np X)))] [] M cs := by
  have hnp := np_b (X := X)
  have hcs0 := hcs_15 hcs
  intro d
  induction d with
  | zero =>
    intro y M f hye hz hsb hla hln hf hcc
    have ey : y = np X := by omega
    refine rs_iload ri_206_153 rfl rfl ?_
    refine rs_iload_n ri_206_155 rfl rfl ?_
    refine rs_icmp_ge (t := 303) ri_206_156 rfl rfl (fun _ => ?_) (fun q => absurd (nI_le (a := np X) (b := y) (by omega) (by omega)) q)
    refine ro_w_lv (lv := [(12, .int (nI (bf X y))), (11, .int (nI (sb h y))), (10, .ref ct), (9, .int ((ep od hb g (S, 0, -2, 0) e).2.2.2)), (8, .int (nI (en od hb g (S, 0, -2, 0) e))), (7, .ref cn), (6, .int (nI e)), (0, .ref 0), (1, .ref 4), (2, .int (nI (np X)))]) (ro_sub_c rfl (ro_sub_c rfl (ro_sub_c rfl (ro_sub_c rfl (ro_sub_c rfl (ro_sub_c rfl (ro_sub_c rfl (ro_sub_c rfl (ro_sub_c rfl (ro_sub_c rfl (ro_sub_n rfl))))))))))) ?_
    exact lq_303 hcs hX hSI hok he hg ho hm hcn hc hb7 hh (by rw [ey]; exact bf_s (np X) hSI) (by rw [ey]; exact sb_s (np X) hh) hz hsb (lr_f hla (fun i hi => (hf i (by omega)).symm)) hln
  | succ d ih =>
    intro y M f hye hz hsb hla hln hf hcc
    have hy : y < np X := by omega
    have q0 := hh y hy
    have s0 := hSI y hy
    have l0 := hb7 (2 * y) (by omega)
    have l1 := hb7 (2 * y + 1) (by omega)
    have b0 := on0_b (X := X) (p := y)
    have b1 := on1_b (X := X) (p := y)
    have e7 : ∀ (M : ro_Mm), zb X L od hb nt S M → M.2.1 7 y = nI (on0 X y) := fun M hz => (congrFun (congrArg Prod.fst hz.2.2.2.2.2.1) y).trans s0.1
    have e8 : ∀ (M : ro_Mm), zb X L od hb nt S M → M.2.1 8 y = nI (on1 X y) := fun M hz => (congrFun (congrArg Prod.snd hz.2.2.2.2.2.1) y).trans s0.2
    refine rs_iload ri_206_153 rfl rfl ?_
    refine rs_iload_n ri_206_155 rfl rfl ?_
    refine rs_icmp_ge (t := 303) ri_206_156 rfl rfl (fun q => absurd q (nI_ge (a := y) (b := np X) (by omega) (by omega))) (fun _ => ?_)
    refine rs_aload ri_206_159 rfl rfl ?_
    refine rs_iconst (v := nI 2) ri_206_161 rfl (by decide) ?_
    refine rs_iload ri_206_162 rfl rfl ?_
    refine rs_imul (r := nI (2 * y)) ri_206_164 rfl (nI_mul 2 y) ?_
    refine rs_aload_n ri_206_165 rfl rfl ?_
    refine rs_iconst (v := nI 0) ri_206_166 rfl (by decide) ?_
    refine rs_bipush (v := nI 20) ri_206_167 rfl (by decide) ?_
    refine rs_iload ri_206_169 rfl rfl ?_
    refine rs_iconst (v := nI 0) ri_206_171 rfl (by decide) ?_
    refine rs_virt (c := 4) (As := [.int (nI 0), .int (nI 20), .int (nI y), .int (nI 0)]) (r := [.int (nI (2 * y)), .ref ct]) ri_206_172 rfl (by decide) rm_64.2.2.2 rm_64.2.2.1 rfl rfl rfl (by decide) (lr_4 hz.1) (Nat.le_of_ble_eq_true rfl) (hcs0) (by omega) (zl_0 hz he hg ho hsb hy) ?_
    rintro v M1 ⟨f1, q1⟩
    rw [f1, q0.1]
    show ro_w X _ 206 _ 175 [(13, .int (nI y)), (12, .int (nI (bf X y))), (11, .int (nI (sb h y))), (10, .ref ct), (9, .int ((ep od hb g (S, 0, -2, 0) e).2.2.2)), (8, .int (nI (en od hb g (S, 0, -2, 0) e))), (7, .ref cn), (6, .int (nI e)), (0, .ref 0), (1, .ref 4), (2, .int (nI (np X)))] [.int (nI (h (2 * y))), .int (nI (2 * y)), .ref ct] M1 cs
    have hz1 := zb_q hz q1
    have hsb1 := sh_q (by decide) (kq_w q1) (fun _ => rfl) (fun _ => rfl) hsb
    have hln1 := lr_q hln q1 hcn
    have hla1 := lr_q hla q1 hc
    refine rs_iast (j := 2 * y) ri_206_175 rfl (by omega) hla1.1 (ro_vn (by omega) (by omega)) (nI_clamp (by omega)) ?_
    obtain ⟨M2, hM2⟩ : ∃ N, N = ro_sI M1 ct (2 * y) (nI (h (2 * y))) := ⟨_, rfl⟩
    rw [← hM2]
    have hz2 : zb X L od hb nt S M2 := by rw [hM2]; exact zb_s hz1 hc
    have hsb2 : sh_b M2 0 e g := by rw [hM2]; exact sh_si (by decide) hc hsb1
    have hln2 : lr_a M2 cn e g := by rw [hM2]; exact lr_o hln1 (Ne.symm hcc)
    have hla2 := lr_s (i := 2 * y) (x := h (2 * y)) hla1
    rw [← hM2] at hla2
    show ro_w X _ 206 _ 176 [(13, .int (nI y)), (12, .int (nI (bf X y))), (11, .int (nI (sb h y))), (10, .ref ct), (9, .int ((ep od hb g (S, 0, -2, 0) e).2.2.2)), (8, .int (nI (en od hb g (S, 0, -2, 0) e))), (7, .ref cn), (6, .int (nI e)), (0, .ref 0), (1, .ref 4), (2, .int (nI (np X)))] [] M2 cs
    refine rs_aload ri_206_176 rfl rfl ?_
    refine rs_iconst (v := nI 2) ri_206_178 rfl (by decide) ?_
    refine rs_iload ri_206_179 rfl rfl ?_
    refine rs_imul (r := nI (2 * y)) ri_206_181 rfl (nI_mul 2 y) ?_
    refine rs_iconst (v := nI 1) ri_206_182 rfl (by decide) ?_
    refine rs_iadd (r := nI ((2 * y) + 1)) ri_206_183 rfl (nI_add (2 * y) 1) ?_
    refine rs_aload_n ri_206_184 rfl rfl ?_
    refine rs_iconst (v := nI 0) ri_206_185 rfl (by decide) ?_
    refine rs_bipush (v := nI 20) ri_206_186 rfl (by decide) ?_
    refine rs_iload ri_206_188 rfl rfl ?_
    refine rs_iconst (v := nI 1) ri_206_190 rfl (by decide) ?_
    refine rs_virt (c := 4) (As := [.int (nI 0), .int (nI 20), .int (nI y), .int (nI 1)]) (r := [.int (nI ((2 * y) + 1)), .ref ct]) ri_206_191 rfl (by decide) rm_64.2.2.2 rm_64.2.2.1 rfl rfl rfl (by decide) (lr_4 hz2.1) (Nat.le_of_ble_eq_true rfl) (hcs0) (by omega) (zl_1 hz2 he hg ho hsb2 hy) ?_
    rintro v M3 ⟨f3, q3⟩
    rw [f3, q0.2]
    show ro_w X _ 206 _ 194 [(13, .int (nI y)), (12, .int (nI (bf X y))), (11, .int (nI (sb h y))), (10, .ref ct), (9, .int ((ep od hb g (S, 0, -2, 0) e).2.2.2)), (8, .int (nI (en od hb g (S, 0, -2, 0) e))), (7, .ref cn), (6, .int (nI e)), (0, .ref 0), (1, .ref 4), (2, .int (nI (np X)))] [.int (nI (h (2 * y + 1))), .int (nI ((2 * y) + 1)), .ref ct] M3 cs
    have hz3 := zb_q hz2 q3
    have hsb3 := sh_q (by decide) (kq_w q3) (fun _ => rfl) (fun _ => rfl) hsb2
    have hln3 := lr_q hln2 q3 hcn
    have hla3 := lr_q hla2 q3 hc
    refine rs_iast (j := 2 * y + 1) ri_206_194 rfl (by omega) hla3.1 (ro_vn (by omega) (by omega)) (nI_clamp (by omega)) ?_
    obtain ⟨M4, hM4⟩ : ∃ N, N = ro_sI M3 ct (2 * y + 1) (nI (h (2 * y + 1))) := ⟨_, rfl⟩
    rw [← hM4]
    have hz4 : zb X L od hb nt S M4 := by rw [hM4]; exact zb_s hz3 hc
    have hsb4 : sh_b M4 0 e g := by rw [hM4]; exact sh_si (by decide) hc hsb3
    have hln4 : lr_a M4 cn e g := by rw [hM4]; exact lr_o hln3 (Ne.symm hcc)
    have hla4 := lr_s (i := 2 * y + 1) (x := h (2 * y + 1)) hla3
    rw [← hM4] at hla4
    show ro_w X _ 206 _ 195 [(13, .int (nI y)), (12, .int (nI (bf X y))), (11, .int (nI (sb h y))), (10, .ref ct), (9, .int ((ep od hb g (S, 0, -2, 0) e).2.2.2)), (8, .int (nI (en od hb g (S, 0, -2, 0) e))), (7, .ref cn), (6, .int (nI e)), (0, .ref 0), (1, .ref 4), (2, .int (nI (np X)))] [] M4 cs
    refine rs_iload ri_206_195 rfl rfl ?_
    refine rs_aload ri_206_197 rfl rfl ?_
    refine rs_iconst (v := nI 2) ri_206_199 rfl (by decide) ?_
    refine rs_iload ri_206_200 rfl rfl ?_
    refine rs_imul (r := nI (2 * y)) ri_206_202 rfl (nI_mul 2 y) ?_
    refine rs_iald (v := nI (h (2 * y))) ri_206_203 rfl (by omega) hla4.1 (ro_vn (k := 2 * y) (by omega) (by omega)) ((lr_g hla4 (by omega) (by omega)).trans (congrArg nI ((if_neg (by omega)).trans (if_pos rfl)))) ?_
    refine rs_aload ri_206_204 rfl rfl ?_
    refine rs_iconst (v := nI 2) ri_206_206 rfl (by decide) ?_
    refine rs_iload ri_206_207 rfl rfl ?_
    refine rs_imul (r := nI (2 * y)) ri_206_209 rfl (nI_mul 2 y) ?_
    refine rs_iconst (v := nI 1) ri_206_210 rfl (by decide) ?_
    refine rs_iadd (r := nI ((2 * y) + 1)) ri_206_211 rfl (nI_add (2 * y) 1) ?_
    refine rs_iald (v := nI (h (2 * y + 1))) ri_206_212 rfl (by omega) hla4.1 (ro_vn (k := 2 * y + 1) (by omega) (by omega)) ((lr_g hla4 (by omega) (by omega)).trans (congrArg nI (if_pos rfl))) ?_
    refine rs_iadd (r := nI ((h (2 * y)) + (h (2 * y + 1)))) ri_206_213 rfl (nI_add (h (2 * y)) (h (2 * y + 1))) ?_
    refine rs_iadd (r := nI ((sb h y) + ((h (2 * y)) + (h (2 * y + 1))))) ri_206_214 rfl (nI_add (sb h y) ((h (2 * y)) + (h (2 * y + 1)))) ?_
    refine rs_istore (lv2 := [(11, .int (nI ((sb h y) + ((h (2 * y)) + (h (2 * y + 1)))))), (13, .int (nI y)), (12, .int (nI (bf X y))), (10, .ref ct), (9, .int ((ep od hb g (S, 0, -2, 0) e).2.2.2)), (8, .int (nI (en od hb g (S, 0, -2, 0) e))), (7, .ref cn), (6, .int (nI e)), (0, .ref 0), (1, .ref 4), (2, .int (nI (np X)))]) ri_206_215 rfl rm_206.1 (by decide) rfl ?_
    refine rs_iload ri_206_217 rfl rfl ?_
    refine rs_aload_n ri_206_219 rfl rfl ?_
    refine rs_iload ri_206_220 rfl rfl ?_
    refine rs_iconst (v := nI 0) ri_206_222 rfl (by decide) ?_
    refine rs_virt (c := 4) (As := [.int (nI y), .int (nI 0)]) (r := [.int (nI (bf X y))]) ri_206_223 rfl (by decide) rm_36.2.2.2 rm_36.2.2.1 rfl rfl rfl (by decide) (lr_4 hz4.1) (Nat.le_of_ble_eq_true rfl) (hcs0) (by omega) (ca_of0 (X := X) hz4.1 hnp hz4.2.1 hy) ?_
    rintro v M5 ⟨f5, q5⟩
    rw [f5, e7 _ hz4]
    show ro_w X _ 206 _ 226 [(11, .int (nI ((sb h y) + ((h (2 * y)) + (h (2 * y + 1)))))), (13, .int (nI y)), (12, .int (nI (bf X y))), (10, .ref ct), (9, .int ((ep od hb g (S, 0, -2, 0) e).2.2.2)), (8, .int (nI (en od hb g (S, 0, -2, 0) e))), (7, .ref cn), (6, .int (nI e)), (0, .ref 0), (1, .ref 4), (2, .int (nI (np X)))] [.int (nI (on0 X y)), .int (nI (bf X y))] M5 cs
    have hz5 := zb_q hz4 q5
    have hsb5 := sh_q (by decide) (kq_w q5) (fun _ => rfl) (fun _ => rfl) hsb4
    have hln5 := lr_q hln4 q5 hcn
    have hla5 := lr_q hla4 q5 hc
    refine rs_aload_n ri_206_226 rfl rfl ?_
    refine rs_iload ri_206_227 rfl rfl ?_
    refine rs_iconst (v := nI 1) ri_206_229 rfl (by decide) ?_
    refine rs_virt (c := 4) (As := [.int (nI y), .int (nI 1)]) (r := [.int (nI (on0 X y)), .int (nI (bf X y))]) ri_206_230 rfl (by decide) rm_36.2.2.2 rm_36.2.2.1 rfl rfl rfl (by decide) (lr_4 hz5.1) (Nat.le_of_ble_eq_true rfl) (hcs0) (by omega) (ca_of1 (X := X) hz5.1 hnp hz5.2.1 hy) ?_
    rintro v M6 ⟨f6, q6⟩
    rw [f6, e8 _ hz5]
    show ro_w X _ 206 _ 233 [(11, .int (nI ((sb h y) + ((h (2 * y)) + (h (2 * y + 1)))))), (13, .int (nI y)), (12, .int (nI (bf X y))), (10, .ref ct), (9, .int ((ep od hb g (S, 0, -2, 0) e).2.2.2)), (8, .int (nI (en od hb g (S, 0, -2, 0) e))), (7, .ref cn), (6, .int (nI e)), (0, .ref 0), (1, .ref 4), (2, .int (nI (np X)))] [.int (nI (on1 X y)), .int (nI (on0 X y)), .int (nI (bf X y))] M6 cs
    have hz6 := zb_q hz5 q6
    have hsb6 := sh_q (by decide) (kq_w q6) (fun _ => rfl) (fun _ => rfl) hsb5
    have hln6 := lr_q hln5 q6 hcn
    have hla6 := lr_q hla5 q6 hc
    refine rs_iadd (r := nI ((on0 X y) + (on1 X y))) ri_206_233 rfl (nI_add (on0 X y) (on1 X y)) ?_
    refine rs_iadd (r := nI ((bf X y) + ((on0 X y) + (on1 X y)))) ri_206_234 rfl (nI_add (bf X y) ((on0 X y) + (on1 X y))) ?_
    refine rs_istore (lv2 := [(12, .int (nI ((bf X y) + ((on0 X y) + (on1 X y))))), (11, .int (nI ((sb h y) + ((h (2 * y)) + (h (2 * y + 1)))))), (13, .int (nI y)), (10, .ref ct), (9, .int ((ep od hb g (S, 0, -2, 0) e).2.2.2)), (8, .int (nI (en od hb g (S, 0, -2, 0) e))), (7, .ref cn), (6, .int (nI e)), (0, .ref 0), (1, .ref 4), (2, .int (nI (np X)))]) ri_206_235 rfl rm_206.1 (by decide) rfl ?_
    refine rs_aload_n ri_206_237 rfl rfl ?_
    refine rs_iconst (v := nI 0) ri_206_238 rfl (by decide) ?_
    refine rs_bipush (v := nI 20) ri_206_239 rfl (by decide) ?_
    refine rs_iload ri_206_241 rfl rfl ?_
    refine rs_iconst (v := nI 2) ri_206_243 rfl (by decide) ?_
    refine rs_virt (c := 4) (As := [.int (nI 0), .int (nI 20), .int (nI y), .int (nI 2)]) (r := []) ri_206_244 rfl (by decide) rm_64.2.2.2 rm_64.2.2.1 rfl rfl rfl (by decide) (lr_4 hz6.1) (Nat.le_of_ble_eq_true rfl) (hcs0) (by omega) (zl_2 hz6 he hg ho hsb6 hy) ?_
    rintro v M7 ⟨f7, q7⟩
    rw [f7]
    show ro_w X _ 206 _ 247 [(12, .int (nI ((bf X y) + ((on0 X y) + (on1 X y))))), (11, .int (nI ((sb h y) + ((h (2 * y)) + (h (2 * y + 1)))))), (13, .int (nI y)), (10, .ref ct), (9, .int ((ep od hb g (S, 0, -2, 0) e).2.2.2)), (8, .int (nI (en od hb g (S, 0, -2, 0) e))), (7, .ref cn), (6, .int (nI e)), (0, .ref 0), (1, .ref 4), (2, .int (nI (np X)))] [.int ((4 * (ep od hb g (S, 0, -2, 0) e).1.1 y + nt * (ep od hb g (S, 0, -2, 0) e).1.2 y))] M7 cs
    have hz7 := zb_q hz6 q7
    have hsb7 := sh_q (by decide) (kq_w q7) (fun _ => rfl) (fun _ => rfl) hsb6
    have hln7 := lr_q hln6 q7 hcn
    have hla7 := lr_q hla6 q7 hc
    refine rs_iconst (v := nI 4) ri_206_247 rfl (by decide) ?_
    refine rs_aload ri_206_248 rfl rfl ?_
    refine rs_iconst (v := nI 2) ri_206_250 rfl (by decide) ?_
    refine rs_iload ri_206_251 rfl rfl ?_
    refine rs_imul (r := nI (2 * y)) ri_206_253 rfl (nI_mul 2 y) ?_
    refine rs_iald (v := nI (h (2 * y))) ri_206_254 rfl (by omega) hla7.1 (ro_vn (k := 2 * y) (by omega) (by omega)) ((lr_g hla7 (by omega) (by omega)).trans (congrArg nI ((if_neg (by omega)).trans (if_pos rfl)))) ?_
    refine rs_imul (r := nI (4 * (h (2 * y)))) ri_206_255 rfl (nI_mul 4 (h (2 * y))) ?_
    refine rs_aload_n ri_206_256 rfl rfl ?_
    refine rs_iconst (v := nI 0) ri_206_257 rfl (by decide) ?_
    refine rs_iconst (v := nI 4) ri_206_258 rfl (by decide) ?_
    refine rs_virt (c := 4) (As := [.int (nI 0), .int (nI 4)]) (r := [.int (nI (4 * (h (2 * y)))), .int ((4 * (ep od hb g (S, 0, -2, 0) e).1.1 y + nt * (ep od hb g (S, 0, -2, 0) e).1.2 y))]) ri_206_259 rfl (by decide) rm_36.2.2.2 rm_36.2.2.1 rfl rfl rfl (by decide) (lr_4 hz7.1) (Nat.le_of_ble_eq_true rfl) (hcs0) (by omega) (ca_of4 (X := X) hz7.1) ?_
    rintro v M8 ⟨f8, q8⟩
    rw [f8, hz7.2.2.2.2.1]
    show ro_w X _ 206 _ 262 [(12, .int (nI ((bf X y) + ((on0 X y) + (on1 X y))))), (11, .int (nI ((sb h y) + ((h (2 * y)) + (h (2 * y + 1)))))), (13, .int (nI y)), (10, .ref ct), (9, .int ((ep od hb g (S, 0, -2, 0) e).2.2.2)), (8, .int (nI (en od hb g (S, 0, -2, 0) e))), (7, .ref cn), (6, .int (nI e)), (0, .ref 0), (1, .ref 4), (2, .int (nI (np X)))] [.int nt, .int (nI (4 * (h (2 * y)))), .int ((4 * (ep od hb g (S, 0, -2, 0) e).1.1 y + nt * (ep od hb g (S, 0, -2, 0) e).1.2 y))] M8 cs
    have hz8 := zb_q hz7 q8
    have hsb8 := sh_q (by decide) (kq_w q8) (fun _ => rfl) (fun _ => rfl) hsb7
    have hln8 := lr_q hln7 q8 hcn
    have hla8 := lr_q hla7 q8 hc
    refine rs_aload ri_206_262 rfl rfl ?_
    refine rs_iconst (v := nI 2) ri_206_264 rfl (by decide) ?_
    refine rs_iload ri_206_265 rfl rfl ?_
    refine rs_imul (r := nI (2 * y)) ri_206_267 rfl (nI_mul 2 y) ?_
    refine rs_iconst (v := nI 1) ri_206_268 rfl (by decide) ?_
    refine rs_iadd (r := nI ((2 * y) + 1)) ri_206_269 rfl (nI_add (2 * y) 1) ?_
    refine rs_iald (v := nI (h (2 * y + 1))) ri_206_270 rfl (by omega) hla8.1 (ro_vn (k := 2 * y + 1) (by omega) (by omega)) ((lr_g hla8 (by omega) (by omega)).trans (congrArg nI (if_pos rfl))) ?_
    refine rs_imul (r := nt * (nI (h (2 * y + 1)))) ri_206_271 rfl rfl ?_
    refine rs_iadd (r := (nI (4 * (h (2 * y)))) + (nt * (nI (h (2 * y + 1))))) ri_206_272 rfl rfl ?_
    refine rs_icmp_ne (t := 295) ri_206_273 rfl rfl (fun q => absurd (by rw [q0.1, q0.2, ← nI_mul]; rfl) q) (fun _ => ?_)
    refine rs_aload_n ri_206_276 rfl rfl ?_
    refine rs_iconst (v := nI 0) ri_206_277 rfl (by decide) ?_
    refine rs_iconst (v := nI 0) ri_206_278 rfl (by decide) ?_
    refine rs_iload ri_206_279 rfl rfl ?_
    refine rs_iconst (v := nI 0) ri_206_281 rfl (by decide) ?_
    refine rs_virt (c := 4) (As := [.int (nI 0), .int (nI 0), .int (nI y), .int (nI 0)]) (r := []) ri_206_282 rfl (by decide) rm_64.2.2.2 rm_64.2.2.1 rfl rfl rfl (by decide) (lr_4 hz8.1) (Nat.le_of_ble_eq_true rfl) (hcs0) (by omega) (zl_00 hz8 he hg ho hsb8 hy) ?_
    rintro v M9 ⟨f9, q9⟩
    rw [f9, s0.1]
    show ro_w X _ 206 _ 285 [(12, .int (nI ((bf X y) + ((on0 X y) + (on1 X y))))), (11, .int (nI ((sb h y) + ((h (2 * y)) + (h (2 * y + 1)))))), (13, .int (nI y)), (10, .ref ct), (9, .int ((ep od hb g (S, 0, -2, 0) e).2.2.2)), (8, .int (nI (en od hb g (S, 0, -2, 0) e))), (7, .ref cn), (6, .int (nI e)), (0, .ref 0), (1, .ref 4), (2, .int (nI (np X)))] [.int (nI (on0 X y))] M9 cs
    have hz9 := zb_q hz8 q9
    have hsb9 := sh_q (by decide) (kq_w q9) (fun _ => rfl) (fun _ => rfl) hsb8
    have hln9 := lr_q hln8 q9 hcn
    have hla9 := lr_q hla8 q9 hc
    refine rs_aload_n ri_206_285 rfl rfl ?_
    refine rs_iload ri_206_286 rfl rfl ?_
    refine rs_iconst (v := nI 0) ri_206_288 rfl (by decide) ?_
    refine rs_virt (c := 4) (As := [.int (nI y), .int (nI 0)]) (r := [.int (nI (on0 X y))]) ri_206_289 rfl (by decide) rm_36.2.2.2 rm_36.2.2.1 rfl rfl rfl (by decide) (lr_4 hz9.1) (Nat.le_of_ble_eq_true rfl) (hcs0) (by omega) (ca_of0 (X := X) hz9.1 hnp hz9.2.1 hy) ?_
    rintro v M10 ⟨f10, q10⟩
    rw [f10, e7 _ hz9]
    show ro_w X _ 206 _ 292 [(12, .int (nI ((bf X y) + ((on0 X y) + (on1 X y))))), (11, .int (nI ((sb h y) + ((h (2 * y)) + (h (2 * y + 1)))))), (13, .int (nI y)), (10, .ref ct), (9, .int ((ep od hb g (S, 0, -2, 0) e).2.2.2)), (8, .int (nI (en od hb g (S, 0, -2, 0) e))), (7, .ref cn), (6, .int (nI e)), (0, .ref 0), (1, .ref 4), (2, .int (nI (np X)))] [.int (nI (on0 X y)), .int (nI (on0 X y))] M10 cs
    have hz10 := zb_q hz9 q10
    have hsb10 := sh_q (by decide) (kq_w q10) (fun _ => rfl) (fun _ => rfl) hsb9
    have hln10 := lr_q hln9 q10 hcn
    have hla10 := lr_q hla9 q10 hc
    refine rs_icmp_eq (t := 297) ri_206_292 rfl rfl (fun _ => ?_) (fun q => absurd (congrArg nI (by omega)) q)
    refine rs_iinc (v := nI (y + 1)) (lv2 := [(13, .int (nI (y + 1))), (12, .int (nI ((bf X y) + ((on0 X y) + (on1 X y))))), (11, .int (nI ((sb h y) + ((h (2 * y)) + (h (2 * y + 1)))))), (10, .ref ct), (9, .int ((ep od hb g (S, 0, -2, 0) e).2.2.2)), (8, .int (nI (en od hb g (S, 0, -2, 0) e))), (7, .ref cn), (6, .int (nI e)), (0, .ref 0), (1, .ref 4), (2, .int (nI (np X)))]) ri_206_297 rfl rfl (nI_1 y) rm_206.1 (by decide) rfl ?_
    refine rs_goto (t := 153) ri_206_300 rfl ?_
    exact ih (y + 1) M10 _ (by omega) hz10 hsb10 hla10 hln10 (fun i hi => by
      by_cases q1 : i = 2 * y + 1
      · rw [q1]; exact if_pos rfl
      · by_cases q2 : i = 2 * y
        · rw [q2]; exact (if_neg (by omega)).trans (if_pos rfl)
        · exact ((if_neg q1).trans (if_neg q2)).trans (hf i (by omega))) hcc
end BEFORE
end LAWY
