/-! the law's body: a round, in deed -/
section LAWV
variable {X : ro_Sx} {L : List (List Int32 × List Int32)}
section RND
variable {cs : Nat × Nat} {od : Nat → Nat → Int32 → Int32 → Int32} {hb nt : Int32}
/-- what stays: the people, the odds, the image -/
def zs (X : ro_Sx) (L : List (List Int32 × List Int32)) (od : Nat → Nat → Int32 → Int32 → Int32) (hb nt : Int32) (M : ro_Mm) : Prop := kv L M ∧ M.2.1 5 4 = nI (np X) ∧ odv M L = od ∧ M.2.1 5 7 = hb ∧ M.2.1 5 5 = nt ∧ M.2.1 5 10 = 1 ∧ M.2.1 5 11 = nI (np X) ∧ M.2.1 5 12 = M.2.1 5 6 ∧ (∀ i, i < np X → M.2.1 13 i = nI (on0 X i) ∧ M.2.1 14 i = nI (on1 X i) ∧ M.2.1 10 i = nI (on3 X i)) ∧ M.2.1 15 0 = 0
def cm (M M2 : ro_Mm) : Prop := ∀ c j, (c = 5 ∨ c = 9 ∨ c = 10 ∨ (13 ≤ c ∧ c ≤ 15)) → M2.2.1 c j = M.2.1 c j
theorem zs_c {M M2 : ro_Mm} (h : zs X L od hb nt M) (hk : kv L M2) (g : cm M M2) : zs X L od hb nt M2 := by
  obtain ⟨h1, h2, h3, h4, h5, h6, h7, h8, h9, h10⟩ := h
  have e5 : ∀ j, M2.2.1 5 j = M.2.1 5 j := fun j => g 5 j (by omega)
  refine ⟨hk, (e5 4).trans h2, (odv_c (fun i => g 9 i (by omega)) (e5 5) (e5 6)).trans h3, (e5 7).trans h4, (e5 5).trans h5, (e5 10).trans h6, (e5 11).trans h7, by rw [e5, e5]; exact h8, fun i hi => ?_, (g 15 0 (by omega)).trans h10⟩
  rw [g 13 i (by omega), g 14 i (by omega), g 10 i (by omega)]
  exact h9 i hi
theorem cm_lv {c j : Nat} (h : c = 5 ∨ c = 9 ∨ c = 10 ∨ (13 ≤ c ∧ c ≤ 15)) : ro_lv c j = true := by
  rcases (show c = 5 ∨ c = 9 ∨ c = 10 ∨ c = 13 ∨ c = 14 ∨ c = 15 by omega) with e | e | e | e | e | e <;> rw [e] <;> rfl
theorem cm_q {M M2 : ro_Mm} (g : kq M M2) : cm M M2 := fun c j h => g.2.1 c j (by omega) (cm_lv h)
theorem cm_w {T : Nat → Nat → Bool} {M M2 : ro_Mm} (g : kw T M M2) (hT : ∀ c j, (c = 5 ∨ c = 9 ∨ c = 10 ∨ (13 ≤ c ∧ c ≤ 15)) → T c j = false) : cm M M2 := fun c j h => g.2.1 c j (by omega) (cm_lv h) (hT c j h)
theorem cm_nw {M M2 : ro_Mm} {c0 : Nat} (g : nw M M2 c0) (h0 : 163 ≤ c0) : cm M M2 := fun c j h => by rw [(g.2.2 c (by omega)).1]
theorem cm_s {M : ro_Mm} {c0 i : Nat} {x : Int32} (h0 : 163 ≤ c0) : cm M (ro_sI M c0 i x) := fun c j h => ro_sI_ne (by omega)
theorem zs_q {M M2 : ro_Mm} (h : zs X L od hb nt M) (g : kq M M2) : zs X L od hb nt M2 := zs_c h (kv_c h.1 g) (cm_q g)
theorem zs_nw {M M2 : ro_Mm} {c0 : Nat} (h : zs X L od hb nt M) (g : nw M M2 c0) (h0 : 163 ≤ c0) : zs X L od hb nt M2 := zs_c h (kv_nw h.1 g) (cm_nw g h0)
theorem zs_s {M : ro_Mm} {c0 i : Nat} {x : Int32} (h : zs X L od hb nt M) (h0 : 163 ≤ c0) : zs X L od hb nt (ro_sI M c0 i x) := zs_c h (kv_s h.1 h0) (cm_s h0)
theorem zs_o {M M2 : ro_Mm} (h : zs X L od hb nt M) (hk : kv L M2) (g : kw kS_o M M2) : zs X L od hb nt M2 := zs_c h hk (cm_w g (fun c j h => by
  unfold kS_o
  simp only [Bool.or_eq_false_iff, beq_eq_false_iff_ne]
  omega))
theorem zs_r {M M2 : ro_Mm} {s : Nat} (h : zs X L od hb nt M) (hk : kv L M2) (g : kw (kS_r s) M M2) (hs : s < 6) : zs X L od hb nt M2 := zs_c h hk (cm_w g (fun c j h => by
  unfold kS_r
  simp only [Bool.or_eq_false_iff, beq_eq_false_iff_ne]
  omega))
/-- the purses are these -/
def zn (M : ro_Mm) (S : pu_T) : Prop := pu_now M = S
theorem zn_i {M M2 : ro_Mm} {S : pu_T} (h : zn M S) (e7 : ∀ i, M2.2.1 7 i = M.2.1 7 i) (e8 : ∀ i, M2.2.1 8 i = M.2.1 8 i) : zn M2 S := (Prod.ext (funext e7) (funext e8)).trans h
theorem zn_q {M M2 : ro_Mm} {S : pu_T} (h : zn M S) (g : kq M M2) : zn M2 S := (kq_now g).trans h
theorem zn_nw {M M2 : ro_Mm} {S : pu_T} {c0 : Nat} (h : zn M S) (g : nw M M2 c0) (h0 : 163 ≤ c0) : zn M2 S := zn_i h (fun i => by rw [(g.2.2 7 (by omega)).1]) (fun i => by rw [(g.2.2 8 (by omega)).1])
theorem zn_s {M : ro_Mm} {S : pu_T} {c0 i : Nat} {x : Int32} (h : zn M S) (h0 : 163 ≤ c0) : zn (ro_sI M c0 i x) S := zn_i h (fun _ => ro_sI_ne (by omega)) (fun _ => ro_sI_ne (by omega))
theorem zn_r {M M2 : ro_Mm} {S : pu_T} {s : Nat} (h : zn M S) (g : kw (kS_r s) M M2) (hs : s < 6) : zn M2 S := zn_i h (fun i => g.2.1 7 i (by decide) rfl (by
  unfold kS_r
  simp only [Bool.or_eq_false_iff, beq_eq_false_iff_ne]
  omega)) (fun i => g.2.1 8 i (by decide) rfl (by
  unfold kS_r
  simp only [Bool.or_eq_false_iff, beq_eq_false_iff_ne]
  omega))
theorem zn_at {M : ro_Mm} {S : pu_T} (h : zn M S) {p : Nat} : pu_at p M 6 S := fun k _ => by rw [← h]; exact ⟨rfl, rfl⟩
/-- the image is laid back -/
theorem zt_back {M M2 : ro_Mm} (h : zs X L od hb nt M) (hk : kv L M2) (g : kw kS_b M M2) (h7 : ∀ i, i < np X → M2.2.1 7 i = M.2.1 13 i ∧ M2.2.1 8 i = M.2.1 14 i) : zt X L M2 := by
  obtain ⟨h1, h2, h3, h4, h5, h6, h7', h8, h9, h10⟩ := h
  refine ⟨hk, (g.2.1 5 4 (by decide) rfl rfl).trans h2, fun i hi => ?_⟩
  rw [(h7 i hi).1, (h7 i hi).2, g.2.1 10 i (by decide) rfl rfl]
  exact h9 i hi
/-- the search, by what stays -/
def ruG (od : Nat → Nat → Int32 → Int32 → Int32) (hb : Int32) (S : pu_T) (N : Nat) (h : Nat → Nat) (val : pu_T → Nat → Int32) (btr : Int32 → Int32 → Bool) : rd_A := rd_fd od hb (rd_w (ru_f h) 0) (rd_w (ru_f h) 1) val btr N S (2 ^ N) 0 none
theorem ru_G {M : ro_Mm} {S : pu_T} {N : Nat} {h : Nat → Nat} {val : pu_T → Nat → Int32} {btr : Int32 → Int32 → Bool} (hz : zs X L od hb nt M) (hn : zn M S) : ru_F M L N h val btr = ruG od hb S N h val btr := by
  unfold ru_F ruG
  rw [hz.2.2.1, hz.2.2.2.1, show pu_now M = S from hn]
def ruV (nt : Int32) (h : Nat → Nat) (S : pu_T) (_ : Nat) : Int32 := 4 * S.1 (rd_w (ru_f h) 0 0) + nt * S.2 (rd_w (ru_f h) 0 0)
theorem ru_V {M : ro_Mm} {h : Nat → Nat} (hz : zs X L od hb nt M) : rd_val M (ru_f h) = ruV nt h := by
  funext S r
  unfold rd_val ruV
  rw [hz.2.2.2.2.1]
theorem ru_nb {od : Nat → Nat → Int32 → Int32 → Int32} {hb : Int32} {S : pu_T} {N : Nat} {h : Nat → Nat} (val : pu_T → Nat → Int32) :
    (ruG od hb S N h ru_v1 ru_b1 = none ∧ ruG od hb S N h val ru_b2 = none) ∨ (∃ ks S2 r v, ruG od hb S N h ru_v1 ru_b1 = some (nI r, ks) ∧ r ≤ N ∧ rd_rn od hb (rd_w (ru_f h) 0) (rd_w (ru_f h) 1) N 0 S 0 ks = some (S2, r) ∧ (∃ k2, ruG od hb S N h val ru_b2 = some (v, k2)) ∧ val S2 r ≤ v) := by
  have key : ∀ ks, ∃ c, c < 2 ^ N ∧ rd_rn od hb (rd_w (ru_f h) 0) (rd_w (ru_f h) 1) N 0 S 0 c = rd_rn od hb (rd_w (ru_f h) 0) (rd_w (ru_f h) 1) N 0 S 0 ks := by
    intro ks
    refine ⟨ks % 2 ^ N, Nat.mod_lt _ (Nat.two_pow_pos _), ?_⟩
    have gen : ∀ (d k : Nat) (S : pu_T) (r : Nat), d ≤ N → rd_rn od hb (rd_w (ru_f h) 0) (rd_w (ru_f h) 1) d k S r (ks % 2 ^ N) = rd_rn od hb (rd_w (ru_f h) 0) (rd_w (ru_f h) 1) d k S r ks := by
      intro d
      induction d with
      | zero => intro k S r _; rfl
      | succ d ih =>
        intro k S r hd
        have e : ks % 2 ^ N / 2 ^ d % 2 = ks / 2 ^ d % 2 := by
          have e2 : 2 ^ N = 2 ^ d * (2 * 2 ^ (N - d - 1)) := by
            rw [← Nat.pow_succ', ← Nat.pow_add]
            congr 1
            omega
          rw [e2, Nat.mod_mul_right_div_self, Nat.mod_mul_right_mod]
        rw [rd_rn, rd_rn, e]
        cases rd_st od hb (rd_w (ru_f h) 0) (rd_w (ru_f h) 1) S k (ks / 2 ^ d % 2) with
        | none => rfl
        | some x => exact ih (k + 1) x.1 (r + x.2) (by omega)
    exact gen N 0 _ 0 (Nat.le_refl _)
  have E := fun (val : pu_T → Nat → Int32) (btr : Int32 → Int32 → Bool) tr rf => ru_end (od := od) (hab := hb) (fa := rd_w (ru_f h) 0) (fb := rd_w (ru_f h) 1) (val := val) (btr := btr) (N := N) (S0 := S) tr rf (2 ^ N) 0 none (Or.inl ⟨rfl, fun c hc => absurd hc (Nat.not_lt_zero _)⟩)
  rcases E ru_v1 ru_b1 ru_t1 ru_r1 with ⟨a1, a2⟩ | ⟨ks, S1, r, a1, a2, a3⟩
  · rcases E val ru_b2 ru_t2 ru_r2 with ⟨b1, b2⟩ | ⟨ks, S1, r, b1, b2, b3⟩
    · exact Or.inl ⟨a1, b1⟩
    · obtain ⟨c, hc, ec⟩ := key ks
      rw [a2 c (by omega), b2] at ec
      cases ec
  · rcases E val ru_b2 ru_t2 ru_r2 with ⟨b1, b2⟩ | ⟨k2, S2, r2, b1, b2, b3⟩
    · obtain ⟨c, hc, ec⟩ := key ks
      rw [b2 c (by omega), a2] at ec
      cases ec
    · have hr := ru_r _ _ _ _ _ _ _ a2
      refine Or.inr ⟨ks, S1, r, val S2 r2, a1, by omega, a2, ⟨k2, b1⟩, ?_⟩
      obtain ⟨c, hc, ec⟩ := key ks
      have := b3 c S1 r (by omega) (ec.trans a2)
      unfold ru_b2 at this
      simp only [decide_eq_true_eq] at this
      exact Int32.not_lt.mp this
theorem mod_ne {a t n : Nat} (ha : a < n) (ht : t < n - 1) : (a + 1 + t) % n ≠ a := by
  by_cases z : a + 1 + t < n
  · rw [Nat.mod_eq_of_lt z]; omega
  · rw [Nat.mod_eq_sub_mod (by omega), Nat.mod_eq_of_lt (by omega)]; omega
theorem lq_1048 (hcs : cs.1 ≤ (ro_lim 206).1 ∧ cs.2 ≤ (ro_lim 206).2) (hX : X.1 ≤ 260) {M : ro_Mm} (hz : zs X L od hb nt M) : ro_w X 2000 206 lw_PP 1048 [(0, .ref 0), (1, .ref 4), (2, .int (nI (np X)))] [] M cs := by
  refine rs_aload_n ri_206_1048 rfl rfl ?_
  refine rs_virt (c := 4) (As := []) (r := []) ri_206_1049 rfl (by decide) rm_152.2.2.2 rm_152.2.2.1 rfl rfl rfl (by decide) (lr_4 hz.1) (Nat.le_of_ble_eq_true rfl) (hcs) (by omega) (ca_back (X := X) hz.1 np_b hz.2.2.2.2.2.2.1 hz.2.2.2.2.2.1) ?_
  rintro v M1 ⟨f1, k1, w1, g1, g2, g3⟩
  rw [f1, hz.2.2.2.2.2.2.2.2.2]
  show ro_w X _ 206 _ 1052 [(0, .ref 0), (1, .ref 4), (2, .int (nI (np X)))] [.int (nI 0)] M1 cs
  refine rs_if_eq (t := 1057) ri_206_1052 rfl rfl (fun _ => ?_) (fun q => absurd (by decide) q)
  refine rs_goto (t := 1067) ri_206_1057 rfl ?_
  exact lq_1067 hcs hX (zt_back hz k1 w1 g1)
theorem lq_deed {N r ks ck cp : Nat} {f : Nat → Nat} {cl : Int32} {S2 : pu_T} (hcs : cs.1 ≤ (ro_lim 206).1 ∧ cs.2 ≤ (ro_lim 206).2) (hX : X.1 ≤ 260) (hp : 163 ≤ cp) (hc : 163 ≤ ck) (hN : ru_ok (np X) N f) (hr : r ≤ N) (hcl : 0 < N → ruV nt f S2 r ≤ cl) : ∀ e k rk M S, k + e = N → zs X L od hb nt M → pu_at (np X) M 6 S → pu_ok (np X) S → lr_a M cp (2 * N) f → lr_a M ck N (fun k => ks / 2 ^ (N - 1 - k) % 2) → rk ≤ k → rd_rn od hb (rd_w (ru_f f) 0) (rd_w (ru_f f) 1) e k S rk ks = some (S2, r) → ro_w X 2000 206 lw_PP 877 [(22, .int (nI k)), (20, .int (nI rk)), (21, .ref ck), (19, .int cl), (18, .int (nI r)), (17, .ref cp), (0, .ref 0), (1, .ref 4), (2, .int (nI (np X)))] [] M cs := by
  have hnp := np_b (X := X)
  have hN5 := hN.1
  intro e
  induction e with
  | zero =>
    intro k rk M S hke hz hS hok hla hlk hrk hrn
    have ek : k = N := by omega
    rw [rd_rn] at hrn
    cases hrn
    by_cases n0 : N = 0
    · refine rs_iconst (v := nI 2) ri_206_877 rfl (by decide) ?_
      refine rs_iload ri_206_878 rfl rfl ?_
      refine rs_imul (r := nI (2 * k)) ri_206_880 rfl (nI_mul 2 k) ?_
      refine rs_aload ri_206_881 rfl rfl ?_
      refine rs_len (v := nI (2 * N)) ri_206_883 rfl (by omega) (hla.1) (by decide) rfl ?_
      refine rs_icmp_ge (t := 1020) ri_206_884 rfl rfl (fun _ => ?_) (fun q => absurd (nI_le (a := 2 * N) (b := 2 * k) (by omega) (by omega)) q)
      refine rs_iload ri_206_1020 rfl rfl ?_
      refine rs_iload ri_206_1022 rfl rfl ?_
      refine rs_icmp_ne (t := 1055) ri_206_1024 rfl rfl (fun q => absurd (congrArg nI (by omega)) q) (fun _ => ?_)
      refine rs_aload ri_206_1027 rfl rfl ?_
      refine rs_len (v := nI (2 * N)) ri_206_1029 rfl (by omega) (hla.1) (by decide) rfl ?_
      refine rs_if_le (t := 1048) ri_206_1030 rfl rfl (fun _ => ?_) (fun q => absurd (nI_le (b := 0) (by omega) (by omega)) q)
      refine ro_w_lv (lv := [(0, .ref 0), (1, .ref 4), (2, .int (nI (np X)))]) (ro_sub_c rfl (ro_sub_c rfl (ro_sub_c rfl (ro_sub_n rfl)))) ?_
      exact lq_1048 hcs hX hz
    · refine rs_iconst (v := nI 2) ri_206_877 rfl (by decide) ?_
      refine rs_iload ri_206_878 rfl rfl ?_
      refine rs_imul (r := nI (2 * k)) ri_206_880 rfl (nI_mul 2 k) ?_
      refine rs_aload ri_206_881 rfl rfl ?_
      refine rs_len (v := nI (2 * N)) ri_206_883 rfl (by omega) (hla.1) (by decide) rfl ?_
      refine rs_icmp_ge (t := 1020) ri_206_884 rfl rfl (fun _ => ?_) (fun q => absurd (nI_le (a := 2 * N) (b := 2 * k) (by omega) (by omega)) q)
      refine rs_iload ri_206_1020 rfl rfl ?_
      refine rs_iload ri_206_1022 rfl rfl ?_
      refine rs_icmp_ne (t := 1055) ri_206_1024 rfl rfl (fun q => absurd (congrArg nI (by omega)) q) (fun _ => ?_)
      refine rs_aload ri_206_1027 rfl rfl ?_
      refine rs_len (v := nI (2 * N)) ri_206_1029 rfl (by omega) (hla.1) (by decide) rfl ?_
      refine rs_if_le (t := 1048) ri_206_1030 rfl rfl (fun q => absurd q (nI_nle (by omega) (by omega))) (fun _ => ?_)
      refine rs_aload_n ri_206_1033 rfl rfl ?_
      refine rs_aload ri_206_1034 rfl rfl ?_
      refine rs_iconst (v := nI 0) ri_206_1036 rfl (by decide) ?_
      refine rs_iald (v := nI (f 0)) ri_206_1037 rfl (by omega) (hla).1 (ro_vn (k := 0) (by omega) (by omega)) (lr_g (hla) (by omega) (by omega)) ?_
      refine rs_bipush (v := nI 7) ri_206_1038 rfl (by decide) ?_
      refine rs_virt (c := 4) (As := [.int (nI (f 0)), .int (nI 7)]) (r := []) ri_206_1040 rfl (by decide) rm_36.2.2.2 rm_36.2.2.1 rfl rfl rfl (by decide) (lr_4 hz.1) (Nat.le_of_ble_eq_true rfl) (hcs) (by omega) (ca_of7 (X := X) hz.1 hnp hz.2.1 (hN.2 0 (by omega)).1) ?_
      rintro v M1 ⟨f1, q1⟩
      rw [f1]
      show ro_w X _ 206 _ 1043 [(22, .int (nI k)), (20, .int (nI r)), (21, .ref ck), (19, .int cl), (18, .int (nI r)), (17, .ref cp), (0, .ref 0), (1, .ref 4), (2, .int (nI (np X)))] [.int ((4 * M.2.1 7 (f 0) + M.2.1 5 5 * M.2.1 8 (f 0)))] M1 cs
      have hz1 := zs_q hz q1
      refine rs_iload ri_206_1043 rfl rfl ?_
      refine rs_icmp_gt (t := 1055) ri_206_1045 rfl rfl (fun q => absurd q (by
            have h0 := (hN.2 0 (by omega)).1
            have e0 : rd_w (ru_f f) 0 0 = f 0 := ru_w (o := 0) (k := 0) (by show f (2 * 0) < 2 ^ 31; omega)
            have s := hS (f 0) h0
            have h := hcl (by omega)
            unfold ruV at h
            rw [e0] at h
            have e7 : M.2.1 7 (f 0) = S2.1 (f 0) := s.1
            have e8 : M.2.1 8 (f 0) = S2.2 (f 0) := s.2
            rw [e7, e8, hz.2.2.2.2.1]
            exact Int32.not_lt.mpr h)) (fun _ => ?_)
      refine ro_w_lv (lv := [(0, .ref 0), (1, .ref 4), (2, .int (nI (np X)))]) (ro_sub_c rfl (ro_sub_c rfl (ro_sub_c rfl (ro_sub_n rfl)))) ?_
      exact lq_1048 hcs hX hz1
  | succ e ih =>
    intro k rk M S hke hz hS hok hla hlk hrk hrn
    obtain ⟨ha, hb2, hab⟩ := hN.2 k (by omega)
    have ea : rd_w (ru_f f) 0 k = f (2 * k) := ru_w (o := 0) (by show f (2 * k) < 2 ^ 31; omega)
    have eb : rd_w (ru_f f) 1 k = f (2 * k + 1) := ru_w (o := 1) (by omega)
    obtain ⟨a, hae⟩ : ∃ a, a = f (2 * k) := ⟨_, rfl⟩
    obtain ⟨b, hbe⟩ : ∃ b, b = f (2 * k + 1) := ⟨_, rfl⟩
    rw [← hae] at ha ea hab
    rw [← hbe] at hb2 eb hab
    have ede : N - 1 - k = e := by omega
    have hbit : ks / 2 ^ e % 2 < 2 := Nat.mod_lt _ (by decide)
    rw [rd_rn] at hrn
    have hbk : (fun k => ks / 2 ^ (N - 1 - k) % 2) k = ks / 2 ^ e % 2 := by show ks / 2 ^ (N - 1 - k) % 2 = _; rw [ede]
    obtain ⟨bit, hbt⟩ : ∃ bit, bit = ks / 2 ^ e % 2 := ⟨_, rfl⟩
    rw [← hbt] at hrn hbk hbit
    have GO : ∀ M S3 i, zs X L od hb nt M → pu_at (np X) M 6 S3 → pu_ok (np X) S3 → lr_a M cp (2 * N) f → lr_a M ck N (fun k => ks / 2 ^ (N - 1 - k) % 2) → i ≤ 1 → rd_rn od hb (rd_w (ru_f f) 0) (rd_w (ru_f f) 1) e (k + 1) S3 (rk + i) ks = some (S2, r) → ro_w X 2000 206 lw_PP 1014 [(24, .int (nI bit)), (23, .int (nI (10 * a + b))), (22, .int (nI k)), (20, .int (nI (rk + i))), (21, .ref ck), (19, .int cl), (18, .int (nI r)), (17, .ref cp), (0, .ref 0), (1, .ref 4), (2, .int (nI (np X)))] [] M cs := fun M S3 i hz hS hok hla hlk hi hrn => by
      refine rs_iinc (v := nI (k + 1)) (lv2 := [(22, .int (nI (k + 1))), (24, .int (nI bit)), (23, .int (nI (10 * a + b))), (20, .int (nI (rk + i))), (21, .ref ck), (19, .int cl), (18, .int (nI r)), (17, .ref cp), (0, .ref 0), (1, .ref 4), (2, .int (nI (np X)))]) ri_206_1014 rfl rfl (nI_1 k) rm_206.1 (by decide) rfl ?_
      refine rs_goto (t := 877) ri_206_1017 rfl ?_
      refine ro_w_lv (lv := [(22, .int (nI (k + 1))), (20, .int (nI (rk + i))), (21, .ref ck), (19, .int cl), (18, .int (nI r)), (17, .ref cp), (0, .ref 0), (1, .ref 4), (2, .int (nI (np X)))]) (ro_sub_c rfl (ro_sub_c rfl (ro_sub_c rfl (ro_sub_c rfl (ro_sub_c rfl (ro_sub_c rfl (ro_sub_c rfl (ro_sub_c rfl (ro_sub_c rfl (ro_sub_n rfl)))))))))) ?_
      exact ih (k + 1) (rk + i) M S3 (by omega) hz hS hok hla hlk (by omega) hrn
    by_cases h1 : bit = 1
    · have hst : rd_st od hb (rd_w (ru_f f) 0) (rd_w (ru_f f) 1) S k bit = if pu_mc S a b = true then some (pu_gc S a b, 0) else none := by unfold rd_st; rw [if_pos h1, ea, eb]
      rw [hst] at hrn
      by_cases hmc : pu_mc S a b = true
      · rw [if_pos hmc] at hrn
        refine rs_iconst (v := nI 2) ri_206_877 rfl (by decide) ?_
        refine rs_iload ri_206_878 rfl rfl ?_
        refine rs_imul (r := nI (2 * k)) ri_206_880 rfl (nI_mul 2 k) ?_
        refine rs_aload ri_206_881 rfl rfl ?_
        refine rs_len (v := nI (2 * N)) ri_206_883 rfl (by omega) (hla.1) (by decide) rfl ?_
        refine rs_icmp_ge (t := 1020) ri_206_884 rfl rfl (fun q => absurd q (nI_ge (a := 2 * k) (b := 2 * N) (by omega) (by omega))) (fun _ => ?_)
        refine rs_bipush (v := nI 10) ri_206_887 rfl (by decide) ?_
        refine rs_aload ri_206_889 rfl rfl ?_
        refine rs_iconst (v := nI 2) ri_206_891 rfl (by decide) ?_
        refine rs_iload ri_206_892 rfl rfl ?_
        refine rs_imul (r := nI (2 * k)) ri_206_894 rfl (nI_mul 2 k) ?_
        refine rs_iald (v := nI (f (2 * k))) ri_206_895 rfl (by omega) (hla).1 (ro_vn (k := (2 * k)) (by omega) (by omega)) (lr_g (hla) (by omega) (by omega)) ?_
        refine rs_imul (r := nI (10 * (f (2 * k)))) ri_206_896 rfl (nI_mul 10 (f (2 * k))) ?_
        refine rs_aload ri_206_897 rfl rfl ?_
        refine rs_iconst (v := nI 2) ri_206_899 rfl (by decide) ?_
        refine rs_iload ri_206_900 rfl rfl ?_
        refine rs_imul (r := nI (2 * k)) ri_206_902 rfl (nI_mul 2 k) ?_
        refine rs_iconst (v := nI 1) ri_206_903 rfl (by decide) ?_
        refine rs_iadd (r := nI ((2 * k) + 1)) ri_206_904 rfl (nI_add (2 * k) 1) ?_
        refine rs_iald (v := nI (f ((2 * k) + 1))) ri_206_905 rfl (by omega) (hla).1 (ro_vn (k := ((2 * k) + 1)) (by omega) (by omega)) (lr_g (hla) (by omega) (by omega)) ?_
        refine rs_iadd (r := nI (10 * a + b)) ri_206_906 rfl (by rw [hae, hbe]; exact nI_add _ _) ?_
        refine rs_istore (lv2 := [(23, .int (nI (10 * a + b))), (22, .int (nI k)), (20, .int (nI rk)), (21, .ref ck), (19, .int cl), (18, .int (nI r)), (17, .ref cp), (0, .ref 0), (1, .ref 4), (2, .int (nI (np X)))]) ri_206_907 rfl rm_206.1 (by decide) rfl ?_
        refine rs_aload ri_206_909 rfl rfl ?_
        refine rs_iload ri_206_911 rfl rfl ?_
        refine rs_iald (v := nI bit) ri_206_913 rfl (by omega) hlk.1 (ro_vn (k := k) (by omega) (by omega)) (by rw [← hbk]; exact lr_g hlk (by omega) (by omega)) ?_
        refine rs_istore (lv2 := [(24, .int (nI bit)), (23, .int (nI (10 * a + b))), (22, .int (nI k)), (20, .int (nI rk)), (21, .ref ck), (19, .int cl), (18, .int (nI r)), (17, .ref cp), (0, .ref 0), (1, .ref 4), (2, .int (nI (np X)))]) ri_206_914 rfl rm_206.1 (by decide) rfl ?_
        refine rs_iload ri_206_916 rfl rfl ?_
        refine rs_if_ge (t := 923) ri_206_918 rfl rfl (fun _ => ?_) (fun q => absurd (nI_le (a := 0) (b := bit) (by omega) (by omega)) q)
        refine rs_iload ri_206_923 rfl rfl ?_
        refine rs_iconst (v := nI 1) ri_206_925 rfl (by decide) ?_
        refine rs_icmp_ne (t := 946) ri_206_926 rfl rfl (fun q => absurd (congrArg nI (by omega)) q) (fun _ => ?_)
        refine rs_aload_n ri_206_929 rfl rfl ?_
        refine rs_iload ri_206_930 rfl rfl ?_
        refine rs_iconst (v := nI 2) ri_206_932 rfl (by decide) ?_
        refine rs_virt (c := 4) (As := [.int (nI (10 * a + b)), .int (nI 2)]) (r := []) ri_206_933 rfl (by decide) rm_144.2.2.2 rm_144.2.2.1 rfl rfl rfl (by decide) (lr_4 hz.1) (Nat.le_of_ble_eq_true rfl) (hcs) (by omega) (ca_off2 (X := X) hz.1 hnp hz.2.1 ha hb2 hab hS hmc) ?_
        rintro v M1 ⟨f1, k1, w1, s1, l1, m1⟩
        rw [f1]
        show ro_w X _ 206 _ 936 [(24, .int (nI bit)), (23, .int (nI (10 * a + b))), (22, .int (nI k)), (20, .int (nI rk)), (21, .ref ck), (19, .int cl), (18, .int (nI r)), (17, .ref cp), (0, .ref 0), (1, .ref 4), (2, .int (nI (np X)))] [.int (nI b)] M1 cs
        have hz1 := zs_o hz k1 w1
        have hla1 := lr_w hla w1 hp
        have hlk1 := lr_w hlk w1 hc
        refine rs_iload ri_206_936 rfl rfl ?_
        refine rs_bipush (v := nI 10) ri_206_938 rfl (by decide) ?_
        refine rs_irem (r := nI ((10 * a + b) % 10)) ri_206_940 rfl (by decide) (nI_rem (a := (10 * a + b)) (b := 10) (by omega) (by omega)) ?_
        refine rs_icmp_eq (t := 1014) ri_206_941 rfl rfl (fun _ => ?_) (fun q => absurd (congrArg nI (by omega)) q)
        have g := GO M1 (pu_gc S a b) 0 hz1 s1 (pu_ok_gc hok ha hb2 hab hmc) hla1 hlk1 (by omega) hrn
        exact ro_w_lv (ro_sub_c rfl (ro_sub_c rfl (ro_sub_c rfl (ro_sub_c rfl (ro_sub_c rfl (ro_sub_c rfl (ro_sub_c rfl (ro_sub_c rfl (ro_sub_c rfl (ro_sub_c rfl (ro_sub_c rfl (ro_sub_n rfl)))))))))))) g
      · rw [if_neg hmc] at hrn; cases hrn
    · have hst : rd_st od hb (rd_w (ru_f f) 0) (rd_w (ru_f f) 1) S k bit = if pu_mw S a b = true then (if od a b (S.1 b) (S.2 b) < hb then some (pu_gw S a b, 0) else (if S.2 b < 20 then some (pu_gc (pu_rf S a) a b, 1) else none)) else none := by unfold rd_st; rw [if_neg h1, ea, eb]
      rw [hst] at hrn
      have eod : odv M L a b (M.2.1 7 b) (M.2.1 8 b) = od a b (S.1 b) (S.2 b) := by rw [hz.2.2.1, (hS b hb2).1, (hS b hb2).2]
      by_cases hmw : pu_mw S a b = true
      · rw [if_pos hmw] at hrn
        by_cases hlt : od a b (S.1 b) (S.2 b) < hb
        · rw [if_pos hlt] at hrn
          refine rs_iconst (v := nI 2) ri_206_877 rfl (by decide) ?_
          refine rs_iload ri_206_878 rfl rfl ?_
          refine rs_imul (r := nI (2 * k)) ri_206_880 rfl (nI_mul 2 k) ?_
          refine rs_aload ri_206_881 rfl rfl ?_
          refine rs_len (v := nI (2 * N)) ri_206_883 rfl (by omega) (hla.1) (by decide) rfl ?_
          refine rs_icmp_ge (t := 1020) ri_206_884 rfl rfl (fun q => absurd q (nI_ge (a := 2 * k) (b := 2 * N) (by omega) (by omega))) (fun _ => ?_)
          refine rs_bipush (v := nI 10) ri_206_887 rfl (by decide) ?_
          refine rs_aload ri_206_889 rfl rfl ?_
          refine rs_iconst (v := nI 2) ri_206_891 rfl (by decide) ?_
          refine rs_iload ri_206_892 rfl rfl ?_
          refine rs_imul (r := nI (2 * k)) ri_206_894 rfl (nI_mul 2 k) ?_
          refine rs_iald (v := nI (f (2 * k))) ri_206_895 rfl (by omega) (hla).1 (ro_vn (k := (2 * k)) (by omega) (by omega)) (lr_g (hla) (by omega) (by omega)) ?_
          refine rs_imul (r := nI (10 * (f (2 * k)))) ri_206_896 rfl (nI_mul 10 (f (2 * k))) ?_
          refine rs_aload ri_206_897 rfl rfl ?_
          refine rs_iconst (v := nI 2) ri_206_899 rfl (by decide) ?_
          refine rs_iload ri_206_900 rfl rfl ?_
          refine rs_imul (r := nI (2 * k)) ri_206_902 rfl (nI_mul 2 k) ?_
          refine rs_iconst (v := nI 1) ri_206_903 rfl (by decide) ?_
          refine rs_iadd (r := nI ((2 * k) + 1)) ri_206_904 rfl (nI_add (2 * k) 1) ?_
          refine rs_iald (v := nI (f ((2 * k) + 1))) ri_206_905 rfl (by omega) (hla).1 (ro_vn (k := ((2 * k) + 1)) (by omega) (by omega)) (lr_g (hla) (by omega) (by omega)) ?_
          refine rs_iadd (r := nI (10 * a + b)) ri_206_906 rfl (by rw [hae, hbe]; exact nI_add _ _) ?_
          refine rs_istore (lv2 := [(23, .int (nI (10 * a + b))), (22, .int (nI k)), (20, .int (nI rk)), (21, .ref ck), (19, .int cl), (18, .int (nI r)), (17, .ref cp), (0, .ref 0), (1, .ref 4), (2, .int (nI (np X)))]) ri_206_907 rfl rm_206.1 (by decide) rfl ?_
          refine rs_aload ri_206_909 rfl rfl ?_
          refine rs_iload ri_206_911 rfl rfl ?_
          refine rs_iald (v := nI bit) ri_206_913 rfl (by omega) hlk.1 (ro_vn (k := k) (by omega) (by omega)) (by rw [← hbk]; exact lr_g hlk (by omega) (by omega)) ?_
          refine rs_istore (lv2 := [(24, .int (nI bit)), (23, .int (nI (10 * a + b))), (22, .int (nI k)), (20, .int (nI rk)), (21, .ref ck), (19, .int cl), (18, .int (nI r)), (17, .ref cp), (0, .ref 0), (1, .ref 4), (2, .int (nI (np X)))]) ri_206_914 rfl rm_206.1 (by decide) rfl ?_
          refine rs_iload ri_206_916 rfl rfl ?_
          refine rs_if_ge (t := 923) ri_206_918 rfl rfl (fun _ => ?_) (fun q => absurd (nI_le (a := 0) (b := bit) (by omega) (by omega)) q)
          refine rs_iload ri_206_923 rfl rfl ?_
          refine rs_iconst (v := nI 1) ri_206_925 rfl (by decide) ?_
          refine rs_icmp_ne (t := 946) ri_206_926 rfl rfl (fun _ => ?_) (fun q => absurd q (fun q => absurd ((nI_eq (a := bit) (b := 1) (by omega) (by omega)).mp q) (by omega)))
          refine rs_aload_n ri_206_946 rfl rfl ?_
          refine rs_iload ri_206_947 rfl rfl ?_
          refine rs_virt (c := 4) (As := [.int (nI (10 * a + b))]) (r := []) ri_206_949 rfl (by decide) rm_55.2.2.2 rm_55.2.2.1 rfl rfl rfl (by decide) (lr_4 hz.1) (Nat.le_of_ble_eq_true rfl) (hcs) (by omega) (ca_odds (X := X) hz.1 hnp hz.2.1 ha hb2 hab) ?_
          rintro v M1 ⟨f1, q1⟩
          rw [f1, eod]
          show ro_w X _ 206 _ 952 [(24, .int (nI bit)), (23, .int (nI (10 * a + b))), (22, .int (nI k)), (20, .int (nI rk)), (21, .ref ck), (19, .int cl), (18, .int (nI r)), (17, .ref cp), (0, .ref 0), (1, .ref 4), (2, .int (nI (np X)))] [.int ((od a b (S.1 b) (S.2 b)))] M1 cs
          have hz1 := zs_q hz q1
          have hS1 : pu_at (np X) M1 6 S := pu_at_c hS (fun y _ => ⟨q1.2.1 7 y (by decide) rfl, q1.2.1 8 y (by decide) rfl⟩)
          have hla1 := lr_q hla q1 hp
          have hlk1 := lr_q hlk q1 hc
          refine rs_aload_n ri_206_952 rfl rfl ?_
          refine rs_iconst (v := nI 0) ri_206_953 rfl (by decide) ?_
          refine rs_bipush (v := nI 6) ri_206_954 rfl (by decide) ?_
          refine rs_virt (c := 4) (As := [.int (nI 0), .int (nI 6)]) (r := [.int ((od a b (S.1 b) (S.2 b)))]) ri_206_956 rfl (by decide) rm_36.2.2.2 rm_36.2.2.1 rfl rfl rfl (by decide) (lr_4 hz1.1) (Nat.le_of_ble_eq_true rfl) (hcs) (by omega) (ca_of6 (X := X) hz1.1) ?_
          rintro v M2 ⟨f2, q2⟩
          rw [f2, hz1.2.2.2.1]
          show ro_w X _ 206 _ 959 [(24, .int (nI bit)), (23, .int (nI (10 * a + b))), (22, .int (nI k)), (20, .int (nI rk)), (21, .ref ck), (19, .int cl), (18, .int (nI r)), (17, .ref cp), (0, .ref 0), (1, .ref 4), (2, .int (nI (np X)))] [.int hb, .int ((od a b (S.1 b) (S.2 b)))] M2 cs
          have hz2 := zs_q hz1 q2
          have hS2 : pu_at (np X) M2 6 S := pu_at_c hS1 (fun y _ => ⟨q2.2.1 7 y (by decide) rfl, q2.2.1 8 y (by decide) rfl⟩)
          have hla2 := lr_q hla1 q2 hp
          have hlk2 := lr_q hlk1 q2 hc
          refine rs_icmp_lt (t := 997) ri_206_959 rfl rfl (fun _ => ?_) (fun q => absurd (hlt) q)
          refine rs_aload_n ri_206_997 rfl rfl ?_
          refine rs_iload ri_206_998 rfl rfl ?_
          refine rs_iconst (v := nI 0) ri_206_1000 rfl (by decide) ?_
          refine rs_virt (c := 4) (As := [.int (nI (10 * a + b)), .int (nI 0)]) (r := []) ri_206_1001 rfl (by decide) rm_144.2.2.2 rm_144.2.2.1 rfl rfl rfl (by decide) (lr_4 hz2.1) (Nat.le_of_ble_eq_true rfl) (hcs) (by omega) (ca_off0 (X := X) hz2.1 hnp hz2.2.1 ha hb2 hab hS2 hmw) ?_
          rintro v M3 ⟨f3, k3, w3, s3, l3, m3⟩
          rw [f3]
          show ro_w X _ 206 _ 1004 [(24, .int (nI bit)), (23, .int (nI (10 * a + b))), (22, .int (nI k)), (20, .int (nI rk)), (21, .ref ck), (19, .int cl), (18, .int (nI r)), (17, .ref cp), (0, .ref 0), (1, .ref 4), (2, .int (nI (np X)))] [.int (nI b)] M3 cs
          have hz3 := zs_o hz2 k3 w3
          have hla3 := lr_w hla2 w3 hp
          have hlk3 := lr_w hlk2 w3 hc
          refine rs_iload ri_206_1004 rfl rfl ?_
          refine rs_bipush (v := nI 10) ri_206_1006 rfl (by decide) ?_
          refine rs_irem (r := nI ((10 * a + b) % 10)) ri_206_1008 rfl (by decide) (nI_rem (a := (10 * a + b)) (b := 10) (by omega) (by omega)) ?_
          refine rs_icmp_eq (t := 1014) ri_206_1009 rfl rfl (fun _ => ?_) (fun q => absurd (congrArg nI (by omega)) q)
          have g := GO M3 (pu_gw S a b) 0 hz3 s3 (pu_ok_gw hok ha hb2 hab hmw) hla3 hlk3 (by omega) hrn
          exact ro_w_lv (ro_sub_c rfl (ro_sub_c rfl (ro_sub_c rfl (ro_sub_c rfl (ro_sub_c rfl (ro_sub_c rfl (ro_sub_c rfl (ro_sub_c rfl (ro_sub_c rfl (ro_sub_c rfl (ro_sub_c rfl (ro_sub_n rfl)))))))))))) g
        · rw [if_neg hlt] at hrn
          by_cases h20 : S.2 b < 20
          · rw [if_pos h20] at hrn
            have hmc : pu_mc (pu_rf S a) a b = true := by rw [pu_mc_rf hok ha hab hmw]; exact h20
            have hok1 := pu_ok_rf hok ha hmw
            refine rs_iconst (v := nI 2) ri_206_877 rfl (by decide) ?_
            refine rs_iload ri_206_878 rfl rfl ?_
            refine rs_imul (r := nI (2 * k)) ri_206_880 rfl (nI_mul 2 k) ?_
            refine rs_aload ri_206_881 rfl rfl ?_
            refine rs_len (v := nI (2 * N)) ri_206_883 rfl (by omega) (hla.1) (by decide) rfl ?_
            refine rs_icmp_ge (t := 1020) ri_206_884 rfl rfl (fun q => absurd q (nI_ge (a := 2 * k) (b := 2 * N) (by omega) (by omega))) (fun _ => ?_)
            refine rs_bipush (v := nI 10) ri_206_887 rfl (by decide) ?_
            refine rs_aload ri_206_889 rfl rfl ?_
            refine rs_iconst (v := nI 2) ri_206_891 rfl (by decide) ?_
            refine rs_iload ri_206_892 rfl rfl ?_
            refine rs_imul (r := nI (2 * k)) ri_206_894 rfl (nI_mul 2 k) ?_
            refine rs_iald (v := nI (f (2 * k))) ri_206_895 rfl (by omega) (hla).1 (ro_vn (k := (2 * k)) (by omega) (by omega)) (lr_g (hla) (by omega) (by omega)) ?_
            refine rs_imul (r := nI (10 * (f (2 * k)))) ri_206_896 rfl (nI_mul 10 (f (2 * k))) ?_
            refine rs_aload ri_206_897 rfl rfl ?_
            refine rs_iconst (v := nI 2) ri_206_899 rfl (by decide) ?_
            refine rs_iload ri_206_900 rfl rfl ?_
            refine rs_imul (r := nI (2 * k)) ri_206_902 rfl (nI_mul 2 k) ?_
            refine rs_iconst (v := nI 1) ri_206_903 rfl (by decide) ?_
            refine rs_iadd (r := nI ((2 * k) + 1)) ri_206_904 rfl (nI_add (2 * k) 1) ?_
            refine rs_iald (v := nI (f ((2 * k) + 1))) ri_206_905 rfl (by omega) (hla).1 (ro_vn (k := ((2 * k) + 1)) (by omega) (by omega)) (lr_g (hla) (by omega) (by omega)) ?_
            refine rs_iadd (r := nI (10 * a + b)) ri_206_906 rfl (by rw [hae, hbe]; exact nI_add _ _) ?_
            refine rs_istore (lv2 := [(23, .int (nI (10 * a + b))), (22, .int (nI k)), (20, .int (nI rk)), (21, .ref ck), (19, .int cl), (18, .int (nI r)), (17, .ref cp), (0, .ref 0), (1, .ref 4), (2, .int (nI (np X)))]) ri_206_907 rfl rm_206.1 (by decide) rfl ?_
            refine rs_aload ri_206_909 rfl rfl ?_
            refine rs_iload ri_206_911 rfl rfl ?_
            refine rs_iald (v := nI bit) ri_206_913 rfl (by omega) hlk.1 (ro_vn (k := k) (by omega) (by omega)) (by rw [← hbk]; exact lr_g hlk (by omega) (by omega)) ?_
            refine rs_istore (lv2 := [(24, .int (nI bit)), (23, .int (nI (10 * a + b))), (22, .int (nI k)), (20, .int (nI rk)), (21, .ref ck), (19, .int cl), (18, .int (nI r)), (17, .ref cp), (0, .ref 0), (1, .ref 4), (2, .int (nI (np X)))]) ri_206_914 rfl rm_206.1 (by decide) rfl ?_
            refine rs_iload ri_206_916 rfl rfl ?_
            refine rs_if_ge (t := 923) ri_206_918 rfl rfl (fun _ => ?_) (fun q => absurd (nI_le (a := 0) (b := bit) (by omega) (by omega)) q)
            refine rs_iload ri_206_923 rfl rfl ?_
            refine rs_iconst (v := nI 1) ri_206_925 rfl (by decide) ?_
            refine rs_icmp_ne (t := 946) ri_206_926 rfl rfl (fun _ => ?_) (fun q => absurd q (fun q => absurd ((nI_eq (a := bit) (b := 1) (by omega) (by omega)).mp q) (by omega)))
            refine rs_aload_n ri_206_946 rfl rfl ?_
            refine rs_iload ri_206_947 rfl rfl ?_
            refine rs_virt (c := 4) (As := [.int (nI (10 * a + b))]) (r := []) ri_206_949 rfl (by decide) rm_55.2.2.2 rm_55.2.2.1 rfl rfl rfl (by decide) (lr_4 hz.1) (Nat.le_of_ble_eq_true rfl) (hcs) (by omega) (ca_odds (X := X) hz.1 hnp hz.2.1 ha hb2 hab) ?_
            rintro v M1 ⟨f1, q1⟩
            rw [f1, eod]
            show ro_w X _ 206 _ 952 [(24, .int (nI bit)), (23, .int (nI (10 * a + b))), (22, .int (nI k)), (20, .int (nI rk)), (21, .ref ck), (19, .int cl), (18, .int (nI r)), (17, .ref cp), (0, .ref 0), (1, .ref 4), (2, .int (nI (np X)))] [.int ((od a b (S.1 b) (S.2 b)))] M1 cs
            have hz1 := zs_q hz q1
            have hS1 : pu_at (np X) M1 6 S := pu_at_c hS (fun y _ => ⟨q1.2.1 7 y (by decide) rfl, q1.2.1 8 y (by decide) rfl⟩)
            have hla1 := lr_q hla q1 hp
            have hlk1 := lr_q hlk q1 hc
            refine rs_aload_n ri_206_952 rfl rfl ?_
            refine rs_iconst (v := nI 0) ri_206_953 rfl (by decide) ?_
            refine rs_bipush (v := nI 6) ri_206_954 rfl (by decide) ?_
            refine rs_virt (c := 4) (As := [.int (nI 0), .int (nI 6)]) (r := [.int ((od a b (S.1 b) (S.2 b)))]) ri_206_956 rfl (by decide) rm_36.2.2.2 rm_36.2.2.1 rfl rfl rfl (by decide) (lr_4 hz1.1) (Nat.le_of_ble_eq_true rfl) (hcs) (by omega) (ca_of6 (X := X) hz1.1) ?_
            rintro v M2 ⟨f2, q2⟩
            rw [f2, hz1.2.2.2.1]
            show ro_w X _ 206 _ 959 [(24, .int (nI bit)), (23, .int (nI (10 * a + b))), (22, .int (nI k)), (20, .int (nI rk)), (21, .ref ck), (19, .int cl), (18, .int (nI r)), (17, .ref cp), (0, .ref 0), (1, .ref 4), (2, .int (nI (np X)))] [.int hb, .int ((od a b (S.1 b) (S.2 b)))] M2 cs
            have hz2 := zs_q hz1 q2
            have hS2 : pu_at (np X) M2 6 S := pu_at_c hS1 (fun y _ => ⟨q2.2.1 7 y (by decide) rfl, q2.2.1 8 y (by decide) rfl⟩)
            have hla2 := lr_q hla1 q2 hp
            have hlk2 := lr_q hlk1 q2 hc
            refine rs_icmp_lt (t := 997) ri_206_959 rfl rfl (fun q => absurd q (hlt)) (fun _ => ?_)
            refine rs_iinc (v := nI (rk + 1)) (lv2 := [(20, .int (nI (rk + 1))), (24, .int (nI bit)), (23, .int (nI (10 * a + b))), (22, .int (nI k)), (21, .ref ck), (19, .int cl), (18, .int (nI r)), (17, .ref cp), (0, .ref 0), (1, .ref 4), (2, .int (nI (np X)))]) ri_206_962 rfl rfl (nI_1 rk) rm_206.1 (by decide) rfl ?_
            refine rs_aload_n ri_206_965 rfl rfl ?_
            refine rs_iload ri_206_966 rfl rfl ?_
            refine rs_iconst (v := nI 1) ri_206_968 rfl (by decide) ?_
            refine rs_virt (c := 4) (As := [.int (nI (10 * a + b)), .int (nI 1)]) (r := []) ri_206_969 rfl (by decide) rm_144.2.2.2 rm_144.2.2.1 rfl rfl rfl (by decide) (lr_4 hz2.1) (Nat.le_of_ble_eq_true rfl) (hcs) (by omega) (ca_off1 (X := X) hz2.1 hnp hz2.2.1 ha hb2 hab hS2 hmw) ?_
            rintro v M3 ⟨f3, k3, w3, s3, l3, m3⟩
            rw [f3]
            show ro_w X _ 206 _ 972 [(20, .int (nI (rk + 1))), (24, .int (nI bit)), (23, .int (nI (10 * a + b))), (22, .int (nI k)), (21, .ref ck), (19, .int cl), (18, .int (nI r)), (17, .ref cp), (0, .ref 0), (1, .ref 4), (2, .int (nI (np X)))] [.int (nI a)] M3 cs
            have hz3 := zs_o hz2 k3 w3
            have hla3 := lr_w hla2 w3 hp
            have hlk3 := lr_w hlk2 w3 hc
            refine rs_iload ri_206_972 rfl rfl ?_
            refine rs_bipush (v := nI 10) ri_206_974 rfl (by decide) ?_
            refine rs_idiv (r := nI ((10 * a + b) / 10)) ri_206_976 rfl (by decide) (nI_div (a := (10 * a + b)) (b := 10) (by omega) (by omega)) ?_
            refine rs_icmp_ne (t := 995) ri_206_977 rfl rfl (fun q => absurd (congrArg nI (by omega)) q) (fun _ => ?_)
            refine rs_aload_n ri_206_980 rfl rfl ?_
            refine rs_iload ri_206_981 rfl rfl ?_
            refine rs_iconst (v := nI 2) ri_206_983 rfl (by decide) ?_
            refine rs_virt (c := 4) (As := [.int (nI (10 * a + b)), .int (nI 2)]) (r := []) ri_206_984 rfl (by decide) rm_144.2.2.2 rm_144.2.2.1 rfl rfl rfl (by decide) (lr_4 hz3.1) (Nat.le_of_ble_eq_true rfl) (hcs) (by omega) (ca_off2 (X := X) hz3.1 hnp hz3.2.1 ha hb2 hab s3 hmc) ?_
            rintro v M4 ⟨f4, k4, w4, s4, l4, m4⟩
            rw [f4]
            show ro_w X _ 206 _ 987 [(20, .int (nI (rk + 1))), (24, .int (nI bit)), (23, .int (nI (10 * a + b))), (22, .int (nI k)), (21, .ref ck), (19, .int cl), (18, .int (nI r)), (17, .ref cp), (0, .ref 0), (1, .ref 4), (2, .int (nI (np X)))] [.int (nI b)] M4 cs
            have hz4 := zs_o hz3 k4 w4
            have hla4 := lr_w hla3 w4 hp
            have hlk4 := lr_w hlk3 w4 hc
            refine rs_iload ri_206_987 rfl rfl ?_
            refine rs_bipush (v := nI 10) ri_206_989 rfl (by decide) ?_
            refine rs_irem (r := nI ((10 * a + b) % 10)) ri_206_991 rfl (by decide) (nI_rem (a := (10 * a + b)) (b := 10) (by omega) (by omega)) ?_
            refine rs_icmp_eq (t := 1014) ri_206_992 rfl rfl (fun _ => ?_) (fun q => absurd (congrArg nI (by omega)) q)
            have g := GO M4 (pu_gc (pu_rf S a) a b) 1 hz4 s4 (pu_ok_gc hok1 ha hb2 hab hmc) hla4 hlk4 (by omega) hrn
            exact ro_w_lv (ro_sub_c rfl (ro_sub_c rfl (ro_sub_c rfl (ro_sub_c rfl (ro_sub_c rfl (ro_sub_c rfl (ro_sub_c rfl (ro_sub_c rfl (ro_sub_c rfl (ro_sub_c rfl (ro_sub_c rfl (ro_sub_n rfl)))))))))))) g
          · rw [if_neg h20] at hrn; cases hrn
      · rw [if_neg hmw] at hrn; cases hrn
theorem lq_kinds {N r ks ck cp : Nat} {f : Nat → Nat} {cl : Int32} {S S2 : pu_T} (hcs : cs.1 ≤ (ro_lim 206).1 ∧ cs.2 ≤ (ro_lim 206).2) (hX : X.1 ≤ 260) (hp : 163 ≤ cp) (hc : 163 ≤ ck) (hpc : cp ≠ ck) (hN : ru_ok (np X) N f) (hr : r ≤ N) (hcl : 0 < N → ruV nt f S2 r ≤ cl) (hok : pu_ok (np X) S) (hF : ruG od hb S N f ru_v1 ru_b1 = some (nI r, ks)) (hrn : rd_rn od hb (rd_w (ru_f f) 0) (rd_w (ru_f f) 1) N 0 S 0 ks = some (S2, r)) : ∀ e k M g, k + e = N → zs X L od hb nt M → zn M S → sh_b M 2 (2 * N) f → lr_a M cp (2 * N) f → lr_a M ck N g → (∀ i, i < k → g i = ks / 2 ^ (N - 1 - i) % 2) → ro_w X 2000 206 lw_PP 848 [(22, .int (nI k)), (21, .ref ck), (20, .int (nI 0)), (19, .int cl), (18, .int (nI r)), (17, .ref cp), (0, .ref 0), (1, .ref 4), (2, .int (nI (np X)))] [] M cs := by
  have hnp := np_b (X := X)
  have hN5 := hN.1
  intro e
  induction e with
  | zero =>
    intro k M g hke hz hn hsb hla hlk hg
    refine rs_iload ri_206_848 rfl rfl ?_
    refine rs_aload ri_206_850 rfl rfl ?_
    refine rs_len (v := nI N) ri_206_852 rfl (by omega) (hlk.1) (by decide) rfl ?_
    refine rs_icmp_ge (t := 874) ri_206_853 rfl rfl (fun _ => ?_) (fun q => absurd (nI_le (a := N) (b := k) (by omega) (by omega)) q)
    refine rs_iconst (v := nI 0) ri_206_874 rfl (by decide) ?_
    refine rs_istore (lv2 := [(22, .int (nI 0)), (21, .ref ck), (20, .int (nI 0)), (19, .int cl), (18, .int (nI r)), (17, .ref cp), (0, .ref 0), (1, .ref 4), (2, .int (nI (np X)))]) ri_206_875 rfl rm_206.1 (by decide) rfl ?_
    refine ro_w_lv (lv := [(22, .int (nI 0)), (20, .int (nI 0)), (21, .ref ck), (19, .int cl), (18, .int (nI r)), (17, .ref cp), (0, .ref 0), (1, .ref 4), (2, .int (nI (np X)))]) (ro_sub_c rfl (ro_sub_c rfl (ro_sub_c rfl (ro_sub_c rfl (ro_sub_c rfl (ro_sub_c rfl (ro_sub_c rfl (ro_sub_c rfl (ro_sub_c rfl (ro_sub_n rfl)))))))))) ?_
    exact lq_deed hcs hX hp hc hN hr hcl N 0 0 M S (by omega) hz (zn_at hn) hok hla (lr_f hlk (fun i hi => (hg i (by omega)).symm)) (Nat.le_refl _) hrn
  | succ e ih =>
    intro k M g hke hz hn hsb hla hlk hg
    refine rs_iload ri_206_848 rfl rfl ?_
    refine rs_aload ri_206_850 rfl rfl ?_
    refine rs_len (v := nI N) ri_206_852 rfl (by omega) (hlk.1) (by decide) rfl ?_
    refine rs_icmp_ge (t := 874) ri_206_853 rfl rfl (fun q => absurd q (nI_ge (a := k) (b := N) (by omega) (by omega))) (fun _ => ?_)
    refine rs_aload ri_206_856 rfl rfl ?_
    refine rs_iload ri_206_858 rfl rfl ?_
    refine rs_aload_n ri_206_860 rfl rfl ?_
    refine rs_iconst (v := nI 2) ri_206_861 rfl (by decide) ?_
    refine rs_iload ri_206_862 rfl rfl ?_
    refine rs_virt (c := 4) (As := [.int (nI 2), .int (nI k)]) (r := [.int (nI k), .ref ck]) ri_206_864 rfl (by decide) rm_83.2.2.2 rm_83.2.2.1 rfl rfl rfl (by decide) (lr_4 hz.1) (Nat.le_of_ble_eq_true rfl) (hcs) (by omega) (ca_kind (X := X) hz.1 hnp hz.2.1 hN hsb (by omega) ((ru_G hz hn).trans hF)) ?_
    rintro v M1 ⟨f1, q1⟩
    rw [f1]
    show ro_w X _ 206 _ 867 [(22, .int (nI k)), (21, .ref ck), (20, .int (nI 0)), (19, .int cl), (18, .int (nI r)), (17, .ref cp), (0, .ref 0), (1, .ref 4), (2, .int (nI (np X)))] [.int (nI (ks / 2 ^ (N - 1 - k) % 2)), .int (nI k), .ref ck] M1 cs
    have hz1 := zs_q hz q1
    have hn1 := zn_q hn q1
    have hsb1 := sh_q (by decide) (kq_w q1) (fun _ => rfl) (fun _ => rfl) hsb
    have hla1 := lr_q hla q1 hp
    have hlk1 := lr_q hlk q1 hc
    refine rs_iast (j := k) ri_206_867 rfl (by omega) hlk1.1 (ro_vn (by omega) (by omega)) (nI_clamp (by omega)) ?_
    refine rs_iinc (v := nI (k + 1)) (lv2 := [(22, .int (nI (k + 1))), (21, .ref ck), (20, .int (nI 0)), (19, .int cl), (18, .int (nI r)), (17, .ref cp), (0, .ref 0), (1, .ref 4), (2, .int (nI (np X)))]) ri_206_868 rfl rfl (nI_1 k) rm_206.1 (by decide) rfl ?_
    refine rs_goto (t := 848) ri_206_871 rfl ?_
    refine ih (k + 1) _ _ (by omega) (zs_s hz1 hc) (zn_s hn1 hc) (sh_si (by decide) hc hsb1) (lr_o hla1 hpc) (lr_s hlk1) (fun i hi => ?_)
    by_cases q : i = k
    · rw [if_pos q, q]
    · rw [if_neg q]; exact hg i (by omega)
theorem lq_801 {N cp : Nat} {f : Nat → Nat} {M : ro_Mm} {S : pu_T} (hcs : cs.1 + 1 ≤ (ro_lim 206).1 ∧ cs.2 + 5 ≤ (ro_lim 206).2) (hX : X.1 ≤ 260) (hp : 163 ≤ cp) (hpl : cp < M.1.length + 4) (hN : ru_ok (np X) N f) (hok : pu_ok (np X) S) (hz : zs X L od hb nt M) (hn : zn M S) (hSI : ∀ i, i < np X → S.1 i = nI (on0 X i) ∧ S.2 i = nI (on1 X i)) (hla : lr_a M cp (2 * N) f) : ro_w X 2000 206 lw_PP 801 [(17, .ref cp), (0, .ref 0), (1, .ref 4), (2, .int (nI (np X)))] [] M cs := by
  have hnp := np_b (X := X)
  have hN5 := hN.1
  have hcs0 : cs.1 ≤ (ro_lim 206).1 ∧ cs.2 ≤ (ro_lim 206).2 := ⟨by omega, by omega⟩
  have hf : ∀ i, i < 2 * N → f i < 128 := fun i hi => by
    have h := hN.2 (i / 2) (by omega)
    rcases Nat.mod_two_eq_zero_or_one i with q | q
    · have e : 2 * (i / 2) = i := by omega
      rw [e] at h
      omega
    · have e : 2 * (i / 2) + 1 = i := by omega
      rw [e] at h
      omega
  rcases ru_nb (od := od) (hb := hb) (S := S) (N := N) (h := f) (ruV nt f) with ⟨b1, b2⟩ | ⟨ks, S2, r, v, b1, b3, b4, ⟨k2, b5⟩, b6⟩
  · refine rs_aload_n ri_206_801 rfl rfl ?_
    refine rs_iconst (v := nI 2) ri_206_802 rfl (by decide) ?_
    refine rs_aload ri_206_803 rfl rfl ?_
    refine rs_stat (As := [.ref 4, .int (nI 2), .ref cp]) (r := []) ri_206_805 rfl rm_200.2.2.2 rfl rfl rfl (Nat.le_of_ble_eq_true rfl) (hcs0) (by omega) (lx_200 (X := X) hz.1 hp (by omega) (by decide) hf hla) ?_
    rintro v M1 ⟨f1, k1, w1, hsb1⟩
    rw [f1]
    show ro_w X _ 206 _ 808 [(17, .ref cp), (0, .ref 0), (1, .ref 4), (2, .int (nI (np X)))] [.int (ro_b true)] M1 cs
    have hz1 := zs_r hz k1 w1 (by decide)
    have hn1 := zn_r hn w1 (by decide)
    have hla1 := lr_w hla w1 hp
    refine rs_ifne_b (t := 813) ri_206_808 rfl rfl (fun _ => ?_) (fun q => absurd (q.symm.trans (rfl)) (by decide))
    refine rs_aload_n ri_206_813 rfl rfl ?_
    refine rs_iconst (v := nI 2) ri_206_814 rfl (by decide) ?_
    refine rs_iconst (v := ((-1 : Int32))) ri_206_815 rfl (by decide) ?_
    refine rs_virt (c := 4) (As := [.int (nI 2), .int ((-1 : Int32))]) (r := []) ri_206_816 rfl (by decide) rm_83.2.2.2 rm_83.2.2.1 rfl rfl rfl (by decide) (lr_4 hz1.1) (Nat.le_of_ble_eq_true rfl) (hcs0) (by omega) (ca_round (X := X) hz1.1 hnp hz1.2.1 hN hsb1) ?_
    rintro v M2 ⟨f2, q2⟩
    rw [f2, ru_G hz1 hn1, b1]
    show ro_w X _ 206 _ 819 [(17, .ref cp), (0, .ref 0), (1, .ref 4), (2, .int (nI (np X)))] [.int ((-2 : Int32))] M2 cs
    have hz2 := zs_q hz1 q2
    have hn2 := zn_q hn1 q2
    have hsb2 := sh_q (by decide) (kq_w q2) (fun _ => rfl) (fun _ => rfl) hsb1
    have hla2 := lr_q hla1 q2 hp
    refine rs_istore (lv2 := [(18, .int ((-2 : Int32))), (17, .ref cp), (0, .ref 0), (1, .ref 4), (2, .int (nI (np X)))]) ri_206_819 rfl rm_206.1 (by decide) rfl ?_
    refine rs_aload_n ri_206_821 rfl rfl ?_
    refine rs_iconst (v := nI 2) ri_206_822 rfl (by decide) ?_
    refine rs_virt (c := 4) (As := [.int (nI 2)]) (r := []) ri_206_823 rfl (by decide) rm_93.2.2.2 rm_93.2.2.1 rfl rfl rfl (by decide) (lr_4 hz2.1) (Nat.le_of_ble_eq_true rfl) (hcs0) (by omega) (ca_clean (X := X) hz2.1 hnp hz2.2.1 hN hsb2) ?_
    rintro v9 M3 ⟨f3, q3⟩
    obtain ⟨cl, g3, ec⟩ : ∃ cl, v9 = some (.int cl) ∧ cl = -2 := ⟨_, f3, by
      rw [ru_G hz2 hn2, ru_V hz2, b2]
      by_cases n0 : N = 0
      · rw [if_pos n0]
      · rw [if_neg n0]⟩
    rw [g3]
    show ro_w X _ 206 _ 826 [(18, .int ((-2 : Int32))), (17, .ref cp), (0, .ref 0), (1, .ref 4), (2, .int (nI (np X)))] [.int cl] M3 cs
    have hz3 := zs_q hz2 q3
    have hn3 := zn_q hn2 q3
    have hsb3 := sh_q (by decide) (kq_w q3) (fun _ => rfl) (fun _ => rfl) hsb2
    have hla3 := lr_q hla2 q3 hp
    refine rs_istore (lv2 := [(19, .int cl), (18, .int ((-2 : Int32))), (17, .ref cp), (0, .ref 0), (1, .ref 4), (2, .int (nI (np X)))]) ri_206_826 rfl rm_206.1 (by decide) rfl ?_
    refine rs_iload ri_206_828 rfl rfl ?_
    refine rs_if_lt (t := 1060) ri_206_830 rfl rfl (fun _ => ?_) (fun q => absurd (by decide) q)
    refine rs_iload ri_206_1060 rfl rfl ?_
    refine rs_if_lt (t := 1067) ri_206_1062 rfl rfl (fun _ => ?_) (fun q => absurd (by rw [ec]; decide) q)
    refine ro_w_lv (lv := [(0, .ref 0), (1, .ref 4), (2, .int (nI (np X)))]) (ro_sub_c rfl (ro_sub_c rfl (ro_sub_c rfl (ro_sub_n rfl)))) ?_
    refine lq_1067 hcs0 hX ⟨hz3.1, hz3.2.1, fun i hi => ?_⟩
    have e := hSI i hi
    have g : pu_now M3 = S := hn3
    rw [← g] at e
    exact ⟨e.1, e.2, (hz3.2.2.2.2.2.2.2.2.1 i hi).2.2⟩
  · refine rs_aload_n ri_206_801 rfl rfl ?_
    refine rs_iconst (v := nI 2) ri_206_802 rfl (by decide) ?_
    refine rs_aload ri_206_803 rfl rfl ?_
    refine rs_stat (As := [.ref 4, .int (nI 2), .ref cp]) (r := []) ri_206_805 rfl rm_200.2.2.2 rfl rfl rfl (Nat.le_of_ble_eq_true rfl) (hcs0) (by omega) (lx_200 (X := X) hz.1 hp (by omega) (by decide) hf hla) ?_
    rintro v M1 ⟨f1, k1, w1, hsb1⟩
    rw [f1]
    show ro_w X _ 206 _ 808 [(17, .ref cp), (0, .ref 0), (1, .ref 4), (2, .int (nI (np X)))] [.int (ro_b true)] M1 cs
    have hz1 := zs_r hz k1 w1 (by decide)
    have hn1 := zn_r hn w1 (by decide)
    have hla1 := lr_w hla w1 hp
    refine rs_ifne_b (t := 813) ri_206_808 rfl rfl (fun _ => ?_) (fun q => absurd (q.symm.trans (rfl)) (by decide))
    refine rs_aload_n ri_206_813 rfl rfl ?_
    refine rs_iconst (v := nI 2) ri_206_814 rfl (by decide) ?_
    refine rs_iconst (v := ((-1 : Int32))) ri_206_815 rfl (by decide) ?_
    refine rs_virt (c := 4) (As := [.int (nI 2), .int ((-1 : Int32))]) (r := []) ri_206_816 rfl (by decide) rm_83.2.2.2 rm_83.2.2.1 rfl rfl rfl (by decide) (lr_4 hz1.1) (Nat.le_of_ble_eq_true rfl) (hcs0) (by omega) (ca_round (X := X) hz1.1 hnp hz1.2.1 hN hsb1) ?_
    rintro v M2 ⟨f2, q2⟩
    rw [f2, ru_G hz1 hn1, b1]
    show ro_w X _ 206 _ 819 [(17, .ref cp), (0, .ref 0), (1, .ref 4), (2, .int (nI (np X)))] [.int (nI r)] M2 cs
    have hz2 := zs_q hz1 q2
    have hn2 := zn_q hn1 q2
    have hsb2 := sh_q (by decide) (kq_w q2) (fun _ => rfl) (fun _ => rfl) hsb1
    have hla2 := lr_q hla1 q2 hp
    refine rs_istore (lv2 := [(18, .int (nI r)), (17, .ref cp), (0, .ref 0), (1, .ref 4), (2, .int (nI (np X)))]) ri_206_819 rfl rm_206.1 (by decide) rfl ?_
    refine rs_aload_n ri_206_821 rfl rfl ?_
    refine rs_iconst (v := nI 2) ri_206_822 rfl (by decide) ?_
    refine rs_virt (c := 4) (As := [.int (nI 2)]) (r := []) ri_206_823 rfl (by decide) rm_93.2.2.2 rm_93.2.2.1 rfl rfl rfl (by decide) (lr_4 hz2.1) (Nat.le_of_ble_eq_true rfl) (hcs0) (by omega) (ca_clean (X := X) hz2.1 hnp hz2.2.1 hN hsb2) ?_
    rintro v9 M3 ⟨f3, q3⟩
    obtain ⟨cl, g3, hcl2⟩ : ∃ cl, v9 = some (.int cl) ∧ (0 < N → ruV nt f S2 r ≤ cl) := ⟨_, f3, fun n0 => by
      rw [if_neg (by omega), ru_G hz2 hn2, ru_V hz2, b5]
      exact b6⟩
    rw [g3]
    show ro_w X _ 206 _ 826 [(18, .int (nI r)), (17, .ref cp), (0, .ref 0), (1, .ref 4), (2, .int (nI (np X)))] [.int cl] M3 cs
    have hz3 := zs_q hz2 q3
    have hn3 := zn_q hn2 q3
    have hsb3 := sh_q (by decide) (kq_w q3) (fun _ => rfl) (fun _ => rfl) hsb2
    have hla3 := lr_q hla2 q3 hp
    refine rs_istore (lv2 := [(19, .int cl), (18, .int (nI r)), (17, .ref cp), (0, .ref 0), (1, .ref 4), (2, .int (nI (np X)))]) ri_206_826 rfl rm_206.1 (by decide) rfl ?_
    refine rs_iload ri_206_828 rfl rfl ?_
    refine rs_if_lt (t := 1060) ri_206_830 rfl rfl (fun q => absurd q (nI_nlt (a := r) (b := 0) (by omega) (by omega))) (fun _ => ?_)
    refine rs_iconst (v := nI 0) ri_206_833 rfl (by decide) ?_
    refine rs_istore (lv2 := [(20, .int (nI 0)), (19, .int cl), (18, .int (nI r)), (17, .ref cp), (0, .ref 0), (1, .ref 4), (2, .int (nI (np X)))]) ri_206_834 rfl rm_206.1 (by decide) rfl ?_
    refine rs_aload ri_206_836 rfl rfl ?_
    refine rs_len (v := nI (2 * N)) ri_206_838 rfl (by omega) (hla3.1) (by decide) rfl ?_
    refine rs_iconst (v := nI 2) ri_206_839 rfl (by decide) ?_
    refine rs_idiv (r := nI N) ri_206_840 rfl (by decide) (by rw [nI_div (a := 2 * N) (b := 2) (by omega) (by omega)]; congr 1; omega) ?_
    obtain ⟨ck, hck⟩ : ∃ c0, c0 = M3.1.length + 4 := ⟨_, rfl⟩
    refine rs_newa (c := ck) (k := 16) (n := N) (c1 := cs.1 + 1) (c2 := cs.2 + N) ri_206_841 rfl rfl (nI_pos (by omega)) (nI_clamp (by omega)) (by omega) rfl (by decide) hck.symm rfl rfl (by omega) (by omega) ?_
    refine rs_astore (lv2 := [(21, .ref ck), (20, .int (nI 0)), (19, .int cl), (18, .int (nI r)), (17, .ref cp), (0, .ref 0), (1, .ref 4), (2, .int (nI (np X)))]) ri_206_843 rfl rm_206.1 (by decide) rfl ?_
    refine rs_iconst (v := nI 0) ri_206_845 rfl (by decide) ?_
    refine rs_istore (lv2 := [(22, .int (nI 0)), (21, .ref ck), (20, .int (nI 0)), (19, .int cl), (18, .int (nI r)), (17, .ref cp), (0, .ref 0), (1, .ref 4), (2, .int (nI (np X)))]) ri_206_846 rfl rm_206.1 (by decide) rfl ?_
    have hlen : M3.1.length = M.1.length := by rw [q3.1, q2.1, w1.1]
    have hnw : nw M3 (ro_new M3 (16, N)) ck := by rw [hck]; exact nw_new
    have hk6 : 163 ≤ ck := by have := kv_len hz3.1; omega
    refine ro_w_lv (lv := [(22, .int (nI 0)), (21, .ref ck), (20, .int (nI 0)), (19, .int cl), (18, .int (nI r)), (17, .ref cp), (0, .ref 0), (1, .ref 4), (2, .int (nI (np X)))]) (ro_sub_c rfl (ro_sub_c rfl (ro_sub_c rfl (ro_sub_c rfl (ro_sub_c rfl (ro_sub_c rfl (ro_sub_c rfl (ro_sub_c rfl (ro_sub_c rfl (ro_sub_n rfl)))))))))) ?_
    exact lq_kinds (ks := ks) ⟨by omega, by omega⟩ hX hp hk6 (by omega) hN b3 hcl2 hok b1 b4 N 0 _ (fun _ => 0) (by omega) (zs_nw hz3 hnw hk6) (zn_nw hn3 hnw hk6) (sh_nw (by decide) hnw hk6 hsb3) (lr_nw hla3 hnw (by omega) (by omega)) (by rw [hck]; exact lr_new) (fun i hi => absurd hi (Nat.not_lt_zero _))
theorem lq_737 {N cp : Nat} {S : pu_T} (hcs : cs.1 + 1 ≤ (ro_lim 206).1 ∧ cs.2 + 5 ≤ (ro_lim 206).2) (hX : X.1 ≤ 260) (hp : 163 ≤ cp) (hN5 : N ≤ 5) (hn2 : 0 < N → 2 ≤ np X) (hok : pu_ok (np X) S) (hSI : ∀ i, i < np X → S.1 i = nI (on0 X i) ∧ S.2 i = nI (on1 X i)) : ∀ e y M f, y + e = 2 * N → cp < M.1.length + 4 → zs X L od hb nt M → zn M S → lr_a M cp (2 * N) f → (∀ i, i < y → f i < np X ∧ (i % 2 = 1 → f i ≠ f (i - 1))) → ro_w X 2000 206 lw_PP 737 [(18, .int (nI y)), (17, .ref cp), (0, .ref 0), (1, .ref 4), (2, .int (nI (np X)))] [] M cs := by
  have hnp := np_b (X := X)
  have hcs0 : cs.1 ≤ (ro_lim 206).1 ∧ cs.2 ≤ (ro_lim 206).2 := ⟨by omega, by omega⟩
  have h13 : sc X 13 < 16777216 := sc_lt (by omega)
  intro e
  induction e with
  | zero =>
    intro y M f hye hpl hz hn hla hf
    refine rs_iload ri_206_737 rfl rfl ?_
    refine rs_aload ri_206_739 rfl rfl ?_
    refine rs_len (v := nI (2 * N)) ri_206_741 rfl (by omega) (hla.1) (by decide) rfl ?_
    refine rs_icmp_ge (t := 801) ri_206_742 rfl rfl (fun _ => ?_) (fun q => absurd (nI_le (a := 2 * N) (b := y) (by omega) (by omega)) q)
    refine ro_w_lv (lv := [(17, .ref cp), (0, .ref 0), (1, .ref 4), (2, .int (nI (np X)))]) (ro_sub_c rfl (ro_sub_c rfl (ro_sub_c rfl (ro_sub_c rfl (ro_sub_n rfl))))) ?_
    refine lq_801 hcs hX hp hpl ⟨hN5, fun i hi => ?_⟩ hok hz hn hSI hla
    have e := (hf (2 * i + 1) (by omega)).2 (by omega)
    rw [show 2 * i + 1 - 1 = 2 * i by omega] at e
    exact ⟨(hf (2 * i) (by omega)).1, (hf (2 * i + 1) (by omega)).1, e.symm⟩
  | succ e ih =>
    intro y M f hye hpl hz hn hla hf
    have h2 := hn2 (by omega)
    have hx : sc X 13 / 2 ^ y < 16777216 := by
      have := Nat.div_le_self (sc X 13) (2 ^ y)
      omega
    have hx3 : sc X 13 / 2 ^ y / 2 ^ 3 < 16777216 := by
      have := Nat.div_le_self (sc X 13 / 2 ^ y) (2 ^ 3)
      omega
    have GO : ∀ x, x < np X → (y % 2 = 1 → x ≠ f (y - 1)) → ro_w X 2000 206 lw_PP 794 [(19, .int (nI (sc X 13 / 2 ^ y))), (18, .int (nI y)), (17, .ref cp), (0, .ref 0), (1, .ref 4), (2, .int (nI (np X)))] [.int (nI x), .int (nI y), .ref cp] M cs := fun x hx hxy => by
      refine rs_iast (j := y) ri_206_794 rfl (by omega) hla.1 (ro_vn (by omega) (by omega)) (nI_clamp (by omega)) ?_
      refine rs_iinc (v := nI (y + 1)) (lv2 := [(18, .int (nI (y + 1))), (19, .int (nI (sc X 13 / 2 ^ y))), (17, .ref cp), (0, .ref 0), (1, .ref 4), (2, .int (nI (np X)))]) ri_206_795 rfl rfl (nI_1 y) rm_206.1 (by decide) rfl ?_
      refine rs_goto (t := 737) ri_206_798 rfl ?_
      refine ro_w_lv (lv := [(18, .int (nI (y + 1))), (17, .ref cp), (0, .ref 0), (1, .ref 4), (2, .int (nI (np X)))]) (ro_sub_c rfl (ro_sub_c rfl (ro_sub_c rfl (ro_sub_c rfl (ro_sub_c rfl (ro_sub_n rfl)))))) ?_
      refine ih (y + 1) _ _ (by omega) hpl (zs_s hz hp) (zn_s hn hp) (lr_s hla) (fun i hi => ?_)
      by_cases q : i = y
      · rw [if_pos q, q]
        refine ⟨hx, fun o => ?_⟩
        rw [if_neg (by omega)]
        exact hxy o
      · rw [if_neg q]
        have h := hf i (by omega)
        refine ⟨h.1, fun o => ?_⟩
        rw [if_neg (by omega)]
        exact h.2 o
    rcases Nat.mod_two_eq_zero_or_one y with q0 | q0
    · have hm : sc X 13 / 2 ^ y % np X < np X := Nat.mod_lt _ (by omega)
      refine rs_iload ri_206_737 rfl rfl ?_
      refine rs_aload ri_206_739 rfl rfl ?_
      refine rs_len (v := nI (2 * N)) ri_206_741 rfl (by omega) (hla.1) (by decide) rfl ?_
      refine rs_icmp_ge (t := 801) ri_206_742 rfl rfl (fun q => absurd q (nI_ge (a := y) (b := 2 * N) (by omega) (by omega))) (fun _ => ?_)
      refine rs_aload_n ri_206_745 rfl rfl ?_
      refine rs_bipush (v := nI 13) ri_206_746 rfl (by decide) ?_
      refine rs_stat (As := [.ref 0, .int (nI 13)]) (r := []) ri_206_748 rfl rm_193.2.2.2 rfl rfl rfl (Nat.le_of_ble_eq_true rfl) (hcs0) (by omega) (lx_193 hX (by omega)) ?_
      rintro v M9 ⟨g1, g2⟩
      rw [g1, g2]
      show ro_w X _ 206 _ 751 [(18, .int (nI y)), (17, .ref cp), (0, .ref 0), (1, .ref 4), (2, .int (nI (np X)))] [.int (nI (sc X 13))] M cs
      refine rs_iload ri_206_751 rfl rfl ?_
      refine rs_ishr (r := nI ((sc X 13) / 2 ^ y)) ri_206_753 rfl (nI_shr (v := (sc X 13)) (k := y) (by omega) (by omega)) ?_
      refine rs_istore (lv2 := [(19, .int (nI ((sc X 13) / 2 ^ y))), (18, .int (nI y)), (17, .ref cp), (0, .ref 0), (1, .ref 4), (2, .int (nI (np X)))]) ri_206_754 rfl rm_206.1 (by decide) rfl ?_
      refine rs_aload ri_206_756 rfl rfl ?_
      refine rs_iload ri_206_758 rfl rfl ?_
      refine rs_iload ri_206_760 rfl rfl ?_
      refine rs_iconst (v := nI 2) ri_206_762 rfl (by decide) ?_
      refine rs_irem (r := nI (y % 2)) ri_206_763 rfl (by decide) (nI_rem (a := y) (b := 2) (by omega) (by omega)) ?_
      refine rs_if_ne (t := 774) ri_206_764 rfl rfl (fun q => absurd (congrArg nI q0) q) (fun _ => ?_)
      refine rs_iload ri_206_767 rfl rfl ?_
      refine rs_iload_n ri_206_769 rfl rfl ?_
      refine rs_irem (r := nI (((sc X 13) / 2 ^ y) % (np X))) ri_206_770 rfl (nI_ne0 (by omega) (by omega)) (nI_rem (a := ((sc X 13) / 2 ^ y)) (b := (np X)) (by omega) (by omega)) ?_
      refine rs_goto (t := 794) ri_206_771 rfl ?_
      refine ro_w_lv (ro_sub_c rfl (ro_sub_c rfl (ro_sub_c rfl (ro_sub_c rfl (ro_sub_c rfl (ro_sub_c rfl (ro_sub_n rfl))))))) (GO (sc X 13 / 2 ^ y % np X) hm (by omega))
    · have f1 := (hf (y - 1) (by omega)).1
      have hm : sc X 13 / 2 ^ y / 2 ^ 3 % (np X - 1) < np X - 1 := Nat.mod_lt _ (by omega)
      refine rs_iload ri_206_737 rfl rfl ?_
      refine rs_aload ri_206_739 rfl rfl ?_
      refine rs_len (v := nI (2 * N)) ri_206_741 rfl (by omega) (hla.1) (by decide) rfl ?_
      refine rs_icmp_ge (t := 801) ri_206_742 rfl rfl (fun q => absurd q (nI_ge (a := y) (b := 2 * N) (by omega) (by omega))) (fun _ => ?_)
      refine rs_aload_n ri_206_745 rfl rfl ?_
      refine rs_bipush (v := nI 13) ri_206_746 rfl (by decide) ?_
      refine rs_stat (As := [.ref 0, .int (nI 13)]) (r := []) ri_206_748 rfl rm_193.2.2.2 rfl rfl rfl (Nat.le_of_ble_eq_true rfl) (hcs0) (by omega) (lx_193 hX (by omega)) ?_
      rintro v M9 ⟨g1, g2⟩
      rw [g1, g2]
      show ro_w X _ 206 _ 751 [(18, .int (nI y)), (17, .ref cp), (0, .ref 0), (1, .ref 4), (2, .int (nI (np X)))] [.int (nI (sc X 13))] M cs
      refine rs_iload ri_206_751 rfl rfl ?_
      refine rs_ishr (r := nI ((sc X 13) / 2 ^ y)) ri_206_753 rfl (nI_shr (v := (sc X 13)) (k := y) (by omega) (by omega)) ?_
      refine rs_istore (lv2 := [(19, .int (nI ((sc X 13) / 2 ^ y))), (18, .int (nI y)), (17, .ref cp), (0, .ref 0), (1, .ref 4), (2, .int (nI (np X)))]) ri_206_754 rfl rm_206.1 (by decide) rfl ?_
      refine rs_aload ri_206_756 rfl rfl ?_
      refine rs_iload ri_206_758 rfl rfl ?_
      refine rs_iload ri_206_760 rfl rfl ?_
      refine rs_iconst (v := nI 2) ri_206_762 rfl (by decide) ?_
      refine rs_irem (r := nI (y % 2)) ri_206_763 rfl (by decide) (nI_rem (a := y) (b := 2) (by omega) (by omega)) ?_
      refine rs_if_ne (t := 774) ri_206_764 rfl rfl (fun _ => ?_) (fun q => absurd q (fun z => absurd ((nI_eq (a := y % 2) (b := 0) (by omega) (by omega)).mp z) (by omega)))
      refine rs_aload ri_206_774 rfl rfl ?_
      refine rs_iload ri_206_776 rfl rfl ?_
      refine rs_iconst (v := nI 1) ri_206_778 rfl (by decide) ?_
      refine rs_isub (r := nI (y - 1)) ri_206_779 rfl (nI_sub (a := y) (b := 1) (by omega)) ?_
      refine rs_iald (v := nI (f (y - 1))) ri_206_780 rfl (by omega) (hla).1 (ro_vn (k := (y - 1)) (by omega) (by omega)) (lr_g (hla) (by omega) (by omega)) ?_
      refine rs_iconst (v := nI 1) ri_206_781 rfl (by decide) ?_
      refine rs_iadd (r := nI ((f (y - 1)) + 1)) ri_206_782 rfl (nI_add (f (y - 1)) 1) ?_
      refine rs_iload ri_206_783 rfl rfl ?_
      refine rs_iconst (v := nI 3) ri_206_785 rfl (by decide) ?_
      refine rs_ishr (r := nI (((sc X 13) / 2 ^ y) / 2 ^ 3)) ri_206_786 rfl (nI_shr (v := ((sc X 13) / 2 ^ y)) (k := 3) (by omega) (by omega)) ?_
      refine rs_iload_n ri_206_787 rfl rfl ?_
      refine rs_iconst (v := nI 1) ri_206_788 rfl (by decide) ?_
      refine rs_isub (r := nI ((np X) - 1)) ri_206_789 rfl (nI_sub (a := (np X)) (b := 1) (by omega)) ?_
      refine rs_irem (r := nI ((((sc X 13) / 2 ^ y) / 2 ^ 3) % ((np X) - 1))) ri_206_790 rfl (nI_ne0 (by omega) (by omega)) (nI_rem (a := (((sc X 13) / 2 ^ y) / 2 ^ 3)) (b := ((np X) - 1)) (by omega) (by omega)) ?_
      refine rs_iadd (r := nI (((f (y - 1)) + 1) + ((((sc X 13) / 2 ^ y) / 2 ^ 3) % ((np X) - 1)))) ri_206_791 rfl (nI_add ((f (y - 1)) + 1) ((((sc X 13) / 2 ^ y) / 2 ^ 3) % ((np X) - 1))) ?_
      refine rs_iload_n ri_206_792 rfl rfl ?_
      refine rs_irem (r := nI ((((f (y - 1)) + 1) + ((((sc X 13) / 2 ^ y) / 2 ^ 3) % ((np X) - 1))) % (np X))) ri_206_793 rfl (nI_ne0 (by omega) (by omega)) (nI_rem (a := (((f (y - 1)) + 1) + ((((sc X 13) / 2 ^ y) / 2 ^ 3) % ((np X) - 1)))) (b := (np X)) (by omega) (by omega)) ?_
      refine ro_w_lv (ro_sub_c rfl (ro_sub_c rfl (ro_sub_c rfl (ro_sub_c rfl (ro_sub_c rfl (ro_sub_c rfl (ro_sub_n rfl))))))) (GO ((f (y - 1) + 1 + sc X 13 / 2 ^ y / 2 ^ 3 % (np X - 1)) % np X) (Nat.mod_lt _ (by omega)) (fun _ => mod_ne f1 hm))
theorem lq_710 {M : ro_Mm} {S : pu_T} (hcs : cs.1 + 2 ≤ (ro_lim 206).1 ∧ cs.2 + 15 ≤ (ro_lim 206).2) (hX : X.1 ≤ 260) (hok : pu_ok (np X) S) (hSI : ∀ i, i < np X → S.1 i = nI (on0 X i) ∧ S.2 i = nI (on1 X i)) (hz : zs X L od hb nt M) (hn : zn M S) : ro_w X 2000 206 lw_PP 710 [(0, .ref 0), (1, .ref 4), (2, .int (nI (np X)))] [] M cs := by
  have hnp := np_b (X := X)
  have hcs0 : cs.1 ≤ (ro_lim 206).1 ∧ cs.2 ≤ (ro_lim 206).2 := ⟨by omega, by omega⟩
  have h12 : sc X 12 < 16777216 := sc_lt (by omega)
  have GO : ∀ N, N ≤ 5 → (0 < N → 2 ≤ np X) → ro_w X 2000 206 lw_PP 730 [(0, .ref 0), (1, .ref 4), (2, .int (nI (np X)))] [.int (nI (2 * N))] M cs := fun N hN5 hn2 => by
    obtain ⟨cp, hcp⟩ : ∃ c0, c0 = M.1.length + 4 := ⟨_, rfl⟩
    refine rs_newa (c := cp) (k := 16) (n := 2 * N) (c1 := cs.1 + 1) (c2 := cs.2 + (2 * N)) ri_206_730 rfl rfl (nI_pos (by omega)) (nI_clamp (by omega)) (by omega) rfl (by decide) hcp.symm rfl rfl (by omega) (by omega) ?_
    refine rs_astore (lv2 := [(17, .ref cp), (0, .ref 0), (1, .ref 4), (2, .int (nI (np X)))]) ri_206_732 rfl rm_206.1 (by decide) rfl ?_
    refine rs_iconst (v := nI 0) ri_206_734 rfl (by decide) ?_
    refine rs_istore (lv2 := [(18, .int (nI 0)), (17, .ref cp), (0, .ref 0), (1, .ref 4), (2, .int (nI (np X)))]) ri_206_735 rfl rm_206.1 (by decide) rfl ?_
    have hnw : nw M (ro_new M (16, 2 * N)) cp := by rw [hcp]; exact nw_new
    have hk6 : 163 ≤ cp := by have := kv_len hz.1; omega
    exact lq_737 ⟨by omega, by omega⟩ hX hk6 hN5 hn2 hok hSI (2 * N) 0 _ (fun _ => 0) (by omega) (by rw [hcp]; show M.1.length + 4 < (M.1 ++ [_]).length + 4; rw [List.length_append]; exact Nat.lt_succ_self _) (zs_nw hz hnw hk6) (zn_nw hn hnw hk6) (by rw [hcp]; exact lr_new) (fun i hi => absurd hi (Nat.not_lt_zero _))
  by_cases q : np X < 2
  · refine rs_iload_n ri_206_710 rfl rfl ?_
    refine rs_iconst (v := nI 2) ri_206_711 rfl (by decide) ?_
    refine rs_icmp_ge (t := 719) ri_206_712 rfl rfl (fun q => absurd q (nI_ge (a := np X) (b := 2) (by omega) (by omega))) (fun _ => ?_)
    refine rs_iconst (v := nI 0) ri_206_715 rfl (by decide) ?_
    refine rs_goto (t := 730) ri_206_716 rfl ?_
    exact GO 0 (by omega) (fun h => absurd h (by omega))
  · refine rs_iload_n ri_206_710 rfl rfl ?_
    refine rs_iconst (v := nI 2) ri_206_711 rfl (by decide) ?_
    refine rs_icmp_ge (t := 719) ri_206_712 rfl rfl (fun _ => ?_) (fun q => absurd (nI_le (a := 2) (b := np X) (by omega) (by omega)) q)
    refine rs_iconst (v := nI 2) ri_206_719 rfl (by decide) ?_
    refine rs_aload_n ri_206_720 rfl rfl ?_
    refine rs_bipush (v := nI 12) ri_206_721 rfl (by decide) ?_
    refine rs_stat (As := [.ref 0, .int (nI 12)]) (r := [.int (nI 2)]) ri_206_723 rfl rm_193.2.2.2 rfl rfl rfl (Nat.le_of_ble_eq_true rfl) (hcs0) (by omega) (lx_193 hX (by omega)) ?_
    rintro v M9 ⟨g1, g2⟩
    rw [g1, g2]
    show ro_w X _ 206 _ 726 [(0, .ref 0), (1, .ref 4), (2, .int (nI (np X)))] [.int (nI (sc X 12)), .int (nI 2)] M cs
    refine rs_bipush (v := nI 6) ri_206_726 rfl (by decide) ?_
    refine rs_irem (r := nI ((sc X 12) % 6)) ri_206_728 rfl (by decide) (nI_rem (a := (sc X 12)) (b := 6) (by omega) (by omega)) ?_
    refine rs_imul (r := nI (2 * ((sc X 12) % 6))) ri_206_729 rfl (nI_mul 2 ((sc X 12) % 6)) ?_
    exact GO (sc X 12 % 6) (by omega) (fun _ => by omega)
end RND
end LAWV
