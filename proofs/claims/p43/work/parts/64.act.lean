/-! acts of bodies; pair act (by program, wip/whole/gen64.py) -/
section ACT
variable {X : ro_Sx}
theorem ac_170 {M : ro_Mm} {b : Int32} {j : Nat} (h : j ≠ 3) : (xm_170 M b).2.1 59 j = M.2.1 59 j := by
  unfold xm_170
  by_cases h1 : M.2.1 59 3 < 0
  · rw [if_pos h1, ro_rd_s, if_neg (fun q => h q.2)]
  · rw [if_neg h1]
    by_cases h2 : (24 : Int32) ≤ M.2.1 59 3
    · rw [if_pos h2, ro_rd_s, if_neg (fun q => h q.2)]
    · rw [if_neg h2, ro_rd_s, if_neg (fun q => h q.2), ro_sI_ne (by decide)]
theorem ac_fold {j : Nat} (h : j ≠ 3) : ∀ (l : List Int32) (M : ro_Mm), (l.foldl xm_170 M).2.1 59 j = M.2.1 59 j
  | [], _ => rfl
  | b :: l, M => (ac_fold h l (xm_170 M b)).trans (ac_170 h)
/-- a body of a kind, asked for an act: what it answers, which bodies begin -/
def ac_Sp (s sk : Int32) (n : Nat) (K a : Int32) (k : Nat) (f : Int32 → Int32) (l : List Int32) : Prop := ∀ M x, M.2.1 59 4 = s → M.2.1 59 5 = sk → xr_act n M K a x (nI k) = (f x, l.foldl xm_170 M) ∧ xpr_act n M K a x (nI k)
def ac_At (K a A : Int32) : Prop := ∀ (F : ro_Mm → Int32 → Int32 → Int32 → Int32 → Int32 × ro_Mm) (P : ro_Mm → Int32 → Int32 → Int32 → Int32 → Prop) (M : ro_Mm) (v3 v4 : Int32), (xg_167_6 F lp_N M 0 K K a v3 v4).2 = A ∧ xq_167_6 F P lp_N M 0 K K a v3 v4
section AC
variable {s sk : Int32} {n : Nat} {K a A : Int32} {k : Nat}
theorem ac_r1 (hat : ac_At K a A) (hA : ¬ A < 0) (hb : ∀ M, xf_168 M A a = 1) (hk : k < 40) : ac_Sp s sk (n + 1) K a k (fun x => x + s) ([1]) := by
  intro M x h4 h5
  have c40 : nI k < (40 : Int32) := nI_lt (b := 40) hk (by decide)
  obtain ⟨t1, t2⟩ := hat (xr_act n) (xpr_act n) M x (nI k)
  have m4 : (xm_170 M 1).2.1 59 4 = s := (ac_170 (by decide)).trans h4
  have m5 : (xm_170 M 1).2.1 59 5 = sk := (ac_170 (by decide)).trans h5
  refine ⟨?_, ?_⟩
  · show (xfb_167 (xr_act n) M K a x (nI k), xmb_167 (xr_act n) M K a x (nI k)) = _
    refine Prod.ext ?_ ?_
    · show xfb_167 (xr_act n) M K a x (nI k) = _
      unfold xfb_167 xf_171
      rw [t1, if_neg hA, if_pos c40, hb, if_neg (show ¬ (20 : Int32) ≤ 1 by decide), if_pos rfl, m4]
    · show xmb_167 (xr_act n) M K a x (nI k) = _
      unfold xmb_167 xm_171
      rw [t1, if_neg hA, if_pos c40, hb, if_neg (show ¬ (20 : Int32) ≤ 1 by decide), if_pos rfl]
      rfl
  · show xpb_167 (xr_act n) (xpr_act n) M K a x (nI k)
    unfold xpb_167 xp_171
    rw [t1, hb]
    exact ⟨t2, fun y => absurd y hA, fun _ => ⟨fun _ => ⟨fun y => absurd y (by decide), fun _ => ⟨⟨fun _ => trivial, fun y => absurd rfl y⟩, trivial⟩⟩, fun y => absurd c40 y⟩⟩
theorem ac_r11 (hat : ac_At K a A) (hA : ¬ A < 0) (hb : ∀ M, xf_168 M A a = 11) (hk : k < 40) : ac_Sp s sk (n + 1) K a k (fun x => x ^^^ s) ([11]) := by
  intro M x h4 h5
  have c40 : nI k < (40 : Int32) := nI_lt (b := 40) hk (by decide)
  obtain ⟨t1, t2⟩ := hat (xr_act n) (xpr_act n) M x (nI k)
  have m4 : (xm_170 M 11).2.1 59 4 = s := (ac_170 (by decide)).trans h4
  have m5 : (xm_170 M 11).2.1 59 5 = sk := (ac_170 (by decide)).trans h5
  refine ⟨?_, ?_⟩
  · show (xfb_167 (xr_act n) M K a x (nI k), xmb_167 (xr_act n) M K a x (nI k)) = _
    refine Prod.ext ?_ ?_
    · show xfb_167 (xr_act n) M K a x (nI k) = _
      unfold xfb_167 xf_171
      rw [t1, if_neg hA, if_pos c40, hb, if_neg (show ¬ (20 : Int32) ≤ 11 by decide), if_neg (show ¬ (11 : Int32) = 1 by decide), if_neg (show ¬ (11 : Int32) = 2 by decide), if_neg (show ¬ (11 : Int32) = 10 by decide), m4]
    · show xmb_167 (xr_act n) M K a x (nI k) = _
      unfold xmb_167 xm_171
      rw [t1, if_neg hA, if_pos c40, hb, if_neg (show ¬ (20 : Int32) ≤ 11 by decide), if_neg (show ¬ (11 : Int32) = 1 by decide), if_neg (show ¬ (11 : Int32) = 2 by decide), if_neg (show ¬ (11 : Int32) = 10 by decide)]
      rfl
  · show xpb_167 (xr_act n) (xpr_act n) M K a x (nI k)
    unfold xpb_167 xp_171
    rw [t1, hb]
    exact ⟨t2, fun y => absurd y hA, fun _ => ⟨fun _ => ⟨fun y => absurd y (by decide), fun _ => ⟨⟨fun y => absurd y (by decide), fun _ => ⟨fun y => absurd y (by decide), fun _ => ⟨fun y => absurd y (by decide), fun _ => trivial⟩⟩⟩, trivial⟩⟩, fun y => absurd c40 y⟩⟩
theorem ac_r10 (hat : ac_At K a A) (hA : ¬ A < 0) (hb : ∀ M, xf_168 M A a = 10) (hk : k < 40) {f0 : Int32 → Int32} {l0 : List Int32} (g0 : ac_Sp s sk n sk 0 (k + 1) f0 l0) : ac_Sp s sk (n + 1) K a k (fun x => f0 x * 2) (10 :: l0) := by
  intro M x h4 h5
  have c40 : nI k < (40 : Int32) := nI_lt (b := 40) hk (by decide)
  obtain ⟨t1, t2⟩ := hat (xr_act n) (xpr_act n) M x (nI k)
  have m4 : (xm_170 M 10).2.1 59 4 = s := (ac_170 (by decide)).trans h4
  have m5 : (xm_170 M 10).2.1 59 5 = sk := (ac_170 (by decide)).trans h5
  obtain ⟨u0, w0⟩ := g0 (xm_170 M 10) (x) m4 m5
  refine ⟨?_, ?_⟩
  · show (xfb_167 (xr_act n) M K a x (nI k), xmb_167 (xr_act n) M K a x (nI k)) = _
    refine Prod.ext ?_ ?_
    · show xfb_167 (xr_act n) M K a x (nI k) = _
      unfold xfb_167 xf_171
      rw [t1, if_neg hA, if_pos c40, hb, if_neg (show ¬ (20 : Int32) ≤ 10 by decide), if_neg (show ¬ (10 : Int32) = 1 by decide), if_neg (show ¬ (10 : Int32) = 2 by decide), if_pos rfl, nI_1, m5, u0]
    · show xmb_167 (xr_act n) M K a x (nI k) = _
      unfold xmb_167 xm_171
      rw [t1, if_neg hA, if_pos c40, hb, if_neg (show ¬ (20 : Int32) ≤ 10 by decide), if_neg (show ¬ (10 : Int32) = 1 by decide), if_neg (show ¬ (10 : Int32) = 2 by decide), if_pos rfl, nI_1, m5, u0]
      rfl
  · show xpb_167 (xr_act n) (xpr_act n) M K a x (nI k)
    unfold xpb_167 xp_171
    rw [t1, hb]
    rw [nI_1, m5]
    exact ⟨t2, fun y => absurd y hA, fun _ => ⟨fun _ => ⟨fun y => absurd y (by decide), fun _ => ⟨⟨fun y => absurd y (by decide), fun _ => ⟨fun y => absurd y (by decide), fun _ => ⟨fun _ => ⟨w0, trivial⟩, fun y => absurd rfl y⟩⟩⟩, trivial⟩⟩, fun y => absurd c40 y⟩⟩
theorem ac_r2 (hat : ac_At K a A) (hA : ¬ A < 0) (hb : ∀ M, xf_168 M A a = 2) (hk : k < 40) {f0 : Int32 → Int32} {l0 : List Int32} (g0 : ac_Sp s sk n sk 1 (k + 1) f0 l0) {f1 : Int32 → Int32} {l1 : List Int32} (g1 : ac_Sp s sk n sk 2 (k + 1) f1 l1) : ac_Sp s sk (n + 1) K a k (fun x => f0 x - f1 1) (2 :: (l0 ++ l1)) := by
  intro M x h4 h5
  have c40 : nI k < (40 : Int32) := nI_lt (b := 40) hk (by decide)
  obtain ⟨t1, t2⟩ := hat (xr_act n) (xpr_act n) M x (nI k)
  have m4 : (xm_170 M 2).2.1 59 4 = s := (ac_170 (by decide)).trans h4
  have m5 : (xm_170 M 2).2.1 59 5 = sk := (ac_170 (by decide)).trans h5
  obtain ⟨u0, w0⟩ := g0 (xm_170 M 2) (x) m4 m5
  have p4 : (l0.foldl xm_170 (xm_170 M 2)).2.1 59 4 = s := (ac_fold (by decide) _ _).trans m4
  have p5 : (l0.foldl xm_170 (xm_170 M 2)).2.1 59 5 = sk := (ac_fold (by decide) _ _).trans m5
  obtain ⟨u1, w1⟩ := g1 (l0.foldl xm_170 (xm_170 M 2)) (1) p4 p5
  refine ⟨?_, ?_⟩
  · show (xfb_167 (xr_act n) M K a x (nI k), xmb_167 (xr_act n) M K a x (nI k)) = _
    refine Prod.ext ?_ ?_
    · show xfb_167 (xr_act n) M K a x (nI k) = _
      unfold xfb_167 xf_171
      rw [t1, if_neg hA, if_pos c40, hb, if_neg (show ¬ (20 : Int32) ≤ 2 by decide), if_neg (show ¬ (2 : Int32) = 1 by decide), if_pos rfl, nI_1, m5, u0, p5, u1]
    · show xmb_167 (xr_act n) M K a x (nI k) = _
      unfold xmb_167 xm_171
      rw [t1, if_neg hA, if_pos c40, hb, if_neg (show ¬ (20 : Int32) ≤ 2 by decide), if_neg (show ¬ (2 : Int32) = 1 by decide), if_pos rfl, nI_1, m5, u0, p5, u1]
      show List.foldl xm_170 (List.foldl xm_170 (xm_170 M 2) l0) l1 = List.foldl xm_170 (xm_170 M 2) (l0 ++ l1)
      rw [List.foldl_append]
  · show xpb_167 (xr_act n) (xpr_act n) M K a x (nI k)
    unfold xpb_167 xp_171
    rw [t1, hb]
    rw [nI_1, m5, u0, p5]
    exact ⟨t2, fun y => absurd y hA, fun _ => ⟨fun _ => ⟨fun y => absurd y (by decide), fun _ => ⟨⟨fun y => absurd y (by decide), fun _ => ⟨fun _ => ⟨w0, w1, trivial⟩, fun y => absurd rfl y⟩⟩, trivial⟩⟩, fun y => absurd c40 y⟩⟩
theorem ac_r20 (hat : ac_At K a A) (hA : ¬ A < 0) (hb : ∀ M, xf_168 M A a = 20) {B : Int32} (hB : ∀ M, xf_169 M A = B) (hk : k < 40) {f0 : Int32 → Int32} {l0 : List Int32} (g0 : ac_Sp s sk n B 0 (k + 1) f0 l0) : ac_Sp s sk (n + 1) K a k (fun x => f0 x + 3) (20 :: l0) := by
  intro M x h4 h5
  have c40 : nI k < (40 : Int32) := nI_lt (b := 40) hk (by decide)
  obtain ⟨t1, t2⟩ := hat (xr_act n) (xpr_act n) M x (nI k)
  have m4 : (xm_170 M 20).2.1 59 4 = s := (ac_170 (by decide)).trans h4
  have m5 : (xm_170 M 20).2.1 59 5 = sk := (ac_170 (by decide)).trans h5
  obtain ⟨u0, w0⟩ := g0 (xm_170 M 20) (x) m4 m5
  refine ⟨?_, ?_⟩
  · show (xfb_167 (xr_act n) M K a x (nI k), xmb_167 (xr_act n) M K a x (nI k)) = _
    refine Prod.ext ?_ ?_
    · show xfb_167 (xr_act n) M K a x (nI k) = _
      unfold xfb_167 xf_172
      rw [t1, if_neg hA, if_pos c40, hb, if_pos (show (20 : Int32) ≤ 20 by decide), hB, if_pos rfl, nI_1, u0]
    · show xmb_167 (xr_act n) M K a x (nI k) = _
      unfold xmb_167 xm_172
      rw [t1, if_neg hA, if_pos c40, hb, if_pos (show (20 : Int32) ≤ 20 by decide), hB, if_pos rfl, nI_1, u0]
      rfl
  · show xpb_167 (xr_act n) (xpr_act n) M K a x (nI k)
    unfold xpb_167 xp_172
    rw [t1, hb, hB]
    rw [nI_1]
    exact ⟨t2, fun y => absurd y hA, fun _ => ⟨fun _ => ⟨fun _ => ⟨⟨fun _ => ⟨w0, trivial⟩, fun y => absurd rfl y⟩, trivial⟩, fun y => absurd (by decide) y⟩, fun y => absurd c40 y⟩⟩
theorem ac_r30 (hat : ac_At K a A) (hA : ¬ A < 0) (hb : ∀ M, xf_168 M A a = 30) {B : Int32} (hB : ∀ M, xf_169 M A = B) (hk : k < 40) {f0 : Int32 → Int32} {l0 : List Int32} (g0 : ac_Sp s sk n B 1 (k + 1) f0 l0) : ac_Sp s sk (n + 1) K a k (fun x => -f0 x) (30 :: l0) := by
  intro M x h4 h5
  have c40 : nI k < (40 : Int32) := nI_lt (b := 40) hk (by decide)
  obtain ⟨t1, t2⟩ := hat (xr_act n) (xpr_act n) M x (nI k)
  have m4 : (xm_170 M 30).2.1 59 4 = s := (ac_170 (by decide)).trans h4
  have m5 : (xm_170 M 30).2.1 59 5 = sk := (ac_170 (by decide)).trans h5
  obtain ⟨u0, w0⟩ := g0 (xm_170 M 30) (x) m4 m5
  refine ⟨?_, ?_⟩
  · show (xfb_167 (xr_act n) M K a x (nI k), xmb_167 (xr_act n) M K a x (nI k)) = _
    refine Prod.ext ?_ ?_
    · show xfb_167 (xr_act n) M K a x (nI k) = _
      unfold xfb_167 xf_172
      rw [t1, if_neg hA, if_pos c40, hb, if_pos (show (20 : Int32) ≤ 30 by decide), hB, if_neg (show ¬ (30 : Int32) = 20 by decide), if_pos rfl, nI_1, u0]
    · show xmb_167 (xr_act n) M K a x (nI k) = _
      unfold xmb_167 xm_172
      rw [t1, if_neg hA, if_pos c40, hb, if_pos (show (20 : Int32) ≤ 30 by decide), hB, if_neg (show ¬ (30 : Int32) = 20 by decide), if_pos rfl, nI_1, u0]
      rfl
  · show xpb_167 (xr_act n) (xpr_act n) M K a x (nI k)
    unfold xpb_167 xp_172
    rw [t1, hb, hB]
    rw [nI_1]
    exact ⟨t2, fun y => absurd y hA, fun _ => ⟨fun _ => ⟨fun _ => ⟨⟨fun y => absurd y (by decide), fun _ => ⟨fun _ => ⟨w0, trivial⟩, fun y => absurd rfl y⟩⟩, trivial⟩, fun y => absurd (by decide) y⟩, fun y => absurd c40 y⟩⟩
theorem ac_r40 (hat : ac_At K a A) (hA : ¬ A < 0) (hb : ∀ M, xf_168 M A a = 40) {B : Int32} (hB : ∀ M, xf_169 M A = B) (hk : k < 40) {f0 : Int32 → Int32} {l0 : List Int32} (g0 : ac_Sp s sk n B 2 (k + 1) f0 l0) : ac_Sp s sk (n + 1) K a k (fun x => f0 x * 3) (40 :: l0) := by
  intro M x h4 h5
  have c40 : nI k < (40 : Int32) := nI_lt (b := 40) hk (by decide)
  obtain ⟨t1, t2⟩ := hat (xr_act n) (xpr_act n) M x (nI k)
  have m4 : (xm_170 M 40).2.1 59 4 = s := (ac_170 (by decide)).trans h4
  have m5 : (xm_170 M 40).2.1 59 5 = sk := (ac_170 (by decide)).trans h5
  obtain ⟨u0, w0⟩ := g0 (xm_170 M 40) (x) m4 m5
  refine ⟨?_, ?_⟩
  · show (xfb_167 (xr_act n) M K a x (nI k), xmb_167 (xr_act n) M K a x (nI k)) = _
    refine Prod.ext ?_ ?_
    · show xfb_167 (xr_act n) M K a x (nI k) = _
      unfold xfb_167 xf_172
      rw [t1, if_neg hA, if_pos c40, hb, if_pos (show (20 : Int32) ≤ 40 by decide), hB, if_neg (show ¬ (40 : Int32) = 20 by decide), if_neg (show ¬ (40 : Int32) = 30 by decide), if_pos rfl, nI_1, u0]
    · show xmb_167 (xr_act n) M K a x (nI k) = _
      unfold xmb_167 xm_172
      rw [t1, if_neg hA, if_pos c40, hb, if_pos (show (20 : Int32) ≤ 40 by decide), hB, if_neg (show ¬ (40 : Int32) = 20 by decide), if_neg (show ¬ (40 : Int32) = 30 by decide), if_pos rfl, nI_1, u0]
      rfl
  · show xpb_167 (xr_act n) (xpr_act n) M K a x (nI k)
    unfold xpb_167 xp_172
    rw [t1, hb, hB]
    rw [nI_1]
    exact ⟨t2, fun y => absurd y hA, fun _ => ⟨fun _ => ⟨fun _ => ⟨⟨fun y => absurd y (by decide), fun _ => ⟨fun y => absurd y (by decide), fun _ => ⟨fun _ => ⟨w0, trivial⟩, fun y => absurd rfl y⟩⟩⟩, trivial⟩, fun y => absurd (by decide) y⟩, fun y => absurd c40 y⟩⟩
theorem ac_r41 (hat : ac_At K a A) (hA : ¬ A < 0) (hb : ∀ M, xf_168 M A a = 41) {B : Int32} (hB : ∀ M, xf_169 M A = B) (hk : k < 40) {f0 : Int32 → Int32} {l0 : List Int32} (g0 : ac_Sp s sk n B 1 (k + 1) f0 l0) : ac_Sp s sk (n + 1) K a k (fun x => f0 (x + 1)) (41 :: l0) := by
  intro M x h4 h5
  have c40 : nI k < (40 : Int32) := nI_lt (b := 40) hk (by decide)
  obtain ⟨t1, t2⟩ := hat (xr_act n) (xpr_act n) M x (nI k)
  have m4 : (xm_170 M 41).2.1 59 4 = s := (ac_170 (by decide)).trans h4
  have m5 : (xm_170 M 41).2.1 59 5 = sk := (ac_170 (by decide)).trans h5
  obtain ⟨u0, w0⟩ := g0 (xm_170 M 41) (x + 1) m4 m5
  refine ⟨?_, ?_⟩
  · show (xfb_167 (xr_act n) M K a x (nI k), xmb_167 (xr_act n) M K a x (nI k)) = _
    refine Prod.ext ?_ ?_
    · show xfb_167 (xr_act n) M K a x (nI k) = _
      unfold xfb_167 xf_172
      rw [t1, if_neg hA, if_pos c40, hb, if_pos (show (20 : Int32) ≤ 41 by decide), hB, if_neg (show ¬ (41 : Int32) = 20 by decide), if_neg (show ¬ (41 : Int32) = 30 by decide), if_neg (show ¬ (41 : Int32) = 40 by decide), if_pos rfl, nI_1, u0]
    · show xmb_167 (xr_act n) M K a x (nI k) = _
      unfold xmb_167 xm_172
      rw [t1, if_neg hA, if_pos c40, hb, if_pos (show (20 : Int32) ≤ 41 by decide), hB, if_neg (show ¬ (41 : Int32) = 20 by decide), if_neg (show ¬ (41 : Int32) = 30 by decide), if_neg (show ¬ (41 : Int32) = 40 by decide), if_pos rfl, nI_1, u0]
      rfl
  · show xpb_167 (xr_act n) (xpr_act n) M K a x (nI k)
    unfold xpb_167 xp_172
    rw [t1, hb, hB]
    rw [nI_1]
    exact ⟨t2, fun y => absurd y hA, fun _ => ⟨fun _ => ⟨fun _ => ⟨⟨fun y => absurd y (by decide), fun _ => ⟨fun y => absurd y (by decide), fun _ => ⟨fun y => absurd y (by decide), fun _ => ⟨fun _ => ⟨w0, trivial⟩, fun y => absurd rfl y⟩⟩⟩⟩, trivial⟩, fun y => absurd (by decide) y⟩, fun y => absurd c40 y⟩⟩
theorem ac_r50 (hat : ac_At K a A) (hA : ¬ A < 0) (hb : ∀ M, xf_168 M A a = 50) {B : Int32} (hB : ∀ M, xf_169 M A = B) (hk : k < 40) {f0 : Int32 → Int32} {l0 : List Int32} (g0 : ac_Sp s sk n B 3 (k + 1) f0 l0) : ac_Sp s sk (n + 1) K a k (fun x => f0 x ^^^ 5) (50 :: l0) := by
  intro M x h4 h5
  have c40 : nI k < (40 : Int32) := nI_lt (b := 40) hk (by decide)
  obtain ⟨t1, t2⟩ := hat (xr_act n) (xpr_act n) M x (nI k)
  have m4 : (xm_170 M 50).2.1 59 4 = s := (ac_170 (by decide)).trans h4
  have m5 : (xm_170 M 50).2.1 59 5 = sk := (ac_170 (by decide)).trans h5
  obtain ⟨u0, w0⟩ := g0 (xm_170 M 50) (x) m4 m5
  refine ⟨?_, ?_⟩
  · show (xfb_167 (xr_act n) M K a x (nI k), xmb_167 (xr_act n) M K a x (nI k)) = _
    refine Prod.ext ?_ ?_
    · show xfb_167 (xr_act n) M K a x (nI k) = _
      unfold xfb_167 xf_172
      rw [t1, if_neg hA, if_pos c40, hb, if_pos (show (20 : Int32) ≤ 50 by decide), hB, if_neg (show ¬ (50 : Int32) = 20 by decide), if_neg (show ¬ (50 : Int32) = 30 by decide), if_neg (show ¬ (50 : Int32) = 40 by decide), if_neg (show ¬ (50 : Int32) = 41 by decide), if_pos rfl, nI_1, u0]
    · show xmb_167 (xr_act n) M K a x (nI k) = _
      unfold xmb_167 xm_172
      rw [t1, if_neg hA, if_pos c40, hb, if_pos (show (20 : Int32) ≤ 50 by decide), hB, if_neg (show ¬ (50 : Int32) = 20 by decide), if_neg (show ¬ (50 : Int32) = 30 by decide), if_neg (show ¬ (50 : Int32) = 40 by decide), if_neg (show ¬ (50 : Int32) = 41 by decide), if_pos rfl, nI_1, u0]
      rfl
  · show xpb_167 (xr_act n) (xpr_act n) M K a x (nI k)
    unfold xpb_167 xp_172
    rw [t1, hb, hB]
    rw [nI_1]
    exact ⟨t2, fun y => absurd y hA, fun _ => ⟨fun _ => ⟨fun _ => ⟨⟨fun y => absurd y (by decide), fun _ => ⟨fun y => absurd y (by decide), fun _ => ⟨fun y => absurd y (by decide), fun _ => ⟨fun y => absurd y (by decide), fun _ => ⟨fun _ => ⟨w0, trivial⟩, fun y => absurd rfl y⟩⟩⟩⟩⟩, trivial⟩, fun y => absurd (by decide) y⟩, fun y => absurd c40 y⟩⟩
theorem ac_r60 (hat : ac_At K a A) (hA : ¬ A < 0) (hb : ∀ M, xf_168 M A a = 60) {B : Int32} (hB : ∀ M, xf_169 M A = B) (hk : k < 40) {f0 : Int32 → Int32} {l0 : List Int32} (g0 : ac_Sp s sk n B 2 (k + 1) f0 l0) {f1 : Int32 → Int32} {l1 : List Int32} (g1 : ac_Sp s sk n sk 0 (k + 1) f1 l1) : ac_Sp s sk (n + 1) K a k (fun x => f0 x - f1 2) (60 :: (l0 ++ l1)) := by
  intro M x h4 h5
  have c40 : nI k < (40 : Int32) := nI_lt (b := 40) hk (by decide)
  obtain ⟨t1, t2⟩ := hat (xr_act n) (xpr_act n) M x (nI k)
  have m4 : (xm_170 M 60).2.1 59 4 = s := (ac_170 (by decide)).trans h4
  have m5 : (xm_170 M 60).2.1 59 5 = sk := (ac_170 (by decide)).trans h5
  obtain ⟨u0, w0⟩ := g0 (xm_170 M 60) (x) m4 m5
  have p4 : (l0.foldl xm_170 (xm_170 M 60)).2.1 59 4 = s := (ac_fold (by decide) _ _).trans m4
  have p5 : (l0.foldl xm_170 (xm_170 M 60)).2.1 59 5 = sk := (ac_fold (by decide) _ _).trans m5
  obtain ⟨u1, w1⟩ := g1 (l0.foldl xm_170 (xm_170 M 60)) (2) p4 p5
  refine ⟨?_, ?_⟩
  · show (xfb_167 (xr_act n) M K a x (nI k), xmb_167 (xr_act n) M K a x (nI k)) = _
    refine Prod.ext ?_ ?_
    · show xfb_167 (xr_act n) M K a x (nI k) = _
      unfold xfb_167 xf_172
      rw [t1, if_neg hA, if_pos c40, hb, if_pos (show (20 : Int32) ≤ 60 by decide), hB, if_neg (show ¬ (60 : Int32) = 20 by decide), if_neg (show ¬ (60 : Int32) = 30 by decide), if_neg (show ¬ (60 : Int32) = 40 by decide), if_neg (show ¬ (60 : Int32) = 41 by decide), if_neg (show ¬ (60 : Int32) = 50 by decide), if_pos rfl, nI_1, u0, p5, u1]
    · show xmb_167 (xr_act n) M K a x (nI k) = _
      unfold xmb_167 xm_172
      rw [t1, if_neg hA, if_pos c40, hb, if_pos (show (20 : Int32) ≤ 60 by decide), hB, if_neg (show ¬ (60 : Int32) = 20 by decide), if_neg (show ¬ (60 : Int32) = 30 by decide), if_neg (show ¬ (60 : Int32) = 40 by decide), if_neg (show ¬ (60 : Int32) = 41 by decide), if_neg (show ¬ (60 : Int32) = 50 by decide), if_pos rfl, nI_1, u0, p5, u1]
      show List.foldl xm_170 (List.foldl xm_170 (xm_170 M 60) l0) l1 = List.foldl xm_170 (xm_170 M 60) (l0 ++ l1)
      rw [List.foldl_append]
  · show xpb_167 (xr_act n) (xpr_act n) M K a x (nI k)
    unfold xpb_167 xp_172
    rw [t1, hb, hB]
    rw [nI_1, u0, p5]
    exact ⟨t2, fun y => absurd y hA, fun _ => ⟨fun _ => ⟨fun _ => ⟨⟨fun y => absurd y (by decide), fun _ => ⟨fun y => absurd y (by decide), fun _ => ⟨fun y => absurd y (by decide), fun _ => ⟨fun y => absurd y (by decide), fun _ => ⟨fun y => absurd y (by decide), fun _ => ⟨fun _ => ⟨w0, w1, trivial⟩, fun y => absurd rfl y⟩⟩⟩⟩⟩⟩, trivial⟩, fun y => absurd (by decide) y⟩, fun y => absurd c40 y⟩⟩
theorem ac_r61 (hat : ac_At K a A) (hA : ¬ A < 0) (hb : ∀ M, xf_168 M A a = 61) {B : Int32} (hB : ∀ M, xf_169 M A = B) (hk : k < 40) {f0 : Int32 → Int32} {l0 : List Int32} (g0 : ac_Sp s sk n B 3 (k + 1) f0 l0) : ac_Sp s sk (n + 1) K a k (fun x => f0 x + 1) (61 :: l0) := by
  intro M x h4 h5
  have c40 : nI k < (40 : Int32) := nI_lt (b := 40) hk (by decide)
  obtain ⟨t1, t2⟩ := hat (xr_act n) (xpr_act n) M x (nI k)
  have m4 : (xm_170 M 61).2.1 59 4 = s := (ac_170 (by decide)).trans h4
  have m5 : (xm_170 M 61).2.1 59 5 = sk := (ac_170 (by decide)).trans h5
  obtain ⟨u0, w0⟩ := g0 (xm_170 M 61) (x) m4 m5
  refine ⟨?_, ?_⟩
  · show (xfb_167 (xr_act n) M K a x (nI k), xmb_167 (xr_act n) M K a x (nI k)) = _
    refine Prod.ext ?_ ?_
    · show xfb_167 (xr_act n) M K a x (nI k) = _
      unfold xfb_167 xf_172
      rw [t1, if_neg hA, if_pos c40, hb, if_pos (show (20 : Int32) ≤ 61 by decide), hB, if_neg (show ¬ (61 : Int32) = 20 by decide), if_neg (show ¬ (61 : Int32) = 30 by decide), if_neg (show ¬ (61 : Int32) = 40 by decide), if_neg (show ¬ (61 : Int32) = 41 by decide), if_neg (show ¬ (61 : Int32) = 50 by decide), if_neg (show ¬ (61 : Int32) = 60 by decide), if_pos rfl, nI_1, u0]
    · show xmb_167 (xr_act n) M K a x (nI k) = _
      unfold xmb_167 xm_172
      rw [t1, if_neg hA, if_pos c40, hb, if_pos (show (20 : Int32) ≤ 61 by decide), hB, if_neg (show ¬ (61 : Int32) = 20 by decide), if_neg (show ¬ (61 : Int32) = 30 by decide), if_neg (show ¬ (61 : Int32) = 40 by decide), if_neg (show ¬ (61 : Int32) = 41 by decide), if_neg (show ¬ (61 : Int32) = 50 by decide), if_neg (show ¬ (61 : Int32) = 60 by decide), if_pos rfl, nI_1, u0]
      rfl
  · show xpb_167 (xr_act n) (xpr_act n) M K a x (nI k)
    unfold xpb_167 xp_172
    rw [t1, hb, hB]
    rw [nI_1]
    exact ⟨t2, fun y => absurd y hA, fun _ => ⟨fun _ => ⟨fun _ => ⟨⟨fun y => absurd y (by decide), fun _ => ⟨fun y => absurd y (by decide), fun _ => ⟨fun y => absurd y (by decide), fun _ => ⟨fun y => absurd y (by decide), fun _ => ⟨fun y => absurd y (by decide), fun _ => ⟨fun y => absurd y (by decide), fun _ => ⟨fun _ => ⟨w0, trivial⟩, fun y => absurd rfl y⟩⟩⟩⟩⟩⟩⟩, trivial⟩, fun y => absurd (by decide) y⟩, fun y => absurd c40 y⟩⟩
theorem ac_r70 (hat : ac_At K a A) (hA : ¬ A < 0) (hb : ∀ M, xf_168 M A a = 70) {B : Int32} (hB : ∀ M, xf_169 M A = B) (hk : k < 40) {f0 : Int32 → Int32} {l0 : List Int32} (g0 : ac_Sp s sk n B 0 (k + 1) f0 l0) : ac_Sp s sk (n + 1) K a k (fun x => f0 x * 2) (70 :: l0) := by
  intro M x h4 h5
  have c40 : nI k < (40 : Int32) := nI_lt (b := 40) hk (by decide)
  obtain ⟨t1, t2⟩ := hat (xr_act n) (xpr_act n) M x (nI k)
  have m4 : (xm_170 M 70).2.1 59 4 = s := (ac_170 (by decide)).trans h4
  have m5 : (xm_170 M 70).2.1 59 5 = sk := (ac_170 (by decide)).trans h5
  obtain ⟨u0, w0⟩ := g0 (xm_170 M 70) (x) m4 m5
  refine ⟨?_, ?_⟩
  · show (xfb_167 (xr_act n) M K a x (nI k), xmb_167 (xr_act n) M K a x (nI k)) = _
    refine Prod.ext ?_ ?_
    · show xfb_167 (xr_act n) M K a x (nI k) = _
      unfold xfb_167 xf_172
      rw [t1, if_neg hA, if_pos c40, hb, if_pos (show (20 : Int32) ≤ 70 by decide), hB, if_neg (show ¬ (70 : Int32) = 20 by decide), if_neg (show ¬ (70 : Int32) = 30 by decide), if_neg (show ¬ (70 : Int32) = 40 by decide), if_neg (show ¬ (70 : Int32) = 41 by decide), if_neg (show ¬ (70 : Int32) = 50 by decide), if_neg (show ¬ (70 : Int32) = 60 by decide), if_neg (show ¬ (70 : Int32) = 61 by decide), if_pos rfl, nI_1, u0]
    · show xmb_167 (xr_act n) M K a x (nI k) = _
      unfold xmb_167 xm_172
      rw [t1, if_neg hA, if_pos c40, hb, if_pos (show (20 : Int32) ≤ 70 by decide), hB, if_neg (show ¬ (70 : Int32) = 20 by decide), if_neg (show ¬ (70 : Int32) = 30 by decide), if_neg (show ¬ (70 : Int32) = 40 by decide), if_neg (show ¬ (70 : Int32) = 41 by decide), if_neg (show ¬ (70 : Int32) = 50 by decide), if_neg (show ¬ (70 : Int32) = 60 by decide), if_neg (show ¬ (70 : Int32) = 61 by decide), if_pos rfl, nI_1, u0]
      rfl
  · show xpb_167 (xr_act n) (xpr_act n) M K a x (nI k)
    unfold xpb_167 xp_172
    rw [t1, hb, hB]
    rw [nI_1]
    exact ⟨t2, fun y => absurd y hA, fun _ => ⟨fun _ => ⟨fun _ => ⟨⟨fun y => absurd y (by decide), fun _ => ⟨fun y => absurd y (by decide), fun _ => ⟨fun y => absurd y (by decide), fun _ => ⟨fun y => absurd y (by decide), fun _ => ⟨fun y => absurd y (by decide), fun _ => ⟨fun y => absurd y (by decide), fun _ => ⟨fun y => absurd y (by decide), fun _ => ⟨fun _ => ⟨w0, trivial⟩, fun y => absurd rfl y⟩⟩⟩⟩⟩⟩⟩⟩, trivial⟩, fun y => absurd (by decide) y⟩, fun y => absurd c40 y⟩⟩
theorem ac_r80 (hat : ac_At K a A) (hA : ¬ A < 0) (hb : ∀ M, xf_168 M A a = 80) {B : Int32} (hB : ∀ M, xf_169 M A = B) (hk : k < 40) {f0 : Int32 → Int32} {l0 : List Int32} (g0 : ac_Sp s sk n B 1 (k + 1) f0 l0) {f1 : Int32 → Int32} {l1 : List Int32} (g1 : ac_Sp s sk n sk 2 (k + 1) f1 l1) : ac_Sp s sk (n + 1) K a k (fun x => f0 x + f1 2) (80 :: (l0 ++ l1)) := by
  intro M x h4 h5
  have c40 : nI k < (40 : Int32) := nI_lt (b := 40) hk (by decide)
  obtain ⟨t1, t2⟩ := hat (xr_act n) (xpr_act n) M x (nI k)
  have m4 : (xm_170 M 80).2.1 59 4 = s := (ac_170 (by decide)).trans h4
  have m5 : (xm_170 M 80).2.1 59 5 = sk := (ac_170 (by decide)).trans h5
  obtain ⟨u0, w0⟩ := g0 (xm_170 M 80) (x) m4 m5
  have p4 : (l0.foldl xm_170 (xm_170 M 80)).2.1 59 4 = s := (ac_fold (by decide) _ _).trans m4
  have p5 : (l0.foldl xm_170 (xm_170 M 80)).2.1 59 5 = sk := (ac_fold (by decide) _ _).trans m5
  obtain ⟨u1, w1⟩ := g1 (l0.foldl xm_170 (xm_170 M 80)) (2) p4 p5
  refine ⟨?_, ?_⟩
  · show (xfb_167 (xr_act n) M K a x (nI k), xmb_167 (xr_act n) M K a x (nI k)) = _
    refine Prod.ext ?_ ?_
    · show xfb_167 (xr_act n) M K a x (nI k) = _
      unfold xfb_167 xf_172
      rw [t1, if_neg hA, if_pos c40, hb, if_pos (show (20 : Int32) ≤ 80 by decide), hB, if_neg (show ¬ (80 : Int32) = 20 by decide), if_neg (show ¬ (80 : Int32) = 30 by decide), if_neg (show ¬ (80 : Int32) = 40 by decide), if_neg (show ¬ (80 : Int32) = 41 by decide), if_neg (show ¬ (80 : Int32) = 50 by decide), if_neg (show ¬ (80 : Int32) = 60 by decide), if_neg (show ¬ (80 : Int32) = 61 by decide), if_neg (show ¬ (80 : Int32) = 70 by decide), if_pos rfl, nI_1, u0, p5, u1]
    · show xmb_167 (xr_act n) M K a x (nI k) = _
      unfold xmb_167 xm_172
      rw [t1, if_neg hA, if_pos c40, hb, if_pos (show (20 : Int32) ≤ 80 by decide), hB, if_neg (show ¬ (80 : Int32) = 20 by decide), if_neg (show ¬ (80 : Int32) = 30 by decide), if_neg (show ¬ (80 : Int32) = 40 by decide), if_neg (show ¬ (80 : Int32) = 41 by decide), if_neg (show ¬ (80 : Int32) = 50 by decide), if_neg (show ¬ (80 : Int32) = 60 by decide), if_neg (show ¬ (80 : Int32) = 61 by decide), if_neg (show ¬ (80 : Int32) = 70 by decide), if_pos rfl, nI_1, u0, p5, u1]
      show List.foldl xm_170 (List.foldl xm_170 (xm_170 M 80) l0) l1 = List.foldl xm_170 (xm_170 M 80) (l0 ++ l1)
      rw [List.foldl_append]
  · show xpb_167 (xr_act n) (xpr_act n) M K a x (nI k)
    unfold xpb_167 xp_172
    rw [t1, hb, hB]
    rw [nI_1, u0, p5]
    exact ⟨t2, fun y => absurd y hA, fun _ => ⟨fun _ => ⟨fun _ => ⟨⟨fun y => absurd y (by decide), fun _ => ⟨fun y => absurd y (by decide), fun _ => ⟨fun y => absurd y (by decide), fun _ => ⟨fun y => absurd y (by decide), fun _ => ⟨fun y => absurd y (by decide), fun _ => ⟨fun y => absurd y (by decide), fun _ => ⟨fun y => absurd y (by decide), fun _ => ⟨fun y => absurd y (by decide), fun _ => ⟨fun _ => ⟨w0, w1, trivial⟩, fun y => absurd rfl y⟩⟩⟩⟩⟩⟩⟩⟩⟩, trivial⟩, fun y => absurd (by decide) y⟩, fun y => absurd c40 y⟩⟩
theorem ac_r81 (hat : ac_At K a A) (hA : ¬ A < 0) (hb : ∀ M, xf_168 M A a = 81) {B : Int32} (hB : ∀ M, xf_169 M A = B) (hk : k < 40) {f0 : Int32 → Int32} {l0 : List Int32} (g0 : ac_Sp s sk n B 0 (k + 1) f0 l0) : ac_Sp s sk (n + 1) K a k (fun x => f0 x - 1) (81 :: l0) := by
  intro M x h4 h5
  have c40 : nI k < (40 : Int32) := nI_lt (b := 40) hk (by decide)
  obtain ⟨t1, t2⟩ := hat (xr_act n) (xpr_act n) M x (nI k)
  have m4 : (xm_170 M 81).2.1 59 4 = s := (ac_170 (by decide)).trans h4
  have m5 : (xm_170 M 81).2.1 59 5 = sk := (ac_170 (by decide)).trans h5
  obtain ⟨u0, w0⟩ := g0 (xm_170 M 81) (x) m4 m5
  refine ⟨?_, ?_⟩
  · show (xfb_167 (xr_act n) M K a x (nI k), xmb_167 (xr_act n) M K a x (nI k)) = _
    refine Prod.ext ?_ ?_
    · show xfb_167 (xr_act n) M K a x (nI k) = _
      unfold xfb_167 xf_172
      rw [t1, if_neg hA, if_pos c40, hb, if_pos (show (20 : Int32) ≤ 81 by decide), hB, if_neg (show ¬ (81 : Int32) = 20 by decide), if_neg (show ¬ (81 : Int32) = 30 by decide), if_neg (show ¬ (81 : Int32) = 40 by decide), if_neg (show ¬ (81 : Int32) = 41 by decide), if_neg (show ¬ (81 : Int32) = 50 by decide), if_neg (show ¬ (81 : Int32) = 60 by decide), if_neg (show ¬ (81 : Int32) = 61 by decide), if_neg (show ¬ (81 : Int32) = 70 by decide), if_neg (show ¬ (81 : Int32) = 80 by decide), if_pos rfl, nI_1, u0]
    · show xmb_167 (xr_act n) M K a x (nI k) = _
      unfold xmb_167 xm_172
      rw [t1, if_neg hA, if_pos c40, hb, if_pos (show (20 : Int32) ≤ 81 by decide), hB, if_neg (show ¬ (81 : Int32) = 20 by decide), if_neg (show ¬ (81 : Int32) = 30 by decide), if_neg (show ¬ (81 : Int32) = 40 by decide), if_neg (show ¬ (81 : Int32) = 41 by decide), if_neg (show ¬ (81 : Int32) = 50 by decide), if_neg (show ¬ (81 : Int32) = 60 by decide), if_neg (show ¬ (81 : Int32) = 61 by decide), if_neg (show ¬ (81 : Int32) = 70 by decide), if_neg (show ¬ (81 : Int32) = 80 by decide), if_pos rfl, nI_1, u0]
      rfl
  · show xpb_167 (xr_act n) (xpr_act n) M K a x (nI k)
    unfold xpb_167 xp_172
    rw [t1, hb, hB]
    rw [nI_1]
    exact ⟨t2, fun y => absurd y hA, fun _ => ⟨fun _ => ⟨fun _ => ⟨⟨fun y => absurd y (by decide), fun _ => ⟨fun y => absurd y (by decide), fun _ => ⟨fun y => absurd y (by decide), fun _ => ⟨fun y => absurd y (by decide), fun _ => ⟨fun y => absurd y (by decide), fun _ => ⟨fun y => absurd y (by decide), fun _ => ⟨fun y => absurd y (by decide), fun _ => ⟨fun y => absurd y (by decide), fun _ => ⟨fun y => absurd y (by decide), fun _ => ⟨fun _ => ⟨w0, trivial⟩, fun y => absurd rfl y⟩⟩⟩⟩⟩⟩⟩⟩⟩⟩, trivial⟩, fun y => absurd (by decide) y⟩, fun y => absurd c40 y⟩⟩
end AC
theorem ac_at_0_0 : ac_At 0 0 0 := by
  intro F P M v3 v4
  obtain ⟨m, hm⟩ := lp_9
  have b0 : xf_168 M 0 0 = 1 := by unfold xf_168; decide
  rw [hm]
  constructor
  · rw [xg_167_6, if_neg (by decide), if_neg (by decide), b0, if_neg (by decide)]
  · rw [xq_167_6, b0]
    exact ⟨fun y => absurd y (by decide), fun _ => ⟨fun y => absurd y (by decide), fun _ => ⟨fun y => absurd y (by decide), fun _ => trivial⟩⟩⟩
theorem ac_at_0_1 : ac_At 0 1 0 := by
  intro F P M v3 v4
  obtain ⟨m, hm⟩ := lp_9
  have b0 : xf_168 M 0 1 = 10 := by unfold xf_168; decide
  rw [hm]
  constructor
  · rw [xg_167_6, if_neg (by decide), if_neg (by decide), b0, if_neg (by decide)]
  · rw [xq_167_6, b0]
    exact ⟨fun y => absurd y (by decide), fun _ => ⟨fun y => absurd y (by decide), fun _ => ⟨fun y => absurd y (by decide), fun _ => trivial⟩⟩⟩
theorem ac_at_0_2 : ac_At 0 2 0 := by
  intro F P M v3 v4
  obtain ⟨m, hm⟩ := lp_9
  have b0 : xf_168 M 0 2 = 11 := by unfold xf_168; decide
  rw [hm]
  constructor
  · rw [xg_167_6, if_neg (by decide), if_neg (by decide), b0, if_neg (by decide)]
  · rw [xq_167_6, b0]
    exact ⟨fun y => absurd y (by decide), fun _ => ⟨fun y => absurd y (by decide), fun _ => ⟨fun y => absurd y (by decide), fun _ => trivial⟩⟩⟩
theorem ac_at_0_3 : ac_At 0 3 0 := by
  intro F P M v3 v4
  obtain ⟨m, hm⟩ := lp_9
  have b0 : xf_168 M 0 3 = 2 := by unfold xf_168; decide
  rw [hm]
  constructor
  · rw [xg_167_6, if_neg (by decide), if_neg (by decide), b0, if_neg (by decide)]
  · rw [xq_167_6, b0]
    exact ⟨fun y => absurd y (by decide), fun _ => ⟨fun y => absurd y (by decide), fun _ => ⟨fun y => absurd y (by decide), fun _ => trivial⟩⟩⟩
theorem ac_at_1_0 : ac_At 1 0 1 := by
  intro F P M v3 v4
  obtain ⟨m, hm⟩ := lp_9
  have b1 : xf_168 M 1 0 = 20 := by unfold xf_168; decide
  rw [hm]
  constructor
  · rw [xg_167_6, if_neg (by decide), if_neg (by decide), b1, if_neg (by decide)]
  · rw [xq_167_6, b1]
    exact ⟨fun y => absurd y (by decide), fun _ => ⟨fun y => absurd y (by decide), fun _ => ⟨fun y => absurd y (by decide), fun _ => trivial⟩⟩⟩
theorem ac_at_1_1 : ac_At 1 1 0 := by
  intro F P M v3 v4
  obtain ⟨m, hm⟩ := lp_9
  have b1 : xf_168 M 1 1 = 0 := by unfold xf_168; decide
  have u1 : xf_169 M 1 = 0 := by unfold xf_169; decide
  have b0 : xf_168 M 0 1 = 10 := by unfold xf_168; decide
  rw [hm]
  constructor
  · rw [xg_167_6, if_neg (by decide), if_neg (by decide), b1, if_pos rfl, u1, xg_167_6, if_neg (by decide), if_neg (by decide), b0, if_neg (by decide)]
  · rw [xq_167_6, b1, u1, xq_167_6, b0]
    exact ⟨fun y => absurd y (by decide), fun _ => ⟨fun y => absurd y (by decide), fun _ => ⟨fun _ => ⟨fun y => absurd y (by decide), fun _ => ⟨fun y => absurd y (by decide), fun _ => ⟨fun y => absurd y (by decide), fun _ => trivial⟩⟩⟩, fun y => absurd rfl y⟩⟩⟩
theorem ac_at_1_2 : ac_At 1 2 0 := by
  intro F P M v3 v4
  obtain ⟨m, hm⟩ := lp_9
  have b1 : xf_168 M 1 2 = 0 := by unfold xf_168; decide
  have u1 : xf_169 M 1 = 0 := by unfold xf_169; decide
  have b0 : xf_168 M 0 2 = 11 := by unfold xf_168; decide
  rw [hm]
  constructor
  · rw [xg_167_6, if_neg (by decide), if_neg (by decide), b1, if_pos rfl, u1, xg_167_6, if_neg (by decide), if_neg (by decide), b0, if_neg (by decide)]
  · rw [xq_167_6, b1, u1, xq_167_6, b0]
    exact ⟨fun y => absurd y (by decide), fun _ => ⟨fun y => absurd y (by decide), fun _ => ⟨fun _ => ⟨fun y => absurd y (by decide), fun _ => ⟨fun y => absurd y (by decide), fun _ => ⟨fun y => absurd y (by decide), fun _ => trivial⟩⟩⟩, fun y => absurd rfl y⟩⟩⟩
theorem ac_at_1_3 : ac_At 1 3 0 := by
  intro F P M v3 v4
  obtain ⟨m, hm⟩ := lp_9
  have b1 : xf_168 M 1 3 = 0 := by unfold xf_168; decide
  have u1 : xf_169 M 1 = 0 := by unfold xf_169; decide
  have b0 : xf_168 M 0 3 = 2 := by unfold xf_168; decide
  rw [hm]
  constructor
  · rw [xg_167_6, if_neg (by decide), if_neg (by decide), b1, if_pos rfl, u1, xg_167_6, if_neg (by decide), if_neg (by decide), b0, if_neg (by decide)]
  · rw [xq_167_6, b1, u1, xq_167_6, b0]
    exact ⟨fun y => absurd y (by decide), fun _ => ⟨fun y => absurd y (by decide), fun _ => ⟨fun _ => ⟨fun y => absurd y (by decide), fun _ => ⟨fun y => absurd y (by decide), fun _ => ⟨fun y => absurd y (by decide), fun _ => trivial⟩⟩⟩, fun y => absurd rfl y⟩⟩⟩
theorem ac_at_2_0 : ac_At 2 0 0 := by
  intro F P M v3 v4
  obtain ⟨m, hm⟩ := lp_9
  have b2 : xf_168 M 2 0 = 0 := by unfold xf_168; decide
  have u2 : xf_169 M 2 = 0 := by unfold xf_169; decide
  have b0 : xf_168 M 0 0 = 1 := by unfold xf_168; decide
  rw [hm]
  constructor
  · rw [xg_167_6, if_neg (by decide), if_neg (by decide), b2, if_pos rfl, u2, xg_167_6, if_neg (by decide), if_neg (by decide), b0, if_neg (by decide)]
  · rw [xq_167_6, b2, u2, xq_167_6, b0]
    exact ⟨fun y => absurd y (by decide), fun _ => ⟨fun y => absurd y (by decide), fun _ => ⟨fun _ => ⟨fun y => absurd y (by decide), fun _ => ⟨fun y => absurd y (by decide), fun _ => ⟨fun y => absurd y (by decide), fun _ => trivial⟩⟩⟩, fun y => absurd rfl y⟩⟩⟩
theorem ac_at_2_1 : ac_At 2 1 2 := by
  intro F P M v3 v4
  obtain ⟨m, hm⟩ := lp_9
  have b2 : xf_168 M 2 1 = 30 := by unfold xf_168; decide
  rw [hm]
  constructor
  · rw [xg_167_6, if_neg (by decide), if_neg (by decide), b2, if_neg (by decide)]
  · rw [xq_167_6, b2]
    exact ⟨fun y => absurd y (by decide), fun _ => ⟨fun y => absurd y (by decide), fun _ => ⟨fun y => absurd y (by decide), fun _ => trivial⟩⟩⟩
theorem ac_at_2_2 : ac_At 2 2 0 := by
  intro F P M v3 v4
  obtain ⟨m, hm⟩ := lp_9
  have b2 : xf_168 M 2 2 = 0 := by unfold xf_168; decide
  have u2 : xf_169 M 2 = 0 := by unfold xf_169; decide
  have b0 : xf_168 M 0 2 = 11 := by unfold xf_168; decide
  rw [hm]
  constructor
  · rw [xg_167_6, if_neg (by decide), if_neg (by decide), b2, if_pos rfl, u2, xg_167_6, if_neg (by decide), if_neg (by decide), b0, if_neg (by decide)]
  · rw [xq_167_6, b2, u2, xq_167_6, b0]
    exact ⟨fun y => absurd y (by decide), fun _ => ⟨fun y => absurd y (by decide), fun _ => ⟨fun _ => ⟨fun y => absurd y (by decide), fun _ => ⟨fun y => absurd y (by decide), fun _ => ⟨fun y => absurd y (by decide), fun _ => trivial⟩⟩⟩, fun y => absurd rfl y⟩⟩⟩
theorem ac_at_2_3 : ac_At 2 3 0 := by
  intro F P M v3 v4
  obtain ⟨m, hm⟩ := lp_9
  have b2 : xf_168 M 2 3 = 0 := by unfold xf_168; decide
  have u2 : xf_169 M 2 = 0 := by unfold xf_169; decide
  have b0 : xf_168 M 0 3 = 2 := by unfold xf_168; decide
  rw [hm]
  constructor
  · rw [xg_167_6, if_neg (by decide), if_neg (by decide), b2, if_pos rfl, u2, xg_167_6, if_neg (by decide), if_neg (by decide), b0, if_neg (by decide)]
  · rw [xq_167_6, b2, u2, xq_167_6, b0]
    exact ⟨fun y => absurd y (by decide), fun _ => ⟨fun y => absurd y (by decide), fun _ => ⟨fun _ => ⟨fun y => absurd y (by decide), fun _ => ⟨fun y => absurd y (by decide), fun _ => ⟨fun y => absurd y (by decide), fun _ => trivial⟩⟩⟩, fun y => absurd rfl y⟩⟩⟩
theorem ac_at_3_0 : ac_At 3 0 0 := by
  intro F P M v3 v4
  obtain ⟨m, hm⟩ := lp_9
  have b3 : xf_168 M 3 0 = 0 := by unfold xf_168; decide
  have u3 : xf_169 M 3 = 2 := by unfold xf_169; decide
  have b2 : xf_168 M 2 0 = 0 := by unfold xf_168; decide
  have u2 : xf_169 M 2 = 0 := by unfold xf_169; decide
  have b0 : xf_168 M 0 0 = 1 := by unfold xf_168; decide
  rw [hm]
  constructor
  · rw [xg_167_6, if_neg (by decide), if_neg (by decide), b3, if_pos rfl, u3, xg_167_6, if_neg (by decide), if_neg (by decide), b2, if_pos rfl, u2, xg_167_6, if_neg (by decide), if_neg (by decide), b0, if_neg (by decide)]
  · rw [xq_167_6, b3, u3, xq_167_6, b2, u2, xq_167_6, b0]
    exact ⟨fun y => absurd y (by decide), fun _ => ⟨fun y => absurd y (by decide), fun _ => ⟨fun _ => ⟨fun y => absurd y (by decide), fun _ => ⟨fun y => absurd y (by decide), fun _ => ⟨fun _ => ⟨fun y => absurd y (by decide), fun _ => ⟨fun y => absurd y (by decide), fun _ => ⟨fun y => absurd y (by decide), fun _ => trivial⟩⟩⟩, fun y => absurd rfl y⟩⟩⟩, fun y => absurd rfl y⟩⟩⟩
theorem ac_at_3_1 : ac_At 3 1 3 := by
  intro F P M v3 v4
  obtain ⟨m, hm⟩ := lp_9
  have b3 : xf_168 M 3 1 = 41 := by unfold xf_168; decide
  rw [hm]
  constructor
  · rw [xg_167_6, if_neg (by decide), if_neg (by decide), b3, if_neg (by decide)]
  · rw [xq_167_6, b3]
    exact ⟨fun y => absurd y (by decide), fun _ => ⟨fun y => absurd y (by decide), fun _ => ⟨fun y => absurd y (by decide), fun _ => trivial⟩⟩⟩
theorem ac_at_3_2 : ac_At 3 2 3 := by
  intro F P M v3 v4
  obtain ⟨m, hm⟩ := lp_9
  have b3 : xf_168 M 3 2 = 40 := by unfold xf_168; decide
  rw [hm]
  constructor
  · rw [xg_167_6, if_neg (by decide), if_neg (by decide), b3, if_neg (by decide)]
  · rw [xq_167_6, b3]
    exact ⟨fun y => absurd y (by decide), fun _ => ⟨fun y => absurd y (by decide), fun _ => ⟨fun y => absurd y (by decide), fun _ => trivial⟩⟩⟩
theorem ac_at_3_3 : ac_At 3 3 0 := by
  intro F P M v3 v4
  obtain ⟨m, hm⟩ := lp_9
  have b3 : xf_168 M 3 3 = 0 := by unfold xf_168; decide
  have u3 : xf_169 M 3 = 2 := by unfold xf_169; decide
  have b2 : xf_168 M 2 3 = 0 := by unfold xf_168; decide
  have u2 : xf_169 M 2 = 0 := by unfold xf_169; decide
  have b0 : xf_168 M 0 3 = 2 := by unfold xf_168; decide
  rw [hm]
  constructor
  · rw [xg_167_6, if_neg (by decide), if_neg (by decide), b3, if_pos rfl, u3, xg_167_6, if_neg (by decide), if_neg (by decide), b2, if_pos rfl, u2, xg_167_6, if_neg (by decide), if_neg (by decide), b0, if_neg (by decide)]
  · rw [xq_167_6, b3, u3, xq_167_6, b2, u2, xq_167_6, b0]
    exact ⟨fun y => absurd y (by decide), fun _ => ⟨fun y => absurd y (by decide), fun _ => ⟨fun _ => ⟨fun y => absurd y (by decide), fun _ => ⟨fun y => absurd y (by decide), fun _ => ⟨fun _ => ⟨fun y => absurd y (by decide), fun _ => ⟨fun y => absurd y (by decide), fun _ => ⟨fun y => absurd y (by decide), fun _ => trivial⟩⟩⟩, fun y => absurd rfl y⟩⟩⟩, fun y => absurd rfl y⟩⟩⟩
theorem ac_at_4_0 : ac_At 4 0 1 := by
  intro F P M v3 v4
  obtain ⟨m, hm⟩ := lp_9
  have b4 : xf_168 M 4 0 = 0 := by unfold xf_168; decide
  have u4 : xf_169 M 4 = 1 := by unfold xf_169; decide
  have b1 : xf_168 M 1 0 = 20 := by unfold xf_168; decide
  rw [hm]
  constructor
  · rw [xg_167_6, if_neg (by decide), if_neg (by decide), b4, if_pos rfl, u4, xg_167_6, if_neg (by decide), if_neg (by decide), b1, if_neg (by decide)]
  · rw [xq_167_6, b4, u4, xq_167_6, b1]
    exact ⟨fun y => absurd y (by decide), fun _ => ⟨fun y => absurd y (by decide), fun _ => ⟨fun _ => ⟨fun y => absurd y (by decide), fun _ => ⟨fun y => absurd y (by decide), fun _ => ⟨fun y => absurd y (by decide), fun _ => trivial⟩⟩⟩, fun y => absurd rfl y⟩⟩⟩
theorem ac_at_4_1 : ac_At 4 1 0 := by
  intro F P M v3 v4
  obtain ⟨m, hm⟩ := lp_9
  have b4 : xf_168 M 4 1 = 0 := by unfold xf_168; decide
  have u4 : xf_169 M 4 = 1 := by unfold xf_169; decide
  have b1 : xf_168 M 1 1 = 0 := by unfold xf_168; decide
  have u1 : xf_169 M 1 = 0 := by unfold xf_169; decide
  have b0 : xf_168 M 0 1 = 10 := by unfold xf_168; decide
  rw [hm]
  constructor
  · rw [xg_167_6, if_neg (by decide), if_neg (by decide), b4, if_pos rfl, u4, xg_167_6, if_neg (by decide), if_neg (by decide), b1, if_pos rfl, u1, xg_167_6, if_neg (by decide), if_neg (by decide), b0, if_neg (by decide)]
  · rw [xq_167_6, b4, u4, xq_167_6, b1, u1, xq_167_6, b0]
    exact ⟨fun y => absurd y (by decide), fun _ => ⟨fun y => absurd y (by decide), fun _ => ⟨fun _ => ⟨fun y => absurd y (by decide), fun _ => ⟨fun y => absurd y (by decide), fun _ => ⟨fun _ => ⟨fun y => absurd y (by decide), fun _ => ⟨fun y => absurd y (by decide), fun _ => ⟨fun y => absurd y (by decide), fun _ => trivial⟩⟩⟩, fun y => absurd rfl y⟩⟩⟩, fun y => absurd rfl y⟩⟩⟩
theorem ac_at_4_2 : ac_At 4 2 0 := by
  intro F P M v3 v4
  obtain ⟨m, hm⟩ := lp_9
  have b4 : xf_168 M 4 2 = 0 := by unfold xf_168; decide
  have u4 : xf_169 M 4 = 1 := by unfold xf_169; decide
  have b1 : xf_168 M 1 2 = 0 := by unfold xf_168; decide
  have u1 : xf_169 M 1 = 0 := by unfold xf_169; decide
  have b0 : xf_168 M 0 2 = 11 := by unfold xf_168; decide
  rw [hm]
  constructor
  · rw [xg_167_6, if_neg (by decide), if_neg (by decide), b4, if_pos rfl, u4, xg_167_6, if_neg (by decide), if_neg (by decide), b1, if_pos rfl, u1, xg_167_6, if_neg (by decide), if_neg (by decide), b0, if_neg (by decide)]
  · rw [xq_167_6, b4, u4, xq_167_6, b1, u1, xq_167_6, b0]
    exact ⟨fun y => absurd y (by decide), fun _ => ⟨fun y => absurd y (by decide), fun _ => ⟨fun _ => ⟨fun y => absurd y (by decide), fun _ => ⟨fun y => absurd y (by decide), fun _ => ⟨fun _ => ⟨fun y => absurd y (by decide), fun _ => ⟨fun y => absurd y (by decide), fun _ => ⟨fun y => absurd y (by decide), fun _ => trivial⟩⟩⟩, fun y => absurd rfl y⟩⟩⟩, fun y => absurd rfl y⟩⟩⟩
theorem ac_at_4_3 : ac_At 4 3 4 := by
  intro F P M v3 v4
  obtain ⟨m, hm⟩ := lp_9
  have b4 : xf_168 M 4 3 = 50 := by unfold xf_168; decide
  rw [hm]
  constructor
  · rw [xg_167_6, if_neg (by decide), if_neg (by decide), b4, if_neg (by decide)]
  · rw [xq_167_6, b4]
    exact ⟨fun y => absurd y (by decide), fun _ => ⟨fun y => absurd y (by decide), fun _ => ⟨fun y => absurd y (by decide), fun _ => trivial⟩⟩⟩
theorem ac_at_5_0 : ac_At 5 0 0 := by
  intro F P M v3 v4
  obtain ⟨m, hm⟩ := lp_9
  have b5 : xf_168 M 5 0 = 0 := by unfold xf_168; decide
  have u5 : xf_169 M 5 = 3 := by unfold xf_169; decide
  have b3 : xf_168 M 3 0 = 0 := by unfold xf_168; decide
  have u3 : xf_169 M 3 = 2 := by unfold xf_169; decide
  have b2 : xf_168 M 2 0 = 0 := by unfold xf_168; decide
  have u2 : xf_169 M 2 = 0 := by unfold xf_169; decide
  have b0 : xf_168 M 0 0 = 1 := by unfold xf_168; decide
  rw [hm]
  constructor
  · rw [xg_167_6, if_neg (by decide), if_neg (by decide), b5, if_pos rfl, u5, xg_167_6, if_neg (by decide), if_neg (by decide), b3, if_pos rfl, u3, xg_167_6, if_neg (by decide), if_neg (by decide), b2, if_pos rfl, u2, xg_167_6, if_neg (by decide), if_neg (by decide), b0, if_neg (by decide)]
  · rw [xq_167_6, b5, u5, xq_167_6, b3, u3, xq_167_6, b2, u2, xq_167_6, b0]
    exact ⟨fun y => absurd y (by decide), fun _ => ⟨fun y => absurd y (by decide), fun _ => ⟨fun _ => ⟨fun y => absurd y (by decide), fun _ => ⟨fun y => absurd y (by decide), fun _ => ⟨fun _ => ⟨fun y => absurd y (by decide), fun _ => ⟨fun y => absurd y (by decide), fun _ => ⟨fun _ => ⟨fun y => absurd y (by decide), fun _ => ⟨fun y => absurd y (by decide), fun _ => ⟨fun y => absurd y (by decide), fun _ => trivial⟩⟩⟩, fun y => absurd rfl y⟩⟩⟩, fun y => absurd rfl y⟩⟩⟩, fun y => absurd rfl y⟩⟩⟩
theorem ac_at_5_1 : ac_At 5 1 3 := by
  intro F P M v3 v4
  obtain ⟨m, hm⟩ := lp_9
  have b5 : xf_168 M 5 1 = 0 := by unfold xf_168; decide
  have u5 : xf_169 M 5 = 3 := by unfold xf_169; decide
  have b3 : xf_168 M 3 1 = 41 := by unfold xf_168; decide
  rw [hm]
  constructor
  · rw [xg_167_6, if_neg (by decide), if_neg (by decide), b5, if_pos rfl, u5, xg_167_6, if_neg (by decide), if_neg (by decide), b3, if_neg (by decide)]
  · rw [xq_167_6, b5, u5, xq_167_6, b3]
    exact ⟨fun y => absurd y (by decide), fun _ => ⟨fun y => absurd y (by decide), fun _ => ⟨fun _ => ⟨fun y => absurd y (by decide), fun _ => ⟨fun y => absurd y (by decide), fun _ => ⟨fun y => absurd y (by decide), fun _ => trivial⟩⟩⟩, fun y => absurd rfl y⟩⟩⟩
theorem ac_at_5_2 : ac_At 5 2 5 := by
  intro F P M v3 v4
  obtain ⟨m, hm⟩ := lp_9
  have b5 : xf_168 M 5 2 = 60 := by unfold xf_168; decide
  rw [hm]
  constructor
  · rw [xg_167_6, if_neg (by decide), if_neg (by decide), b5, if_neg (by decide)]
  · rw [xq_167_6, b5]
    exact ⟨fun y => absurd y (by decide), fun _ => ⟨fun y => absurd y (by decide), fun _ => ⟨fun y => absurd y (by decide), fun _ => trivial⟩⟩⟩
theorem ac_at_5_3 : ac_At 5 3 5 := by
  intro F P M v3 v4
  obtain ⟨m, hm⟩ := lp_9
  have b5 : xf_168 M 5 3 = 61 := by unfold xf_168; decide
  rw [hm]
  constructor
  · rw [xg_167_6, if_neg (by decide), if_neg (by decide), b5, if_neg (by decide)]
  · rw [xq_167_6, b5]
    exact ⟨fun y => absurd y (by decide), fun _ => ⟨fun y => absurd y (by decide), fun _ => ⟨fun y => absurd y (by decide), fun _ => trivial⟩⟩⟩
theorem ac_at_6_0 : ac_At 6 0 6 := by
  intro F P M v3 v4
  obtain ⟨m, hm⟩ := lp_9
  have b6 : xf_168 M 6 0 = 70 := by unfold xf_168; decide
  rw [hm]
  constructor
  · rw [xg_167_6, if_neg (by decide), if_neg (by decide), b6, if_neg (by decide)]
  · rw [xq_167_6, b6]
    exact ⟨fun y => absurd y (by decide), fun _ => ⟨fun y => absurd y (by decide), fun _ => ⟨fun y => absurd y (by decide), fun _ => trivial⟩⟩⟩
theorem ac_at_6_1 : ac_At 6 1 0 := by
  intro F P M v3 v4
  obtain ⟨m, hm⟩ := lp_9
  have b6 : xf_168 M 6 1 = 0 := by unfold xf_168; decide
  have u6 : xf_169 M 6 = 0 := by unfold xf_169; decide
  have b0 : xf_168 M 0 1 = 10 := by unfold xf_168; decide
  rw [hm]
  constructor
  · rw [xg_167_6, if_neg (by decide), if_neg (by decide), b6, if_pos rfl, u6, xg_167_6, if_neg (by decide), if_neg (by decide), b0, if_neg (by decide)]
  · rw [xq_167_6, b6, u6, xq_167_6, b0]
    exact ⟨fun y => absurd y (by decide), fun _ => ⟨fun y => absurd y (by decide), fun _ => ⟨fun _ => ⟨fun y => absurd y (by decide), fun _ => ⟨fun y => absurd y (by decide), fun _ => ⟨fun y => absurd y (by decide), fun _ => trivial⟩⟩⟩, fun y => absurd rfl y⟩⟩⟩
theorem ac_at_6_2 : ac_At 6 2 0 := by
  intro F P M v3 v4
  obtain ⟨m, hm⟩ := lp_9
  have b6 : xf_168 M 6 2 = 0 := by unfold xf_168; decide
  have u6 : xf_169 M 6 = 0 := by unfold xf_169; decide
  have b0 : xf_168 M 0 2 = 11 := by unfold xf_168; decide
  rw [hm]
  constructor
  · rw [xg_167_6, if_neg (by decide), if_neg (by decide), b6, if_pos rfl, u6, xg_167_6, if_neg (by decide), if_neg (by decide), b0, if_neg (by decide)]
  · rw [xq_167_6, b6, u6, xq_167_6, b0]
    exact ⟨fun y => absurd y (by decide), fun _ => ⟨fun y => absurd y (by decide), fun _ => ⟨fun _ => ⟨fun y => absurd y (by decide), fun _ => ⟨fun y => absurd y (by decide), fun _ => ⟨fun y => absurd y (by decide), fun _ => trivial⟩⟩⟩, fun y => absurd rfl y⟩⟩⟩
theorem ac_at_6_3 : ac_At 6 3 0 := by
  intro F P M v3 v4
  obtain ⟨m, hm⟩ := lp_9
  have b6 : xf_168 M 6 3 = 0 := by unfold xf_168; decide
  have u6 : xf_169 M 6 = 0 := by unfold xf_169; decide
  have b0 : xf_168 M 0 3 = 2 := by unfold xf_168; decide
  rw [hm]
  constructor
  · rw [xg_167_6, if_neg (by decide), if_neg (by decide), b6, if_pos rfl, u6, xg_167_6, if_neg (by decide), if_neg (by decide), b0, if_neg (by decide)]
  · rw [xq_167_6, b6, u6, xq_167_6, b0]
    exact ⟨fun y => absurd y (by decide), fun _ => ⟨fun y => absurd y (by decide), fun _ => ⟨fun _ => ⟨fun y => absurd y (by decide), fun _ => ⟨fun y => absurd y (by decide), fun _ => ⟨fun y => absurd y (by decide), fun _ => trivial⟩⟩⟩, fun y => absurd rfl y⟩⟩⟩
theorem ac_at_7_0 : ac_At 7 0 7 := by
  intro F P M v3 v4
  obtain ⟨m, hm⟩ := lp_9
  have b7 : xf_168 M 7 0 = 81 := by unfold xf_168; decide
  rw [hm]
  constructor
  · rw [xg_167_6, if_neg (by decide), if_neg (by decide), b7, if_neg (by decide)]
  · rw [xq_167_6, b7]
    exact ⟨fun y => absurd y (by decide), fun _ => ⟨fun y => absurd y (by decide), fun _ => ⟨fun y => absurd y (by decide), fun _ => trivial⟩⟩⟩
theorem ac_at_7_1 : ac_At 7 1 7 := by
  intro F P M v3 v4
  obtain ⟨m, hm⟩ := lp_9
  have b7 : xf_168 M 7 1 = 80 := by unfold xf_168; decide
  rw [hm]
  constructor
  · rw [xg_167_6, if_neg (by decide), if_neg (by decide), b7, if_neg (by decide)]
  · rw [xq_167_6, b7]
    exact ⟨fun y => absurd y (by decide), fun _ => ⟨fun y => absurd y (by decide), fun _ => ⟨fun y => absurd y (by decide), fun _ => trivial⟩⟩⟩
theorem ac_at_7_2 : ac_At 7 2 0 := by
  intro F P M v3 v4
  obtain ⟨m, hm⟩ := lp_9
  have b7 : xf_168 M 7 2 = 0 := by unfold xf_168; decide
  have u7 : xf_169 M 7 = 6 := by unfold xf_169; decide
  have b6 : xf_168 M 6 2 = 0 := by unfold xf_168; decide
  have u6 : xf_169 M 6 = 0 := by unfold xf_169; decide
  have b0 : xf_168 M 0 2 = 11 := by unfold xf_168; decide
  rw [hm]
  constructor
  · rw [xg_167_6, if_neg (by decide), if_neg (by decide), b7, if_pos rfl, u7, xg_167_6, if_neg (by decide), if_neg (by decide), b6, if_pos rfl, u6, xg_167_6, if_neg (by decide), if_neg (by decide), b0, if_neg (by decide)]
  · rw [xq_167_6, b7, u7, xq_167_6, b6, u6, xq_167_6, b0]
    exact ⟨fun y => absurd y (by decide), fun _ => ⟨fun y => absurd y (by decide), fun _ => ⟨fun _ => ⟨fun y => absurd y (by decide), fun _ => ⟨fun y => absurd y (by decide), fun _ => ⟨fun _ => ⟨fun y => absurd y (by decide), fun _ => ⟨fun y => absurd y (by decide), fun _ => ⟨fun y => absurd y (by decide), fun _ => trivial⟩⟩⟩, fun y => absurd rfl y⟩⟩⟩, fun y => absurd rfl y⟩⟩⟩
theorem ac_at_7_3 : ac_At 7 3 0 := by
  intro F P M v3 v4
  obtain ⟨m, hm⟩ := lp_9
  have b7 : xf_168 M 7 3 = 0 := by unfold xf_168; decide
  have u7 : xf_169 M 7 = 6 := by unfold xf_169; decide
  have b6 : xf_168 M 6 3 = 0 := by unfold xf_168; decide
  have u6 : xf_169 M 6 = 0 := by unfold xf_169; decide
  have b0 : xf_168 M 0 3 = 2 := by unfold xf_168; decide
  rw [hm]
  constructor
  · rw [xg_167_6, if_neg (by decide), if_neg (by decide), b7, if_pos rfl, u7, xg_167_6, if_neg (by decide), if_neg (by decide), b6, if_pos rfl, u6, xg_167_6, if_neg (by decide), if_neg (by decide), b0, if_neg (by decide)]
  · rw [xq_167_6, b7, u7, xq_167_6, b6, u6, xq_167_6, b0]
    exact ⟨fun y => absurd y (by decide), fun _ => ⟨fun y => absurd y (by decide), fun _ => ⟨fun _ => ⟨fun y => absurd y (by decide), fun _ => ⟨fun y => absurd y (by decide), fun _ => ⟨fun _ => ⟨fun y => absurd y (by decide), fun _ => ⟨fun y => absurd y (by decide), fun _ => ⟨fun y => absurd y (by decide), fun _ => trivial⟩⟩⟩, fun y => absurd rfl y⟩⟩⟩, fun y => absurd rfl y⟩⟩⟩
-- each kind, each act (deepest: 6)
theorem ac_c_0_0 {s : Int32} {n : Nat} : ac_Sp s 0 (n + 12) 0 0 0 (fun x => (x + s)) [1] := (ac_r1 ac_at_0_0 (by decide) (fun M => by unfold xf_168; decide) (by decide))
theorem ac_c_0_1 {s : Int32} {n : Nat} : ac_Sp s 0 (n + 12) 0 1 0 (fun x => ((x + s) * 2)) [10, 1] := (ac_r10 ac_at_0_1 (by decide) (fun M => by unfold xf_168; decide) (by decide) (ac_r1 ac_at_0_0 (by decide) (fun M => by unfold xf_168; decide) (by decide)))
theorem ac_c_0_2 {s : Int32} {n : Nat} : ac_Sp s 0 (n + 12) 0 2 0 (fun x => (x ^^^ s)) [11] := (ac_r11 ac_at_0_2 (by decide) (fun M => by unfold xf_168; decide) (by decide))
theorem ac_c_0_3 {s : Int32} {n : Nat} : ac_Sp s 0 (n + 12) 0 3 0 (fun x => (((x + s) * 2) - (1 ^^^ s))) [2, 10, 1, 11] := (ac_r2 ac_at_0_3 (by decide) (fun M => by unfold xf_168; decide) (by decide) (ac_r10 ac_at_0_1 (by decide) (fun M => by unfold xf_168; decide) (by decide) (ac_r1 ac_at_0_0 (by decide) (fun M => by unfold xf_168; decide) (by decide))) (ac_r11 ac_at_0_2 (by decide) (fun M => by unfold xf_168; decide) (by decide)))
theorem ac_c_1_0 {s : Int32} {n : Nat} : ac_Sp s 1 (n + 12) 1 0 0 (fun x => ((x + s) + 3)) [20, 1] := (ac_r20 ac_at_1_0 (by decide) (fun M => by unfold xf_168; decide) (fun M => by unfold xf_169; decide) (by decide) (ac_r1 ac_at_0_0 (by decide) (fun M => by unfold xf_168; decide) (by decide)))
theorem ac_c_1_1 {s : Int32} {n : Nat} : ac_Sp s 1 (n + 12) 1 1 0 (fun x => (((x + s) + 3) * 2)) [10, 20, 1] := (ac_r10 ac_at_1_1 (by decide) (fun M => by unfold xf_168; decide) (by decide) (ac_r20 ac_at_1_0 (by decide) (fun M => by unfold xf_168; decide) (fun M => by unfold xf_169; decide) (by decide) (ac_r1 ac_at_0_0 (by decide) (fun M => by unfold xf_168; decide) (by decide))))
theorem ac_c_1_2 {s : Int32} {n : Nat} : ac_Sp s 1 (n + 12) 1 2 0 (fun x => (x ^^^ s)) [11] := (ac_r11 ac_at_1_2 (by decide) (fun M => by unfold xf_168; decide) (by decide))
theorem ac_c_1_3 {s : Int32} {n : Nat} : ac_Sp s 1 (n + 12) 1 3 0 (fun x => ((((x + s) + 3) * 2) - (1 ^^^ s))) [2, 10, 20, 1, 11] := (ac_r2 ac_at_1_3 (by decide) (fun M => by unfold xf_168; decide) (by decide) (ac_r10 ac_at_1_1 (by decide) (fun M => by unfold xf_168; decide) (by decide) (ac_r20 ac_at_1_0 (by decide) (fun M => by unfold xf_168; decide) (fun M => by unfold xf_169; decide) (by decide) (ac_r1 ac_at_0_0 (by decide) (fun M => by unfold xf_168; decide) (by decide)))) (ac_r11 ac_at_1_2 (by decide) (fun M => by unfold xf_168; decide) (by decide)))
theorem ac_c_2_0 {s : Int32} {n : Nat} : ac_Sp s 2 (n + 12) 2 0 0 (fun x => (x + s)) [1] := (ac_r1 ac_at_2_0 (by decide) (fun M => by unfold xf_168; decide) (by decide))
theorem ac_c_2_1 {s : Int32} {n : Nat} : ac_Sp s 2 (n + 12) 2 1 0 (fun x => (-((x + s) * 2))) [30, 10, 1] := (ac_r30 ac_at_2_1 (by decide) (fun M => by unfold xf_168; decide) (fun M => by unfold xf_169; decide) (by decide) (ac_r10 ac_at_0_1 (by decide) (fun M => by unfold xf_168; decide) (by decide) (ac_r1 ac_at_2_0 (by decide) (fun M => by unfold xf_168; decide) (by decide))))
theorem ac_c_2_2 {s : Int32} {n : Nat} : ac_Sp s 2 (n + 12) 2 2 0 (fun x => (x ^^^ s)) [11] := (ac_r11 ac_at_2_2 (by decide) (fun M => by unfold xf_168; decide) (by decide))
theorem ac_c_2_3 {s : Int32} {n : Nat} : ac_Sp s 2 (n + 12) 2 3 0 (fun x => ((-((x + s) * 2)) - (1 ^^^ s))) [2, 30, 10, 1, 11] := (ac_r2 ac_at_2_3 (by decide) (fun M => by unfold xf_168; decide) (by decide) (ac_r30 ac_at_2_1 (by decide) (fun M => by unfold xf_168; decide) (fun M => by unfold xf_169; decide) (by decide) (ac_r10 ac_at_0_1 (by decide) (fun M => by unfold xf_168; decide) (by decide) (ac_r1 ac_at_2_0 (by decide) (fun M => by unfold xf_168; decide) (by decide)))) (ac_r11 ac_at_2_2 (by decide) (fun M => by unfold xf_168; decide) (by decide)))
theorem ac_c_3_0 {s : Int32} {n : Nat} : ac_Sp s 3 (n + 12) 3 0 0 (fun x => (x + s)) [1] := (ac_r1 ac_at_3_0 (by decide) (fun M => by unfold xf_168; decide) (by decide))
theorem ac_c_3_1 {s : Int32} {n : Nat} : ac_Sp s 3 (n + 12) 3 1 0 (fun x => (-(((x + 1) + s) * 2))) [41, 30, 10, 1] := (ac_r41 ac_at_3_1 (by decide) (fun M => by unfold xf_168; decide) (fun M => by unfold xf_169; decide) (by decide) (ac_r30 ac_at_2_1 (by decide) (fun M => by unfold xf_168; decide) (fun M => by unfold xf_169; decide) (by decide) (ac_r10 ac_at_0_1 (by decide) (fun M => by unfold xf_168; decide) (by decide) (ac_r1 ac_at_3_0 (by decide) (fun M => by unfold xf_168; decide) (by decide)))))
theorem ac_c_3_2 {s : Int32} {n : Nat} : ac_Sp s 3 (n + 12) 3 2 0 (fun x => ((x ^^^ s) * 3)) [40, 11] := (ac_r40 ac_at_3_2 (by decide) (fun M => by unfold xf_168; decide) (fun M => by unfold xf_169; decide) (by decide) (ac_r11 ac_at_2_2 (by decide) (fun M => by unfold xf_168; decide) (by decide)))
theorem ac_c_3_3 {s : Int32} {n : Nat} : ac_Sp s 3 (n + 12) 3 3 0 (fun x => ((-(((x + 1) + s) * 2)) - ((1 ^^^ s) * 3))) [2, 41, 30, 10, 1, 40, 11] := (ac_r2 ac_at_3_3 (by decide) (fun M => by unfold xf_168; decide) (by decide) (ac_r41 ac_at_3_1 (by decide) (fun M => by unfold xf_168; decide) (fun M => by unfold xf_169; decide) (by decide) (ac_r30 ac_at_2_1 (by decide) (fun M => by unfold xf_168; decide) (fun M => by unfold xf_169; decide) (by decide) (ac_r10 ac_at_0_1 (by decide) (fun M => by unfold xf_168; decide) (by decide) (ac_r1 ac_at_3_0 (by decide) (fun M => by unfold xf_168; decide) (by decide))))) (ac_r40 ac_at_3_2 (by decide) (fun M => by unfold xf_168; decide) (fun M => by unfold xf_169; decide) (by decide) (ac_r11 ac_at_2_2 (by decide) (fun M => by unfold xf_168; decide) (by decide))))
theorem ac_c_4_0 {s : Int32} {n : Nat} : ac_Sp s 4 (n + 12) 4 0 0 (fun x => ((x + s) + 3)) [20, 1] := (ac_r20 ac_at_4_0 (by decide) (fun M => by unfold xf_168; decide) (fun M => by unfold xf_169; decide) (by decide) (ac_r1 ac_at_0_0 (by decide) (fun M => by unfold xf_168; decide) (by decide)))
theorem ac_c_4_1 {s : Int32} {n : Nat} : ac_Sp s 4 (n + 12) 4 1 0 (fun x => (((x + s) + 3) * 2)) [10, 20, 1] := (ac_r10 ac_at_4_1 (by decide) (fun M => by unfold xf_168; decide) (by decide) (ac_r20 ac_at_4_0 (by decide) (fun M => by unfold xf_168; decide) (fun M => by unfold xf_169; decide) (by decide) (ac_r1 ac_at_0_0 (by decide) (fun M => by unfold xf_168; decide) (by decide))))
theorem ac_c_4_2 {s : Int32} {n : Nat} : ac_Sp s 4 (n + 12) 4 2 0 (fun x => (x ^^^ s)) [11] := (ac_r11 ac_at_4_2 (by decide) (fun M => by unfold xf_168; decide) (by decide))
theorem ac_c_4_3 {s : Int32} {n : Nat} : ac_Sp s 4 (n + 12) 4 3 0 (fun x => (((((x + s) + 3) * 2) - (1 ^^^ s)) ^^^ 5)) [50, 2, 10, 20, 1, 11] := (ac_r50 ac_at_4_3 (by decide) (fun M => by unfold xf_168; decide) (fun M => by unfold xf_169; decide) (by decide) (ac_r2 ac_at_1_3 (by decide) (fun M => by unfold xf_168; decide) (by decide) (ac_r10 ac_at_4_1 (by decide) (fun M => by unfold xf_168; decide) (by decide) (ac_r20 ac_at_4_0 (by decide) (fun M => by unfold xf_168; decide) (fun M => by unfold xf_169; decide) (by decide) (ac_r1 ac_at_0_0 (by decide) (fun M => by unfold xf_168; decide) (by decide)))) (ac_r11 ac_at_4_2 (by decide) (fun M => by unfold xf_168; decide) (by decide))))
theorem ac_c_5_0 {s : Int32} {n : Nat} : ac_Sp s 5 (n + 12) 5 0 0 (fun x => (x + s)) [1] := (ac_r1 ac_at_5_0 (by decide) (fun M => by unfold xf_168; decide) (by decide))
theorem ac_c_5_1 {s : Int32} {n : Nat} : ac_Sp s 5 (n + 12) 5 1 0 (fun x => (-(((x + 1) + s) * 2))) [41, 30, 10, 1] := (ac_r41 ac_at_5_1 (by decide) (fun M => by unfold xf_168; decide) (fun M => by unfold xf_169; decide) (by decide) (ac_r30 ac_at_2_1 (by decide) (fun M => by unfold xf_168; decide) (fun M => by unfold xf_169; decide) (by decide) (ac_r10 ac_at_0_1 (by decide) (fun M => by unfold xf_168; decide) (by decide) (ac_r1 ac_at_5_0 (by decide) (fun M => by unfold xf_168; decide) (by decide)))))
theorem ac_c_5_2 {s : Int32} {n : Nat} : ac_Sp s 5 (n + 12) 5 2 0 (fun x => (((x ^^^ s) * 3) - (2 + s))) [60, 40, 11, 1] := (ac_r60 ac_at_5_2 (by decide) (fun M => by unfold xf_168; decide) (fun M => by unfold xf_169; decide) (by decide) (ac_r40 ac_at_3_2 (by decide) (fun M => by unfold xf_168; decide) (fun M => by unfold xf_169; decide) (by decide) (ac_r11 ac_at_2_2 (by decide) (fun M => by unfold xf_168; decide) (by decide))) (ac_r1 ac_at_5_0 (by decide) (fun M => by unfold xf_168; decide) (by decide)))
theorem ac_c_5_3 {s : Int32} {n : Nat} : ac_Sp s 5 (n + 12) 5 3 0 (fun x => (((-(((x + 1) + s) * 2)) - (((1 ^^^ s) * 3) - (2 + s))) + 1)) [61, 2, 41, 30, 10, 1, 60, 40, 11, 1] := (ac_r61 ac_at_5_3 (by decide) (fun M => by unfold xf_168; decide) (fun M => by unfold xf_169; decide) (by decide) (ac_r2 ac_at_3_3 (by decide) (fun M => by unfold xf_168; decide) (by decide) (ac_r41 ac_at_5_1 (by decide) (fun M => by unfold xf_168; decide) (fun M => by unfold xf_169; decide) (by decide) (ac_r30 ac_at_2_1 (by decide) (fun M => by unfold xf_168; decide) (fun M => by unfold xf_169; decide) (by decide) (ac_r10 ac_at_0_1 (by decide) (fun M => by unfold xf_168; decide) (by decide) (ac_r1 ac_at_5_0 (by decide) (fun M => by unfold xf_168; decide) (by decide))))) (ac_r60 ac_at_5_2 (by decide) (fun M => by unfold xf_168; decide) (fun M => by unfold xf_169; decide) (by decide) (ac_r40 ac_at_3_2 (by decide) (fun M => by unfold xf_168; decide) (fun M => by unfold xf_169; decide) (by decide) (ac_r11 ac_at_2_2 (by decide) (fun M => by unfold xf_168; decide) (by decide))) (ac_r1 ac_at_5_0 (by decide) (fun M => by unfold xf_168; decide) (by decide)))))
theorem ac_c_6_0 {s : Int32} {n : Nat} : ac_Sp s 6 (n + 12) 6 0 0 (fun x => ((x + s) * 2)) [70, 1] := (ac_r70 ac_at_6_0 (by decide) (fun M => by unfold xf_168; decide) (fun M => by unfold xf_169; decide) (by decide) (ac_r1 ac_at_0_0 (by decide) (fun M => by unfold xf_168; decide) (by decide)))
theorem ac_c_6_1 {s : Int32} {n : Nat} : ac_Sp s 6 (n + 12) 6 1 0 (fun x => (((x + s) * 2) * 2)) [10, 70, 1] := (ac_r10 ac_at_6_1 (by decide) (fun M => by unfold xf_168; decide) (by decide) (ac_r70 ac_at_6_0 (by decide) (fun M => by unfold xf_168; decide) (fun M => by unfold xf_169; decide) (by decide) (ac_r1 ac_at_0_0 (by decide) (fun M => by unfold xf_168; decide) (by decide))))
theorem ac_c_6_2 {s : Int32} {n : Nat} : ac_Sp s 6 (n + 12) 6 2 0 (fun x => (x ^^^ s)) [11] := (ac_r11 ac_at_6_2 (by decide) (fun M => by unfold xf_168; decide) (by decide))
theorem ac_c_6_3 {s : Int32} {n : Nat} : ac_Sp s 6 (n + 12) 6 3 0 (fun x => ((((x + s) * 2) * 2) - (1 ^^^ s))) [2, 10, 70, 1, 11] := (ac_r2 ac_at_6_3 (by decide) (fun M => by unfold xf_168; decide) (by decide) (ac_r10 ac_at_6_1 (by decide) (fun M => by unfold xf_168; decide) (by decide) (ac_r70 ac_at_6_0 (by decide) (fun M => by unfold xf_168; decide) (fun M => by unfold xf_169; decide) (by decide) (ac_r1 ac_at_0_0 (by decide) (fun M => by unfold xf_168; decide) (by decide)))) (ac_r11 ac_at_6_2 (by decide) (fun M => by unfold xf_168; decide) (by decide)))
theorem ac_c_7_0 {s : Int32} {n : Nat} : ac_Sp s 7 (n + 12) 7 0 0 (fun x => (((x + s) * 2) - 1)) [81, 70, 1] := (ac_r81 ac_at_7_0 (by decide) (fun M => by unfold xf_168; decide) (fun M => by unfold xf_169; decide) (by decide) (ac_r70 ac_at_6_0 (by decide) (fun M => by unfold xf_168; decide) (fun M => by unfold xf_169; decide) (by decide) (ac_r1 ac_at_0_0 (by decide) (fun M => by unfold xf_168; decide) (by decide))))
theorem ac_c_7_1 {s : Int32} {n : Nat} : ac_Sp s 7 (n + 12) 7 1 0 (fun x => (((((x + s) * 2) - 1) * 2) + (2 ^^^ s))) [80, 10, 81, 70, 1, 11] := (ac_r80 ac_at_7_1 (by decide) (fun M => by unfold xf_168; decide) (fun M => by unfold xf_169; decide) (by decide) (ac_r10 ac_at_6_1 (by decide) (fun M => by unfold xf_168; decide) (by decide) (ac_r81 ac_at_7_0 (by decide) (fun M => by unfold xf_168; decide) (fun M => by unfold xf_169; decide) (by decide) (ac_r70 ac_at_6_0 (by decide) (fun M => by unfold xf_168; decide) (fun M => by unfold xf_169; decide) (by decide) (ac_r1 ac_at_0_0 (by decide) (fun M => by unfold xf_168; decide) (by decide))))) (ac_r11 ac_at_7_2 (by decide) (fun M => by unfold xf_168; decide) (by decide)))
theorem ac_c_7_2 {s : Int32} {n : Nat} : ac_Sp s 7 (n + 12) 7 2 0 (fun x => (x ^^^ s)) [11] := (ac_r11 ac_at_7_2 (by decide) (fun M => by unfold xf_168; decide) (by decide))
theorem ac_c_7_3 {s : Int32} {n : Nat} : ac_Sp s 7 (n + 12) 7 3 0 (fun x => ((((((x + s) * 2) - 1) * 2) + (2 ^^^ s)) - (1 ^^^ s))) [2, 80, 10, 81, 70, 1, 11, 11] := (ac_r2 ac_at_7_3 (by decide) (fun M => by unfold xf_168; decide) (by decide) (ac_r80 ac_at_7_1 (by decide) (fun M => by unfold xf_168; decide) (fun M => by unfold xf_169; decide) (by decide) (ac_r10 ac_at_6_1 (by decide) (fun M => by unfold xf_168; decide) (by decide) (ac_r81 ac_at_7_0 (by decide) (fun M => by unfold xf_168; decide) (fun M => by unfold xf_169; decide) (by decide) (ac_r70 ac_at_6_0 (by decide) (fun M => by unfold xf_168; decide) (fun M => by unfold xf_169; decide) (by decide) (ac_r1 ac_at_0_0 (by decide) (fun M => by unfold xf_168; decide) (by decide))))) (ac_r11 ac_at_7_2 (by decide) (fun M => by unfold xf_168; decide) (by decide))) (ac_r11 ac_at_7_2 (by decide) (fun M => by unfold xf_168; decide) (by decide)))
theorem rk_287 {M : ro_Mm} {b : Int32} {j : Nat} : (xm_287 M b).2.1 188 j = M.2.1 188 j := xwI_287 (by decide) (by decide)
theorem rk_n {M : ro_Mm} {b : Int32} {c : Nat} (h : M.2.1 163 51 = nI c) (hc : c ≤ 100) : (xm_287 M b).2.1 163 51 = nI (c + 1) ∧ xp_287 M b := by
  refine ⟨?_, ?_⟩
  · unfold xm_287
    rw [h, nI_1]
    by_cases h2 : (24 : Int32) ≤ nI c
    · rw [if_pos h2, ro_rd_s, if_pos ⟨rfl, rfl⟩]
    · rw [if_neg h2, ro_rd_s, if_pos ⟨rfl, rfl⟩]
  · unfold xp_287
    rw [h]
    refine ⟨fun _ => trivial, fun y => ⟨ro_vn ?_ (by omega), trivial⟩⟩
    by_cases z : c < 24
    · exact z
    · exact absurd (nI_le (a := 24) (b := c) (by omega) (by omega)) y
/-- the bodies l begin, one behind the other -/
def rk_p : List Int32 → ro_Mm → Prop
  | [], _ => True
  | b :: l, M => xp_287 M b ∧ rk_p l (xm_287 M b)
theorem rk_all : ∀ (l : List Int32) (M : ro_Mm) (c : Nat), M.2.1 163 51 = nI c → c + l.length ≤ 100 → rk_p l M
  | [], _, _, _, _ => trivial
  | b :: l, M, c, h, hc => by
    simp only [List.length_cons] at hc
    obtain ⟨h1, h2⟩ := rk_n (b := b) h (by omega)
    exact ⟨h2, rk_all l (xm_287 M b) (c + 1) h1 (by omega)⟩
theorem rk_0_0 {M : ro_Mm} {s x : Int32} (h : M.2.1 188 s.toNatClampNeg = 0) (hs : vp_in s 50) (hp : rk_p [1] M) : xf_285 M s x = (x + s) ∧ xm_285 M s x = ([1] : List Int32).foldl xm_287 M ∧ xp_285 M s x := by
  simp only [rk_p] at hp
  refine ⟨?_, ?_, ?_⟩
  · simp (config := {decide := true}) only [xf_285, xf_288, xf_289, xf_290, xf_291, xf_292, xf_293, xf_294, xf_295, xf_296, xf_297, xm_285, xm_288, xm_289, xm_290, xm_291, xm_292, xm_293, xm_294, xm_295, xm_296, xm_297, xf_286, rk_287, h, if_true, if_false]
  · simp (config := {decide := true}) only [xm_285, xm_288, xm_289, xm_290, xm_291, xm_292, xm_293, xm_294, xm_295, xm_296, xm_297, xf_286, rk_287, h, if_true, if_false, List.foldl_cons, List.foldl_nil]
  · simp (config := {decide := true}) only [xp_285, xp_288, xp_289, xp_290, xp_291, xp_292, xp_293, xp_294, xp_295, xp_296, xp_297, xm_285, xm_288, xm_289, xm_290, xm_291, xm_292, xm_293, xm_294, xm_295, xm_296, xm_297, xf_286, rk_287, h, hs, hp, if_true, if_false, true_implies, false_implies, not_true, not_false_iff, true_and, and_true, and_self]
theorem rk_0_1 {M : ro_Mm} {s x : Int32} (h : M.2.1 188 s.toNatClampNeg = 0) (hs : vp_in s 50) (hp : rk_p [10, 1] M) : xf_290 M s x = ((x + s) * 2) ∧ xm_290 M s x = ([10, 1] : List Int32).foldl xm_287 M ∧ xp_290 M s x := by
  simp only [rk_p] at hp
  refine ⟨?_, ?_, ?_⟩
  · simp (config := {decide := true}) only [xf_285, xf_288, xf_289, xf_290, xf_291, xf_292, xf_293, xf_294, xf_295, xf_296, xf_297, xm_285, xm_288, xm_289, xm_290, xm_291, xm_292, xm_293, xm_294, xm_295, xm_296, xm_297, xf_286, rk_287, h, if_true, if_false]
  · simp (config := {decide := true}) only [xm_285, xm_288, xm_289, xm_290, xm_291, xm_292, xm_293, xm_294, xm_295, xm_296, xm_297, xf_286, rk_287, h, if_true, if_false, List.foldl_cons, List.foldl_nil]
  · simp (config := {decide := true}) only [xp_285, xp_288, xp_289, xp_290, xp_291, xp_292, xp_293, xp_294, xp_295, xp_296, xp_297, xm_285, xm_288, xm_289, xm_290, xm_291, xm_292, xm_293, xm_294, xm_295, xm_296, xm_297, xf_286, rk_287, h, hs, hp, if_true, if_false, true_implies, false_implies, not_true, not_false_iff, true_and, and_true, and_self]
theorem rk_0_2 {M : ro_Mm} {s x : Int32} (h : M.2.1 188 s.toNatClampNeg = 0) (hs : vp_in s 50) (hp : rk_p [11] M) : xf_293 M s x = (x ^^^ s) ∧ xm_293 M s x = ([11] : List Int32).foldl xm_287 M ∧ xp_293 M s x := by
  simp only [rk_p] at hp
  refine ⟨?_, ?_, ?_⟩
  · simp (config := {decide := true}) only [xf_285, xf_288, xf_289, xf_290, xf_291, xf_292, xf_293, xf_294, xf_295, xf_296, xf_297, xm_285, xm_288, xm_289, xm_290, xm_291, xm_292, xm_293, xm_294, xm_295, xm_296, xm_297, xf_286, rk_287, h, if_true, if_false]
  · simp (config := {decide := true}) only [xm_285, xm_288, xm_289, xm_290, xm_291, xm_292, xm_293, xm_294, xm_295, xm_296, xm_297, xf_286, rk_287, h, if_true, if_false, List.foldl_cons, List.foldl_nil]
  · simp (config := {decide := true}) only [xp_285, xp_288, xp_289, xp_290, xp_291, xp_292, xp_293, xp_294, xp_295, xp_296, xp_297, xm_285, xm_288, xm_289, xm_290, xm_291, xm_292, xm_293, xm_294, xm_295, xm_296, xm_297, xf_286, rk_287, h, hs, hp, if_true, if_false, true_implies, false_implies, not_true, not_false_iff, true_and, and_true, and_self]
theorem rk_0_3 {M : ro_Mm} {s x : Int32} (h : M.2.1 188 s.toNatClampNeg = 0) (hs : vp_in s 50) (hp : rk_p [2, 10, 1, 11] M) : xf_296 M s x = (((x + s) * 2) - (1 ^^^ s)) ∧ xm_296 M s x = ([2, 10, 1, 11] : List Int32).foldl xm_287 M ∧ xp_296 M s x := by
  simp only [rk_p] at hp
  refine ⟨?_, ?_, ?_⟩
  · simp (config := {decide := true}) only [xf_285, xf_288, xf_289, xf_290, xf_291, xf_292, xf_293, xf_294, xf_295, xf_296, xf_297, xm_285, xm_288, xm_289, xm_290, xm_291, xm_292, xm_293, xm_294, xm_295, xm_296, xm_297, xf_286, rk_287, h, if_true, if_false]
  · simp (config := {decide := true}) only [xm_285, xm_288, xm_289, xm_290, xm_291, xm_292, xm_293, xm_294, xm_295, xm_296, xm_297, xf_286, rk_287, h, if_true, if_false, List.foldl_cons, List.foldl_nil]
  · simp (config := {decide := true}) only [xp_285, xp_288, xp_289, xp_290, xp_291, xp_292, xp_293, xp_294, xp_295, xp_296, xp_297, xm_285, xm_288, xm_289, xm_290, xm_291, xm_292, xm_293, xm_294, xm_295, xm_296, xm_297, xf_286, rk_287, h, hs, hp, if_true, if_false, true_implies, false_implies, not_true, not_false_iff, true_and, and_true, and_self]
theorem rk_1_0 {M : ro_Mm} {s x : Int32} (h : M.2.1 188 s.toNatClampNeg = 1) (hs : vp_in s 50) (hp : rk_p [20, 1] M) : xf_285 M s x = ((x + s) + 3) ∧ xm_285 M s x = ([20, 1] : List Int32).foldl xm_287 M ∧ xp_285 M s x := by
  simp only [rk_p] at hp
  refine ⟨?_, ?_, ?_⟩
  · simp (config := {decide := true}) only [xf_285, xf_288, xf_289, xf_290, xf_291, xf_292, xf_293, xf_294, xf_295, xf_296, xf_297, xm_285, xm_288, xm_289, xm_290, xm_291, xm_292, xm_293, xm_294, xm_295, xm_296, xm_297, xf_286, rk_287, h, if_true, if_false]
  · simp (config := {decide := true}) only [xm_285, xm_288, xm_289, xm_290, xm_291, xm_292, xm_293, xm_294, xm_295, xm_296, xm_297, xf_286, rk_287, h, if_true, if_false, List.foldl_cons, List.foldl_nil]
  · simp (config := {decide := true}) only [xp_285, xp_288, xp_289, xp_290, xp_291, xp_292, xp_293, xp_294, xp_295, xp_296, xp_297, xm_285, xm_288, xm_289, xm_290, xm_291, xm_292, xm_293, xm_294, xm_295, xm_296, xm_297, xf_286, rk_287, h, hs, hp, if_true, if_false, true_implies, false_implies, not_true, not_false_iff, true_and, and_true, and_self]
theorem rk_1_1 {M : ro_Mm} {s x : Int32} (h : M.2.1 188 s.toNatClampNeg = 1) (hs : vp_in s 50) (hp : rk_p [10, 20, 1] M) : xf_290 M s x = (((x + s) + 3) * 2) ∧ xm_290 M s x = ([10, 20, 1] : List Int32).foldl xm_287 M ∧ xp_290 M s x := by
  simp only [rk_p] at hp
  refine ⟨?_, ?_, ?_⟩
  · simp (config := {decide := true}) only [xf_285, xf_288, xf_289, xf_290, xf_291, xf_292, xf_293, xf_294, xf_295, xf_296, xf_297, xm_285, xm_288, xm_289, xm_290, xm_291, xm_292, xm_293, xm_294, xm_295, xm_296, xm_297, xf_286, rk_287, h, if_true, if_false]
  · simp (config := {decide := true}) only [xm_285, xm_288, xm_289, xm_290, xm_291, xm_292, xm_293, xm_294, xm_295, xm_296, xm_297, xf_286, rk_287, h, if_true, if_false, List.foldl_cons, List.foldl_nil]
  · simp (config := {decide := true}) only [xp_285, xp_288, xp_289, xp_290, xp_291, xp_292, xp_293, xp_294, xp_295, xp_296, xp_297, xm_285, xm_288, xm_289, xm_290, xm_291, xm_292, xm_293, xm_294, xm_295, xm_296, xm_297, xf_286, rk_287, h, hs, hp, if_true, if_false, true_implies, false_implies, not_true, not_false_iff, true_and, and_true, and_self]
theorem rk_1_2 {M : ro_Mm} {s x : Int32} (h : M.2.1 188 s.toNatClampNeg = 1) (hs : vp_in s 50) (hp : rk_p [11] M) : xf_293 M s x = (x ^^^ s) ∧ xm_293 M s x = ([11] : List Int32).foldl xm_287 M ∧ xp_293 M s x := by
  simp only [rk_p] at hp
  refine ⟨?_, ?_, ?_⟩
  · simp (config := {decide := true}) only [xf_285, xf_288, xf_289, xf_290, xf_291, xf_292, xf_293, xf_294, xf_295, xf_296, xf_297, xm_285, xm_288, xm_289, xm_290, xm_291, xm_292, xm_293, xm_294, xm_295, xm_296, xm_297, xf_286, rk_287, h, if_true, if_false]
  · simp (config := {decide := true}) only [xm_285, xm_288, xm_289, xm_290, xm_291, xm_292, xm_293, xm_294, xm_295, xm_296, xm_297, xf_286, rk_287, h, if_true, if_false, List.foldl_cons, List.foldl_nil]
  · simp (config := {decide := true}) only [xp_285, xp_288, xp_289, xp_290, xp_291, xp_292, xp_293, xp_294, xp_295, xp_296, xp_297, xm_285, xm_288, xm_289, xm_290, xm_291, xm_292, xm_293, xm_294, xm_295, xm_296, xm_297, xf_286, rk_287, h, hs, hp, if_true, if_false, true_implies, false_implies, not_true, not_false_iff, true_and, and_true, and_self]
theorem rk_1_3 {M : ro_Mm} {s x : Int32} (h : M.2.1 188 s.toNatClampNeg = 1) (hs : vp_in s 50) (hp : rk_p [2, 10, 20, 1, 11] M) : xf_296 M s x = ((((x + s) + 3) * 2) - (1 ^^^ s)) ∧ xm_296 M s x = ([2, 10, 20, 1, 11] : List Int32).foldl xm_287 M ∧ xp_296 M s x := by
  simp only [rk_p] at hp
  refine ⟨?_, ?_, ?_⟩
  · simp (config := {decide := true}) only [xf_285, xf_288, xf_289, xf_290, xf_291, xf_292, xf_293, xf_294, xf_295, xf_296, xf_297, xm_285, xm_288, xm_289, xm_290, xm_291, xm_292, xm_293, xm_294, xm_295, xm_296, xm_297, xf_286, rk_287, h, if_true, if_false]
  · simp (config := {decide := true}) only [xm_285, xm_288, xm_289, xm_290, xm_291, xm_292, xm_293, xm_294, xm_295, xm_296, xm_297, xf_286, rk_287, h, if_true, if_false, List.foldl_cons, List.foldl_nil]
  · simp (config := {decide := true}) only [xp_285, xp_288, xp_289, xp_290, xp_291, xp_292, xp_293, xp_294, xp_295, xp_296, xp_297, xm_285, xm_288, xm_289, xm_290, xm_291, xm_292, xm_293, xm_294, xm_295, xm_296, xm_297, xf_286, rk_287, h, hs, hp, if_true, if_false, true_implies, false_implies, not_true, not_false_iff, true_and, and_true, and_self]
theorem rk_2_0 {M : ro_Mm} {s x : Int32} (h : M.2.1 188 s.toNatClampNeg = 2) (hs : vp_in s 50) (hp : rk_p [1] M) : xf_285 M s x = (x + s) ∧ xm_285 M s x = ([1] : List Int32).foldl xm_287 M ∧ xp_285 M s x := by
  simp only [rk_p] at hp
  refine ⟨?_, ?_, ?_⟩
  · simp (config := {decide := true}) only [xf_285, xf_288, xf_289, xf_290, xf_291, xf_292, xf_293, xf_294, xf_295, xf_296, xf_297, xm_285, xm_288, xm_289, xm_290, xm_291, xm_292, xm_293, xm_294, xm_295, xm_296, xm_297, xf_286, rk_287, h, if_true, if_false]
  · simp (config := {decide := true}) only [xm_285, xm_288, xm_289, xm_290, xm_291, xm_292, xm_293, xm_294, xm_295, xm_296, xm_297, xf_286, rk_287, h, if_true, if_false, List.foldl_cons, List.foldl_nil]
  · simp (config := {decide := true}) only [xp_285, xp_288, xp_289, xp_290, xp_291, xp_292, xp_293, xp_294, xp_295, xp_296, xp_297, xm_285, xm_288, xm_289, xm_290, xm_291, xm_292, xm_293, xm_294, xm_295, xm_296, xm_297, xf_286, rk_287, h, hs, hp, if_true, if_false, true_implies, false_implies, not_true, not_false_iff, true_and, and_true, and_self]
theorem rk_2_1 {M : ro_Mm} {s x : Int32} (h : M.2.1 188 s.toNatClampNeg = 2) (hs : vp_in s 50) (hp : rk_p [30, 10, 1] M) : xf_290 M s x = (-((x + s) * 2)) ∧ xm_290 M s x = ([30, 10, 1] : List Int32).foldl xm_287 M ∧ xp_290 M s x := by
  simp only [rk_p] at hp
  refine ⟨?_, ?_, ?_⟩
  · simp (config := {decide := true}) only [xf_285, xf_288, xf_289, xf_290, xf_291, xf_292, xf_293, xf_294, xf_295, xf_296, xf_297, xm_285, xm_288, xm_289, xm_290, xm_291, xm_292, xm_293, xm_294, xm_295, xm_296, xm_297, xf_286, rk_287, h, if_true, if_false]
  · simp (config := {decide := true}) only [xm_285, xm_288, xm_289, xm_290, xm_291, xm_292, xm_293, xm_294, xm_295, xm_296, xm_297, xf_286, rk_287, h, if_true, if_false, List.foldl_cons, List.foldl_nil]
  · simp (config := {decide := true}) only [xp_285, xp_288, xp_289, xp_290, xp_291, xp_292, xp_293, xp_294, xp_295, xp_296, xp_297, xm_285, xm_288, xm_289, xm_290, xm_291, xm_292, xm_293, xm_294, xm_295, xm_296, xm_297, xf_286, rk_287, h, hs, hp, if_true, if_false, true_implies, false_implies, not_true, not_false_iff, true_and, and_true, and_self]
theorem rk_2_2 {M : ro_Mm} {s x : Int32} (h : M.2.1 188 s.toNatClampNeg = 2) (hs : vp_in s 50) (hp : rk_p [11] M) : xf_293 M s x = (x ^^^ s) ∧ xm_293 M s x = ([11] : List Int32).foldl xm_287 M ∧ xp_293 M s x := by
  simp only [rk_p] at hp
  refine ⟨?_, ?_, ?_⟩
  · simp (config := {decide := true}) only [xf_285, xf_288, xf_289, xf_290, xf_291, xf_292, xf_293, xf_294, xf_295, xf_296, xf_297, xm_285, xm_288, xm_289, xm_290, xm_291, xm_292, xm_293, xm_294, xm_295, xm_296, xm_297, xf_286, rk_287, h, if_true, if_false]
  · simp (config := {decide := true}) only [xm_285, xm_288, xm_289, xm_290, xm_291, xm_292, xm_293, xm_294, xm_295, xm_296, xm_297, xf_286, rk_287, h, if_true, if_false, List.foldl_cons, List.foldl_nil]
  · simp (config := {decide := true}) only [xp_285, xp_288, xp_289, xp_290, xp_291, xp_292, xp_293, xp_294, xp_295, xp_296, xp_297, xm_285, xm_288, xm_289, xm_290, xm_291, xm_292, xm_293, xm_294, xm_295, xm_296, xm_297, xf_286, rk_287, h, hs, hp, if_true, if_false, true_implies, false_implies, not_true, not_false_iff, true_and, and_true, and_self]
theorem rk_2_3 {M : ro_Mm} {s x : Int32} (h : M.2.1 188 s.toNatClampNeg = 2) (hs : vp_in s 50) (hp : rk_p [2, 30, 10, 1, 11] M) : xf_296 M s x = ((-((x + s) * 2)) - (1 ^^^ s)) ∧ xm_296 M s x = ([2, 30, 10, 1, 11] : List Int32).foldl xm_287 M ∧ xp_296 M s x := by
  simp only [rk_p] at hp
  refine ⟨?_, ?_, ?_⟩
  · simp (config := {decide := true}) only [xf_285, xf_288, xf_289, xf_290, xf_291, xf_292, xf_293, xf_294, xf_295, xf_296, xf_297, xm_285, xm_288, xm_289, xm_290, xm_291, xm_292, xm_293, xm_294, xm_295, xm_296, xm_297, xf_286, rk_287, h, if_true, if_false]
  · simp (config := {decide := true}) only [xm_285, xm_288, xm_289, xm_290, xm_291, xm_292, xm_293, xm_294, xm_295, xm_296, xm_297, xf_286, rk_287, h, if_true, if_false, List.foldl_cons, List.foldl_nil]
  · simp (config := {decide := true}) only [xp_285, xp_288, xp_289, xp_290, xp_291, xp_292, xp_293, xp_294, xp_295, xp_296, xp_297, xm_285, xm_288, xm_289, xm_290, xm_291, xm_292, xm_293, xm_294, xm_295, xm_296, xm_297, xf_286, rk_287, h, hs, hp, if_true, if_false, true_implies, false_implies, not_true, not_false_iff, true_and, and_true, and_self]
theorem rk_3_0 {M : ro_Mm} {s x : Int32} (h : M.2.1 188 s.toNatClampNeg = 3) (hs : vp_in s 50) (hp : rk_p [1] M) : xf_285 M s x = (x + s) ∧ xm_285 M s x = ([1] : List Int32).foldl xm_287 M ∧ xp_285 M s x := by
  simp only [rk_p] at hp
  refine ⟨?_, ?_, ?_⟩
  · simp (config := {decide := true}) only [xf_285, xf_288, xf_289, xf_290, xf_291, xf_292, xf_293, xf_294, xf_295, xf_296, xf_297, xm_285, xm_288, xm_289, xm_290, xm_291, xm_292, xm_293, xm_294, xm_295, xm_296, xm_297, xf_286, rk_287, h, if_true, if_false]
  · simp (config := {decide := true}) only [xm_285, xm_288, xm_289, xm_290, xm_291, xm_292, xm_293, xm_294, xm_295, xm_296, xm_297, xf_286, rk_287, h, if_true, if_false, List.foldl_cons, List.foldl_nil]
  · simp (config := {decide := true}) only [xp_285, xp_288, xp_289, xp_290, xp_291, xp_292, xp_293, xp_294, xp_295, xp_296, xp_297, xm_285, xm_288, xm_289, xm_290, xm_291, xm_292, xm_293, xm_294, xm_295, xm_296, xm_297, xf_286, rk_287, h, hs, hp, if_true, if_false, true_implies, false_implies, not_true, not_false_iff, true_and, and_true, and_self]
theorem rk_3_1 {M : ro_Mm} {s x : Int32} (h : M.2.1 188 s.toNatClampNeg = 3) (hs : vp_in s 50) (hp : rk_p [41, 30, 10, 1] M) : xf_290 M s x = (-(((x + 1) + s) * 2)) ∧ xm_290 M s x = ([41, 30, 10, 1] : List Int32).foldl xm_287 M ∧ xp_290 M s x := by
  simp only [rk_p] at hp
  refine ⟨?_, ?_, ?_⟩
  · simp (config := {decide := true}) only [xf_285, xf_288, xf_289, xf_290, xf_291, xf_292, xf_293, xf_294, xf_295, xf_296, xf_297, xm_285, xm_288, xm_289, xm_290, xm_291, xm_292, xm_293, xm_294, xm_295, xm_296, xm_297, xf_286, rk_287, h, if_true, if_false]
  · simp (config := {decide := true}) only [xm_285, xm_288, xm_289, xm_290, xm_291, xm_292, xm_293, xm_294, xm_295, xm_296, xm_297, xf_286, rk_287, h, if_true, if_false, List.foldl_cons, List.foldl_nil]
  · simp (config := {decide := true}) only [xp_285, xp_288, xp_289, xp_290, xp_291, xp_292, xp_293, xp_294, xp_295, xp_296, xp_297, xm_285, xm_288, xm_289, xm_290, xm_291, xm_292, xm_293, xm_294, xm_295, xm_296, xm_297, xf_286, rk_287, h, hs, hp, if_true, if_false, true_implies, false_implies, not_true, not_false_iff, true_and, and_true, and_self]
theorem rk_3_2 {M : ro_Mm} {s x : Int32} (h : M.2.1 188 s.toNatClampNeg = 3) (hs : vp_in s 50) (hp : rk_p [40, 11] M) : xf_293 M s x = ((x ^^^ s) * 3) ∧ xm_293 M s x = ([40, 11] : List Int32).foldl xm_287 M ∧ xp_293 M s x := by
  simp only [rk_p] at hp
  refine ⟨?_, ?_, ?_⟩
  · simp (config := {decide := true}) only [xf_285, xf_288, xf_289, xf_290, xf_291, xf_292, xf_293, xf_294, xf_295, xf_296, xf_297, xm_285, xm_288, xm_289, xm_290, xm_291, xm_292, xm_293, xm_294, xm_295, xm_296, xm_297, xf_286, rk_287, h, if_true, if_false]
  · simp (config := {decide := true}) only [xm_285, xm_288, xm_289, xm_290, xm_291, xm_292, xm_293, xm_294, xm_295, xm_296, xm_297, xf_286, rk_287, h, if_true, if_false, List.foldl_cons, List.foldl_nil]
  · simp (config := {decide := true}) only [xp_285, xp_288, xp_289, xp_290, xp_291, xp_292, xp_293, xp_294, xp_295, xp_296, xp_297, xm_285, xm_288, xm_289, xm_290, xm_291, xm_292, xm_293, xm_294, xm_295, xm_296, xm_297, xf_286, rk_287, h, hs, hp, if_true, if_false, true_implies, false_implies, not_true, not_false_iff, true_and, and_true, and_self]
theorem rk_3_3 {M : ro_Mm} {s x : Int32} (h : M.2.1 188 s.toNatClampNeg = 3) (hs : vp_in s 50) (hp : rk_p [2, 41, 30, 10, 1, 40, 11] M) : xf_296 M s x = ((-(((x + 1) + s) * 2)) - ((1 ^^^ s) * 3)) ∧ xm_296 M s x = ([2, 41, 30, 10, 1, 40, 11] : List Int32).foldl xm_287 M ∧ xp_296 M s x := by
  simp only [rk_p] at hp
  refine ⟨?_, ?_, ?_⟩
  · simp (config := {decide := true}) only [xf_285, xf_288, xf_289, xf_290, xf_291, xf_292, xf_293, xf_294, xf_295, xf_296, xf_297, xm_285, xm_288, xm_289, xm_290, xm_291, xm_292, xm_293, xm_294, xm_295, xm_296, xm_297, xf_286, rk_287, h, if_true, if_false]
  · simp (config := {decide := true}) only [xm_285, xm_288, xm_289, xm_290, xm_291, xm_292, xm_293, xm_294, xm_295, xm_296, xm_297, xf_286, rk_287, h, if_true, if_false, List.foldl_cons, List.foldl_nil]
  · simp (config := {decide := true}) only [xp_285, xp_288, xp_289, xp_290, xp_291, xp_292, xp_293, xp_294, xp_295, xp_296, xp_297, xm_285, xm_288, xm_289, xm_290, xm_291, xm_292, xm_293, xm_294, xm_295, xm_296, xm_297, xf_286, rk_287, h, hs, hp, if_true, if_false, true_implies, false_implies, not_true, not_false_iff, true_and, and_true, and_self]
theorem rk_4_0 {M : ro_Mm} {s x : Int32} (h : M.2.1 188 s.toNatClampNeg = 4) (hs : vp_in s 50) (hp : rk_p [20, 1] M) : xf_285 M s x = ((x + s) + 3) ∧ xm_285 M s x = ([20, 1] : List Int32).foldl xm_287 M ∧ xp_285 M s x := by
  simp only [rk_p] at hp
  refine ⟨?_, ?_, ?_⟩
  · simp (config := {decide := true}) only [xf_285, xf_288, xf_289, xf_290, xf_291, xf_292, xf_293, xf_294, xf_295, xf_296, xf_297, xm_285, xm_288, xm_289, xm_290, xm_291, xm_292, xm_293, xm_294, xm_295, xm_296, xm_297, xf_286, rk_287, h, if_true, if_false]
  · simp (config := {decide := true}) only [xm_285, xm_288, xm_289, xm_290, xm_291, xm_292, xm_293, xm_294, xm_295, xm_296, xm_297, xf_286, rk_287, h, if_true, if_false, List.foldl_cons, List.foldl_nil]
  · simp (config := {decide := true}) only [xp_285, xp_288, xp_289, xp_290, xp_291, xp_292, xp_293, xp_294, xp_295, xp_296, xp_297, xm_285, xm_288, xm_289, xm_290, xm_291, xm_292, xm_293, xm_294, xm_295, xm_296, xm_297, xf_286, rk_287, h, hs, hp, if_true, if_false, true_implies, false_implies, not_true, not_false_iff, true_and, and_true, and_self]
theorem rk_4_1 {M : ro_Mm} {s x : Int32} (h : M.2.1 188 s.toNatClampNeg = 4) (hs : vp_in s 50) (hp : rk_p [10, 20, 1] M) : xf_290 M s x = (((x + s) + 3) * 2) ∧ xm_290 M s x = ([10, 20, 1] : List Int32).foldl xm_287 M ∧ xp_290 M s x := by
  simp only [rk_p] at hp
  refine ⟨?_, ?_, ?_⟩
  · simp (config := {decide := true}) only [xf_285, xf_288, xf_289, xf_290, xf_291, xf_292, xf_293, xf_294, xf_295, xf_296, xf_297, xm_285, xm_288, xm_289, xm_290, xm_291, xm_292, xm_293, xm_294, xm_295, xm_296, xm_297, xf_286, rk_287, h, if_true, if_false]
  · simp (config := {decide := true}) only [xm_285, xm_288, xm_289, xm_290, xm_291, xm_292, xm_293, xm_294, xm_295, xm_296, xm_297, xf_286, rk_287, h, if_true, if_false, List.foldl_cons, List.foldl_nil]
  · simp (config := {decide := true}) only [xp_285, xp_288, xp_289, xp_290, xp_291, xp_292, xp_293, xp_294, xp_295, xp_296, xp_297, xm_285, xm_288, xm_289, xm_290, xm_291, xm_292, xm_293, xm_294, xm_295, xm_296, xm_297, xf_286, rk_287, h, hs, hp, if_true, if_false, true_implies, false_implies, not_true, not_false_iff, true_and, and_true, and_self]
theorem rk_4_2 {M : ro_Mm} {s x : Int32} (h : M.2.1 188 s.toNatClampNeg = 4) (hs : vp_in s 50) (hp : rk_p [11] M) : xf_293 M s x = (x ^^^ s) ∧ xm_293 M s x = ([11] : List Int32).foldl xm_287 M ∧ xp_293 M s x := by
  simp only [rk_p] at hp
  refine ⟨?_, ?_, ?_⟩
  · simp (config := {decide := true}) only [xf_285, xf_288, xf_289, xf_290, xf_291, xf_292, xf_293, xf_294, xf_295, xf_296, xf_297, xm_285, xm_288, xm_289, xm_290, xm_291, xm_292, xm_293, xm_294, xm_295, xm_296, xm_297, xf_286, rk_287, h, if_true, if_false]
  · simp (config := {decide := true}) only [xm_285, xm_288, xm_289, xm_290, xm_291, xm_292, xm_293, xm_294, xm_295, xm_296, xm_297, xf_286, rk_287, h, if_true, if_false, List.foldl_cons, List.foldl_nil]
  · simp (config := {decide := true}) only [xp_285, xp_288, xp_289, xp_290, xp_291, xp_292, xp_293, xp_294, xp_295, xp_296, xp_297, xm_285, xm_288, xm_289, xm_290, xm_291, xm_292, xm_293, xm_294, xm_295, xm_296, xm_297, xf_286, rk_287, h, hs, hp, if_true, if_false, true_implies, false_implies, not_true, not_false_iff, true_and, and_true, and_self]
theorem rk_4_3 {M : ro_Mm} {s x : Int32} (h : M.2.1 188 s.toNatClampNeg = 4) (hs : vp_in s 50) (hp : rk_p [50, 2, 10, 20, 1, 11] M) : xf_296 M s x = (((((x + s) + 3) * 2) - (1 ^^^ s)) ^^^ 5) ∧ xm_296 M s x = ([50, 2, 10, 20, 1, 11] : List Int32).foldl xm_287 M ∧ xp_296 M s x := by
  simp only [rk_p] at hp
  refine ⟨?_, ?_, ?_⟩
  · simp (config := {decide := true}) only [xf_285, xf_288, xf_289, xf_290, xf_291, xf_292, xf_293, xf_294, xf_295, xf_296, xf_297, xm_285, xm_288, xm_289, xm_290, xm_291, xm_292, xm_293, xm_294, xm_295, xm_296, xm_297, xf_286, rk_287, h, if_true, if_false]
  · simp (config := {decide := true}) only [xm_285, xm_288, xm_289, xm_290, xm_291, xm_292, xm_293, xm_294, xm_295, xm_296, xm_297, xf_286, rk_287, h, if_true, if_false, List.foldl_cons, List.foldl_nil]
  · simp (config := {decide := true}) only [xp_285, xp_288, xp_289, xp_290, xp_291, xp_292, xp_293, xp_294, xp_295, xp_296, xp_297, xm_285, xm_288, xm_289, xm_290, xm_291, xm_292, xm_293, xm_294, xm_295, xm_296, xm_297, xf_286, rk_287, h, hs, hp, if_true, if_false, true_implies, false_implies, not_true, not_false_iff, true_and, and_true, and_self]
theorem rk_5_0 {M : ro_Mm} {s x : Int32} (h : M.2.1 188 s.toNatClampNeg = 5) (hs : vp_in s 50) (hp : rk_p [1] M) : xf_285 M s x = (x + s) ∧ xm_285 M s x = ([1] : List Int32).foldl xm_287 M ∧ xp_285 M s x := by
  simp only [rk_p] at hp
  refine ⟨?_, ?_, ?_⟩
  · simp (config := {decide := true}) only [xf_285, xf_288, xf_289, xf_290, xf_291, xf_292, xf_293, xf_294, xf_295, xf_296, xf_297, xm_285, xm_288, xm_289, xm_290, xm_291, xm_292, xm_293, xm_294, xm_295, xm_296, xm_297, xf_286, rk_287, h, if_true, if_false]
  · simp (config := {decide := true}) only [xm_285, xm_288, xm_289, xm_290, xm_291, xm_292, xm_293, xm_294, xm_295, xm_296, xm_297, xf_286, rk_287, h, if_true, if_false, List.foldl_cons, List.foldl_nil]
  · simp (config := {decide := true}) only [xp_285, xp_288, xp_289, xp_290, xp_291, xp_292, xp_293, xp_294, xp_295, xp_296, xp_297, xm_285, xm_288, xm_289, xm_290, xm_291, xm_292, xm_293, xm_294, xm_295, xm_296, xm_297, xf_286, rk_287, h, hs, hp, if_true, if_false, true_implies, false_implies, not_true, not_false_iff, true_and, and_true, and_self]
theorem rk_5_1 {M : ro_Mm} {s x : Int32} (h : M.2.1 188 s.toNatClampNeg = 5) (hs : vp_in s 50) (hp : rk_p [41, 30, 10, 1] M) : xf_290 M s x = (-(((x + 1) + s) * 2)) ∧ xm_290 M s x = ([41, 30, 10, 1] : List Int32).foldl xm_287 M ∧ xp_290 M s x := by
  simp only [rk_p] at hp
  refine ⟨?_, ?_, ?_⟩
  · simp (config := {decide := true}) only [xf_285, xf_288, xf_289, xf_290, xf_291, xf_292, xf_293, xf_294, xf_295, xf_296, xf_297, xm_285, xm_288, xm_289, xm_290, xm_291, xm_292, xm_293, xm_294, xm_295, xm_296, xm_297, xf_286, rk_287, h, if_true, if_false]
  · simp (config := {decide := true}) only [xm_285, xm_288, xm_289, xm_290, xm_291, xm_292, xm_293, xm_294, xm_295, xm_296, xm_297, xf_286, rk_287, h, if_true, if_false, List.foldl_cons, List.foldl_nil]
  · simp (config := {decide := true}) only [xp_285, xp_288, xp_289, xp_290, xp_291, xp_292, xp_293, xp_294, xp_295, xp_296, xp_297, xm_285, xm_288, xm_289, xm_290, xm_291, xm_292, xm_293, xm_294, xm_295, xm_296, xm_297, xf_286, rk_287, h, hs, hp, if_true, if_false, true_implies, false_implies, not_true, not_false_iff, true_and, and_true, and_self]
theorem rk_5_2 {M : ro_Mm} {s x : Int32} (h : M.2.1 188 s.toNatClampNeg = 5) (hs : vp_in s 50) (hp : rk_p [60, 40, 11, 1] M) : xf_293 M s x = (((x ^^^ s) * 3) - (2 + s)) ∧ xm_293 M s x = ([60, 40, 11, 1] : List Int32).foldl xm_287 M ∧ xp_293 M s x := by
  simp only [rk_p] at hp
  refine ⟨?_, ?_, ?_⟩
  · simp (config := {decide := true}) only [xf_285, xf_288, xf_289, xf_290, xf_291, xf_292, xf_293, xf_294, xf_295, xf_296, xf_297, xm_285, xm_288, xm_289, xm_290, xm_291, xm_292, xm_293, xm_294, xm_295, xm_296, xm_297, xf_286, rk_287, h, if_true, if_false]
  · simp (config := {decide := true}) only [xm_285, xm_288, xm_289, xm_290, xm_291, xm_292, xm_293, xm_294, xm_295, xm_296, xm_297, xf_286, rk_287, h, if_true, if_false, List.foldl_cons, List.foldl_nil]
  · simp (config := {decide := true}) only [xp_285, xp_288, xp_289, xp_290, xp_291, xp_292, xp_293, xp_294, xp_295, xp_296, xp_297, xm_285, xm_288, xm_289, xm_290, xm_291, xm_292, xm_293, xm_294, xm_295, xm_296, xm_297, xf_286, rk_287, h, hs, hp, if_true, if_false, true_implies, false_implies, not_true, not_false_iff, true_and, and_true, and_self]
theorem rk_5_3 {M : ro_Mm} {s x : Int32} (h : M.2.1 188 s.toNatClampNeg = 5) (hs : vp_in s 50) (hp : rk_p [61, 2, 41, 30, 10, 1, 60, 40, 11, 1] M) : xf_296 M s x = (((-(((x + 1) + s) * 2)) - (((1 ^^^ s) * 3) - (2 + s))) + 1) ∧ xm_296 M s x = ([61, 2, 41, 30, 10, 1, 60, 40, 11, 1] : List Int32).foldl xm_287 M ∧ xp_296 M s x := by
  simp only [rk_p] at hp
  refine ⟨?_, ?_, ?_⟩
  · simp (config := {decide := true}) only [xf_285, xf_288, xf_289, xf_290, xf_291, xf_292, xf_293, xf_294, xf_295, xf_296, xf_297, xm_285, xm_288, xm_289, xm_290, xm_291, xm_292, xm_293, xm_294, xm_295, xm_296, xm_297, xf_286, rk_287, h, if_true, if_false]
  · simp (config := {decide := true}) only [xm_285, xm_288, xm_289, xm_290, xm_291, xm_292, xm_293, xm_294, xm_295, xm_296, xm_297, xf_286, rk_287, h, if_true, if_false, List.foldl_cons, List.foldl_nil]
  · simp (config := {decide := true}) only [xp_285, xp_288, xp_289, xp_290, xp_291, xp_292, xp_293, xp_294, xp_295, xp_296, xp_297, xm_285, xm_288, xm_289, xm_290, xm_291, xm_292, xm_293, xm_294, xm_295, xm_296, xm_297, xf_286, rk_287, h, hs, hp, if_true, if_false, true_implies, false_implies, not_true, not_false_iff, true_and, and_true, and_self]
theorem rk_6_0 {M : ro_Mm} {s x : Int32} (h : M.2.1 188 s.toNatClampNeg = 6) (hs : vp_in s 50) (hp : rk_p [70, 1] M) : xf_285 M s x = ((x + s) * 2) ∧ xm_285 M s x = ([70, 1] : List Int32).foldl xm_287 M ∧ xp_285 M s x := by
  simp only [rk_p] at hp
  refine ⟨?_, ?_, ?_⟩
  · simp (config := {decide := true}) only [xf_285, xf_288, xf_289, xf_290, xf_291, xf_292, xf_293, xf_294, xf_295, xf_296, xf_297, xm_285, xm_288, xm_289, xm_290, xm_291, xm_292, xm_293, xm_294, xm_295, xm_296, xm_297, xf_286, rk_287, h, if_true, if_false]
  · simp (config := {decide := true}) only [xm_285, xm_288, xm_289, xm_290, xm_291, xm_292, xm_293, xm_294, xm_295, xm_296, xm_297, xf_286, rk_287, h, if_true, if_false, List.foldl_cons, List.foldl_nil]
  · simp (config := {decide := true}) only [xp_285, xp_288, xp_289, xp_290, xp_291, xp_292, xp_293, xp_294, xp_295, xp_296, xp_297, xm_285, xm_288, xm_289, xm_290, xm_291, xm_292, xm_293, xm_294, xm_295, xm_296, xm_297, xf_286, rk_287, h, hs, hp, if_true, if_false, true_implies, false_implies, not_true, not_false_iff, true_and, and_true, and_self]
theorem rk_6_1 {M : ro_Mm} {s x : Int32} (h : M.2.1 188 s.toNatClampNeg = 6) (hs : vp_in s 50) (hp : rk_p [10, 70, 1] M) : xf_290 M s x = (((x + s) * 2) * 2) ∧ xm_290 M s x = ([10, 70, 1] : List Int32).foldl xm_287 M ∧ xp_290 M s x := by
  simp only [rk_p] at hp
  refine ⟨?_, ?_, ?_⟩
  · simp (config := {decide := true}) only [xf_285, xf_288, xf_289, xf_290, xf_291, xf_292, xf_293, xf_294, xf_295, xf_296, xf_297, xm_285, xm_288, xm_289, xm_290, xm_291, xm_292, xm_293, xm_294, xm_295, xm_296, xm_297, xf_286, rk_287, h, if_true, if_false]
  · simp (config := {decide := true}) only [xm_285, xm_288, xm_289, xm_290, xm_291, xm_292, xm_293, xm_294, xm_295, xm_296, xm_297, xf_286, rk_287, h, if_true, if_false, List.foldl_cons, List.foldl_nil]
  · simp (config := {decide := true}) only [xp_285, xp_288, xp_289, xp_290, xp_291, xp_292, xp_293, xp_294, xp_295, xp_296, xp_297, xm_285, xm_288, xm_289, xm_290, xm_291, xm_292, xm_293, xm_294, xm_295, xm_296, xm_297, xf_286, rk_287, h, hs, hp, if_true, if_false, true_implies, false_implies, not_true, not_false_iff, true_and, and_true, and_self]
theorem rk_6_2 {M : ro_Mm} {s x : Int32} (h : M.2.1 188 s.toNatClampNeg = 6) (hs : vp_in s 50) (hp : rk_p [11] M) : xf_293 M s x = (x ^^^ s) ∧ xm_293 M s x = ([11] : List Int32).foldl xm_287 M ∧ xp_293 M s x := by
  simp only [rk_p] at hp
  refine ⟨?_, ?_, ?_⟩
  · simp (config := {decide := true}) only [xf_285, xf_288, xf_289, xf_290, xf_291, xf_292, xf_293, xf_294, xf_295, xf_296, xf_297, xm_285, xm_288, xm_289, xm_290, xm_291, xm_292, xm_293, xm_294, xm_295, xm_296, xm_297, xf_286, rk_287, h, if_true, if_false]
  · simp (config := {decide := true}) only [xm_285, xm_288, xm_289, xm_290, xm_291, xm_292, xm_293, xm_294, xm_295, xm_296, xm_297, xf_286, rk_287, h, if_true, if_false, List.foldl_cons, List.foldl_nil]
  · simp (config := {decide := true}) only [xp_285, xp_288, xp_289, xp_290, xp_291, xp_292, xp_293, xp_294, xp_295, xp_296, xp_297, xm_285, xm_288, xm_289, xm_290, xm_291, xm_292, xm_293, xm_294, xm_295, xm_296, xm_297, xf_286, rk_287, h, hs, hp, if_true, if_false, true_implies, false_implies, not_true, not_false_iff, true_and, and_true, and_self]
theorem rk_6_3 {M : ro_Mm} {s x : Int32} (h : M.2.1 188 s.toNatClampNeg = 6) (hs : vp_in s 50) (hp : rk_p [2, 10, 70, 1, 11] M) : xf_296 M s x = ((((x + s) * 2) * 2) - (1 ^^^ s)) ∧ xm_296 M s x = ([2, 10, 70, 1, 11] : List Int32).foldl xm_287 M ∧ xp_296 M s x := by
  simp only [rk_p] at hp
  refine ⟨?_, ?_, ?_⟩
  · simp (config := {decide := true}) only [xf_285, xf_288, xf_289, xf_290, xf_291, xf_292, xf_293, xf_294, xf_295, xf_296, xf_297, xm_285, xm_288, xm_289, xm_290, xm_291, xm_292, xm_293, xm_294, xm_295, xm_296, xm_297, xf_286, rk_287, h, if_true, if_false]
  · simp (config := {decide := true}) only [xm_285, xm_288, xm_289, xm_290, xm_291, xm_292, xm_293, xm_294, xm_295, xm_296, xm_297, xf_286, rk_287, h, if_true, if_false, List.foldl_cons, List.foldl_nil]
  · simp (config := {decide := true}) only [xp_285, xp_288, xp_289, xp_290, xp_291, xp_292, xp_293, xp_294, xp_295, xp_296, xp_297, xm_285, xm_288, xm_289, xm_290, xm_291, xm_292, xm_293, xm_294, xm_295, xm_296, xm_297, xf_286, rk_287, h, hs, hp, if_true, if_false, true_implies, false_implies, not_true, not_false_iff, true_and, and_true, and_self]
theorem rk_7_0 {M : ro_Mm} {s x : Int32} (h : M.2.1 188 s.toNatClampNeg = 7) (hs : vp_in s 50) (hp : rk_p [81, 70, 1] M) : xf_285 M s x = (((x + s) * 2) - 1) ∧ xm_285 M s x = ([81, 70, 1] : List Int32).foldl xm_287 M ∧ xp_285 M s x := by
  simp only [rk_p] at hp
  refine ⟨?_, ?_, ?_⟩
  · simp (config := {decide := true}) only [xf_285, xf_288, xf_289, xf_290, xf_291, xf_292, xf_293, xf_294, xf_295, xf_296, xf_297, xm_285, xm_288, xm_289, xm_290, xm_291, xm_292, xm_293, xm_294, xm_295, xm_296, xm_297, xf_286, rk_287, h, if_true, if_false]
  · simp (config := {decide := true}) only [xm_285, xm_288, xm_289, xm_290, xm_291, xm_292, xm_293, xm_294, xm_295, xm_296, xm_297, xf_286, rk_287, h, if_true, if_false, List.foldl_cons, List.foldl_nil]
  · simp (config := {decide := true}) only [xp_285, xp_288, xp_289, xp_290, xp_291, xp_292, xp_293, xp_294, xp_295, xp_296, xp_297, xm_285, xm_288, xm_289, xm_290, xm_291, xm_292, xm_293, xm_294, xm_295, xm_296, xm_297, xf_286, rk_287, h, hs, hp, if_true, if_false, true_implies, false_implies, not_true, not_false_iff, true_and, and_true, and_self]
theorem rk_7_1 {M : ro_Mm} {s x : Int32} (h : M.2.1 188 s.toNatClampNeg = 7) (hs : vp_in s 50) (hp : rk_p [80, 10, 81, 70, 1, 11] M) : xf_290 M s x = (((((x + s) * 2) - 1) * 2) + (2 ^^^ s)) ∧ xm_290 M s x = ([80, 10, 81, 70, 1, 11] : List Int32).foldl xm_287 M ∧ xp_290 M s x := by
  simp only [rk_p] at hp
  refine ⟨?_, ?_, ?_⟩
  · simp (config := {decide := true}) only [xf_285, xf_288, xf_289, xf_290, xf_291, xf_292, xf_293, xf_294, xf_295, xf_296, xf_297, xm_285, xm_288, xm_289, xm_290, xm_291, xm_292, xm_293, xm_294, xm_295, xm_296, xm_297, xf_286, rk_287, h, if_true, if_false]
  · simp (config := {decide := true}) only [xm_285, xm_288, xm_289, xm_290, xm_291, xm_292, xm_293, xm_294, xm_295, xm_296, xm_297, xf_286, rk_287, h, if_true, if_false, List.foldl_cons, List.foldl_nil]
  · simp (config := {decide := true}) only [xp_285, xp_288, xp_289, xp_290, xp_291, xp_292, xp_293, xp_294, xp_295, xp_296, xp_297, xm_285, xm_288, xm_289, xm_290, xm_291, xm_292, xm_293, xm_294, xm_295, xm_296, xm_297, xf_286, rk_287, h, hs, hp, if_true, if_false, true_implies, false_implies, not_true, not_false_iff, true_and, and_true, and_self]
theorem rk_7_2 {M : ro_Mm} {s x : Int32} (h : M.2.1 188 s.toNatClampNeg = 7) (hs : vp_in s 50) (hp : rk_p [11] M) : xf_293 M s x = (x ^^^ s) ∧ xm_293 M s x = ([11] : List Int32).foldl xm_287 M ∧ xp_293 M s x := by
  simp only [rk_p] at hp
  refine ⟨?_, ?_, ?_⟩
  · simp (config := {decide := true}) only [xf_285, xf_288, xf_289, xf_290, xf_291, xf_292, xf_293, xf_294, xf_295, xf_296, xf_297, xm_285, xm_288, xm_289, xm_290, xm_291, xm_292, xm_293, xm_294, xm_295, xm_296, xm_297, xf_286, rk_287, h, if_true, if_false]
  · simp (config := {decide := true}) only [xm_285, xm_288, xm_289, xm_290, xm_291, xm_292, xm_293, xm_294, xm_295, xm_296, xm_297, xf_286, rk_287, h, if_true, if_false, List.foldl_cons, List.foldl_nil]
  · simp (config := {decide := true}) only [xp_285, xp_288, xp_289, xp_290, xp_291, xp_292, xp_293, xp_294, xp_295, xp_296, xp_297, xm_285, xm_288, xm_289, xm_290, xm_291, xm_292, xm_293, xm_294, xm_295, xm_296, xm_297, xf_286, rk_287, h, hs, hp, if_true, if_false, true_implies, false_implies, not_true, not_false_iff, true_and, and_true, and_self]
theorem rk_7_3 {M : ro_Mm} {s x : Int32} (h : M.2.1 188 s.toNatClampNeg = 7) (hs : vp_in s 50) (hp : rk_p [2, 80, 10, 81, 70, 1, 11, 11] M) : xf_296 M s x = ((((((x + s) * 2) - 1) * 2) + (2 ^^^ s)) - (1 ^^^ s)) ∧ xm_296 M s x = ([2, 80, 10, 81, 70, 1, 11, 11] : List Int32).foldl xm_287 M ∧ xp_296 M s x := by
  simp only [rk_p] at hp
  refine ⟨?_, ?_, ?_⟩
  · simp (config := {decide := true}) only [xf_285, xf_288, xf_289, xf_290, xf_291, xf_292, xf_293, xf_294, xf_295, xf_296, xf_297, xm_285, xm_288, xm_289, xm_290, xm_291, xm_292, xm_293, xm_294, xm_295, xm_296, xm_297, xf_286, rk_287, h, if_true, if_false]
  · simp (config := {decide := true}) only [xm_285, xm_288, xm_289, xm_290, xm_291, xm_292, xm_293, xm_294, xm_295, xm_296, xm_297, xf_286, rk_287, h, if_true, if_false, List.foldl_cons, List.foldl_nil]
  · simp (config := {decide := true}) only [xp_285, xp_288, xp_289, xp_290, xp_291, xp_292, xp_293, xp_294, xp_295, xp_296, xp_297, xm_285, xm_288, xm_289, xm_290, xm_291, xm_292, xm_293, xm_294, xm_295, xm_296, xm_297, xf_286, rk_287, h, hs, hp, if_true, if_false, true_implies, false_implies, not_true, not_false_iff, true_and, and_true, and_self]
end ACT

