/-! ways behind an evening: the table by hash chains, one reach -/
section WYE
def wy_hh (k : Int64) : Nat := (((ro_lushr ((k ^^^ (ro_lushr k (32 : Int32))) * (6364136223846793005 : Int64)) (40 : Int32)).toInt32) &&& (1023 : Int32)).toNatClampNeg
theorem wy_hh_x {M : ro_Mm} {k : Int64} : xf_132 M k = nI (wy_hh k) ∧ (xf_132 M k).toNatClampNeg = wy_hh k ∧ wy_hh k < 1024 := by
  obtain ⟨j, hj, e⟩ := pk_andE ((ro_lushr ((k ^^^ (ro_lushr k (32 : Int32))) * (6364136223846793005 : Int64)) (40 : Int32)).toInt32) (m := (1023 : Int32)) 10 (by decide)
  have e2 : wy_hh k = j := by
    unfold wy_hh
    rw [e]
    exact nI_clamp (by omega)
  rw [e2]
  refine ⟨?_, ?_, by omega⟩
  · show _ &&& (1023 : Int32) = nI j
    exact e
  · show ((ro_lushr ((k ^^^ (ro_lushr k (32 : Int32))) * (6364136223846793005 : Int64)) (40 : Int32)).toInt32 &&& (1023 : Int32)).toNatClampNeg = j
    rw [e]
    exact nI_clamp (by omega)
theorem lnt_sI {M : ro_Mm} {c j : Nat} {v : Int32} : lnt (ro_sI M c j v) = lnt M := rfl
theorem lnt_sJ {M : ro_Mm} {c j : Nat} {v : Int64} : lnt (ro_sJ M c j v) = lnt M := rfl
theorem lft_sI {M : ro_Mm} {c j : Nat} {v : Int32} : lft (ro_sI M c j v) = lft M := rfl
theorem wy_sJ_I {M : ro_Mm} {c j : Nat} {v : Int64} {x y : Nat} : (ro_sJ M c j v).2.1 x y = M.2.1 x y := rfl
theorem wy_sI_J {M : ro_Mm} {c j : Nat} {v : Int32} {x y : Nat} : (ro_sI M c j v).2.2.1 x y = M.2.2.1 x y := rfl
theorem wy_sJ_J {M : ro_Mm} {c j : Nat} {v : Int64} {x y : Nat} : (ro_sJ M c j v).2.2.1 x y = if x = c ∧ y = j then v else M.2.2.1 x y := rfl
/-- the last one ahead of s with this hash, by one more; 0: none -/
def wy_pv (key : Nat → Int64) (h : Nat) : Nat → Nat
  | 0 => 0
  | s + 1 => if wy_hh (key s) = h then s + 1 else wy_pv key h s
theorem wy_pv_f {key : Nat → Int64} {h : Nat} : ∀ s, wy_pv key h s ≤ s ∧ (∀ q, wy_pv key h s = q + 1 → wy_hh (key q) = h) ∧ ∀ j, j < s → wy_pv key h s ≤ j → wy_hh (key j) ≠ h
  | 0 => ⟨Nat.le_refl _, fun q e => by have e2 : 0 = q + 1 := e; omega, fun j hj => absurd hj (Nat.not_lt_zero _)⟩
  | s + 1 => by
    obtain ⟨h1, h2, h3⟩ := wy_pv_f (key := key) (h := h) s
    show (if wy_hh (key s) = h then s + 1 else wy_pv key h s) ≤ s + 1 ∧ (∀ q, (if wy_hh (key s) = h then s + 1 else wy_pv key h s) = q + 1 → wy_hh (key q) = h) ∧ ∀ j, j < s + 1 → (if wy_hh (key s) = h then s + 1 else wy_pv key h s) ≤ j → wy_hh (key j) ≠ h
    by_cases e : wy_hh (key s) = h
    · rw [if_pos e]
      exact ⟨Nat.le_refl _, fun q eq => by have : q = s := by omega
                                           rw [this]; exact e, fun j hj g => absurd g (by omega)⟩
    · rw [if_neg e]
      refine ⟨by omega, h2, fun j hj g => ?_⟩
      by_cases z : j = s
      · rw [z]; exact e
      · exact h3 j (by omega) g
theorem wy_pv_c {key key2 : Nat → Int64} {h : Nat} : ∀ s, (∀ j, j < s → key2 j = key j) → wy_pv key2 h s = wy_pv key h s
  | 0, _ => rfl
  | s + 1, e => by
    show (if wy_hh (key2 s) = h then s + 1 else wy_pv key2 h s) = if wy_hh (key s) = h then s + 1 else wy_pv key h s
    rw [wy_pv_c s (fun j hj => e j (by omega)), e s (by omega)]
/-- the table that lies behind cell c: its size, its rows -/
def wy_tb (M : ro_Mm) (c s bd : Nat) (E : Nat → wy_T) : Prop := M.2.1 c 4 = nI s ∧ s ≤ 8192 ∧ (∀ j, j < s → M.2.1 (c + 2) j = nI (E j).1 ∧ M.2.1 (c + 3) j = nI (E j).2.1 ∧ M.2.1 (c + 4) j = nI (E j).2.2 ∧ (E j).2.1 ≤ bd ∧ (E j).2.2 < 1048576 ∧ 1 ≤ (E j).1 ∧ ¬ M.2.2.1 (c + 1) j < 0) ∧ ∀ i j, i < s → j < s → M.2.2.1 (c + 1) i = M.2.2.1 (c + 1) j → i = j
/-- its chains -/
def wy_hx (M : ro_Mm) (c s : Nat) : Prop := (∀ h, h < 1024 → M.2.1 151 h = nI (wy_pv (M.2.2.1 (c + 1)) h s)) ∧ ∀ j, j < s → M.2.1 152 j = nI (wy_pv (M.2.2.1 (c + 1)) (wy_hh (M.2.2.1 (c + 1) j)) j)
def wy_fr (c : Nat) (M M2 : ro_Mm) : Prop := M2.1 = M.1 ∧ M2.2.2.2 = M.2.2.2 ∧ (∀ x j, x ≠ 151 → x ≠ 152 → (x < c ∨ c + 4 < x) → M2.2.1 x j = M.2.1 x j) ∧ ∀ x j, x ≠ c + 1 → M2.2.2.1 x j = M.2.2.1 x j
theorem wy_fr_r (c : Nat) (M : ro_Mm) : wy_fr c M M := ⟨rfl, rfl, fun _ _ _ _ _ => rfl, fun _ _ _ => rfl⟩
theorem wy_fr_t {c : Nat} {M M2 M3 : ro_Mm} (h : wy_fr c M M2) (g : wy_fr c M2 M3) : wy_fr c M M3 := ⟨g.1.trans h.1, g.2.1.trans h.2.1, fun x j a b d => (g.2.2.1 x j a b d).trans (h.2.2.1 x j a b d), fun x j a => (g.2.2.2 x j a).trans (h.2.2.2 x j a)⟩
/-- one row goes on with others -/
def wy_m1 (M : ro_Mm) (c j : Nat) (w f a : Int32) : ro_Mm := ro_sI (ro_sI (ro_sI M (c + 2) j (M.2.1 (c + 2) j + w)) (c + 3) j (ro_min (M.2.1 (c + 3) j) f)) (c + 4) j (M.2.1 (c + 4) j &&& a)
/-- a row more -/
def wy_m2 (M : ro_Mm) (c p : Nat) (k : Int64) (w f a : Int32) (h : Nat) : ro_Mm := ro_sI (ro_sI (ro_sI (ro_sI (ro_sI (ro_sI (ro_sJ M (c + 1) p k) (c + 2) p w) (c + 3) p f) (c + 4) p a) 152 p (M.2.1 151 h)) c 4 (M.2.1 c 4 + 1)) 151 h (M.2.1 c 4 + 1)
section TB
variable {M : ro_Mm} {c s bd : Nat} {E : Nat → wy_T}
theorem wy_look (hc : lnt M = c) (hs : M.2.1 c 4 = nI s) (h8 : s ≤ 8192) (hx : wy_hx M c s) {k : Int64} {w f a : Int32} {v6 : Int32} : ∀ (N t : Nat), t < N → t ≤ s → ∀ n m, m + t ≤ 8192 → t < n →
    xq_131_40 n M (nI m) (nI (wy_pv (M.2.2.1 (c + 1)) (wy_hh k) t) - 1) v6 k w f a ∧
    ((∀ j, j < t → M.2.2.1 (c + 1) j ≠ k) → (xg_131_40 n M (nI m) (nI (wy_pv (M.2.2.1 (c + 1)) (wy_hh k) t) - 1) v6 k w f a).1 = false ∧ (xg_131_40 n M (nI m) (nI (wy_pv (M.2.2.1 (c + 1)) (wy_hh k) t) - 1) v6 k w f a).2.2.2 = M) ∧
    (∀ j, j < t → M.2.2.1 (c + 1) j = k → (∀ i, i < t → M.2.2.1 (c + 1) i = k → i = j) → (xg_131_40 n M (nI m) (nI (wy_pv (M.2.2.1 (c + 1)) (wy_hh k) t) - 1) v6 k w f a).1 = true ∧ (xg_131_40 n M (nI m) (nI (wy_pv (M.2.2.1 (c + 1)) (wy_hh k) t) - 1) v6 k w f a).2.2.2 = wy_m1 M c j w f a) := by
  intro N
  induction N with
  | zero => intro t h; exact absurd h (Nat.not_lt_zero _)
  | succ N ih =>
    intro t _ ht n m hm hn
    cases n with
    | zero => exact absurd hn (Nat.not_lt_zero _)
    | succ n =>
      obtain ⟨p1, p2, p3⟩ := wy_pv_f (key := M.2.2.1 (c + 1)) (h := wy_hh k) t
      by_cases c8 : (8192 : Int32) ≤ nI m
      · have m8 : t = 0 := by
          have := (nI_leI (a := 8192) (b := m) (by decide) (by omega)).mp c8
          omega
        subst m8
        rw [xg_131_40, xq_131_40, if_pos c8]
        exact ⟨⟨fun _ => trivial, fun y => absurd c8 y⟩, fun _ => ⟨rfl, rfl⟩, fun j hj => absurd hj (Nat.not_lt_zero _)⟩
      · cases hq : wy_pv (M.2.2.1 (c + 1)) (wy_hh k) t with
        | zero =>
          have c1 : nI 0 - 1 < 0 := by decide
          rw [xg_131_40, xq_131_40, if_neg c8, if_pos c1]
          refine ⟨⟨fun y => absurd y c8, fun _ => ⟨fun _ => trivial, fun y => absurd c1 y⟩⟩, fun _ => ⟨rfl, rfl⟩, fun j hj ej _ => ?_⟩
          exact absurd (by rw [ej]) (p3 j hj (by omega))
        | succ q =>
          have hq1 := p2 q hq
          have q1 : q < t := by omega
          rw [nI_pred]
          have c1 : ¬ nI q < 0 := nI_pos (by omega)
          have c2 : ¬ M.2.1 (lnt M) 4 ≤ nI q := by rw [hc, hs]; exact nI_ge (by omega) (by omega)
          have c3 : ¬ (8192 : Int32) ≤ nI q := nI_ge (b := 8192) (by omega) (by decide)
          have eq : (nI q).toNatClampNeg = q := nI_clamp (by omega)
          rw [xg_131_40, xq_131_40, if_neg c8, if_neg c1, if_neg c2, if_neg c3, eq]
          by_cases e : M.2.2.1 (c + 1) q = k
          · have c4 : lg_cmp (M.2.2.1 (lnt M + 1) q) k = 0 := by rw [hc]; exact (lg_cmp_eq _ _).mpr e
            rw [if_pos c4]
            refine ⟨⟨fun y => absurd y c8, fun _ => ⟨fun y => absurd y c1, fun _ => ⟨fun y => absurd y c2, fun _ => ⟨fun y => absurd y c3, fun _ => ⟨fun _ => trivial, fun y => absurd c4 y⟩⟩⟩⟩⟩, fun g => absurd e (g q q1), fun j hj ej g => ⟨rfl, ?_⟩⟩
            have e2 := g q q1 e
            subst e2
            simp only [lnt_sI, hc]
            unfold wy_m1
            rw [ro_sI_ne (show c + 3 ≠ c + 2 by omega), ro_sI_ne (show c + 4 ≠ c + 3 by omega), ro_sI_ne (show c + 4 ≠ c + 2 by omega)]
          · have c4 : ¬ lg_cmp (M.2.2.1 (lnt M + 1) q) k = 0 := by rw [hc]; exact fun z => e ((lg_cmp_eq _ _).mp z)
            have e5 : M.2.1 152 q - 1 = nI (wy_pv (M.2.2.1 (c + 1)) (wy_hh k) q) - 1 := by rw [hx.2 q (by omega), hq1]
            rw [if_neg c4, e5, ← nI_succ]
            obtain ⟨i1, i2, i3⟩ := ih q (by omega) (by omega) n (m + 1) (by omega) (by omega)
            refine ⟨⟨fun y => absurd y c8, fun _ => ⟨fun y => absurd y c1, fun _ => ⟨fun y => absurd y c2, fun _ => ⟨fun y => absurd y c3, fun _ => ⟨fun y => absurd y c4, fun _ => i1⟩⟩⟩⟩⟩, fun g => i2 (fun j hj => g j (by omega)), fun j hj ej g => ?_⟩
            have j1 : j < q := by
              by_cases z : j < q
              · exact z
              · by_cases z2 : j = q
                · rw [z2] at ej; exact absurd ej e
                · exact absurd (by rw [ej]) (p3 j hj (by omega))
            exact i3 j j1 ej (fun i hi => g i (by omega))
/-- what a reach comes to -/
theorem wy_131 (hc : lnt M = c) (hs : M.2.1 c 4 = nI s) (h8 : s ≤ 8192) (hx : wy_hx M c s) (hu : ∀ i j, i < s → j < s → M.2.2.1 (c + 1) i = M.2.2.1 (c + 1) j → i = j) {k : Int64} {w f a : Int32} (hr : ¬ k < 0 → (∀ j, j < s → M.2.2.1 (c + 1) j ≠ k) → s < 8192) (hcc : c = 153 ∨ c = 158) :
    xp_131 M k w f a ∧ (k < 0 → xm_131 M k w f a = M) ∧ (¬ k < 0 → ((∀ j, j < s → M.2.2.1 (c + 1) j ≠ k) → xm_131 M k w f a = wy_m2 M c s k w f a (wy_hh k)) ∧ ∀ j, j < s → M.2.2.1 (c + 1) j = k → xm_131 M k w f a = wy_m1 M c j w f a) := by
  obtain ⟨x1, x2, x3⟩ := wy_hh_x (M := M) (k := k)
  by_cases k0 : k < 0
  · have n0 : lg_cmp k 0 < (0 : Int32) := (lg_cmp_lt k 0).mpr k0
    unfold xm_131 xp_131
    rw [if_pos n0]
    exact ⟨⟨fun _ => trivial, fun y => absurd n0 y⟩, fun _ => rfl, fun y => absurd k0 y⟩
  · have n0 : ¬ lg_cmp k 0 < (0 : Int32) := fun z => k0 ((lg_cmp_lt k 0).mp z)
    have n2 : ¬ xf_132 M k < (0 : Int32) := by rw [x1]; exact nI_pos (by omega)
    have n3 : xf_132 M k < (1024 : Int32) := by rw [x1]; exact nI_lt (b := 1024) x3 (by decide)
    obtain ⟨l1, l2, l3⟩ := wy_look (v6 := xf_132 M k) hc hs h8 hx (k := k) (w := w) (f := f) (a := a) (s + 1) s (by omega) (Nat.le_refl _) lp_N 0 (by omega) (lp_hug (by omega))
    have e0 : M.2.1 151 (xf_132 M k).toNatClampNeg - 1 = nI (wy_pv (M.2.2.1 (c + 1)) (wy_hh k) s) - 1 := by rw [x2, hx.1 _ x3]
    rw [nI_0] at l1 l2 l3
    have hfor : ∀ L : Bool × Int32 × Int32 × ro_Mm, xg_131_40 lp_N M (0 : Int32) (nI (wy_pv (M.2.2.1 (c + 1)) (wy_hh k) s) - 1) (xf_132 M k) k w f a = L → (L.1 = true ∨ (L.1 = false ∧ L.2.2.2 = M ∧ s < 8192)) → xp_131 M k w f a ∧ xm_131 M k w f a = if L.1 = true then L.2.2.2 else wy_m2 M c s k w f a (wy_hh k) := by
      intro L hL hLL
      unfold xm_131 xp_131
      rw [e0, hL, if_neg n0, if_neg n2, if_pos n3]
      rcases hLL with y | ⟨y1, y2, y3⟩
      · rw [if_pos y, if_pos y]
        exact ⟨⟨fun z => absurd z n0, fun _ => ⟨fun z => absurd z n2, fun _ => ⟨fun _ => ⟨l1, trivial⟩, fun z => absurd n3 z⟩⟩⟩, rfl⟩
      · have y0 : ¬ L.1 = true := by rw [y1]; decide
        have d1 : ¬ M.2.1 c 4 < 0 := by rw [hs]; exact nI_pos (by omega)
        have d2 : M.2.1 c 4 < (8192 : Int32) := by rw [hs]; exact nI_lt (b := 8192) y3 (by decide)
        have es : (M.2.1 c 4).toNatClampNeg = s := by rw [hs]; exact nI_clamp (by omega)
        rw [if_neg y0, if_neg y0, y2, hc, if_neg d1, if_pos d2]
        refine ⟨⟨fun z => absurd z n0, fun _ => ⟨fun z => absurd z n2, fun _ => ⟨fun _ => ⟨l1, trivial⟩, fun z => absurd n3 z⟩⟩⟩, ?_⟩
        have n1 : (151 : Nat) ≠ c + 4 ∧ (151 : Nat) ≠ c + 3 ∧ (151 : Nat) ≠ c + 2 ∧ c ≠ 151 := by omega
        simp only [lnt_sI, lnt_sJ, hc]
        rw [es, x2]
        unfold wy_m2
        rw [ro_sI_ne n1.1, ro_sI_ne n1.2.1, ro_sI_ne n1.2.2.1, wy_sJ_I]
        congr 1
        rw [ro_rd_s, if_pos ⟨rfl, rfl⟩]
    by_cases g : ∃ j, j < s ∧ M.2.2.1 (c + 1) j = k
    · obtain ⟨j, hj, ej⟩ := g
      obtain ⟨r1, r2⟩ := l3 j hj ej (fun i hi ei => hu i j hi hj (ei.trans ej.symm))
      obtain ⟨z1, z2⟩ := hfor _ rfl (Or.inl r1)
      rw [if_pos r1, r2] at z2
      refine ⟨z1, fun y => absurd y k0, fun _ => ⟨fun y => absurd ej (y j hj), fun i hi ei => ?_⟩⟩
      rw [hu i j hi hj (ei.trans ej.symm)]
      exact z2
    · have g2 : ∀ j, j < s → M.2.2.1 (c + 1) j ≠ k := fun j hj ej => g ⟨j, hj, ej⟩
      obtain ⟨r1, r2⟩ := l2 g2
      obtain ⟨z1, z2⟩ := hfor _ rfl (Or.inr ⟨r1, r2, hr k0 g2⟩)
      rw [if_neg (by rw [r1]; decide)] at z2
      exact ⟨z1, fun y => absurd y k0, fun _ => ⟨fun _ => z2, fun i hi ei => absurd ei (g2 i hi)⟩⟩
theorem wy_min {x y : Nat} (hx : x < 2 ^ 31) (hy : y < 2 ^ 31) : ro_min (nI x) (nI y) = nI (min x y) := by
  unfold ro_min
  by_cases h : y < x
  · rw [if_pos ((nI_ltI hy hx).mpr h), Nat.min_eq_right (by omega)]
  · rw [if_neg (fun q => h ((nI_ltI hy hx).mp q)), Nat.min_eq_left (by omega)]
/-- a table behind a reach -/
theorem wy_rch (hc : lnt M = c) (hcc : c = 153 ∨ c = 158) (ht : wy_tb M c s bd E) (hx : wy_hx M c s) (hbd : bd < 2 ^ 31) {k : Int64} {e : wy_T} (e1 : 1 ≤ e.1) (e2 : e.2.1 ≤ bd) (e3 : e.2.2 < 1048576) (hr : ¬ k < 0 → (∀ j, j < s → M.2.2.1 (c + 1) j ≠ k) → s < 8192) :
    xp_131 M k (nI e.1) (nI e.2.1) (nI e.2.2) ∧ ∃ s2 E2, wy_tb (xm_131 M k (nI e.1) (nI e.2.1) (nI e.2.2)) c s2 bd E2 ∧ wy_hx (xm_131 M k (nI e.1) (nI e.2.1) (nI e.2.2)) c s2 ∧ s2 ≤ s + 1 ∧ wy_fr c M (xm_131 M k (nI e.1) (nI e.2.1) (nI e.2.2)) ∧
      (∀ j, j < s2 → (¬ k < 0 ∧ (xm_131 M k (nI e.1) (nI e.2.1) (nI e.2.2)).2.2.1 (c + 1) j = k) ∨ ∃ i, i < s ∧ (xm_131 M k (nI e.1) (nI e.2.1) (nI e.2.2)).2.2.1 (c + 1) j = M.2.2.1 (c + 1) i) ∧
      ∀ L : Int64 → List (Nat × Nat), wy_pf (fun j => wy_ph (L ((xm_131 M k (nI e.1) (nI e.2.1) (nI e.2.2)).2.2.1 (c + 1) j)) (E2 j)) s2 = wy_mo (wy_pf (fun j => wy_ph (L (M.2.2.1 (c + 1) j)) (E j)) s) (if k < 0 then wy_ne else wy_ph (L k) e) := by
  obtain ⟨t1, t2, t3, t4⟩ := ht
  obtain ⟨r1, r2, r3⟩ := wy_131 (w := nI e.1) (f := nI e.2.1) (a := nI e.2.2) hc t1 t2 hx t4 hr hcc
  refine ⟨r1, ?_⟩
  by_cases k0 : k < 0
  · rw [r2 k0]
    refine ⟨s, E, ⟨t1, t2, t3, t4⟩, hx, by omega, wy_fr_r c M, fun j hj => Or.inr ⟨j, hj, rfl⟩, fun L => ?_⟩
    rw [if_pos k0, wy_ne_r (wy_pf_gd s (fun j _ => wy_gd_ph _ _))]
  · obtain ⟨r4, r5⟩ := r3 k0
    by_cases g : ∃ j, j < s ∧ M.2.2.1 (c + 1) j = k
    · obtain ⟨j, hj, ej⟩ := g
      rw [r5 j hj ej]
      obtain ⟨a1, a2, a3, a4, a5, a6, a7⟩ := t3 j hj
      have m1 : (wy_m1 M c j (nI e.1) (nI e.2.1) (nI e.2.2)).2.2.1 = M.2.2.1 := rfl
      have rdI : ∀ x i, x ≠ c + 2 → x ≠ c + 3 → x ≠ c + 4 → (wy_m1 M c j (nI e.1) (nI e.2.1) (nI e.2.2)).2.1 x i = M.2.1 x i := by
        intro x i n1 n2 n3
        unfold wy_m1
        rw [ro_sI_ne n3, ro_sI_ne n2, ro_sI_ne n1]
      have w1 : M.2.1 (c + 2) j + nI e.1 = nI ((E j).1 + e.1) := by rw [a1, nI_add]
      have w2 : ro_min (M.2.1 (c + 3) j) (nI e.2.1) = nI (min (E j).2.1 e.2.1) := by rw [a2]; exact wy_min (by omega) (by omega)
      have w3 : M.2.1 (c + 4) j &&& nI e.2.2 = nI ((E j).2.2 &&& e.2.2) := by rw [a3]; exact nx_and _ _
      have s2 : ∀ i, (wy_m1 M c j (nI e.1) (nI e.2.1) (nI e.2.2)).2.1 (c + 2) i = if i = j then nI ((E j).1 + e.1) else M.2.1 (c + 2) i := by
        intro i
        unfold wy_m1
        rw [ro_sI_ne (by omega), ro_sI_ne (by omega), ro_rd_s, w1]
        simp only [true_and]
      have s3 : ∀ i, (wy_m1 M c j (nI e.1) (nI e.2.1) (nI e.2.2)).2.1 (c + 3) i = if i = j then nI (min (E j).2.1 e.2.1) else M.2.1 (c + 3) i := by
        intro i
        unfold wy_m1
        rw [ro_sI_ne (by omega), ro_rd_s, w2, ro_sI_ne (by omega)]
        simp only [true_and]
      have s4 : ∀ i, (wy_m1 M c j (nI e.1) (nI e.2.1) (nI e.2.2)).2.1 (c + 4) i = if i = j then nI ((E j).2.2 &&& e.2.2) else M.2.1 (c + 4) i := by
        intro i
        unfold wy_m1
        rw [ro_rd_s, w3, ro_sI_ne (by omega), ro_sI_ne (by omega)]
        simp only [true_and]
      refine ⟨s, fun i => if i = j then wy_mg (E j) e else E i, ⟨?_, t2, fun i hi => ?_, ?_⟩, ?_, by omega, ⟨rfl, rfl, fun x i n1 n2 n3 => rdI x i (by omega) (by omega) (by omega), fun x i _ => by rw [m1]⟩, fun i hi => Or.inr ⟨i, hi, by rw [m1]⟩, fun L => ?_⟩
      · rw [rdI c 4 (by omega) (by omega) (by omega)]; exact t1
      · rw [s2, s3, s4, m1]
        by_cases q : i = j
        · subst q
          simp only [if_true]
          exact ⟨rfl, rfl, rfl, Nat.le_trans (Nat.min_le_left _ _) a4, Nat.lt_of_le_of_lt Nat.and_le_left a5, Nat.le_trans a6 (Nat.le_add_right _ _), a7⟩
        · simp only [if_neg q]
          exact t3 i hi
      · rw [m1]; exact t4
      · refine ⟨fun h hh => ?_, fun i hi => ?_⟩
        · rw [rdI 151 h (by omega) (by omega) (by omega), m1]; exact hx.1 h hh
        · rw [rdI 152 i (by omega) (by omega) (by omega), m1]; exact hx.2 i hi
      · rw [m1, if_neg k0, ← ej]
        refine wy_pf_set s hj ?_ (fun i hi q => ?_)
        · simp only [if_true]
          exact wy_ph_mg _ _ _
        · simp only [if_neg q]
    · have g2 : ∀ j, j < s → M.2.2.1 (c + 1) j ≠ k := fun j hj ej => g ⟨j, hj, ej⟩
      have s8 := hr k0 g2
      rw [r4 g2]
      have x3 := (wy_hh_x (M := M) (k := k)).2.2
      have mJ : ∀ x i, (wy_m2 M c s k (nI e.1) (nI e.2.1) (nI e.2.2) (wy_hh k)).2.2.1 x i = if x = c + 1 ∧ i = s then k else M.2.2.1 x i := fun x i => rfl
      have mK : ∀ i, (wy_m2 M c s k (nI e.1) (nI e.2.1) (nI e.2.2) (wy_hh k)).2.2.1 (c + 1) i = if i = s then k else M.2.2.1 (c + 1) i := by
        intro i
        rw [mJ]
        simp only [true_and]
      have rdI : ∀ x i, x ≠ c → x ≠ c + 2 → x ≠ c + 3 → x ≠ c + 4 → x ≠ 151 → x ≠ 152 → (wy_m2 M c s k (nI e.1) (nI e.2.1) (nI e.2.2) (wy_hh k)).2.1 x i = M.2.1 x i := by
        intro x i n0 n1 n2 n3 n4 n5
        unfold wy_m2
        rw [ro_sI_ne n4, ro_sI_ne n0, ro_sI_ne n5, ro_sI_ne n3, ro_sI_ne n2, ro_sI_ne n1, wy_sJ_I]
      have s0 : (wy_m2 M c s k (nI e.1) (nI e.2.1) (nI e.2.2) (wy_hh k)).2.1 c 4 = nI (s + 1) := by
        unfold wy_m2
        rw [ro_sI_ne (by omega), ro_rd_s, if_pos ⟨rfl, rfl⟩, t1, nI_succ]
      have s2 : ∀ i, (wy_m2 M c s k (nI e.1) (nI e.2.1) (nI e.2.2) (wy_hh k)).2.1 (c + 2) i = if i = s then nI e.1 else M.2.1 (c + 2) i := by
        intro i
        unfold wy_m2
        rw [ro_sI_ne (by omega), ro_sI_ne (by omega), ro_sI_ne (by omega), ro_sI_ne (by omega), ro_sI_ne (by omega), ro_rd_s, wy_sJ_I]
        simp only [true_and]
      have s3 : ∀ i, (wy_m2 M c s k (nI e.1) (nI e.2.1) (nI e.2.2) (wy_hh k)).2.1 (c + 3) i = if i = s then nI e.2.1 else M.2.1 (c + 3) i := by
        intro i
        unfold wy_m2
        rw [ro_sI_ne (by omega), ro_sI_ne (by omega), ro_sI_ne (by omega), ro_sI_ne (by omega), ro_rd_s, ro_sI_ne (by omega), wy_sJ_I]
        simp only [true_and]
      have s4 : ∀ i, (wy_m2 M c s k (nI e.1) (nI e.2.1) (nI e.2.2) (wy_hh k)).2.1 (c + 4) i = if i = s then nI e.2.2 else M.2.1 (c + 4) i := by
        intro i
        unfold wy_m2
        rw [ro_sI_ne (by omega), ro_sI_ne (by omega), ro_sI_ne (by omega), ro_rd_s, ro_sI_ne (by omega), ro_sI_ne (by omega), wy_sJ_I]
        simp only [true_and]
      have s5 : ∀ i, (wy_m2 M c s k (nI e.1) (nI e.2.1) (nI e.2.2) (wy_hh k)).2.1 152 i = if i = s then M.2.1 151 (wy_hh k) else M.2.1 152 i := by
        intro i
        unfold wy_m2
        rw [ro_sI_ne (by omega), ro_sI_ne (by omega), ro_rd_s, ro_sI_ne (by omega), ro_sI_ne (by omega), ro_sI_ne (by omega), wy_sJ_I]
        simp only [true_and]
      have s6 : ∀ i, (wy_m2 M c s k (nI e.1) (nI e.2.1) (nI e.2.2) (wy_hh k)).2.1 151 i = if i = wy_hh k then nI (s + 1) else M.2.1 151 i := by
        intro i
        unfold wy_m2
        rw [ro_rd_s, ro_sI_ne (by omega), ro_sI_ne (by omega), ro_sI_ne (by omega), ro_sI_ne (by omega), ro_sI_ne (by omega), wy_sJ_I, t1, nI_succ]
        simp only [true_and]
      have pc : ∀ h t, t ≤ s → wy_pv ((wy_m2 M c s k (nI e.1) (nI e.2.1) (nI e.2.2) (wy_hh k)).2.2.1 (c + 1)) h t = wy_pv (M.2.2.1 (c + 1)) h t := fun h t ht => wy_pv_c t (fun j hj => by rw [mK, if_neg (by omega)])
      refine ⟨s + 1, fun i => if i = s then e else E i, ⟨s0, by omega, fun i hi => ?_, fun i j hi hj q => ?_⟩, ⟨fun h hh => ?_, fun i hi => ?_⟩, by omega, ⟨rfl, rfl, fun x i n1 n2 n3 => rdI x i (by omega) (by omega) (by omega) (by omega) n1 n2, fun x i n => by rw [mJ, if_neg (fun q => n q.1)]⟩, fun i hi => ?_, fun L => ?_⟩
      · rw [s2, s3, s4, mK]
        by_cases q : i = s
        · simp only [if_pos q]
          exact ⟨trivial, trivial, trivial, e2, e3, e1, k0⟩
        · simp only [if_neg q]
          exact t3 i (by omega)
      · rw [mK, mK] at q
        by_cases z1 : i = s
        · by_cases z2 : j = s
          · omega
          · rw [if_pos z1, if_neg z2] at q
            exact absurd q.symm (g2 j (by omega))
        · by_cases z2 : j = s
          · rw [if_neg z1, if_pos z2] at q
            exact absurd q (g2 i (by omega))
          · rw [if_neg z1, if_neg z2] at q
            exact t4 i j (by omega) (by omega) q
      · show _ = nI (if wy_hh ((wy_m2 M c s k (nI e.1) (nI e.2.1) (nI e.2.2) (wy_hh k)).2.2.1 (c + 1) s) = h then s + 1 else wy_pv ((wy_m2 M c s k (nI e.1) (nI e.2.1) (nI e.2.2) (wy_hh k)).2.2.1 (c + 1)) h s)
        rw [s6, mK, if_pos rfl, pc h s (Nat.le_refl _)]
        by_cases z : h = wy_hh k
        · rw [if_pos z, if_pos z.symm]
        · rw [if_neg z, if_neg (fun q => z q.symm)]
          exact hx.1 h hh
      · rw [s5, mK, pc _ i (by omega)]
        by_cases z : i = s
        · rw [if_pos z, if_pos z, z]
          exact hx.1 _ x3
        · rw [if_neg z, if_neg z]
          exact hx.2 i (by omega)
      · rw [mK]
        by_cases z : i = s
        · rw [if_pos z]; exact Or.inl ⟨k0, rfl⟩
        · rw [if_neg z]; exact Or.inr ⟨i, by omega, rfl⟩
      · rw [if_neg k0]
        show wy_mo (wy_pf _ s) (wy_ph (L ((wy_m2 M c s k (nI e.1) (nI e.2.1) (nI e.2.2) (wy_hh k)).2.2.1 (c + 1) s)) (if s = s then e else E s)) = _
        rw [mK, if_pos rfl, if_pos rfl]
        have e9 : wy_pf (fun j => wy_ph (L ((wy_m2 M c s k (nI e.1) (nI e.2.1) (nI e.2.2) (wy_hh k)).2.2.1 (c + 1) j)) (if j = s then e else E j)) s = wy_pf (fun j => wy_ph (L (M.2.2.1 (c + 1) j)) (E j)) s := wy_pf_c s (fun j hj => by
          show wy_ph (L ((wy_m2 M c s k (nI e.1) (nI e.2.1) (nI e.2.2) (wy_hh k)).2.2.1 (c + 1) j)) (if j = s then e else E j) = wy_ph (L (M.2.2.1 (c + 1) j)) (E j)
          have q : ¬ j = s := by omega
          rw [mK, if_neg q, if_neg q])
        exact congrArg (fun z => wy_mo z (wy_ph (L k) e)) e9
end TB
end WYE

