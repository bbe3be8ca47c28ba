/-! evenings in thought: the row read, offer by offer; pairs later, evening -/
section EVENING
variable {X : ro_Sx}
theorem ev_irem2 {b : Int32} (h : ¬ b < 0) : ro_irem b 2 = 0 ∨ ro_irem b 2 = 1 := by
  obtain ⟨n, hn, e⟩ := nI_of h
  have e2 : ro_irem b 2 = nI (n % 2) := by rw [e]; exact nI_rem (b := 2) hn (by decide)
  rw [e2]
  rcases Nat.mod_two_eq_zero_or_one n with z | z <;> rw [z]
  · exact Or.inl rfl
  · exact Or.inr rfl
theorem ev_57_i {M : ro_Mm} {p : Nat} (hp : p ≤ 6) (e1 : M.2.1 5 4 = nI p) {v w : Int32} (hv : xf_57 M v w = true) : ∃ i j, i < p ∧ j < p ∧ i ≠ j ∧ v = nI i ∧ w = nI j := by
  unfold xf_57 at hv
  by_cases a : v = w
  · rw [if_pos a] at hv; cases hv
  · rw [if_neg a] at hv
    by_cases b : xf_29 M v = true
    · rw [if_pos b] at hv
      by_cases c : xf_29 M w = true
      · obtain ⟨i, hi, ei⟩ := ro_one_i hp e1 b
        obtain ⟨j, hj, ej⟩ := ro_one_i hp e1 c
        exact ⟨i, j, hi, hj, fun q => a (by rw [ei, ej, q]), ei, ej⟩
      · rw [if_neg c] at hv; cases hv
    · rw [if_neg b] at hv; cases hv
/-- an offer, told as a byte -/
def ev_of (M : ro_Mm) (b : Int32) : Prop := ¬ b < 0 ∧ xf_57 M (b / 20) (ro_irem b 20 / 2) = true
theorem ev_239 {M B : ro_Mm} (h : ro_Inv M) (hB : ro_eqv M B) {b : Int32} : (xf_239 B b = true) = ev_of M b := by
  have hb := ro_eqv_i hB h
  have e : ∀ v w, xf_57 B v w = xf_57 M v w := fun v w => by unfold xf_57 xf_29; rw [hB.2.1 5 4 rfl]
  unfold ev_of
  rw [← e]
  unfold xf_239 xf_57
  rw [ro_one_b hb, ro_one_b hb]
  by_cases a : b < 0
  · simp [a]
  · by_cases c : b / 20 = ro_irem b 20 / 2
    · by_cases d : xf_29 B (b / 20) = true <;> by_cases f : xf_29 B (ro_irem b 20 / 2) = true <;> simp [a, c, d, f]
    · by_cases d : xf_29 B (b / 20) = true <;> by_cases f : xf_29 B (ro_irem b 20 / 2) = true <;> simp [a, c, d, f]
/-- the row, as far as it is read -/
def ev_rd (A : ro_Mm) (f : Nat → Int32) (k : Nat) : Prop := ∀ y, y < k → A.2.1 39 y = f y / 20 ∧ A.2.1 40 y = ro_irem (f y) 20 / 2 ∧ A.2.1 41 y = ro_irem (f y) 2
def ev_fr (A B : ro_Mm) : Prop := B.1 = A.1 ∧ B.2.2 = A.2.2 ∧ ∀ a j, a ≠ 39 → a ≠ 40 → a ≠ 41 → ¬ (a = 35 ∧ j = 6) → B.2.1 a j = A.2.1 a j
theorem ev_fr_t {A B C : ro_Mm} (h : ev_fr A B) (g : ev_fr B C) : ev_fr A C := ⟨g.1.trans h.1, g.2.1.trans h.2.1, fun a j n1 n2 n3 n4 => (g.2.2 a j n1 n2 n3 n4).trans (h.2.2 a j n1 n2 n3 n4)⟩
theorem ev_fr_e {M A B : ro_Mm} (h : ro_eqv M A) (g : ev_fr A B) : ro_eqv M B := by
  refine ⟨⟨g.1.trans h.1.1, fun e he => by rw [g.2.1]; exact h.1.2 e he⟩, fun a j e => ?_, fun a j e => by rw [g.2.1]; exact h.2.2 a j e⟩
  refine (g.2.2 a j (ro_lv_ne e rfl) (ro_lv_ne e rfl) (ro_lv_ne e rfl) ?_).trans (h.2.1 a j e)
  rintro ⟨x, y⟩
  rw [x, y] at e
  exact Bool.noConfusion e
theorem ev_66 {M A0 : ro_Mm} (_h : ro_Inv M) {c z : Nat} (hc : ro_is c) {f : Nat → Int32} (hz : z ≤ 60) : ∀ (d k n : Nat) (A : ro_Mm), k + d = 20 → d < n → ev_fr A0 A → ro_eqv M A → A.2.1 c 2 = nI z → (∀ y, y < z → xf_25 A c (nI y) = f y) → A.2.1 35 6 = nI k → ev_rd A f k → (∀ y, y < k → y < z ∧ ev_of M (f y)) →
    xq_66_5 n A c ∧ ∃ len, k ≤ len ∧ len ≤ 20 ∧ len ≤ z ∧ ev_fr A0 (xg_66_5 n A c).2 ∧ ro_eqv M (xg_66_5 n A c).2 ∧ (xg_66_5 n A c).2.2.1 35 6 = nI len ∧ ev_rd (xg_66_5 n A c).2 f len ∧ (∀ y, y < len → y < z ∧ ev_of M (f y)) ∧ (len = 20 ∨ len = z ∨ (len < z ∧ ¬ ev_of M (f len))) := by
  intro d
  induction d with
  | zero =>
    intro k n A hk hn hA hE ec hf e6 hr ho
    cases n with
    | zero => omega
    | succ n =>
      have c0 : (20 : Int32) ≤ A.2.1 35 6 := by rw [e6]; exact nI_le (a := 20) (by omega) (by omega)
      rw [xg_66_5, xq_66_5, if_pos c0]
      refine ⟨⟨fun _ => trivial, fun y => absurd c0 y⟩, k, Nat.le_refl _, by omega, ?_, hA, hE, e6, hr, ho, Or.inl (by omega)⟩
      cases k with
      | zero => exact Nat.zero_le _
      | succ k => exact (ho k (by omega)).1
  | succ d ih =>
    intro k n A hk hn hA hE ec hf e6 hr ho
    have kz : k ≤ z := by
      cases k with
      | zero => exact Nat.zero_le _
      | succ k => exact (ho k (by omega)).1
    cases n with
    | zero => omega
    | succ n =>
      have c0 : ¬ (20 : Int32) ≤ A.2.1 35 6 := by rw [e6]; exact nI_ge (b := 20) (by omega) (by omega)
      by_cases hkz : k < z
      · have c1 : ¬ xf_24 A c ≤ A.2.1 35 6 := by
          show ¬ A.2.1 c 2 ≤ _
          rw [ec, e6]; exact nI_ge hkz (by omega)
        have e57 : ∀ v w, xf_57 A v w = xf_57 M v w := fun v w => by unfold xf_57 xf_29; rw [hE.2.1 5 4 rfl]
        have vk : vp_in (nI k) 20 := ro_vn (by omega) (by omega)
        by_cases c2 : f k < 0
        · rw [xg_66_5, xq_66_5, if_neg c0, if_neg c1, e6, hf k hkz, if_pos c2]
          rw [e6] at c0 c1
          exact ⟨⟨fun y => absurd y c0, fun _ => ⟨fun y => absurd y c1, fun _ => ⟨fun _ => trivial, fun y => absurd c2 y⟩⟩⟩, k, Nat.le_refl _, by omega, kz, hA, hE, e6, hr, ho, Or.inr (Or.inr ⟨hkz, fun q => q.1 c2⟩)⟩
        · by_cases c3 : xf_57 M (f k / 20) (ro_irem (f k) 20 / 2) = true
          · have ek : (nI k).toNatClampNeg = k := nI_clamp (by omega)
            have n1 : c ≠ 39 ∧ c ≠ 40 ∧ c ≠ 41 ∧ c ≠ 35 := by unfold ro_is at hc; omega
            obtain ⟨n39, n40, n41, n35⟩ := n1
            have hfr : ev_fr A (ro_sI (ro_sI (ro_sI (ro_sI A 39 k (f k / 20)) 40 k (ro_irem (f k) 20 / 2)) 41 k (ro_irem (f k) 2)) 35 6 (nI (k + 1))) := by
              refine ⟨rfl, rfl, fun a j n1 n2 n3 n4 => ?_⟩
              rw [ro_rd_s, if_neg n4, ro_sI_ne n3, ro_sI_ne n2, ro_sI_ne n1]
            obtain ⟨i1, len, i2, i3, i4, i5, i6, i7, i8, i9, i10⟩ := ih (k + 1) n (ro_sI (ro_sI (ro_sI (ro_sI A 39 k (f k / 20)) 40 k (ro_irem (f k) 20 / 2)) 41 k (ro_irem (f k) 2)) 35 6 (nI (k + 1))) (by omega) (by omega) (ev_fr_t hA hfr) (ev_fr_e hE hfr)
              (by rw [hfr.2.2 c 2 n39 n40 n41 (fun q => n35 q.1)]; exact ec)
              (fun y hy => by
                rw [← hf y hy]
                unfold xf_25 xf_26
                rw [hfr.2.2 c 2 n39 n40 n41 (fun q => n35 q.1)]
                rfl)
              (by rw [ro_rd_s, if_pos ⟨rfl, rfl⟩])
              (fun y hy => by
                by_cases e : y = k
                · subst e
                  refine ⟨?_, ?_, ?_⟩
                  · rw [ro_sI_ne (by decide), ro_sI_ne (by decide), ro_sI_ne (by decide), ro_rd_s, if_pos ⟨rfl, rfl⟩]
                  · rw [ro_sI_ne (by decide), ro_sI_ne (by decide), ro_rd_s, if_pos ⟨rfl, rfl⟩]
                  · rw [ro_sI_ne (by decide), ro_rd_s, if_pos ⟨rfl, rfl⟩]
                · obtain ⟨r1, r2, r3⟩ := hr y (by omega)
                  refine ⟨?_, ?_, ?_⟩
                  · rw [ro_sI_ne (by decide), ro_sI_ne (by decide), ro_sI_ne (by decide), ro_rd_s, if_neg (fun q => e q.2)]; exact r1
                  · rw [ro_sI_ne (by decide), ro_sI_ne (by decide), ro_rd_s, if_neg (fun q => e q.2), ro_sI_ne (by decide)]; exact r2
                  · rw [ro_sI_ne (by decide), ro_rd_s, if_neg (fun q => e q.2), ro_sI_ne (by decide), ro_sI_ne (by decide)]; exact r3)
              (fun y hy => by
                by_cases e : y = k
                · subst e; exact ⟨hkz, c2, c3⟩
                · exact ho y (by omega))
            rw [xg_66_5, xq_66_5, if_neg c0, if_neg c1, e6, hf k hkz, if_neg c2, e57, if_pos c3, ek, ← nI_succ]
            rw [e6] at c0 c1
            exact ⟨⟨fun y => absurd y c0, fun _ => ⟨fun y => absurd y c1, fun _ => ⟨fun y => absurd y c2, fun _ => ⟨fun _ => ⟨vk, vk, vk, i1⟩, fun y => absurd c3 y⟩⟩⟩⟩, len, by omega, i3, i4, i5, i6, i7, i8, i9, i10⟩
          · rw [xg_66_5, xq_66_5, if_neg c0, if_neg c1, e6, hf k hkz, if_neg c2, e57, if_neg c3]
            rw [e6] at c0 c1
            exact ⟨⟨fun y => absurd y c0, fun _ => ⟨fun y => absurd y c1, fun _ => ⟨fun y => absurd y c2, fun _ => ⟨fun y => absurd y c3, fun _ => trivial⟩⟩⟩⟩, k, Nat.le_refl _, by omega, kz, hA, hE, e6, hr, ho, Or.inr (Or.inr ⟨hkz, fun q => c3 q.2⟩)⟩
      · have c1 : xf_24 A c ≤ A.2.1 35 6 := by
          show A.2.1 c 2 ≤ _
          rw [ec, e6]; exact nI_le (by omega) (by omega)
        rw [xg_66_5, xq_66_5, if_neg c0, if_pos c1]
        exact ⟨⟨fun y => absurd y c0, fun _ => ⟨fun _ => trivial, fun y => absurd c1 y⟩⟩, k, Nat.le_refl _, by omega, kz, hA, hE, e6, hr, ho, Or.inr (Or.inl (by omega))⟩
/-- an evening on a shelf: how long it is -/
def ev_len (M : ro_Mm) (f : Nat → Int32) (z len : Nat) : Prop := len ≤ 20 ∧ len ≤ z ∧ (∀ y, y < len → ev_of M (f y)) ∧ (len = 20 ∨ len = z ∨ (len < z ∧ ¬ ev_of M (f len)))
theorem ev_read {M : ro_Mm} (h : ro_Inv M) {v : Int32} (hv : ro_bs v = true) (hy : xf_22 M (ro_sc v) = true) : ∃ (f : Nat → Int32) (z len : Nat), z ≤ 60 ∧ M.2.1 191 v.toNatClampNeg = nI z ∧ (∀ k, k < z → xf_238 M v (nI k) = f k ∧ xp_238 M v (nI k)) ∧ ev_len M f z len ∧
    xp_66 M (ro_sc v) ∧ ro_eqv M (xm_66 M (ro_sc v)) ∧ ev_fr M (xm_66 M (ro_sc v)) ∧ (xm_66 M (ro_sc v)).2.1 35 6 = nI len ∧ ev_rd (xm_66 M (ro_sc v)) f len := by
  obtain ⟨g0, z, hz, g1, g2, g3⟩ := by_yes h hv hy
  have hc : ro_is (ro_sc v) := ro_sc_is v
  have n35 : ro_sc v ≠ 35 := by unfold ro_is at hc; omega
  have F0 : ev_fr M (ro_sI M 35 6 0) := ⟨rfl, rfl, fun a j _ _ _ n4 => by rw [ro_rd_s, if_neg n4]⟩
  obtain ⟨i1, len, i2, i3, i4, i5, i6, i7, i8, i9, i10⟩ := ev_66 h hc (f := fun k => xf_25 M (ro_sc v) (nI k)) hz 20 0 lp_N (ro_sI M 35 6 0) (by omega) (lp_hug (by omega)) F0 (ev_fr_e (ro_eqv_r h.1) F0)
    (by rw [ro_sI_ne n35]; exact g1)
    (fun y hy => by unfold xf_25 xf_26; rw [ro_sI_ne n35]; rfl)
    (by rw [ro_rd_s, if_pos ⟨rfl, rfl⟩]; rfl) (fun y hy => absurd hy (Nat.not_lt_zero _)) (fun y hy => absurd hy (Nat.not_lt_zero _))
  exact ⟨fun k => xf_25 M (ro_sc v) (nI k), z, len, hz, g2, fun k hk => ⟨(g3 k hk).1.symm, (g3 k hk).2⟩, ⟨i3, i4, fun y hy => (i9 y hy).2, i10⟩, ⟨i1, trivial⟩, i6, i5, i7, i8⟩
theorem ev_237 {M B : ro_Mm} (h : ro_Inv M) (hB : ro_eqv M B) {v : Int32} (hv : vp_in v 6) {f : Nat → Int32} {z len m : Nat} (hz : z ≤ 60) (e191 : M.2.1 191 v.toNatClampNeg = nI z) (hf : ∀ k, k < z → xf_238 M v (nI k) = f k ∧ xp_238 M v (nI k)) (hl : ev_len M f z len) (hm : m ≤ 20) :
    ∀ (d k n : Nat), k + d = 20 → k ≤ min m len → d < n → xg_237_2 n B (nI k) v (nI m) = nI (min m len) ∧ xq_237_2 n B (nI k) v (nI m) := by
  have e1 : B.2.1 191 v.toNatClampNeg = nI z := (hB.2.1 191 _ rfl).trans e191
  have e2 : ∀ k, xf_238 B v k = xf_238 M v k := fun k => by unfold xf_238; rw [hB.2.2 192 _ rfl]
  obtain ⟨l1, l2, l3, l4⟩ := hl
  intro d
  induction d with
  | zero =>
    intro k n hk hkm hn
    cases n with
    | zero => omega
    | succ n =>
      have c0 : nI m ≤ nI k := nI_le (by omega) (by omega)
      rw [xg_237_2, xq_237_2, if_pos c0]
      exact ⟨by congr 1; omega, fun _ => trivial, fun y => absurd c0 y⟩
  | succ d ih =>
    intro k n hk hkm hn
    cases n with
    | zero => omega
    | succ n =>
      by_cases a : k < m
      · have c0 : ¬ nI m ≤ nI k := nI_ge a (by omega)
        by_cases b : k < z
        · have c1 : ¬ nI z ≤ nI k := nI_ge b (by omega)
          obtain ⟨f1, f2⟩ := hf k b
          by_cases o : ev_of M (f k)
          · have hkl : k < len := by
              rcases l4 with q | q | q
              · omega
              · omega
              · by_cases e : k = len
                · rw [e] at o; exact absurd o q.2
                · omega
            have c2 : xf_239 B (f k) = true := by rw [ev_239 h hB]; exact o
            obtain ⟨i1, i2⟩ := ih (k + 1) n (by omega) (by omega) (by omega)
            rw [xg_237_2, xq_237_2, if_neg c0, e1, if_neg c1, e2, f1, if_pos c2, ← nI_succ]
            exact ⟨i1, fun y => absurd y c0, fun _ => ⟨hv, fun y => absurd y c1, fun _ => ⟨f2, fun _ => i2, fun y => absurd c2 y⟩⟩⟩
          · have hkl : k = len := by
              by_cases e : k < len
              · exact absurd (l3 k e) o
              · omega
            have c2 : ¬ xf_239 B (f k) = true := by rw [ev_239 h hB]; exact o
            rw [xg_237_2, xq_237_2, if_neg c0, e1, if_neg c1, e2, f1, if_neg c2]
            exact ⟨by congr 1; omega, fun y => absurd y c0, fun _ => ⟨hv, fun y => absurd y c1, fun _ => ⟨f2, fun y => absurd y c2, fun _ => trivial⟩⟩⟩
        · have c1 : nI z ≤ nI k := nI_le (by omega) (by omega)
          rw [xg_237_2, xq_237_2, if_neg c0, e1, if_pos c1]
          exact ⟨by congr 1; omega, fun y => absurd y c0, fun _ => ⟨hv, fun _ => trivial, fun y => absurd c1 y⟩⟩
      · have c0 : nI m ≤ nI k := nI_le (by omega) (by omega)
        rw [xg_237_2, xq_237_2, if_pos c0]
        exact ⟨by congr 1; omega, fun _ => trivial, fun y => absurd c0 y⟩
/-- what both see while an evening goes on -/
def ev_S (M : ro_Mm) (p : Nat) (f : Nat → Int32) (len : Nat) (A B : ro_Mm) : Prop := ro_eqv M A ∧ ro_eqv M B ∧ A.2.1 35 6 = nI len ∧ ev_rd A f len ∧ (∃ S, pu_at p A 36 S ∧ pu_at p B 180 S) ∧ A.2.1 35 7 = B.2.1 163 29 ∧ A.2.1 35 8 = B.2.1 163 30 ∧ (A.2.1 35 8 = -2 ∨ 0 ≤ A.2.1 35 8) ∧ A.2.1 35 9 = B.2.1 163 31
theorem ro_lv35 {j : Nat} : ro_lv 35 j = false := rfl
theorem ro_lv163 : ro_lv 163 29 = false ∧ ro_lv 163 30 = false ∧ ro_lv 163 31 = false := ⟨rfl, rfl, rfl⟩
theorem ro_eqv_s {M A : ro_Mm} {c j : Nat} {v : Int32} (h : ro_eqv M A) (hc : ro_lv c j = false) : ro_eqv M (ro_sI A c j v) := by
  refine ⟨h.1, fun a b e => ?_, h.2.2⟩
  rw [ro_rd_s, if_neg (fun q => by rw [q.1, q.2, hc] at e; exact Bool.noConfusion e)]
  exact h.2.1 a b e
theorem ev_step {M : ro_Mm} (h : ro_Inv M) {od : Nat → Nat → Int32 → Int32 → Int32} (hod : od_is M od) {p : Nat} (hp : p ≤ 6) (e1 : M.2.1 5 4 = nI p) {f : Nat → Int32} {len : Nat} (hlen : len ≤ 20) {v : Int32} {A B : ro_Mm} (hS : ev_S M p f len A B) {k : Nat} (hk : k < len) (ho : ev_of M (f k)) (hb : xf_238 M v (nI k) = f k ∧ xp_238 M v (nI k)) {n0 m v2 : Int32} (c0 : ¬ n0 ≤ nI k) (c9 : ¬ m ≤ nI k) :
    ∃ A2 B2, ev_S M p f len A2 B2 ∧ (∀ n, xg_67_39 (n + 1) A (nI k) n0 = xg_67_39 n A2 (nI (k + 1)) n0 ∧ (xq_67_39 n A2 (nI (k + 1)) n0 → xq_67_39 (n + 1) A (nI k) n0)) ∧ (∀ n, xg_236_30 (n + 1) B (nI k) m v v2 = xg_236_30 n B2 (nI (k + 1)) m v v2 ∧ (xq_236_30 n B2 (nI (k + 1)) m v v2 → xq_236_30 (n + 1) B (nI k) m v v2)) := by
  obtain ⟨s1, s2, s3, s4, ⟨S, s5, s6⟩, s7, s8, s9, s10⟩ := hS
  obtain ⟨i, j, hi, hj, hij, ei, ej⟩ := ev_57_i hp e1 ho.2
  obtain ⟨r1, r2, r3⟩ := s4 k hk
  have k0 : ¬ nI k < 0 := nI_pos (by omega)
  have k20 : ¬ (20 : Int32) ≤ nI k := nI_ge (b := 20) (by omega) (by omega)
  have ek : (nI k).toNatClampNeg = k := nI_clamp (by omega)
  have f69 : xf_69 A (nI k) = nI i := by unfold xf_69; rw [if_neg k0, if_neg k20, ek, r1, ei]
  have f70 : xf_70 A (nI k) = nI j := by unfold xf_70; rw [if_neg k0, if_neg k20, ek, r2, ej]
  have e238 : xf_238 B v (nI k) = f k := by rw [← hb.1]; unfold xf_238; rw [s2.2.2 192 _ rfl]
  have c1 : ¬ A.2.1 35 6 ≤ nI k := by rw [s3]; exact nI_ge hk (by omega)
  have p36 : ro_ip 36 := by unfold ro_ip; decide
  have hi6 : i < 6 := by omega
  have hj6 : j < 6 := by omega
  have keep : ∀ A2 : ro_Mm, pu_fr A A2 36 → A2.2.1 35 6 = nI len ∧ ev_rd A2 f len ∧ (∀ j, A2.2.1 35 j = A.2.1 35 j) := fun A2 hf =>
    ⟨by rw [hf.2.2 35 6 (by decide) (by decide)]; exact s3, fun y hy => by rw [hf.2.2 39 y (by decide) (by decide), hf.2.2 40 y (by decide) (by decide), hf.2.2 41 y (by decide) (by decide)]; exact s4 y hy, fun j => hf.2.2 35 j (by decide) (by decide)⟩
  -- what can't be
  have NO : ∀ (hA : xf_72 A (nI i) (nI j) (xf_71 A (nI k)) = false ∧ xm_72 A (nI i) (nI j) (xf_71 A (nI k)) = A ∧ xp_72 A (nI i) (nI j) (xf_71 A (nI k)))
      (hB1 : (∀ n, (xg_236_30 (n + 1) B (nI k) m v v2 = if (0 : Int32) ≤ B.2.1 163 30 then xg_236_30 n B (nI k + 1) m v v2 else xg_236_30 n (ro_sI B 163 30 (nI k)) (nI k + 1) m v v2) ∧ (((0 : Int32) ≤ B.2.1 163 30 → xq_236_30 n B (nI k + 1) m v v2) ∧ (¬ (0 : Int32) ≤ B.2.1 163 30 → xq_236_30 n (ro_sI B 163 30 (nI k)) (nI k + 1) m v v2) → xq_236_30 (n + 1) B (nI k) m v v2))),
      ∃ A2 B2, ev_S M p f len A2 B2 ∧ (∀ n, xg_67_39 (n + 1) A (nI k) n0 = xg_67_39 n A2 (nI (k + 1)) n0 ∧ (xq_67_39 n A2 (nI (k + 1)) n0 → xq_67_39 (n + 1) A (nI k) n0)) ∧ (∀ n, xg_236_30 (n + 1) B (nI k) m v v2 = xg_236_30 n B2 (nI (k + 1)) m v v2 ∧ (xq_236_30 n B2 (nI (k + 1)) m v v2 → xq_236_30 (n + 1) B (nI k) m v v2)) := by
    rintro ⟨a1, a2, a3⟩ hB1
    have na : ¬ xf_72 A (nI i) (nI j) (xf_71 A (nI k)) = true := by rw [a1]; decide
    rcases s9 with z | z
    · have zb : ¬ (0 : Int32) ≤ B.2.1 163 30 := by rw [← s8, z]; decide
      refine ⟨ro_sI A 35 8 (nI k), ro_sI B 163 30 (nI k), ⟨ro_eqv_s s1 rfl, ro_eqv_s s2 rfl, ?_, ?_, ⟨S, ?_, ?_⟩, ?_, ?_, ?_, ?_⟩, fun n => ?_, fun n => ?_⟩
      · rw [ro_rd_s, if_neg (by omega)]; exact s3
      · intro y hy
        rw [ro_sI_ne (by decide), ro_sI_ne (by decide), ro_sI_ne (by decide)]; exact s4 y hy
      · exact pu_at_c s5 (fun k _ => ⟨ro_sI_ne (by decide), ro_sI_ne (by decide)⟩)
      · exact pu_at_c s6 (fun k _ => ⟨ro_sI_ne (by decide), ro_sI_ne (by decide)⟩)
      · rw [ro_rd_s, if_neg (by omega), ro_rd_s, if_neg (by omega)]; exact s7
      · rw [ro_rd_s, if_pos ⟨rfl, rfl⟩, ro_rd_s, if_pos ⟨rfl, rfl⟩]
      · rw [ro_rd_s, if_pos ⟨rfl, rfl⟩]; exact Or.inr (nI_pos' (by omega))
      · rw [ro_rd_s, if_neg (by omega), ro_rd_s, if_neg (by omega)]; exact s10
      · rw [xg_67_39, xq_67_39, if_neg c0, if_neg c1, f69, f70, if_neg na, a2, if_pos z, nI_succ]
        exact ⟨rfl, fun g => ⟨fun y => absurd y c0, fun _ => ⟨fun y => absurd y c1, fun _ => ⟨a3, fun y => absurd y na, fun _ => ⟨fun _ => g, fun y => absurd z y⟩⟩⟩⟩⟩
      · obtain ⟨b1, b2⟩ := hB1 n
        rw [b1, if_neg zb, nI_succ]
        exact ⟨rfl, fun g => b2 ⟨fun y => absurd y zb, fun _ => g⟩⟩
    · have zb : (0 : Int32) ≤ B.2.1 163 30 := by rw [← s8]; exact z
      have za : ¬ A.2.1 35 8 = -2 := fun e => by rw [e] at z; exact absurd z (by decide)
      refine ⟨A, B, ⟨s1, s2, s3, s4, ⟨S, s5, s6⟩, s7, s8, Or.inr z, s10⟩, fun n => ?_, fun n => ?_⟩
      · rw [xg_67_39, xq_67_39, if_neg c0, if_neg c1, f69, f70, if_neg na, a2, if_neg za, nI_succ]
        exact ⟨rfl, fun g => ⟨fun y => absurd y c0, fun _ => ⟨fun y => absurd y c1, fun _ => ⟨a3, fun y => absurd y na, fun _ => ⟨fun y => absurd y za, fun _ => g⟩⟩⟩⟩⟩
      · obtain ⟨b1, b2⟩ := hB1 n
        rw [b1, if_pos zb, nI_succ]
        exact ⟨rfl, fun g => b2 ⟨fun _ => g, fun y => absurd zb y⟩⟩
  -- what is, goes on
  have YES : ∀ (A2 : ro_Mm), xf_72 A (nI i) (nI j) (xf_71 A (nI k)) = true → xm_72 A (nI i) (nI j) (xf_71 A (nI k)) = A2 → xp_72 A (nI i) (nI j) (xf_71 A (nI k)) → ∀ n, xg_67_39 (n + 1) A (nI k) n0 = xg_67_39 n A2 (nI (k + 1)) n0 ∧ (xq_67_39 n A2 (nI (k + 1)) n0 → xq_67_39 (n + 1) A (nI k) n0) := by
    intro A2 a1 a2 a3 n
    rw [xg_67_39, xq_67_39, if_neg c0, if_neg c1, f69, f70, if_pos a1, a2, nI_succ]
    exact ⟨rfl, fun g => ⟨fun y => absurd y c0, fun _ => ⟨fun y => absurd y c1, fun _ => ⟨a3, fun _ => g, fun y => absurd a1 y⟩⟩⟩⟩
  have hb2 : xp_238 B v (nI k) := hb.2
  rcases ev_irem2 ho.1 with kd | kd
  · -- a whole one
    have kd1 : ¬ ro_irem (f k) 2 = 1 := by rw [kd]; decide
    have f71 : xf_71 A (nI k) = true := by unfold xf_71; rw [if_neg k0, if_neg k20, ek, r3, if_pos kd]
    obtain ⟨w1, w2⟩ := pu_241 s6 hp hi hj
    have w3 := pu_75 s5 hp hi hj
    by_cases w : pu_mw S i j = true
    · rw [w] at w1 w3
      obtain ⟨o1, o2, o3, o4, o5⟩ := hod.2.1 A 36 i j s1 p36 hi6 hj6
      obtain ⟨o6, o7, o8, o9, o10⟩ := hod.2.2 B i j s2 hi6 hj6
      have sj : A.2.1 (36 + 1) j = B.2.1 181 j ∧ A.2.1 (36 + 2) j = B.2.1 182 j := ⟨(s5 j hj).1.trans (s6 j hj).1.symm, (s5 j hj).2.trans (s6 j hj).2.symm⟩
      rw [sj.1, sj.2] at o1
      have a5 : pu_at p (xm_58 A 36 (nI i) (nI j)) 36 S := pu_at_c s5 (fun y _ => ⟨o4 37 y (by decide) (by decide) (by omega), o4 38 y (by decide) (by decide) (by omega)⟩)
      have a6 : pu_at p (xm_229 B (nI i) (nI j)) 180 S := pu_at_c s6 (fun y _ => ⟨o9 181 y (by decide) (by decide), o9 182 y (by decide) (by decide)⟩)
      have r35 : ∀ y, (xm_58 A 36 (nI i) (nI j)).2.1 35 y = A.2.1 35 y := fun y => o4 35 y (by decide) (by decide) (by omega)
      have rrd : ev_rd (xm_58 A 36 (nI i) (nI j)) f len := fun y hy => by
        rw [o4 39 y (by decide) (by decide) (by omega), o4 40 y (by decide) (by decide) (by omega), o4 41 y (by decide) (by decide) (by omega)]; exact s4 y hy
      have r163 : ∀ y, (xm_229 B (nI i) (nI j)).2.1 163 y = B.2.1 163 y := fun y => o9 163 y (by decide) (by decide)
      have hb7 : (xm_58 A 36 (nI i) (nI j)).2.1 5 7 = B.2.1 168 2 := (o3.2.1 5 7 rfl).trans ((h.2.1.1.2.2.2.2.2.2.2.2.2.1).symm.trans (s2.2.1 168 2 rfl).symm)
      have a1 : xf_72 A (nI i) (nI j) (xf_71 A (nI k)) = true := by unfold xf_72; rw [f71, if_pos rfl, w3, if_pos rfl]
      have a3 : xp_72 A (nI i) (nI j) (xf_71 A (nI k)) := by unfold xp_72; rw [f71, w3]; exact ⟨fun _ => ⟨fun _ => ⟨o2, trivial⟩, fun y => absurd rfl y⟩, fun y => absurd rfl y⟩
      by_cases hab : od i j (B.2.1 181 j) (B.2.1 182 j) < B.2.1 168 2
      · -- taken
        have a2 : xm_72 A (nI i) (nI j) (xf_71 A (nI k)) = xm_78 (xm_58 A 36 (nI i) (nI j)) 36 (nI i) (nI j) := by
          unfold xm_72
          rw [f71, if_pos rfl, w3, if_pos rfl, o1, x30_6, hb7, if_pos hab]; rfl
        obtain ⟨g1, g2⟩ := pu_78 a5 hp hi hj hij
        obtain ⟨g3, g4, g5⟩ := pu_245 a6 hp hi hj hij
        have q243 : ¬ xf_243 B (nI i) (nI j) = true := by unfold xf_243; rw [o6, if_pos hab]; decide
        refine ⟨_, xm_245 (xm_243 B (nI i) (nI j)) (nI i) (nI j), ⟨pu_fr_e (Or.inl rfl) o3 g2, pu_fr_e (Or.inr (Or.inr (Or.inr rfl))) o8 g4, ?_, ?_, ⟨_, g1, g3⟩, ?_, ?_, ?_, ?_⟩, YES _ a1 a2 a3, fun n => ?_⟩
        · rw [g2.2.2 35 6 (by decide) (by decide), r35]; exact s3
        · intro y hy
          rw [g2.2.2 39 y (by decide) (by decide), g2.2.2 40 y (by decide) (by decide), g2.2.2 41 y (by decide) (by decide)]; exact rrd y hy
        · rw [g2.2.2 35 7 (by decide) (by decide), r35]; exact s7.trans ((r163 29).symm.trans (g4.2.2 163 29 (by decide) (by decide)).symm)
        · rw [g2.2.2 35 8 (by decide) (by decide), r35]; exact s8.trans ((r163 30).symm.trans (g4.2.2 163 30 (by decide) (by decide)).symm)
        · rw [g2.2.2 35 8 (by decide) (by decide), r35]; exact s9
        · rw [g2.2.2 35 9 (by decide) (by decide), r35]; exact s10.trans ((r163 31).symm.trans (g4.2.2 163 31 (by decide) (by decide)).symm)
        · rw [xg_236_30, xq_236_30, if_neg c9, e238, ei, ej, if_neg kd1, w1, if_pos rfl, if_neg q243, nI_succ]
          exact ⟨rfl, fun g => ⟨fun y => absurd y c9, fun _ => ⟨hb2, hb2, hb2, fun y => absurd y kd1, fun _ => ⟨w2, fun _ => ⟨⟨o7, trivial⟩, fun y => absurd y q243, fun _ => ⟨g5, g⟩⟩, fun y => absurd rfl y⟩⟩⟩⟩
      · -- refused
        have a2 : xm_72 A (nI i) (nI j) (xf_71 A (nI k)) = xm_76 (xm_58 A 36 (nI i) (nI j)) (nI i) (nI j) true := by
          unfold xm_72
          rw [f71, if_pos rfl, w3, if_pos rfl, o1, x30_6, hb7, if_neg hab]
        obtain ⟨g1, g2⟩ := pu_77 a5 hp hi
        obtain ⟨g3, g4, g5⟩ := pu_244 a6 hp hi
        have q243 : xf_243 B (nI i) (nI j) = true := by unfold xf_243; rw [o6, if_neg hab]
        have e76 : xm_76 (xm_58 A 36 (nI i) (nI j)) (nI i) (nI j) true = ro_sI (ro_sI (xm_77 (xm_58 A 36 (nI i) (nI j)) 36 (nI i)) 35 7 (A.2.1 35 7 + 1)) 35 9 (A.2.1 35 9 ||| (1 : Int32) <<< (nI j &&& 31)) := by
          unfold xm_76
          rw [if_pos rfl, r35, r35]
        rw [e76] at a2
        refine ⟨_, ro_sI (ro_sI (xm_244 (xm_243 B (nI i) (nI j)) (nI i)) 163 29 (B.2.1 163 29 + 1)) 163 31 (B.2.1 163 31 ||| (1 : Int32) <<< (nI j &&& 31)), ⟨ro_eqv_s (ro_eqv_s (pu_fr_e (Or.inl rfl) o3 g2) rfl) rfl, ro_eqv_s (ro_eqv_s (pu_fr_e (Or.inr (Or.inr (Or.inr rfl))) o8 g4) rfl) rfl, ?_, ?_, ⟨_, pu_at_c g1 (fun y _ => ⟨?_, ?_⟩), pu_at_c g3 (fun y _ => ⟨?_, ?_⟩)⟩, ?_, ?_, ?_, ?_⟩, YES _ a1 a2 a3, fun n => ?_⟩
        · rw [ro_rd_s, if_neg (by omega), ro_rd_s, if_neg (by omega), g2.2.2 35 6 (by decide) (by decide), r35]; exact s3
        · intro y hy
          simp only [ro_sI_ne (show (39 : Nat) ≠ 35 by decide), ro_sI_ne (show (40 : Nat) ≠ 35 by decide), ro_sI_ne (show (41 : Nat) ≠ 35 by decide)]
          rw [g2.2.2 39 y (by decide) (by decide), g2.2.2 40 y (by decide) (by decide), g2.2.2 41 y (by decide) (by decide)]; exact rrd y hy
        · rw [ro_sI_ne (by decide), ro_sI_ne (by decide)]
        · rw [ro_sI_ne (by decide), ro_sI_ne (by decide)]
        · rw [ro_sI_ne (by decide), ro_sI_ne (by decide)]; rfl
        · rw [ro_sI_ne (by decide), ro_sI_ne (by decide)]; rfl
        · rw [ro_rd_s, if_neg (by omega), ro_rd_s, if_pos ⟨rfl, rfl⟩, ro_rd_s, if_neg (by omega), ro_rd_s, if_pos ⟨rfl, rfl⟩, s7]
        · rw [ro_rd_s, if_neg (by omega), ro_rd_s, if_neg (by omega), ro_rd_s, if_neg (by omega), ro_rd_s, if_neg (by omega), g2.2.2 35 8 (by decide) (by decide), r35]; exact s8.trans ((r163 30).symm.trans (g4.2.2 163 30 (by decide) (by decide)).symm)
        · rw [ro_rd_s, if_neg (by omega), ro_rd_s, if_neg (by omega), g2.2.2 35 8 (by decide) (by decide), r35]; exact s9
        · rw [ro_rd_s, if_pos ⟨rfl, rfl⟩, ro_rd_s, if_pos ⟨rfl, rfl⟩, s10]
        · rw [xg_236_30, xq_236_30, if_neg c9, e238, ei, ej, if_neg kd1, w1, if_pos rfl, if_pos q243, nI_succ]
          exact ⟨rfl, fun g => ⟨fun y => absurd y c9, fun _ => ⟨hb2, hb2, hb2, fun y => absurd y kd1, fun _ => ⟨w2, fun _ => ⟨⟨o7, trivial⟩, fun _ => ⟨g5, g⟩, fun y => absurd q243 y⟩, fun y => absurd rfl y⟩⟩⟩⟩
    · have wf : pu_mw S i j = false := by cases hq : pu_mw S i j with | true => exact absurd hq w | false => rfl
      rw [wf] at w1 w3
      have nf : ¬ (false = true) := by decide
      refine NO ⟨?_, ?_, ?_⟩ (fun n => ?_)
      · unfold xf_72; rw [f71, if_pos rfl, w3, if_neg nf]
      · unfold xm_72; rw [f71, if_pos rfl, w3, if_neg nf]
      · unfold xp_72; rw [f71, w3]; exact ⟨fun _ => ⟨fun y => absurd y nf, fun _ => trivial⟩, fun y => absurd rfl y⟩
      · rw [xg_236_30, xq_236_30, if_neg c9, e238, ei, ej, if_neg kd1, w1, if_neg nf]
        exact ⟨rfl, fun g => ⟨fun y => absurd y c9, fun _ => ⟨hb2, hb2, hb2, fun y => absurd y kd1, fun _ => ⟨w2, fun y => absurd y nf, fun _ => g⟩⟩⟩⟩
  · -- a notched one
    have f71 : xf_71 A (nI k) = false := by unfold xf_71; rw [if_neg k0, if_neg k20, ek, r3, kd, if_neg (by decide)]
    have nf : ¬ (false = true) := by decide
    obtain ⟨w1, w2⟩ := pu_240 s6 hp hi hj
    have w3 := pu_73 s5 hp hi hj
    by_cases w : pu_mc S i j = true
    · rw [w] at w1 w3
      obtain ⟨g1, g2⟩ := pu_74 s5 hp hi hj hij
      obtain ⟨g3, g4, g5⟩ := pu_242 s6 hp hi hj hij
      obtain ⟨u1, u2, u3⟩ := keep _ g2
      have a1 : xf_72 A (nI i) (nI j) (xf_71 A (nI k)) = true := by unfold xf_72; rw [f71, if_neg nf, w3]
      have a2 : xm_72 A (nI i) (nI j) (xf_71 A (nI k)) = xm_74 A 36 (nI i) (nI j) := by unfold xm_72; rw [f71, if_neg nf, w3, if_pos rfl]
      have a3 : xp_72 A (nI i) (nI j) (xf_71 A (nI k)) := by unfold xp_72; rw [f71]; exact ⟨fun y => absurd y nf, fun _ => trivial⟩
      have r163 : ∀ y, (xm_242 B (nI i) (nI j)).2.1 163 y = B.2.1 163 y := fun y => g4.2.2 163 y (by decide) (by decide)
      refine ⟨_, xm_242 B (nI i) (nI j), ⟨pu_fr_e (Or.inl rfl) s1 g2, pu_fr_e (Or.inr (Or.inr (Or.inr rfl))) s2 g4, u1, u2, ⟨_, g1, g3⟩, ?_, ?_, ?_, ?_⟩, YES _ a1 a2 a3, fun n => ?_⟩
      · rw [u3, r163]; exact s7
      · rw [u3, r163]; exact s8
      · rw [u3]; exact s9
      · rw [u3, r163]; exact s10
      · rw [xg_236_30, xq_236_30, if_neg c9, e238, ei, ej, if_pos kd, w1, if_pos rfl, nI_succ]
        exact ⟨rfl, fun g => ⟨fun y => absurd y c9, fun _ => ⟨hb2, hb2, hb2, fun _ => ⟨w2, fun _ => ⟨g5, g⟩, fun y => absurd rfl y⟩, fun y => absurd kd y⟩⟩⟩
    · have wf : pu_mc S i j = false := by cases hq : pu_mc S i j with | true => exact absurd hq w | false => rfl
      rw [wf] at w1 w3
      refine NO ⟨?_, ?_, ?_⟩ (fun n => ?_)
      · unfold xf_72; rw [f71, if_neg nf, w3]
      · unfold xm_72; rw [f71, if_neg nf, w3, if_neg nf]
      · unfold xp_72; rw [f71]; exact ⟨fun y => absurd y nf, fun _ => trivial⟩
      · rw [xg_236_30, xq_236_30, if_neg c9, e238, ei, ej, if_pos kd, w1, if_neg nf]
        exact ⟨rfl, fun g => ⟨fun y => absurd y c9, fun _ => ⟨hb2, hb2, hb2, fun _ => ⟨w2, fun y => absurd y nf, fun _ => g⟩, fun y => absurd kd y⟩⟩⟩
end EVENING

