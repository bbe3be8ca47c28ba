/-! the law's text: one level over the next, in both -/
section LAW2
def pd (v : Int32) : Bool := if v < 48 then false else if 57 < v then false else true
theorem pd_49 {M : ro_Mm} {v : Int32} : xf_49 M v = pd v := rfl
def pq (z : Nat) (q : Nat → Int32) (a : Nat) : Int32 := if a < z then q a else -1
theorem pd_no {M : ro_Mm} {v l : Int32} (h : pd v = true) : ¬ xf_54 M l v = true ∧ ¬ v = 41 ∧ ¬ v = 63 ∧ ¬ v = 59 ∧ ¬ v = -1 := by
  have hv : 48 ≤ v ∧ v ≤ 57 := by unfold pd at h; grind
  refine ⟨?_, by grind, by grind, by grind, by grind⟩
  unfold xf_54
  rw [if_neg (by grind), if_neg (by grind), if_neg (by grind), if_neg (by grind), if_neg (by grind), if_neg (by grind), if_neg (by grind), if_neg (by grind), if_neg (by grind), if_neg (by grind)]
  decide
theorem pd_54 {M : ro_Mm} {l : Int32} : ¬ xf_54 M l (-1) = true := by
  unfold xf_54
  rw [if_neg (by decide), if_neg (by decide), if_neg (by decide), if_neg (by decide), if_neg (by decide), if_neg (by decide), if_neg (by decide), if_neg (by decide), if_neg (by decide), if_neg (by decide)]
  decide
/-- the text as both have it -/
def pT (bz z : Nat) (t s q : Nat → Int32) : Prop := (z ≤ 120 ∧ bz ≤ 130) ∧ (∀ i, i < z → pk (t i) (q i)) ∧ (∀ i, i < z → pk (s i) (q i))
theorem pT.hz {bz z : Nat} {t s q : Nat → Int32} (h : pT bz z t s q) : z ≤ 120 ∧ bz ≤ 130 := h.1
theorem pT.ht {bz z : Nat} {t s q : Nat → Int32} (h : pT bz z t s q) : ∀ i, i < z → pk (t i) (q i) := h.2.1
theorem pT.hs {bz z : Nat} {t s q : Nat → Int32} (h : pT bz z t s q) : ∀ i, i < z → pk (s i) (q i) := h.2.2
theorem pk_A {bz z : Nat} {t s q : Nat → Int32} (T : pT bz z t s q) {A : ro_Mm} {a : Nat} (h5 : A.2.1 16 5 = nI z) (h17 : ∀ i, i < z → A.2.1 17 i = t i) (h6 : A.2.1 16 6 = nI a) (ha : a ≤ z) : pk (xf_48 A) (pq z q a) := by
  have hz := T.hz
  unfold xf_48 pq
  have c1 : ¬ nI a < 0 := nI_pos (by omega)
  rw [h5, h6, if_neg c1]
  by_cases c : a < z
  · have c2 : ¬ nI z ≤ nI a := nI_ge c (by omega)
    have c3 : ¬ (120 : Int32) ≤ nI a := nI_ge (b := 120) (by omega) (by omega)
    rw [if_neg c2, if_neg c3, if_pos c, nI_clamp (by omega), h17 a c]
    exact T.ht a c
  · have c2 : nI z ≤ nI a := nI_le (by omega) (by omega)
    rw [if_pos c2, if_neg c]
    exact Or.inr ⟨rfl, Or.inl (by decide)⟩
theorem pk_B {bz z : Nat} {t s q : Nat → Int32} (T : pT bz z t s q) {B : ro_Mm} {a : Nat} (h5 : B.2.1 163 14 = nI z) (h17 : ∀ i, i < z → B.2.1 173 i = s i) (h6 : B.2.1 163 15 = nI a) (ha : a ≤ z) : pk (xf_220 B) (pq z q a) ∧ xp_220 B := by
  have hz := T.hz
  unfold xf_220 pq xp_220
  rw [h5, h6]
  by_cases c : a < z
  · have c2 : ¬ nI z ≤ nI a := nI_ge c (by omega)
    rw [if_neg c2, if_pos c, nI_clamp (by omega), h17 a c]
    exact ⟨T.hs a c, fun y => absurd y c2, fun _ => ⟨ro_vn (by omega) (by omega), trivial⟩⟩
  · have c2 : nI z ≤ nI a := nI_le (by omega) (by omega)
    rw [if_pos c2, if_neg c]
    exact ⟨Or.inr ⟨rfl, Or.inl (by decide)⟩, fun _ => trivial, fun y => absurd c2 y⟩
/-- what comes of a part of the text -/
def po (bz z : Nat) (t s q : Nat → Int32) (A B : ro_Mm) (a k o : Nat) (r : Bool × ro_Mm) (B' : ro_Mm) : Prop :=
  pf_A A r.2 ∧ pf_B B B' ∧ ∃ a', a ≤ a' ∧ a' ≤ z ∧
  ((r.1 = true ∧ pl bz A r.2 B B' k ∧ ∃ ws, lw_wf ws ∧ a + ws.length ≤ a' ∧ ps_A z t r.2 a' (k + ws.length) ∧ ps_B bz z s B' a' (k + ws.length) o ∧ pw bz r.2 B' k ws) ∨
   ((r.1 = false ∨ pd (pq z q a') = true) ∧ r.2.2.1 16 6 = nI a' ∧ B'.2.1 163 16 = nI a' ∧ B'.2.1 163 15 = nI a' ∧ ∃ k', (130 : Int32) + B'.2.1 163 18 = nI (bz + k') ∧ k ≤ k' ∧ k' ≤ k + (a' - a) + 1))
def SP (bz z : Nat) (t s q : Nat → Int32) (o : Nat) (C : ro_Mm → Bool × ro_Mm) (CP : ro_Mm → Prop) (R : ro_Mm → ro_Mm) (RP : ro_Mm → Prop) : Prop :=
  ∀ A B a k, ps_A z t A a k → ps_B bz z s B a k o → k ≤ a ∧ 130 ≤ bz + k → a ≤ z → CP A ∧ RP B ∧ po bz z t s q A B a k o (C A) (R B)
abbrev nxA (A : ro_Mm) : ro_Mm := ro_sI A 16 6 (A.2.1 16 6 + 1)
abbrev nxB (B : ro_Mm) : ro_Mm := ro_sI B 163 15 (B.2.1 163 15 + 1)
section LV
variable {bz z : Nat} {t s q : Nat → Int32} {F46 : ro_Mm → Int32 → Int32 → Bool × ro_Mm} {P46 : ro_Mm → Int32 → Int32 → Prop} {F47 : ro_Mm → Int32 → Bool × ro_Mm} {P47 : ro_Mm → Int32 → Prop} {sub : ro_Mm → ro_Mm} {subp : ro_Mm → Prop} {l o : Nat}
/-- a digit is left where the reference has a fault: the class goes on to no end -/
theorem lv_dig (T : pT bz z t s q) {A A' : ro_Mm} {a i n : Nat} (hA : A.2.1 16 5 = nI z) (h17 : ∀ i, i < z → A.2.1 17 i = t i) (hf : pf_A A A') (h6 : A'.2.1 16 6 = nI a) (ha : a ≤ z) (hd : pd (pq z q a) = true) (hi : i < 120) :
    xg_46_26 F46 F47 (n + 1) A' (nI i) (nI l) (nI o) = (false, false, nI i, A') ∧ xq_46_26 F46 P46 F47 P47 (n + 1) A' (nI i) (nI l) (nI o) := by
  have hk := pk_A T (A := A') (by rw [hf.2.2 16 5 (by omega) (by decide)]; exact hA) (fun i hi => by rw [hf.2.2 17 i (by omega) (by decide)]; exact h17 i hi) h6 ha
  have c0 : ¬ (120 : Int32) ≤ nI i := nI_ge (b := 120) (by omega) (by omega)
  have c1 : ¬ xf_54 A' (nI l) (xf_48 A') = true := by rw [pk_54 hk]; exact (pd_no hd).1
  rw [xg_46_26, xq_46_26, if_neg c0, if_neg c1]
  exact ⟨rfl, fun y => absurd y c0, fun _ => ⟨fun y => absurd y c1, fun _ => trivial⟩⟩
theorem lv_loop (T : pT bz z t s q) (hl : l ≤ 4) (hl2 : ¬ nI l = 2) {G : Nat → ro_Mm → ro_Mm} {Q : Nat → ro_Mm → Prop}
    (hsub : SP bz z t s q o (fun A => F46 A (nI l + 1) (nI o)) (fun A => P46 A (nI l + 1) (nI o)) sub subp)
    (hst1 : ∀ n B, 0 ≤ B.2.1 163 16 → G (n + 1) B = B ∧ Q (n + 1) B)
    (hst2 : ∀ n B v, ¬ 0 ≤ B.2.1 163 16 → xp_220 B → pk (xf_220 B) v → ¬ xf_54 B (nI l) v = true → G (n + 1) B = B ∧ Q (n + 1) B)
    (hgo : ∀ n B v, ¬ 0 ≤ B.2.1 163 16 → xp_220 B → pk (xf_220 B) v → xf_54 B (nI l) v = true → G (n + 1) B = G n (xm_222 (sub (nxB B)) v 0) ∧ (subp (nxB B) → xp_222 (sub (nxB B)) v 0 → Q n (xm_222 (sub (nxB B)) v 0) → Q (n + 1) B))
    {A0 B0 : ro_Mm} {a0 k0 : Nat} (hka : k0 ≤ a0 ∧ 130 ≤ bz + k0) :
    ∀ (d a i n n2 : Nat) (A B : ro_Mm) (ws0 : List Int32), a + d = z → d < n → d < n2 → i < a → ps_A z t A a (k0 + ws0.length) → ps_B bz z s B a (k0 + ws0.length) o → pf_A A0 A → pf_B B0 B → pl bz A0 A B0 B k0 → pw bz A B k0 ws0 → lw_wf ws0 → a0 + ws0.length ≤ a →
    xq_46_26 F46 P46 F47 P47 n A (nI i) (nI l) (nI o) ∧ Q n2 B ∧ po bz z t s q A0 B0 a0 k0 o ((if (xg_46_26 F46 F47 n A (nI i) (nI l) (nI o)).1 = true then (xg_46_26 F46 F47 n A (nI i) (nI l) (nI o)).2.1 else true), (xg_46_26 F46 F47 n A (nI i) (nI l) (nI o)).2.2.2) (G n2 B) := by
  have hz := T.hz
  have END : ∀ (a : Nat) (A B : ro_Mm) (ws0 : List Int32), a ≤ z → ps_A z t A a (k0 + ws0.length) → ps_B bz z s B a (k0 + ws0.length) o → pf_A A0 A → pf_B B0 B → pl bz A0 A B0 B k0 → pw bz A B k0 ws0 → lw_wf ws0 → a0 + ws0.length ≤ a → po bz z t s q A0 B0 a0 k0 o (true, A) B := fun a A B ws0 ha hA hB hf hg h1 h2 h3 h4 => ⟨hf, hg, a, by omega, ha, Or.inl ⟨rfl, h1, ws0, h3, h4, hA, hB, h2⟩⟩
  have nf : ¬ (false = true) := by decide
  intro d
  induction d using Nat.strongRecOn with
  | _ d ih =>
    intro a i n n2 A B ws0 hd hn hn2 hi hA hB hf hg hpl hpw hwf hle
    cases n with
    | zero => omega
    | succ n =>
      cases n2 with
      | zero => omega
      | succ n2 =>
        have hk := pk_A T hA.1 hA.2.1 hA.2.2.1 (by omega)
        obtain ⟨hkB, hpB⟩ := pk_B T hB.1 hB.2.1 hB.2.2.1 (by omega)
        have c0 : ¬ (120 : Int32) ≤ nI i := nI_ge (b := 120) (by omega) (by omega)
        have f0 : ¬ 0 ≤ B.2.1 163 16 := by rw [hB.2.2.2.1]; decide
        by_cases j : xf_54 A (nI l) (pq z q a) = true
        · have az : a < z := by
            by_cases c : a < z
            · exact c
            · unfold pq at j; rw [if_neg c] at j; exact absurd j pd_54
          obtain ⟨o1, o2, o3, o4, o5, o6, o7, o8, o9, o10⟩ := pk_op j
          have c1 : xf_54 A (nI l) (xf_48 A) = true := by rw [pk_54 hk]; exact j
          have e48 : xf_48 A = pq z q a := (pk_e hk o9 o10).mpr rfl
          obtain ⟨g1, g2⟩ := hgo n2 B _ f0 hpB hkB j
          obtain ⟨nA, fA, kA⟩ := ps_nA hA
          obtain ⟨nB, fB, kB⟩ := ps_nB hB
          obtain ⟨s1, s2, s3, s4, a', s5, s6, s7⟩ := hsub (nxA A) (nxB B) (a + 1) (k0 + ws0.length) nA nB (by omega) (by omega)
          have plN : pl bz A (nxA A) B (nxB B) (k0 + ws0.length) := fun j _ => ⟨kA j, kB _ _ (by decide), kB _ _ (by decide)⟩
          rw [g1]
          rcases s7 with ⟨r1, r2, ws1, r3, r4, r5, r6, r7⟩ | ⟨r1, r2, r3, r4, k', r5, r6⟩
          · have r1 : (F46 (nxA A) (nI l + 1) (nI o)).1 = true := r1
            have e3 : k0 + ws0.length + ws1.length = k0 + (ws0 ++ ws1).length := by rw [List.length_append]; omega
            rw [e3] at r5 r6
            have l12 : (ws0 ++ ws1).length = ws0.length + ws1.length := List.length_append
            have l1 := wf_pos r3
            obtain ⟨u1, u2, u3, u4, u5, u6, u7⟩ := ps_add (w := -(pq z q a)) (v1 := pq z q a) (v2 := 0) r5 r6 (by omega) (o3.trans o1.symm) o2.symm
            have l4 : (ws0 ++ ws1 ++ [-(pq z q a)]).length = (ws0 ++ ws1).length + 1 := List.length_append
            have e4 : k0 + (ws0 ++ ws1).length + 1 = k0 + (ws0 ++ ws1 ++ [-(pq z q a)]).length := by rw [l4]; omega
            rw [e4] at u1 u2
            have w1 : pw bz (F46 (nxA A) (nI l + 1) (nI o)).2 (sub (nxB B)) k0 (ws0 ++ ws1) := pw_app (pw_l hpw (pl_t plN r2 (Nat.le_refl _)) (Nat.le_refl _)) r7
            have w2 := pw_app (pw_l w1 u5 (Nat.le_refl _)) u6
            obtain ⟨i1, i2, i3⟩ := ih (z - a') (by omega) a' (i + 1) n n2 _ _ (ws0 ++ ws1 ++ [-(pq z q a)]) (by omega) (by omega) (by omega) (by omega) u1 u2 (pf_A_t hf (pf_A_t fA (pf_A_t s3 u3))) (pf_B_t hg (pf_B_t fB (pf_B_t s4 u4))) (pl_t hpl (pl_t (pl_t plN r2 (Nat.le_refl _)) u5 (by omega)) (by omega)) w2 (wf_two hwf r3 o4 o5 o6 o7 o8) (by omega)
            rw [xg_46_26, xq_46_26, if_neg c0, if_pos c1, if_pos r1, if_neg hl2, e48, nI_1 i]
            exact ⟨⟨fun y => absurd y c0, fun _ => ⟨fun _ => ⟨s1, fun _ => ⟨fun y => absurd y hl2, fun _ => i1⟩, fun y => absurd r1 y⟩, fun y => absurd j y⟩⟩, g2 s2 u7 i2, i3⟩
          · obtain ⟨x1, x2, x3, x4⟩ := pf_222 r5 (by omega) (v1 := pq z q a) (v2 := 0)
            have y16 : (xm_222 (sub (nxB B)) (pq z q a) 0).2.1 163 16 = nI a' := (x4 16 (by decide)).trans r3
            have y15 : (xm_222 (sub (nxB B)) (pq z q a) 0).2.1 163 15 = nI a' := (x4 15 (by decide)).trans r4
            obtain ⟨m, em⟩ : ∃ m, n2 = m + 1 := ⟨n2 - 1, by omega⟩
            obtain ⟨m1, em1⟩ : ∃ m, n = m + 1 := ⟨n - 1, by omega⟩
            subst em em1
            obtain ⟨h1, h2⟩ := hst1 m (xm_222 (sub (nxB B)) (pq z q a) 0) (by rw [y16]; exact nI_pos' (by omega))
            have OUT : ∀ (ok : Bool) (A' : ro_Mm), (ok = false ∨ pd (pq z q a') = true) → pf_A (F46 (nxA A) (nI l + 1) (nI o)).2 A' → A'.2.1 16 6 = nI a' → po bz z t s q A0 B0 a0 k0 o (ok, A') (xm_222 (sub (nxB B)) (pq z q a) 0) := fun ok A' hk fk h6 =>
              ⟨pf_A_t hf (pf_A_t fA (pf_A_t s3 fk)), pf_B_t hg (pf_B_t fB (pf_B_t s4 x1)), a', by omega, s6, Or.inr ⟨hk, h6, y16, y15, k' + 1, x3, by omega⟩⟩
            rw [h1]
            by_cases ok : (F46 (nxA A) (nI l + 1) (nI o)).1 = true
            · have hd : pd (pq z q a') = true := by
                rcases r1 with r | r
                · have r : (F46 (nxA A) (nI l + 1) (nI o)).1 = false := r
                  rw [ok] at r; exact absurd r (by decide)
                · exact r
              obtain ⟨p1, p2⟩ := pf_51 (A := (F46 (nxA A) (nI l + 1) (nI o)).2) (w := -(pq z q a))
              have p3 : (xm_51 (F46 (nxA A) (nI l + 1) (nI o)).2 (-(pq z q a))).2.1 16 6 = nI a' := p2.trans r2
              obtain ⟨d1, d2⟩ := lv_dig (F46 := F46) (P46 := P46) (F47 := F47) (P47 := P47) (l := l) (o := o) (i := i + 1) (n := m1) T nA.1 nA.2.1 (pf_A_t s3 p1) p3 s6 hd (by omega)
              rw [xg_46_26, xq_46_26, if_neg c0, if_pos c1, if_pos ok, if_neg hl2, e48, nI_1 i, d1, if_neg nf]
              exact ⟨⟨fun y => absurd y c0, fun _ => ⟨fun _ => ⟨s1, fun _ => ⟨fun y => absurd y hl2, fun _ => d2⟩, fun y => absurd ok y⟩, fun y => absurd j y⟩⟩, g2 s2 x2 h2, OUT true _ (Or.inr hd) p1 p3⟩
            · rw [xg_46_26, xq_46_26, if_neg c0, if_pos c1, if_neg ok, if_pos rfl]
              exact ⟨⟨fun y => absurd y c0, fun _ => ⟨fun _ => ⟨s1, fun y => absurd y ok, fun _ => trivial⟩, fun y => absurd c1 y⟩⟩, g2 s2 x2 h2, OUT false _ (Or.inl rfl) pf_A_r r2⟩
        · have c1 : ¬ xf_54 A (nI l) (xf_48 A) = true := by rw [pk_54 hk]; exact j
          obtain ⟨g1, g2⟩ := hst2 n2 B _ f0 hpB hkB j
          rw [xg_46_26, xq_46_26, if_neg c0, if_neg c1, g1, if_neg nf]
          exact ⟨⟨fun y => absurd y c0, fun _ => ⟨fun y => absurd y c1, fun _ => trivial⟩⟩, g2, END a A B ws0 (by omega) hA hB hf hg hpl hpw hwf hle⟩
theorem lv_all (T : pT bz z t s q) (hl : l ≤ 4) (hl2 : ¬ nI l = 2) {G : Nat → ro_Mm → ro_Mm} {Q : Nat → ro_Mm → Prop}
    (hsub : SP bz z t s q o (fun A => F46 A (nI l + 1) (nI o)) (fun A => P46 A (nI l + 1) (nI o)) sub subp)
    (hst1 : ∀ n B, 0 ≤ B.2.1 163 16 → G (n + 1) B = B ∧ Q (n + 1) B)
    (hst2 : ∀ n B v, ¬ 0 ≤ B.2.1 163 16 → xp_220 B → pk (xf_220 B) v → ¬ xf_54 B (nI l) v = true → G (n + 1) B = B ∧ Q (n + 1) B)
    (hgo : ∀ n B v, ¬ 0 ≤ B.2.1 163 16 → xp_220 B → pk (xf_220 B) v → xf_54 B (nI l) v = true → G (n + 1) B = G n (xm_222 (sub (nxB B)) v 0) ∧ (subp (nxB B) → xp_222 (sub (nxB B)) v 0 → Q n (xm_222 (sub (nxB B)) v 0) → Q (n + 1) B)) :
    SP bz z t s q o (fun A => (xfb_46 F46 F47 A (nI l) (nI o), xmb_46 F46 F47 A (nI l) (nI o))) (fun A => xpb_46 F46 P46 F47 P47 A (nI l) (nI o)) (fun B => G lp_N (sub B)) (fun B => subp B ∧ (Q lp_N (sub B) ∧ True)) := by
  intro A B a k hA hB hka ha
  have hz := T.hz
  obtain ⟨s1, s2, s3, s4, a', s5, s6, s7⟩ := hsub A B a k hA hB hka ha
  have c4 : nI l ≤ 4 := nI_le (b := 4) hl (by omega)
  obtain ⟨m, em⟩ := lp_9
  have nf : ¬ (false = true) := by decide
  rcases s7 with ⟨r1, r2, ws1, r3, r4, r5, r6, r7⟩ | ⟨r1, r2, r3, r4, k', r5, r6⟩
  · have r1 : (F46 A (nI l + 1) (nI o)).1 = true := r1
    have l1 := wf_pos r3
    obtain ⟨i1, i2, i3⟩ := lv_loop (F47 := F47) (P47 := P47) T hl hl2 hsub hst1 hst2 hgo hka (z - a') a' 0 lp_N lp_N _ _ ws1 (by omega) (lp_hug (by omega)) (lp_hug (by omega)) (by omega) r5 r6 s3 s4 r2 r7 r3 r4
    rw [nI_0] at i1 i3
    refine ⟨?_, ⟨s2, i2, trivial⟩, ?_⟩
    · unfold xpb_46
      exact ⟨fun _ => ⟨s1, fun _ => ⟨i1, trivial⟩, fun y => absurd r1 y⟩, fun y => absurd c4 y⟩
    · dsimp only
      unfold xfb_46 xmb_46
      rw [if_pos c4, if_pos c4, if_pos r1, if_pos r1]
      exact i3
  · obtain ⟨h1, h2⟩ := hst1 (m + 8) (sub B) (by rw [r3]; exact nI_pos' (by omega))
    have eG : G lp_N (sub B) = sub B := by rw [em]; exact h1
    have eQ : Q lp_N (sub B) := by rw [em]; exact h2
    by_cases ok : (F46 A (nI l + 1) (nI o)).1 = true
    · have hd : pd (pq z q a') = true := by
        rcases r1 with r | r
        · have r : (F46 A (nI l + 1) (nI o)).1 = false := r
          rw [ok] at r; exact absurd r (by decide)
        · exact r
      obtain ⟨d1, d2⟩ := lv_dig (F46 := F46) (P46 := P46) (F47 := F47) (P47 := P47) (l := l) (o := o) (i := 0) (n := m + 8) T hA.1 hA.2.1 s3 r2 s6 hd (by omega)
      rw [nI_0, show m + 8 + 1 = m + 9 from rfl, ← em] at d1 d2
      refine ⟨?_, ⟨s2, eQ, trivial⟩, ?_⟩
      · unfold xpb_46
        exact ⟨fun _ => ⟨s1, fun _ => ⟨d2, trivial⟩, fun y => absurd ok y⟩, fun y => absurd c4 y⟩
      · dsimp only
        unfold xfb_46 xmb_46
        rw [if_pos c4, if_pos c4, if_pos ok, if_pos ok, d1, if_neg nf, eG]
        exact ⟨s3, s4, a', s5, s6, Or.inr ⟨Or.inr hd, r2, r3, r4, k', r5, r6⟩⟩
    · refine ⟨?_, ⟨s2, eQ, trivial⟩, ?_⟩
      · unfold xpb_46
        exact ⟨fun _ => ⟨s1, fun y => absurd y ok, fun _ => trivial⟩, fun y => absurd c4 y⟩
      · dsimp only
        unfold xfb_46 xmb_46
        rw [if_pos c4, if_pos c4, if_neg ok, if_neg ok, eG]
        exact ⟨s3, s4, a', s5, s6, Or.inr ⟨Or.inl rfl, r2, r3, r4, k', r5, r6⟩⟩
end LV
end LAW2

