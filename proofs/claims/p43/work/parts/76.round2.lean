/-! rounds, the class's: the offers read, the search -/
section ROUND2
theorem rd_prune2 (od : Nat → Nat → Int32 → Int32 → Int32) (hab : Int32) (fa fb : Nat → Nat) : ∀ (d k : Nat) (S : pu_T) (r ks : Nat) (v : Int32) (k0 : Nat), ¬ nI r < v → r + d ≤ 100 → rd_ds od hab fa fb (fun _ r => nI r) (fun x y => decide (x < y)) d k S r ks (some (v, k0)) = some (v, k0)
  | 0, k, S, r, ks, v, k0, h, hr => by
    rw [rd_ds]
    show (if decide (nI r < v) = true then _ else _) = _
    rw [if_neg (by simp [h])]
  | d + 1, k, S, r, ks, v, k0, h, hr => by
    rw [rd_ds]
    have ib : ∀ {c : Nat} {S2 : pu_T} {i : Nat}, rd_st od hab fa fb S k c = some (S2, i) → i ≤ 1 := by
      intro c S2 i hs
      unfold rd_st at hs
      by_cases c1 : c = 1
      · rw [if_pos c1] at hs
        by_cases c2 : pu_mc S (fa k) (fb k) = true
        · rw [if_pos c2] at hs
          have := congrArg Prod.snd (Option.some.inj hs)
          have : 0 = i := this
          omega
        · rw [if_neg c2] at hs; cases hs
      · rw [if_neg c1] at hs
        by_cases c2 : pu_mw S (fa k) (fb k) = true
        · rw [if_pos c2] at hs
          by_cases c3 : od (fa k) (fb k) (S.1 (fb k)) (S.2 (fb k)) < hab
          · rw [if_pos c3] at hs
            have := congrArg Prod.snd (Option.some.inj hs)
            have : 0 = i := this
            omega
          · rw [if_neg c3] at hs
            by_cases c4 : S.2 (fb k) < 20
            · rw [if_pos c4] at hs
              have := congrArg Prod.snd (Option.some.inj hs)
              have : 1 = i := this
              omega
            · rw [if_neg c4] at hs; cases hs
        · rw [if_neg c2] at hs; cases hs
    have up : ∀ i, i ≤ 1 → ¬ nI (r + i) < v := fun i hi q => h (Int32.lt_of_le_of_lt (nI_le (by omega) (by omega)) q)
    cases h0 : rd_st od hab fa fb S k 0 with
    | none =>
      cases h1 : rd_st od hab fa fb S k 1 with
      | none => rfl
      | some x =>
        obtain ⟨S2, i⟩ := x
        have := ib h1
        exact rd_prune2 od hab fa fb d (k + 1) S2 (r + i) (2 * ks + 1) v k0 (up i this) (by omega)
    | some x0 =>
      obtain ⟨S0, i0⟩ := x0
      have b0 := ib h0
      have e0 := rd_prune2 od hab fa fb d (k + 1) S0 (r + i0) (2 * ks) v k0 (up i0 b0) (by omega)
      cases h1 : rd_st od hab fa fb S k 1 with
      | none => exact e0
      | some x =>
        obtain ⟨S2, i⟩ := x
        have := ib h1
        exact (congrArg (fun a => rd_ds od hab fa fb (fun _ r => nI r) (fun x y => decide (x < y)) d (k + 1) S2 (r + i) (2 * ks + 1) a) e0).trans (rd_prune2 od hab fa fb d (k + 1) S2 (r + i) (2 * ks + 1) v k0 (up i this) (by omega))
/-- who, by the bytes -/
def rd_w (f : Nat → Int32) (o k : Nat) : Nat := (f (2 * k + o)).toNatClampNeg
def rd_len (M : ro_Mm) (p : Nat) (f : Nat → Int32) (z N : Nat) : Prop := N ≤ 10 ∧ (∀ y, y < N → 2 * y + 1 < z ∧ xf_57 M (f (2 * y)) (f (2 * y + 1)) = true ∧ rd_w f 0 y < p ∧ rd_w f 1 y < p ∧ rd_w f 0 y ≠ rd_w f 1 y ∧ f (2 * y) = nI (rd_w f 0 y) ∧ f (2 * y + 1) = nI (rd_w f 1 y)) ∧ (N = 10 ∨ z ≤ 2 * N + 1 ∨ (2 * N + 1 < z ∧ ¬ xf_57 M (f (2 * N)) (f (2 * N + 1)) = true))
def rd_fr (A B : ro_Mm) : Prop := B.1 = A.1 ∧ B.2.2 = A.2.2 ∧ ∀ a j, a ≠ 46 → a ≠ 47 → ¬ (a = 42 ∧ j = 5) → B.2.1 a j = A.2.1 a j
theorem rd_fr_t {A B C : ro_Mm} (h : rd_fr A B) (g : rd_fr B C) : rd_fr A C := ⟨g.1.trans h.1, g.2.1.trans h.2.1, fun a j n1 n2 n3 => (g.2.2 a j n1 n2 n3).trans (h.2.2 a j n1 n2 n3)⟩
theorem rd_fr_e {M A B : ro_Mm} (h : ro_eqv M A) (g : rd_fr A B) : ro_eqv M B := by
  refine ⟨⟨g.1.trans h.1.1, fun e he => by rw [g.2.1]; exact h.1.2 e he⟩, fun a j e => ?_, fun a j e => by rw [g.2.1]; exact h.2.2 a j e⟩
  refine (g.2.2 a j (ro_lv_ne e rfl) (ro_lv_ne e rfl) ?_).trans (h.2.1 a j e)
  rintro ⟨x, y⟩
  rw [x, y] at e
  exact Bool.noConfusion e
def rd_ab (A : ro_Mm) (f : Nat → Int32) (N : Nat) : Prop := ∀ y, y < N → A.2.1 46 y = f (2 * y) ∧ A.2.1 47 y = f (2 * y + 1)
theorem rd_2k (k : Nat) : (2 : Int32) * nI k = nI (2 * k) := nI_mul 2 k
theorem rd_who {M : ro_Mm} {p : Nat} (hp : p ≤ 6) (e1 : M.2.1 5 4 = nI p) {f : Nat → Int32} {y : Nat} (h : xf_57 M (f (2 * y)) (f (2 * y + 1)) = true) : rd_w f 0 y < p ∧ rd_w f 1 y < p ∧ rd_w f 0 y ≠ rd_w f 1 y ∧ f (2 * y) = nI (rd_w f 0 y) ∧ f (2 * y + 1) = nI (rd_w f 1 y) := by
  obtain ⟨i, j, hi, hj, hij, ei, ej⟩ := ev_57_i hp e1 h
  have a : rd_w f 0 y = i := by unfold rd_w; rw [Nat.add_zero, ei]; exact nI_clamp (by omega)
  have b : rd_w f 1 y = j := by unfold rd_w; rw [ej]; exact nI_clamp (by omega)
  rw [a, b]
  exact ⟨hi, hj, hij, ei, ej⟩
theorem rd_84 {M A0 : ro_Mm} (_h : ro_Inv M) {p : Nat} (hp : p ≤ 6) (e1 : M.2.1 5 4 = nI p) {c z : Nat} (hc : ro_is c) {f : Nat → Int32} (hz : z ≤ 60) : ∀ (d k n : Nat) (A : ro_Mm), k + d = 10 → d < n → rd_fr A0 A → ro_eqv M A → A.2.1 c 2 = nI z → (∀ y, y < z → xf_25 A c (nI y) = f y) → A.2.1 42 5 = nI k → rd_ab A f k → (∀ y, y < k → 2 * y + 1 < z ∧ xf_57 M (f (2 * y)) (f (2 * y + 1)) = true) →
    xq_84_5 n A c ∧ ∃ N, rd_len M p f z N ∧ rd_fr A0 (xg_84_5 n A c).2 ∧ ro_eqv M (xg_84_5 n A c).2 ∧ (xg_84_5 n A c).2.2.1 42 5 = nI N ∧ rd_ab (xg_84_5 n A c).2 f N := by
  have n1 : c ≠ 46 ∧ c ≠ 47 ∧ c ≠ 42 := by unfold ro_is at hc; omega
  obtain ⟨n46, n47, n42⟩ := n1
  have LEN : ∀ k, k ≤ 10 → (∀ y, y < k → 2 * y + 1 < z ∧ xf_57 M (f (2 * y)) (f (2 * y + 1)) = true) → (k = 10 ∨ z ≤ 2 * k + 1 ∨ (2 * k + 1 < z ∧ ¬ xf_57 M (f (2 * k)) (f (2 * k + 1)) = true)) → rd_len M p f z k := fun k hk ho hl => ⟨hk, fun y hy => ⟨(ho y hy).1, (ho y hy).2, rd_who hp e1 (ho y hy).2⟩, hl⟩
  intro d
  induction d with
  | zero =>
    intro k n A hk hn hA hE ec hf e6 hr ho
    cases n with
    | zero => omega
    | succ n =>
      have c0 : (10 : Int32) ≤ A.2.1 42 5 := by rw [e6]; exact nI_le (a := 10) (by omega) (by omega)
      rw [xg_84_5, xq_84_5, if_pos c0]
      exact ⟨⟨fun _ => trivial, fun y => absurd c0 y⟩, k, LEN k (by omega) ho (Or.inl (by omega)), hA, hE, e6, hr⟩
  | succ d ih =>
    intro k n A hk hn hA hE ec hf e6 hr ho
    cases n with
    | zero => omega
    | succ n =>
      have c0 : ¬ (10 : Int32) ≤ A.2.1 42 5 := by rw [e6]; exact nI_ge (b := 10) (by omega) (by omega)
      have e2 : (2 : Int32) * A.2.1 42 5 = nI (2 * k) := by rw [e6]; exact rd_2k k
      by_cases hkz : 2 * k + 1 < z
      · have c1 : ¬ xf_24 A c ≤ nI (2 * k) + 1 := by
          show ¬ A.2.1 c 2 ≤ _
          rw [ec, nI_1]; exact nI_ge hkz (by omega)
        have e57 : ∀ v w, xf_57 A v w = xf_57 M v w := fun v w => by unfold xf_57 xf_29; rw [hE.2.1 5 4 rfl]
        have vk : vp_in (A.2.1 42 5) 10 := by rw [e6]; exact ro_vn (by omega) (by omega)
        have ek : (A.2.1 42 5).toNatClampNeg = k := by rw [e6]; exact nI_clamp (by omega)
        by_cases c3 : xf_57 M (f (2 * k)) (f (2 * k + 1)) = true
        · have hfr : rd_fr A (ro_sI (ro_sI (ro_sI A 46 k (f (2 * k))) 47 k (f (2 * k + 1))) 42 5 (nI (k + 1))) := by
            refine ⟨rfl, rfl, fun a j n1 n2 n3 => ?_⟩
            rw [ro_rd_s, if_neg n3, ro_sI_ne n2, ro_sI_ne n1]
          obtain ⟨i1, N, i2, i3, i4, i5, i6⟩ := ih (k + 1) n _ (by omega) (by omega) (rd_fr_t hA hfr) (rd_fr_e hE hfr)
            (by rw [hfr.2.2 c 2 n46 n47 (fun q => n42 q.1)]; exact ec)
            (fun y hy => by
              rw [← hf y hy]
              unfold xf_25 xf_26
              rw [hfr.2.2 c 2 n46 n47 (fun q => n42 q.1)]
              rfl)
            (by rw [ro_rd_s, if_pos ⟨rfl, rfl⟩])
            (fun y hy => by
              by_cases e : y = k
              · subst e
                refine ⟨?_, ?_⟩
                · rw [ro_sI_ne (by decide), ro_sI_ne (by decide), ro_rd_s, if_pos ⟨rfl, rfl⟩]
                · rw [ro_sI_ne (by decide), ro_rd_s, if_pos ⟨rfl, rfl⟩]
              · obtain ⟨r1, r2⟩ := hr y (by omega)
                refine ⟨?_, ?_⟩
                · rw [ro_sI_ne (by decide), ro_sI_ne (by decide), ro_rd_s, if_neg (fun q => e q.2)]; exact r1
                · rw [ro_sI_ne (by decide), ro_rd_s, if_neg (fun q => e q.2), ro_sI_ne (by decide)]; exact r2)
            (fun y hy => by
              by_cases e : y = k
              · subst e; exact ⟨hkz, c3⟩
              · exact ho y (by omega))
          rw [xg_84_5, xq_84_5, if_neg c0, e2, if_neg c1, nI_1, hf _ (by omega), hf _ (by omega), e57, if_pos c3, ek, e6, nI_1]
          rw [e6] at c0 vk
          rw [nI_1] at c1
          exact ⟨⟨fun y => absurd y c0, fun _ => ⟨fun y => absurd y c1, fun _ => ⟨fun _ => ⟨vk, vk, i1⟩, fun y => absurd c3 y⟩⟩⟩, N, i2, i3, i4, i5, i6⟩
        · rw [xg_84_5, xq_84_5, if_neg c0, e2, if_neg c1, nI_1, hf _ (by omega), hf _ (by omega), e57, if_neg c3]
          rw [nI_1] at c1
          exact ⟨⟨fun y => absurd y c0, fun _ => ⟨fun y => absurd y c1, fun _ => ⟨fun y => absurd y c3, fun _ => trivial⟩⟩⟩, k, LEN k (by omega) ho (Or.inr (Or.inr ⟨hkz, c3⟩)), hA, hE, e6, hr⟩
      · have c1 : xf_24 A c ≤ nI (2 * k) + 1 := by
          show A.2.1 c 2 ≤ _
          rw [ec, nI_1]; exact nI_le (by omega) (by omega)
        rw [xg_84_5, xq_84_5, if_neg c0, e2, if_pos c1]
        exact ⟨⟨fun y => absurd y c0, fun _ => ⟨fun _ => trivial, fun y => absurd c1 y⟩⟩, k, LEN k (by omega) ho (Or.inr (Or.inl (by omega))), hA, hE, e6, hr⟩
theorem rd_248 {M B : ro_Mm} (h : ro_Inv M) (hB : ro_eqv M B) {p : Nat} {v : Int32} (hv : vp_in v 6) {f : Nat → Int32} {z N : Nat} (hz : z ≤ 60) (e191 : M.2.1 191 v.toNatClampNeg = nI z) (hf : ∀ k, k < z → xf_238 M v (nI k) = f k ∧ xp_238 M v (nI k)) (hl : rd_len M p f z N) :
    ∀ (d k n : Nat), k + d = 10 → k ≤ N → d < n → xg_248_2 n B (nI k) v = nI N ∧ xq_248_2 n B (nI k) v := by
  have e1 : B.2.1 191 v.toNatClampNeg = nI z := (hB.2.1 191 _ rfl).trans e191
  have e2 : ∀ k, xf_238 B v k = xf_238 M v k := fun k => by unfold xf_238; rw [hB.2.2 192 _ rfl]
  have e29 : ∀ v, xf_204 B v = xf_29 M v := fun v => by rw [ro_one_b (ro_eqv_i hB h)]; unfold xf_29; rw [hB.2.1 5 4 rfl]
  obtain ⟨l1, l3, l4⟩ := hl
  intro d
  induction d with
  | zero =>
    intro k n hk hkm hn
    cases n with
    | zero => omega
    | succ n =>
      have c0 : (10 : Int32) ≤ nI k := nI_le (a := 10) (by omega) (by omega)
      rw [xg_248_2, xq_248_2, if_pos c0]
      exact ⟨by congr 1; omega, fun _ => trivial, fun y => absurd c0 y⟩
  | succ d ih =>
    intro k n hk hkm hn
    cases n with
    | zero => omega
    | succ n =>
      have c0 : ¬ (10 : Int32) ≤ nI k := nI_ge (b := 10) (by omega) (by omega)
      by_cases b : 2 * k + 1 < z
      · have c1 : ¬ nI z ≤ nI (2 * k + 1) := nI_ge b (by omega)
        obtain ⟨f1, f2⟩ := hf (2 * k) (by omega)
        obtain ⟨g1, g2⟩ := hf (2 * k + 1) b
        by_cases o : xf_57 M (f (2 * k)) (f (2 * k + 1)) = true
        · have hkl : k < N := by
            rcases l4 with q | q | q
            · omega
            · omega
            · by_cases e : k = N
              · rw [e] at o; exact absurd o q.2
              · omega
          obtain ⟨i1, i2⟩ := ih (k + 1) n (by omega) (by omega) (by omega)
          have o2 := o
          unfold xf_57 at o2
          have q0 : ¬ f (2 * k) = f (2 * k + 1) := fun q => by rw [if_pos q] at o2; exact Bool.noConfusion o2
          rw [if_neg q0] at o2
          have q1 : xf_29 M (f (2 * k)) = true := by
            by_cases q : xf_29 M (f (2 * k)) = true
            · exact q
            · rw [if_neg q] at o2; exact Bool.noConfusion o2
          rw [if_pos q1] at o2
          have q2 : xf_29 M (f (2 * k + 1)) = true := by
            by_cases q : xf_29 M (f (2 * k + 1)) = true
            · exact q
            · rw [if_neg q] at o2; exact Bool.noConfusion o2
          rw [xg_248_2, xq_248_2, if_neg c0, rd_2k, nI_1, nI_1, e1, if_neg c1, e2, e2, f1, g1, e29, e29, if_pos q1, if_pos q2, if_neg q0]
          exact ⟨i1, fun y => absurd y c0, fun _ => ⟨hv, fun y => absurd y c1, fun _ => ⟨f2, fun _ => ⟨g2, fun _ => ⟨f2, g2, fun y => absurd y q0, fun _ => i2⟩, fun y => absurd q2 y⟩, fun y => absurd q1 y⟩⟩⟩
        · have hkl : k = N := by
            by_cases e : k < N
            · exact absurd (l3 k e).2.1 o
            · omega
          subst hkl
          rw [xg_248_2, xq_248_2, if_neg c0, rd_2k, nI_1, nI_1, e1, if_neg c1, e2, e2, f1, g1, e29, e29]
          by_cases q1 : xf_29 M (f (2 * k)) = true
          · by_cases q2 : xf_29 M (f (2 * k + 1)) = true
            · by_cases q0 : f (2 * k) = f (2 * k + 1)
              · rw [if_pos q1, if_pos q2, if_pos q0]
                exact ⟨rfl, fun y => absurd y c0, fun _ => ⟨hv, fun y => absurd y c1, fun _ => ⟨f2, fun _ => ⟨g2, fun _ => ⟨f2, g2, fun _ => trivial, fun y => absurd q0 y⟩, fun y => absurd q2 y⟩, fun y => absurd q1 y⟩⟩⟩
              · exact absurd (by unfold xf_57; rw [if_neg q0, if_pos q1, if_pos q2]) o
            · rw [if_pos q1, if_neg q2]
              exact ⟨rfl, fun y => absurd y c0, fun _ => ⟨hv, fun y => absurd y c1, fun _ => ⟨f2, fun _ => ⟨g2, fun y => absurd y q2, fun _ => trivial⟩, fun y => absurd q1 y⟩⟩⟩
          · rw [if_neg q1]
            exact ⟨rfl, fun y => absurd y c0, fun _ => ⟨hv, fun y => absurd y c1, fun _ => ⟨f2, fun y => absurd y q1, fun _ => trivial⟩⟩⟩
      · have c1 : nI z ≤ nI (2 * k + 1) := nI_le (by omega) (by omega)
        have hkl : k = N := by
          by_cases e : k < N
          · exact absurd (l3 k e).1 b
          · omega
        subst hkl
        rw [xg_248_2, xq_248_2, if_neg c0, rd_2k, nI_1, e1, if_pos c1]
        exact ⟨rfl, fun y => absurd y c0, fun _ => ⟨hv, fun _ => trivial, fun y => absurd c1 y⟩⟩
theorem rd_read {M : ro_Mm} (h : ro_Inv M) {p : Nat} (hp : p ≤ 6) (e1 : M.2.1 5 4 = nI p) {v : Int32} (hv : ro_bs v = true) (hy : xf_22 M (ro_sc v) = true) : ∃ (f : Nat → Int32) (z N : Nat), z ≤ 60 ∧ M.2.1 191 v.toNatClampNeg = nI z ∧ (∀ k, k < z → xf_238 M v (nI k) = f k ∧ xp_238 M v (nI k)) ∧ rd_len M p f z N ∧
    xp_84 M (ro_sc v) ∧ ro_eqv M (xm_84 M (ro_sc v)) ∧ (xm_84 M (ro_sc v)).2.1 42 5 = nI N ∧ rd_ab (xm_84 M (ro_sc v)) f N := by
  obtain ⟨g0, z, hz, g1, g2, g3⟩ := by_yes h hv hy
  have hc : ro_is (ro_sc v) := ro_sc_is v
  have n42 : ro_sc v ≠ 42 := by unfold ro_is at hc; omega
  have F0 : rd_fr M (ro_sI M 42 5 0) := ⟨rfl, rfl, fun a j _ _ n4 => by rw [ro_rd_s, if_neg n4]⟩
  obtain ⟨i1, N, i3, i4, i5, i6, i7⟩ := rd_84 h hp e1 hc (f := fun k => xf_25 M (ro_sc v) (nI k)) hz 10 0 lp_N (ro_sI M 42 5 0) (by omega) (lp_hug (by omega)) F0 (rd_fr_e (ro_eqv_r h.1) F0)
    (by rw [ro_sI_ne n42]; exact g1)
    (fun y hy => by unfold xf_25 xf_26; rw [ro_sI_ne n42]; rfl)
    (by rw [ro_rd_s, if_pos ⟨rfl, rfl⟩]; rfl) (fun y hy => absurd hy (Nat.not_lt_zero _)) (fun y hy => absurd hy (Nat.not_lt_zero _))
  exact ⟨fun k => xf_25 M (ro_sc v) (nI k), z, N, hz, g2, fun k hk => ⟨(g3 k hk).1.symm, (g3 k hk).2⟩, i3, ⟨i1, trivial⟩, i5, i6, i7⟩
end ROUND2

