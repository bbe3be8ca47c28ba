/-! an evening in thought, as the law sees it: purses, how many were refused, the first that can't be, who refused -/
section PLAY
variable {X : ro_Sx} {L : List (List Int32 × List Int32)} {M : ro_Mm}
abbrev ep_T : Type := pu_T × Int32 × Int32 × Int32
def ep_no (k : Nat) (T : ep_T) : ep_T := (T.1, T.2.1, if T.2.2.1 = -2 then nI k else T.2.2.1, T.2.2.2)
def ep_rf (i j : Nat) (T : ep_T) : ep_T := (pu_rf T.1 i, T.2.1 + 1, T.2.2.1, T.2.2.2 ||| (1 : Int32) <<< (nI j &&& 31))
def ep_s (od : Nat → Nat → Int32 → Int32 → Int32) (hb : Int32) (x k : Nat) (T : ep_T) : ep_T :=
  if x % 2 = 0 then
    if pu_mw T.1 (x / 20) (x % 20 / 2) = true then (if od (x / 20) (x % 20 / 2) (T.1.1 (x % 20 / 2)) (T.1.2 (x % 20 / 2)) < hb then (pu_gw T.1 (x / 20) (x % 20 / 2), T.2) else ep_rf (x / 20) (x % 20 / 2) T) else ep_no k T
  else if pu_mc T.1 (x / 20) (x % 20 / 2) = true then (pu_gc T.1 (x / 20) (x % 20 / 2), T.2) else ep_no k T
def ep (od : Nat → Nat → Int32 → Int32 → Int32) (hb : Int32) (g : Nat → Nat) (T : ep_T) : Nat → ep_T
  | 0 => T
  | k + 1 => ep_s od hb (g k) k (ep od hb g T k)
def of_ok (p x : Nat) : Prop := x / 20 < p ∧ x % 20 / 2 < p ∧ x / 20 ≠ x % 20 / 2
theorem of_x {x : Nat} (hx : x < 2 ^ 31) : nI x / 20 = nI (x / 20) ∧ ro_irem (nI x) 20 / 2 = nI (x % 20 / 2) ∧ ro_irem (nI x) 2 = nI (x % 2) := by
  have e : (20 : Int32) = nI 20 := rfl
  have e2 : (2 : Int32) = nI 2 := rfl
  refine ⟨?_, ?_, ?_⟩
  · rw [e, nI_div hx (by decide)]
  · rw [e, nI_rem hx (by decide), e2, nI_div (by omega) (by decide)]
  · rw [e2, nI_rem hx (by decide)]
theorem of_ev {A : ro_Mm} {p x : Nat} (hp : p ≤ 6) (e1 : A.2.1 5 4 = nI p) (hx : x < 2 ^ 31) : ev_of A (nI x) ↔ of_ok p x := by
  obtain ⟨a1, a2, a3⟩ := of_x hx
  unfold ev_of of_ok
  rw [a1, a2]
  constructor
  · rintro ⟨h1, h2⟩
    obtain ⟨i, j, hi, hj, hij, ei, ej⟩ := ev_57_i hp e1 h2
    have f1 : x / 20 = i := (nI_eq (by omega) (by omega)).mp ei
    have f2 : x % 20 / 2 = j := (nI_eq (by omega) (by omega)).mp ej
    rw [f1, f2]
    exact ⟨hi, hj, hij⟩
  · rintro ⟨h1, h2, h3⟩
    exact ⟨nI_pos hx, x57_t hp e1 h1 h2 h3⟩
def ev_C (M : ro_Mm) (p : Nat) (f : Nat → Int32) (len : Nat) (A : ro_Mm) (T : ep_T) : Prop := ro_eqv M A ∧ A.2.1 35 6 = nI len ∧ ev_rd A f len ∧ pu_at p A 36 T.1 ∧ A.2.1 35 7 = T.2.1 ∧ A.2.1 35 8 = T.2.2.1 ∧ (T.2.2.1 = -2 ∨ 0 ≤ T.2.2.1) ∧ A.2.1 35 9 = T.2.2.2
theorem ev_c1 {od : Nat → Nat → Int32 → Int32 → Int32} (hod : od_is M od) {p : Nat} (hp : p ≤ 6) (e1 : M.2.1 5 4 = nI p) {g : Nat → Nat} {len : Nat} (hlen : len ≤ 20) {A : ro_Mm} {T : ep_T} (hS : ev_C M p (fun k => nI (g k)) len A T) {k : Nat} (hk : k < len) (hg : g k < 2 ^ 31) (ho : of_ok p (g k)) {n0 : Int32} (c0 : ¬ n0 ≤ nI k) :
    ∃ A2, ev_C M p (fun k => nI (g k)) len A2 (ep_s od (M.2.1 5 7) (g k) k T) ∧ ∀ n, xg_67_39 (n + 1) A (nI k) n0 = xg_67_39 n A2 (nI (k + 1)) n0 := by
  obtain ⟨s1, s3, s4, s5, s7, s8, s9, s10⟩ := hS
  obtain ⟨hi, hj, hij⟩ := ho
  obtain ⟨x1, x2, x3⟩ := of_x hg
  obtain ⟨r1, r2, r3⟩ := s4 k hk
  simp only [x1, x2, x3] at r1 r2 r3
  generalize hie : g k / 20 = i at *
  generalize hje : g k % 20 / 2 = j at *
  have k0 : ¬ nI k < 0 := nI_pos (by omega)
  have k20 : ¬ (20 : Int32) ≤ nI k := nI_ge (b := 20) (by omega) (by omega)
  have ek : (nI k).toNatClampNeg = k := nI_clamp (by omega)
  have f69 : xf_69 A (nI k) = nI i := by unfold xf_69; rw [if_neg k0, if_neg k20, ek, r1]
  have f70 : xf_70 A (nI k) = nI j := by unfold xf_70; rw [if_neg k0, if_neg k20, ek, r2]
  have c1 : ¬ A.2.1 35 6 ≤ nI k := by rw [s3]; exact nI_ge hk (by omega)
  have p36 : ro_ip 36 := by unfold ro_ip; decide
  have hi6 : i < 6 := by omega
  have hj6 : j < 6 := by omega
  have NO : xf_72 A (nI i) (nI j) (xf_71 A (nI k)) = false ∧ xm_72 A (nI i) (nI j) (xf_71 A (nI k)) = A →
      ∃ A2, ev_C M p (fun k => nI (g k)) len A2 (ep_no k T) ∧ ∀ n, xg_67_39 (n + 1) A (nI k) n0 = xg_67_39 n A2 (nI (k + 1)) n0 := by
    rintro ⟨a1, a2⟩
    have na : ¬ xf_72 A (nI i) (nI j) (xf_71 A (nI k)) = true := by rw [a1]; decide
    by_cases z : T.2.2.1 = -2
    · refine ⟨ro_sI A 35 8 (nI k), ⟨ro_eqv_s s1 rfl, ?_, ?_, ?_, ?_, ?_, ?_, ?_⟩, fun n => ?_⟩
      · rw [ro_rd_s, if_neg (by omega)]; exact s3
      · intro y hy
        rw [ro_sI_ne (by decide), ro_sI_ne (by decide), ro_sI_ne (by decide)]; exact s4 y hy
      · exact pu_at_c s5 (fun k _ => ⟨ro_sI_ne (by decide), ro_sI_ne (by decide)⟩)
      · rw [ro_rd_s, if_neg (by omega)]; exact s7
      · rw [ro_rd_s, if_pos ⟨rfl, rfl⟩]; show nI k = if T.2.2.1 = -2 then nI k else _; rw [if_pos z]
      · refine Or.inr ?_
        show (0 : Int32) ≤ if T.2.2.1 = -2 then nI k else _
        rw [if_pos z]; exact nI_pos' (by omega)
      · rw [ro_rd_s, if_neg (by omega)]; exact s10
      · rw [xg_67_39, if_neg c0, if_neg c1, f69, f70, if_neg na, a2, if_pos (s8.trans z), nI_succ]
    · refine ⟨A, ⟨s1, s3, s4, s5, s7, ?_, ?_, s10⟩, fun n => ?_⟩
      · show _ = if T.2.2.1 = -2 then nI k else _
        rw [if_neg z]; exact s8
      · show (if T.2.2.1 = -2 then nI k else T.2.2.1) = -2 ∨ (0 : Int32) ≤ if T.2.2.1 = -2 then nI k else T.2.2.1
        rw [if_neg z]; exact s9
      · rw [xg_67_39, if_neg c0, if_neg c1, f69, f70, if_neg na, a2, if_neg (fun q => z (s8.symm.trans q)), nI_succ]
  have YES : ∀ (A2 : ro_Mm), xf_72 A (nI i) (nI j) (xf_71 A (nI k)) = true → xm_72 A (nI i) (nI j) (xf_71 A (nI k)) = A2 → ∀ n, xg_67_39 (n + 1) A (nI k) n0 = xg_67_39 n A2 (nI (k + 1)) n0 := by
    intro A2 a1 a2 n
    rw [xg_67_39, if_neg c0, if_neg c1, f69, f70, if_pos a1, a2, nI_succ]
  unfold ep_s
  rw [hie, hje]
  by_cases kd : g k % 2 = 0
  · rw [if_pos kd]
    have f71 : xf_71 A (nI k) = true := by
      unfold xf_71; rw [if_neg k0, if_neg k20, ek, r3, kd]; rfl
    have w3 := pu_75 s5 hp hi hj
    by_cases w : pu_mw T.1 i j = true
    · rw [if_pos w]
      rw [w] at w3
      obtain ⟨o1, o2, o3, o4, o5⟩ := hod.2.1 A 36 i j s1 p36 hi6 hj6
      have sj1 : A.2.1 (36 + 1) j = T.1.1 j := (s5 j hj).1
      have sj2 : A.2.1 (36 + 2) j = T.1.2 j := (s5 j hj).2
      rw [sj1, sj2] at o1
      have a5 : pu_at p (xm_58 A 36 (nI i) (nI j)) 36 T.1 := pu_at_c s5 (fun y _ => ⟨o4 37 y (by decide) (by decide) (by omega), o4 38 y (by decide) (by decide) (by omega)⟩)
      have r35 : ∀ y, (xm_58 A 36 (nI i) (nI j)).2.1 35 y = A.2.1 35 y := fun y => o4 35 y (by decide) (by decide) (by omega)
      have rrd : ev_rd (xm_58 A 36 (nI i) (nI j)) (fun k => nI (g k)) len := fun y hy => by
        rw [o4 39 y (by decide) (by decide) (by omega), o4 40 y (by decide) (by decide) (by omega), o4 41 y (by decide) (by decide) (by omega)]; exact s4 y hy
      have hb7 : (xm_58 A 36 (nI i) (nI j)).2.1 5 7 = M.2.1 5 7 := o3.2.1 5 7 rfl
      have a1 : xf_72 A (nI i) (nI j) (xf_71 A (nI k)) = true := by unfold xf_72; rw [f71, if_pos rfl, w3, if_pos rfl]
      by_cases hab : od i j (T.1.1 j) (T.1.2 j) < M.2.1 5 7
      · rw [if_pos hab]
        have a2 : xm_72 A (nI i) (nI j) (xf_71 A (nI k)) = xm_78 (xm_58 A 36 (nI i) (nI j)) 36 (nI i) (nI j) := by
          unfold xm_72
          rw [f71, if_pos rfl, w3, if_pos rfl, o1, x30_6, hb7, if_pos hab]; rfl
        obtain ⟨g1, g2⟩ := pu_78 a5 hp hi hj hij
        refine ⟨_, ⟨pu_fr_e (Or.inl rfl) o3 g2, ?_, ?_, g1, ?_, ?_, s9, ?_⟩, YES _ a1 a2⟩
        · rw [g2.2.2 35 6 (by decide) (by decide), r35]; exact s3
        · intro y hy
          rw [g2.2.2 39 y (by decide) (by decide), g2.2.2 40 y (by decide) (by decide), g2.2.2 41 y (by decide) (by decide)]; exact rrd y hy
        · rw [g2.2.2 35 7 (by decide) (by decide), r35]; exact s7
        · rw [g2.2.2 35 8 (by decide) (by decide), r35]; exact s8
        · rw [g2.2.2 35 9 (by decide) (by decide), r35]; exact s10
      · rw [if_neg hab]
        have a2 : xm_72 A (nI i) (nI j) (xf_71 A (nI k)) = xm_76 (xm_58 A 36 (nI i) (nI j)) (nI i) (nI j) true := by
          unfold xm_72
          rw [f71, if_pos rfl, w3, if_pos rfl, o1, x30_6, hb7, if_neg hab]
        obtain ⟨g1, g2⟩ := pu_77 a5 hp hi
        have e76 : xm_76 (xm_58 A 36 (nI i) (nI j)) (nI i) (nI j) true = ro_sI (ro_sI (xm_77 (xm_58 A 36 (nI i) (nI j)) 36 (nI i)) 35 7 (A.2.1 35 7 + 1)) 35 9 (A.2.1 35 9 ||| (1 : Int32) <<< (nI j &&& 31)) := by
          unfold xm_76
          rw [if_pos rfl, r35, r35]
        rw [e76] at a2
        refine ⟨_, ⟨ro_eqv_s (ro_eqv_s (pu_fr_e (Or.inl rfl) o3 g2) rfl) rfl, ?_, ?_, pu_at_c g1 (fun y _ => ⟨?_, ?_⟩), ?_, ?_, s9, ?_⟩, YES _ a1 a2⟩
        · rw [ro_rd_s, if_neg (by omega), ro_rd_s, if_neg (by omega), g2.2.2 35 6 (by decide) (by decide), r35]; exact s3
        · intro y hy
          simp only [ro_sI_ne (show (39 : Nat) ≠ 35 by decide), ro_sI_ne (show (40 : Nat) ≠ 35 by decide), ro_sI_ne (show (41 : Nat) ≠ 35 by decide)]
          rw [g2.2.2 39 y (by decide) (by decide), g2.2.2 40 y (by decide) (by decide), g2.2.2 41 y (by decide) (by decide)]; exact rrd y hy
        · rw [ro_sI_ne (by decide), ro_sI_ne (by decide)]
        · rw [ro_sI_ne (by decide), ro_sI_ne (by decide)]
        · rw [ro_rd_s, if_neg (by omega), ro_rd_s, if_pos ⟨rfl, rfl⟩, s7]; rfl
        · rw [ro_rd_s, if_neg (by omega), ro_rd_s, if_neg (by omega), g2.2.2 35 8 (by decide) (by decide), r35]; exact s8
        · rw [ro_rd_s, if_pos ⟨rfl, rfl⟩, s10]; rfl
    · rw [if_neg w]
      have wf : pu_mw T.1 i j = false := by cases hq : pu_mw T.1 i j with | true => exact absurd hq w | false => rfl
      rw [wf] at w3
      have nf : ¬ (false = true) := by decide
      refine NO ⟨?_, ?_⟩
      · unfold xf_72; rw [f71, if_pos rfl, w3, if_neg nf]
      · unfold xm_72; rw [f71, if_pos rfl, w3, if_neg nf]
  · rw [if_neg kd]
    have kd1 : g k % 2 = 1 := by omega
    have f71 : xf_71 A (nI k) = false := by unfold xf_71; rw [if_neg k0, if_neg k20, ek, r3, kd1, if_neg (by decide)]
    have nf : ¬ (false = true) := by decide
    have w3 := pu_73 s5 hp hi hj
    by_cases w : pu_mc T.1 i j = true
    · rw [if_pos w]
      rw [w] at w3
      obtain ⟨g1, g2⟩ := pu_74 s5 hp hi hj hij
      have a1 : xf_72 A (nI i) (nI j) (xf_71 A (nI k)) = true := by unfold xf_72; rw [f71, if_neg nf, w3]
      have a2 : xm_72 A (nI i) (nI j) (xf_71 A (nI k)) = xm_74 A 36 (nI i) (nI j) := by unfold xm_72; rw [f71, if_neg nf, w3, if_pos rfl]
      refine ⟨_, ⟨pu_fr_e (Or.inl rfl) s1 g2, ?_, ?_, g1, ?_, ?_, s9, ?_⟩, YES _ a1 a2⟩
      · rw [g2.2.2 35 6 (by decide) (by decide)]; exact s3
      · intro y hy
        rw [g2.2.2 39 y (by decide) (by decide), g2.2.2 40 y (by decide) (by decide), g2.2.2 41 y (by decide) (by decide)]; exact s4 y hy
      · rw [g2.2.2 35 7 (by decide) (by decide)]; exact s7
      · rw [g2.2.2 35 8 (by decide) (by decide)]; exact s8
      · rw [g2.2.2 35 9 (by decide) (by decide)]; exact s10
    · rw [if_neg w]
      have wf : pu_mc T.1 i j = false := by cases hq : pu_mc T.1 i j with | true => exact absurd hq w | false => rfl
      rw [wf] at w3
      refine NO ⟨?_, ?_⟩
      · unfold xf_72; rw [f71, if_neg nf, w3]
      · unfold xm_72; rw [f71, if_neg nf, w3, if_neg nf]
theorem ev_cl {od : Nat → Nat → Int32 → Int32 → Int32} (hod : od_is M od) {p : Nat} (hp : p ≤ 6) (e1 : M.2.1 5 4 = nI p) {g : Nat → Nat} {len n0 : Nat} (hlen : len ≤ 20) (hn0 : n0 ≤ 20) (hg : ∀ k, k < len → g k < 2 ^ 31 ∧ of_ok p (g k)) (T0 : ep_T) : ∀ (d k n : Nat) (A : ro_Mm), k + d = min n0 len → d < n → ev_C M p (fun k => nI (g k)) len A (ep od (M.2.1 5 7) g T0 k) → ev_C M p (fun k => nI (g k)) len (xg_67_39 n A (nI k) (nI n0)).2 (ep od (M.2.1 5 7) g T0 (min n0 len)) := by
  intro d
  induction d with
  | zero =>
    intro k n A hk hn hS
    cases n with
    | zero => omega
    | succ n =>
      have ek : k = min n0 len := by omega
      rw [← ek]
      by_cases c : n0 ≤ k
      · rw [xg_67_39, if_pos (nI_le c (by omega))]; exact hS
      · rw [xg_67_39, if_neg (nI_ge (by omega) (by omega)), if_pos (by rw [hS.2.1]; exact nI_le (by omega) (by omega))]; exact hS
  | succ d ih =>
    intro k n A hk hn hS
    cases n with
    | zero => omega
    | succ n =>
      obtain ⟨A2, t1, t2⟩ := ev_c1 hod hp e1 hlen hS (k := k) (by omega) (hg k (by omega)).1 (hg k (by omega)).2 (n0 := nI n0) (nI_ge (by omega) (by omega))
      rw [t2 n]
      exact ih (k + 1) n A2 (by omega) (by omega) t1
/-- how far an evening goes -/
def ev_l (p : Nat) (g : Nat → Nat) (z len : Nat) : Prop := len ≤ 20 ∧ len ≤ z ∧ (∀ k, k < len → of_ok p (g k)) ∧ (len = 20 ∨ len = z ∨ ¬ of_ok p (g len))
theorem ev_l_u {p z a b : Nat} {g : Nat → Nat} (h : ev_l p g z a) (k : ev_l p g z b) : a = b := by
  obtain ⟨a1, a2, a3, a4⟩ := h
  obtain ⟨b1, b2, b3, b4⟩ := k
  rcases Nat.lt_trichotomy a b with q | q | q
  · rcases a4 with e | e | e
    · omega
    · omega
    · exact absurd (b3 a q) e
  · exact q
  · rcases b4 with e | e | e
    · omega
    · omega
    · exact absurd (a3 b q) e
def ep_0 (M : ro_Mm) : ep_T := (pu_now M, 0, -2, 0)
theorem kg_now : pu_now (kg L M) = pu_now M := Prod.ext (funext fun i => kg_c (L := L) (M := M) (c := 7) (j := i) (by decide)) (funext fun i => kg_c (L := L) (M := M) (c := 8) (j := i) (by decide))
/-- read and played -/
theorem ev_go (hk : kv L M) {p s z len n0 : Nat} {g : Nat → Nat} (hp : p ≤ 6) (e1 : M.2.1 5 4 = nI p) (hs : s < 6) (hz : z ≤ 60) (hb : sh_b M s z g) (hg : ∀ i, i < z → g i < 2 ^ 31) (hl : ev_l p g z len) (hn0 : n0 ≤ 20) :
    ev_C (kg L M) p (fun k => nI (g k)) len (xm_67 (xm_66 (kg L M) (ro_sc (nI s))) (nI n0)) (ep (odv M L) (M.2.1 5 7) g (ep_0 M) (min n0 len)) := by
  have hI := (kg_inv hk).1
  have e0 : (kg L M).2.1 5 4 = nI p := (kg_c (by decide)).trans e1
  obtain ⟨s1, s2, s3⟩ := ro_sn hs
  obtain ⟨b1, b2, b3⟩ := hb
  have hy : xf_22 (kg L M) (ro_sc (nI s)) = true := by
    unfold xf_22
    rw [s2, kg_c (by omega), b1, if_pos rfl]
  have hf : ∀ k, k < z → xf_25 (kg L M) (ro_sc (nI s)) (nI k) = nI (g k) := fun k hk2 => by
    unfold xf_25 xf_26
    rw [s2, if_neg (nI_pos (by omega)), kg_c (by omega), b2, if_neg (nI_ge hk2 (by omega)), if_neg (show ¬ (60 : Int32) ≤ nI k from nI_ge (b := 60) (by omega) (by omega)), nI_clamp (by omega), kg_J (by omega), show 23 + 2 * s + 1 = 24 + 2 * s by omega]
    exact b3 k hk2
  have F0 : ev_fr (kg L M) (ro_sI (kg L M) 35 6 0) := ⟨rfl, rfl, fun a j _ _ _ n4 => by rw [ro_rd_s, if_neg n4]⟩
  have n35 : ro_sc (nI s) ≠ 35 := by rw [s2]; omega
  obtain ⟨i1, len2, i2, i3, i4, i5, i6, i7, i8, i9, i10⟩ := ev_66 hI (ro_sc_is (nI s)) (f := fun k => nI (g k)) hz 20 0 lp_N (ro_sI (kg L M) 35 6 0) (by omega) (lp_hug (by omega)) F0 (ev_fr_e (ro_eqv_r hI.1) F0)
    (by rw [ro_sI_ne n35, s2, kg_c (by omega)]; exact b2)
    (fun y hy => by rw [← hf y hy]; unfold xf_25 xf_26; rw [ro_sI_ne n35]; rfl)
    (by rw [ro_rd_s, if_pos ⟨rfl, rfl⟩]; rfl) (fun y hy => absurd hy (Nat.not_lt_zero _)) (fun y hy => absurd hy (Nat.not_lt_zero _))
  have el : len2 = len := ev_l_u (p := p) (g := g) (z := z) ⟨i3, i4, fun k hk2 => (of_ev hp e0 (hg k (i9 k hk2).1)).mp (i9 k hk2).2, by
    rcases i10 with q | q | q
    · exact Or.inl q
    · exact Or.inr (Or.inl q)
    · exact Or.inr (Or.inr (fun w => q.2 ((of_ev hp e0 (hg _ q.1)).mpr w)))⟩ hl
  rw [el] at i7 i8
  have r2 : ro_eqv (kg L M) (xm_66 (kg L M) (ro_sc (nI s))) := i6
  have e18 : xf_18 (xm_66 (kg L M) (ro_sc (nI s))) = nI p := by show (xm_66 (kg L M) (ro_sc (nI s))).2.1 5 4 = nI p; rw [r2.2.1 5 4 rfl]; exact e0
  obtain ⟨c1, c2, c3⟩ := pu_68 (M := kg L M) r2 (c := 36) (p := p) (by unfold ro_ip; decide) (by decide) hp
  have E1 : ro_eqv (kg L M) (xm_68 (xm_66 (kg L M) (ro_sc (nI s))) 36 6 (nI p)) := pu_fr_e (Or.inl rfl) r2 c3
  have A0 : ro_eqv (kg L M) (ro_sI (ro_sI (ro_sI (xm_68 (xm_66 (kg L M) (ro_sc (nI s))) 36 6 (nI p)) 35 7 0) 35 8 (-2)) 35 9 0) := ro_eqv_s (ro_eqv_s (ro_eqv_s E1 rfl) rfl) rfl
  have SS : ev_C (kg L M) p (fun k => nI (g k)) len (ro_sI (ro_sI (ro_sI (xm_68 (xm_66 (kg L M) (ro_sc (nI s))) 36 6 (nI p)) 35 7 0) 35 8 (-2)) 35 9 0) (ep_0 M) := by
    refine ⟨A0, ?_, ?_, pu_at_c (by rw [kg_now] at c2; exact c2) (fun y _ => ⟨?_, ?_⟩), ?_, ?_, Or.inl rfl, ?_⟩
    · rw [ro_rd_s, if_neg (by omega), ro_rd_s, if_neg (by omega), ro_rd_s, if_neg (by omega), c3.2.2 35 6 (by decide) (by decide)]; exact i7
    · intro y hy
      simp only [ro_sI_ne (show (39 : Nat) ≠ 35 by decide), ro_sI_ne (show (40 : Nat) ≠ 35 by decide), ro_sI_ne (show (41 : Nat) ≠ 35 by decide)]
      rw [c3.2.2 39 y (by decide) (by decide), c3.2.2 40 y (by decide) (by decide), c3.2.2 41 y (by decide) (by decide)]
      exact i8 y hy
    · rw [ro_sI_ne (by decide), ro_sI_ne (by decide), ro_sI_ne (by decide)]
    · rw [ro_sI_ne (by decide), ro_sI_ne (by decide), ro_sI_ne (by decide)]
    · simp only [ro_rd_s]; rfl
    · simp only [ro_rd_s]; rfl
    · simp only [ro_rd_s]; rfl
  have K := ev_cl (M := kg L M) (kg_od hk) hp e0 (g := g) (len := len) (n0 := n0) hl.1 hn0 (fun k hk2 => ⟨hg k (Nat.lt_of_lt_of_le hk2 hl.2.1), hl.2.2.1 k hk2⟩) (ep_0 M) (min n0 len) 0 lp_N _ (by omega) (lp_hug (by omega)) SS
  rw [kg_c (by decide)] at K
  unfold xm_67
  rw [e18]
  exact K
theorem ca_eve (hk : kv L M) {p s z len n0 : Nat} {g : Nat → Nat} (hp : p ≤ 6) (e1 : M.2.1 5 4 = nI p) (hs : s < 6) (hz : z ≤ 60) (hb : sh_b M s z g) (hg : ∀ i, i < z → g i < 2 ^ 31) (hl : ev_l p g z len) (hn0 : n0 ≤ 20) {w : Nat} (hw : w ≤ 2) : ro_cwp X 6 79 [.ref 4, .int (nI s), .int (nI n0), .int (nI w)] M (fun r M2 => r = some (.int (if w = 0 then (ep (odv M L) (M.2.1 5 7) g (ep_0 M) (min n0 len)).2.1 else if w = 1 then (ep (odv M L) (M.2.1 5 7) g (ep_0 M) (min n0 len)).2.2.1 else (ep (odv M L) (M.2.1 5 7) g (ep_0 M) (min n0 len)).2.2.2)) ∧ kq M M2) := by
  have hI := (kg_inv hk).1
  have K := ev_go hk hp e1 hs hz hb hg hl hn0
  obtain ⟨s1, s2, s3⟩ := ro_sn hs
  have hy : xf_22 (kg L M) (ro_sc (nI s)) = true := by
    unfold xf_22
    rw [s2, kg_c (by omega), hb.1, if_pos rfl]
  have w1 : xf_13 (kg L M) (nI n0) 0 20 = true := ro_w13.mpr (nI_rng (m := 20) hn0 (by decide))
  have w2 : xf_13 (kg L M) (nI w) 0 2 = true := ro_w13.mpr (nI_rng (m := 2) hw (by decide))
  have m79 : xm_79 (kg L M) (nI s) (nI n0) (nI w) = xm_67 (xm_66 (kg L M) (ro_sc (nI s))) (nI n0) := by
    unfold xm_79
    rw [if_pos s1, if_pos w1, if_pos w2, if_pos hy]
  have f79 : xf_79 (kg L M) (nI s) (nI n0) (nI w) = if w = 0 then (ep (odv M L) (M.2.1 5 7) g (ep_0 M) (min n0 len)).2.1 else if w = 1 then (ep (odv M L) (M.2.1 5 7) g (ep_0 M) (min n0 len)).2.2.1 else (ep (odv M L) (M.2.1 5 7) g (ep_0 M) (min n0 len)).2.2.2 := by
    unfold xf_79 xf_80 xf_81 xf_82
    rw [if_pos s1, if_pos w1, if_pos w2, if_pos hy, K.2.2.2.2.1, K.2.2.2.2.2.1, K.2.2.2.2.2.2.2]
    have : w = 0 ∨ w = 1 ∨ w = 2 := by omega
    rcases this with e | e | e <;> rw [e] <;> rfl
  have h := kc_r (A := some (.int (xf_79 (kg L M) (nI s) (nI n0) (nI w)))) hk rfl rfl (xs_79 (X := X) (v1 := nI s) (v2 := nI n0) (v3 := nI w) (kg_lay hk.1) (all_8 hI).1) (fun c j h1 h2 => by rw [m79]; exact K.1.2.1 c j h2) (fun c j h1 h2 => by rw [m79]; exact K.1.2.2 c j h2)
  rw [f79] at h
  exact h
theorem ca_later (hk : kv L M) {p s z len n0 i : Nat} {g : Nat → Nat} (hp : p ≤ 6) (e1 : M.2.1 5 4 = nI p) (hs : s < 6) (hz : z ≤ 60) (hb : sh_b M s z g) (hg : ∀ i, i < z → g i < 2 ^ 31) (hl : ev_l p g z len) (hn0 : n0 ≤ 20) (hi : i < p) {w : Nat} (hw : w ≤ 2) : ro_cwp X 6 64 [.ref 4, .int (nI s), .int (nI n0), .int (nI i), .int (nI w)] M (fun r M2 => r = some (.int (if w = 0 then (ep (odv M L) (M.2.1 5 7) g (ep_0 M) (min n0 len)).1.1 i else if w = 1 then (ep (odv M L) (M.2.1 5 7) g (ep_0 M) (min n0 len)).1.2 i else 4 * (ep (odv M L) (M.2.1 5 7) g (ep_0 M) (min n0 len)).1.1 i + M.2.1 5 5 * (ep (odv M L) (M.2.1 5 7) g (ep_0 M) (min n0 len)).1.2 i)) ∧ kq M M2) := by
  have hI := (kg_inv hk).1
  have K := ev_go hk hp e1 hs hz hb hg hl hn0
  obtain ⟨s1, s2, s3⟩ := ro_sn hs
  have e0 : (kg L M).2.1 5 4 = nI p := (kg_c (by decide)).trans e1
  have hy : xf_22 (kg L M) (ro_sc (nI s)) = true := by
    unfold xf_22
    rw [s2, kg_c (by omega), hb.1, if_pos rfl]
  have w1 : xf_13 (kg L M) (nI n0) 0 20 = true := ro_w13.mpr (nI_rng (m := 20) hn0 (by decide))
  have w2 : xf_13 (kg L M) (nI w) 0 2 = true := ro_w13.mpr (nI_rng (m := 2) hw (by decide))
  have w3 : xf_29 (kg L M) (nI i) = true := x29_t hp e0 hi
  have m64 : xm_64 (kg L M) (nI s) (nI n0) (nI i) (nI w) = xm_67 (xm_66 (kg L M) (ro_sc (nI s))) (nI n0) := by
    unfold xm_64
    rw [if_pos s1, if_pos w1, if_pos w3, if_pos w2, if_pos hy]
  have q1 := (K.2.2.2.1 i hi).1
  have q2 := (K.2.2.2.1 i hi).2
  have q3 : (xm_67 (xm_66 (kg L M) (ro_sc (nI s))) (nI n0)).2.1 5 5 = M.2.1 5 5 := (K.1.2.1 5 5 rfl).trans (kg_c (by decide))
  have f64 : xf_64 (kg L M) (nI s) (nI n0) (nI i) (nI w) = if w = 0 then (ep (odv M L) (M.2.1 5 7) g (ep_0 M) (min n0 len)).1.1 i else if w = 1 then (ep (odv M L) (M.2.1 5 7) g (ep_0 M) (min n0 len)).1.2 i else 4 * (ep (odv M L) (M.2.1 5 7) g (ep_0 M) (min n0 len)).1.1 i + M.2.1 5 5 * (ep (odv M L) (M.2.1 5 7) g (ep_0 M) (min n0 len)).1.2 i := by
    unfold xf_64 xf_37 xf_38
    rw [if_pos s1, if_pos w1, if_pos w3, if_pos w2, if_pos hy, x31 (by omega), x32 (by omega), q1, q2, q3]
    have : w = 0 ∨ w = 1 ∨ w = 2 := by omega
    rcases this with e | e | e <;> rw [e] <;> rfl
  have h := kc_r (A := some (.int (xf_64 (kg L M) (nI s) (nI n0) (nI i) (nI w)))) hk rfl rfl (xs_64 (X := X) (v1 := nI s) (v2 := nI n0) (v3 := nI i) (v4 := nI w) (kg_lay hk.1) (all_7 hI).1) (fun c j h1 h2 => by rw [m64]; exact K.1.2.1 c j h2) (fun c j h1 h2 => by rw [m64]; exact K.1.2.2 c j h2)
  rw [f64] at h
  exact h
end PLAY
