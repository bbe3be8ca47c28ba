/-! rounds, the class's search: all kinds, the best first -/
section ROUND3
def rd_S (M : ro_Mm) (p N : Nat) (f : Nat → Int32) (cl : Bool) (A : ro_Mm) (S : pu_T) : Prop := ro_eqv M A ∧ pu_at p A 43 S ∧ A.2.1 42 5 = nI N ∧ A.2.1 42 8 = ro_b cl ∧ rd_ab A f N
def rd_acc (A : ro_Mm) (N : Nat) (a : rd_A) : Prop := match a with
  | none => A.2.1 42 9 = 0
  | some (v, ks) => A.2.1 42 9 = 1 ∧ A.2.1 42 6 = v ∧ A.2.1 42 7 = nI (rv N ks)
theorem rd_acc_c {A B : ro_Mm} {N : Nat} {a : rd_A} (h : ∀ j, B.2.1 42 j = A.2.1 42 j) (g : rd_acc A N a) : rd_acc B N a := by
  cases a with
  | none => exact (h 9).trans g
  | some x => exact ⟨(h 9).trans g.1, (h 6).trans g.2.1, (h 7).trans g.2.2⟩
theorem rd_S_c {M : ro_Mm} {p N : Nat} {f : Nat → Int32} {cl : Bool} {A B : ro_Mm} {S S2 : pu_T} (h : rd_S M p N f cl A S) (g : pu_fr A B 43) (g2 : pu_at p B 43 S2) : rd_S M p N f cl B S2 := by
  obtain ⟨h1, h2, h3, h4, h5⟩ := h
  refine ⟨pu_fr_e (Or.inr (Or.inl rfl)) h1 g, g2, ?_, ?_, fun y hy => ?_⟩
  · rw [g.2.2 42 5 (by decide) (by decide)]; exact h3
  · rw [g.2.2 42 8 (by decide) (by decide)]; exact h4
  · rw [g.2.2 46 y (by decide) (by decide), g.2.2 47 y (by decide) (by decide)]; exact h5 y hy
theorem rd_acc_f {A B : ro_Mm} {N : Nat} {a : rd_A} (g : pu_fr A B 43) (h : rd_acc A N a) : rd_acc B N a := rd_acc_c (fun j => g.2.2 42 j (by decide) (by decide)) h
/-- what is tried with one offer: whole first, notched then -/
noncomputable def rd_bd (F87 : ro_Mm → Int32 → Int32 → Int32 → ro_Mm) (M : ro_Mm) (v1 : Int32) (v2 : Int32) (v3 : Int32) : ro_Mm := (if (xf_75 M 43 (M.2.1 46 (v1.toNatClampNeg)) (M.2.1 47 (v1.toNatClampNeg))) then (if (xf_73 (xm_89 F87 M v1 v2 v3) 43 (M.2.1 46 (v1.toNatClampNeg)) (M.2.1 47 (v1.toNatClampNeg))) then (xm_74 (F87 (xm_74 (xm_89 F87 M v1 v2 v3) 43 (M.2.1 46 (v1.toNatClampNeg)) (M.2.1 47 (v1.toNatClampNeg))) (v1 + (1 : Int32)) v2 (v3 ||| ((1 : Int32) <<< (v1 &&& 31)))) 43 (M.2.1 47 (v1.toNatClampNeg)) (M.2.1 46 (v1.toNatClampNeg))) else (xm_89 F87 M v1 v2 v3)) else (if (xf_73 M 43 (M.2.1 46 (v1.toNatClampNeg)) (M.2.1 47 (v1.toNatClampNeg))) then (xm_74 (F87 (xm_74 M 43 (M.2.1 46 (v1.toNatClampNeg)) (M.2.1 47 (v1.toNatClampNeg))) (v1 + (1 : Int32)) v2 (v3 ||| ((1 : Int32) <<< (v1 &&& 31)))) 43 (M.2.1 47 (v1.toNatClampNeg)) (M.2.1 46 (v1.toNatClampNeg))) else M))
def rd_bp (F87 : ro_Mm → Int32 → Int32 → Int32 → ro_Mm) (P87 : ro_Mm → Int32 → Int32 → Int32 → Prop) (M : ro_Mm) (v1 : Int32) (v2 : Int32) (v3 : Int32) : Prop := (((xf_75 M 43 (M.2.1 46 (v1.toNatClampNeg)) (M.2.1 47 (v1.toNatClampNeg))) → (xp_89 F87 P87 M v1 v2 v3 ∧ (((xf_73 (xm_89 F87 M v1 v2 v3) 43 (M.2.1 46 (v1.toNatClampNeg)) (M.2.1 47 (v1.toNatClampNeg))) → (P87 (xm_74 (xm_89 F87 M v1 v2 v3) 43 (M.2.1 46 (v1.toNatClampNeg)) (M.2.1 47 (v1.toNatClampNeg))) (v1 + (1 : Int32)) v2 (v3 ||| ((1 : Int32) <<< (v1 &&& 31))) ∧ True)) ∧ (¬ ((xf_73 (xm_89 F87 M v1 v2 v3) 43 (M.2.1 46 (v1.toNatClampNeg)) (M.2.1 47 (v1.toNatClampNeg)))) → True)))) ∧ (¬ ((xf_75 M 43 (M.2.1 46 (v1.toNatClampNeg)) (M.2.1 47 (v1.toNatClampNeg)))) → (((xf_73 M 43 (M.2.1 46 (v1.toNatClampNeg)) (M.2.1 47 (v1.toNatClampNeg))) → (P87 (xm_74 M 43 (M.2.1 46 (v1.toNatClampNeg)) (M.2.1 47 (v1.toNatClampNeg))) (v1 + (1 : Int32)) v2 (v3 ||| ((1 : Int32) <<< (v1 &&& 31))) ∧ True)) ∧ (¬ ((xf_73 M 43 (M.2.1 46 (v1.toNatClampNeg)) (M.2.1 47 (v1.toNatClampNeg)))) → True))))
theorem rd_87 {F87 : ro_Mm → Int32 → Int32 → Int32 → ro_Mm} {M : ro_Mm} {v1 v2 v3 : Int32} : xmb_87 F87 M v1 v2 v3 = (if v1 < (0 : Int32) then (xm_88 M v2 v3) else (if (M.2.1 42 5) ≤ v1 then (xm_88 M v2 v3) else (if v1 < (10 : Int32) then (if (M.2.1 42 8) = (0 : Int32) then (if (M.2.1 42 9) = (0 : Int32) then rd_bd F87 M v1 v2 v3 else (if v2 < (M.2.1 42 6) then rd_bd F87 M v1 v2 v3 else M)) else rd_bd F87 M v1 v2 v3) else (xm_88 M v2 v3)))) := rfl
theorem rd_87p {F87 : ro_Mm → Int32 → Int32 → Int32 → ro_Mm} {P87 : ro_Mm → Int32 → Int32 → Int32 → Prop} {M : ro_Mm} {v1 v2 v3 : Int32} : xpb_87 F87 P87 M v1 v2 v3 = ((v1 < (0 : Int32) → True) ∧ (¬ (v1 < (0 : Int32)) → (((M.2.1 42 5) ≤ v1 → True) ∧ (¬ ((M.2.1 42 5) ≤ v1) → ((v1 < (10 : Int32) → (((M.2.1 42 8) = (0 : Int32) → (((M.2.1 42 9) = (0 : Int32) → rd_bp F87 P87 M v1 v2 v3) ∧ (¬ ((M.2.1 42 9) = (0 : Int32)) → ((v2 < (M.2.1 42 6) → rd_bp F87 P87 M v1 v2 v3) ∧ (¬ (v2 < (M.2.1 42 6)) → True))))) ∧ (¬ ((M.2.1 42 8) = (0 : Int32)) → rd_bp F87 P87 M v1 v2 v3))) ∧ (¬ (v1 < (10 : Int32)) → True)))))) := rfl
section SEA
variable {M : ro_Mm} {p N : Nat} {f : Nat → Int32} {cl : Bool} {od : Nat → Nat → Int32 → Int32 → Int32} {val : pu_T → Nat → Int32} {btr : Int32 → Int32 → Bool}
theorem rd_body (hod : od_is M od) (hp : p ≤ 6) (hN : N ≤ 10) (hf : ∀ y, y < N → rd_w f 0 y < p ∧ rd_w f 1 y < p ∧ rd_w f 0 y ≠ rd_w f 1 y ∧ f (2 * y) = nI (rd_w f 0 y) ∧ f (2 * y + 1) = nI (rd_w f 1 y))
    {F : ro_Mm → Int32 → Int32 → Int32 → ro_Mm} {P : ro_Mm → Int32 → Int32 → Int32 → Prop} {d k : Nat} (hk : k < N)
    (ih : ∀ (A : ro_Mm) (S : pu_T) (r ks : Nat) (a : rd_A), r ≤ k + 1 → rd_S M p N f cl A S → rd_acc A N a → P A (nI (k + 1)) (nI r) (nI (rv (k + 1) ks)) ∧ rd_S M p N f cl (F A (nI (k + 1)) (nI r) (nI (rv (k + 1) ks))) S ∧ rd_acc (F A (nI (k + 1)) (nI r) (nI (rv (k + 1) ks))) N (rd_ds od (M.2.1 5 7) (rd_w f 0) (rd_w f 1) val btr d (k + 1) S r ks a))
    {A : ro_Mm} {S : pu_T} {r ks : Nat} {a : rd_A} (hr : r ≤ k) (hS : rd_S M p N f cl A S) (ha : rd_acc A N a) :
    rd_bp F P A (nI k) (nI r) (nI (rv k ks)) ∧ rd_S M p N f cl (rd_bd F A (nI k) (nI r) (nI (rv k ks))) S ∧ rd_acc (rd_bd F A (nI k) (nI r) (nI (rv k ks))) N (rd_ds od (M.2.1 5 7) (rd_w f 0) (rd_w f 1) val btr (d + 1) k S r ks a) := by
  obtain ⟨hi, hj, hij, ei, ej⟩ := hf k hk
  generalize hgi : rd_w f 0 k = i at *
  generalize hgj : rd_w f 1 k = j at *
  have ek : (nI k).toNatClampNeg = k := nI_clamp (by omega)
  have e46 : A.2.1 46 (nI k).toNatClampNeg = nI i := by rw [ek, (hS.2.2.2.2 k hk).1, ei]
  have e47 : A.2.1 47 (nI k).toNatClampNeg = nI j := by rw [ek, (hS.2.2.2.2 k hk).2, ej]
  have k0 : ¬ nI k < 0 := nI_pos (by omega)
  have k10 : nI k < 10 := nI_lt (b := 10) (by omega) (by omega)
  have p43 : ro_ip 43 := by unfold ro_ip; decide
  have hi6 : i < 6 := by omega
  have hj6 : j < 6 := by omega
  have or1 : nI (rv k ks) ||| ((1 : Int32) <<< (nI k &&& 31)) = nI (rv (k + 1) (2 * ks + 1)) := by
    rw [rb_or k (by omega) _ (rv_lt k ks), rv_ext k ks 1 (by decide), Nat.one_mul]
  have or0 : rv k ks = rv (k + 1) (2 * ks) := by
    have := rv_ext k ks 0 (by decide)
    rw [Nat.add_zero, Nat.zero_mul, Nat.add_zero] at this
    exact this.symm
  -- the notched one, from any memory like this
  have two : ∀ (A1 : ro_Mm) (a1 : rd_A), rd_S M p N f cl A1 S → rd_acc A1 N a1 →
      (xf_73 A1 43 (nI i) (nI j) = true → P (xm_74 A1 43 (nI i) (nI j)) (nI k + 1) (nI r) (nI (rv k ks) ||| ((1 : Int32) <<< (nI k &&& 31)))) ∧
      rd_S M p N f cl (if (xf_73 A1 43 (nI i) (nI j)) = true then (xm_74 (F (xm_74 A1 43 (nI i) (nI j)) (nI k + 1) (nI r) (nI (rv k ks) ||| ((1 : Int32) <<< (nI k &&& 31)))) 43 (nI j) (nI i)) else A1) S ∧
      rd_acc (if (xf_73 A1 43 (nI i) (nI j)) = true then (xm_74 (F (xm_74 A1 43 (nI i) (nI j)) (nI k + 1) (nI r) (nI (rv k ks) ||| ((1 : Int32) <<< (nI k &&& 31)))) 43 (nI j) (nI i)) else A1) N (match rd_st od (M.2.1 5 7) (rd_w f 0) (rd_w f 1) S k 1 with
        | none => a1
        | some (S2, q) => rd_ds od (M.2.1 5 7) (rd_w f 0) (rd_w f 1) val btr d (k + 1) S2 (r + q) (2 * ks + 1) a1) := by
    intro A1 a1 hS1 ha1
    rw [pu_73 hS1.2.1 hp hi hj, or1, nI_1]
    have hst : rd_st od (M.2.1 5 7) (rd_w f 0) (rd_w f 1) S k 1 = if pu_mc S i j = true then some (pu_gc S i j, 0) else none := by
      unfold rd_st; rw [if_pos rfl, hgi, hgj]
    rw [hst]
    by_cases w : pu_mc S i j = true
    · obtain ⟨g1, g2⟩ := pu_74 hS1.2.1 hp hi hj hij
      obtain ⟨q1, q2, q3⟩ := ih (xm_74 A1 43 (nI i) (nI j)) (pu_gc S i j) r (2 * ks + 1) a1 (by omega) (rd_S_c hS1 g2 g1) (rd_acc_f g2 ha1)
      obtain ⟨g3, g4⟩ := pu_74 q2.2.1 hp hj hi (fun e => hij e.symm)
      rw [pu_gc_gc hij] at g3
      rw [if_pos w, if_pos w]
      exact ⟨fun _ => q1, rd_S_c q2 g4 g3, rd_acc_f g4 q3⟩
    · rw [if_neg w, if_neg w]
      exact ⟨fun y => absurd y w, hS1, ha1⟩
  have h75 := pu_75 hS.2.1 hp hi hj
  by_cases w : pu_mw S i j = true
  · -- the whole one
    obtain ⟨o1, o2, o3, o4, o5⟩ := hod.2.1 A 43 i j hS.1 p43 hi6 hj6
    have sj : A.2.1 (43 + 1) j = S.1 j ∧ A.2.1 (43 + 2) j = S.2 j := hS.2.1 j hj
    rw [sj.1, sj.2] at o1
    have b5 : pu_at p (xm_58 A 43 (nI i) (nI j)) 43 S := pu_at_c hS.2.1 (fun y _ => ⟨o4 44 y (by decide) (by decide) (by omega), o4 45 y (by decide) (by decide) (by omega)⟩)
    have r42 : ∀ y, (xm_58 A 43 (nI i) (nI j)).2.1 42 y = A.2.1 42 y := fun y => o4 42 y (by decide) (by decide) (by omega)
    have hS0 : rd_S M p N f cl (xm_58 A 43 (nI i) (nI j)) S := by
      refine ⟨o3, b5, ?_, ?_, fun y hy => ?_⟩
      · rw [r42]; exact hS.2.2.1
      · rw [r42]; exact hS.2.2.2.1
      · rw [o4 46 y (by decide) (by decide) (by omega), o4 47 y (by decide) (by decide) (by omega)]; exact hS.2.2.2.2 y hy
    have ha0 : rd_acc (xm_58 A 43 (nI i) (nI j)) N a := rd_acc_c r42 ha
    have hb7 : (xm_58 A 43 (nI i) (nI j)).2.1 5 7 = M.2.1 5 7 := o3.2.1 5 7 rfl
    have one : xp_89 F P A (nI k) (nI r) (nI (rv k ks)) ∧ rd_S M p N f cl (xm_89 F A (nI k) (nI r) (nI (rv k ks))) S ∧ rd_acc (xm_89 F A (nI k) (nI r) (nI (rv k ks))) N (match rd_st od (M.2.1 5 7) (rd_w f 0) (rd_w f 1) S k 0 with
        | none => a
        | some (S2, q) => rd_ds od (M.2.1 5 7) (rd_w f 0) (rd_w f 1) val btr d (k + 1) S2 (r + q) (2 * ks) a) := by
      have hst : rd_st od (M.2.1 5 7) (rd_w f 0) (rd_w f 1) S k 0 = if od i j (S.1 j) (S.2 j) < M.2.1 5 7 then some (pu_gw S i j, 0) else if S.2 j < 20 then some (pu_gc (pu_rf S i) i j, 1) else none := by
        unfold rd_st; rw [if_neg (by decide), hgi, hgj, if_pos w]
      have x32j : xf_32 (xm_58 A 43 (nI i) (nI j)) 43 (nI j) = S.2 j := by rw [x32 hj6]; exact (b5 j hj).2
      rw [hst]
      unfold xm_89 xp_89
      rw [if_neg k0, if_pos k10, e46, e47, x30_6, hb7, o1, x32j, or0, nI_1, nI_1]
      by_cases c1 : od i j (S.1 j) (S.2 j) < M.2.1 5 7
      · have c2 : ¬ M.2.1 5 7 ≤ od i j (S.1 j) (S.2 j) := Int32.not_le.mpr c1
        obtain ⟨g1, g2⟩ := pu_78 b5 hp hi hj hij
        obtain ⟨q1, q2, q3⟩ := ih _ (pu_gw S i j) r (2 * ks) a (by omega) (rd_S_c hS0 g2 g1) (rd_acc_f g2 ha0)
        obtain ⟨g3, g4⟩ := pu_78 q2.2.1 hp hj hi (fun e => hij e.symm)
        rw [pu_gw_gw hij] at g3
        rw [if_neg c2, if_pos c1]
        exact ⟨⟨fun _ => trivial, fun _ => ⟨fun _ => ⟨o2, fun y => absurd y c2, fun _ => ⟨q1, trivial⟩⟩, fun y => absurd k10 y⟩⟩, rd_S_c q2 g4 g3, rd_acc_f g4 q3⟩
      · have c2 : M.2.1 5 7 ≤ od i j (S.1 j) (S.2 j) := Int32.not_lt.mp c1
        rw [if_pos c2, if_neg c1]
        by_cases c3 : S.2 j < 20
        · have c4 : ¬ (20 : Int32) ≤ S.2 j := Int32.not_le.mpr c3
          obtain ⟨g1, g2⟩ := pu_77 b5 hp hi
          have hS1 := rd_S_c hS0 g2 g1
          obtain ⟨g3, g4⟩ := pu_74 g1 hp hi hj hij
          obtain ⟨q1, q2, q3⟩ := ih _ (pu_gc (pu_rf S i) i j) (r + 1) (2 * ks) a (by omega) (rd_S_c hS1 g4 g3) (rd_acc_f g4 (rd_acc_f g2 ha0))
          obtain ⟨g5, g6⟩ := pu_74 q2.2.1 hp hj hi (fun e => hij e.symm)
          rw [pu_gc_gc hij] at g5
          have hS2 := rd_S_c q2 g6 g5
          obtain ⟨g7, g8⟩ := pu_90 g5 hp hi
          rw [pu_tb_rf] at g7
          rw [if_neg c4, if_pos c3]
          exact ⟨⟨fun _ => trivial, fun _ => ⟨fun _ => ⟨o2, fun _ => ⟨fun y => absurd y c4, fun _ => ⟨q1, trivial⟩⟩, fun y => absurd c2 y⟩, fun y => absurd k10 y⟩⟩, rd_S_c hS2 g8 g7, rd_acc_f g8 (rd_acc_f g6 q3)⟩
        · have c4 : (20 : Int32) ≤ S.2 j := Int32.not_lt.mp c3
          rw [if_pos c4, if_neg c3]
          exact ⟨⟨fun _ => trivial, fun _ => ⟨fun _ => ⟨o2, fun _ => ⟨fun _ => trivial, fun y => absurd c4 y⟩, fun y => absurd c2 y⟩, fun y => absurd k10 y⟩⟩, hS0, ha0⟩
    obtain ⟨u1, u2, u3⟩ := one
    obtain ⟨t1, t2, t3⟩ := two _ _ u2 u3
    unfold rd_bd rd_bp
    rw [e46, e47, h75, if_pos w]
    exact ⟨⟨fun _ => ⟨u1, fun y => ⟨t1 y, trivial⟩, fun _ => trivial⟩, fun y => absurd w y⟩, t2, t3⟩
  · have hst : rd_st od (M.2.1 5 7) (rd_w f 0) (rd_w f 1) S k 0 = none := by
      unfold rd_st; rw [if_neg (by decide), hgi, hgj, if_neg w]
    obtain ⟨t1, t2, t3⟩ := two _ _ hS ha
    unfold rd_bd rd_bp
    rw [e46, e47, h75, if_neg w, rd_ds, hst]
    exact ⟨⟨fun y => absurd y w, fun _ => ⟨fun y => ⟨t1 y, trivial⟩, fun _ => trivial⟩⟩, t2, t3⟩
/-- the whole search -/
theorem rd_sea (hod : od_is M od) (hp : p ≤ 6) (hN : N ≤ 10) (hf : ∀ y, y < N → rd_w f 0 y < p ∧ rd_w f 1 y < p ∧ rd_w f 0 y ≠ rd_w f 1 y ∧ f (2 * y) = nI (rd_w f 0 y) ∧ f (2 * y + 1) = nI (rd_w f 1 y))
    (hw : ∀ (A : ro_Mm) (S : pu_T) (r ks : Nat) (a : rd_A), rd_S M p N f cl A S → rd_acc A N a → rd_S M p N f cl (xm_88 A (nI r) (nI (rv N ks))) S ∧ rd_acc (xm_88 A (nI r) (nI (rv N ks))) N (rd_up btr a (val S r) ks))
    (hpr : cl = false → ∀ (d k : Nat) (S : pu_T) (r ks : Nat) (v : Int32) (k0 : Nat), ¬ nI r < v → r + d ≤ 100 → rd_ds od (M.2.1 5 7) (rd_w f 0) (rd_w f 1) val btr d k S r ks (some (v, k0)) = some (v, k0)) :
    ∀ (d k n : Nat), k + d = N → d < n → ∀ (A : ro_Mm) (S : pu_T) (r ks : Nat) (a : rd_A), r ≤ k → rd_S M p N f cl A S → rd_acc A N a →
    xpr_sea n A (nI k) (nI r) (nI (rv k ks)) ∧ rd_S M p N f cl (xr_sea n A (nI k) (nI r) (nI (rv k ks))) S ∧ rd_acc (xr_sea n A (nI k) (nI r) (nI (rv k ks))) N (rd_ds od (M.2.1 5 7) (rd_w f 0) (rd_w f 1) val btr d k S r ks a) := by
  intro d
  induction d with
  | zero =>
    intro k n hk hn A S r ks a hr hS ha
    cases n with
    | zero => omega
    | succ n =>
      have k0 : ¬ nI k < 0 := nI_pos (by omega)
      have c1 : A.2.1 42 5 ≤ nI k := by rw [hS.2.2.1]; exact nI_le (by omega) (by omega)
      have ek : k = N := by omega
      rw [xr_sea, xpr_sea]
      dsimp only
      rw [rd_87, rd_87p, if_neg k0, if_pos c1, rd_ds, ek]
      rw [ek] at c1
      exact ⟨⟨fun _ => trivial, fun _ => ⟨fun _ => trivial, fun y => absurd c1 y⟩⟩, hw A S r ks a hS ha⟩
  | succ d ih =>
    intro k n hk hn A S r ks a hr hS ha
    cases n with
    | zero => omega
    | succ n =>
      have k0 : ¬ nI k < 0 := nI_pos (by omega)
      have c1 : ¬ A.2.1 42 5 ≤ nI k := by rw [hS.2.2.1]; exact nI_ge (by omega) (by omega)
      have k10 : nI k < 10 := nI_lt (b := 10) (by omega) (by omega)
      obtain ⟨b1, b2, b3⟩ := rd_body (val := val) (btr := btr) hod hp hN hf (F := xr_sea n) (P := xpr_sea n) (d := d) (k := k) (by omega) (fun A S r ks a hr hS ha => ih (k + 1) n (by omega) (by omega) A S r ks a hr hS ha) (ks := ks) hr hS ha
      rw [xr_sea, xpr_sea]
      dsimp only
      rw [rd_87, rd_87p, if_neg k0, if_neg c1, if_pos k10]
      by_cases c2 : A.2.1 42 8 = 0
      · rw [if_pos c2]
        have hcl : cl = false := by rw [hS.2.2.2.1] at c2; exact ro_b_0.mp c2
        by_cases c3 : A.2.1 42 9 = 0
        · rw [if_pos c3]
          exact ⟨⟨fun _ => trivial, fun _ => ⟨fun y => absurd y c1, fun _ => ⟨fun _ => ⟨fun _ => ⟨fun _ => b1, fun y => absurd c3 y⟩, fun y => absurd c2 y⟩, fun y => absurd k10 y⟩⟩⟩, b2, b3⟩
        · rw [if_neg c3]
          by_cases c4 : nI r < A.2.1 42 6
          · rw [if_pos c4]
            exact ⟨⟨fun _ => trivial, fun _ => ⟨fun y => absurd y c1, fun _ => ⟨fun _ => ⟨fun _ => ⟨fun y => absurd y c3, fun _ => ⟨fun _ => b1, fun _ => trivial⟩⟩, fun y => absurd c2 y⟩, fun y => absurd k10 y⟩⟩⟩, b2, b3⟩
          · rw [if_neg c4]
            refine ⟨⟨fun _ => trivial, fun _ => ⟨fun y => absurd y c1, fun _ => ⟨fun _ => ⟨fun _ => ⟨fun y => absurd y c3, fun _ => ⟨fun y => absurd y c4, fun _ => trivial⟩⟩, fun y => absurd c2 y⟩, fun y => absurd k10 y⟩⟩⟩, hS, ?_⟩
            cases a with
            | none => exact absurd ha c3
            | some x =>
              obtain ⟨v, k1⟩ := x
              rw [hpr hcl (d + 1) k S r ks v k1 (by rw [← ha.2.1]; exact c4) (by omega)]
              exact ha
      · rw [if_neg c2]
        exact ⟨⟨fun _ => trivial, fun _ => ⟨fun y => absurd y c1, fun _ => ⟨fun _ => ⟨fun y => absurd y c2, fun _ => b1⟩, fun y => absurd k10 y⟩⟩⟩, b2, b3⟩
end SEA
end ROUND3

