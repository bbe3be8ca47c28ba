/-! rounds: kinds one behind the other, by choices -/
section ROUND1
/-- bits told the other way round -/
def rv (n : Nat) (c : Nat) : Nat := match n with
  | 0 => 0
  | n + 1 => rv n (c / 2) + c % 2 * 2 ^ n
theorem rv_lt : ∀ (n c : Nat), rv n c < 2 ^ n
  | 0, _ => by rw [rv]; decide
  | n + 1, c => by
    rw [rv, Nat.pow_succ]
    have h1 := rv_lt n (c / 2)
    have h2 : c % 2 * 2 ^ n ≤ 1 * 2 ^ n := Nat.mul_le_mul_right _ (by omega)
    omega
theorem rv_ext (k ks b : Nat) (hb : b < 2) : rv (k + 1) (2 * ks + b) = rv k ks + b * 2 ^ k := by
  rw [rv, show (2 * ks + b) / 2 = ks by omega, show (2 * ks + b) % 2 = b by omega]
theorem rv_bit : ∀ (n c k : Nat), k < n → rv n c / 2 ^ k % 2 = c / 2 ^ (n - 1 - k) % 2
  | 0, _, _, h => by omega
  | n + 1, c, k, h => by
    rw [rv]
    by_cases e : k = n
    · subst e
      have h1 := rv_lt k (c / 2)
      rw [show k + 1 - 1 - k = 0 by omega, Nat.pow_zero, Nat.div_one, Nat.add_mul_div_right _ _ (Nat.pow_pos (by decide)), Nat.div_eq_of_lt h1, Nat.zero_add, Nat.mod_mod]
    · have hk : k < n := by omega
      have h2 : c % 2 * 2 ^ n = (c % 2 * 2 ^ (n - 1 - k) * 2) * 2 ^ k := by
        rw [show n = (n - 1 - k) + 1 + k by omega, Nat.pow_add, Nat.pow_succ]
        rw [show (n - 1 - k) + 1 + k - 1 - k = n - 1 - k by omega, ← Nat.mul_assoc, ← Nat.mul_assoc]
      rw [h2, Nat.add_mul_div_right _ _ (Nat.pow_pos (by decide)), Nat.add_mul_mod_self_right, rv_bit n (c / 2) k hk, Nat.div_div_eq_div_mul, show 2 * 2 ^ (n - 1 - k) = 2 ^ (n + 1 - 1 - k) by rw [← Nat.pow_succ']; congr 1; omega]
theorem rb_or : ∀ k, k < 10 → ∀ a, a < 2 ^ k → nI a ||| ((1 : Int32) <<< (nI k &&& 31)) = nI (a + 2 ^ k) := by decide +kernel
theorem rb_sh : ∀ k, k < 11 → (1 : Int32) <<< (nI k &&& 31) = nI (2 ^ k) := by decide +kernel
theorem rb_bit : ∀ k, k < 10 → ∀ x, x < 1024 → (nI x >>> (nI k &&& 31)) &&& 1 = nI (x / 2 ^ k % 2) := by decide +kernel
abbrev rd_A : Type := Option (Int32 × Nat)
section RD
variable (od : Nat → Nat → Int32 → Int32 → Int32) (hab : Int32) (fa fb : Nat → Nat) (val : pu_T → Nat → Int32) (btr : Int32 → Int32 → Bool)
/-- one coin goes over, whole (0) or notched: the purses then, whether it was refused -/
def rd_st (S : pu_T) (k c : Nat) : Option (pu_T × Nat) :=
  if c = 1 then (if pu_mc S (fa k) (fb k) = true then some (pu_gc S (fa k) (fb k), 0) else none)
  else (if pu_mw S (fa k) (fb k) = true then (if od (fa k) (fb k) (S.1 (fb k)) (S.2 (fb k)) < hab then some (pu_gw S (fa k) (fb k), 0)
    else (if S.2 (fb k) < 20 then some (pu_gc (pu_rf S (fa k)) (fa k) (fb k), 1) else none)) else none)
/-- all that are left, by the bits of c -/
def rd_rn : Nat → Nat → pu_T → Nat → Nat → Option (pu_T × Nat)
  | 0, _, S, r, _ => some (S, r)
  | d + 1, k, S, r, c => match rd_st od hab fa fb S k (c / 2 ^ d % 2) with
    | none => none
    | some (S2, i) => rd_rn d (k + 1) S2 (r + i) c
def rd_up (a : rd_A) (v : Int32) (ks : Nat) : rd_A := match a with
  | none => some (v, ks)
  | some (b, k0) => if btr v b = true then some (v, ks) else some (b, k0)
def rd_ds : Nat → Nat → pu_T → Nat → Nat → rd_A → rd_A
  | 0, _, S, r, ks, a => rd_up btr a (val S r) ks
  | d + 1, k, S, r, ks, a =>
    let a1 := match rd_st od hab fa fb S k 0 with
      | none => a
      | some (S2, i) => rd_ds d (k + 1) S2 (r + i) (2 * ks) a
    match rd_st od hab fa fb S k 1 with
      | none => a1
      | some (S2, i) => rd_ds d (k + 1) S2 (r + i) (2 * ks + 1) a1
def rd_u2 (a : rd_A) (o : Option (pu_T × Nat)) (c : Nat) : rd_A := match o with
  | none => a
  | some (S, r) => rd_up btr a (val S r) c
/-- all kinds from s on -/
def rd_fd (N : Nat) (S0 : pu_T) : Nat → Nat → rd_A → rd_A
  | 0, _, a => a
  | m + 1, s, a => rd_fd N S0 m (s + 1) (rd_u2 val btr a (rd_rn od hab fa fb N 0 S0 0 s) s)
theorem rd_fd_add (N : Nat) (S0 : pu_T) : ∀ (m n s : Nat) (a : rd_A), rd_fd od hab fa fb val btr N S0 (m + n) s a = rd_fd od hab fa fb val btr N S0 n (s + m) (rd_fd od hab fa fb val btr N S0 m s a)
  | 0, n, s, a => by rw [Nat.zero_add, Nat.add_zero, rd_fd]
  | m + 1, n, s, a => by
    rw [show m + 1 + n = (m + n) + 1 by omega, rd_fd, rd_fd, rd_fd_add N S0 m n (s + 1), show s + 1 + m = s + (m + 1) by omega]
theorem rd_fd_no (N : Nat) (S0 : pu_T) : ∀ (m s : Nat) (a : rd_A), (∀ c, s ≤ c → c < s + m → rd_rn od hab fa fb N 0 S0 0 c = none) → rd_fd od hab fa fb val btr N S0 m s a = a
  | 0, _, _, _ => rfl
  | m + 1, s, a, h => by
    rw [rd_fd, h s (Nat.le_refl _) (by omega)]
    exact rd_fd_no N S0 m (s + 1) a (fun c h1 h2 => h c (by omega) (by omega))
/-- way by way as well as kind by kind -/
theorem rd_all (N : Nat) (S0 : pu_T) : ∀ (d k : Nat) (S : pu_T) (r base : Nat) (a : rd_A), (∀ c, base * 2 ^ d ≤ c → c < (base + 1) * 2 ^ d → rd_rn od hab fa fb N 0 S0 0 c = rd_rn od hab fa fb d k S r c) →
    rd_fd od hab fa fb val btr N S0 (2 ^ d) (base * 2 ^ d) a = rd_ds od hab fa fb val btr d k S r base a
  | 0, k, S, r, base, a, h => by
    rw [Nat.pow_zero, Nat.mul_one, rd_fd, rd_fd, h base (by omega) (by omega), rd_rn, rd_ds]
    rfl
  | d + 1, k, S, r, base, a, h => by
    have hp : 0 < 2 ^ d := Nat.pow_pos (by decide)
    have e1 : base * 2 ^ (d + 1) = 2 * base * 2 ^ d := by rw [Nat.pow_succ, Nat.mul_comm (2 ^ d) 2, ← Nat.mul_assoc, Nat.mul_comm base 2]
    have e2 : 2 * base * 2 ^ d + 2 ^ d = (2 * base + 1) * 2 ^ d := by rw [Nat.add_mul, Nat.one_mul]
    have e3 : (base + 1) * 2 ^ (d + 1) = (2 * base + 2) * 2 ^ d := by rw [Nat.pow_succ, Nat.mul_comm (2 ^ d) 2, ← Nat.mul_assoc]; congr 1; omega
    have e4 : (2 * base + 2) * 2 ^ d = (2 * base + 1) * 2 ^ d + 2 ^ d := by rw [show 2 * base + 2 = 2 * base + 1 + 1 by omega, Nat.add_mul, Nat.one_mul]
    have q0 : ∀ c, 2 * base * 2 ^ d ≤ c → c < (2 * base + 1) * 2 ^ d → c / 2 ^ d % 2 = 0 := fun c h1 h2 => by
      rw [Nat.div_eq_of_lt_le h1 h2]; omega
    have q1 : ∀ c, (2 * base + 1) * 2 ^ d ≤ c → c < (2 * base + 1 + 1) * 2 ^ d → c / 2 ^ d % 2 = 1 := fun c h1 h2 => by
      rw [Nat.div_eq_of_lt_le h1 h2]; omega
    rw [e1, e3] at h
    rw [e1, Nat.pow_succ, Nat.mul_two, rd_fd_add, e2, rd_ds]
    -- the first half
    have first : rd_fd od hab fa fb val btr N S0 (2 ^ d) (2 * base * 2 ^ d) a = (match rd_st od hab fa fb S k 0 with
      | none => a
      | some (S2, i) => rd_ds od hab fa fb val btr d (k + 1) S2 (r + i) (2 * base) a) := by
      cases hs : rd_st od hab fa fb S k 0 with
      | none =>
        refine rd_fd_no od hab fa fb val btr N S0 _ _ a (fun c h1 h2 => ?_)
        rw [h c h1 (by omega), rd_rn, q0 c h1 (by omega), hs]
      | some x =>
        obtain ⟨S2, i⟩ := x
        refine rd_all N S0 d (k + 1) S2 (r + i) (2 * base) a (fun c h1 h2 => ?_)
        rw [h c h1 (by omega), rd_rn, q0 c h1 h2, hs]
    rw [first]
    generalize (match rd_st od hab fa fb S k 0 with
      | none => a
      | some (S2, i) => rd_ds od hab fa fb val btr d (k + 1) S2 (r + i) (2 * base) a) = a1
    cases hs : rd_st od hab fa fb S k 1 with
    | none =>
      refine rd_fd_no od hab fa fb val btr N S0 _ _ a1 (fun c h1 h2 => ?_)
      rw [h c (by omega) (by omega), rd_rn, q1 c h1 (by rw [show 2 * base + 1 + 1 = 2 * base + 2 by omega]; omega), hs]
    | some x =>
      obtain ⟨S2, i⟩ := x
      refine rd_all N S0 d (k + 1) S2 (r + i) (2 * base + 1) a1 (fun c h1 h2 => ?_)
      rw [h c (by omega) (by rw [show 2 * base + 1 + 1 = 2 * base + 2 by omega] at h2; omega), rd_rn, q1 c h1 h2, hs]
theorem rd_top (N : Nat) (S0 : pu_T) (a : rd_A) : rd_fd od hab fa fb val btr N S0 (2 ^ N) 0 a = rd_ds od hab fa fb val btr N 0 S0 0 0 a := by
  have h := rd_all od hab fa fb val btr N S0 N 0 S0 0 0 a (fun c _ _ => rfl)
  rw [Nat.zero_mul] at h
  exact h
end RD
/-- more refused than the best: nothing better comes -/
theorem rd_prune (od : Nat → Nat → Int32 → Int32 → Int32) (hab : Int32) (fa fb : Nat → Nat) : ∀ (d k : Nat) (S : pu_T) (r ks v k0 : Nat), v ≤ r → r + d ≤ 100 → rd_ds od hab fa fb (fun _ r => nI r) (fun x y => decide (x < y)) d k S r ks (some (nI v, k0)) = some (nI v, k0)
  | 0, k, S, r, ks, v, k0, h, hr => by
    rw [rd_ds]
    show (if decide (nI r < nI v) = true then _ else _) = _
    have : ¬ nI r < nI v := nI_nlt h (by omega)
    rw [if_neg (by simp [this])]
  | d + 1, k, S, r, ks, v, k0, h, hr => by
    rw [rd_ds]
    have ib : ∀ {c : Nat} {S2 : pu_T} {i : Nat}, rd_st od hab fa fb S k c = some (S2, i) → i ≤ 1 := by
      intro c S2 i hs
      unfold rd_st at hs
      by_cases c1 : c = 1
      · rw [if_pos c1] at hs
        by_cases c2 : pu_mc S (fa k) (fb k) = true
        · rw [if_pos c2] at hs
          have := congrArg Prod.snd (Option.some.inj hs)
          have : 0 = i := this
          omega
        · rw [if_neg c2] at hs; cases hs
      · rw [if_neg c1] at hs
        by_cases c2 : pu_mw S (fa k) (fb k) = true
        · rw [if_pos c2] at hs
          by_cases c3 : od (fa k) (fb k) (S.1 (fb k)) (S.2 (fb k)) < hab
          · rw [if_pos c3] at hs
            have := congrArg Prod.snd (Option.some.inj hs)
            have : 0 = i := this
            omega
          · rw [if_neg c3] at hs
            by_cases c4 : S.2 (fb k) < 20
            · rw [if_pos c4] at hs
              have := congrArg Prod.snd (Option.some.inj hs)
              have : 1 = i := this
              omega
            · rw [if_neg c4] at hs; cases hs
        · rw [if_neg c2] at hs; cases hs
    have e1 : (match rd_st od hab fa fb S k 0 with
      | none => some (nI v, k0)
      | some (S2, i) => rd_ds od hab fa fb (fun _ r => nI r) (fun x y => decide (x < y)) d (k + 1) S2 (r + i) (2 * ks) (some (nI v, k0))) = some (nI v, k0) := by
      cases hs : rd_st od hab fa fb S k 0 with
      | none => rfl
      | some x =>
        obtain ⟨S2, i⟩ := x
        have := ib hs
        exact rd_prune od hab fa fb d (k + 1) S2 (r + i) (2 * ks) v k0 (by omega) (by omega)
    rw [e1]
    cases hs : rd_st od hab fa fb S k 1 with
    | none => rfl
    | some x =>
      obtain ⟨S2, i⟩ := x
      have := ib hs
      exact rd_prune od hab fa fb d (k + 1) S2 (r + i) (2 * ks + 1) v k0 (by omega) (by omega)
/-- purses as they may be -/
def pu_ok (p : Nat) (S : pu_T) : Prop := ∀ k, k < p → 0 ≤ S.1 k ∧ S.1 k ≤ 20 ∧ 0 ≤ S.2 k ∧ S.2 k ≤ 20
theorem pu_ok_gw {p : Nat} {S : pu_T} {i j : Nat} (h : pu_ok p S) (hi : i < p) (hj : j < p) (hij : i ≠ j) (hm : pu_mw S i j = true) : pu_ok p (pu_gw S i j) := by
  intro k hk
  have hk1 := h k hk
  have hi1 := h i hi
  have hj1 := h j hj
  unfold pu_mw at hm
  simp only [Bool.and_eq_true, decide_eq_true_eq] at hm
  refine ⟨?_, ?_, hk1.2.2⟩ <;> (unfold pu_gw; simp only [pu_set]; by_cases e : k = j) <;> (try (by_cases e2 : k = i)) <;> simp only [e, e2, if_true, if_false] <;> grind
theorem pu_ok_gc {p : Nat} {S : pu_T} {i j : Nat} (h : pu_ok p S) (hi : i < p) (hj : j < p) (hij : i ≠ j) (hm : pu_mc S i j = true) : pu_ok p (pu_gc S i j) := by
  intro k hk
  have hk1 := h k hk
  have hi1 := h i hi
  have hj1 := h j hj
  unfold pu_mc at hm
  simp only [Bool.and_eq_true, decide_eq_true_eq] at hm
  refine ⟨hk1.1, hk1.2.1, ?_, ?_⟩ <;> (unfold pu_gc; simp only [pu_set]; by_cases e : k = j) <;> (try (by_cases e2 : k = i)) <;> simp only [e, e2, if_true, if_false] <;> grind
theorem pu_ok_rf {p : Nat} {S : pu_T} {i j : Nat} (h : pu_ok p S) (hi : i < p) (hm : pu_mw S i j = true) : pu_ok p (pu_rf S i) := by
  intro k hk
  have hk1 := h k hk
  have hi1 := h i hi
  unfold pu_mw at hm
  simp only [Bool.and_eq_true, decide_eq_true_eq] at hm
  refine ⟨?_, ?_, ?_, ?_⟩ <;> (unfold pu_rf; simp only [pu_set]; by_cases e : k = i) <;> simp only [e, if_true, if_false] <;> grind
theorem pu_ok_now {M : ro_Mm} (h : ro_Inv M) {p : Nat} (hp : p ≤ 6) : pu_ok p (pu_now M) := fun k hk => by
  obtain ⟨b1, b2, b3, b4⟩ := h.2.1.2.1 k (by omega)
  exact ⟨b1.2.1, b1.2.2, b2.2.1, b2.2.2⟩
/-- behind a refusal -/
theorem pu_mc_rf {p : Nat} {S : pu_T} {i j : Nat} (h : pu_ok p S) (hi : i < p) (hij : i ≠ j) (hm : pu_mw S i j = true) : (pu_mc (pu_rf S i) i j = true) = (S.2 j < 20) := by
  have hi1 := h i hi
  unfold pu_mw at hm
  simp only [Bool.and_eq_true, decide_eq_true_eq] at hm
  unfold pu_mc pu_rf
  simp only [pu_set, if_true, if_neg (fun q : j = i => hij q.symm), Bool.and_eq_true, decide_eq_true_eq]
  have : 0 < S.2 i + 1 := by grind
  simp only [this, true_and]
end ROUND1

