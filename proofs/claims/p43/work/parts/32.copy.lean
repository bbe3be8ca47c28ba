/-! arraycopy as a memory of its own -/
def ro_cpI (M : ro_Mm) (c0 : Nat) (sp : Int32) (c1 : Nat) (dp n : Int32) : ro_Mm := (M.1, ro_row M.2.1 c1 (va_cpy (M.2.1 c0) (M.2.1 c1) sp.toNatClampNeg dp.toNatClampNeg n.toNatClampNeg), M.2.2.1, M.2.2.2)
def ro_cpJ (M : ro_Mm) (c0 : Nat) (sp : Int32) (c1 : Nat) (dp n : Int32) : ro_Mm := (M.1, M.2.1, ro_row M.2.2.1 c1 (va_cpy (M.2.2.1 c0) (M.2.2.1 c1) sp.toNatClampNeg dp.toNatClampNeg n.toNatClampNeg), M.2.2.2)
def ro_cpo (sp dp n : Int32) (n0 n1 : Nat) : Prop := ¬ sp < 0 ∧ ¬ dp < 0 ∧ ¬ n < 0 ∧ sp.toNatClampNeg + n.toNatClampNeg ≤ n0 ∧ dp.toNatClampNeg + n.toNatClampNeg ≤ n1
theorem rs_cpI {X : ro_Sx} {d y : Nat} {post : ro_Po} {pc q : Nat} {lv : ro_Lv} {st : List Value} {M : ro_Mm} {cs : Nat × Nat} {a x c0 c1 n0 n1 : Nat} {sp dp n : Int32} (hi : ro_ix y pc = some (pc, .invokestatic x, a, 4)) (hp : pc + 3 = q) (hc : ro_cat st ≤ 8) (h40 : 4 ≤ c0) (h41 : 4 ≤ c1) (k0 : ro_kd M c0 = (16, n0)) (k1 : ro_kd M c1 = (16, n1)) (ho : ro_cpo sp dp n n0 n1)
    (h : ro_w X d y post q lv st (ro_cpI M c0 sp c1 dp n) cs) : ro_w X d y post pc lv (.int n :: .int dp :: .ref c1 :: .int sp :: .ref c0 :: st) M cs :=
  rs_copyi hi hp hc h40 h41 k0 k1 ho.1 ho.2.1 ho.2.2.1 rfl rfl rfl ho.2.2.2.1 ho.2.2.2.2 h
theorem rs_cpJ {X : ro_Sx} {d y : Nat} {post : ro_Po} {pc q : Nat} {lv : ro_Lv} {st : List Value} {M : ro_Mm} {cs : Nat × Nat} {a x c0 c1 n0 n1 : Nat} {sp dp n : Int32} (hi : ro_ix y pc = some (pc, .invokestatic x, a, 4)) (hp : pc + 3 = q) (hc : ro_cat st ≤ 8) (h40 : 4 ≤ c0) (h41 : 4 ≤ c1) (k0 : ro_kd M c0 = (17, n0)) (k1 : ro_kd M c1 = (17, n1)) (ho : ro_cpo sp dp n n0 n1)
    (h : ro_w X d y post q lv st (ro_cpJ M c0 sp c1 dp n) cs) : ro_w X d y post pc lv (.int n :: .int dp :: .ref c1 :: .int sp :: .ref c0 :: st) M cs :=
  rs_copyl hi hp hc h40 h41 k0 k1 ho.1 ho.2.1 ho.2.2.1 rfl rfl rfl ho.2.2.2.1 ho.2.2.2.2 h
theorem xwI_cpI {M : ro_Mm} {c0 c1 c j : Nat} {sp dp n : Int32} (n0 : c ≠ c1) : (ro_cpI M c0 sp c1 dp n).2.1 c j = M.2.1 c j := by
  show ro_row M.2.1 c1 _ c j = _
  unfold ro_row
  rw [if_neg n0]
theorem xwJ_cpI {M : ro_Mm} {c0 c1 c j : Nat} {sp dp n : Int32} : (ro_cpI M c0 sp c1 dp n).2.2.1 c j = M.2.2.1 c j := rfl
theorem xwI_cpJ {M : ro_Mm} {c0 c1 c j : Nat} {sp dp n : Int32} : (ro_cpJ M c0 sp c1 dp n).2.1 c j = M.2.1 c j := rfl
theorem xwJ_cpJ {M : ro_Mm} {c0 c1 c j : Nat} {sp dp n : Int32} (n0 : c ≠ c1) : (ro_cpJ M c0 sp c1 dp n).2.2.1 c j = M.2.2.1 c j := by
  show ro_row M.2.2.1 c1 _ c j = _
  unfold ro_row
  rw [if_neg n0]

