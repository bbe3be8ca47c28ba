/-! a table with holes -/
theorem rs_swDef {X : ro_Sx} {d y : Nat} {post : ro_Po} {pc : Nat} {lv : ro_Lv} {st : List Value} {M : ro_Mm} {cs : Nat × Nat} {a b : Nat} {df lo hi0 : Int} {offs : Array Int} {u : Int32} {t : Nat} (hi : ro_ix y pc = some (pc, .tableswitch df lo hi0 offs, a, b)) (ho : ¬ (u.toInt < lo ∨ hi0 < u.toInt) → offs[(u.toInt - lo).toNat]? = some df) (ht : (pc : Int) + df = (t : Int)) (h : ro_w X d y post t lv st M cs) : ro_w X d y post pc lv (.int u :: st) M cs := by
  by_cases z : u.toInt < lo ∨ hi0 < u.toInt
  · exact rs_swOut hi z ht h
  · exact rs_swIn hi (by omega) (by omega) (ho z) ht h

