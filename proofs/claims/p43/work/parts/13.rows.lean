/-! rows of the small machine, one an instruction (by program, wip/whole/gen13.py) -/
abbrev ro_w (X : ro_Sx) (d y : Nat) (post : ro_Po) : ro_K := ro_wp (ro_cwp X d) X y post
/-- an answer of true or false -/
def ro_b (p : Bool) : Int32 := if p then 1 else 0
section RS
variable {X : ro_Sx} {d y : Nat} {post : ro_Po} {pc q : Nat} {lv lv2 : ro_Lv} {st : List Value} {M : ro_Mm} {cs : Nat × Nat} {a b nL : Nat}
theorem rs_any {e : ro_In} (hi : ro_ix y pc = some e) (hr : ro_isR e.2.1 = false) (h : ro_step (ro_cwp X d) X (ro_lim y) (ro_m y).2.2.2.2.1 (ro_m y).2.2.1 ((ro_m y).1.name == "<init>") pc lv st M cs (ro_w X d y post) e.2.1 e.2.2.1 e.2.2.2) : ro_w X d y post pc lv st M cs := by
  refine ro_wp_one ?_
  unfold ro_one
  rw [hi]
  exact ⟨(fun z => by rw [hr] at z; cases z), fun _ => h⟩
theorem rs_end {e : ro_In} (hi : ro_ix y pc = some e) (hr : ro_isR e.2.1 = true) (h : ro_end (ro_lim y) cs (ro_m y).2.2.2.1 st M post e.2.1) : ro_w X d y post pc lv st M cs := by
  refine ro_wp_one ?_
  unfold ro_one
  rw [hi]
  exact ⟨fun _ => h, fun z => by rw [hr] at z; cases z⟩
theorem rs_iconst {n : Int} {v : Int32} (hi : ro_ix y pc = some (pc, .iconst n, a, b)) (hp : pc + 1 = q) (hv : Int32.ofInt n = v) (h : ro_w X d y post q lv (.int v :: st) M cs) : ro_w X d y post pc lv (st) M cs := by
  subst hp
  subst hv
  exact rs_any hi rfl h
theorem rs_bipush {n : Int} {v : Int32} (hi : ro_ix y pc = some (pc, .bipush n, a, b)) (hp : pc + 2 = q) (hv : (Int8.ofInt n).toInt32 = v) (h : ro_w X d y post q lv (.int v :: st) M cs) : ro_w X d y post pc lv (st) M cs := by
  subst hp
  subst hv
  exact rs_any hi rfl h
theorem rs_sipush {n : Int} {v : Int32} (hi : ro_ix y pc = some (pc, .sipush n, a, b)) (hp : pc + 3 = q) (hv : (Int16.ofInt n).toInt32 = v) (h : ro_w X d y post q lv (.int v :: st) M cs) : ro_w X d y post pc lv (st) M cs := by
  subst hp
  subst hv
  exact rs_any hi rfl h
theorem rs_lconst {n : Fin 2} {v : Int64} (hi : ro_ix y pc = some (pc, .lconst n, a, b)) (hp : pc + 1 = q) (hv : Int64.ofNat (n : Nat) = v) (h : ro_w X d y post q lv (.long v :: st) M cs) : ro_w X d y post pc lv (st) M cs := by
  subst hp
  subst hv
  exact rs_any hi rfl h
theorem rs_null (hi : ro_ix y pc = some (pc, .aconst_null, a, b)) (hp : pc + 1 = q) (h : ro_w X d y post q lv (.null :: st) M cs) : ro_w X d y post pc lv (st) M cs := by
  subst hp
  exact rs_any hi rfl h
theorem rs_ldc {x : Nat} {v : Int32} {e : Nat × Nat × Int32 × Nat} (hi : ro_ix y pc = some (pc, .ldc x, a, b)) (hp : pc + 2 = q) (hf : ro_KI.find? (fun e => e.1 == (ro_m y).2.2.2.2.1 && e.2.1 == x) = some e) (hv : e.2.2.1 = v) (h : ro_w X d y post q lv (.int v :: st) M cs) : ro_w X d y post pc lv (st) M cs := by
  subst hp
  subst hv
  refine rs_any hi rfl ?_
  show ro_ki (ro_m y).2.2.2.2.1 x (fun v => ro_w X d y post (pc + 2) lv (.int v :: st) M cs)
  unfold ro_ki
  rw [hf]
  exact h
theorem rs_ldc_w {x : Nat} {v : Int32} {e : Nat × Nat × Int32 × Nat} (hi : ro_ix y pc = some (pc, .ldc_w x, a, b)) (hp : pc + 3 = q) (hf : ro_KI.find? (fun e => e.1 == (ro_m y).2.2.2.2.1 && e.2.1 == x) = some e) (hv : e.2.2.1 = v) (h : ro_w X d y post q lv (.int v :: st) M cs) : ro_w X d y post pc lv (st) M cs := by
  subst hp
  subst hv
  refine rs_any hi rfl ?_
  show ro_ki (ro_m y).2.2.2.2.1 x (fun v => ro_w X d y post (pc + 3) lv (.int v :: st) M cs)
  unfold ro_ki
  rw [hf]
  exact h
theorem rs_ldc2 {x : Nat} {v : Int64} {e : Nat × Nat × Int64 × Nat} (hi : ro_ix y pc = some (pc, .ldc2_w x, 0, b)) (hp : pc + 3 = q) (hf : ro_KJ.find? (fun e => e.1 == (ro_m y).2.2.2.2.1 && e.2.1 == x) = some e) (hv : e.2.2.1 = v) (h : ro_w X d y post q lv (.long v :: st) M cs) : ro_w X d y post pc lv (st) M cs := by
  subst hp
  subst hv
  refine rs_any hi rfl ?_
  show ro_kj (ro_m y).2.2.2.2.1 x (fun v => ro_w X d y post (pc + 3) lv (.long v :: st) M cs)
  unfold ro_kj
  rw [hf]
  exact h
theorem rs_iload_n {n : Fin 4} {x : Int32} (hi : ro_ix y pc = some (pc, .iload_n n, a, b)) (hp : pc + 1 = q) (hl : ro_ld lv n = some (.int x)) (h : ro_w X d y post q lv (.int x :: st) M cs) : ro_w X d y post pc lv (st) M cs := by
  subst hp
  refine rs_any hi rfl ?_
  show ro_lI _ _
  rw [hl]
  exact h
theorem rs_iload {n : Nat} {x : Int32} (hi : ro_ix y pc = some (pc, .iload n, a, b)) (hp : pc + 2 = q) (hl : ro_ld lv n = some (.int x)) (h : ro_w X d y post q lv (.int x :: st) M cs) : ro_w X d y post pc lv (st) M cs := by
  subst hp
  refine rs_any hi rfl ?_
  show ro_lI _ _
  rw [hl]
  exact h
theorem rs_lload_n {n : Fin 4} {x : Int64} (hi : ro_ix y pc = some (pc, .lload_n n, a, b)) (hp : pc + 1 = q) (hl : ro_ld lv n = some (.long x)) (h : ro_w X d y post q lv (.long x :: st) M cs) : ro_w X d y post pc lv (st) M cs := by
  subst hp
  refine rs_any hi rfl ?_
  show ro_lJ _ _
  rw [hl]
  exact h
theorem rs_lload {n : Nat} {x : Int64} (hi : ro_ix y pc = some (pc, .lload n, a, b)) (hp : pc + 2 = q) (hl : ro_ld lv n = some (.long x)) (h : ro_w X d y post q lv (.long x :: st) M cs) : ro_w X d y post pc lv (st) M cs := by
  subst hp
  refine rs_any hi rfl ?_
  show ro_lJ _ _
  rw [hl]
  exact h
theorem rs_aload_n {n : Fin 4} {c : Nat} (hi : ro_ix y pc = some (pc, .aload_n n, a, b)) (hp : pc + 1 = q) (hl : ro_ld lv n = some (.ref c)) (h : ro_w X d y post q lv (.ref c :: st) M cs) : ro_w X d y post pc lv (st) M cs := by
  subst hp
  refine rs_any hi rfl ?_
  show ro_lQ (ro_ld lv n) (fun x => ro_w X d y post (pc + 1) lv (x :: st) M cs)
  rw [hl]
  exact h
theorem rs_aload {n : Nat} {c : Nat} (hi : ro_ix y pc = some (pc, .aload n, a, b)) (hp : pc + 2 = q) (hl : ro_ld lv n = some (.ref c)) (h : ro_w X d y post q lv (.ref c :: st) M cs) : ro_w X d y post pc lv (st) M cs := by
  subst hp
  refine rs_any hi rfl ?_
  show ro_lQ (ro_ld lv n) (fun x => ro_w X d y post (pc + 2) lv (x :: st) M cs)
  rw [hl]
  exact h
theorem rs_aloadN_n {n : Fin 4} (hi : ro_ix y pc = some (pc, .aload_n n, a, b)) (hp : pc + 1 = q) (hl : ro_ld lv n = some (.null)) (h : ro_w X d y post q lv (.null :: st) M cs) : ro_w X d y post pc lv (st) M cs := by
  subst hp
  refine rs_any hi rfl ?_
  show ro_lQ (ro_ld lv n) (fun x => ro_w X d y post (pc + 1) lv (x :: st) M cs)
  rw [hl]
  exact h
theorem rs_aloadN {n : Nat} (hi : ro_ix y pc = some (pc, .aload n, a, b)) (hp : pc + 2 = q) (hl : ro_ld lv n = some (.null)) (h : ro_w X d y post q lv (.null :: st) M cs) : ro_w X d y post pc lv (st) M cs := by
  subst hp
  refine rs_any hi rfl ?_
  show ro_lQ (ro_ld lv n) (fun x => ro_w X d y post (pc + 2) lv (x :: st) M cs)
  rw [hl]
  exact h
theorem rs_istore_n {n : Fin 4} {x : Int32} (hi : ro_ix y pc = some (pc, .istore_n n, a, b)) (hp : pc + 1 = q) (hm : (ro_m y).2.2.1 = nL) (hn : (n : Nat) < nL) (hl : ro_s1 lv n (.int x) = lv2) (h : ro_w X d y post q lv2 (st) M cs) : ro_w X d y post pc lv (.int x :: st) M cs := by
  subst hp
  subst hl hm
  exact rs_any hi rfl ⟨hn, h⟩
theorem rs_istore {n : Nat} {x : Int32} (hi : ro_ix y pc = some (pc, .istore n, a, b)) (hp : pc + 2 = q) (hm : (ro_m y).2.2.1 = nL) (hn : n < nL) (hl : ro_s1 lv n (.int x) = lv2) (h : ro_w X d y post q lv2 (st) M cs) : ro_w X d y post pc lv (.int x :: st) M cs := by
  subst hp
  subst hl hm
  exact rs_any hi rfl ⟨hn, h⟩
theorem rs_lstore_n {n : Fin 4} {x : Int64} (hi : ro_ix y pc = some (pc, .lstore_n n, a, b)) (hp : pc + 1 = q) (hm : (ro_m y).2.2.1 = nL) (hn : (n : Nat) + 1 < nL) (hl : ro_s2 lv n (.long x) = lv2) (h : ro_w X d y post q lv2 (st) M cs) : ro_w X d y post pc lv (.long x :: st) M cs := by
  subst hp
  subst hl hm
  exact rs_any hi rfl ⟨hn, h⟩
theorem rs_lstore {n : Nat} {x : Int64} (hi : ro_ix y pc = some (pc, .lstore n, a, b)) (hp : pc + 2 = q) (hm : (ro_m y).2.2.1 = nL) (hn : n + 1 < nL) (hl : ro_s2 lv n (.long x) = lv2) (h : ro_w X d y post q lv2 (st) M cs) : ro_w X d y post pc lv (.long x :: st) M cs := by
  subst hp
  subst hl hm
  exact rs_any hi rfl ⟨hn, h⟩
theorem rs_astore_n {n : Fin 4} {c : Nat} (hi : ro_ix y pc = some (pc, .astore_n n, a, b)) (hp : pc + 1 = q) (hm : (ro_m y).2.2.1 = nL) (hn : (n : Nat) < nL) (hl : ro_s1 lv n (.ref c) = lv2) (h : ro_w X d y post q lv2 (st) M cs) : ro_w X d y post pc lv (.ref c :: st) M cs := by
  subst hp
  subst hl hm
  exact rs_any hi rfl (show ro_pQ (.ref c :: st) (fun x st => (n : Nat) < (ro_m y).2.2.1 ∧ ro_w X d y post (pc + 1) (ro_s1 lv n x) st M cs) from ⟨hn, h⟩)
theorem rs_astore {n : Nat} {c : Nat} (hi : ro_ix y pc = some (pc, .astore n, a, b)) (hp : pc + 2 = q) (hm : (ro_m y).2.2.1 = nL) (hn : n < nL) (hl : ro_s1 lv n (.ref c) = lv2) (h : ro_w X d y post q lv2 (st) M cs) : ro_w X d y post pc lv (.ref c :: st) M cs := by
  subst hp
  subst hl hm
  exact rs_any hi rfl (show ro_pQ (.ref c :: st) (fun x st => n < (ro_m y).2.2.1 ∧ ro_w X d y post (pc + 2) (ro_s1 lv n x) st M cs) from ⟨hn, h⟩)
theorem rs_astoreN_n {n : Fin 4} (hi : ro_ix y pc = some (pc, .astore_n n, a, b)) (hp : pc + 1 = q) (hm : (ro_m y).2.2.1 = nL) (hn : (n : Nat) < nL) (hl : ro_s1 lv n (.null) = lv2) (h : ro_w X d y post q lv2 (st) M cs) : ro_w X d y post pc lv (.null :: st) M cs := by
  subst hp
  subst hl hm
  exact rs_any hi rfl (show ro_pQ (.null :: st) (fun x st => (n : Nat) < (ro_m y).2.2.1 ∧ ro_w X d y post (pc + 1) (ro_s1 lv n x) st M cs) from ⟨hn, h⟩)
theorem rs_astoreN {n : Nat} (hi : ro_ix y pc = some (pc, .astore n, a, b)) (hp : pc + 2 = q) (hm : (ro_m y).2.2.1 = nL) (hn : n < nL) (hl : ro_s1 lv n (.null) = lv2) (h : ro_w X d y post q lv2 (st) M cs) : ro_w X d y post pc lv (.null :: st) M cs := by
  subst hp
  subst hl hm
  exact rs_any hi rfl (show ro_pQ (.null :: st) (fun x st => n < (ro_m y).2.2.1 ∧ ro_w X d y post (pc + 2) (ro_s1 lv n x) st M cs) from ⟨hn, h⟩)
theorem rs_iinc {n : Nat} {dl : Int} {x v : Int32} (hi : ro_ix y pc = some (pc, .iinc n dl, a, b)) (hp : pc + 3 = q) (hx : ro_ld lv n = some (.int x)) (hv : x + Int32.ofInt dl = v) (hm : (ro_m y).2.2.1 = nL) (hn : n < nL) (hl : ro_s1 lv n (.int v) = lv2) (h : ro_w X d y post q lv2 (st) M cs) : ro_w X d y post pc lv (st) M cs := by
  subst hp
  subst hl hm hv
  refine rs_any hi rfl ?_
  show ro_lI _ _
  rw [hx]
  exact ⟨hn, h⟩
theorem rs_iadd {u v : Int32} {r : Int32} (hi : ro_ix y pc = some (pc, .iadd, a, b)) (hp : pc + 1 = q) (hr : u + v = r) (h : ro_w X d y post q lv (.int r :: st) M cs) : ro_w X d y post pc lv (.int v :: .int u :: st) M cs := by
  subst hp
  subst hr
  exact rs_any hi rfl h
theorem rs_isub {u v : Int32} {r : Int32} (hi : ro_ix y pc = some (pc, .isub, a, b)) (hp : pc + 1 = q) (hr : u - v = r) (h : ro_w X d y post q lv (.int r :: st) M cs) : ro_w X d y post pc lv (.int v :: .int u :: st) M cs := by
  subst hp
  subst hr
  exact rs_any hi rfl h
theorem rs_imul {u v : Int32} {r : Int32} (hi : ro_ix y pc = some (pc, .imul, a, b)) (hp : pc + 1 = q) (hr : u * v = r) (h : ro_w X d y post q lv (.int r :: st) M cs) : ro_w X d y post pc lv (.int v :: .int u :: st) M cs := by
  subst hp
  subst hr
  exact rs_any hi rfl h
theorem rs_iand {u v : Int32} {r : Int32} (hi : ro_ix y pc = some (pc, .iand, a, b)) (hp : pc + 1 = q) (hr : u &&& v = r) (h : ro_w X d y post q lv (.int r :: st) M cs) : ro_w X d y post pc lv (.int v :: .int u :: st) M cs := by
  subst hp
  subst hr
  exact rs_any hi rfl h
theorem rs_ior {u v : Int32} {r : Int32} (hi : ro_ix y pc = some (pc, .ior, a, b)) (hp : pc + 1 = q) (hr : u ||| v = r) (h : ro_w X d y post q lv (.int r :: st) M cs) : ro_w X d y post pc lv (.int v :: .int u :: st) M cs := by
  subst hp
  subst hr
  exact rs_any hi rfl h
theorem rs_ixor {u v : Int32} {r : Int32} (hi : ro_ix y pc = some (pc, .ixor, a, b)) (hp : pc + 1 = q) (hr : u ^^^ v = r) (h : ro_w X d y post q lv (.int r :: st) M cs) : ro_w X d y post pc lv (.int v :: .int u :: st) M cs := by
  subst hp
  subst hr
  exact rs_any hi rfl h
theorem rs_ishl {u v : Int32} {r : Int32} (hi : ro_ix y pc = some (pc, .ishl, a, b)) (hp : pc + 1 = q) (hr : u <<< (v &&& 31) = r) (h : ro_w X d y post q lv (.int r :: st) M cs) : ro_w X d y post pc lv (.int v :: .int u :: st) M cs := by
  subst hp
  subst hr
  exact rs_any hi rfl h
theorem rs_ishr {u v : Int32} {r : Int32} (hi : ro_ix y pc = some (pc, .ishr, a, b)) (hp : pc + 1 = q) (hr : u >>> (v &&& 31) = r) (h : ro_w X d y post q lv (.int r :: st) M cs) : ro_w X d y post pc lv (.int v :: .int u :: st) M cs := by
  subst hp
  subst hr
  exact rs_any hi rfl h
theorem rs_iushr {u v : Int32} {r : Int32} (hi : ro_ix y pc = some (pc, .iushr, a, b)) (hp : pc + 1 = q) (hr : (u.toUInt32 >>> (v.toUInt32 &&& Int32.toUInt32 31)).toInt32 = r) (h : ro_w X d y post q lv (.int r :: st) M cs) : ro_w X d y post pc lv (.int v :: .int u :: st) M cs := by
  subst hp
  subst hr
  exact rs_any hi rfl h
theorem rs_idiv {u v : Int32} {r : Int32} (hi : ro_ix y pc = some (pc, .idiv, a, b)) (hp : pc + 1 = q) (h0 : ¬ v = 0) (hr : u / v = r) (h : ro_w X d y post q lv (.int r :: st) M cs) : ro_w X d y post pc lv (.int v :: .int u :: st) M cs := by
  subst hp
  subst hr
  exact rs_any hi rfl ⟨h0, h⟩
theorem rs_irem {u v : Int32} {r : Int32} (hi : ro_ix y pc = some (pc, .irem, a, b)) (hp : pc + 1 = q) (h0 : ¬ v = 0) (hr : u - u / v * v = r) (h : ro_w X d y post q lv (.int r :: st) M cs) : ro_w X d y post pc lv (.int v :: .int u :: st) M cs := by
  subst hp
  subst hr
  exact rs_any hi rfl ⟨h0, h⟩
theorem rs_ladd {u v : Int64} {r : Int64} (hi : ro_ix y pc = some (pc, .ladd, a, b)) (hp : pc + 1 = q) (hr : u + v = r) (h : ro_w X d y post q lv (.long r :: st) M cs) : ro_w X d y post pc lv (.long v :: .long u :: st) M cs := by
  subst hp
  subst hr
  exact rs_any hi rfl h
theorem rs_lmul {u v : Int64} {r : Int64} (hi : ro_ix y pc = some (pc, .lmul, a, b)) (hp : pc + 1 = q) (hr : u * v = r) (h : ro_w X d y post q lv (.long r :: st) M cs) : ro_w X d y post pc lv (.long v :: .long u :: st) M cs := by
  subst hp
  subst hr
  exact rs_any hi rfl h
theorem rs_land {u v : Int64} {r : Int64} (hi : ro_ix y pc = some (pc, .land, a, b)) (hp : pc + 1 = q) (hr : u &&& v = r) (h : ro_w X d y post q lv (.long r :: st) M cs) : ro_w X d y post pc lv (.long v :: .long u :: st) M cs := by
  subst hp
  subst hr
  exact rs_any hi rfl h
theorem rs_lor {u v : Int64} {r : Int64} (hi : ro_ix y pc = some (pc, .lor, a, b)) (hp : pc + 1 = q) (hr : u ||| v = r) (h : ro_w X d y post q lv (.long r :: st) M cs) : ro_w X d y post pc lv (.long v :: .long u :: st) M cs := by
  subst hp
  subst hr
  exact rs_any hi rfl h
theorem rs_lxor {u v : Int64} {r : Int64} (hi : ro_ix y pc = some (pc, .lxor, a, b)) (hp : pc + 1 = q) (hr : u ^^^ v = r) (h : ro_w X d y post q lv (.long r :: st) M cs) : ro_w X d y post pc lv (.long v :: .long u :: st) M cs := by
  subst hp
  subst hr
  exact rs_any hi rfl h
theorem rs_ldiv {u v : Int64} {r : Int64} (hi : ro_ix y pc = some (pc, .ldiv, a, b)) (hp : pc + 1 = q) (h0 : ¬ v = 0) (hr : u / v = r) (h : ro_w X d y post q lv (.long r :: st) M cs) : ro_w X d y post pc lv (.long v :: .long u :: st) M cs := by
  subst hp
  subst hr
  exact rs_any hi rfl ⟨h0, h⟩
theorem rs_lrem {u v : Int64} {r : Int64} (hi : ro_ix y pc = some (pc, .lrem, a, b)) (hp : pc + 1 = q) (h0 : ¬ v = 0) (hr : u - u / v * v = r) (h : ro_w X d y post q lv (.long r :: st) M cs) : ro_w X d y post pc lv (.long v :: .long u :: st) M cs := by
  subst hp
  subst hr
  exact rs_any hi rfl ⟨h0, h⟩
theorem rs_lshl {u : Int64} {v : Int32} {r : Int64} (hi : ro_ix y pc = some (pc, .lshl, a, b)) (hp : pc + 1 = q) (hr : u <<< (v.toInt64 &&& 63) = r) (h : ro_w X d y post q lv (.long r :: st) M cs) : ro_w X d y post pc lv (.int v :: .long u :: st) M cs := by
  subst hp
  subst hr
  exact rs_any hi rfl h
theorem rs_lshr {u : Int64} {v : Int32} {r : Int64} (hi : ro_ix y pc = some (pc, .lshr, a, b)) (hp : pc + 1 = q) (hr : u >>> (v.toInt64 &&& 63) = r) (h : ro_w X d y post q lv (.long r :: st) M cs) : ro_w X d y post pc lv (.int v :: .long u :: st) M cs := by
  subst hp
  subst hr
  exact rs_any hi rfl h
theorem rs_lushr {u : Int64} {v : Int32} {r : Int64} (hi : ro_ix y pc = some (pc, .lushr, a, b)) (hp : pc + 1 = q) (hr : (u.toUInt64 >>> (v.toInt64.toUInt64 &&& Int64.toUInt64 63)).toInt64 = r) (h : ro_w X d y post q lv (.long r :: st) M cs) : ro_w X d y post pc lv (.int v :: .long u :: st) M cs := by
  subst hp
  subst hr
  exact rs_any hi rfl h
theorem rs_lcmp {u v : Int64} {r : Int32} (hi : ro_ix y pc = some (pc, .lcmp, a, b)) (hp : pc + 1 = q) (hr : lg_cmp u v = r) (h : ro_w X d y post q lv (.int r :: st) M cs) : ro_w X d y post pc lv (.long v :: .long u :: st) M cs := by
  subst hp
  subst hr
  exact rs_any hi rfl h
theorem rs_ineg {u : Int32} {r : Int32} (hi : ro_ix y pc = some (pc, .ineg, a, b)) (hp : pc + 1 = q) (hr : -u = r) (h : ro_w X d y post q lv (.int r :: st) M cs) : ro_w X d y post pc lv (.int u :: st) M cs := by
  subst hp
  subst hr
  exact rs_any hi rfl h
theorem rs_i2l {u : Int32} {r : Int64} (hi : ro_ix y pc = some (pc, .i2l, a, b)) (hp : pc + 1 = q) (hr : u.toInt64 = r) (h : ro_w X d y post q lv (.long r :: st) M cs) : ro_w X d y post pc lv (.int u :: st) M cs := by
  subst hp
  subst hr
  exact rs_any hi rfl h
theorem rs_l2i {u : Int64} {r : Int32} (hi : ro_ix y pc = some (pc, .l2i, a, b)) (hp : pc + 1 = q) (hr : u.toInt32 = r) (h : ro_w X d y post q lv (.int r :: st) M cs) : ro_w X d y post pc lv (.long u :: st) M cs := by
  subst hp
  subst hr
  exact rs_any hi rfl h
theorem rs_i2b {u : Int32} {r : Int32} (hi : ro_ix y pc = some (pc, .i2b, a, b)) (hp : pc + 1 = q) (hr : u.toInt8.toInt32 = r) (h : ro_w X d y post q lv (.int r :: st) M cs) : ro_w X d y post pc lv (.int u :: st) M cs := by
  subst hp
  subst hr
  exact rs_any hi rfl h
theorem rs_i2s {u : Int32} {r : Int32} (hi : ro_ix y pc = some (pc, .i2s, a, b)) (hp : pc + 1 = q) (hr : u.toInt16.toInt32 = r) (h : ro_w X d y post q lv (.int r :: st) M cs) : ro_w X d y post pc lv (.int u :: st) M cs := by
  subst hp
  subst hr
  exact rs_any hi rfl h
theorem rs_dup {x : Value} (hi : ro_ix y pc = some (pc, .dup, a, b)) (hp : pc + 1 = q) (hc : x.category = 1) (h : ro_w X d y post q lv (x :: x :: st) M cs) : ro_w X d y post pc lv (x :: st) M cs := by
  subst hp
  exact rs_any hi rfl ⟨hc, h⟩
theorem rs_dup2 {x z : Value} (hi : ro_ix y pc = some (pc, .dup2, a, b)) (hp : pc + 1 = q) (hc : x.category = 1) (hc2 : z.category = 1) (h : ro_w X d y post q lv (x :: z :: x :: z :: st) M cs) : ro_w X d y post pc lv (x :: z :: st) M cs := by
  subst hp
  exact rs_any hi rfl ⟨hc, hc2, h⟩
theorem rs_pop {x : Value} (hi : ro_ix y pc = some (pc, .pop, a, b)) (hp : pc + 1 = q) (hc : x.category = 1) (h : ro_w X d y post q lv (st) M cs) : ro_w X d y post pc lv (x :: st) M cs := by
  subst hp
  exact rs_any hi rfl ⟨hc, h⟩
theorem rs_tgt {off : Int} {t : Nat} {f : Nat → Prop} (ht : (pc : Int) + off = (t : Int)) (h : f t) : ro_go pc off f := by
  refine ⟨by rw [ht]; exact Int.natCast_nonneg t, ?_⟩
  rw [ht]
  exact h
theorem rs_goto {off : Int} {t : Nat} (hi : ro_ix y pc = some (pc, .goto off, a, b)) (ht : (pc : Int) + off = (t : Int)) (h : ro_w X d y post t lv st M cs) : ro_w X d y post pc lv st M cs :=
  rs_any hi rfl (show ro_go pc off (fun t => ro_w X d y post t lv st M cs) from rs_tgt ht h)
theorem rs_icmp_eq {off : Int} {t : Nat} {u v : Int32} (hi : ro_ix y pc = some (pc, .if_icmp .eq off, a, b)) (hp : pc + 3 = q) (ht : (pc : Int) + off = (t : Int)) (kt : u = v → ro_w X d y post t lv st M cs) (kf : ¬ u = v → ro_w X d y post q lv st M cs) : ro_w X d y post pc lv (.int v :: .int u :: st) M cs := by
  subst hp
  exact rs_any hi rfl (rs_tgt (f := fun t => ro_if .eq u v (ro_w X d y post t lv st M cs) (ro_w X d y post (pc + 3) lv st M cs)) ht ⟨kt, kf⟩)
theorem rs_if_eq {off : Int} {t : Nat} {u : Int32} (hi : ro_ix y pc = some (pc, .ifCond .eq off, a, b)) (hp : pc + 3 = q) (ht : (pc : Int) + off = (t : Int)) (kt : u = 0 → ro_w X d y post t lv st M cs) (kf : ¬ u = 0 → ro_w X d y post q lv st M cs) : ro_w X d y post pc lv (.int u :: st) M cs := by
  subst hp
  exact rs_any hi rfl (rs_tgt (f := fun t => ro_if .eq u 0 (ro_w X d y post t lv st M cs) (ro_w X d y post (pc + 3) lv st M cs)) ht ⟨kt, kf⟩)
theorem rs_icmp_ne {off : Int} {t : Nat} {u v : Int32} (hi : ro_ix y pc = some (pc, .if_icmp .ne off, a, b)) (hp : pc + 3 = q) (ht : (pc : Int) + off = (t : Int)) (kt : ¬ u = v → ro_w X d y post t lv st M cs) (kf : u = v → ro_w X d y post q lv st M cs) : ro_w X d y post pc lv (.int v :: .int u :: st) M cs := by
  subst hp
  exact rs_any hi rfl (rs_tgt (f := fun t => ro_if .ne u v (ro_w X d y post t lv st M cs) (ro_w X d y post (pc + 3) lv st M cs)) ht ⟨kt, kf⟩)
theorem rs_if_ne {off : Int} {t : Nat} {u : Int32} (hi : ro_ix y pc = some (pc, .ifCond .ne off, a, b)) (hp : pc + 3 = q) (ht : (pc : Int) + off = (t : Int)) (kt : ¬ u = 0 → ro_w X d y post t lv st M cs) (kf : u = 0 → ro_w X d y post q lv st M cs) : ro_w X d y post pc lv (.int u :: st) M cs := by
  subst hp
  exact rs_any hi rfl (rs_tgt (f := fun t => ro_if .ne u 0 (ro_w X d y post t lv st M cs) (ro_w X d y post (pc + 3) lv st M cs)) ht ⟨kt, kf⟩)
theorem rs_icmp_lt {off : Int} {t : Nat} {u v : Int32} (hi : ro_ix y pc = some (pc, .if_icmp .lt off, a, b)) (hp : pc + 3 = q) (ht : (pc : Int) + off = (t : Int)) (kt : u < v → ro_w X d y post t lv st M cs) (kf : ¬ u < v → ro_w X d y post q lv st M cs) : ro_w X d y post pc lv (.int v :: .int u :: st) M cs := by
  subst hp
  exact rs_any hi rfl (rs_tgt (f := fun t => ro_if .lt u v (ro_w X d y post t lv st M cs) (ro_w X d y post (pc + 3) lv st M cs)) ht ⟨kt, kf⟩)
theorem rs_if_lt {off : Int} {t : Nat} {u : Int32} (hi : ro_ix y pc = some (pc, .ifCond .lt off, a, b)) (hp : pc + 3 = q) (ht : (pc : Int) + off = (t : Int)) (kt : u < 0 → ro_w X d y post t lv st M cs) (kf : ¬ u < 0 → ro_w X d y post q lv st M cs) : ro_w X d y post pc lv (.int u :: st) M cs := by
  subst hp
  exact rs_any hi rfl (rs_tgt (f := fun t => ro_if .lt u 0 (ro_w X d y post t lv st M cs) (ro_w X d y post (pc + 3) lv st M cs)) ht ⟨kt, kf⟩)
theorem rs_icmp_ge {off : Int} {t : Nat} {u v : Int32} (hi : ro_ix y pc = some (pc, .if_icmp .ge off, a, b)) (hp : pc + 3 = q) (ht : (pc : Int) + off = (t : Int)) (kt : v ≤ u → ro_w X d y post t lv st M cs) (kf : ¬ v ≤ u → ro_w X d y post q lv st M cs) : ro_w X d y post pc lv (.int v :: .int u :: st) M cs := by
  subst hp
  exact rs_any hi rfl (rs_tgt (f := fun t => ro_if .ge u v (ro_w X d y post t lv st M cs) (ro_w X d y post (pc + 3) lv st M cs)) ht ⟨kt, kf⟩)
theorem rs_if_ge {off : Int} {t : Nat} {u : Int32} (hi : ro_ix y pc = some (pc, .ifCond .ge off, a, b)) (hp : pc + 3 = q) (ht : (pc : Int) + off = (t : Int)) (kt : 0 ≤ u → ro_w X d y post t lv st M cs) (kf : ¬ 0 ≤ u → ro_w X d y post q lv st M cs) : ro_w X d y post pc lv (.int u :: st) M cs := by
  subst hp
  exact rs_any hi rfl (rs_tgt (f := fun t => ro_if .ge u 0 (ro_w X d y post t lv st M cs) (ro_w X d y post (pc + 3) lv st M cs)) ht ⟨kt, kf⟩)
theorem rs_icmp_gt {off : Int} {t : Nat} {u v : Int32} (hi : ro_ix y pc = some (pc, .if_icmp .gt off, a, b)) (hp : pc + 3 = q) (ht : (pc : Int) + off = (t : Int)) (kt : v < u → ro_w X d y post t lv st M cs) (kf : ¬ v < u → ro_w X d y post q lv st M cs) : ro_w X d y post pc lv (.int v :: .int u :: st) M cs := by
  subst hp
  exact rs_any hi rfl (rs_tgt (f := fun t => ro_if .gt u v (ro_w X d y post t lv st M cs) (ro_w X d y post (pc + 3) lv st M cs)) ht ⟨kt, kf⟩)
theorem rs_if_gt {off : Int} {t : Nat} {u : Int32} (hi : ro_ix y pc = some (pc, .ifCond .gt off, a, b)) (hp : pc + 3 = q) (ht : (pc : Int) + off = (t : Int)) (kt : 0 < u → ro_w X d y post t lv st M cs) (kf : ¬ 0 < u → ro_w X d y post q lv st M cs) : ro_w X d y post pc lv (.int u :: st) M cs := by
  subst hp
  exact rs_any hi rfl (rs_tgt (f := fun t => ro_if .gt u 0 (ro_w X d y post t lv st M cs) (ro_w X d y post (pc + 3) lv st M cs)) ht ⟨kt, kf⟩)
theorem rs_icmp_le {off : Int} {t : Nat} {u v : Int32} (hi : ro_ix y pc = some (pc, .if_icmp .le off, a, b)) (hp : pc + 3 = q) (ht : (pc : Int) + off = (t : Int)) (kt : u ≤ v → ro_w X d y post t lv st M cs) (kf : ¬ u ≤ v → ro_w X d y post q lv st M cs) : ro_w X d y post pc lv (.int v :: .int u :: st) M cs := by
  subst hp
  exact rs_any hi rfl (rs_tgt (f := fun t => ro_if .le u v (ro_w X d y post t lv st M cs) (ro_w X d y post (pc + 3) lv st M cs)) ht ⟨kt, kf⟩)
theorem rs_if_le {off : Int} {t : Nat} {u : Int32} (hi : ro_ix y pc = some (pc, .ifCond .le off, a, b)) (hp : pc + 3 = q) (ht : (pc : Int) + off = (t : Int)) (kt : u ≤ 0 → ro_w X d y post t lv st M cs) (kf : ¬ u ≤ 0 → ro_w X d y post q lv st M cs) : ro_w X d y post pc lv (.int u :: st) M cs := by
  subst hp
  exact rs_any hi rfl (rs_tgt (f := fun t => ro_if .le u 0 (ro_w X d y post t lv st M cs) (ro_w X d y post (pc + 3) lv st M cs)) ht ⟨kt, kf⟩)
theorem ro_b_0 {p : Bool} : ro_b p = 0 ↔ p = false := by cases p <;> decide
theorem rs_ifeq_b {off : Int} {t : Nat} {p : Bool} (hi : ro_ix y pc = some (pc, .ifCond .eq off, a, b)) (hp : pc + 3 = q) (ht : (pc : Int) + off = (t : Int)) (kt : p = false → ro_w X d y post t lv st M cs) (kf : p = true → ro_w X d y post q lv st M cs) : ro_w X d y post pc lv (.int (ro_b p) :: st) M cs :=
  rs_if_eq hi hp ht (fun z => kt (ro_b_0.mp z)) (fun z => kf (by cases p; exact absurd rfl z; rfl))
theorem rs_ifne_b {off : Int} {t : Nat} {p : Bool} (hi : ro_ix y pc = some (pc, .ifCond .ne off, a, b)) (hp : pc + 3 = q) (ht : (pc : Int) + off = (t : Int)) (kt : p = true → ro_w X d y post t lv st M cs) (kf : p = false → ro_w X d y post q lv st M cs) : ro_w X d y post pc lv (.int (ro_b p) :: st) M cs :=
  rs_if_ne hi hp ht (fun z => kt (by cases p; exact absurd rfl z; rfl)) (fun z => kf (ro_b_0.mp z))
theorem rs_ifnull {off : Int} {c : Nat} (hi : ro_ix y pc = some (pc, .ifnull off, a, b)) (hp : pc + 3 = q) {t : Nat} (ht : (pc : Int) + off = (t : Int)) (h : ro_w X d y post q lv st M cs) : ro_w X d y post pc lv (.ref c :: st) M cs := by
  subst hp
  exact rs_any hi rfl (show ro_pQ (.ref c :: st) (fun x st => ro_go pc off fun t => (x = .null → ro_w X d y post t lv st M cs) ∧ (¬ x = .null → ro_w X d y post (pc + 3) lv st M cs)) from show ro_go pc off (fun t => ((.ref c : Value) = .null → ro_w X d y post t lv st M cs) ∧ (¬ (.ref c : Value) = .null → ro_w X d y post (pc + 3) lv st M cs)) from rs_tgt (f := fun t => ((.ref c : Value) = .null → ro_w X d y post t lv st M cs) ∧ (¬ (.ref c : Value) = .null → ro_w X d y post (pc + 3) lv st M cs)) ht ⟨(fun z => by cases z), fun _ => h⟩)
theorem rs_ifnullN {off : Int} (hi : ro_ix y pc = some (pc, .ifnull off, a, b)) {t : Nat} (ht : (pc : Int) + off = (t : Int)) (h : ro_w X d y post t lv st M cs) : ro_w X d y post pc lv (.null :: st) M cs :=
  rs_any hi rfl (show ro_pQ (.null :: st) (fun x st => ro_go pc off fun t => (x = .null → ro_w X d y post t lv st M cs) ∧ (¬ x = .null → ro_w X d y post (pc + 3) lv st M cs)) from show ro_go pc off (fun t => ((.null : Value) = .null → ro_w X d y post t lv st M cs) ∧ (¬ (.null : Value) = .null → ro_w X d y post (pc + 3) lv st M cs)) from rs_tgt (f := fun t => ((.null : Value) = .null → ro_w X d y post t lv st M cs) ∧ (¬ (.null : Value) = .null → ro_w X d y post (pc + 3) lv st M cs)) ht ⟨fun _ => h, fun z => absurd rfl z⟩)
theorem rs_ifnonnull {off : Int} {c : Nat} (hi : ro_ix y pc = some (pc, .ifnonnull off, a, b)) {t : Nat} (ht : (pc : Int) + off = (t : Int)) (h : ro_w X d y post t lv st M cs) : ro_w X d y post pc lv (.ref c :: st) M cs :=
  rs_any hi rfl (show ro_pQ (.ref c :: st) (fun x st => ro_go pc off fun t => (x = .null → ro_w X d y post (pc + 3) lv st M cs) ∧ (¬ x = .null → ro_w X d y post t lv st M cs)) from show ro_go pc off (fun t => ((.ref c : Value) = .null → ro_w X d y post (pc + 3) lv st M cs) ∧ (¬ (.ref c : Value) = .null → ro_w X d y post t lv st M cs)) from rs_tgt (f := fun t => ((.ref c : Value) = .null → ro_w X d y post (pc + 3) lv st M cs) ∧ (¬ (.ref c : Value) = .null → ro_w X d y post t lv st M cs)) ht ⟨(fun z => by cases z), fun _ => h⟩)
theorem rs_ifnonnullN {off : Int} (hi : ro_ix y pc = some (pc, .ifnonnull off, a, b)) (hp : pc + 3 = q) {t : Nat} (ht : (pc : Int) + off = (t : Int)) (h : ro_w X d y post q lv st M cs) : ro_w X d y post pc lv (.null :: st) M cs := by
  subst hp
  exact rs_any hi rfl (show ro_pQ (.null :: st) (fun x st => ro_go pc off fun t => (x = .null → ro_w X d y post (pc + 3) lv st M cs) ∧ (¬ x = .null → ro_w X d y post t lv st M cs)) from show ro_go pc off (fun t => ((.null : Value) = .null → ro_w X d y post (pc + 3) lv st M cs) ∧ (¬ (.null : Value) = .null → ro_w X d y post t lv st M cs)) from rs_tgt (f := fun t => ((.null : Value) = .null → ro_w X d y post (pc + 3) lv st M cs) ∧ (¬ (.null : Value) = .null → ro_w X d y post t lv st M cs)) ht ⟨fun _ => h, fun z => absurd rfl z⟩)
theorem rs_swOut {df lo hi0 : Int} {offs : Array Int} {u : Int32} {t : Nat} (hi : ro_ix y pc = some (pc, .tableswitch df lo hi0 offs, a, b)) (ho : u.toInt < lo ∨ hi0 < u.toInt) (ht : (pc : Int) + df = (t : Int)) (h : ro_w X d y post t lv st M cs) : ro_w X d y post pc lv (.int u :: st) M cs :=
  rs_any hi rfl ⟨fun _ => rs_tgt ht h, fun z => absurd ho z⟩
theorem rs_swIn {df lo hi0 : Int} {offs : Array Int} {u : Int32} {o : Int} {t : Nat} (hi : ro_ix y pc = some (pc, .tableswitch df lo hi0 offs, a, b)) (h1 : lo ≤ u.toInt) (h2 : u.toInt ≤ hi0) (ho : offs[(u.toInt - lo).toNat]? = some o) (ht : (pc : Int) + o = (t : Int)) (h : ro_w X d y post t lv st M cs) : ro_w X d y post pc lv (.int u :: st) M cs := by
  refine rs_any hi rfl ⟨fun z => by omega, fun _ => ?_⟩
  simp only [ho]
  exact rs_tgt ht h
theorem rs_look {df : Int} {ps : Array (Int × Int)} {u : Int32} {o : Int} {t : Nat} (hi : ro_ix y pc = some (pc, .lookupswitch df ps, a, b)) (hs : (ps.toList.zip (ps.toList.drop 1)).all (fun (a, next) => a.1 < next.1) = true) (ho : Op.lookupswitch.offset ps.toList df u.toInt = o) (ht : (pc : Int) + o = (t : Int)) (h : ro_w X d y post t lv st M cs) : ro_w X d y post pc lv (.int u :: st) M cs := by
  subst ho
  exact rs_any hi rfl ⟨hs, rs_tgt ht h⟩
/-- a field read: its type, what it holds -/
theorem rs_gf {x c : Nat} {t : FieldType} {v : Value} (hi : ro_ix y pc = some (pc, .getfield x, a, b)) (hp : pc + 3 = q) (h4 : 4 ≤ c) (hk : (ro_kd M c).1 = a) (ht : ro_ty a b = t) (hv : ro_gf M t c b = v) (h : ro_w X d y post q lv (v :: st) M cs) : ro_w X d y post pc lv (.ref c :: st) M cs := by
  subst hp ht hv
  exact rs_any hi rfl ⟨h4, hk, h⟩
theorem rs_pf {x c : Nat} {v : Value} {M2 : ro_Mm} (hi : ro_ix y pc = some (pc, .putfield x, a, b)) (hp : pc + 3 = q) (h4 : 4 ≤ c) (hk : (ro_kd M c).1 = a) (hf : ro_fin a b = true → ((ro_m y).1.name == "<init>") = true ∧ (ro_m y).2.2.2.2.1 = a) (hv : ∀ f : ro_Mm → Prop, f M2 → ro_pf M (ro_ty a b) c b v f) (h : ro_w X d y post q lv st M2 cs) : ro_w X d y post pc lv (v :: .ref c :: st) M cs := by
  subst hp
  exact rs_any hi rfl ⟨h4, hk, hf, hv _ h⟩
theorem rs_gs {x : Nat} (hi : ro_ix y pc = some (pc, .getstatic x, a, b)) (hp : pc + 3 = q) (h : ro_w X d y post q lv (.ref a :: st) M cs) : ro_w X d y post pc lv st M cs := by
  subst hp
  exact rs_any hi rfl h
theorem rs_iald {c : Nat} {i v : Int32} (hi : ro_ix y pc = some (pc, .iaload, a, b)) (hp : pc + 1 = q) (h4 : 4 ≤ c) {n : Nat} (hk : ro_kd M c = (16, n)) (hin : vp_in i n) (hv : M.2.1 c i.toNatClampNeg = v) (h : ro_w X d y post q lv (.int v :: st) M cs) : ro_w X d y post pc lv (.int i :: .ref c :: st) M cs := by
  subst hp hv
  exact rs_any hi rfl ⟨fun z => by omega, fun _ => ⟨by rw [hk], by rw [hk]; exact hin, h⟩⟩
/-- out of the script or a table -/
theorem rs_iald0 {c : Nat} {i v : Int32} (hi : ro_ix y pc = some (pc, .iaload, a, b)) (hp : pc + 1 = q) (h4 : c < 4) (hin : vp_in i (ro_xl X c)) (hv : ro_xv X c i.toNatClampNeg = v) (h : ro_w X d y post q lv (.int v :: st) M cs) : ro_w X d y post pc lv (.int i :: .ref c :: st) M cs := by
  subst hp hv
  exact rs_any hi rfl ⟨fun _ => ⟨rfl, hin, h⟩, fun z => by omega⟩
theorem rs_lald {c : Nat} {i : Int32} {v : Int64} (hi : ro_ix y pc = some (pc, .laload, a, b)) (hp : pc + 1 = q) (h4 : 4 ≤ c) {n : Nat} (hk : ro_kd M c = (17, n)) (hin : vp_in i n) (hv : M.2.2.1 c i.toNatClampNeg = v) (h : ro_w X d y post q lv (.long v :: st) M cs) : ro_w X d y post pc lv (.int i :: .ref c :: st) M cs := by
  subst hp hv
  exact rs_any hi rfl ⟨h4, by rw [hk], by rw [hk]; exact hin, h⟩
theorem rs_aald {c r : Nat} {i : Int32} {k n : Nat} (hi : ro_ix y pc = some (pc, .aaload, a, b)) (hp : pc + 1 = q) (h4 : 4 ≤ c) (hk : ro_kd M c = (k, n)) (hk2 : k = 20 ∨ k = 21) (hin : vp_in i n) (hv : M.2.2.2 c i.toNatClampNeg = .ref r) (h : ro_w X d y post q lv (.ref r :: st) M cs) : ro_w X d y post pc lv (.int i :: .ref c :: st) M cs := by
  subst hp
  refine rs_any hi rfl ⟨h4, by rw [hk]; exact hk2, by rw [hk]; exact hin, ?_⟩
  rw [hv]
  exact h
theorem rs_iast {c : Nat} {i x : Int32} (hi : ro_ix y pc = some (pc, .iastore, a, b)) (hp : pc + 1 = q) (h4 : 4 ≤ c) {n : Nat} (hk : ro_kd M c = (16, n)) (hin : vp_in i n) {j : Nat} (hj : i.toNatClampNeg = j) (h : ro_w X d y post q lv st (ro_sI M c j x) cs) : ro_w X d y post pc lv (.int x :: .int i :: .ref c :: st) M cs := by
  subst hp hj
  exact rs_any hi rfl ⟨h4, by rw [hk], by rw [hk]; exact hin, h⟩
theorem rs_last {c : Nat} {i : Int32} {x : Int64} (hi : ro_ix y pc = some (pc, .lastore, a, b)) (hp : pc + 1 = q) (h4 : 4 ≤ c) {n : Nat} (hk : ro_kd M c = (17, n)) (hin : vp_in i n) {j : Nat} (hj : i.toNatClampNeg = j) (h : ro_w X d y post q lv st (ro_sJ M c j x) cs) : ro_w X d y post pc lv (.long x :: .int i :: .ref c :: st) M cs := by
  subst hp hj
  exact rs_any hi rfl ⟨h4, by rw [hk], by rw [hk]; exact hin, h⟩
theorem rs_aast {c r : Nat} {i : Int32} (hi : ro_ix y pc = some (pc, .aastore, a, b)) (hp : pc + 1 = q) (hr : 4 ≤ r) (hrk : (ro_kd M r).1 = 9) (h4 : 4 ≤ c) {n : Nat} (hk : ro_kd M c = (21, n)) (hin : vp_in i n) {j : Nat} (hj : i.toNatClampNeg = j) (h : ro_w X d y post q lv st (ro_sR M c j (.ref r)) cs) : ro_w X d y post pc lv (.ref r :: .int i :: .ref c :: st) M cs := by
  subst hp hj
  exact rs_any hi rfl ⟨hr, hrk, h4, by rw [hk], by rw [hk]; exact hin, h⟩
theorem rs_len {c k n : Nat} {v : Int32} (hi : ro_ix y pc = some (pc, .arraylength, a, b)) (hp : pc + 1 = q) (h4 : 4 ≤ c) (hk : ro_kd M c = (k, n)) (hk2 : 16 ≤ k ∧ k ≤ 21 ∧ k ≠ 18 ∧ k ≠ 19) (hv : Int32.ofNat n = v) (h : ro_w X d y post q lv (.int v :: st) M cs) : ro_w X d y post pc lv (.ref c :: st) M cs := by
  subst hp hv
  exact rs_any hi rfl ⟨fun z => by omega, fun _ => ⟨by rw [hk]; exact hk2.1, by rw [hk]; exact hk2.2.1, by rw [hk]; exact hk2.2.2, by rw [hk]; exact h⟩⟩
theorem rs_len0 {c : Nat} {v : Int32} (hi : ro_ix y pc = some (pc, .arraylength, a, b)) (hp : pc + 1 = q) (h4 : c < 3) (hv : Int32.ofNat (ro_xl X c) = v) (h : ro_w X d y post q lv (.int v :: st) M cs) : ro_w X d y post pc lv (.ref c :: st) M cs := by
  subst hp hv
  exact rs_any hi rfl ⟨fun _ => ⟨h4, h⟩, fun z => by omega⟩
theorem rs_new {x c n : Nat} {c1 c2 : Nat} {mx : Nat × Nat} (hi : ro_ix y pc = some (pc, .new x, a, b)) (hp : pc + 3 = q) (hl : ro_lim y = mx) (hn : ro_nf a = n) (hc : M.1.length + 4 = c) (h1 : cs.1 + 1 = c1) (h2 : cs.2 + n = c2) (m1 : c1 ≤ mx.1) (m2 : c2 ≤ mx.2) (h : ro_w X d y post q lv (.ref c :: st) (ro_new M (a, n)) (c1, c2)) : ro_w X d y post pc lv st M cs := by
  subst hp hl hn hc h1 h2
  exact rs_any hi rfl ⟨m1, m2, h⟩
theorem rs_newa {t : ArrayType} {c k n : Nat} {v : Int32} {c1 c2 : Nat} {mx : Nat × Nat} (hi : ro_ix y pc = some (pc, .newarray t, a, b)) (hp : pc + 2 = q) (hl : ro_lim y = mx) (h0 : ¬ v < 0) (hn : v.toNatClampNeg = n) (hn6 : n ≤ 60000) (hk : ro_ak t = k) (hk9 : k < 99) (hc : M.1.length + 4 = c) (h1 : cs.1 + 1 = c1) (h2 : cs.2 + n = c2) (m1 : c1 ≤ mx.1) (m2 : c2 ≤ mx.2) (h : ro_w X d y post q lv (.ref c :: st) (ro_new M (k, n)) (c1, c2)) : ro_w X d y post pc lv (.int v :: st) M cs := by
  subst hp hl hn hc h1 h2 hk
  exact rs_any hi rfl ⟨h0, hn6, hk9, m1, m2, h⟩
theorem rs_newq {x c n : Nat} {v : Int32} {c1 c2 : Nat} {mx : Nat × Nat} (hi : ro_ix y pc = some (pc, .anewarray x, a, b)) (hp : pc + 3 = q) (hl : ro_lim y = mx) (hlk : ro_CL.any (fun e => e.1 == (ro_m y).2.2.2.2.1 && e.2.1 == x && e.2.2.1 == 9) = true) (h0 : ¬ v < 0) (hn : v.toNatClampNeg = n) (hn6 : n ≤ 60000) (hc : M.1.length + 4 = c) (h1 : cs.1 + 1 = c1) (h2 : cs.2 + n = c2) (m1 : c1 ≤ mx.1) (m2 : c2 ≤ mx.2) (h : ro_w X d y post q lv (.ref c :: st) (ro_new M (21, n)) (c1, c2)) : ro_w X d y post pc lv (.int v :: st) M cs := by
  subst hp hl hn hc h1 h2
  exact rs_any hi rfl ⟨hlk, h0, hn6, m1, m2, h⟩
theorem rs_grid {x c n k : Nat} {u v : Int32} {c1 c2 : Nat} {mx : Nat × Nat} (hi : ro_ix y pc = some (pc, .multianewarray x 2, a, b)) (hp : pc + 4 = q) (hl : ro_lim y = mx) (hlk : ro_MM (ro_m y).2.2.2.2.1 x = true) (u0 : ¬ u < 0) (v0 : ¬ v < 0) (hu : u.toNatClampNeg = n) (hv : v.toNatClampNeg = k) (hn6 : n ≤ 60000) (hk6 : k ≤ 60000) (hc : M.1.length + 4 = c) (h1 : cs.1 + (1 + n) = c1) (h2 : cs.2 + (n + n * k) = c2) (m1 : c1 ≤ mx.1) (m2 : c2 ≤ mx.2) (h : ro_w X d y post q lv (.ref c :: st) (ro_grid M n k) (c1, c2)) : ro_w X d y post pc lv (.int v :: .int u :: st) M cs := by
  subst hp hl hu hv hc h1 h2
  exact rs_any hi rfl ⟨rfl, hlk, u0, v0, hn6, hk6, m1, m2, h⟩
/-- a call of an object's method: by what is known of it (P) -/
theorem rs_virt {x c n k K : Nat} {As r : List Value} {P : ro_Po} (hi : ro_ix y pc = some (pc, .invokevirtual x, a, 0)) (hp : pc + 3 = q) (hni : 12 ≤ a ∧ a ≠ 193) (hm : (ro_m a).2.2.2.2.2.1 = n) (ho : (ro_m a).2.2.2.2.1 = k) (hl : ro_lim a = (0, 0)) (hA : As.length = n) (hst : st = As.reverse ++ .ref c :: r) (h4 : 4 ≤ c) (hk : (ro_kd M c).1 = k) (hr : ro_cat r ≤ 8) (hcs : cs.1 ≤ (ro_lim y).1 ∧ cs.2 ≤ (ro_lim y).2) (hK : K ≤ d) (hs : ro_cwp X K a (.ref c :: As) M P)
    (h : ∀ v M2, P v M2 → ro_w X d y post q lv (v.toList ++ r) M2 cs) : ro_w X d y post pc lv st M cs := by
  subst hp hst hm ho
  have hlen : (As.reverse).length = (ro_m a).2.2.2.2.2.1 := by rw [List.length_reverse]; exact hA
  refine rs_any hi rfl ⟨hni, by rw [List.length_append, hlen]; exact Nat.le_add_right _ _, ?_⟩
  rw [← hlen, List.drop_left, List.take_left, List.reverse_reverse]
  refine ⟨fun z hz => by cases hz; exact ⟨h4, hk⟩, hr, by rw [hl]; exact hcs.1, by rw [hl]; exact hcs.2, ro_cwp_up hK (fun v M2 hv => ?_) hs⟩
  rw [hl]
  exact h v M2 hv
theorem rs_stat {x n K : Nat} {As r : List Value} {P : ro_Po} (hi : ro_ix y pc = some (pc, .invokestatic x, a, 0)) (hp : pc + 3 = q) (hm : (ro_m a).2.2.2.2.2.1 = n) (hl : ro_lim a = (0, 0)) (hA : As.length = n) (hst : st = As.reverse ++ r) (hr : ro_cat r ≤ 8) (hcs : cs.1 ≤ (ro_lim y).1 ∧ cs.2 ≤ (ro_lim y).2) (hK : K ≤ d) (hs : ro_cwp X K a As M P)
    (h : ∀ v M2, P v M2 → ro_w X d y post q lv (v.toList ++ r) M2 cs) : ro_w X d y post pc lv st M cs := by
  subst hp hst hm
  have hlen : (As.reverse).length = (ro_m a).2.2.2.2.2.1 := by rw [List.length_reverse]; exact hA
  refine rs_any hi rfl ⟨by rw [List.length_append, hlen]; exact Nat.le_add_right _ _, ?_⟩
  rw [← hlen, List.drop_left, List.take_left, List.reverse_reverse]
  refine ⟨hr, by rw [hl]; exact hcs.1, by rw [hl]; exact hcs.2, ro_cwp_up hK (fun v M2 hv => ?_) hs⟩
  rw [hl]
  exact h v M2 hv
theorem rs_obj {x c : Nat} {r : List Value} (hi : ro_ix y pc = some (pc, .invokespecial x, a, 2)) (hp : pc + 3 = q) (hr : ro_cat r ≤ 8) (h : ro_w X d y post q lv r M cs) : ro_w X d y post pc lv (.ref c :: r) M cs := by
  subst hp
  exact rs_any hi rfl ⟨hr, h⟩
theorem rs_spec {x c n K : Nat} {As r : List Value} {P : ro_Po} {c1 c2 : Nat} (hi : ro_ix y pc = some (pc, .invokespecial x, a, b)) (hb2 : ¬ b = 2) (hp : pc + 3 = q) (hm : (ro_m a).2.2.2.2.2.1 = n) (hA : As.length = n) (hst : st = As.reverse ++ .ref c :: r) (hr : ro_cat r ≤ 8) {lm mx : Nat × Nat} (hl : ro_lim a = lm) (hl2 : ro_lim y = mx) (h1 : cs.1 + lm.1 = c1) (h2 : cs.2 + lm.2 = c2) (m1 : c1 ≤ mx.1) (m2 : c2 ≤ mx.2) (hK : K ≤ d) (hs : ro_cwp X K a (.ref c :: As) M P)
    (h : ∀ v M2, P v M2 → ro_w X d y post q lv (v.toList ++ r) M2 (c1, c2)) : ro_w X d y post pc lv st M cs := by
  subst hp hst hm hl hl2 h1 h2
  have hlen : (As.reverse).length = (ro_m a).2.2.2.2.2.1 := by rw [List.length_reverse]; exact hA
  refine rs_any hi rfl ?_
  have go : ro_cv none (ro_cwp X d) (ro_lim y) a pc lv (As.reverse ++ .ref c :: r) M cs (ro_w X d y post) := by
    refine ⟨by rw [List.length_append, hlen]; exact Nat.le_add_right _ _, ?_⟩
    rw [← hlen, List.drop_left, List.take_left, List.reverse_reverse]
    exact ⟨(fun z hz => by cases hz), hr, m1, m2, ro_cwp_up hK (fun v M2 hv => h v M2 hv) hs⟩
  match b, hb2 with
  | 0, _ => exact go
  | 1, _ => exact go
  | 2, z => exact absurd rfl z
  | k + 3, _ => exact go
theorem rs_max {x : Nat} {u v r : Int32} (hi : ro_ix y pc = some (pc, .invokestatic x, 0, 3)) (hp : pc + 3 = q) (hc : ro_cat st ≤ 8) (hr : (if u < v then v else u) = r) (h : ro_w X d y post q lv (.int r :: st) M cs) : ro_w X d y post pc lv (.int v :: .int u :: st) M cs := by
  subst hp hr
  exact rs_any hi rfl ⟨hc, h⟩
theorem rs_min {x : Nat} {u v r : Int32} (hi : ro_ix y pc = some (pc, .invokestatic x, 1, 3)) (hp : pc + 3 = q) (hc : ro_cat st ≤ 8) (hr : (if v < u then v else u) = r) (h : ro_w X d y post q lv (.int r :: st) M cs) : ro_w X d y post pc lv (.int v :: .int u :: st) M cs := by
  subst hp hr
  exact rs_any hi rfl ⟨hc, h⟩
theorem rs_maxl {x : Nat} {u v r : Int64} (hi : ro_ix y pc = some (pc, .invokestatic x, 2, 3)) (hp : pc + 3 = q) (hc : ro_cat st ≤ 8) (hr : (if v < u then u else v) = r) (h : ro_w X d y post q lv (.long r :: st) M cs) : ro_w X d y post pc lv (.long v :: .long u :: st) M cs := by
  subst hp hr
  exact rs_any hi rfl ⟨hc, h⟩
theorem rs_copyi {x c0 c1 n0 n1 : Nat} {sp dp n : Int32} (hi : ro_ix y pc = some (pc, .invokestatic x, a, 4)) (hp : pc + 3 = q) (hc : ro_cat st ≤ 8) (h40 : 4 ≤ c0) (h41 : 4 ≤ c1) (k0 : ro_kd M c0 = (16, n0)) (k1 : ro_kd M c1 = (16, n1)) (s0 : ¬ sp < 0) (d0 : ¬ dp < 0) (n00 : ¬ n < 0) {i j k : Nat} (hi2 : sp.toNatClampNeg = i) (hj : dp.toNatClampNeg = j) (hk : n.toNatClampNeg = k) (l0 : i + k ≤ n0) (l1 : j + k ≤ n1)
    (h : ro_w X d y post q lv st (M.1, ro_row M.2.1 c1 (va_cpy (M.2.1 c0) (M.2.1 c1) i j k), M.2.2.1, M.2.2.2) cs) : ro_w X d y post pc lv (.int n :: .int dp :: .ref c1 :: .int sp :: .ref c0 :: st) M cs := by
  subst hp hi2 hj hk
  exact rs_any hi rfl ⟨hc, h40, h41, s0, d0, n00, by rw [k0]; exact l0, by rw [k1]; exact l1, Or.inl ⟨by rw [k0], by rw [k1], h⟩⟩
theorem rs_copyl {x c0 c1 n0 n1 : Nat} {sp dp n : Int32} (hi : ro_ix y pc = some (pc, .invokestatic x, a, 4)) (hp : pc + 3 = q) (hc : ro_cat st ≤ 8) (h40 : 4 ≤ c0) (h41 : 4 ≤ c1) (k0 : ro_kd M c0 = (17, n0)) (k1 : ro_kd M c1 = (17, n1)) (s0 : ¬ sp < 0) (d0 : ¬ dp < 0) (n00 : ¬ n < 0) {i j k : Nat} (hi2 : sp.toNatClampNeg = i) (hj : dp.toNatClampNeg = j) (hk : n.toNatClampNeg = k) (l0 : i + k ≤ n0) (l1 : j + k ≤ n1)
    (h : ro_w X d y post q lv st (M.1, M.2.1, ro_row M.2.2.1 c1 (va_cpy (M.2.2.1 c0) (M.2.2.1 c1) i j k), M.2.2.2) cs) : ro_w X d y post pc lv (.int n :: .int dp :: .ref c1 :: .int sp :: .ref c0 :: st) M cs := by
  subst hp hi2 hj hk
  exact rs_any hi rfl ⟨hc, h40, h41, s0, d0, n00, by rw [k0]; exact l0, by rw [k1]; exact l1, Or.inr ⟨by rw [k0], by rw [k1], h⟩⟩
theorem rs_iret {u : Int32} (hi : ro_ix y pc = some (pc, .ireturn, a, b)) (hr : (ro_m y).2.2.2.1 = some .int) (hcs : cs.1 ≤ (ro_lim y).1 ∧ cs.2 ≤ (ro_lim y).2) (h : post (some (.int u)) M) : ro_w X d y post pc lv [.int u] M cs :=
  rs_end hi rfl ⟨hcs.1, hcs.2, Or.inl hr, h⟩
theorem rs_zret {u : Int32} (hi : ro_ix y pc = some (pc, .ireturn, a, b)) (hr : (ro_m y).2.2.2.1 = some .boolean) (hcs : cs.1 ≤ (ro_lim y).1 ∧ cs.2 ≤ (ro_lim y).2) {p : Bool} (hu : u = ro_b p) (h : post (some (.int (ro_b p))) M) : ro_w X d y post pc lv [.int u] M cs := by
  subst hu
  exact rs_end hi rfl ⟨hcs.1, hcs.2, Or.inr ⟨hr, by cases p; exact Or.inl rfl; exact Or.inr rfl⟩, h⟩
theorem rs_lret {u : Int64} (hi : ro_ix y pc = some (pc, .lreturn, a, b)) (hr : (ro_m y).2.2.2.1 = some .long) (hcs : cs.1 ≤ (ro_lim y).1 ∧ cs.2 ≤ (ro_lim y).2) (h : post (some (.long u)) M) : ro_w X d y post pc lv [.long u] M cs :=
  rs_end hi rfl ⟨hcs.1, hcs.2, hr, h⟩
theorem rs_aret {c : Nat} (hi : ro_ix y pc = some (pc, .areturn, a, b)) (hr : (ro_m y).2.2.2.1 = some (.object "RefusedOnce$Shelf")) (hcs : cs.1 ≤ (ro_lim y).1 ∧ cs.2 ≤ (ro_lim y).2) (h : post (some (.ref c)) M) : ro_w X d y post pc lv [.ref c] M cs :=
  rs_end hi rfl ⟨hcs.1, hcs.2, Or.inl hr, h⟩
theorem rs_aretN (hi : ro_ix y pc = some (pc, .areturn, a, b)) (hr : (ro_m y).2.2.2.1 = some (.object "RefusedOnce$Shelf")) (hcs : cs.1 ≤ (ro_lim y).1 ∧ cs.2 ≤ (ro_lim y).2) (h : post (some .null) M) : ro_w X d y post pc lv [.null] M cs :=
  rs_end hi rfl ⟨hcs.1, hcs.2, hr, h⟩
theorem rs_ret (hi : ro_ix y pc = some (pc, .return_, a, b)) (hr : (ro_m y).2.2.2.1 = none) (hcs : cs.1 ≤ (ro_lim y).1 ∧ cs.2 ≤ (ro_lim y).2) (h : post none M) : ro_w X d y post pc lv [] M cs :=
  rs_end hi rfl ⟨hcs.1, hcs.2, hr, h⟩
/-- a method's beginning -/
theorem rs_begin {as : List Value} {lv0 : ro_Lv} {k : Nat} (hy : y < 206) (hl : (lg_sl as).length = k) (hm : k ≤ (ro_m y).2.2.1) (ha : lv_args 0 as = lv0) (h : ro_w X d y post 0 lv0 [] M (0, 0)) : ro_cwp X (d + 1) y as M post := by
  subst ha hl
  exact ⟨hm, hy, h⟩
end RS
