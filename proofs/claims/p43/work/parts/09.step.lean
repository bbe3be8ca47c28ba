/-! one step of the small machine, over the machine -/
section ROT
variable {p : Program} {l : Launch} {e : Env} {R : Room} {s : State} {m : MethodId} {args : Array Value} {below : List Frame} {meth : Method} {c : Code} {H : Heap} {locs : List Loc} {Q : State → Prop}
variable {cc : ByteArray} {pc : Nat} {ls : Array Slot} {g : ro_Gd} {M : ro_Mm} {Ts : List Cond} {own nL d : Nat} {mx cs : Nat × Nat} {cl : Nat → List Value → ro_Mm → ro_Po → Prop} {st : List Value} {lv : ro_Lv}
set_option maxHeartbeats 40000000 in
set_option maxRecDepth 20000 in
theorem ro_stepW (hx : p.tables.exec = Jvm.exec) (hb : c.code = cc) (hml : c.maxLocals = nL) (hown : s.vm.findClass (ro_Rn own) = some m.cls) (hts : ∀ w ∈ Ts, w.before args s = true) (hG : ∀ w ∈ ro_G, w ∈ Ts) (hK : va_K g.1 ro_cl (ro_tys g) s) (hT : ro_T g s s.heap) (hN : ro_N s) {ini : Bool} (hin : ini = true → meth.name = "<init>") (hbs : g.2.2.2.1 ≤ s.heap.size) (hf : d + 1 ≤ R.frames) (hlo : 39 * (d + 1) ≤ R.locals) (hmx : mx.1 = R.cells ∧ mx.2 = R.slots)
    (hM : ∀ y as M post, y < 206 → cl y as M post → Met l (ro_m y).1 (ro_cd y :: ro_G) (ro_rm d y) (ro_Pc g as M) (ro_Qc g post) (ro_lim y).1 (ro_lim y).2 (ro_A g)) (hcl : ∀ y as M post, cl y as M post → y < 206)
    {i : Instr} {n a b : Nat} (hd : decode cc pc = .ok (i, n)) (hln : ro_len i = 0 ∨ ro_len i = n) (hok : ro_okL own i a b = true) (h : ro_step cl g.2.2.2.2 mx own nL ini pc lv st M cs (ro_kW p l e R s m args below meth c nL mx g Q) i a b) (hcs : cs.1 ≤ mx.1 ∧ cs.2 ≤ mx.2)
    (hH : ro_H g M H) (hS : va_S (ro_A g) s.heap H locs) (hl : lv_has ls nL (ro_tl g lv)) : W p l e R s m args below meth c H locs cs.1 cs.2 Q (F0 m pc ls (st.map (ro_tv g))) := by
  have hdd : ∀ L, ro_len i = L → L ≠ 0 → decode cc pc = .ok (i, L) := by
    intro L h1 h2
    rcases hln with q | q
    · exact absurd (h1.symm.trans q) h2
    · rw [← h1, q]; exact hd
  cases i with
  | iconst n =>
    have hdg := hdd 1 rfl (by decide)
    refine lv_iconst hx hb hdg rfl ?_
    exact h H locs ls hH hS hl hcs
  | bipush n =>
    have hdg := hdd 2 rfl (by decide)
    refine lv_bipush hx hb hdg rfl ?_
    exact h H locs ls hH hS hl hcs
  | sipush n =>
    have hdg := hdd 3 rfl (by decide)
    refine lv_sipush hx hb hdg rfl ?_
    exact h H locs ls hH hS hl hcs
  | lconst n =>
    have hdg := hdd 1 rfl (by decide)
    refine lv_lconst hx hb hdg rfl ?_
    exact h H locs ls hH hS hl hcs
  | aconst_null =>
    have hdg := hdd 1 rfl (by decide)
    refine lv_null hx hb hdg ?_
    exact h H locs ls hH hS hl hcs
  | ldc x =>
    have hdg := hdd 2 rfl (by decide)
    change ro_ki own x (fun v => ro_kW p l e R s m args below meth c nL mx g Q (pc + 2) lv (.int v :: st) M cs) at h
    replace h := ro_ki_inv h
    obtain ⟨v, hv, h⟩ := h
    refine lv_ldc hx hb hown (hts _ (hG _ hv)) hdg ?_
    exact h H locs ls hH hS hl hcs
  | ldc_w x =>
    have hdg := hdd 3 rfl (by decide)
    change ro_ki own x (fun v => ro_kW p l e R s m args below meth c nL mx g Q (pc + 3) lv (.int v :: st) M cs) at h
    replace h := ro_ki_inv h
    obtain ⟨v, hv, h⟩ := h
    refine lv_ldcw hx hb hown (hts _ (hG _ hv)) hdg ?_
    exact h H locs ls hH hS hl hcs
  | ldc2_w x =>
    have hdg := hdd 3 rfl (by decide)
    match a, h with
    | 0, h =>
      change ro_kj own x (fun v => ro_kW p l e R s m args below meth c nL mx g Q (pc + 3) lv (.long v :: st) M cs) at h
      replace h := ro_kj_inv h
      obtain ⟨v, hv, h⟩ := h
      refine lv_ldc2 hx hb hown (hts _ (hG _ hv)) hdg ?_
      exact h H locs ls hH hS hl hcs
    | a + 1, h =>
      change ro_kx own x (fun v => ro_kW p l e R s m args below meth c nL mx g Q (pc + 3) lv (.double v :: st) M cs) at h
      replace h := ro_kx_inv h
      obtain ⟨v, hv, h⟩ := h
      refine lv_ldc2d hx hb hown (hts _ (hG _ hv)) hdg ?_
      exact h H locs ls hH hS hl hcs
  | dconst n =>
    have hdg := hdd 1 rfl (by decide)
    have h2 : ro_kW p l e R s m args below meth c nL mx g Q (pc + 1) lv (.double (if n = 0 then FP.dconst0 else FP.dconst1) :: st) M cs := h
    by_cases h0 : n = 0
    · subst h0
      exact lv_dconst0 hx hb hdg (h2 H locs ls hH hS hl hcs)
    · have h1 : n = 1 := by omega
      subst h1
      exact lv_dconst1 hx hb hdg (h2 H locs ls hH hS hl hcs)
  | dload_n n =>
    have hdg := hdd 1 rfl (by decide)
    replace h := ro_lD_inv h
    obtain ⟨x, hx0, h⟩ := h
    refine lv_dload_n hx hb hdg rfl (ro_ld_at hl hx0) ?_
    exact h H locs ls hH hS hl hcs
  | dload n =>
    have hdg := hdd 2 rfl (by decide)
    replace h := ro_lD_inv h
    obtain ⟨x, hx0, h⟩ := h
    refine lv_dload hx hb hdg (ro_ld_at hl hx0) ?_
    exact h H locs ls hH hS hl hcs
  | dstore_n n =>
    have hdg := hdd 1 rfl (by decide)
    replace h := ro_pD_inv h
    obtain ⟨x, st, rfl, h⟩ := h
    exact lv_dstore_n hx hb hdg rfl hl h.1 (ro_tl_s2 g lv n (.double x)) (fun ls hl => h.2 H locs ls hH hS hl hcs)
  | dstore n =>
    have hdg := hdd 2 rfl (by decide)
    replace h := ro_pD_inv h
    obtain ⟨x, st, rfl, h⟩ := h
    exact lv_dstore hx hb hdg hl h.1 (ro_tl_s2 g lv n (.double x)) (fun ls hl => h.2 H locs ls hH hS hl hcs)
  | dadd =>
    have hdg := hdd 1 rfl (by decide)
    replace h := ro_pD_inv h
    obtain ⟨y, st, rfl, h⟩ := h
    replace h := ro_pD_inv h
    obtain ⟨x, st, rfl, h⟩ := h
    exact lv_dadd hx hb hdg h.1 (h.2 H locs ls hH hS hl hcs)
  | dsub =>
    have hdg := hdd 1 rfl (by decide)
    replace h := ro_pD_inv h
    obtain ⟨y, st, rfl, h⟩ := h
    replace h := ro_pD_inv h
    obtain ⟨x, st, rfl, h⟩ := h
    exact lv_dsub hx hb hdg h.1 (h.2 H locs ls hH hS hl hcs)
  | dmul =>
    have hdg := hdd 1 rfl (by decide)
    replace h := ro_pD_inv h
    obtain ⟨y, st, rfl, h⟩ := h
    replace h := ro_pD_inv h
    obtain ⟨x, st, rfl, h⟩ := h
    exact lv_dmul hx hb hdg h.1 (h.2 H locs ls hH hS hl hcs)
  | ddiv =>
    have hdg := hdd 1 rfl (by decide)
    replace h := ro_pD_inv h
    obtain ⟨y, st, rfl, h⟩ := h
    replace h := ro_pD_inv h
    obtain ⟨x, st, rfl, h⟩ := h
    exact lv_ddiv hx hb hdg h.1 (h.2 H locs ls hH hS hl hcs)
  | dcmp op =>
    have hdg := hdd 1 rfl (by decide)
    replace h := ro_pD_inv h
    obtain ⟨y, st, rfl, h⟩ := h
    replace h := ro_pD_inv h
    obtain ⟨x, st, rfl, h⟩ := h
    exact lv_dcmp hx hb hdg (h H locs ls hH hS hl hcs)
  | i2d =>
    have hdg := hdd 1 rfl (by decide)
    replace h := ro_pI_inv h
    obtain ⟨x, st, rfl, h⟩ := h
    exact lv_i2d hx hb hdg (h H locs ls hH hS hl hcs)
  | l2d =>
    have hdg := hdd 1 rfl (by decide)
    replace h := ro_pJ_inv h
    obtain ⟨x, st, rfl, h⟩ := h
    exact lv_l2d hx hb hdg (h H locs ls hH hS hl hcs)
  | checkcast x =>
    have hdg := hdd 3 rfl (by decide)
    replace h := ro_pR_inv h
    obtain ⟨c0, st, rfl, h4, hk0, h⟩ := h
    simp only [ro_okL] at hok
    unfold ro_isK at hok
    simp only [Bool.and_eq_true, beq_iff_eq] at hok
    obtain ⟨rfl, rfl⟩ := hok
    exact va_castA hx hb hown (hts _ (hG _ (ro_at_mem ro_cn6))) hH.1 (c0 - 4) (by rw [ro_ws_get g h4 (ro_kd_lt hk0 (by decide)), ro_ent16 hk0]) (show s.vm.findClass "[I" = some (g.2.1 0) from (hK.2 0 _ rfl).2) hdg (h H locs ls hH hS hl hcs)
  | iload_n n =>
    have hdg := hdd 1 rfl (by decide)
    replace h := ro_lI_inv h
    obtain ⟨x, hx0, h⟩ := h
    refine lv_iload_n hx hb hdg rfl (ro_ld_at hl hx0) ?_
    exact h H locs ls hH hS hl hcs
  | iload n =>
    have hdg := hdd 2 rfl (by decide)
    replace h := ro_lI_inv h
    obtain ⟨x, hx0, h⟩ := h
    refine lv_iload hx hb hdg (ro_ld_at hl hx0) ?_
    exact h H locs ls hH hS hl hcs
  | lload_n n =>
    have hdg := hdd 1 rfl (by decide)
    replace h := ro_lJ_inv h
    obtain ⟨x, hx0, h⟩ := h
    refine lv_lload_n hx hb hdg rfl (ro_ld_at hl hx0) ?_
    exact h H locs ls hH hS hl hcs
  | lload n =>
    have hdg := hdd 2 rfl (by decide)
    replace h := ro_lJ_inv h
    obtain ⟨x, hx0, h⟩ := h
    refine lv_lload hx hb hdg (ro_ld_at hl hx0) ?_
    exact h H locs ls hH hS hl hcs
  | aload_n n =>
    have hdg := hdd 1 rfl (by decide)
    change ro_lQ (ro_ld lv n) (fun x => ro_kW p l e R s m args below meth c nL mx g Q (pc + 1) lv (x :: st) M cs) at h
    replace h := ro_lQ_inv h
    obtain ⟨x, hx0, hr, h⟩ := h
    rcases hr with rfl | ⟨c0, rfl⟩
    · refine lv_aload_nN hx hb hdg rfl (ro_ld_at hl hx0) ?_
      exact h H locs ls hH hS hl hcs
    · refine lv_aload_n hx hb hdg rfl (ro_ld_at hl hx0) ?_
      exact h H locs ls hH hS hl hcs
  | aload n =>
    have hdg := hdd 2 rfl (by decide)
    change ro_lQ (ro_ld lv n) (fun x => ro_kW p l e R s m args below meth c nL mx g Q (pc + 2) lv (x :: st) M cs) at h
    replace h := ro_lQ_inv h
    obtain ⟨x, hx0, hr, h⟩ := h
    rcases hr with rfl | ⟨c0, rfl⟩
    · refine lv_aloadN hx hb hdg (ro_ld_at hl hx0) ?_
      exact h H locs ls hH hS hl hcs
    · refine lv_aload hx hb hdg (ro_ld_at hl hx0) ?_
      exact h H locs ls hH hS hl hcs
  | istore_n n =>
    have hdg := hdd 1 rfl (by decide)
    replace h := ro_pI_inv h
    obtain ⟨x, st, rfl, h⟩ := h
    exact lv_istore_n hx hb hdg rfl hl h.1 (ro_tl_s1 g lv n (.int x)) (fun ls hl => h.2 H locs ls hH hS hl hcs)
  | istore n =>
    have hdg := hdd 2 rfl (by decide)
    replace h := ro_pI_inv h
    obtain ⟨x, st, rfl, h⟩ := h
    exact lv_istore hx hb hdg hl h.1 (ro_tl_s1 g lv n (.int x)) (fun ls hl => h.2 H locs ls hH hS hl hcs)
  | lstore_n n =>
    have hdg := hdd 1 rfl (by decide)
    replace h := ro_pJ_inv h
    obtain ⟨x, st, rfl, h⟩ := h
    exact lv_lstore_n hx hb hdg rfl hl h.1 (ro_tl_s2 g lv n (.long x)) (fun ls hl => h.2 H locs ls hH hS hl hcs)
  | lstore n =>
    have hdg := hdd 2 rfl (by decide)
    replace h := ro_pJ_inv h
    obtain ⟨x, st, rfl, h⟩ := h
    exact lv_lstore hx hb hdg hl h.1 (ro_tl_s2 g lv n (.long x)) (fun ls hl => h.2 H locs ls hH hS hl hcs)
  | astore_n n =>
    have hdg := hdd 1 rfl (by decide)
    change ro_pQ st (fun x st => (n : Nat) < nL ∧ ro_kW p l e R s m args below meth c nL mx g Q (pc + 1) (ro_s1 lv n x) st M cs) at h
    replace h := ro_pQ_inv h
    obtain ⟨x, st, rfl, hr, h⟩ := h
    rcases hr with rfl | ⟨c0, rfl⟩
    · exact lv_astore_nN hx hb hdg rfl hl h.1 (ro_tl_s1 g lv n .null) (fun ls hl => h.2 H locs ls hH hS hl hcs)
    · exact lv_astore_n hx hb hdg rfl hl h.1 (ro_tl_s1 g lv n (.ref c0)) (fun ls hl => h.2 H locs ls hH hS hl hcs)
  | astore n =>
    have hdg := hdd 2 rfl (by decide)
    change ro_pQ st (fun x st => n < nL ∧ ro_kW p l e R s m args below meth c nL mx g Q (pc + 2) (ro_s1 lv n x) st M cs) at h
    replace h := ro_pQ_inv h
    obtain ⟨x, st, rfl, hr, h⟩ := h
    rcases hr with rfl | ⟨c0, rfl⟩
    · exact lv_astoreN hx hb hdg hl h.1 (ro_tl_s1 g lv n .null) (fun ls hl => h.2 H locs ls hH hS hl hcs)
    · exact lv_astore hx hb hdg hl h.1 (ro_tl_s1 g lv n (.ref c0)) (fun ls hl => h.2 H locs ls hH hS hl hcs)
  | iinc n dlt =>
    have hdg := hdd 3 rfl (by decide)
    replace h := ro_lI_inv h
    obtain ⟨x, hx0, h⟩ := h
    obtain ⟨k0, hk0⟩ := List.getElem?_of_mem (show (n, ro_tv g (.int x)) ∈ ro_tl g lv from List.mem_map.mpr ⟨(n, .int x), ro_ld_mem hx0, rfl⟩)
    exact lv_iinc hx hb hdg hl hk0 rfl h.1 (ro_tl_s1 g lv n (.int (x + Int32.ofInt dlt))) (fun ls hl => h.2 H locs ls hH hS hl hcs)
  | iadd =>
    have hdg := hdd 1 rfl (by decide)
    replace h := ro_pI_inv h
    obtain ⟨y, st, rfl, h⟩ := h
    replace h := ro_pI_inv h
    obtain ⟨x, st, rfl, h⟩ := h
    exact lv_iadd hx hb hdg (h H locs ls hH hS hl hcs)
  | isub =>
    have hdg := hdd 1 rfl (by decide)
    replace h := ro_pI_inv h
    obtain ⟨y, st, rfl, h⟩ := h
    replace h := ro_pI_inv h
    obtain ⟨x, st, rfl, h⟩ := h
    exact lv_isub hx hb hdg (h H locs ls hH hS hl hcs)
  | imul =>
    have hdg := hdd 1 rfl (by decide)
    replace h := ro_pI_inv h
    obtain ⟨y, st, rfl, h⟩ := h
    replace h := ro_pI_inv h
    obtain ⟨x, st, rfl, h⟩ := h
    exact lv_imul hx hb hdg (h H locs ls hH hS hl hcs)
  | iand =>
    have hdg := hdd 1 rfl (by decide)
    replace h := ro_pI_inv h
    obtain ⟨y, st, rfl, h⟩ := h
    replace h := ro_pI_inv h
    obtain ⟨x, st, rfl, h⟩ := h
    exact lv_iand hx hb hdg (h H locs ls hH hS hl hcs)
  | ior =>
    have hdg := hdd 1 rfl (by decide)
    replace h := ro_pI_inv h
    obtain ⟨y, st, rfl, h⟩ := h
    replace h := ro_pI_inv h
    obtain ⟨x, st, rfl, h⟩ := h
    exact lv_ior hx hb hdg (h H locs ls hH hS hl hcs)
  | ixor =>
    have hdg := hdd 1 rfl (by decide)
    replace h := ro_pI_inv h
    obtain ⟨y, st, rfl, h⟩ := h
    replace h := ro_pI_inv h
    obtain ⟨x, st, rfl, h⟩ := h
    exact lv_ixor hx hb hdg (h H locs ls hH hS hl hcs)
  | ishl =>
    have hdg := hdd 1 rfl (by decide)
    replace h := ro_pI_inv h
    obtain ⟨y, st, rfl, h⟩ := h
    replace h := ro_pI_inv h
    obtain ⟨x, st, rfl, h⟩ := h
    exact lv_ishl hx hb hdg (h H locs ls hH hS hl hcs)
  | ishr =>
    have hdg := hdd 1 rfl (by decide)
    replace h := ro_pI_inv h
    obtain ⟨y, st, rfl, h⟩ := h
    replace h := ro_pI_inv h
    obtain ⟨x, st, rfl, h⟩ := h
    exact lv_ishr hx hb hdg (h H locs ls hH hS hl hcs)
  | iushr =>
    have hdg := hdd 1 rfl (by decide)
    replace h := ro_pI_inv h
    obtain ⟨y, st, rfl, h⟩ := h
    replace h := ro_pI_inv h
    obtain ⟨x, st, rfl, h⟩ := h
    exact lv_iushr hx hb hdg rfl (h H locs ls hH hS hl hcs)
  | idiv =>
    have hdg := hdd 1 rfl (by decide)
    replace h := ro_pI_inv h
    obtain ⟨y, st, rfl, h⟩ := h
    replace h := ro_pI_inv h
    obtain ⟨x, st, rfl, h⟩ := h
    exact lv_idiv hx hb hdg h.1 (h.2 H locs ls hH hS hl hcs)
  | irem =>
    have hdg := hdd 1 rfl (by decide)
    replace h := ro_pI_inv h
    obtain ⟨y, st, rfl, h⟩ := h
    replace h := ro_pI_inv h
    obtain ⟨x, st, rfl, h⟩ := h
    exact lv_irem hx hb hdg h.1 (h.2 H locs ls hH hS hl hcs)
  | ineg =>
    have hdg := hdd 1 rfl (by decide)
    replace h := ro_pI_inv h
    obtain ⟨x, st, rfl, h⟩ := h
    exact lv_ineg hx hb hdg (h H locs ls hH hS hl hcs)
  | ladd =>
    have hdg := hdd 1 rfl (by decide)
    replace h := ro_pJ_inv h
    obtain ⟨y, st, rfl, h⟩ := h
    replace h := ro_pJ_inv h
    obtain ⟨x, st, rfl, h⟩ := h
    exact lv_ladd hx hb hdg (h H locs ls hH hS hl hcs)
  | lmul =>
    have hdg := hdd 1 rfl (by decide)
    replace h := ro_pJ_inv h
    obtain ⟨y, st, rfl, h⟩ := h
    replace h := ro_pJ_inv h
    obtain ⟨x, st, rfl, h⟩ := h
    exact lv_lmul hx hb hdg (h H locs ls hH hS hl hcs)
  | land =>
    have hdg := hdd 1 rfl (by decide)
    replace h := ro_pJ_inv h
    obtain ⟨y, st, rfl, h⟩ := h
    replace h := ro_pJ_inv h
    obtain ⟨x, st, rfl, h⟩ := h
    exact lv_land hx hb hdg (h H locs ls hH hS hl hcs)
  | lor =>
    have hdg := hdd 1 rfl (by decide)
    replace h := ro_pJ_inv h
    obtain ⟨y, st, rfl, h⟩ := h
    replace h := ro_pJ_inv h
    obtain ⟨x, st, rfl, h⟩ := h
    exact lv_lor hx hb hdg (h H locs ls hH hS hl hcs)
  | lxor =>
    have hdg := hdd 1 rfl (by decide)
    replace h := ro_pJ_inv h
    obtain ⟨y, st, rfl, h⟩ := h
    replace h := ro_pJ_inv h
    obtain ⟨x, st, rfl, h⟩ := h
    exact lv_lxor hx hb hdg (h H locs ls hH hS hl hcs)
  | ldiv =>
    have hdg := hdd 1 rfl (by decide)
    replace h := ro_pJ_inv h
    obtain ⟨y, st, rfl, h⟩ := h
    replace h := ro_pJ_inv h
    obtain ⟨x, st, rfl, h⟩ := h
    exact lv_ldiv hx hb hdg h.1 (h.2 H locs ls hH hS hl hcs)
  | lrem =>
    have hdg := hdd 1 rfl (by decide)
    replace h := ro_pJ_inv h
    obtain ⟨y, st, rfl, h⟩ := h
    replace h := ro_pJ_inv h
    obtain ⟨x, st, rfl, h⟩ := h
    exact lv_lrem hx hb hdg h.1 (h.2 H locs ls hH hS hl hcs)
  | lshl =>
    have hdg := hdd 1 rfl (by decide)
    replace h := ro_pI_inv h
    obtain ⟨y, st, rfl, h⟩ := h
    replace h := ro_pJ_inv h
    obtain ⟨x, st, rfl, h⟩ := h
    exact lv_lshl hx hb hdg rfl (h H locs ls hH hS hl hcs)
  | lshr =>
    have hdg := hdd 1 rfl (by decide)
    replace h := ro_pI_inv h
    obtain ⟨y, st, rfl, h⟩ := h
    replace h := ro_pJ_inv h
    obtain ⟨x, st, rfl, h⟩ := h
    exact lv_lshr hx hb hdg rfl (h H locs ls hH hS hl hcs)
  | lushr =>
    have hdg := hdd 1 rfl (by decide)
    replace h := ro_pI_inv h
    obtain ⟨y, st, rfl, h⟩ := h
    replace h := ro_pJ_inv h
    obtain ⟨x, st, rfl, h⟩ := h
    exact lv_lushr hx hb hdg rfl (h H locs ls hH hS hl hcs)
  | lcmp =>
    have hdg := hdd 1 rfl (by decide)
    replace h := ro_pJ_inv h
    obtain ⟨y, st, rfl, h⟩ := h
    replace h := ro_pJ_inv h
    obtain ⟨x, st, rfl, h⟩ := h
    exact W.lcmp hx hb hdg (h H locs ls hH hS hl hcs)
  | i2l =>
    have hdg := hdd 1 rfl (by decide)
    replace h := ro_pI_inv h
    obtain ⟨x, st, rfl, h⟩ := h
    exact lv_i2l hx hb hdg rfl (h H locs ls hH hS hl hcs)
  | l2i =>
    have hdg := hdd 1 rfl (by decide)
    replace h := ro_pJ_inv h
    obtain ⟨x, st, rfl, h⟩ := h
    exact lv_l2i hx hb hdg rfl (h H locs ls hH hS hl hcs)
  | i2b =>
    have hdg := hdd 1 rfl (by decide)
    replace h := ro_pI_inv h
    obtain ⟨x, st, rfl, h⟩ := h
    exact lv_i2b hx hb hdg rfl (h H locs ls hH hS hl hcs)
  | i2s =>
    have hdg := hdd 1 rfl (by decide)
    replace h := ro_pI_inv h
    obtain ⟨x, st, rfl, h⟩ := h
    exact lv_i2s hx hb hdg rfl (h H locs ls hH hS hl hcs)
  | dup =>
    have hdg := hdd 1 rfl (by decide)
    replace h := ro_pV_inv h
    obtain ⟨x, st, rfl, h⟩ := h
    exact lv_dup hx hb hdg ((ro_tv_cat g x).trans h.1) (h.2 H locs ls hH hS hl hcs)
  | dup2 =>
    have hdg := hdd 1 rfl (by decide)
    replace h := ro_pV_inv h
    obtain ⟨x, st, rfl, h⟩ := h
    replace h := ro_pV_inv h
    obtain ⟨z, st, rfl, h⟩ := h
    exact lv_dup2_11 hx hb hdg ((ro_tv_cat g x).trans h.1) ((ro_tv_cat g z).trans h.2.1) (h.2.2 H locs ls hH hS hl hcs)
  | pop =>
    have hdg := hdd 1 rfl (by decide)
    replace h := ro_pV_inv h
    obtain ⟨x, st, rfl, h⟩ := h
    exact lv_pop hx hb hdg ((ro_tv_cat g x).trans h.1) (h.2 H locs ls hH hS hl hcs)
  | goto off =>
    have hdg := hdd 3 rfl (by decide)
    change ro_go pc off (fun t => ro_kW p l e R s m args below meth c nL mx g Q t lv st M cs) at h
    exact lv_goto hx hb hdg (ro_goE h) (h.2 H locs ls hH hS hl hcs)
  | ifCond cd off =>
    have hdg := hdd 3 rfl (by decide)
    replace h := ro_pI_inv h
    obtain ⟨x, st, rfl, h⟩ := h
    cases cd
    · exact lv_if_eq hx hb hdg (ro_goE h) (fun q => h.2.1 q H locs ls hH hS hl hcs) (fun q => h.2.2 q H locs ls hH hS hl hcs)
    · exact lv_if_ne hx hb hdg (ro_goE h) (fun q => h.2.1 q H locs ls hH hS hl hcs) (fun q => h.2.2 q H locs ls hH hS hl hcs)
    · exact lv_if_lt hx hb hdg (ro_goE h) (fun q => h.2.1 q H locs ls hH hS hl hcs) (fun q => h.2.2 q H locs ls hH hS hl hcs)
    · exact lv_if_ge hx hb hdg (ro_goE h) (fun q => h.2.1 q H locs ls hH hS hl hcs) (fun q => h.2.2 q H locs ls hH hS hl hcs)
    · exact lv_if_gt hx hb hdg (ro_goE h) (fun q => h.2.1 q H locs ls hH hS hl hcs) (fun q => h.2.2 q H locs ls hH hS hl hcs)
    · exact lv_if_le hx hb hdg (ro_goE h) (fun q => h.2.1 q H locs ls hH hS hl hcs) (fun q => h.2.2 q H locs ls hH hS hl hcs)
  | if_icmp cd off =>
    have hdg := hdd 3 rfl (by decide)
    replace h := ro_pI_inv h
    obtain ⟨y, st, rfl, h⟩ := h
    replace h := ro_pI_inv h
    obtain ⟨x, st, rfl, h⟩ := h
    cases cd
    · exact lv_icmp_eq hx hb hdg (ro_goE h) (fun q => h.2.1 q H locs ls hH hS hl hcs) (fun q => h.2.2 q H locs ls hH hS hl hcs)
    · exact lv_icmp_ne hx hb hdg (ro_goE h) (fun q => h.2.1 q H locs ls hH hS hl hcs) (fun q => h.2.2 q H locs ls hH hS hl hcs)
    · exact lv_icmp_lt hx hb hdg (ro_goE h) (fun q => h.2.1 q H locs ls hH hS hl hcs) (fun q => h.2.2 q H locs ls hH hS hl hcs)
    · exact lv_icmp_ge hx hb hdg (ro_goE h) (fun q => h.2.1 q H locs ls hH hS hl hcs) (fun q => h.2.2 q H locs ls hH hS hl hcs)
    · exact lv_icmp_gt hx hb hdg (ro_goE h) (fun q => h.2.1 q H locs ls hH hS hl hcs) (fun q => h.2.2 q H locs ls hH hS hl hcs)
    · exact lv_icmp_le hx hb hdg (ro_goE h) (fun q => h.2.1 q H locs ls hH hS hl hcs) (fun q => h.2.2 q H locs ls hH hS hl hcs)
  | ifnull off =>
    have hdg := hdd 3 rfl (by decide)
    change ro_pQ st (fun x st => ro_go pc off fun t => (x = .null → ro_kW p l e R s m args below meth c nL mx g Q t lv st M cs) ∧ (¬ x = .null → ro_kW p l e R s m args below meth c nL mx g Q (pc + 3) lv st M cs)) at h
    replace h := ro_pQ_inv h
    obtain ⟨x, st, rfl, hr, h⟩ := h
    rcases hr with rfl | ⟨c0, rfl⟩
    · exact lv_ifnullN hx hb hdg (ro_goE h) (h.2.1 rfl H locs ls hH hS hl hcs)
    · exact lv_ifnull hx hb hdg (h.2.2 (fun q => by cases q) H locs ls hH hS hl hcs)
  | ifnonnull off =>
    have hdg := hdd 3 rfl (by decide)
    change ro_pQ st (fun x st => ro_go pc off fun t => (x = .null → ro_kW p l e R s m args below meth c nL mx g Q (pc + 3) lv st M cs) ∧ (¬ x = .null → ro_kW p l e R s m args below meth c nL mx g Q t lv st M cs)) at h
    replace h := ro_pQ_inv h
    obtain ⟨x, st, rfl, hr, h⟩ := h
    rcases hr with rfl | ⟨c0, rfl⟩
    · exact lv_ifnonnullN hx hb hdg (h.2.1 rfl H locs ls hH hS hl hcs)
    · exact lv_ifnonnull hx hb hdg (ro_goE h) (h.2.2 (fun q => by cases q) H locs ls hH hS hl hcs)
  | tableswitch df lo hi offs =>
    replace h := ro_pI_inv h
    obtain ⟨x, st, rfl, h⟩ := h
    by_cases hz : x.toInt < lo ∨ hi < x.toInt
    · have h := h.1 hz
      exact lv_tableOut hx hb hd hz (ro_goE h) (h.2 H locs ls hH hS hl hcs)
    · have h := h.2 hz
      split at h
      · rename_i o ho
        exact lv_tableIn hx hb hd (fun q => hz (Or.inl q)) (fun q => hz (Or.inr q)) ho (ro_goE h) (h.2 H locs ls hH hS hl hcs)
      · exact h.elim
  | lookupswitch df ps =>
    replace h := ro_pI_inv h
    obtain ⟨x, st, rfl, h⟩ := h
    exact lv_lookup hx hb hd h.1 rfl (ro_goE h.2) (h.2.2 H locs ls hH hS hl hcs)
  | getfield x =>
    have hdg := hdd 3 rfl (by decide)
    replace h := ro_pR_inv h
    obtain ⟨c0, st, rfl, h⟩ := h
    obtain ⟨h4, hk0, h⟩ := h
    obtain ⟨q, hq, hb2, hlink, hdecl⟩ := ro_linkF hok
    have hn := ro_clN hq
    have hlt := ro_kd_lt hk0 (by have := hn.2.1; omega)
    refine va_get hx hb (C := q.1) (T := q.2.1) (N := q.2.2) hts (fun w hw => hG w ((ro_clT hq).1 w hw)) hown hK hH.1 (c0 - 4) (fs := ro_fvs g M a c0) (by rw [ro_ws_get g h4 hlt, ro_ent_obj hk0 hn.2.1]) hq b hb2 (hts _ (hG _ hlink)) (fun x hx => by rw [hdecl] at hx; exact hx) (ro_fvs_get (by rw [hn.1]; exact hb2)) hdg ?_
    exact h H locs ls hH hS hl hcs
  | putfield x =>
    have hdg := hdd 3 rfl (by decide)
    replace h := ro_pV_inv h
    obtain ⟨v, st, rfl, h⟩ := h
    replace h := ro_pR_inv h
    obtain ⟨c0, st, rfl, h⟩ := h
    obtain ⟨h4, hk0, hfi, h⟩ := h
    obtain ⟨q, hq, hb2, hlink, hdecl⟩ := ro_linkF hok
    replace h := ro_pf_inv (g := g) h
    obtain ⟨M2, h1, h2, h3, h5, h⟩ := h
    exact ro_putW hx hb hown hts hG hK hin hq hb2 hlink hdecl h4 hk0 (fun e => hfi (by unfold ro_fin; rw [hq]; exact e)) h1 h2 h3 h5 hdg hH hS (fun H1 locs1 hH1 hS1 => h H1 locs1 ls hH1 hS1 hl hcs)
  | getstatic x =>
    have hdg := hdd 3 rfl (by decide)
    obtain ⟨h1, h2, hlink⟩ := ro_linkS hok
    refine va_gets hx hb (hT.1 a h1 h2).2 hS hown (hts _ (hG _ hlink)) (fun x hx => hx) hdg ?_
    have e : (.ref (g.2.2.1 a) : Value) = ro_tv g (.ref a) := by show _ = Value.ref (ro_ad g a); unfold ro_ad; rw [if_pos (by omega)]
    rw [e]
    exact h H locs ls hH hS hl hcs
  | iaload =>
    have hdg := hdd 1 rfl (by decide)
    replace h := ro_pI_inv h
    obtain ⟨i, st, rfl, h⟩ := h
    replace h := ro_pR_inv h
    obtain ⟨c0, st, rfl, h⟩ := h
    rcases Nat.lt_or_ge c0 4 with h4 | h4
    · obtain ⟨-, hv, h⟩ := h.1 h4
      have e : ro_tv g (.ref c0) = .ref (g.2.2.1 c0) := by show Value.ref (ro_ad g c0) = _; unfold ro_ad; rw [if_pos h4]
      show W _ _ _ _ _ _ _ _ _ _ _ _ _ _ _ (F0 _ _ _ (.int i :: ro_tv g (.ref c0) :: _))
      rw [e]
      rcases Nat.lt_or_ge 0 c0 with h0 | h0
      · have h3 : c0 < 3 := by
          rcases Nat.lt_or_ge c0 3 with q | q
          · exact q
          · have e3 : c0 = 3 := Nat.le_antisymm (Nat.lt_succ_iff.mp h4) q
            subst e3
            exact absurd (Or.inr (Nat.zero_le _)) hv
        exact va_ti hx hb (hT.1 c0 h0 h3).1 hS hv rfl hdg (h H locs ls hH hS hl hcs)
      · have hc0 : c0 = 0 := Nat.le_zero.mp h0
        subst hc0
        exact va_sld hx hb hT.2.1 (Nat.lt_of_lt_of_le hT.2.2 hbs) (Nat.not_le.mpr hT.2.2) hS hv hdg (h H locs ls hH hS hl hcs)
    · obtain ⟨hk0, hv, h⟩ := h.2 h4
      exact va_iald hx hb hK hH.1 (c0 - 4) 0 (by rw [ro_ws_get g h4 (ro_kd_lt hk0 (by decide)), ro_ent16 hk0]) rfl hv hdg (h H locs ls hH hS hl hcs)
  | laload =>
    have hdg := hdd 1 rfl (by decide)
    replace h := ro_pI_inv h
    obtain ⟨i, st, rfl, h⟩ := h
    replace h := ro_pR_inv h
    obtain ⟨c0, st, rfl, h⟩ := h
    obtain ⟨h4, hk0, hv, h⟩ := h
    exact va_lald hx hb hK hH.1 (c0 - 4) 1 (by rw [ro_ws_get g h4 (ro_kd_lt hk0 (by decide)), ro_ent17 hk0]) rfl hv hdg (h H locs ls hH hS hl hcs)
  | aaload =>
    have hdg := hdd 1 rfl (by decide)
    replace h := ro_pI_inv h
    obtain ⟨i, st, rfl, h⟩ := h
    replace h := ro_pR_inv h
    obtain ⟨c0, st, rfl, h⟩ := h
    obtain ⟨h4, hk, hv, h⟩ := h
    replace h := ro_lQ_inv h
    obtain ⟨x, hx0, hr, h⟩ := h
    cases hx0
    have hr := ro_rf_ro g hr
    rcases hk with hk0 | hk0
    · refine ro_aldq2 hx hb hK hH.1 (c0 - 4) (by rw [ro_ws_get g h4 (ro_kd_lt hk0 (by decide)), ro_ent20 hk0]) hv hdg ?_
      rw [hr]
      exact h H locs ls hH hS hl hcs
    · refine va_aldq hx hb hK hH.1 (c0 - 4) 3 (by rw [ro_ws_get g h4 (ro_kd_lt hk0 (by decide)), ro_ent21 hk0]) rfl hv hdg ?_
      rw [hr]
      exact h H locs ls hH hS hl hcs
  | iastore =>
    have hdg := hdd 1 rfl (by decide)
    replace h := ro_pI_inv h
    obtain ⟨x, st, rfl, h⟩ := h
    replace h := ro_pI_inv h
    obtain ⟨i, st, rfl, h⟩ := h
    replace h := ro_pR_inv h
    obtain ⟨c0, st, rfl, h⟩ := h
    obtain ⟨h4, hk0, hv, h⟩ := h
    exact ro_iastoreW hx hb hK h4 hk0 hv hdg hH hS (fun H1 locs1 hH1 hS1 => h H1 locs1 ls hH1 hS1 hl hcs)
  | lastore =>
    have hdg := hdd 1 rfl (by decide)
    replace h := ro_pJ_inv h
    obtain ⟨x, st, rfl, h⟩ := h
    replace h := ro_pI_inv h
    obtain ⟨i, st, rfl, h⟩ := h
    replace h := ro_pR_inv h
    obtain ⟨c0, st, rfl, h⟩ := h
    obtain ⟨h4, hk0, hv, h⟩ := h
    exact ro_lastoreW hx hb hK h4 hk0 hv hdg hH hS (fun H1 locs1 hH1 hS1 => h H1 locs1 ls hH1 hS1 hl hcs)
  | aastore =>
    have hdg := hdd 1 rfl (by decide)
    replace h := ro_pR_inv h
    obtain ⟨x0, st, rfl, h⟩ := h
    replace h := ro_pI_inv h
    obtain ⟨i, st, rfl, h⟩ := h
    replace h := ro_pR_inv h
    obtain ⟨c0, st, rfl, h⟩ := h
    obtain ⟨h4x, hkx, h4, hk0, hv, h⟩ := h
    exact ro_aastoreW hx hb hK h4x hkx h4 hk0 hv hdg hH hS (fun H1 locs1 hH1 hS1 => h H1 locs1 ls hH1 hS1 hl hcs)
  | arraylength =>
    have hdg := hdd 1 rfl (by decide)
    replace h := ro_pR_inv h
    obtain ⟨c0, st, rfl, h⟩ := h
    rcases Nat.lt_or_ge c0 4 with h4 | h4
    · obtain ⟨h3, h⟩ := h.1 h4
      have e : ro_tv g (.ref c0) = .ref (g.2.2.1 c0) := by show Value.ref (ro_ad g c0) = _; unfold ro_ad; rw [if_pos h4]
      show W _ _ _ _ _ _ _ _ _ _ _ _ _ _ _ (F0 _ _ _ (ro_tv g (.ref c0) :: _))
      rw [e]
      rcases Nat.lt_or_ge 0 c0 with h0 | h0
      · exact va_tlen hx hb (hT.1 c0 h0 h3).1 hS rfl hdg (h H locs ls hH hS hl hcs)
      · have hc0 : c0 = 0 := Nat.le_zero.mp h0
        subst hc0
        exact va_slen hx hb hT.2.1 (Nat.lt_of_lt_of_le hT.2.2 hbs) (Nat.not_le.mpr hT.2.2) hS hdg (h H locs ls hH hS hl hcs)
    · obtain ⟨a1, a2, a3, h⟩ := h.2 h4
      exact ro_alenW hx hb hK h4 a1 a2 a3 hdg hH (h H locs ls hH hS hl hcs)
  | new x =>
    have hdg := hdd 3 rfl (by decide)
    obtain ⟨hc1, hc2, h⟩ := h
    obtain ⟨q, hq, hlink⟩ := ro_linkC hok
    exact ro_newW hx hb hown hts hG hK hq hlink (by rw [← hmx.1]; exact hc1) (by rw [← hmx.2]; exact hc2) hdg hH hS (fun H1 hH1 hS1 ha1 => by have h := h H1 locs ls hH1 hS1 hl ⟨hc1, hc2⟩; rw [List.map_cons, show ro_tv g (.ref (M.1.length + 4)) = .ref H.size from congrArg Value.ref ha1] at h; exact h)
  | newarray t =>
    have hdg := hdd 2 rfl (by decide)
    replace h := ro_pI_inv h
    obtain ⟨nn, st, rfl, h⟩ := h
    obtain ⟨hz, hz2, hk9, hc1, hc2, h⟩ := h
    exact ro_newaW hx hb hts hG hK hz hz2 hk9 (by rw [← hmx.1]; exact hc1) (by rw [← hmx.2]; exact hc2) hdg hH hS (fun H1 hH1 hS1 ha1 => by have h := h H1 locs ls hH1 hS1 hl ⟨hc1, hc2⟩; rw [List.map_cons, show ro_tv g (.ref (M.1.length + 4)) = .ref H.size from congrArg Value.ref ha1] at h; exact h)
  | anewarray x =>
    have hdg := hdd 3 rfl (by decide)
    replace h := ro_pI_inv h
    obtain ⟨nn, st, rfl, h⟩ := h
    obtain ⟨hlk, hz, hz2, hc1, hc2, h⟩ := h
    exact ro_newqW hx hb hown hts hG hK hN hlk hz hz2 (by rw [← hmx.1]; exact hc1) (by rw [← hmx.2]; exact hc2) hdg hH hS (fun H1 hH1 hS1 ha1 => by have h := h H1 locs ls hH1 hS1 hl ⟨hc1, hc2⟩; rw [List.map_cons, show ro_tv g (.ref (M.1.length + 4)) = .ref H.size from congrArg Value.ref ha1] at h; exact h)
  | multianewarray x dm =>
    have hdg := hdd 4 rfl (by decide)
    replace h := ro_pI_inv h
    obtain ⟨nn, st, rfl, h⟩ := h
    replace h := ro_pI_inv h
    obtain ⟨mm, st, rfl, h⟩ := h
    obtain ⟨hdm, hlk, hm0, hz, hz1, hz2, hc1, hc2, h⟩ := h
    subst hdm
    exact ro_gridW hx hb hown hts hG hK hN hlk hm0 hz hz1 hz2 (by rw [← hmx.1]; exact hc1) (by rw [← hmx.2]; exact hc2) hdg hH hS (fun H1 locs1 hH1 hS1 ha1 => by have h := h H1 locs1 ls hH1 hS1 hl ⟨hc1, hc2⟩; rw [List.map_cons, show ro_tv g (.ref (M.1.length + 4)) = .ref H.size from congrArg Value.ref ha1] at h; exact h)
  | invokevirtual x =>
    have hdg := hdd 3 rfl (by decide)
    by_cases hb7 : b = 7
    · subst hb7
      simp only [ro_okL] at hok
      replace h := ro_pR_inv h
      obtain ⟨c0, st, rfl, hroom, h4, hk0, hc1, hc2, h⟩ := h
      exact ro_clnW hx hb (hml.trans hl.1.symm) hown hts hG hK hN hok h4 hk0 (by omega) (by rw [ro_cat_tv]; omega) (by rw [← hmx.1]; exact hc1) (by rw [← hmx.2]; exact hc2) hdg hH hS (fun H1 hH1 hS1 ha1 => by have h := h H1 locs ls hH1 hS1 hl ⟨hc1, hc2⟩; rw [List.map_cons, show ro_tv g (.ref (M.1.length + 4)) = .ref H.size from congrArg Value.ref ha1] at h; exact h)
    have hok2 : (b == 0 && ro_LL.any (fun e => e.1 == own && e.2.1 == x && e.2.2.1 == a) && !(ro_m a).2.2.2.2.2.2) = true := by
      simp only [ro_okL] at hok
      exact hok
    have hh : (12 ≤ a ∧ a ≠ 193) ∧ ro_cv (some (ro_m a).2.2.2.2.1) cl mx a pc lv st M cs (ro_kW p l e R s m args below meth c nL mx g Q) := by
      simp only [ro_step] at h
      exact h
    simp only [Bool.and_eq_true, Bool.not_eq_true', beq_iff_eq] at hok2
    obtain ⟨⟨hb0, hlk⟩, hst⟩ := hok2
    obtain ⟨hni, hlen, h⟩ := hh
    replace h := ro_pR_inv h
    obtain ⟨c0, r, hdrop, hkd, hroom, hc1, hc2, h⟩ := h
    obtain ⟨h4, hk0⟩ := hkd _ rfl
    have hy := hcl _ _ _ _ h
    exact ro_virtW hx hb hml hown hts hG hK hT hN hbs hf hlo hmx hM hy (ro_linkL hlk) hst (ro_noini _ hy hni) hlen hdrop h4 hk0 hroom hc1 hc2 h hdg hH hS hl (fun v M' H1 locs1 hk hH1 hS1 => hk H1 locs1 ls hH1 hS1 hl ⟨hc1, hc2⟩)
  | invokespecial x =>
    have hdg := hdd 3 rfl (by decide)
    by_cases hb2 : b = 2
    · subst hb2
      replace h := ro_pR_inv h
      obtain ⟨c0, r, rfl, hroom, h⟩ := h
      have hlk := ro_linkO hok
      refine W.objInit hx hb hown (hts _ (hG _ hlk)) (hts _ (hG _ (ro_at_mem ro_oi))) (hts _ (hG _ (ro_codeG ro_ocm))) rfl (hl.1.trans hml.symm) rfl hdg (by omega) ?_ ?_
      · have := ro_cat_tv g r
        show 2 * 0 + _ + 12 ≤ _
        omega
      · exact h H locs ls hH hS hl hcs
    · have hsp := ro_specE hb2 h
      obtain ⟨hlen, h⟩ := hsp
      replace h := ro_pR_inv h
      obtain ⟨c0, r, hdrop, -, hroom, hc1, hc2, h⟩ := h
      have hy := hcl _ _ _ _ h
      exact ro_specW hx hb hml hown hts hG hK hT hN hbs hf hlo hmx hM hy (ro_linkI hb2 hok) hlen hdrop hroom hc1 hc2 h hdg hH hS hl (fun v M' H1 locs1 hk hH1 hS1 => hk H1 locs1 ls hH1 hS1 hl ⟨hc1, hc2⟩)
  | invokestatic x =>
    have hdg := hdd 3 rfl (by decide)
    match b, hok, h with
    | 0, hok, h =>
      simp only [ro_okL, Bool.and_eq_true] at hok
      obtain ⟨hlk, hst⟩ := hok
      obtain ⟨hlen, hroom, hc1, hc2, h⟩ := h
      have hy := hcl _ _ _ _ h
      exact ro_statW hx hb hml hown hts hG hK hT hN hbs hf hlo hmx hM hy (ro_linkL hlk) hst hlen hroom hc1 hc2 h hdg hH hS hl (fun v M' H1 locs1 hk hH1 hS1 => hk H1 locs1 ls hH1 hS1 hl ⟨hc1, hc2⟩)
    | 3, hok, h =>
      simp only [ro_okL] at hok
      exact ro_mathW hx hb hml hown hts hG hf hlo hmx hcs (ro_linkX hok) h hdg hH hS hl
    | 4, hok, h =>
      simp only [ro_okL] at hok
      exact ro_acW hx hb hml hown hts hG hK hf hlo (ro_linkA hok) h hdg hH hS hl hcs
    | 5, hok, h =>
      simp only [ro_okL] at hok
      replace h := ro_pD_inv h
      obtain ⟨x1, st, rfl, hroom, hn, h⟩ := h
      exact ro_absW hx hb (hml.trans hl.1.symm) hown hts hG (ro_linkB hok) hn (by omega) (by rw [ro_cat_tv]; omega) (by rw [← hmx.1]; exact hcs.1) (by rw [← hmx.2]; exact hcs.2) hdg (h H locs ls hH hS hl hcs)
    | 1, hok, h => exact h.elim
    | 2, hok, h => exact h.elim
    | _ + 6, hok, h => exact h.elim
  | _ => exact h.elim
end ROT
