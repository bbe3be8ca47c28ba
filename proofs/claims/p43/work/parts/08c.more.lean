/-! Math.abs of a double, a row's clone -/
section ROX
variable {p : Program} {l : Launch} {e : Env} {R : Room} {s : State} {m : MethodId} {args : Array Value} {below : List Frame} {meth : Method} {c : Code} {H : Heap} {locs : List Loc} {cells slots : Nat} {Q : State → Prop}
variable {cc : ByteArray} {pc : Nat} {ls : Array Slot} {rest : List Value} {H0 : Heap} {g : ro_Gd} {M : ro_Mm} {Ts : List Cond}
theorem ro_linkB {own x : Nat} (h : ro_BL.any (fun e => e.1 == own && e.2.1 == x) = true) : Cond.methodLink (ro_Rn own) x Jvm.Free.Fl.Abs.absDN ∈ ro_G := by
  obtain ⟨e, -, hp, hq⟩ := ro_any ro_chkB_ok h
  simp only [Bool.and_eq_true, beq_iff_eq] at hp
  obtain ⟨rfl, rfl⟩ := hp
  exact ro_at_mem hq
theorem ro_abs0 {T : State} (X : Stand p l e R s m args below meth c T locs cells slots) (hx : p.tables.exec = Jvm.exec) {own : String} {index : Nat} (hown : s.vm.findClass own = some m.cls) (hlink : (Cond.methodLink own index Jvm.Free.Fl.Abs.absDN).before args s = true) (hstat : (Cond.static Jvm.Free.Fl.Abs.absDN).before args s = true) (hinit : (Cond.initialized "java/lang/Math").before args s = true) (hcode : (Cond.code Jvm.Free.Fl.Abs.absDN Jvm.Free.Fl.Abs.absDCode 2 (some .double)).before args s = true)
    {f : JFrame} (hg : f.method = m) (hsize : f.locals.size = c.maxLocals) {a : UInt64} (ha : vf_n64 a) (hstack : f.stack = .double a :: rest) (hdg : decode c.code f.pc = .ok (.invokestatic index, 3)) (hfr : 1 ≤ R.frames) (hlo : 2 * f.monitorRoom + (rest.map fun v => v.category).sum + 13 ≤ R.locals) (hcl : cells ≤ R.cells) (hsl : slots ≤ R.slots) :
    ∃ vm', Stand p l e R s m args below meth c (T.setVm vm') locs cells slots ∧ ∀ target, Steps p.tables e below ((T.setVm vm').setTop { f with pc := f.pc + 3, stack := .double (ro_abs a) :: rest }) target → Steps p.tables e below (T.setTop f) target := by
  cases hn : s.methodNamed? Jvm.Free.Fl.Abs.absDN with
  | none => simp [Cond.before, Cond.holds, Cond.value, hn] at hcode
  | some r =>
    obtain ⟨mM, cM, hmM, hcM, -, hlM, -, hkM, -, hsM⟩ := Cond.code_spec hn hcode
    obtain ⟨kP, hkP, -⟩ := className_of_methodNamed hn
    have hini := Cond.initialized_spec (findClass_of_methodNamed hn) hkP hinit
    have hd : parseMethodDescriptor "(D)D" = some { parameters := [.double], returnType := some .double } := by decide +kernel
    obtain ⟨vm', X', step⟩ := X.invokestatic hx hown hlink hn hmM (Cond.static_spec hn hmM hstat) hkP hini (by decide) hg (argsL := [.double a]) (rest := rest) (by
      rw [show Jvm.Free.Fl.Abs.absDN.desc = "(D)D" from rfl, hd] at hsM
      rw [← Option.some.inj hsM]
      rfl) hstack hdg
    refine ⟨vm', X', fun target hrest => step target fun acts => ?_⟩
    subst hg
    have hn' : (T.setVm vm').methodNamed? Jvm.Free.Fl.Abs.absDN = some r := (Jvm.State.methodNamed?_setVm X'.warmed.alike _).trans hn
    have hcode' : (Cond.code Jvm.Free.Fl.Abs.absDN Jvm.Free.Fl.Abs.absDCode 2 (some .double)).before args (T.setVm vm') = true := Cond.tabsOnly_warm (args' := args) (T := T) X'.warmed _ rfl hcode
    obtain ⟨mN, cN, hmN, hcN, -, hlN, -, hkN, -, hsN⟩ := Cond.code_spec hn' hcode'
    obtain ⟨kQ, hkQ, hkname⟩ := className_of_methodNamed hn'
    obtain ⟨hq1, hq2⟩ := name_of_methodNamed hn' hmN
    have hkQ' : vm'.classes[r.cls]? = some kQ := hkQ
    have hmN' : vm'.method? r = some mN := hmN
    have hxQ : kQ.methods[r.idx]? = some mN := by simpa [Vm.method?, hkQ'] using hmN'
    exact Jvm.Free.Fl.Abs.Steps.absD p X'.here.top X'.here.above X'.here.running X'.here.runnable X'.here.alone X'.here.code acts hkQ hxQ (Vm.bootOf_findClass (findClass_of_methodNamed hn') hkQ) hkname hq1 hq2 hsN hcN hlN hkN
      (X'.room_calling (g := { f with stack := rest }) hsize hmN hcN (R' := {}) (by show 0 + 1 ≤ R.frames; omega) (by rw [hlN]; show _ + (2 + 11) + 0 ≤ R.locals; exact hlo) (by show cells + 0 ≤ R.cells; omega) (by show slots + 0 ≤ R.slots; omega)) (g := { f with stack := rest }) (ig := .invokestatic index) (len := 3) ha hdg hrest
theorem ro_absW (hx : p.tables.exec = Jvm.exec) (hb : c.code = cc) (hml : c.maxLocals = ls.size) {own x : Nat} (hown : s.vm.findClass (ro_Rn own) = some m.cls) (hts : ∀ w ∈ Ts, w.before args s = true) (hG : ∀ w ∈ ro_G, w ∈ Ts) (hlk : Cond.methodLink (ro_Rn own) x Jvm.Free.Fl.Abs.absDN ∈ ro_G) {a : UInt64} (ha : vf_n64 a) (hfr : 1 ≤ R.frames) (hlo : (rest.map fun v => v.category).sum + 15 ≤ R.locals) (hcl : cells ≤ R.cells) (hsl : slots ≤ R.slots) (hdg : decode cc pc = .ok (.invokestatic x, 3))
    (k : W p l e R s m args below meth c H locs cells slots Q (F0 m (pc + 3) ls (.double (ro_abs a) :: rest))) : W p l e R s m args below meth c H locs cells slots Q (F0 m pc ls (.double a :: rest)) := by
  intro T hT X
  obtain ⟨vm', X', st⟩ := ro_abs0 X hx hown (hts _ (hG _ hlk)) (hts _ (hG _ (ro_at_mem ro_bs0))) (hts _ (hG _ (ro_at_mem ro_xi))) (hts _ (hG _ (ro_codeG (ro_wd_mem ro_bc0)))) (f := F0 m pc ls (.double a :: rest)) rfl (by rw [hml]) ha rfl (by rw [hb]; exact hdg) hfr (by show 2 * 0 + _ + _ ≤ _; omega) hcl hsl
  obtain ⟨t, a1, b1⟩ := k (T.setVm vm') hT X'
  exact ⟨t, st t a1, b1⟩
/-- a row of ints, made once more -/
theorem ro_clnW (hx : p.tables.exec = Jvm.exec) (hb : c.code = cc) (hml : c.maxLocals = ls.size) {own x : Nat} (hown : s.vm.findClass (ro_Rn own) = some m.cls) (hts : ∀ w ∈ Ts, w.before args s = true) (hG : ∀ w ∈ ro_G, w ∈ Ts) (hK : va_K g.1 ro_cl (ro_tys g) s) (hN : ro_N s) (hlk : ro_isC own x = true) {c0 : Nat} (h4 : 4 ≤ c0) (hk0 : (ro_kd M c0).1 = 16)
    (hfr : 1 ≤ R.frames) (hlo : (rest.map fun v => v.category).sum + 15 ≤ R.locals) (hcells : cells + 1 ≤ R.cells) (hslots : slots + (ro_kd M c0).2 ≤ R.slots) (hdg : decode cc pc = .ok (.invokevirtual x, 3)) (hH : ro_H g M H) (hS : va_S (ro_A g) H0 H locs)
    (kk : ∀ H1 : Heap, ro_H g (ro_cpy M c0) H1 → va_S (ro_A g) H0 H1 locs → ro_ad g (M.1.length + 4) = H.size → W p l e R s m args below meth c H1 locs (cells + 1) (slots + (ro_kd M c0).2) Q (F0 m (pc + 3) ls (.ref H.size :: rest))) : W p l e R s m args below meth c H locs cells slots Q (F0 m pc ls (.ref (ro_ad g c0) :: rest)) := by
  unfold ro_isC at hlk
  simp only [Bool.and_eq_true, beq_iff_eq] at hlk
  obtain ⟨rfl, rfl⟩ := hlk
  have hlt := ro_kd_lt hk0 (by decide)
  have he : (ro_ws g M)[c0 - 4]? = some (ro_ad g c0, .inl (g.2.1 0, (ro_kd M c0).2, .inl (M.2.1 c0))) := by rw [ro_ws_get g h4 hlt, ro_ent16 hk0]
  have hc0 := hH.1 _ _ he
  obtain ⟨cO, tO, f1, f2, f3⟩ := Cond.castable_spec (va_Nw.use (A := args) rfl hN.2.2.2)
  have hnm : s.vm.findClass "[I" = some (g.2.1 0) := (hK.2 0 _ rfl).2
  cases hnm.symm.trans f1
  intro T hT X
  have hcellT : T.heap[ro_ad g c0]? = some (arrV (g.2.1 0) (ro_kd M c0).2 (fun j => .int (M.2.1 c0 j))) := by rw [hT]; exact hc0
  obtain ⟨-, kA, hkA, comp, hkind⟩ := State.isArrayOf_alike X.warmed.alike ((hK.2 0 _ rfl).1 0 (fun _ => .null))
  obtain ⟨-, kS, hkS, compS, hkindS⟩ := (hK.2 0 _ rfl).1 0 (fun _ => .null)
  obtain ⟨vm', X', st⟩ := X.cloneArray hx hown (hts _ (hG _ (ro_at_mem ro_cn0))) (hts _ (hG _ (ro_at_mem ro_cn1))) (hts _ (hG _ (ro_at_mem ro_cn2))) (hts _ (hG _ (ro_at_mem ro_cn3))) (hts _ (hG _ (ro_at_mem ro_cn4))) (a := ro_ad g c0) (cell := arrV (g.2.1 0) (ro_kd M c0).2 (fun j => .int (M.2.1 c0 j))) hcellT (fun k h => by cases h) (fun h => by cases h) hnm f2 f3
    (fun i v hv => by
      have hk' : T.vm.classes[g.2.1 0]? = some kA := hkA
      have hfit : fits .int v = true := by
        by_cases hi : i < (ro_kd M c0).2
        · rw [arrV_read _ _ hi] at hv
          cases hv
          rfl
        · rw [Array.getElem?_eq_none (by rw [arrV_size]; omega)] at hv
          cases hv
      show T.fitsSlot (g.2.1 0) .none i v = true
      simpa [State.fitsSlot, State.slotType?, hk', hkind] using hfit)
    (g := F0 m pc ls (.ref (ro_ad g c0) :: rest)) rfl (by rw [hml]) rfl (by rw [hb]; exact hdg) hfr (by show 2 * 0 + _ + 14 ≤ _; omega) hcells (by rw [arrV_size]; exact hslots) (hloader := Vm.clonesLoader_of_array hkS hkindS)
  have hcell : ({ cls := (arrV (g.2.1 0) (ro_kd M c0).2 (fun j => .int (M.2.1 c0 j))).cls, slots := (arrV (g.2.1 0) (ro_kd M c0).2 (fun j => .int (M.2.1 c0 j))).slots } : Cell) = arrV (g.2.1 0) (ro_kd M c0).2 (fun j => .int (M.2.1 c0 j)) := rfl
  rw [hcell, arrV_size] at X'
  generalize hH1 : H.push (arrV (g.2.1 0) (ro_kd M c0).2 (fun j => .int (M.2.1 c0 j))) = H1
  have z1 : H1.size = H.size + 1 := by rw [← hH1, Array.size_push]
  have e1 : H1[H.size]? = some (arrV (g.2.1 0) (ro_kd M c0).2 (fun j => .int (M.2.1 c0 j))) := by rw [← hH1, Array.getElem?_push_size]
  have o1 : ∀ q : Nat, q < H.size → H1[q]? = H[q]? := fun q hq => by rw [← hH1, Array.getElem?_push, if_neg (Nat.ne_of_lt hq)]
  have ha : ro_ad g (M.1.length + 4) = H.size := by rw [ro_ad4 g (by omega), hH.2]; omega
  have e4 : va_at g.1 ro_cl (H.size, ro_ent g (ro_cpy M c0) (M.1.length + 4)) H1 := by
    rw [ro_ent16 (by rw [ro_kd_cpl]; exact hk0), ro_kd_cpl, show (ro_cpy M c0).2.1 (M.1.length + 4) = M.2.1 c0 from ro_row_eq]
    exact e1
  have hH2 : ro_H g (ro_cpy M c0) H1 := by
    refine ⟨?_, ?_⟩
    · rw [ro_ws_cpy, ha]
      refine (hH.1.kept (fun k x hx => o1 x.1 ((hH.1 k x hx).lt))).app (fun k x hx => ?_)
      have hz : k < 1 := (List.getElem?_eq_some_iff.mp hx).1
      rw [show k = 0 by omega] at hx
      cases hx
      exact e4
    · rw [z1, hH.2]
      simp [ro_cpy]
      omega
  obtain ⟨t, b1, b2⟩ := kk H1 hH2 ⟨by have := hS.1; omega, fun q h1 h2 => (o1 q (Nat.lt_of_lt_of_le h1 hS.1)).trans (hS.2.1 q h1 h2), hS.2.2⟩ ha ((T.setVm vm').pushCell (arrV (g.2.1 0) (ro_kd M c0).2 (fun j => .int (M.2.1 c0 j)))) (by rw [← hH1, ← hT]; rfl) X'
  refine ⟨t, st t ?_, b2⟩
  rw [hcell, hT]
  exact b1
end ROX
