/-! an array of references, and a grid, made -/
theorem ro_linkM {own x : Nat} (h : ro_MM own x = true) : Cond.classLink (ro_Rn own) x "[[I" ∈ ro_G := by
  unfold ro_MM at h
  simp only [Bool.and_eq_true, beq_iff_eq] at h
  obtain ⟨rfl, rfl⟩ := h
  exact ro_at_mem ro_chkMM
theorem ro_outer (c : ClassId) (N h0 : Nat) : ∀ i : Nat, Jvm.Free.Multi.outerC c N h0 i = arrV c N (fun j => va_rf (if j < i then some (h0 + 1 + j) else none))
  | 0 => by
    show ({ cls := c, slots := Array.replicate N .null, vm := .none } : Cell) = _
    rw [arrV_new]
    exact congrArg (arrV c N) (funext fun j => by simp [va_rf])
  | i + 1 => by
    show (Jvm.Free.Multi.outerC c N h0 i).setSlot i (.ref (h0 + 1 + i)) = _
    rw [ro_outer c N h0 i, arrV_store]
    refine congrArg (arrV c N) (funext fun j => ?_)
    by_cases e : j = i
    · subst e
      simp [updV, va_rf]
    · by_cases h : j < i
      · simp [updV, e, h, Nat.lt_succ_of_lt h]
      · simp [updV, e, h, show ¬ j < i + 1 by omega]
theorem ro_grid_len (M : ro_Mm) (n k : Nat) : (ro_grid M n k).1.length = M.1.length + 1 + n := by simp [ro_grid]; omega
theorem ro_grid_kd (M : ro_Mm) (n k j : Nat) : ro_kd (ro_grid M n k) (j + 4) = if j < M.1.length then ro_kd M (j + 4) else if j = M.1.length then (20, n) else if j < M.1.length + 1 + n then (16, k) else (99, 0) := by
  unfold ro_kd ro_grid
  simp only [List.getD_eq_getElem?_getD, Nat.add_sub_cancel]
  by_cases h : j < M.1.length
  · rw [if_pos h, List.getElem?_append_left h]
  · rw [if_neg h, List.getElem?_append_right (by omega)]
    by_cases h2 : j = M.1.length
    · rw [if_pos h2, h2, Nat.sub_self]
      rfl
    · rw [if_neg h2]
      obtain ⟨q, hq⟩ : ∃ q, j - M.1.length = q + 1 := ⟨j - M.1.length - 1, by omega⟩
      rw [hq, List.getElem?_cons_succ]
      by_cases h3 : j < M.1.length + 1 + n
      · rw [if_pos h3, List.getElem?_replicate, if_pos (by omega)]
        rfl
      · rw [if_neg h3, List.getElem?_replicate, if_neg (by omega)]
        rfl
section ROG
variable {p : Program} {l : Launch} {e : Env} {R : Room} {s : State} {m : MethodId} {args : Array Value} {below : List Frame} {meth : Method} {c : Code} {H : Heap} {locs : List Loc} {cells slots : Nat} {Q : State → Prop}
variable {cc : ByteArray} {pc : Nat} {ls : Array Slot} {rest : List Value} {H0 : Heap} {g : ro_Gd} {M : ro_Mm} {Ts : List Cond}
theorem ro_newqW (hx : p.tables.exec = Jvm.exec) (hb : c.code = cc) {own x : Nat} (hown : s.vm.findClass (ro_Rn own) = some m.cls) (hts : ∀ w ∈ Ts, w.before args s = true) (hG : ∀ w ∈ ro_G, w ∈ Ts) (hK : va_K g.1 ro_cl (ro_tys g) s) (hN : ro_N s) (hlk : ro_CL.any (fun e => e.1 == own && e.2.1 == x && e.2.2.1 == 9) = true) {n : Int32} (hz : ¬ n < 0) (hz2 : n.toNatClampNeg ≤ 60000)
    (hcells : cells + 1 ≤ R.cells) (hslots : slots + n.toNatClampNeg ≤ R.slots) (hdg : decode cc pc = .ok (.anewarray x, 3)) (hH : ro_H g M H) (hS : va_S (ro_A g) H0 H locs)
    (kk : ∀ H1 : Heap, ro_H g (ro_new M (21, n.toNatClampNeg)) H1 → va_S (ro_A g) H0 H1 locs → ro_ad g (M.1.length + 4) = H.size → W p l e R s m args below meth c H1 locs (cells + 1) (slots + n.toNatClampNeg) Q (F0 m (pc + 3) ls (.ref H.size :: rest))) : W p l e R s m args below meth c H locs cells slots Q (F0 m pc ls (.int n :: rest)) := by
  obtain ⟨q, hq, hlink⟩ := ro_linkC (own := own) (x := x) (a := 9) (b := 0) (by simp only [ro_okL]; exact hlk)
  have hq9 : ro_cl[9]? = some ("RefusedOnce$Shelf", ro_T9, 4) := rfl
  cases hq.symm.trans hq9
  refine W.anew hx hb hown (hts _ (hG _ hlink)) (va_AO.use hN.2.1) rfl hdg rfl hz (by omega) hcells hslots fun cA kA comp f1 f2 f3 f4 => ?_
  generalize hH1 : H.push ({ cls := cA, slots := Array.replicate n.toNatClampNeg .null, vm := .none } : Cell) = H1
  have z1 : H1.size = H.size + 1 := by rw [← hH1, Array.size_push]
  have e1 : H1[H.size]? = some (arrV cA n.toNatClampNeg (fun _ => .null)) := by rw [← hH1, Array.getElem?_push_size, ← arrV_new]
  have o1 : ∀ q : Nat, q < H.size → H1[q]? = H[q]? := fun q hq => by rw [← hH1, Array.getElem?_push, if_neg (Nat.ne_of_lt hq)]
  obtain ⟨kA', comp', k1, k2, k3, k4⟩ := (hK.2 3 _ rfl).2
  have ec : some cA = some (g.2.1 3) := f1.symm.trans k4
  cases ec
  have j3 : (ro_new M (21, n.toNatClampNeg)).2.2.2 (M.1.length + 4) = fun _ => .null := ro_row_eq
  have e4 : va_at g.1 ro_cl (H.size, ro_ent g (ro_new M (21, n.toNatClampNeg)) (M.1.length + 4)) H1 := by
    rw [ro_ent21 (by rw [ro_kd_last]), j3, ro_kd_last]
    exact e1
  obtain ⟨g1, g2, g3⟩ := ro_made hH hS e4 z1 o1
  exact kk H1 g1 g2 g3
set_option maxHeartbeats 4000000 in
theorem ro_gridW (hx : p.tables.exec = Jvm.exec) (hb : c.code = cc) {own x : Nat} (hown : s.vm.findClass (ro_Rn own) = some m.cls) (hts : ∀ w ∈ Ts, w.before args s = true) (hG : ∀ w ∈ ro_G, w ∈ Ts) (hK : va_K g.1 ro_cl (ro_tys g) s) (hN : ro_N s) (hlk : ro_MM own x = true) {n k : Int32} (hn : ¬ n < 0) (hk : ¬ k < 0) (hn2 : n.toNatClampNeg ≤ 60000) (hk2 : k.toNatClampNeg ≤ 60000)
    (hcells : cells + (1 + n.toNatClampNeg) ≤ R.cells) (hslots : slots + (n.toNatClampNeg + n.toNatClampNeg * k.toNatClampNeg) ≤ R.slots) (hdg : decode cc pc = .ok (.multianewarray x 2, 4)) (hH : ro_H g M H) (hS : va_S (ro_A g) H0 H locs)
    (kk : ∀ (H1 : Heap) (locs1 : List Loc), ro_H g (ro_grid M n.toNatClampNeg k.toNatClampNeg) H1 → va_S (ro_A g) H0 H1 locs1 → ro_ad g (M.1.length + 4) = H.size → W p l e R s m args below meth c H1 locs1 (cells + (1 + n.toNatClampNeg)) (slots + (n.toNatClampNeg + n.toNatClampNeg * k.toNatClampNeg)) Q (F0 m (pc + 4) ls (.ref H.size :: rest))) : W p l e R s m args below meth c H locs cells slots Q (F0 m pc ls (.int k :: .int n :: rest)) := by
  intro T hT X
  obtain ⟨vm₁, cA, comp, hW₁, fA, fC, X', step⟩ := X.multianewarray2 (ty := .int) hx hown (hts _ (hG _ (ro_linkM hlk))) (show (Cond.arrayOver (.array .int)).before args s = true from hN.2.2.1) (hts _ (hG _ (ro_at_mem ro_ac0))) (g := F0 m pc ls (.int k :: .int n :: rest)) rfl (by rw [hb]; exact hdg) rfl hn hk (by omega) (by show k.toNatClampNeg * 4 ≤ _; omega) (by omega) rfl rfl hcells hslots
  have ec : some comp = some (g.2.1 0) := fC.symm.trans (hK.2 0 _ rfl).2
  cases ec
  have ea : some cA = some (g.2.1 2) := fA.symm.trans (hK.2 2 _ rfl).2
  cases ea
  have hTh : (T.setVm vm₁).heap = H := hT
  have had : ro_ad g (M.1.length + 4) = H.size := by rw [ro_ad4 g (by omega), hH.2]; omega
  generalize hF : Jvm.Free.Multi.fill (T.setVm vm₁) (g.2.1 2) (g.2.1 0) n.toNatClampNeg k.toNatClampNeg (defaultValue .int) n.toNatClampNeg = F at X' step
  obtain ⟨f1, f2, -, -⟩ := Jvm.Free.Multi.fill_facts (T.setVm vm₁) (g.2.1 2) (g.2.1 0) n.toNatClampNeg k.toNatClampNeg (defaultValue .int) n.toNatClampNeg
  rw [hF, hTh] at f1 f2
  have hold : ∀ x : Nat, x < H.size → F.heap[x]? = H[x]? := fun x hx => by
    have := Jvm.Free.Multi.fill_old (T.setVm vm₁) (g.2.1 2) (g.2.1 0) n.toNatClampNeg k.toNatClampNeg (defaultValue .int) (a := x) (by rw [hTh]; exact hx) n.toNatClampNeg
    rw [hF, hTh] at this
    exact this
  have hrow : ∀ j : Nat, j < n.toNatClampNeg → F.heap[H.size + 1 + j]? = some (arrV (g.2.1 0) k.toNatClampNeg (fun _ => .int 0)) := fun j hj => by
    have := Jvm.Free.Multi.fill_inner (T.setVm vm₁) (g.2.1 2) (g.2.1 0) n.toNatClampNeg k.toNatClampNeg (defaultValue .int) n.toNatClampNeg j hj
    rw [hF, hTh] at this
    rw [this]
    unfold Jvm.Free.Multi.innerC
    rw [arrV_new]
    rfl
  rw [ro_outer] at f2
  have hws : va_P g.1 ro_cl (ro_ws g (ro_grid M n.toNatClampNeg k.toNatClampNeg)) F.heap := by
    intro i q hq
    have hi : i < M.1.length + 1 + n.toNatClampNeg := by
      have := (List.getElem?_eq_some_iff.mp hq).1
      rwa [ro_ws_len, ro_grid_len] at this
    have h2 := ro_ws_get g (M := ro_grid M n.toNatClampNeg k.toNatClampNeg) (c := i + 4) (by omega) (by rw [ro_grid_len]; omega)
    rw [Nat.add_sub_cancel, hq] at h2
    cases h2
    have hkd := ro_grid_kd M n.toNatClampNeg k.toNatClampNeg i
    rcases Nat.lt_trichotomy i M.1.length with h | h | h
    · rw [if_pos h] at hkd
      have e1 : ro_ent g (ro_grid M n.toNatClampNeg k.toNatClampNeg) (i + 4) = ro_ent g M (i + 4) := ro_ent_eq hkd
        (funext fun b => by show (if M.1.length + 4 ≤ i + 4 then _ else _) = _; rw [if_neg (by omega)]) rfl
        (funext fun b => by show (if i + 4 = M.1.length + 4 then _ else _) = _; rw [if_neg (by omega)])
      rw [e1]
      have h3 := ro_ws_get g (M := M) (c := i + 4) (by omega) (by omega)
      rw [Nat.add_sub_cancel] at h3
      have h4 := hH.1 i _ h3
      exact h4.kept (hold _ h4.lt)
    · subst h
      rw [if_neg (Nat.lt_irrefl _), if_pos rfl] at hkd
      rw [ro_ent20 (by rw [hkd]), hkd, had]
      show F.heap[H.size]? = some (vp_cell _ _)
      rw [f2, vp_cell_q]
      congr 2
      funext j
      show va_rf _ = va_rf (ro_ro g (if M.1.length + 4 = M.1.length + 4 then _ else _))
      rw [if_pos rfl]
      by_cases hj : j < n.toNatClampNeg
      · rw [if_pos hj, if_pos hj]
        show va_rf (some _) = va_rf (some (ro_ad g _))
        rw [ro_ad4 g (by omega), hH.2]
        congr 2
        omega
      · rw [if_neg hj, if_neg hj]
        rfl
    · rw [if_neg (by omega), if_neg (by omega), if_pos hi] at hkd
      rw [ro_ent16 (by rw [hkd]), hkd]
      obtain ⟨j, rfl⟩ : ∃ j, i = M.1.length + 1 + j := ⟨i - M.1.length - 1, by omega⟩
      have e2 : ro_ad g (M.1.length + 1 + j + 4) = H.size + 1 + j := by rw [ro_ad4 g (by omega), hH.2]; omega
      rw [e2]
      show F.heap[H.size + 1 + j]? = some (vp_cell _ _)
      rw [hrow j (by omega), vp_cell_i]
      congr 2
      funext b
      show _ = Value.int (if M.1.length + 4 ≤ _ then _ else _)
      rw [if_pos (by omega)]
  have hHn : ro_H g (ro_grid M n.toNatClampNeg k.toNatClampNeg) F.heap := ⟨hws, by rw [f1, ro_grid_len, hH.2]; omega⟩
  have hSn : va_S (ro_A g) H0 F.heap (locs ++ (List.range n.toNatClampNeg).map fun j => ⟨T.heap.size, j⟩) := by
    refine ⟨by rw [f1]; have := hS.1; omega, fun x h1 h2 => (hold x (Nat.lt_of_lt_of_le h1 hS.1)).trans (hS.2.1 x h1 h2), fun q hq => ?_⟩
    rcases List.mem_append.mp hq with h | h
    · exact hS.2.2 q h
    · obtain ⟨j, -, rfl⟩ := List.mem_map.mp h
      show g.2.2.2.1 ≤ T.heap.size
      rw [hT, hH.2]
      omega
  rw [show cells + 1 + n.toNatClampNeg = cells + (1 + n.toNatClampNeg) by omega, show slots + n.toNatClampNeg + n.toNatClampNeg * k.toNatClampNeg = slots + (n.toNatClampNeg + n.toNatClampNeg * k.toNatClampNeg) by omega] at X'
  obtain ⟨t, a1, b1⟩ := kk F.heap _ hHn hSn had F rfl X'
  refine ⟨t, step t ?_, b1⟩
  have e : T.heap.size = H.size := by rw [hT]
  rw [e]
  exact a1
end ROG
