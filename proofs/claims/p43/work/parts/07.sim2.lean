/-! rows of the machine for the small machine's memory, continued -/
theorem ro_goE {pc : Nat} {off : Int} {f : Nat → Prop} (h : ro_go pc off f) : (pc : Int) + off = ((((pc : Int) + off).toNat : Nat) : Int) := (Int.toNat_of_nonneg h.1).symm
theorem ro_ki_inv {own x : Nat} {f : Int32 → Prop} (h : ro_ki own x f) : ∃ v, Cond.constant (ro_Rn own) x v ∈ ro_G ∧ f v := by
  unfold ro_ki at h
  split at h
  · rename_i e he
    obtain ⟨h1, h2⟩ := ro_find ro_chkKI_ok he
    simp only [Bool.and_eq_true, beq_iff_eq] at h1
    obtain ⟨rfl, rfl⟩ := h1
    exact ⟨_, ro_at_mem h2, h⟩
  · exact h.elim
theorem ro_kj_inv {own x : Nat} {f : Int64 → Prop} (h : ro_kj own x f) : ∃ v, Cond.constantLong (ro_Rn own) x v ∈ ro_G ∧ f v := by
  unfold ro_kj at h
  split at h
  · rename_i e he
    obtain ⟨h1, h2⟩ := ro_find ro_chkKJ_ok he
    simp only [Bool.and_eq_true, beq_iff_eq] at h1
    obtain ⟨rfl, rfl⟩ := h1
    exact ⟨_, ro_at_mem h2, h⟩
  · exact h.elim
theorem ro_kx_inv {own x : Nat} {f : UInt64 → Prop} (h : ro_kx own x f) : ∃ v, Cond.constantDouble (ro_Rn own) x v ∈ ro_G ∧ f v := by
  unfold ro_kx at h
  split at h
  · rename_i e he
    obtain ⟨h1, h2⟩ := ro_find ro_chkKX_ok he
    simp only [Bool.and_eq_true, beq_iff_eq] at h1
    obtain ⟨rfl, rfl⟩ := h1
    exact ⟨_, ro_at_mem h2, h⟩
  · exact h.elim
theorem ro_linkS {own x a b : Nat} (h : ro_okL own (.getstatic x) a b = true) : 1 ≤ a ∧ a < 3 ∧ Cond.fieldLink (ro_Rn own) x (ro_Sn.getD a ("", "")).1 (ro_Sn.getD a ("", "")).2 "[I" ∈ ro_G := by
  simp only [ro_okL] at h
  obtain ⟨e, -, hp, hq⟩ := ro_any ro_chkS_ok h
  simp only [Bool.and_eq_true, beq_iff_eq] at hp
  obtain ⟨⟨rfl, rfl⟩, rfl⟩ := hp
  unfold ro_chkS at hq
  split at hq
  · rename_i q hq0
    simp only [Bool.and_eq_true, decide_eq_true_eq] at hq
    refine ⟨hq.2, (List.getElem?_eq_some_iff.mp hq0).1, ?_⟩
    rw [List.getD_eq_getElem?_getD, hq0]
    exact ro_at_mem hq.1
  · cases hq
theorem ro_linkC {own x a b : Nat} (h : ro_okL own (.new x) a b = true) : ∃ q, ro_cl[a]? = some q ∧ Cond.classLink (ro_Rn own) x q.1 ∈ ro_G := by
  simp only [ro_okL] at h
  obtain ⟨e, -, hp, hq⟩ := ro_any ro_chkC_ok h
  simp only [Bool.and_eq_true, beq_iff_eq] at hp
  obtain ⟨⟨rfl, rfl⟩, rfl⟩ := hp
  simp only [Bool.and_eq_true, decide_eq_true_eq] at hq
  have hl : e.2.2.1 < ro_cl.length := by rw [ro_len_cl]; exact hq.2
  have h1 : ro_cl[e.2.2.1]? = some ro_cl[e.2.2.1] := List.getElem?_eq_getElem hl
  refine ⟨_, h1, ?_⟩
  rw [← (ro_clT h1).2.2.2]
  exact ro_at_mem hq.1
/-- M2 is M but at one place -/
def ro_sb (M M2 : ro_Mm) (c j : Nat) : Prop := M2.1 = M.1 ∧ ∀ a b, ¬ (a = c ∧ b = j) → M2.2.1 a b = M.2.1 a b ∧ M2.2.2.1 a b = M.2.2.1 a b ∧ M2.2.2.2 a b = M.2.2.2 a b
theorem ro_sbI {M : ro_Mm} {c j : Nat} {v : Int32} : ro_sb M (ro_sI M c j v) c j := ⟨rfl, fun a b h => ⟨by simp only [ro_sI, ro_up2]; rw [if_neg h], rfl, rfl⟩⟩
theorem ro_sbJ {M : ro_Mm} {c j : Nat} {v : Int64} : ro_sb M (ro_sJ M c j v) c j := ⟨rfl, fun a b h => ⟨rfl, by simp only [ro_sJ, ro_up2]; rw [if_neg h], rfl⟩⟩
theorem ro_sbR {M : ro_Mm} {c j : Nat} {v : Value} : ro_sb M (ro_sR M c j v) c j := ⟨rfl, fun a b h => ⟨rfl, rfl, by simp only [ro_sR, ro_up2]; rw [if_neg h]⟩⟩
theorem ro_kd_eq {M M2 : ro_Mm} (h : M2.1 = M.1) (c : Nat) : ro_kd M2 c = ro_kd M c := by unfold ro_kd; rw [h]
theorem ro_sb_ent {g : ro_Gd} {M M2 : ro_Mm} {c j : Nat} (h : ro_sb M M2 c j) : ∀ c', c' ≠ c → ro_ent g M2 c' = ro_ent g M c' := fun c' hc =>
  ro_ent_eq (ro_kd_eq h.1 c') (funext fun b => (h.2 c' b (fun q => hc q.1)).1) (funext fun b => (h.2 c' b (fun q => hc q.1)).2.1) (funext fun b => (h.2 c' b (fun q => hc q.1)).2.2)
theorem ro_sb_gf {M M2 : ro_Mm} {c j : Nat} (h : ro_sb M M2 c j) {t : FieldType} {k : Nat} (hk : k ≠ j) : ro_gf M2 t c k = ro_gf M t c k := by
  obtain ⟨h1, h2, h3⟩ := h.2 c k (fun q => hk q.2)
  unfold ro_gf
  cases t <;> simp only [h1, h2, h3]
theorem ro_pf_inv {g : ro_Gd} {M : ro_Mm} {t : FieldType} {c j : Nat} {v : Value} {f : ro_Mm → Prop} (h : ro_pf M t c j v f) : ∃ M2, ro_sb M M2 c j ∧ narrow t (ro_tv g v) = ro_tv g v ∧ fits t (ro_tv g v) = true ∧ ro_tv g (ro_gf M2 t c j) = ro_tv g v ∧ f M2 := by
  unfold ro_pf at h
  split at h
  · exact ⟨_, ro_sbJ, rfl, rfl, congrArg Value.long ro_up2_eq, h⟩
  · exact ⟨_, ro_sbI, rfl, rfl, congrArg Value.int ro_up2_eq, h⟩
  · refine ⟨_, ro_sbI, ?_, ?_, congrArg Value.int ro_up2_eq, h.2⟩
    · rcases h.1 with rfl | rfl <;> rfl
    · rcases h.1 with rfl | rfl <;> rfl
  · exact ⟨_, ro_sbR, rfl, rfl, congrArg (ro_tv g) ro_up2_eq, h⟩
  · exact ⟨_, ro_sbR, rfl, rfl, congrArg (ro_tv g) ro_up2_eq, h⟩
  · exact h.elim
def ro_tyB (t : FieldType) : Bool := match t with
  | .float => false
  | .double => false
  | _ => true
theorem ro_tyk : ∀ k, k < 12 → ∀ j, j < ro_nf k → ro_tyB (ro_ty k j) = true := by decide +kernel
section ROR
variable {p : Program} {l : Launch} {e : Env} {R : Room} {s : State} {m : MethodId} {args : Array Value} {below : List Frame} {meth : Method} {c : Code} {H : Heap} {locs : List Loc} {cells slots : Nat} {Q : State → Prop}
variable {cc : ByteArray} {pc : Nat} {ls : Array Slot} {rest : List Value} {H0 : Heap} {g : ro_Gd} {M : ro_Mm} {Ts : List Cond} {c0 : Nat}
set_option maxHeartbeats 4000000 in
theorem ro_putW (hx : p.tables.exec = Jvm.exec) (hb : c.code = cc) {own : Nat} (hown : s.vm.findClass (ro_Rn own) = some m.cls) (hts : ∀ w ∈ Ts, w.before args s = true) (hG : ∀ w ∈ ro_G, w ∈ Ts) (hK : va_K g.1 ro_cl (ro_tys g) s) {ini : Bool} (hin : ini = true → meth.name = "<init>") {a b x : Nat} {q : vw_C} (hq : ro_cl[a]? = some q) (hb2 : b < q.2.2)
    (hlink : Cond.fieldLink (ro_Rn own) x q.1 (q.2.1 b).2.1 (q.2.1 b).2.2.1 ∈ ro_G) (hdecl : (q.2.1 b).1 = q.1) (h4 : 4 ≤ c0) (hk0 : (ro_kd M c0).1 = a) (hfi : (q.2.1 b).2.2.2 = true → ini = true ∧ own = a) {M2 : ro_Mm} {v : Value} (h1 : ro_sb M M2 c0 b) (h2 : narrow (ro_ty a b) (ro_tv g v) = ro_tv g v) (h3 : fits (ro_ty a b) (ro_tv g v) = true) (h5 : ro_tv g (ro_gf M2 (ro_ty a b) c0 b) = ro_tv g v)
    (hdg : decode cc pc = .ok (.putfield x, 3)) (hH : ro_H g M H) (hS : va_S (ro_A g) H0 H locs) (kk : ∀ (H1 : Heap) (locs1 : List Loc), ro_H g M2 H1 → va_S (ro_A g) H0 H1 locs1 → W p l e R s m args below meth c H1 locs1 cells slots Q (F0 m (pc + 3) ls rest)) : W p l e R s m args below meth c H locs cells slots Q (F0 m pc ls (ro_tv g v :: .ref (ro_ad g c0) :: rest)) := by
  have hn := ro_clN hq
  have hlt := ro_kd_lt hk0 (by have := hn.2.1; omega)
  have he : (ro_ws g M)[c0 - 4]? = some (ro_ad g c0, .inr (a, ro_fvs g M a c0)) := by rw [ro_ws_get g h4 hlt, ro_ent_obj hk0 hn.2.1]
  have hin' : ∀ w ∈ u_ws q.1 q.2.1 q.2.2, w ∈ Ts := fun w hw => hG w ((ro_clT hq).1 w hw)
  have hap := va_apart (own := ro_Rn own) hts hin' (ro_ty a) hn.2.2.1 hn.2.2.2 hK hq
  have hl : b < (ro_fvs g M a c0).length := by unfold ro_fvs; rw [List.length_map, List.length_range, hn.1]; exact hb2
  obtain ⟨r, hr1, cell, q1, q2, q3, q4⟩ := hH.1 (c0 - 4) _ he
  have hr : r = q := Option.some.inj (hr1.symm.trans hq)
  subst hr
  obtain ⟨hSl, hfc, kC, hkC, hkind⟩ := hK.1 a _ hq
  obtain ⟨cf, kf, fi, f, hi, hsl⟩ := hSl b hb2
  have hst := (u_facts hfc hkC (u_lays hts hin' hb2) hi).1
  have hsame : ∀ x, s.fieldFound? (r.2.1 b).1 (r.2.1 b).2.1 (r.2.1 b).2.2.1 = some x → s.fieldFound? r.1 (r.2.1 b).2.1 (r.2.1 b).2.2.1 = some x := fun x hx => by rw [hdecl] at hx; exact hx
  have fin : ∀ H' : Heap, H'[ro_ad g c0]? = some (cell.setSlot f.slot (ro_tv g v)) → H'.size = H.size → (∀ q : Nat, q ≠ ro_ad g c0 → H'[q]? = H[q]?) → W p l e R s m args below meth c H' (locs ++ [⟨ro_ad g c0, f.slot⟩]) cells slots Q (F0 m (pc + 3) ls rest) := by
    intro H' e1 e2 e3
    have e4 : va_at g.1 ro_cl (ro_ad g c0, ro_ent g M2 c0) H' := by
      rw [ro_ent_obj (by rw [ro_kd_eq h1.1]; exact hk0) hn.2.1, ← ro_fvs_set (M := M) h5 (fun k hk => ro_sb_gf h1 hk)]
      rw [hsl] at e1
      exact ⟨_, hq, t_OB.to (V := updV (vp_V (ro_fvs g M a c0)) b (ro_tv g v)) ⟨_, e1, q2, q3, t_set q4 hap hb2 (ro_tv g v)⟩ (fun j _ => vp_updV_set hl (ro_tv g v) j)⟩
    obtain ⟨g1, g2⟩ := ro_store (j := f.slot) hH hS h4 hlt h1.1 e4 (ro_sb_ent h1) e2 e3
    exact kk H' _ g1 g2
  have hsl2 : f.slot < cell.slots.size := by rw [hsl]; exact k2_hasslot (q4 b hb2)
  cases hfin : (r.2.1 b).2.2.2 with
  | false =>
    have hlay := hts _ (hin' _ (u_in_lay hb2))
    unfold u_lay at hlay
    rw [if_neg (by rw [hfin]; decide)] at hlay
    have h6 := u_store hfc hkC hkind hlay hi (hn.2.2.1 b hb2) h2 h3
    exact W.putK hx hb (f := f) ⟨hown, hts _ (hG _ hlink), ⟨_, _, _, hsame _ hi⟩, hst⟩ (by rw [q2]; exact h6) q1 q3 hsl2 rfl rfl hdg fin
  | true =>
    obtain ⟨i1, i2⟩ := hfi hfin
    have hlay := hts _ (hin' _ (u_in_lay hb2))
    unfold u_lay at hlay
    rw [if_pos hfin] at hlay
    have hcf : m.cls = cf := by
      obtain ⟨_, _, c', _, _, _, -, -, hf', -, -, -, hown2, -⟩ := Cond.laysFinal_spec hlay
      have e1 : c' = cf := by have := hi.symm.trans hf'; simp at this; exact this.1.symm
      rw [hdecl, ← (ro_clT hq).2.2.2, ← i2] at hown2
      rw [← e1]; exact Option.some.inj (hown.symm.trans hown2)
    have h6 := u_fits hfc hkC hkind (Or.inr hlay) hi (hn.2.2.1 b hb2) h2 h3
    exact W.putFinK hx hb hown (hts _ (hG _ hlink)) (hsame _ hi) hst hcf (hin i1) (by rw [q2]; exact h6) q1 q3 hsl2 rfl rfl hdg fin
theorem ro_aldq2 (hx : p.tables.exec = Jvm.exec) (hb : c.code = cc) (hK : va_K g.1 ro_cl (ro_tys g) s) {ws : va_W} (hP : va_P g.1 ro_cl ws H) (q0 : Nat) {a : Nat} {n : Nat} {f : Nat → Option Nat} (ha : ws[q0]? = some (a, .inl (g.2.1 2, n, .inr (.inr (.inr (.inr f)))))) {i : Int32} (hin : vp_in i n) (hdg : decode cc pc = .ok (.aaload, 1))
    (kk : W p l e R s m args below meth c H locs cells slots Q (F0 m (pc + 1) ls (va_rf (f i.toNatClampNeg) :: rest))) : W p l e R s m args below meth c H locs cells slots Q (F0 m pc ls (.int i :: .ref a :: rest)) := by
  have hlt : i.toNatClampNeg < n := Nat.not_le.mp fun q => hin (Or.inr q)
  exact W.aald (v := va_rf (f i.toNatClampNeg)) (ty := .array .int) hx hb (hP q0 _ ha) ((hK.2 2 _ rfl).1 n (fun j => va_rf (f j))) rfl (fun q => by cases q) (by show ¬ (i < 0 ∨ (arrV _ _ _).slots.size ≤ _); rw [arrV_size]; exact hin) (by show (arrV _ _ _).slots[_]? = _; rw [arrV_read _ _ hlt]) rfl rfl hdg kk
theorem ro_iastoreW (hx : p.tables.exec = Jvm.exec) (hb : c.code = cc) (hK : va_K g.1 ro_cl (ro_tys g) s) (h4 : 4 ≤ c0) (hk0 : (ro_kd M c0).1 = 16) {i x : Int32} (hv : vp_in i (ro_kd M c0).2) (hdg : decode cc pc = .ok (.iastore, 1)) (hH : ro_H g M H) (hS : va_S (ro_A g) H0 H locs)
    (kk : ∀ (H1 : Heap) (locs1 : List Loc), ro_H g (ro_sI M c0 i.toNatClampNeg x) H1 → va_S (ro_A g) H0 H1 locs1 → W p l e R s m args below meth c H1 locs1 cells slots Q (F0 m (pc + 1) ls rest)) : W p l e R s m args below meth c H locs cells slots Q (F0 m pc ls (.int x :: .int i :: .ref (ro_ad g c0) :: rest)) := by
  have hlt := ro_kd_lt hk0 (by decide)
  have he : (ro_ws g M)[c0 - 4]? = some (ro_ad g c0, .inl (g.2.1 0, (ro_kd M c0).2, .inl (M.2.1 c0))) := by rw [ro_ws_get g h4 hlt, ro_ent16 hk0]
  refine W.iast hx hb (hH.1 _ _ he) ((hK.2 0 _ rfl).1 (ro_kd M c0).2 (fun j => .int (M.2.1 c0 j))) (fun q => by cases q) (by show ¬ (i < 0 ∨ (arrV _ _ _).slots.size ≤ _); rw [arrV_size]; exact hv) rfl rfl hdg fun H1 e1 z oq => ?_
  have e4 : va_at g.1 ro_cl (ro_ad g c0, ro_ent g (ro_sI M c0 i.toNatClampNeg x) c0) H1 := by
    rw [ro_ent16 (by rw [ro_kd_eq rfl]; exact hk0)]
    show H1[ro_ad g c0]? = some (vp_cell _ _)
    rw [e1, vp_cell_i, vp_cell_i, arrV_store]
    congr 2
    funext q
    show updV _ _ _ q = Value.int (ro_up2 M.2.1 c0 _ x c0 q)
    rw [ro_up2_i]
    by_cases hq : q = i.toNatClampNeg
    · subst hq
      simp [updV, upd]
    · simp [updV, upd, hq]
  obtain ⟨g1, g2⟩ := ro_store (M' := ro_sI M c0 i.toNatClampNeg x) (j := i.toNatClampNeg) hH hS h4 hlt rfl e4 (ro_sb_ent ro_sbI) z oq
  exact kk H1 _ g1 g2
theorem ro_lastoreW (hx : p.tables.exec = Jvm.exec) (hb : c.code = cc) (hK : va_K g.1 ro_cl (ro_tys g) s) (h4 : 4 ≤ c0) (hk0 : (ro_kd M c0).1 = 17) {i : Int32} {x : Int64} (hv : vp_in i (ro_kd M c0).2) (hdg : decode cc pc = .ok (.lastore, 1)) (hH : ro_H g M H) (hS : va_S (ro_A g) H0 H locs)
    (kk : ∀ (H1 : Heap) (locs1 : List Loc), ro_H g (ro_sJ M c0 i.toNatClampNeg x) H1 → va_S (ro_A g) H0 H1 locs1 → W p l e R s m args below meth c H1 locs1 cells slots Q (F0 m (pc + 1) ls rest)) : W p l e R s m args below meth c H locs cells slots Q (F0 m pc ls (.long x :: .int i :: .ref (ro_ad g c0) :: rest)) := by
  have hlt := ro_kd_lt hk0 (by decide)
  have he : (ro_ws g M)[c0 - 4]? = some (ro_ad g c0, .inl (g.2.1 1, (ro_kd M c0).2, .inr (.inl (M.2.2.1 c0)))) := by rw [ro_ws_get g h4 hlt, ro_ent17 hk0]
  refine W.last hx hb (hH.1 _ _ he) ((hK.2 1 _ rfl).1 (ro_kd M c0).2 (fun j => .long (M.2.2.1 c0 j))) (fun q => by cases q) (by show ¬ (i < 0 ∨ (arrV _ _ _).slots.size ≤ _); rw [arrV_size]; exact hv) rfl rfl hdg fun H1 e1 z oq => ?_
  have e4 : va_at g.1 ro_cl (ro_ad g c0, ro_ent g (ro_sJ M c0 i.toNatClampNeg x) c0) H1 := by
    rw [ro_ent17 (by rw [ro_kd_eq rfl]; exact hk0)]
    show H1[ro_ad g c0]? = some (vp_cell _ _)
    rw [e1, vp_cell_l, vp_cell_l, arrV_store]
    congr 2
    funext q
    show updV _ _ _ q = Value.long (ro_up2 M.2.2.1 c0 _ x c0 q)
    rw [ro_up2_l]
    by_cases hq : q = i.toNatClampNeg
    · subst hq
      simp [updV, vp_updL]
    · simp [updV, vp_updL, hq]
  obtain ⟨g1, g2⟩ := ro_store (M' := ro_sJ M c0 i.toNatClampNeg x) (j := i.toNatClampNeg) hH hS h4 hlt rfl e4 (ro_sb_ent ro_sbJ) z oq
  exact kk H1 _ g1 g2
theorem ro_aastoreW (hx : p.tables.exec = Jvm.exec) (hb : c.code = cc) (hK : va_K g.1 ro_cl (ro_tys g) s) {x0 : Nat} (h4x : 4 ≤ x0) (hkx : (ro_kd M x0).1 = 9) (h4 : 4 ≤ c0) (hk0 : (ro_kd M c0).1 = 21) {i : Int32} (hv : vp_in i (ro_kd M c0).2) (hdg : decode cc pc = .ok (.aastore, 1)) (hH : ro_H g M H) (hS : va_S (ro_A g) H0 H locs)
    (kk : ∀ (H1 : Heap) (locs1 : List Loc), ro_H g (ro_sR M c0 i.toNatClampNeg (.ref x0)) H1 → va_S (ro_A g) H0 H1 locs1 → W p l e R s m args below meth c H1 locs1 cells slots Q (F0 m (pc + 1) ls rest)) : W p l e R s m args below meth c H locs cells slots Q (F0 m pc ls (.ref (ro_ad g x0) :: .int i :: .ref (ro_ad g c0) :: rest)) := by
  have hlt := ro_kd_lt hk0 (by decide)
  have hltx := ro_kd_lt hkx (by decide)
  have he : (ro_ws g M)[c0 - 4]? = some (ro_ad g c0, .inl (g.2.1 3, (ro_kd M c0).2, .inr (.inr (.inr (.inr (fun j => ro_ro g (M.2.2.2 c0 j))))))) := by rw [ro_ws_get g h4 hlt, ro_ent21 hk0]
  have hex : (ro_ws g M)[x0 - 4]? = some (ro_ad g x0, .inr (9, ro_fvs g M 9 x0)) := by rw [ro_ws_get g h4x hltx, ro_ent_obj hkx (by decide)]
  have hl2 : i.toNatClampNeg < (ro_kd M c0).2 := Nat.not_le.mp fun q => hv (Or.inr q)
  have h0 : ¬ i < 0 := fun q => hv (Or.inl q)
  have hc : ro_cl[9]? = some ("RefusedOnce$Shelf", ro_T9, 4) := rfl
  obtain ⟨r', hr', cellV, g1, g2, g3, -⟩ := hH.1 _ _ hex
  have hcls := (hK.1 9 _ hc).2
  obtain ⟨kA, comp, k1, k2, k3, -⟩ := (hK.2 3 _ rfl).2
  have hcomp : comp = g.1.1 9 := Option.some.inj (k3.symm.trans hcls.1)
  subst hcomp
  obtain ⟨kC, hkC, -⟩ := hcls.2
  refine W.aast hx hb (hH.1 _ _ he) (fun q h => by cases h) (fun h => by cases h) k1 k2 rfl hkC ⟨h0, by show _ < (arrV _ _ _).slots.size; rw [arrV_size]; exact hl2⟩ g1 (fun q h => by rw [g3] at h; cases h) (by rw [g2]; exact hkC) (by rw [g2]; exact va_assign hcls) rfl rfl hdg fun H1 e1 z oq => ?_
  have e4 : va_at g.1 ro_cl (ro_ad g c0, ro_ent g (ro_sR M c0 i.toNatClampNeg (.ref x0)) c0) H1 := by
    rw [ro_ent21 (by rw [ro_kd_eq rfl]; exact hk0)]
    show H1[ro_ad g c0]? = some (vp_cell _ _)
    rw [e1, vp_cell_q, vp_cell_q, arrV_store]
    congr 2
    funext q
    show updV _ _ _ q = va_rf (ro_ro g (ro_up2 M.2.2.2 c0 _ (.ref x0) c0 q))
    by_cases hq : q = i.toNatClampNeg
    · subst hq
      rw [ro_up2_eq]
      simp [updV, va_rf, ro_ro]
    · rw [ro_up2_nj hq]
      simp [updV, hq]
  obtain ⟨f1, f2⟩ := ro_store (M' := ro_sR M c0 i.toNatClampNeg (.ref x0)) (j := i.toNatClampNeg) hH hS h4 hlt rfl e4 (ro_sb_ent ro_sbR) z oq
  exact kk H1 _ f1 f2
theorem ro_alenW (hx : p.tables.exec = Jvm.exec) (hb : c.code = cc) (hK : va_K g.1 ro_cl (ro_tys g) s) (h4 : 4 ≤ c0) (a1 : 16 ≤ (ro_kd M c0).1) (a2 : (ro_kd M c0).1 ≤ 21) (a3 : (ro_kd M c0).1 ≠ 18 ∧ (ro_kd M c0).1 ≠ 19) (hdg : decode cc pc = .ok (.arraylength, 1)) (hH : ro_H g M H)
    (kk : W p l e R s m args below meth c H locs cells slots Q (F0 m (pc + 1) ls (.int (Int32.ofNat (ro_kd M c0).2) :: rest))) : W p l e R s m args below meth c H locs cells slots Q (F0 m pc ls (.ref (ro_ad g c0) :: rest)) := by
  have hlt : c0 - 4 < M.1.length := ro_kd_lt rfl (by omega)
  have hw := ro_ws_get g h4 hlt
  have hc : (ro_kd M c0).1 = 16 ∨ (ro_kd M c0).1 = 17 ∨ (ro_kd M c0).1 = 20 ∨ (ro_kd M c0).1 = 21 := by omega
  rcases hc with k | k | k | k
  · rw [ro_ent16 k] at hw
    exact va_alen hx hb hK hH.1 _ 0 hw rfl rfl hdg kk
  · rw [ro_ent17 k] at hw
    exact va_alen hx hb hK hH.1 _ 1 hw rfl rfl hdg kk
  · rw [ro_ent20 k] at hw
    exact va_alen hx hb hK hH.1 _ 2 hw rfl rfl hdg kk
  · rw [ro_ent21 k] at hw
    exact va_alen hx hb hK hH.1 _ 3 hw rfl rfl hdg kk
theorem ro_newW (hx : p.tables.exec = Jvm.exec) (hb : c.code = cc) {own : Nat} (hown : s.vm.findClass (ro_Rn own) = some m.cls) (hts : ∀ w ∈ Ts, w.before args s = true) (hG : ∀ w ∈ ro_G, w ∈ Ts) (hK : va_K g.1 ro_cl (ro_tys g) s) {a x : Nat} {q : vw_C} (hq : ro_cl[a]? = some q) (hlink : Cond.classLink (ro_Rn own) x q.1 ∈ ro_G)
    (hcells : cells + 1 ≤ R.cells) (hslots : slots + ro_nf a ≤ R.slots) (hdg : decode cc pc = .ok (.new x, 3)) (hH : ro_H g M H) (hS : va_S (ro_A g) H0 H locs)
    (kk : ∀ H1 : Heap, ro_H g (ro_new M (a, ro_nf a)) H1 → va_S (ro_A g) H0 H1 locs → ro_ad g (M.1.length + 4) = H.size → W p l e R s m args below meth c H1 locs (cells + 1) (slots + ro_nf a) Q (F0 m (pc + 3) ls (.ref H.size :: rest))) : W p l e R s m args below meth c H locs cells slots Q (F0 m pc ls rest) := by
  have hn := ro_clN hq
  have hin' : ∀ w ∈ u_ws q.1 q.2.1 q.2.2, w ∈ Ts := fun w hw => hG w ((ro_clT hq).1 w hw)
  have hKn := hK.1 a _ hq
  rw [hn.1] at hslots
  refine W.newcK hx hb hown (hts _ (hG _ hlink)) (hts _ (hG _ (ro_clT hq).2.1)) (hts _ (hG _ (ro_clT hq).2.2.1)) rfl hdg hcells hslots hKn.2.1 rfl fun H1 kC hkC e1 z1 o1 => ?_
  have e4 : va_at g.1 ro_cl (H.size, ro_ent g (ro_new M (a, ro_nf a)) (M.1.length + 4)) H1 := by
    rw [ro_ent_obj (a := a) (by rw [ro_kd_last]) hn.2.1]
    refine ⟨_, hq, (u_born (ro_ty a) hts hin' hKn hkC e1 hn.2.2.1).to (fun j hj => ?_)⟩
    unfold vp_V
    rw [List.getD_eq_getElem?_getD, ro_fvs_get (by rw [hn.1]; exact hj)]
    show defaultValue (ro_ty a j) = ro_tv g (ro_gf _ (ro_ty a j) _ j)
    have i1 : (ro_new M (a, ro_nf a)).2.1 (M.1.length + 4) j = 0 := by show ro_row M.2.1 (M.1.length + 4) (fun _ => 0) (M.1.length + 4) j = _; rw [ro_row_eq]
    have i2 : (ro_new M (a, ro_nf a)).2.2.1 (M.1.length + 4) j = 0 := by show ro_row M.2.2.1 (M.1.length + 4) (fun _ => 0) (M.1.length + 4) j = _; rw [ro_row_eq]
    have i3 : (ro_new M (a, ro_nf a)).2.2.2 (M.1.length + 4) j = .null := by show ro_row M.2.2.2 (M.1.length + 4) (fun _ => .null) (M.1.length + 4) j = _; rw [ro_row_eq]
    have ht := ro_tyk a hn.2.1 j (by rw [hn.1]; exact hj)
    generalize ro_ty a j = t at ht ⊢
    cases t <;> first | (unfold ro_gf; simp only [i1, i2, i3]; rfl) | cases ht
  obtain ⟨f1, f2, f3⟩ := ro_made hH hS e4 z1 o1
  have := kk H1 f1 f2 f3
  rw [hn.1] at this
  exact this
theorem ro_newaW (hx : p.tables.exec = Jvm.exec) (hb : c.code = cc) (hts : ∀ w ∈ Ts, w.before args s = true) (hG : ∀ w ∈ ro_G, w ∈ Ts) (hK : va_K g.1 ro_cl (ro_tys g) s) {t : ArrayType} {n : Int32} (hz : ¬ n < 0) (hz2 : n.toNatClampNeg ≤ 60000) (hk9 : ro_ak t < 99)
    (hcells : cells + 1 ≤ R.cells) (hslots : slots + n.toNatClampNeg ≤ R.slots) (hdg : decode cc pc = .ok (.newarray t, 2)) (hH : ro_H g M H) (hS : va_S (ro_A g) H0 H locs)
    (kk : ∀ H1 : Heap, ro_H g (ro_new M (ro_ak t, n.toNatClampNeg)) H1 → va_S (ro_A g) H0 H1 locs → ro_ad g (M.1.length + 4) = H.size → W p l e R s m args below meth c H1 locs (cells + 1) (slots + n.toNatClampNeg) Q (F0 m (pc + 2) ls (.ref H.size :: rest))) : W p l e R s m args below meth c H locs cells slots Q (F0 m pc ls (.int n :: rest)) := by
  have go : ∀ (harr : (Cond.arrayClass (newarray.typeOf t)).before args s = true) (hby : n.toNatClampNeg * componentBytes (newarray.typeOf t) ≤ 536870912) (hfin : ∀ (H1 : Heap) (cA : ClassId), H1[H.size]? = some (arrV cA n.toNatClampNeg (fun _ => defaultValue (newarray.typeOf t))) → s.vm.findClass ("[" ++ (newarray.typeOf t).toString) = some cA → va_at g.1 ro_cl (H.size, ro_ent g (ro_new M (ro_ak t, n.toNatClampNeg)) (M.1.length + 4)) H1), W p l e R s m args below meth c H locs cells slots Q (F0 m pc ls (.int n :: rest)) := by
    intro harr hby hfin
    refine va_newaK hx hb harr rfl hdg rfl hz rfl hby hcells hslots rfl fun H1 cA e1 z1 o1 hAr hNm => ?_
    obtain ⟨f1, f2, f3⟩ := ro_made hH hS (hfin H1 cA e1 hNm) z1 o1
    exact kk H1 f1 f2 f3
  have j1 : (ro_new M (ro_ak t, n.toNatClampNeg)).2.1 (M.1.length + 4) = fun _ => 0 := ro_row_eq
  have j2 : (ro_new M (ro_ak t, n.toNatClampNeg)).2.2.1 (M.1.length + 4) = fun _ => 0 := ro_row_eq
  have jk : ro_kd (ro_new M (ro_ak t, n.toNatClampNeg)) (M.1.length + 4) = (ro_ak t, n.toNatClampNeg) := ro_kd_last
  cases t with
  | int =>
    refine go (hts _ (hG _ (ro_at_mem ro_ac0))) (by show n.toNatClampNeg * 4 ≤ _; omega) fun H1 cA e1 h1 => ?_
    have ec : some cA = some (g.2.1 0) := h1.symm.trans (hK.2 0 _ rfl).2
    cases ec
    rw [ro_ent16 (by rw [jk]; rfl), j1, jk]
    exact e1
  | long =>
    refine go (hts _ (hG _ (ro_at_mem ro_ac1))) (by show n.toNatClampNeg * 8 ≤ _; omega) fun H1 cA e1 h1 => ?_
    have ec : some cA = some (g.2.1 1) := h1.symm.trans (hK.2 1 _ rfl).2
    cases ec
    rw [ro_ent17 (by rw [jk]; rfl), j2, jk]
    exact e1
  | byte => exact absurd hk9 (by decide)
  | short => exact absurd hk9 (by decide)
  | boolean => exact absurd hk9 (by decide)
  | char => exact absurd hk9 (by decide)
  | float => exact absurd hk9 (by decide)
  | double => exact absurd hk9 (by decide)
end ROR
