/-! every method's table holds; a method of the small machine, over the machine; the claim out of the small machine -/
theorem ro_okA_0 : ∀ k, k < 20 → ro_okM (0 + k) = true := fun k hk => match k, hk with
  | 0, _ => ro_ok0
  | 1, _ => ro_ok1
  | 2, _ => ro_ok2
  | 3, _ => ro_ok3
  | 4, _ => ro_ok4
  | 5, _ => ro_ok5
  | 6, _ => ro_ok6
  | 7, _ => ro_ok7
  | 8, _ => ro_ok8
  | 9, _ => ro_ok9
  | 10, _ => ro_ok10
  | 11, _ => ro_ok11
  | 12, _ => ro_ok12
  | 13, _ => ro_ok13
  | 14, _ => ro_ok14
  | 15, _ => ro_ok15
  | 16, _ => ro_ok16
  | 17, _ => ro_ok17
  | 18, _ => ro_ok18
  | 19, _ => ro_ok19
  | k + 20, h => absurd h (by omega)
theorem ro_okA_1 : ∀ k, k < 20 → ro_okM (20 + k) = true := fun k hk => match k, hk with
  | 0, _ => ro_ok20
  | 1, _ => ro_ok21
  | 2, _ => ro_ok22
  | 3, _ => ro_ok23
  | 4, _ => ro_ok24
  | 5, _ => ro_ok25
  | 6, _ => ro_ok26
  | 7, _ => ro_ok27
  | 8, _ => ro_ok28
  | 9, _ => ro_ok29
  | 10, _ => ro_ok30
  | 11, _ => ro_ok31
  | 12, _ => ro_ok32
  | 13, _ => ro_ok33
  | 14, _ => ro_ok34
  | 15, _ => ro_ok35
  | 16, _ => ro_ok36
  | 17, _ => ro_ok37
  | 18, _ => ro_ok38
  | 19, _ => ro_ok39
  | k + 20, h => absurd h (by omega)
theorem ro_okA_2 : ∀ k, k < 20 → ro_okM (40 + k) = true := fun k hk => match k, hk with
  | 0, _ => ro_ok40
  | 1, _ => ro_ok41
  | 2, _ => ro_ok42
  | 3, _ => ro_ok43
  | 4, _ => ro_ok44
  | 5, _ => ro_ok45
  | 6, _ => ro_ok46
  | 7, _ => ro_ok47
  | 8, _ => ro_ok48
  | 9, _ => ro_ok49
  | 10, _ => ro_ok50
  | 11, _ => ro_ok51
  | 12, _ => ro_ok52
  | 13, _ => ro_ok53
  | 14, _ => ro_ok54
  | 15, _ => ro_ok55
  | 16, _ => ro_ok56
  | 17, _ => ro_ok57
  | 18, _ => ro_ok58
  | 19, _ => ro_ok59
  | k + 20, h => absurd h (by omega)
theorem ro_okA_3 : ∀ k, k < 20 → ro_okM (60 + k) = true := fun k hk => match k, hk with
  | 0, _ => ro_ok60
  | 1, _ => ro_ok61
  | 2, _ => ro_ok62
  | 3, _ => ro_ok63
  | 4, _ => ro_ok64
  | 5, _ => ro_ok65
  | 6, _ => ro_ok66
  | 7, _ => ro_ok67
  | 8, _ => ro_ok68
  | 9, _ => ro_ok69
  | 10, _ => ro_ok70
  | 11, _ => ro_ok71
  | 12, _ => ro_ok72
  | 13, _ => ro_ok73
  | 14, _ => ro_ok74
  | 15, _ => ro_ok75
  | 16, _ => ro_ok76
  | 17, _ => ro_ok77
  | 18, _ => ro_ok78
  | 19, _ => ro_ok79
  | k + 20, h => absurd h (by omega)
theorem ro_okA_4 : ∀ k, k < 20 → ro_okM (80 + k) = true := fun k hk => match k, hk with
  | 0, _ => ro_ok80
  | 1, _ => ro_ok81
  | 2, _ => ro_ok82
  | 3, _ => ro_ok83
  | 4, _ => ro_ok84
  | 5, _ => ro_ok85
  | 6, _ => ro_ok86
  | 7, _ => ro_ok87
  | 8, _ => ro_ok88
  | 9, _ => ro_ok89
  | 10, _ => ro_ok90
  | 11, _ => ro_ok91
  | 12, _ => ro_ok92
  | 13, _ => ro_ok93
  | 14, _ => ro_ok94
  | 15, _ => ro_ok95
  | 16, _ => ro_ok96
  | 17, _ => ro_ok97
  | 18, _ => ro_ok98
  | 19, _ => ro_ok99
  | k + 20, h => absurd h (by omega)
theorem ro_okA_5 : ∀ k, k < 20 → ro_okM (100 + k) = true := fun k hk => match k, hk with
  | 0, _ => ro_ok100
  | 1, _ => ro_ok101
  | 2, _ => ro_ok102
  | 3, _ => ro_ok103
  | 4, _ => ro_ok104
  | 5, _ => ro_ok105
  | 6, _ => ro_ok106
  | 7, _ => ro_ok107
  | 8, _ => ro_ok108
  | 9, _ => ro_ok109
  | 10, _ => ro_ok110
  | 11, _ => ro_ok111
  | 12, _ => ro_ok112
  | 13, _ => ro_ok113
  | 14, _ => ro_ok114
  | 15, _ => ro_ok115
  | 16, _ => ro_ok116
  | 17, _ => ro_ok117
  | 18, _ => ro_ok118
  | 19, _ => ro_ok119
  | k + 20, h => absurd h (by omega)
theorem ro_okA_6 : ∀ k, k < 20 → ro_okM (120 + k) = true := fun k hk => match k, hk with
  | 0, _ => ro_ok120
  | 1, _ => ro_ok121
  | 2, _ => ro_ok122
  | 3, _ => ro_ok123
  | 4, _ => ro_ok124
  | 5, _ => ro_ok125
  | 6, _ => ro_ok126
  | 7, _ => ro_ok127
  | 8, _ => ro_ok128
  | 9, _ => ro_ok129
  | 10, _ => ro_ok130
  | 11, _ => ro_ok131
  | 12, _ => ro_ok132
  | 13, _ => ro_ok133
  | 14, _ => ro_ok134
  | 15, _ => ro_ok135
  | 16, _ => ro_ok136
  | 17, _ => ro_ok137
  | 18, _ => ro_ok138
  | 19, _ => ro_ok139
  | k + 20, h => absurd h (by omega)
theorem ro_okA_7 : ∀ k, k < 20 → ro_okM (140 + k) = true := fun k hk => match k, hk with
  | 0, _ => ro_ok140
  | 1, _ => ro_ok141
  | 2, _ => ro_ok142
  | 3, _ => ro_ok143
  | 4, _ => ro_ok144
  | 5, _ => ro_ok145
  | 6, _ => ro_ok146
  | 7, _ => ro_ok147
  | 8, _ => ro_ok148
  | 9, _ => ro_ok149
  | 10, _ => ro_ok150
  | 11, _ => ro_ok151
  | 12, _ => ro_ok152
  | 13, _ => ro_ok153
  | 14, _ => ro_ok154
  | 15, _ => ro_ok155
  | 16, _ => ro_ok156
  | 17, _ => ro_ok157
  | 18, _ => ro_ok158
  | 19, _ => ro_ok159
  | k + 20, h => absurd h (by omega)
theorem ro_okA_8 : ∀ k, k < 20 → ro_okM (160 + k) = true := fun k hk => match k, hk with
  | 0, _ => ro_ok160
  | 1, _ => ro_ok161
  | 2, _ => ro_ok162
  | 3, _ => ro_ok163
  | 4, _ => ro_ok164
  | 5, _ => ro_ok165
  | 6, _ => ro_ok166
  | 7, _ => ro_ok167
  | 8, _ => ro_ok168
  | 9, _ => ro_ok169
  | 10, _ => ro_ok170
  | 11, _ => ro_ok171
  | 12, _ => ro_ok172
  | 13, _ => ro_ok173
  | 14, _ => ro_ok174
  | 15, _ => ro_ok175
  | 16, _ => ro_ok176
  | 17, _ => ro_ok177
  | 18, _ => ro_ok178
  | 19, _ => ro_ok179
  | k + 20, h => absurd h (by omega)
theorem ro_okA_9 : ∀ k, k < 20 → ro_okM (180 + k) = true := fun k hk => match k, hk with
  | 0, _ => ro_ok180
  | 1, _ => ro_ok181
  | 2, _ => ro_ok182
  | 3, _ => ro_ok183
  | 4, _ => ro_ok184
  | 5, _ => ro_ok185
  | 6, _ => ro_ok186
  | 7, _ => ro_ok187
  | 8, _ => ro_ok188
  | 9, _ => ro_ok189
  | 10, _ => ro_ok190
  | 11, _ => ro_ok191
  | 12, _ => ro_ok192
  | 13, _ => ro_ok193
  | 14, _ => ro_ok194
  | 15, _ => ro_ok195
  | 16, _ => ro_ok196
  | 17, _ => ro_ok197
  | 18, _ => ro_ok198
  | 19, _ => ro_ok199
  | k + 20, h => absurd h (by omega)
theorem ro_okA_10 : ∀ k, k < 7 → ro_okM (200 + k) = true := fun k hk => match k, hk with
  | 0, _ => ro_ok200
  | 1, _ => ro_ok201
  | 2, _ => ro_ok202
  | 3, _ => ro_ok203
  | 4, _ => ro_ok204
  | 5, _ => ro_ok205
  | 6, _ => ro_ok206
  | k + 7, h => absurd h (by omega)
theorem ro_okA {y : Nat} (h : y < 207) : ro_okM y = true := by
  rcases Nat.lt_or_ge y 20 with a | a
  · have := ro_okA_0 (y - 0) (by omega)
    rwa [show 0 + (y - 0) = y by omega] at this
  rcases Nat.lt_or_ge y 40 with a | a
  · have := ro_okA_1 (y - 20) (by omega)
    rwa [show 20 + (y - 20) = y by omega] at this
  rcases Nat.lt_or_ge y 60 with a | a
  · have := ro_okA_2 (y - 40) (by omega)
    rwa [show 40 + (y - 40) = y by omega] at this
  rcases Nat.lt_or_ge y 80 with a | a
  · have := ro_okA_3 (y - 60) (by omega)
    rwa [show 60 + (y - 60) = y by omega] at this
  rcases Nat.lt_or_ge y 100 with a | a
  · have := ro_okA_4 (y - 80) (by omega)
    rwa [show 80 + (y - 80) = y by omega] at this
  rcases Nat.lt_or_ge y 120 with a | a
  · have := ro_okA_5 (y - 100) (by omega)
    rwa [show 100 + (y - 100) = y by omega] at this
  rcases Nat.lt_or_ge y 140 with a | a
  · have := ro_okA_6 (y - 120) (by omega)
    rwa [show 120 + (y - 120) = y by omega] at this
  rcases Nat.lt_or_ge y 160 with a | a
  · have := ro_okA_7 (y - 140) (by omega)
    rwa [show 140 + (y - 140) = y by omega] at this
  rcases Nat.lt_or_ge y 180 with a | a
  · have := ro_okA_8 (y - 160) (by omega)
    rwa [show 160 + (y - 160) = y by omega] at this
  rcases Nat.lt_or_ge y 200 with a | a
  · have := ro_okA_9 (y - 180) (by omega)
    rwa [show 180 + (y - 180) = y by omega] at this
  have := ro_okA_10 (y - 200) (by omega)
  rwa [show 200 + (y - 200) = y by omega] at this
theorem ro_ix_ok {y pc : Nat} {e : ro_In} (hy : y < 207) (h : ro_ix y pc = some e) : ∃ n, decode (ro_m y).2.1 pc = .ok (e.2.1, n) ∧ (ro_len e.2.1 = 0 ∨ ro_len e.2.1 = n) ∧ ro_okL (ro_m y).2.2.2.2.1 e.2.1 e.2.2.1 e.2.2.2 = true := by
  obtain ⟨h1, h2⟩ := ro_find (show (ro_cod y).all (ro_okI (ro_m y).2.1 (ro_m y).2.2.2.2.1) = true from ro_okA hy) h
  simp only [beq_iff_eq] at h1
  unfold ro_okI at h2
  rw [h1] at h2
  simp only [Bool.and_eq_true] at h2
  obtain ⟨h2, h3⟩ := h2
  split at h2
  · rename_i i n hd
    simp only [Bool.and_eq_true, Bool.or_eq_true, decide_eq_true_eq, beq_iff_eq] at h2
    obtain ⟨rfl, h4⟩ := h2
    exact ⟨n, hd, h4, h3⟩
  · cases h2
theorem ro_isR_len {i : Instr} (h : ro_isR i = true) : ro_len i = 1 := by
  unfold ro_isR at h
  split at h <;> first | rfl | cases h
theorem ro_sl_tv (g : ro_Gd) (as : List Value) : (lg_sl (as.map (ro_tv g))).length = (lg_sl as).length := by
  induction as with
  | nil => rfl
  | cons v t ih =>
    simp only [lg_sl, List.map_cons, List.flatMap_cons, List.length_append] at ih ⊢
    rw [ih, ro_tv_cat]
    by_cases h : v.category = 2 <;> simp [h]
theorem ro_args_tv (g : ro_Gd) (as : List Value) : ∀ n, lv_args n (as.map (ro_tv g)) = ro_tl g (lv_args n as) := by
  induction as with
  | nil => intro n; rfl
  | cons v t ih =>
    intro n
    show (n, ro_tv g v) :: lv_args _ (t.map (ro_tv g)) = (n, ro_tv g v) :: ro_tl g (lv_args _ t)
    rw [ro_tv_cat, ih]
section ROW1
variable {p : Program} {l : Launch} {e : Env} {R : Room} {s : State} {m : MethodId} {args : Array Value} {below : List Frame} {meth : Method} {c : Code} {Q : State → Prop} {g : ro_Gd} {Ts : List Cond} {cl : Nat → List Value → ro_Mm → ro_Po → Prop} {d y : Nat} {post : ro_Po}
/-- from any place of method y: what the small machine says, the machine does -/
theorem ro_walk (hy : y < 207) (hx : p.tables.exec = Jvm.exec) (hb : c.code = (ro_m y).2.1) (hml : c.maxLocals = (ro_m y).2.2.1) (hown : s.vm.findClass (ro_Rn (ro_m y).2.2.2.2.1) = some m.cls) (hts : ∀ w ∈ Ts, w.before args s = true) (hG : ∀ w ∈ ro_G, w ∈ Ts) (hK : va_K g.1 ro_cl (ro_tys g) s) (hT : ro_T g s s.heap) (hN : ro_N s) (hin : ((ro_m y).1.name == "<init>") = true → meth.name = "<init>") (hbs : g.2.2.2.1 ≤ s.heap.size) (hf : d + 1 ≤ R.frames) (hlo : 39 * (d + 1) ≤ R.locals) (hmx : (ro_lim y).1 = R.cells ∧ (ro_lim y).2 = R.slots)
    (hM : ∀ y as M post, y < 206 → cl y as M post → Met l (ro_m y).1 (ro_cd y :: ro_G) (ro_rm d y) (ro_Pc g as M) (ro_Qc g post) (ro_lim y).1 (ro_lim y).2 (ro_A g)) (hcl : ∀ y as M post, cl y as M post → y < 206)
    (hret : ∀ pc (st : List Value) M cs i (H : Heap) locs ls, decode (ro_m y).2.1 pc = .ok (i, 1) → ro_isR i = true → ro_end (ro_lim y) cs (ro_m y).2.2.2.1 st M post i → ro_H g M H → va_S (ro_A g) s.heap H locs → W p l e R s m args below meth c H locs cs.1 cs.2 Q (F0 m pc ls (st.map (ro_tv g))))
    (pc : Nat) (lv : ro_Lv) (st : List Value) (M : ro_Mm) (cs : Nat × Nat) (h : ro_wp cl g.2.2.2.2 y post pc lv st M cs) : ro_kW p l e R s m args below meth c (ro_m y).2.2.1 (ro_lim y) g Q pc lv st M cs := by
  refine h (ro_kW p l e R s m args below meth c (ro_m y).2.2.1 (ro_lim y) g Q) ?_
  intro pc lv st M cs h1 H locs ls hH hS hl hcs
  unfold ro_one at h1
  cases hi : ro_ix y pc with
  | none => rw [hi] at h1; exact h1.elim
  | some e1 =>
    rw [hi] at h1
    obtain ⟨n, hd, hln, hok⟩ := ro_ix_ok hy hi
    cases hr : ro_isR e1.2.1 with
    | true =>
      have hn : n = 1 := by
        have h2 := ro_isR_len hr
        rcases hln with q | q
        · rw [h2] at q; cases q
        · rw [← q]; exact h2
      rw [hn] at hd
      exact hret pc st M cs e1.2.1 H locs ls hd hr (h1.1 hr) hH hS
    | false => exact ro_stepW hx hb hml hown hts hG hK hT hN hin hbs hf hlo hmx hM hcl hd hln hok (h1.2 hr) hcs hH hS hl
end ROW1
theorem ro_cwp_lt {X : ro_Sx} {d y : Nat} {as : List Value} {M : ro_Mm} {post : ro_Po} (h : ro_cwp X d y as M post) : y < 206 := by
  cases d with
  | zero => exact h.elim
  | succ d => exact h.2.1
set_option maxHeartbeats 4000000 in
/-- the contract of every method, of what the small machine says of it -/
theorem ro_met (l : Launch) (g : ro_Gd) : ∀ d y as M post, ro_cwp g.2.2.2.2 d y as M post → Met l (ro_m y).1 (ro_cd y :: ro_G) (ro_rm d y) (ro_Pc g as M) (ro_Qc g post) (ro_lim y).1 (ro_lim y).2 (ro_A g) := by
  intro d
  induction d with
  | zero => intro y as M post h; exact h.elim
  | succ d ih =>
    intro y as M post h
    obtain ⟨hlen, hy, h⟩ := h
    obtain ⟨-, -, -, -, t5, -, -, -, t9, -⟩ := ro_meth hy
    refine Met.ofW (cc := (ro_m y).2.1) (maxL := (ro_m y).2.2.1) (ret := (ro_m y).2.2.2.1) t9 rfl ?_
    intro p e s m args below meth c s₁ B hml hv
    obtain ⟨rfl, hH, hK, hT, hN⟩ := hv
    have hts := atoms_spec (ws := ro_cd y :: ro_G) B.pre
    have hown : s.vm.findClass (ro_m y).1.cls = some m.cls := findClass_of_methodNamed B.named
    rw [t5] at hown
    have hlocks := B.notSynchronized
    have hr := B.returns
    have hb := B.bytes
    have hx := B.exec
    have hnm : meth.name = (ro_m y).1.name := (name_of_methodNamed B.named B.method).1
    have hl := lv_entry (as.map (ro_tv g)) (n := (ro_m y).2.2.1) (by rw [ro_sl_tv]; exact hlen)
    rw [ro_args_tv] at hl
    rw [lg_entry_eq]
    refine ro_walk (d := d) (Ts := ro_cd y :: ro_G) (by omega) hx hb hml hown hts (fun w hw => List.mem_cons_of_mem _ hw) hK hT hN (fun q => by rw [hnm]; exact beq_iff_eq.mp q) (by rw [hH.2]; omega) (Nat.le_refl _) (Nat.le_refl _) ⟨rfl, rfl⟩ (fun y as M post _ h => ih y as M post h) (fun y as M post h => ro_cwp_lt h) ?_ 0 (lv_args 0 as) [] M (0, 0) h s.heap [] _ hH va_S.rf hl ⟨Nat.zero_le _, Nat.zero_le _⟩
    intro pc st M' cs i H locs ls hdg hR he hH' hS
    obtain ⟨c1, c2, he⟩ := he
    have hq : ∀ v : Option Value, post v M' → ∀ t : State, t.heap = H → s.WarmedH t.vm → ro_Qc g post (as.map (ro_tv g)).toArray s (.returned (v.map (ro_tv g))) t := fun v hp t ht _ => ⟨⟨v, M', rfl, hp, by rw [ht]; exact hH'⟩, hS.F ht⟩
    refine W.widen c1 c2 ?_
    split at he
    · rename_i x
      obtain ⟨hret, hp⟩ := he
      rcases hret with hret | ⟨hret, hx01⟩
      · rw [hret] at hr
        exact W.iret hx hb hr (hq _ hp) hS.2.2 hdg
      · rw [hret] at hr
        exact W.zret hx hb hr (by rcases hx01 with rfl | rfl <;> rfl) (hq _ hp) hS.2.2 hdg
    · obtain ⟨hret, hp⟩ := he
      rw [hret] at hr
      exact W.lret hx hb hr (hq _ hp) hS.2.2 hdg
    · obtain ⟨hret, hp⟩ := he
      rw [hret] at hr
      exact W.dret hx hb hr (hq _ hp) hS.2.2 hdg
    · obtain ⟨hret, hp⟩ := he
      rcases hret with hret | hret
      · rw [hret] at hr
        exact W.aret hx hb hr (Or.inl ⟨_, rfl⟩) (Or.inr ⟨_, rfl⟩) (hq _ hp) hS.2.2 hdg
      · rw [hret] at hr
        exact W.aret hx hb hr (Or.inr ⟨_, rfl⟩) (Or.inr ⟨_, rfl⟩) (hq _ hp) hS.2.2 hdg
    · obtain ⟨hret, hp⟩ := he
      rw [hret] at hr
      exact W.aret hx hb hr (Or.inl ⟨_, rfl⟩) (Or.inl rfl) (hq _ hp) hS.2.2 hdg
    · obtain ⟨hret, hp⟩ := he
      rw [hret] at hr
      exact W.vret hx hb hr (hq _ hp) hS.2.2 hdg
    · exact he.elim
