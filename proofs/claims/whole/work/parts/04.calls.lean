theorem gd_I {k1 : Cond} (h1 : k1 ∈ lw_big) : GoodIn lw_big (k1 :: lw_big) := fun w h => (List.mem_cons.mp h).elim (fun e => e ▸ gd_all _ h1) (gd_all w)
theorem gd_S {k1 : Cond} {own : String} {index : Nat} {y : MethodName} (h1 : k1 ∈ lw_big) (h2 : Cond.methodLink own index y ∈ lw_big) (h3 : Cond.static y ∈ lw_big) (h4 : Cond.initialized own ∈ lw_big) : GoodIn lw_big (wsS own index y (k1 :: lw_big)) := by
  intro w h
  unfold wsS at h
  simp only [List.cons_append, List.nil_append, List.mem_cons] at h
  rcases h with rfl | rfl | rfl | rfl | h
  · exact gd_all _ h2
  · exact gd_all _ h3
  · exact gd_all _ h4
  · exact gd_all _ h1
  · exact gd_all _ h
theorem gd_V {k1 : Cond} {own C : String} {index : Nat} {y : MethodName} (h1 : k1 ∈ lw_big) (h2 : Cond.methodLink own index y ∈ lw_big) (h3 : Cond.instanceMethod y ∈ lw_big) (h4 : Cond.selects C y y ∈ lw_big) (h5 : Cond.initialized C ∈ lw_big) : GoodIn lw_big (wsV own index C y (k1 :: lw_big)) := by
  intro w h
  unfold wsV at h
  simp only [List.cons_append, List.nil_append, List.mem_cons] at h
  rcases h with rfl | rfl | rfl | rfl | rfl | h
  · exact gd_all _ h2
  · exact gd_all _ h3
  · exact gd_all _ h4
  · exact gd_all _ h5
  · exact gd_all _ h1
  · exact gd_all _ h
def zl : zT → Launch
  | (_, l, _) => l
def zD : zT → va_G
  | (_, _, _, _, _, _, _, _, _, _, _, _, D, _) => D
/-- a contract's end: the answer and the memory behind it -/
def mQ (D : va_G) (ws0 : va_W) (sz : Nat) (Post : Option Value → mM → Prop) : Array Value → State → Outcome → State → Prop := fun _ st oc t =>
  (∃ (v : Option Value) (M' : mM) (ws' : va_W), oc = .returned v ∧ Post v M' ∧ mR M' ws' ∧ va_P D vwCl ws' t.heap ∧ va_D (va_A ws0 sz) ws') ∧ va_F (va_A ws0 sz) st t
/-- the contract of a method at memory M, arguments av -/
def Ct (l : Launch) (D : va_G) (tys : List (ClassId × FieldType)) (y : MethodName) (wsC : List Cond) (F Lo mc ms : Nat) (av : List Value) (M : mM) (Post : Option Value → mM → Prop) : Prop :=
  ∀ (sz : Nat) (ws : va_W), mR M ws → Met l y wsC { frames := F, cells := mc, slots := ms, locals := Lo } (va_Pc av (fun U => U.heap.size = sz ∧ va_P D vwCl ws U.heap ∧ mK D tys U ∧ va_D (fun _ => True) ws)) (mQ D ws sz Post) mc ms (va_A ws sz)
def BQ : zT → Option FieldType → va_W → Nat → Nat → (Option Value → mM → Prop) → Prop
  | (_, _, _, R, s, _, args, below, meth, _, Q, A, D, tys), ret, ws0, mc, ms, Post =>
    meth.sig.returnType = ret ∧ meth.locks = false ∧ Q = MQ below (mQ D ws0 s.heap.size Post) args s mc ms (va_A ws0 s.heap.size) ∧ A = va_A ws0 s.heap.size ∧ R.cells = mc ∧ R.slots = ms
theorem BQ.rc {z : zT} {ret : Option FieldType} {ws0 : va_W} {mc ms : Nat} {Post : Option Value → mM → Prop} (Y : BQ z ret ws0 mc ms Post) : (zR z).cells = mc ∧ (zR z).slots = ms := by
  obtain ⟨p, l, e, R, s, m, args, below, meth, c, Q, A, D, tys⟩ := z
  exact ⟨Y.2.2.2.2.1, Y.2.2.2.2.2⟩
theorem R_iret {z : zT} {cc : ByteArray} {nL : Nat} {own nm : String} {F Lo : Nat} (X : BX z cc nL own nm F Lo) {pc : Nat} {L : List (Option Value)} {M : mM} {k n : Nat} {ws0 : va_W} {mc ms : Nat} {Post : Option Value → mM → Prop} (Y : BQ z (some .int) ws0 mc ms Post) {v : Int32} (hd : decode cc pc = .ok (.ireturn, 1)) (hk : k ≤ mc) (hn : n ≤ ms) (hp : Post (some (.int v)) M) : RN z pc L [.int v] M k n := by
  obtain ⟨p, l, e, R, s, m, args, below, meth, c, Q, A, D, tys⟩ := z
  obtain ⟨hr, hlk, rfl, rfl, hc1, hc2⟩ := Y
  intro H locs ls ws hR hP hD hS hL
  refine W.widen hk hn ?_
  exact W.iret X.1 X.2.1 hr (fun t ht hW => ⟨⟨some (.int v), M, ws, rfl, hp, hR, by rw [ht]; exact hP, hD⟩, hS.F ht⟩) hS.2.2 hd (hlocks := hlk)
theorem R_zret {z : zT} {cc : ByteArray} {nL : Nat} {own nm : String} {F Lo : Nat} (X : BX z cc nL own nm F Lo) {pc : Nat} {L : List (Option Value)} {M : mM} {k n : Nat} {ws0 : va_W} {mc ms : Nat} {Post : Option Value → mM → Prop} (Y : BQ z (some .boolean) ws0 mc ms Post) {v : Int32} (hd : decode cc pc = .ok (.ireturn, 1)) (hv : narrow .boolean (.int v) = .int v) (hk : k ≤ mc) (hn : n ≤ ms) (hp : Post (some (.int v)) M) : RN z pc L [.int v] M k n := by
  obtain ⟨p, l, e, R, s, m, args, below, meth, c, Q, A, D, tys⟩ := z
  obtain ⟨hr, hlk, rfl, rfl, hc1, hc2⟩ := Y
  intro H locs ls ws hR hP hD hS hL
  refine W.widen hk hn ?_
  exact W.zret X.1 X.2.1 hr hv (fun t ht hW => ⟨⟨some (.int v), M, ws, rfl, hp, hR, by rw [ht]; exact hP, hD⟩, hS.F ht⟩) hS.2.2 hd (hlocks := hlk)
theorem R_lret {z : zT} {cc : ByteArray} {nL : Nat} {own nm : String} {F Lo : Nat} (X : BX z cc nL own nm F Lo) {pc : Nat} {L : List (Option Value)} {M : mM} {k n : Nat} {ws0 : va_W} {mc ms : Nat} {Post : Option Value → mM → Prop} (Y : BQ z (some .long) ws0 mc ms Post) {v : Int64} (hd : decode cc pc = .ok (.lreturn, 1)) (hk : k ≤ mc) (hn : n ≤ ms) (hp : Post (some (.long v)) M) : RN z pc L [.long v] M k n := by
  obtain ⟨p, l, e, R, s, m, args, below, meth, c, Q, A, D, tys⟩ := z
  obtain ⟨hr, hlk, rfl, rfl, hc1, hc2⟩ := Y
  intro H locs ls ws hR hP hD hS hL
  refine W.widen hk hn ?_
  exact W.lret X.1 X.2.1 hr (fun t ht hW => ⟨⟨some (.long v), M, ws, rfl, hp, hR, by rw [ht]; exact hP, hD⟩, hS.F ht⟩) hS.2.2 hd (hlocks := hlk)
theorem R_aret {z : zT} {cc : ByteArray} {nL : Nat} {own nm : String} {F Lo : Nat} (X : BX z cc nL own nm F Lo) {pc : Nat} {L : List (Option Value)} {M : mM} {k n : Nat} {ws0 : va_W} {mc ms : Nat} {Post : Option Value → mM → Prop} {rt : FieldType} (Y : BQ z (some rt) ws0 mc ms Post) {v : Value} (hrt : (∃ n, rt = .object n) ∨ ∃ t, rt = .array t) (hd : decode cc pc = .ok (.areturn, 1)) (hv : mRf v) (hk : k ≤ mc) (hn : n ≤ ms) (hp : Post (some v) M) : RN z pc L [v] M k n := by
  obtain ⟨p, l, e, R, s, m, args, below, meth, c, Q, A, D, tys⟩ := z
  obtain ⟨hr, hlk, rfl, rfl, hc1, hc2⟩ := Y
  intro H locs ls ws hR hP hD hS hL
  refine W.widen hk hn ?_
  exact W.aret X.1 X.2.1 hr hrt hv (fun t ht hW => ⟨⟨some v, M, ws, rfl, hp, hR, by rw [ht]; exact hP, hD⟩, hS.F ht⟩) hS.2.2 hd (hlocks := hlk)
theorem R_vret {z : zT} {cc : ByteArray} {nL : Nat} {own nm : String} {F Lo : Nat} (X : BX z cc nL own nm F Lo) {pc : Nat} {L : List (Option Value)} {M : mM} {k n : Nat} {ws0 : va_W} {mc ms : Nat} {Post : Option Value → mM → Prop} (Y : BQ z none ws0 mc ms Post) (hd : decode cc pc = .ok (.return_, 1)) (hk : k ≤ mc) (hn : n ≤ ms) (hp : Post none M) : RN z pc L [] M k n := by
  obtain ⟨p, l, e, R, s, m, args, below, meth, c, Q, A, D, tys⟩ := z
  obtain ⟨hr, hlk, rfl, rfl, hc1, hc2⟩ := Y
  intro H locs ls ws hR hP hD hS hL
  refine W.widen hk hn ?_
  exact W.vret X.1 X.2.1 hr (fun t ht hW => ⟨⟨none, M, ws, rfl, hp, hR, by rw [ht]; exact hP, hD⟩, hS.F ht⟩) hS.2.2 hd (hlocks := hlk)
theorem lL_entry : ∀ (vs : List Value) (i : Nat), (∀ v ∈ vs, v.category = 1) → ∀ (j : Nat) (v : Value), vs[j]? = some v → (i + j, v) ∈ lv_args i vs
  | [], _, _, j, v, h => by simp at h
  | w :: vs, i, hc, j, v, h => by
    have hw : w.category = 1 := hc w List.mem_cons_self
    cases j with
    | zero =>
      simp at h
      subst h
      exact List.mem_cons_self
    | succ j =>
      have h2 := lL_entry vs (i + 1) (fun u hu => hc u (List.mem_cons_of_mem _ hu)) j v (by simpa using h)
      unfold lv_args
      rw [if_neg (by omega)]
      rw [show i + (j + 1) = i + 1 + j by omega]
      exact List.mem_cons_of_mem _ h2
theorem lg_sl_one : ∀ (vs : List Value), (∀ v ∈ vs, v.category = 1) → (lg_sl vs).length = vs.length
  | [], _ => rfl
  | w :: vs, hc => by
    have hw : w.category = 1 := hc w List.mem_cons_self
    have ih := lg_sl_one vs (fun u hu => hc u (List.mem_cons_of_mem _ hu))
    unfold lg_sl at ih ⊢
    rw [List.flatMap_cons, List.length_append, ih, if_neg (by omega)]
    simp
    omega
/-- a contract out of a walk -/
theorem Ct.of {l : Launch} {D : va_G} {tys : List (ClassId × FieldType)} {y : MethodName} {F Lo mc ms : Nat} {av : List Value} {M : mM} {Post : Option Value → mM → Prop} {cc : ByteArray} {maxL : Nat} {ret : Option FieldType} {L0 : List (Option Value)}
    (hy : plainName y.cls = true) (hav : ∀ v ∈ av, v.category = 1) (hl : av.length ≤ maxL) (hL0 : L0 = av.map some ++ List.replicate (maxL - av.length) none)
    (body : ∀ (z : zT) (ws0 : va_W), zl z = l → zD z = D → zty z = tys → BX z cc maxL y.cls y.name F Lo → BQ z ret ws0 mc ms Post → RN z 0 L0 [] M 0 0) : Ct l D tys y (Cond.code y cc maxL ret :: lw_big) F Lo mc ms av M Post := by
  intro sz ws hR
  refine Met.ofW (cc := cc) (maxL := maxL) (ret := ret) hy rfl ?_
  intro p e s m args below meth c s₁ B hml hv
  obtain ⟨rfl, hsz, hP, hK, hD0⟩ := hv
  subst hsz
  have hts := atoms_spec (ws := Cond.code y cc maxL ret :: lw_big) B.pre
  have hown : s.vm.findClass y.cls = some m.cls := findClass_of_methodNamed B.named
  have hin : meth.name = y.name := (name_of_methodNamed B.named B.method).1
  have hD := hD0.self (sz := s.heap.size)
  have hlen : (lg_sl av).length ≤ maxL := by rw [lg_sl_one av hav]; exact hl
  have hle := lv_entry av (n := maxL) hlen
  rw [lg_entry_eq]
  generalize (lg_sl av ++ List.replicate (maxL - (lg_sl av).length) Slot.unset).toArray = ls at hle ⊢
  have hll : lL ls L0 := by
    refine ⟨?_, hle.2.1, fun i v hi => ?_⟩
    · rw [hle.1, hL0]
      simp
      omega
    · rw [hL0] at hi
      by_cases hia : i < av.length
      · rw [List.getElem?_append_left (by simpa using hia), List.getElem?_map] at hi
        cases hq : av[i]? with
        | none => rw [hq] at hi; simp at hi
        | some w =>
          rw [hq] at hi
          simp at hi
          subst hi
          have h3 := lL_entry av 0 hav i w hq
          rw [Nat.zero_add] at h3
          exact ⟨hle.2.2 _ h3, hav w (List.mem_of_getElem? hq)⟩
      · rw [List.getElem?_append_right (by simp; omega), List.getElem?_replicate] at hi
        split at hi <;> simp at hi
  exact body (p, l, e, (headSpec (Cond.code y cc maxL ret :: lw_big) { frames := F, cells := mc, slots := ms, locals := Lo }).room, s, m, av.toArray, below, meth, c, _, va_A ws s.heap.size, D, tys) ws rfl rfl rfl ⟨B.exec, B.bytes, hml, hown, hin, fun w h => hts w (List.mem_cons_of_mem _ h), hK, fun q h => Or.inr h, rfl, rfl⟩ ⟨B.returns, B.notSynchronized, rfl, rfl, rfl, rfl⟩ s.heap [] ls ws hR hP hD va_S.rf hll
/-- behind a call -/
theorem m_call {p : Program} {l : Launch} {e : Env} {R : Room} {s : State} {m : MethodId} {args : Array Value} {below : List Frame} {meth : Method} {c : Code} {H : Heap} {locs : List Loc} {cells slots : Nat} {Q : State → Prop} {pc : Nat} {ls : Array Slot} {rest st0 : List Value} {a : Array Value} {A : Nat → Prop} {H0 : Heap} {mc ms : Nat} {D : va_G} {ws : va_W} {Post : Option Value → mM → Prop}
    (hr : va_Run p l e R s m args below meth c H locs cells slots mc ms (F0 m pc ls st0) rest (mQ D ws H.size Post a) (va_A ws H.size)) (hD : va_D A ws) (hS : va_S A H0 H locs) (hA : ∀ q, H0.size ≤ q → A q)
    (kk : ∀ (v : Option Value) (M' : mM) (ws' : va_W) (H1 : Heap) (locs1 : List Loc), Post v M' → mR M' ws' → va_P D vwCl ws' H1 → va_D A ws' → va_S A H0 H1 locs1 → W p l e R s m args below meth c H1 locs1 (cells + mc) (slots + ms) Q (F0 m (pc + 3) ls (v.toList ++ rest))) : W p l e R s m args below meth c H locs cells slots Q (F0 m pc ls st0) := by
  intro T hT X
  obtain ⟨v, st₀, t, T', L, h0, X', hL, e1, e2, ⟨⟨v', M', ws', hv, hp, hR', hP', hD'⟩, hz, hk⟩, st⟩ := hr T hT X
  cases hv
  rw [h0] at hz hk
  have hAA : ∀ q, va_A ws H.size q → A q := fun q hq => by
    rcases hq with ⟨j, f, hj⟩ | hq
    · exact hD.2 j _ hj
    · exact hA q (Nat.le_trans hS.1 hq)
  obtain ⟨t2, a1, b1⟩ := kk v M' ws' T'.heap (locs ++ L) hp hR' (by rw [e1]; exact hP') (hD'.weaken (fun _ q _ h => hAA _ h))
    ⟨Nat.le_trans hS.1 (by rw [e1]; exact hz), fun q h1 h2 => by rw [e1, hk q (Nat.lt_of_lt_of_le h1 hS.1) (fun z => h2 (hAA q z))]; exact hS.2.1 q h1 h2, fun q hq => by
      rcases List.mem_append.mp hq with h | h
      · exact hS.2.2 q h
      · exact hAA _ (hL q h)⟩ T' rfl X'
  exact ⟨t2, st t2 a1, b1⟩
theorem m_blind {av : List Value} {sz : Nat} {D : va_G} {tys : List (ClassId × FieldType)} {ws : va_W} : FrameBlind (va_Pc av (fun U => U.heap.size = sz ∧ va_P D vwCl ws U.heap ∧ mK D tys U ∧ va_D (fun _ => True) ws)) := fun a U g mk q => by
  obtain ⟨q0, q1, qP, qK, qD⟩ := q
  exact ⟨q0, q1, qP, mK.same (s := U) (U := U.calling g mk a) rfl qK, qD⟩
theorem cat_le : ∀ (st : List Value), (st.map fun v => v.category).sum ≤ 2 * st.length
  | [] => by simp
  | v :: st => by
    have := cat_le st
    have hv : v.category ≤ 2 := by rcases lv_cat v with h | h <;> omega
    simp only [List.map_cons, List.sum_cons, List.length_cons]
    omega
theorem R_callS {z : zT} {cc : ByteArray} {nL : Nat} {own nm : String} {F Lo : Nat} (X : BX z cc nL own nm F Lo) {pc : Nat} {L : List (Option Value)} {st : List Value} {M : mM} {k n : Nat} {y : MethodName} {F1 Lo1 mc1 ms1 nA index maxL : Nat} {bytes : ByteArray} {ret : Option FieldType} {av : List Value} {Post : Option Value → mM → Prop}
    (hk1 : Cond.code y bytes maxL ret ∈ lw_big) (hw1 : Cond.methodLink own index y ∈ lw_big) (hw2 : Cond.static y ∈ lw_big) (hw3 : Cond.initialized own ∈ lw_big) (hdd : y.cls = own ∧ y.cls ≠ "java/lang/invoke/MethodHandle" ∧ y.cls ≠ "java/lang/invoke/VarHandle" ∧ (parseMethodDescriptor y.desc).map (fun d => d.parameters.length) = some nA) (hav : av.length = nA) (hF : F1 + 1 ≤ F) (hLo : 8 + (maxL + 11) + Lo1 ≤ Lo) (hst : st.length ≤ 4) (hd : decode cc pc = .ok (.invokestatic index, 3)) (hLn : L.length = nL)
    (hC : Ct (zl z) (zD z) (zty z) y (Cond.code y bytes maxL ret :: lw_big) F1 Lo1 mc1 ms1 av M Post) (hk : k + mc1 ≤ (zR z).cells) (hn : n + ms1 ≤ (zR z).slots) (h : ∀ (v : Option Value) (M' : mM), Post v M' → RN z (pc + 3) L (v.toList ++ st) M' (k + mc1) (n + ms1)) : RN z pc L (av.reverse ++ st) M k n := by
  obtain ⟨p, l, e, R, s, m, args, below, meth, c, Q, A, D, tys⟩ := z
  intro H locs ls ws hR hP hD hS hL
  have hcat := cat_le st
  obtain ⟨hx, hb, hml, hown, hnm, hts, hK, hA, hRF, hRL⟩ := X
  have hrun := va_runS (l := l) (e := e) (below := below) (meth := meth) (As := av) (rest := st) (g := F0 m pc ls (av.reverse ++ st)) (locs := locs) (cells := k) (slots := n) ⟨hx, hb, hml, hown, hts⟩ (hC H.size ws hR) (cwS (R := R) nA hts (gd_S hk1 hw1 hw2 hw3) rfl rfl rfl hdd ⟨by rw [hRF]; exact hF, by rw [hRL]; exact hLo⟩)
    ⟨m_blind, fun U hU hW => ⟨rfl, by rw [hU], by rw [hU]; exact hP, mK.warm hW hK, hD.weaken (fun _ _ _ _ => trivial)⟩⟩ rfl hav (hL.1.trans hLn) rfl (lv_room (by omega)) hd ⟨hk, hn⟩
  exact m_call hrun hD hS hA (fun v M' ws' H1 locs1 hp hR' hP' hD' hS' => h v M' hp H1 locs1 ls ws' hR' hP' hD' hS' hL)
theorem R_callV {z : zT} {cc : ByteArray} {nL : Nat} {own nm : String} {F Lo : Nat} (X : BX z cc nL own nm F Lo) {pc : Nat} {L : List (Option Value)} {st : List Value} {M : mM} {k n : Nat} {C : String} {T : u_T} {N ci b : Nat} {fs : List Value} {y : MethodName} {F1 Lo1 mc1 ms1 nA index maxL : Nat} {bytes : ByteArray} {ret : Option FieldType} {av : List Value} {Post : Option Value → mM → Prop}
    (hk1 : Cond.code y bytes maxL ret ∈ lw_big) (hw1 : Cond.methodLink own index y ∈ lw_big) (hw2 : Cond.instanceMethod y ∈ lw_big) (hw3 : Cond.selects C y y ∈ lw_big) (hw4 : Cond.initialized C ∈ lw_big) (hdd : y.cls = C ∧ y.cls ≠ "java/lang/invoke/MethodHandle" ∧ y.cls ≠ "java/lang/invoke/VarHandle" ∧ (parseMethodDescriptor y.desc).map (fun d => d.parameters.length) = some nA) (hav : av.length = nA) (hF : F1 + 1 ≤ F) (hLo : 8 + (maxL + 11) + Lo1 ≤ Lo) (hst : st.length ≤ 4) (hd : decode cc pc = .ok (.invokevirtual index, 3)) (hLn : L.length = nL) (hc : vwCl[ci]? = some (C, T, N))
    (hM : M b = some (.inr (ci, fs))) (hC : Ct (zl z) (zD z) (zty z) y (Cond.code y bytes maxL ret :: lw_big) F1 Lo1 mc1 ms1 (.ref b :: av) M Post) (hk : k + mc1 ≤ (zR z).cells) (hn : n + ms1 ≤ (zR z).slots) (h : ∀ (v : Option Value) (M' : mM), Post v M' → RN z (pc + 3) L (v.toList ++ st) M' (k + mc1) (n + ms1)) : RN z pc L (av.reverse ++ .ref b :: st) M k n := by
  obtain ⟨p, l, e, R, s, m, args, below, meth, c, Q, A, D, tys⟩ := z
  intro H locs ls ws hR hP hD hS hL
  have hcat := cat_le st
  obtain ⟨hx, hb, hml, hown, hnm, hts, hK, hA, hRF, hRL⟩ := X
  obtain ⟨q, hq⟩ := (hR _ _).mp hM
  have hrun := va_runV (l := l) (e := e) (below := below) (meth := meth) (As := av) (rest := st) (g := F0 m pc ls (av.reverse ++ .ref b :: st)) (locs := locs) (cells := k) (slots := n) ⟨hx, hb, hml, hown, hts⟩ (hC H.size ws hR) (cwV (R := R) nA hts (gd_V hk1 hw1 hw2 hw3 hw4) rfl rfl rfl hdd ⟨by rw [hRF]; exact hF, by rw [hRL]; exact hLo⟩)
    ⟨m_blind, va_recv hK.1 hP hc hq, fun U hU hW => ⟨rfl, by rw [hU], by rw [hU]; exact hP, mK.warm hW hK, hD.weaken (fun _ _ _ _ => trivial)⟩⟩ rfl hav (hL.1.trans hLn) rfl (lv_room (by omega)) hd ⟨hk, hn⟩
  exact m_call hrun hD hS hA (fun v M' ws' H1 locs1 hp hR' hP' hD' hS' => h v M' hp H1 locs1 ls ws' hR' hP' hD' hS' hL)
theorem R_callI {z : zT} {cc : ByteArray} {nL : Nat} {own nm : String} {F Lo : Nat} (X : BX z cc nL own nm F Lo) {pc : Nat} {L : List (Option Value)} {st : List Value} {M : mM} {k n : Nat} {b : Nat} {y : MethodName} {F1 Lo1 mc1 ms1 nA index maxL : Nat} {bytes : ByteArray} {av : List Value} {Post : Option Value → mM → Prop}
    (hk1 : Cond.code y bytes maxL none ∈ lw_big) (hw1 : Cond.initialized y.cls ∈ lw_big) (hw2 : Cond.methodLink own index y ∈ lw_big) (hw3 : Cond.instanceMethod y ∈ lw_big) (hy : y.name = "<init>") (hdd : y.cls ≠ "java/lang/invoke/MethodHandle" ∧ y.cls ≠ "java/lang/invoke/VarHandle" ∧ (parseMethodDescriptor y.desc).map (fun d => d.parameters.length) = some nA) (hav : av.length = nA) (hF : F1 + 1 ≤ F) (hLo : 8 + (maxL + 11) + Lo1 ≤ Lo) (hst : st.length ≤ 4) (hd : decode cc pc = .ok (.invokespecial index, 3)) (hLn : L.length = nL)
    (hC : Ct (zl z) (zD z) (zty z) y (Cond.code y bytes maxL none :: lw_big) F1 Lo1 mc1 ms1 (.ref b :: av) M Post) (hk : k + mc1 ≤ (zR z).cells) (hn : n + ms1 ≤ (zR z).slots) (h : ∀ (v : Option Value) (M' : mM), Post v M' → RN z (pc + 3) L (v.toList ++ st) M' (k + mc1) (n + ms1)) : RN z pc L (av.reverse ++ .ref b :: st) M k n := by
  obtain ⟨p, l, e, R, s, m, args, below, meth, c, Q, A, D, tys⟩ := z
  intro H locs ls ws hR hP hD hS hL
  have hcat := cat_le st
  obtain ⟨hx, hb, hml, hown, hnm, hts, hK, hA, hRF, hRL⟩ := X
  have hrun := va_runI (l := l) (e := e) (below := below) (meth := meth) (As := av) (rest := st) (g := F0 m pc ls (av.reverse ++ .ref b :: st)) (locs := locs) (cells := k) (slots := n) ⟨hx, hb, hml, hown, hts⟩ (hC H.size ws hR) (cwI (R := R) nA hts (gd_I hk1) rfl rfl rfl (hts _ hw1) (hts _ hw2) (hts _ hw3) hy hdd ⟨by rw [hRF]; exact hF, by rw [hRL]; exact hLo⟩)
    ⟨m_blind, fun U hU hW => ⟨rfl, by rw [hU], by rw [hU]; exact hP, mK.warm hW hK, hD.weaken (fun _ _ _ _ => trivial)⟩⟩ rfl hav (hL.1.trans hLn) rfl (lv_room (by omega)) hd ⟨hk, hn⟩
  exact m_call hrun hD hS hA (fun v M' ws' H1 locs1 hp hR' hP' hD' hS' => h v M' hp H1 locs1 ls ws' hR' hP' hD' hS' hL)
theorem R_callIN {z : zT} {cc : ByteArray} {nL : Nat} {own nm : String} {F Lo : Nat} (X : BX z cc nL own nm F Lo) {pc : Nat} {L : List (Option Value)} {st : List Value} {M : mM} {k n : Nat} {b : Nat} {host : String} {y : MethodName} {F1 Lo1 mc1 ms1 nA index maxL : Nat} {bytes : ByteArray} {av : List Value} {Post : Option Value → mM → Prop}
    (hk1 : Cond.code y bytes maxL none ∈ lw_big) (hw1 : Cond.initialized y.cls ∈ lw_big) (hw2 : own = RX3 ∧ index = 51 ∧ y = y_N_init ∧ host = RX3) (hw3 : Cond.instanceMethod y ∈ lw_big) (hy : y.name = "<init>") (hdd : y.cls ≠ "java/lang/invoke/MethodHandle" ∧ y.cls ≠ "java/lang/invoke/VarHandle" ∧ (parseMethodDescriptor y.desc).map (fun d => d.parameters.length) = some nA) (hav : av.length = nA) (hF : F1 + 1 ≤ F) (hLo : 8 + (maxL + 11) + Lo1 ≤ Lo) (hst : st.length ≤ 4) (hd : decode cc pc = .ok (.invokespecial index, 3)) (hLn : L.length = nL)
    (hC : Ct (zl z) (zD z) (zty z) y (Cond.code y bytes maxL none :: lw_big) F1 Lo1 mc1 ms1 (.ref b :: av) M Post) (hk : k + mc1 ≤ (zR z).cells) (hn : n + ms1 ≤ (zR z).slots) (h : ∀ (v : Option Value) (M' : mM), Post v M' → RN z (pc + 3) L (v.toList ++ st) M' (k + mc1) (n + ms1)) : RN z pc L (av.reverse ++ .ref b :: st) M k n := by
  obtain ⟨p, l, e, R, s, m, args, below, meth, c, Q, A, D, tys⟩ := z
  intro H locs ls ws hR hP hD hS hL
  have hcat := cat_le st
  obtain ⟨hx, hb, hml, hown, hnm, hts, hK, hA, hRF, hRL⟩ := X
  have hrun := va_runIN (l := l) (e := e) (below := below) (meth := meth) (As := av) (rest := st) (g := F0 m pc ls (av.reverse ++ .ref b :: st)) (locs := locs) (cells := k) (slots := n) ⟨hx, hb, hml, hown, hts⟩ (hC H.size ws hR) ⟨va_cnB (R := R) nA hts (gd_I hk1) rfl rfl rfl (by obtain ⟨rfl, rfl, rfl, rfl⟩ := hw2; exact hK.2.2.1) (hts _ hw1) hdd ⟨by rw [hRF]; exact hF, by rw [hRL]; exact hLo⟩, hy, hts _ hw3⟩
    ⟨m_blind, fun U hU hW => ⟨rfl, by rw [hU], by rw [hU]; exact hP, mK.warm hW hK, hD.weaken (fun _ _ _ _ => trivial)⟩⟩ rfl hav (hL.1.trans hLn) rfl (lv_room (by omega)) hd ⟨hk, hn⟩
  exact m_call hrun hD hS hA (fun v M' ws' H1 locs1 hp hR' hP' hD' hS' => h v M' hp H1 locs1 ls ws' hR' hP' hD' hS' hL)
