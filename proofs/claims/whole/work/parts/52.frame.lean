/-- the memory M is M1 and M2, apart -/
def spl (M M1 M2 : mM) : Prop := ∀ a, (M a = M1 a ∧ M2 a = none) ∨ (M a = M2 a ∧ M1 a = none)
theorem spl.symm {M M1 M2 : mM} (h : spl M M1 M2) : spl M M2 M1 := fun a => (h a).elim Or.inr Or.inl
theorem spl.at {M M1 M2 : mM} (h : spl M M1 M2) {a : Nat} {e : va_E} (h1 : M1 a = some e) : M a = some e ∧ M2 a = none := by
  rcases h a with ⟨q1, q2⟩ | ⟨-, q2⟩
  · exact ⟨by rw [q1]; exact h1, q2⟩
  · rw [q2] at h1
    cases h1
theorem spl_0 (M : mM) : spl M M (fun _ => none) := fun _ => Or.inl ⟨rfl, rfl⟩
theorem spl.new {M M1 M2 : mM} (h : spl M M1 M2) {q : Nat} {e : va_E} (hq : M q = none) : spl (mS M q e) M1 (mS M2 q e) := fun a => by
  by_cases ha : a = q
  · subst ha
    rw [mS_self, mS_self]
    refine Or.inr ⟨rfl, ?_⟩
    rcases h a with ⟨q1, -⟩ | ⟨-, q2⟩
    · rw [← q1]
      exact hq
    · exact q2
  · rw [mS_ne _ _ ha, mS_ne _ _ ha]
    exact h a
theorem va_D_of {A : Nat → Prop} {ws : va_W} (h1 : (ws.map (fun q => q.1)).Nodup) (h2 : ∀ q ∈ ws, A q.1) : va_D A ws := by
  refine ⟨fun i j p q hp hq e => ?_, fun k q hk => h2 q (List.mem_of_getElem? hk)⟩
  obtain ⟨hi, rfl⟩ := List.getElem?_eq_some_iff.mp hp
  obtain ⟨hj, rfl⟩ := List.getElem?_eq_some_iff.mp hq
  rw [List.Nodup, List.pairwise_iff_getElem] at h1
  rcases Nat.lt_trichotomy i j with h | h | h
  · have hh := h1 i j (by simpa using hi) (by simpa using hj) h
    rw [List.getElem_map, List.getElem_map] at hh
    exact absurd e hh
  · exact h
  · have hh := h1 j i (by simpa using hj) (by simpa using hi) h
    rw [List.getElem_map, List.getElem_map] at hh
    exact absurd e.symm hh
theorem va_D_nd {A : Nat → Prop} {ws : va_W} (h : va_D A ws) : (ws.map (fun q => q.1)).Nodup := by
  rw [List.Nodup, List.pairwise_iff_getElem]
  intro i j hi hj hij e
  have hi' : i < ws.length := by simpa using hi
  have hj' : j < ws.length := by simpa using hj
  have := h.1 i j ws[i] ws[j] (List.getElem?_eq_getElem hi') (List.getElem?_eq_getElem hj') (by simpa using e)
  omega
theorem mR_mem {M : mM} {ws : va_W} : mR M ws ↔ ∀ a e, M a = some e ↔ (a, e) ∈ ws :=
  ⟨fun h a e => (h a e).trans List.mem_iff_getElem?.symm, fun h a e => (h a e).trans List.mem_iff_getElem?⟩
theorem va_P_mem {D : va_G} {ws : va_W} {H : Heap} : va_P D vwCl ws H ↔ ∀ q ∈ ws, va_at D vwCl q H :=
  ⟨fun h q hq => (List.getElem?_of_mem hq).elim (fun k hk => h k q hk), fun h k q hk => h q (List.mem_of_getElem? hk)⟩
/-- the list of a part of the memory -/
theorem m_part {A : Nat → Prop} {D : va_G} {ws : va_W} {M M1 M2 : mM} {H : Heap} (hsp : spl M M1 M2) (hR : mR M ws) (hP : va_P D vwCl ws H) (hD : va_D A ws) : ∃ ws1 : va_W, mR M1 ws1 ∧ va_P D vwCl ws1 H ∧ va_D A ws1 := by
  refine ⟨ws.filter (fun q => (M1 q.1).isSome), mR_mem.mpr (fun a e => ?_), va_P_mem.mpr (fun q hq => va_P_mem.mp hP q (List.mem_filter.mp hq).1), va_D_of ?_ (fun q hq => ?_)⟩
  · rw [List.mem_filter, ← mR_mem.mp hR a e]
    constructor
    · intro h
      exact ⟨(hsp.at h).1, by simp [h]⟩
    · rintro ⟨h1, h2⟩
      have h2 : (M1 a).isSome = true := h2
      obtain ⟨e', he'⟩ := Option.isSome_iff_exists.mp h2
      have h3 := (hsp.at he').1
      rw [h1] at h3
      cases h3
      exact he'
  · exact List.Pairwise.sublist (List.Sublist.map _ List.filter_sublist) (va_D_nd hD)
  · obtain ⟨k, hk⟩ := List.getElem?_of_mem (List.mem_filter.mp hq).1
    exact hD.2 k q hk
/-- behind a call that has a part of the memory -/
theorem m_callF {p : Program} {l : Launch} {e : Env} {R : Room} {s : State} {m : MethodId} {args : Array Value} {below : List Frame} {meth : Method} {c : Code} {H : Heap} {locs : List Loc} {cells slots : Nat} {Q : State → Prop} {pc : Nat} {ls : Array Slot} {rest st0 : List Value} {a : Array Value} {A : Nat → Prop} {H0 : Heap} {mc ms : Nat} {D : va_G} {ws1 ws2 : va_W} {M M1 M2 : mM} {Post : Option Value → mM → Prop}
    (hr : va_Run p l e R s m args below meth c H locs cells slots mc ms (F0 m pc ls st0) rest (mQ D ws1 H.size Post a) (va_A ws1 H.size)) (hsp : spl M M1 M2) (hR1 : mR M1 ws1) (hR2 : mR M2 ws2) (hP2 : va_P D vwCl ws2 H) (hD1 : va_D A ws1) (hD2 : va_D A ws2) (hS : va_S A H0 H locs) (hA : ∀ q, H0.size ≤ q → A q)
    (kk : ∀ (v : Option Value) (M' M1' : mM) (ws' : va_W) (H1 : Heap) (locs1 : List Loc), Post v M1' → spl M' M1' M2 → mR M' ws' → va_P D vwCl ws' H1 → va_D A ws' → va_S A H0 H1 locs1 → W p l e R s m args below meth c H1 locs1 (cells + mc) (slots + ms) Q (F0 m (pc + 3) ls (v.toList ++ rest))) : W p l e R s m args below meth c H locs cells slots Q (F0 m pc ls st0) := by
  intro T hT X
  obtain ⟨v, st₀, t, T', L, h0, X', hL, e1, e2, ⟨⟨v', M1', ws', hv, hp, hR', hP', hD'⟩, hz, hk⟩, st⟩ := hr T hT X
  cases hv
  rw [h0] at hz hk
  have hAA : ∀ q, va_A ws1 H.size q → A q := fun q hq => by
    rcases hq with ⟨j, f, hj⟩ | hq
    · exact hD1.2 j _ hj
    · exact hA q (Nat.le_trans hS.1 hq)
  have apart : ∀ q ∈ ws2, q.1 < H.size ∧ ¬ va_A ws1 H.size q.1 := fun q hq => by
    have hl := (va_P_mem.mp hP2 q hq).lt
    refine ⟨hl, fun h => ?_⟩
    rcases h with ⟨j, f, hj⟩ | h
    · have h1 := (hsp.at ((hR1 _ _).mpr ⟨j, hj⟩)).2
      have h2 := (mR_mem.mp hR2 q.1 q.2).mpr hq
      rw [h1] at h2
      cases h2
    · omega
  have hw' : ∀ q ∈ ws', va_A ws1 H.size q.1 := fun q hq => (List.getElem?_of_mem hq).elim (fun k hk => hD'.2 k q hk)
  have hM2 : ∀ x ev, M1' x = some ev → M2 x = none := fun x ev h => by
    cases h2 : M2 x with
    | none => rfl
    | some e2 => exact absurd (hw' _ ((mR_mem.mp hR' _ _).mp h)) (apart _ ((mR_mem.mp hR2 _ _).mp h2)).2
  have hsp' : spl (fun x => if (M1' x).isSome then M1' x else M2 x) M1' M2 := fun x => by
    cases h : M1' x with
    | none => exact Or.inr ⟨by simp [h], rfl⟩
    | some ev => exact Or.inl ⟨by simp [h], hM2 x ev h⟩
  obtain ⟨t2, a1, b1⟩ := kk v _ M1' (ws' ++ ws2) T'.heap (locs ++ L) hp hsp' (mR_mem.mpr (fun x ev => by
      rw [List.mem_append, ← mR_mem.mp hR' x ev, ← mR_mem.mp hR2 x ev]
      constructor
      · intro h
        rcases hsp' x with ⟨q1, -⟩ | ⟨q1, -⟩
        · exact Or.inl (q1 ▸ h)
        · exact Or.inr (q1 ▸ h)
      · rintro (h | h)
        · exact (hsp'.at h).1
        · exact (hsp'.symm.at h).1))
    (va_P_mem.mpr (fun q hq => by
      rcases List.mem_append.mp hq with h | h
      · rw [e1]
        exact va_P_mem.mp hP' q h
      · rw [e1]
        exact (va_P_mem.mp hP2 q h).kept (hk q.1 (apart q h).1 (apart q h).2)))
    (va_D_of (by
      rw [List.map_append, List.nodup_append]
      refine ⟨va_D_nd hD', va_D_nd hD2, fun x hx y hy exy => ?_⟩
      obtain ⟨q1, g1, rfl⟩ := List.mem_map.mp hx
      obtain ⟨q2, g2, rfl⟩ := List.mem_map.mp hy
      exact (apart q2 g2).2 (exy ▸ hw' q1 g1)) (fun q hq => by
      rcases List.mem_append.mp hq with h | h
      · exact hAA _ (hw' q h)
      · exact (List.getElem?_of_mem h).elim (fun k hk => hD2.2 k q hk)))
    ⟨Nat.le_trans hS.1 (by rw [e1]; exact hz), fun q h1 h2 => by rw [e1, hk q (Nat.lt_of_lt_of_le h1 hS.1) (fun z => h2 (hAA q z))]; exact hS.2.1 q h1 h2, fun q hq => by
      rcases List.mem_append.mp hq with h | h
      · exact hS.2.2 q h
      · exact hAA _ (hL q h)⟩ T' rfl X'
  exact ⟨t2, st t2 a1, b1⟩
theorem R_callVF {z : zT} {cc : ByteArray} {nL : Nat} {own nm : String} {F Lo : Nat} (X : BX z cc nL own nm F Lo) {pc : Nat} {L : List (Option Value)} {st : List Value} {M M1 M2 : mM} {k n : Nat} {C : String} {T : u_T} {N ci b : Nat} {fs : List Value} {y : MethodName} {F1 Lo1 mc1 ms1 nA index maxL : Nat} {bytes : ByteArray} {ret : Option FieldType} {av : List Value} {Post : Option Value → mM → Prop}
    (hk1 : Cond.code y bytes maxL ret ∈ lw_big) (hw1 : Cond.methodLink own index y ∈ lw_big) (hw2 : Cond.instanceMethod y ∈ lw_big) (hw3 : Cond.selects C y y ∈ lw_big) (hw4 : Cond.initialized C ∈ lw_big) (hdd : y.cls = C ∧ y.cls ≠ "java/lang/invoke/MethodHandle" ∧ y.cls ≠ "java/lang/invoke/VarHandle" ∧ (parseMethodDescriptor y.desc).map (fun d => d.parameters.length) = some nA) (hav : av.length = nA) (hF : F1 + 1 ≤ F) (hLo : 8 + (maxL + 11) + Lo1 ≤ Lo) (hst : st.length ≤ 4) (hd : decode cc pc = .ok (.invokevirtual index, 3)) (hLn : L.length = nL) (hc : vwCl[ci]? = some (C, T, N))
    (hsp : spl M M1 M2) (hM : M1 b = some (.inr (ci, fs))) (hC : Ct (zl z) (zD z) (zty z) y (Cond.code y bytes maxL ret :: lw_big) F1 Lo1 mc1 ms1 (.ref b :: av) M1 Post) (hk : k + mc1 ≤ (zR z).cells) (hn : n + ms1 ≤ (zR z).slots) (h : ∀ (v : Option Value) (M' M1' : mM), Post v M1' → spl M' M1' M2 → RN z (pc + 3) L (v.toList ++ st) M' (k + mc1) (n + ms1)) : RN z pc L (av.reverse ++ .ref b :: st) M k n := by
  obtain ⟨p, l, e, R, s, m, args, below, meth, c, Q, A, D, tys⟩ := z
  intro H locs ls ws hR hP hD hS hL
  have hcat := cat_le st
  obtain ⟨hx, hb, hml, hown, hnm, hts, hK, hA, hRF, hRL⟩ := X
  obtain ⟨ws1, hR1, hP1, hD1⟩ := m_part hsp hR hP hD
  obtain ⟨ws2, hR2, hP2, hD2⟩ := m_part hsp.symm hR hP hD
  obtain ⟨q, hq⟩ := (hR1 _ _).mp hM
  have hrun := va_runV (l := l) (e := e) (below := below) (meth := meth) (As := av) (rest := st) (g := F0 m pc ls (av.reverse ++ .ref b :: st)) (locs := locs) (cells := k) (slots := n) ⟨hx, hb, hml, hown, hts⟩ (hC H.size ws1 hR1) (cwV (R := R) nA hts (gd_V hk1 hw1 hw2 hw3 hw4) rfl rfl rfl hdd ⟨by rw [hRF]; exact hF, by rw [hRL]; exact hLo⟩)
    ⟨m_blind, va_recv hK.1 hP1 hc hq, fun U hU hW => ⟨rfl, by rw [hU], by rw [hU]; exact hP1, mK.warm hW hK, hD1.weaken (fun _ _ _ _ => trivial)⟩⟩ rfl hav (hL.1.trans hLn) rfl (lv_room (by omega)) hd ⟨hk, hn⟩
  exact m_callF hrun hsp hR1 hR2 hP2 hD1 hD2 hS hA (fun v M' M1' ws' H1 locs1 hp hs' hR' hP' hD' hS' => h v M' M1' hp hs' H1 locs1 ls ws' hR' hP' hD' hS' hL)
theorem R_callIF {z : zT} {cc : ByteArray} {nL : Nat} {own nm : String} {F Lo : Nat} (X : BX z cc nL own nm F Lo) {pc : Nat} {L : List (Option Value)} {st : List Value} {M M1 M2 : mM} {k n : Nat} {b : Nat} {y : MethodName} {F1 Lo1 mc1 ms1 nA index maxL : Nat} {bytes : ByteArray} {av : List Value} {Post : Option Value → mM → Prop}
    (hk1 : Cond.code y bytes maxL none ∈ lw_big) (hw1 : Cond.initialized y.cls ∈ lw_big) (hw2 : Cond.methodLink own index y ∈ lw_big) (hw3 : Cond.instanceMethod y ∈ lw_big) (hy : y.name = "<init>") (hdd : y.cls ≠ "java/lang/invoke/MethodHandle" ∧ y.cls ≠ "java/lang/invoke/VarHandle" ∧ (parseMethodDescriptor y.desc).map (fun d => d.parameters.length) = some nA) (hav : av.length = nA) (hF : F1 + 1 ≤ F) (hLo : 8 + (maxL + 11) + Lo1 ≤ Lo) (hst : st.length ≤ 4) (hd : decode cc pc = .ok (.invokespecial index, 3)) (hLn : L.length = nL)
    (hsp : spl M M1 M2) (hC : Ct (zl z) (zD z) (zty z) y (Cond.code y bytes maxL none :: lw_big) F1 Lo1 mc1 ms1 (.ref b :: av) M1 Post) (hk : k + mc1 ≤ (zR z).cells) (hn : n + ms1 ≤ (zR z).slots) (h : ∀ (v : Option Value) (M' M1' : mM), Post v M1' → spl M' M1' M2 → RN z (pc + 3) L (v.toList ++ st) M' (k + mc1) (n + ms1)) : RN z pc L (av.reverse ++ .ref b :: st) M k n := by
  obtain ⟨p, l, e, R, s, m, args, below, meth, c, Q, A, D, tys⟩ := z
  intro H locs ls ws hR hP hD hS hL
  have hcat := cat_le st
  obtain ⟨hx, hb, hml, hown, hnm, hts, hK, hA, hRF, hRL⟩ := X
  obtain ⟨ws1, hR1, hP1, hD1⟩ := m_part hsp hR hP hD
  obtain ⟨ws2, hR2, hP2, hD2⟩ := m_part hsp.symm hR hP hD
  have hrun := va_runI (l := l) (e := e) (below := below) (meth := meth) (As := av) (rest := st) (g := F0 m pc ls (av.reverse ++ .ref b :: st)) (locs := locs) (cells := k) (slots := n) ⟨hx, hb, hml, hown, hts⟩ (hC H.size ws1 hR1) (cwI (R := R) nA hts (gd_I hk1) rfl rfl rfl (hts _ hw1) (hts _ hw2) (hts _ hw3) hy hdd ⟨by rw [hRF]; exact hF, by rw [hRL]; exact hLo⟩)
    ⟨m_blind, fun U hU hW => ⟨rfl, by rw [hU], by rw [hU]; exact hP1, mK.warm hW hK, hD1.weaken (fun _ _ _ _ => trivial)⟩⟩ rfl hav (hL.1.trans hLn) rfl (lv_room (by omega)) hd ⟨hk, hn⟩
  exact m_callF hrun hsp hR1 hR2 hP2 hD1 hD2 hS hA (fun v M' M1' ws' H1 locs1 hp hs' hR' hP' hD' hS' => h v M' M1' hp hs' H1 locs1 ls ws' hR' hP' hD' hS' hL)
/-- the script lies outside the memory -/
def zX (b Ln : Nat) (xs : Nat → Int32) : zT → Prop
  | (_, _, _, _, s, _, _, _, _, _, _, A, _, _) => va_X b Ln xs s s.heap ∧ b < s.heap.size ∧ ¬ A b
theorem R_sld {z : zT} {cc : ByteArray} {nL : Nat} {own nm : String} {F Lo : Nat} (X : BX z cc nL own nm F Lo) {b Ln : Nat} {xs : Nat → Int32} (Y : zX b Ln xs z) {pc : Nat} {L : List (Option Value)} {st : List Value} {M : mM} {k n : Nat} {i : Int32} (hin : vp_in i Ln) (hd : decode cc pc = .ok (.iaload, 1)) (h : RN z (pc + 1) L (.int (xs i.toNatClampNeg) :: st) M k n) : RN z pc L (.int i :: .ref b :: st) M k n := by
  obtain ⟨p, l, e, R, s, m, args, below, meth, c, Q, A, D, tys⟩ := z
  intro H locs ls ws hR hP hD hS hL
  exact va_sld X.1 X.2.1 Y.1 Y.2.1 Y.2.2 hS hin hd (h H locs ls ws hR hP hD hS hL)
theorem R_slen {z : zT} {cc : ByteArray} {nL : Nat} {own nm : String} {F Lo : Nat} (X : BX z cc nL own nm F Lo) {b Ln : Nat} {xs : Nat → Int32} (Y : zX b Ln xs z) {pc : Nat} {L : List (Option Value)} {st : List Value} {M : mM} {k n : Nat} (hd : decode cc pc = .ok (.arraylength, 1)) (h : RN z (pc + 1) L (.int (nI Ln) :: st) M k n) : RN z pc L (.ref b :: st) M k n := by
  obtain ⟨p, l, e, R, s, m, args, below, meth, c, Q, A, D, tys⟩ := z
  intro H locs ls ws hR hP hD hS hL
  exact va_slen X.1 X.2.1 Y.1 Y.2.1 Y.2.2 hS hd (h H locs ls ws hR hP hD hS hL)
theorem lL_of {av : List Value} {maxL : Nat} {L0 : List (Option Value)} {ls : Array Slot} (hav : ∀ v ∈ av, v.category = 1) (hL0 : L0 = av.map some ++ List.replicate (maxL - av.length) none) (hl : av.length ≤ maxL) (hle : lv_has ls maxL (lv_args 0 av)) : lL ls L0 := by
  refine ⟨?_, hle.2.1, fun i v hi => ?_⟩
  · rw [hle.1, hL0]
    simp
    omega
  · rw [hL0] at hi
    by_cases hia : i < av.length
    · rw [List.getElem?_append_left (by simpa using hia), List.getElem?_map] at hi
      cases hq : av[i]? with
      | none => rw [hq] at hi; simp at hi
      | some w =>
        rw [hq] at hi
        simp at hi
        subst hi
        have h3 := lL_entry av 0 hav i w hq
        rw [Nat.zero_add] at h3
        exact ⟨hle.2.2 _ h3, hav w (List.mem_of_getElem? hq)⟩
    · rw [List.getElem?_append_right (by simp; omega), List.getElem?_replicate] at hi
      split at hi <;> simp at hi
/-- the contract of a method that reads the script -/
def CtX (b Ln : Nat) (xs : Nat → Int32) (l : Launch) (D : va_G) (tys : List (ClassId × FieldType)) (y : MethodName) (wsC : List Cond) (F Lo mc ms : Nat) (av : List Value) (M : mM) (Post : Option Value → mM → Prop) : Prop :=
  ∀ (sz : Nat) (ws : va_W), mR M ws → b < sz → ¬ va_A ws sz b → Met l y wsC { frames := F, cells := mc, slots := ms, locals := Lo } (va_Pc av (fun U => (U.heap.size = sz ∧ va_P D vwCl ws U.heap ∧ mK D tys U ∧ va_D (fun _ => True) ws) ∧ va_X b Ln xs U U.heap)) (mQ D ws sz Post) mc ms (va_A ws sz)
theorem CtX.of {b Ln : Nat} {xs : Nat → Int32} {l : Launch} {D : va_G} {tys : List (ClassId × FieldType)} {y : MethodName} {F Lo mc ms : Nat} {av : List Value} {M : mM} {Post : Option Value → mM → Prop} {cc : ByteArray} {maxL : Nat} {ret : Option FieldType} {L0 : List (Option Value)}
    (hy : plainName y.cls = true) (hav : ∀ v ∈ av, v.category = 1) (hl : av.length ≤ maxL) (hL0 : L0 = av.map some ++ List.replicate (maxL - av.length) none)
    (body : ∀ (z : zT) (ws0 : va_W), zl z = l → zD z = D → zty z = tys → zX b Ln xs z → BX z cc maxL y.cls y.name F Lo → BQ z ret ws0 mc ms Post → RN z 0 L0 [] M 0 0) : CtX b Ln xs l D tys y (Cond.code y cc maxL ret :: lw_big) F Lo mc ms av M Post := by
  intro sz ws hR hbs hbA
  refine Met.ofW (cc := cc) (maxL := maxL) (ret := ret) hy rfl ?_
  intro p e s m args below meth c s₁ B hml hv
  obtain ⟨rfl, ⟨hsz, hP, hK, hD0⟩, hX⟩ := hv
  subst hsz
  have hts := atoms_spec (ws := Cond.code y cc maxL ret :: lw_big) B.pre
  have hown : s.vm.findClass y.cls = some m.cls := findClass_of_methodNamed B.named
  have hin : meth.name = y.name := (name_of_methodNamed B.named B.method).1
  have hD := hD0.self (sz := s.heap.size)
  have hlen : (lg_sl av).length ≤ maxL := by rw [lg_sl_one av hav]; exact hl
  have hle := lv_entry av (n := maxL) hlen
  rw [lg_entry_eq]
  generalize (lg_sl av ++ List.replicate (maxL - (lg_sl av).length) Slot.unset).toArray = ls at hle ⊢
  have hll : lL ls L0 := lL_of hav hL0 hl hle
  exact body (p, l, e, (headSpec (Cond.code y cc maxL ret :: lw_big) { frames := F, cells := mc, slots := ms, locals := Lo }).room, s, m, av.toArray, below, meth, c, _, va_A ws s.heap.size, D, tys) ws rfl rfl rfl ⟨hX, hbs, hbA⟩ ⟨B.exec, B.bytes, hml, hown, hin, fun w h => hts w (List.mem_cons_of_mem _ h), hK, fun q h => Or.inr h, rfl, rfl⟩ ⟨B.returns, B.notSynchronized, rfl, rfl, rfl, rfl⟩ s.heap [] ls ws hR hP hD va_S.rf hll
theorem mx_blind {b Ln : Nat} {xs : Nat → Int32} {av : List Value} {sz : Nat} {D : va_G} {tys : List (ClassId × FieldType)} {ws : va_W} : FrameBlind (va_Pc av (fun U => (U.heap.size = sz ∧ va_P D vwCl ws U.heap ∧ mK D tys U ∧ va_D (fun _ => True) ws) ∧ va_X b Ln xs U U.heap)) := fun a U g mk q => by
  obtain ⟨q0, ⟨q1, qP, qK, qD⟩, qX⟩ := q
  exact ⟨q0, ⟨q1, qP, mK.same (s := U) (U := U.calling g mk a) rfl qK, qD⟩, va_X.moved (Vm.Alike.refl _) qX⟩
theorem R_callC {z : zT} {cc : ByteArray} {nL : Nat} {own nm : String} {F Lo : Nat} (X : BX z cc nL own nm F Lo) {b Ln : Nat} {xs : Nat → Int32} (Y : zX b Ln xs z) {pc : Nat} {L : List (Option Value)} {st : List Value} {M : mM} {k n : Nat} {y : MethodName} {F1 Lo1 mc1 ms1 nA index maxL : Nat} {bytes : ByteArray} {ret : Option FieldType} {av : List Value} {Post : Option Value → mM → Prop}
    (hk1 : Cond.code y bytes maxL ret ∈ lw_big) (hw1 : Cond.methodLink own index y ∈ lw_big) (hw2 : Cond.static y ∈ lw_big) (hw3 : Cond.initialized own ∈ lw_big) (hdd : y.cls = own ∧ y.cls ≠ "java/lang/invoke/MethodHandle" ∧ y.cls ≠ "java/lang/invoke/VarHandle" ∧ (parseMethodDescriptor y.desc).map (fun d => d.parameters.length) = some nA) (hav : av.length = nA) (hF : F1 + 1 ≤ F) (hLo : 8 + (maxL + 11) + Lo1 ≤ Lo) (hst : st.length ≤ 4) (hd : decode cc pc = .ok (.invokestatic index, 3)) (hLn : L.length = nL)
    (hC : CtX b Ln xs (zl z) (zD z) (zty z) y (Cond.code y bytes maxL ret :: lw_big) F1 Lo1 mc1 ms1 av M Post) (hk : k + mc1 ≤ (zR z).cells) (hn : n + ms1 ≤ (zR z).slots) (h : ∀ (v : Option Value) (M' : mM), Post v M' → RN z (pc + 3) L (v.toList ++ st) M' (k + mc1) (n + ms1)) : RN z pc L (av.reverse ++ st) M k n := by
  obtain ⟨p, l, e, R, s, m, args, below, meth, c, Q, A, D, tys⟩ := z
  intro H locs ls ws hR hP hD hS hL
  have hcat := cat_le st
  obtain ⟨hx, hb, hml, hown, hnm, hts, hK, hA, hRF, hRL⟩ := X
  obtain ⟨hX, hbl, hbA⟩ := Y
  have hbA' : ¬ va_A ws H.size b := fun hq => by
    rcases hq with ⟨j, f, hj⟩ | hq
    · exact hbA (hD.2 j _ hj)
    · exact absurd (Nat.lt_of_lt_of_le hbl hS.1) (Nat.not_lt.mpr hq)
  have hX1 : va_X b Ln xs s H := hX.kept (hS.2.1 b hbl hbA)
  have hrun := va_runS (l := l) (e := e) (below := below) (meth := meth) (As := av) (rest := st) (g := F0 m pc ls (av.reverse ++ st)) (locs := locs) (cells := k) (slots := n) ⟨hx, hb, hml, hown, hts⟩ (hC H.size ws hR (Nat.lt_of_lt_of_le hbl hS.1) hbA') (cwS (R := R) nA hts (gd_S hk1 hw1 hw2 hw3) rfl rfl rfl hdd ⟨by rw [hRF]; exact hF, by rw [hRL]; exact hLo⟩)
    ⟨mx_blind, fun U hU hW => ⟨rfl, ⟨by rw [hU], by rw [hU]; exact hP, mK.warm hW hK, hD.weaken (fun _ _ _ _ => trivial)⟩, by rw [hU]; exact va_X.moved hW.alike hX1⟩⟩ rfl hav (hL.1.trans hLn) rfl (lv_room (by omega)) hd ⟨hk, hn⟩
  exact m_call hrun hD hS hA (fun v M' ws' H1 locs1 hp hR' hP' hD' hS' => h v M' hp H1 locs1 ls ws' hR' hP' hD' hS' hL)
