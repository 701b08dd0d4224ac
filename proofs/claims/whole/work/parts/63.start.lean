set_option maxRecDepth 20000 in
set_option maxHeartbeats 4000000 in
theorem law_run {z : zT} {nm : String} {b0 Ln : Nat} {xs : Nat → Int32} (X : B_L_law z nm b0 Ln xs) {cI cB cN : ClassId} (G : GT z cI cB cN) (hLn : Ln ≤ 2562) : RN z 0 [some (.ref b0), none, none, none] [] (fun _ => none) 0 0 := by
  refine i_L_law_0 X (hk := by omega) (hn := by omega) (h := fun q0 hq0 => ?_)
  refine i_L_law_3 X (h := ?_)
  refine i_L_law_4 X (h := ?_)
  refine i_L_law_5 X (h := ?_)
  refine i_L_law_6 X (hC := ct_L_cell (by omega) (j := 0) (by omega)) (hk := by omega) (hn := by omega) (h := fun v6 M6 hp6 => ?_)
  obtain ⟨rfl, rfl⟩ := hp6
  refine i_L_law_9 X (h := ?_)
  refine i_L_law_10 X (h := ?_)
  refine i_L_law_11 X (hC := ct_L_cell (by omega) (j := 1) (by omega)) (hk := by omega) (hn := by omega) (h := fun v11 M11 hp11 => ?_)
  obtain ⟨rfl, rfl⟩ := hp11
  refine i_L_law_14 X (hsp := spl_0 _) (hC := ct_P_init G (mS_self _ _ _) _ _) (hk := by omega) (hn := by omega) (h := fun v14 M14 N14 hp14 hs14 => ?_)
  obtain ⟨rfl, hC14⟩ := hp14
  refine i_L_law_17 X (h := ?_)
  refine i_L_law_18 X (hk := by omega) (hn := by omega) (h := fun q18 hq18 => ?_)
  refine i_L_law_21 X (h := ?_)
  refine i_L_law_22 X (h := ?_)
  refine i_L_law_23 X (h := ?_)
  refine i_L_law_24 X (hC := ct_L_cell (by omega) (j := 0) (by omega)) (hk := by omega) (hn := by omega) (h := fun v24 M24 hp24 => ?_)
  obtain ⟨rfl, rfl⟩ := hp24
  refine i_L_law_27 X (h := ?_)
  refine i_L_law_28 X (h := ?_)
  refine i_L_law_29 X (hC := ct_L_cell (by omega) (j := 1) (by omega)) (hk := by omega) (hn := by omega) (h := fun v29 M29 hp29 => ?_)
  obtain ⟨rfl, rfl⟩ := hp29
  refine i_L_law_32 X (hsp := (hs14.new hq18).symm) (hC := ct_T_init G (mS_self _ _ _) _ _) (hk := by omega) (hn := by omega) (h := fun v32 M32 N32 hp32 hs32 => ?_)
  obtain ⟨rfl, hS32⟩ := hp32
  refine i_L_law_35 X (h := ?_)
  refine i_L_law_36 X (h := ?_)
  refine i_L_law_37 X (h := ?_)
  refine R_widen X.1 (k1 := 39 + 3 * 0) (n1 := 6629 + 12 * 0) (by omega) (by omega) ?_
  exact lp_L_law X G hLn 513 0 _ _ _ _ rfl hs32.symm hC14 hS32
set_option maxRecDepth 20000 in
set_option maxHeartbeats 4000000 in
/-- the classes and the arrays, as the tables have them -/
theorem law_K {s : State} {args : Array Value} (hts : ∀ w ∈ lw_tbl, w.before args s = true) : ∃ (D : va_G) (cI cB cN : ClassId), mK D [(cI, .int), (cB, .boolean), (cN, .object RX0)] s := by
  have hbig : ∀ w ∈ lw_big, w.before args s = true := fun w h => hts w (List.mem_filter.mp h).1
  obtain ⟨c0, i0, hK0⟩ := u_known (C := RX0) (T := TX0) (N := 4) (n := 4) hbig inX0 (hbig _ wd_55)
  obtain ⟨c1, i1, hK1⟩ := u_known (C := RX1) (T := TX1) (N := 3) (n := 3) hbig inX1 (hbig _ wd_184)
  obtain ⟨c2, i2, hK2⟩ := u_known (C := RX2) (T := TX2) (N := 5) (n := 5) hbig inX2 (hbig _ wd_153)
  obtain ⟨c3, i3, hK3⟩ := u_known (C := RX3) (T := TX3) (N := 11) (n := 11) hbig inX3 (hbig _ wd_37)
  obtain ⟨c4, i4, hK4⟩ := u_known (C := RX4) (T := TX4) (N := 18) (n := 18) hbig inX4 (hbig _ wd_324)
  obtain ⟨cI, kI, pI, hI1, hI2, hI3⟩ := Cond.arrayClass_spec (hbig _ wd_75)
  obtain ⟨cB, kB, pB, hB1, hB2, hB3⟩ := Cond.arrayClass_spec (hbig _ wd_384)
  have hAO : va_AO RX0 s := va_AO.of (hts (Cond.arrayOver (.object RX0)) (List.mem_of_getElem? (i := 45) (by decide +kernel)))
  have hN1 : (Cond.methodLinkNest RX3 51 y_N_init RX3).before args s = true := hts _ (List.mem_of_getElem? (i := 56) (by decide +kernel))
  have hN2 : (Cond.castable "[I" "java/lang/Cloneable").before args s = true := hts _ (List.mem_of_getElem? (i := 238) (by decide +kernel))
  obtain ⟨comp, cN, kN, hN3, hN4, hN5, hN6, hN7⟩ := Cond.arrayOver_spec hAO
  refine ⟨(fun k => if k = 0 then c0 else if k = 1 then c1 else if k = 2 then c2 else if k = 3 then c3 else c4, fun k => if k = 0 then i0 else if k = 1 then i1 else if k = 2 then i2 else if k = 3 then i3 else i4), cI, cB, cN, ⟨?_, ?_⟩, hAO, hN1, hN2⟩
  · intro k q hq
    match k, hq with
    | 0, hq => cases hq; exact hK0
    | 1, hq => cases hq; exact hK1
    | 2, hq => cases hq; exact hK2
    | 3, hq => cases hq; exact hK3
    | 4, hq => cases hq; exact hK4
    | k + 5, hq => simp at hq
  · intro k q hq
    match k, hq with
    | 0, hq => cases hq; exact ⟨fun n z => ⟨fun k h => (by cases h), kI, hI2, pI, hI3⟩, hI1⟩
    | 1, hq => cases hq; exact ⟨fun n z => ⟨fun k h => (by cases h), kB, hB2, pB, hB3⟩, hB1⟩
    | 2, hq => cases hq; exact ⟨fun n z => ⟨fun k h => (by cases h), kN, hN5, comp, hN6⟩, kN, comp, hN5, hN6, hN3, hN7⟩
    | k + 3, hq => simp at hq
set_option maxRecDepth 20000 in
set_option maxHeartbeats 4000000 in
theorem whole_start {p : Program} {e : Env} {s : State} {m : MethodId} {below : List Frame} {meth : Method} {c : Code} (l : Launch) {b L : Nat} {xs : Nat → Int32} (hL : L ≤ 2562) (C0 : lw_At p s m meth c b L xs) : W p l e room_1 s m #[Value.ref b] below meth c s.heap [] 0 0 (lw_Z below #[Value.ref b] s) (entryFrame m ([Value.ref b] : List Value).toArray 4) := by
  obtain ⟨hx, hb, hr, hml, hown, hts, hX, hbl, hlocks, hgv⟩ := C0
  obtain ⟨D, cI, cB, cN, hK⟩ := law_K hts
  have hbig : ∀ w ∈ lw_big, w.before #[Value.ref b] s = true := fun w h => hts w (List.mem_filter.mp h).1
  have hle := lv_entry [Value.ref b] (n := 4) (by rw [lg_sl_one [Value.ref b] (by intro v hv; simp only [List.mem_cons, List.not_mem_nil, or_false] at hv; rcases hv with rfl; rfl)]; simp)
  rw [lg_entry_eq]
  generalize (lg_sl [Value.ref b] ++ List.replicate (4 - (lg_sl [Value.ref b]).length) Slot.unset).toArray = ls at hle ⊢
  have hll : lL ls [some (.ref b), none, none, none] := lL_of (maxL := 4) (av := [Value.ref b]) (by intro v hv; simp only [List.mem_cons, List.not_mem_nil, or_false] at hv; rcases hv with rfl; rfl) rfl (by simp) hle
  have hX0 : B_L_law (p, l, e, room_1, s, m, #[Value.ref b], below, meth, c, lw_Z below #[Value.ref b] s, fun q => s.heap.size ≤ q, D, [(cI, .int), (cB, .boolean), (cN, .object RX0)]) meth.name b L xs := ⟨⟨hx, hb, hml, hown, rfl, hbig, hK, fun q h => h, rfl, rfl⟩, ⟨hr, hlocks⟩, rfl, rfl, rfl, rfl, hX, hbl⟩
  have hrun := law_run hX0 (cI := cI) (cB := cB) (cN := cN) ⟨rfl, rfl, rfl⟩ hL
  refine hrun s.heap [] ls [] (fun a ev => ⟨(fun h => by cases h), (fun ⟨k, hk⟩ => by simp at hk)⟩) (fun k q h => by simp at h) ⟨(fun i j p q h => by simp at h), (fun k q h => by simp at h)⟩ va_S.rf hll
