def celV : List vV → Nat → Int32
  | [] => fun _ => 0
  | (_, _, cs, _) :: _ => cs
def F_write : sS → Int32 → Int32 → Int32 → Int32 × sS
  | ((w, g), (ck, m, ch), (dc, dm, dh), ev, sp, vs, ds, dv), f, c, x => if fil m vs f ∧ cel c then (if 512 ≤ ev then (-2, ((w, g), (ck, m, ch), (dc, dm, dh), ev, sp, vs, ds, dv)) else (latR ck (vs f.toNatClampNeg), ((w, g), (ck, m, ch + 1), (dc, dm, dh), ev + 1, sp, va_up vs f.toNatClampNeg (addV ck (upd (celV (vs f.toNatClampNeg)) c.toNatClampNeg x) (vs f.toNatClampNeg)), ds, dv))) else (-1, ((w, g), (ck, m, ch), (dc, dm, dh), ev, sp, vs, ds, dv))
set_option maxRecDepth 20000 in
set_option maxHeartbeats 1000000 in
theorem ct_P_write {l : Launch} {D : va_G} {tys : List (ClassId × FieldType)} {M : mM} {cI cB cN : ClassId} {h0 : Nat} {w g ck ch dc dh ev : Int32} {m dm : Nat} {sp ds : Nat → List (Int32 × Int32)} {vs dv : Nat → List vV} (G : tys[0]? = some (cI, .int) ∧ tys[1]? = some (cB, .boolean) ∧ tys[2]? = some (cN, .object RX0)) (hm : m ≤ 24) (hC : CS M cI cN h0 ((w, g), (ck, m, ch), (dc, dm, dh), ev, sp, vs, ds, dv)) (f c x : Int32) : Ct_P_write l D tys 2 9 [.ref h0, .int f, .int c, .int x] M (fun v M1 => ∃ r s1, F_write ((w, g), (ck, m, ch), (dc, dm, dh), ev, sp, vs, ds, dv) f c x = (r, s1) ∧ v = some (.int r) ∧ CS M1 cI cN h0 s1) := by
  refine Ct.of (cc := c_P_write) (maxL := 6) (ret := (some (.int))) (L0 := [some (.ref h0), some (.int f), some (.int c), some (.int x), none, none]) (by decide) (by intro v hv; simp only [List.mem_cons, List.not_mem_nil, or_false] at hv; rcases hv with rfl | rfl | rfl | rfl <;> first | rfl | exact mRf_cat (mRf_rf _)) (by simp) rfl ?_
  intro z ws0 hl hD ht X1 X2
  subst hl; subst hD; subst ht
  have X := And.intro X1 X2
  clear X1 X2
  obtain ⟨na, pa, nd, ow, sr, vr, dr, er, pl, hI⟩ := hC
  have hI0 := hI
  obtain ⟨hO, hNa, hPa, hNd, hNi⟩ := hI
  refine i_P_write_0 X (h := ?_)
  refine i_P_write_1 X (h := ?_)
  refine i_P_write_2 X (hM := by assumption) (hC := ct_P_latestVersion (cB := cB) G hm hI0 f) (hk := by omega) (hn := by omega) (h := fun v2 M2 hp2 => ?_)
  obtain ⟨rfl, rfl⟩ := hp2
  refine i_P_write_5 X (h := ?_)
  refine i_P_write_7 X (h := ?_)
  refine i_P_write_9 X (h1 := fun c9 => ?_) (h2 := fun q9 c9 => ?_)
  · skip
    have f9 := fil_null hm (fun i hi => (hNd i hi).2.2.1) c9
    refine i_P_write_19 X (h := ?_)
    exact i_P_write_20 X (hk := by omega) (hn := by omega) (hp := ⟨_, _, by simp only [F_write]; rw [if_neg (fun h => f9 h.1)], rfl, CS.of hI0⟩)
  · skip
    obtain ⟨f9, f1, hf1, rfl, hla⟩ := fil_ref hm (fun i hi => (hNd i hi).2.2.1) c9
    rw [c9]
    refine i_P_write_12 X (h := ?_)
    refine i_P_write_13 X (hC := ct_P_isCell c) (hk := by omega) (hn := by omega) (h := fun v13 M13 hp13 => ?_)
    obtain ⟨rfl, rfl⟩ := hp13
    refine i_P_write_16 X (h1 := fun c16 => ?_) (h2 := fun c16 => ?_)
    · skip
      have f16 := bI_ne0 c16
      obtain ⟨c1, hc1, rfl⟩ := ix_of (m := 4) f16 (by decide)
      obtain ⟨t1, x1, cs1, g1, rs1, ca1, b1, hl1, ha1, hca1, hb1⟩ := vrc_some (by rw [← hla]; exact (hNd f1 (by omega)).2.2.1)
      refine i_P_write_21 X (h := ?_)
      refine i_P_write_22 X (hM := by assumption) (hC := ct_P_isUsedUp hO) (hk := by omega) (hn := by omega) (h := fun v22 M22 hp22 => ?_)
      obtain ⟨rfl, rfl⟩ := hp22
      refine i_P_write_25 X (h1 := fun c25 => ?_) (h2 := fun c25 => ?_)
      · skip
        have f25 := bI_eq0 c25
        refine i_P_write_31 X (h := ?_)
        refine i_P_write_33 X (hM := ha1) (h := ?_)
        refine i_P_write_36 X G (hM := hca1) (hk := by omega) (hn := by omega) (h := fun q36 hq36 => ?_)
        refine i_P_write_39 X G (hM := mS_self _ _ _) (h := ?_)
        refine i_P_write_42 X (h := ?_)
        refine i_P_write_44 X (h := ?_)
        refine i_P_write_46 X (h := ?_)
        refine i_P_write_47 X (h := ?_)
        refine i_P_write_48 X G (hM := mS_self _ _ _) (hx := rfl) (hj := hc1) (h := ?_)
        rw [mS_mS]
        have hI1 := IC.fresh hI0 hq36 (.inl (cI, 4, .inl (upd cs1 c1 x)))
        refine i_P_write_49 X (h := ?_)
        refine i_P_write_50 X (h := ?_)
        refine i_P_write_51 X (h := ?_)
        refine i_P_write_53 X (h := ?_)
        refine i_P_write_55 X (hC := ct_P_addVersion (cB := cB) G hI1 (i := f1) (by omega) hla hl1 (cr := q36) (cs := upd cs1 c1 x) (mS_self _ _ _)) (hk := by omega) (hn := by omega) (hM := hI1.1) (h := fun v55 M55 hp55 => ?_)
        obtain ⟨rfl, q1, hI2⟩ := hp55
        exact i_P_write_58 X (hk := by omega) (hn := by omega) (hp := ⟨_, _, by simp only [F_write]; rw [if_pos ⟨f9, f16⟩, if_neg f25, nI_clamp (n := f1) (by omega), nI_clamp (n := c1) (by omega), hl1]; rfl, rfl, by have q := CS.of hI2; rw [hl1] at q; exact q⟩)
      · skip
        have f25 := bI_ne0 c25
        refine i_P_write_28 X (h := ?_)
        exact i_P_write_30 X (hk := by omega) (hn := by omega) (hp := ⟨_, _, by simp only [F_write]; rw [if_pos ⟨f9, f16⟩, if_pos f25], rfl, CS.of hI0⟩)
    · skip
      have f16 := bI_eq0 c16
      refine i_P_write_19 X (h := ?_)
      exact i_P_write_20 X (hk := by omega) (hn := by omega) (hp := ⟨_, _, by simp only [F_write]; rw [if_neg (fun h => f16 h.2)], rfl, CS.of hI0⟩)
def tbF (ck : Int32) (l : List vV) (ev : Int32) (no : Int32 → Int32 × sS) (yes : Int32 → (Nat → Int32) → Int32 × sS) : List vV → Int32 × sS
  | [] => no (-1)
  | (_, _, cs, g) :: _ => if ¬ g = 0 then no (-1) else if 512 ≤ ev then no (-2) else yes (latR ck l) cs
def F_turnBack : sS → Int32 → Int32 → Int32 × sS
  | ((w, g), (ck, m, ch), (dc, dm, dh), ev, sp, vs, ds, dv), f, t => if fil m vs f ∧ ¬ t < 0 then tbF ck (vs f.toNatClampNeg) ev (fun r => (r, ((w, g), (ck, m, ch), (dc, dm, dh), ev, sp, vs, ds, dv))) (fun r cs => (r, ((w, g), (ck, m, ch + 1), (dc, dm, dh), ev + 1, sp, va_up vs f.toNatClampNeg (addV ck cs (vs f.toNatClampNeg)), ds, dv))) (vao (vs f.toNatClampNeg) t) else (-1, ((w, g), (ck, m, ch), (dc, dm, dh), ev, sp, vs, ds, dv))
set_option maxRecDepth 20000 in
set_option maxHeartbeats 1000000 in
theorem ct_P_turnBack {l : Launch} {D : va_G} {tys : List (ClassId × FieldType)} {M : mM} {cI cB cN : ClassId} {h0 : Nat} {w g ck ch dc dh ev : Int32} {m dm : Nat} {sp ds : Nat → List (Int32 × Int32)} {vs dv : Nat → List vV} (G : tys[0]? = some (cI, .int) ∧ tys[1]? = some (cB, .boolean) ∧ tys[2]? = some (cN, .object RX0)) (hm : m ≤ 24) (hC : CS M cI cN h0 ((w, g), (ck, m, ch), (dc, dm, dh), ev, sp, vs, ds, dv)) (f t : Int32) : Ct_P_turnBack l D tys 1 5 [.ref h0, .int f, .int t] M (fun v M1 => ∃ r s1, F_turnBack ((w, g), (ck, m, ch), (dc, dm, dh), ev, sp, vs, ds, dv) f t = (r, s1) ∧ v = some (.int r) ∧ CS M1 cI cN h0 s1) := by
  refine Ct.of (cc := c_P_turnBack) (maxL := 5) (ret := (some (.int))) (L0 := [some (.ref h0), some (.int f), some (.int t), none, none]) (by decide) (by intro v hv; simp only [List.mem_cons, List.not_mem_nil, or_false] at hv; rcases hv with rfl | rfl | rfl <;> first | rfl | exact mRf_cat (mRf_rf _)) (by simp) rfl ?_
  intro z ws0 hl hD ht X1 X2
  subst hl; subst hD; subst ht
  have X := And.intro X1 X2
  clear X1 X2
  obtain ⟨na, pa, nd, ow, sr, vr, dr, er, pl, hI⟩ := hC
  have hI0 := hI
  obtain ⟨hO, hNa, hPa, hNd, hNi⟩ := hI
  refine i_P_turnBack_0 X (h := ?_)
  refine i_P_turnBack_1 X (h := ?_)
  refine i_P_turnBack_2 X (hM := by assumption) (hC := ct_P_latestVersion (cB := cB) G hm hI0 f) (hk := by omega) (hn := by omega) (h := fun v2 M2 hp2 => ?_)
  obtain ⟨rfl, rfl⟩ := hp2
  refine i_P_turnBack_5 X (h := ?_)
  refine i_P_turnBack_6 X (h := ?_)
  refine i_P_turnBack_7 X (h1 := fun c7 => ?_) (h2 := fun q7 c7 => ?_)
  · skip
    have f7 := fil_null hm (fun i hi => (hNd i hi).2.2.1) c7
    refine i_P_turnBack_14 X (h := ?_)
    exact i_P_turnBack_15 X (hk := by omega) (hn := by omega) (hp := ⟨_, _, by simp only [F_turnBack]; rw [if_neg (fun h => f7 h.1)], rfl, CS.of hI0⟩)
  · skip
    obtain ⟨f7, f1, hf1, rfl, hla⟩ := fil_ref hm (fun i hi => (hNd i hi).2.2.1) c7
    rw [c7]
    obtain ⟨t0, x0, cs0, g0, rs0, ca0, b0, hl0, ha0, hca0, hb0⟩ := vrc_some (by rw [← hla]; exact (hNd f1 (by omega)).2.2.1)
    refine i_P_turnBack_10 X (h := ?_)
    refine i_P_turnBack_11 X (h1 := fun c11 => ?_) (h2 := fun c11 => ?_)
    · skip
      refine i_P_turnBack_16 X (h := ?_)
      refine i_P_turnBack_17 X (h := ?_)
      refine i_P_turnBack_18 X (hC := ct_P_versionAsOf (r := some q7) (by rw [← hla]; exact (hNd f1 (by omega)).2.2.1) t) (hk := by omega) (hn := by omega) (h := fun v18 M18 hp18 => ?_)
      obtain ⟨r1, rfl, rfl, hr1⟩ := hp18
      refine i_P_turnBack_21 X (h := ?_)
      refine i_P_turnBack_23 X (h := ?_)
      refine i_P_turnBack_25 X (h1 := fun c25 => ?_) (h2 := fun q25 c25 => ?_)
      · skip
        have q1 := va_rf_null c25
        have hl1 := List.isEmpty_iff.mp ((vrc_nil hr1).mpr q1)
        refine i_P_turnBack_36 X (h := ?_)
        exact i_P_turnBack_37 X (hk := by omega) (hn := by omega) (hp := ⟨_, _, by simp only [F_turnBack]; rw [if_pos ⟨f7, Int32.not_lt.mpr c11⟩, nI_clamp (n := f1) (by omega), hl1]; rfl, rfl, CS.of hI0⟩)
      · skip
        have q1 := va_rf_ref c25
        subst q1
        obtain ⟨t1, x1, cs1, g1, rs1, ca1, b1, hl1, ha1, hca1, hb1⟩ := vrc_some hr1
        refine i_P_turnBack_28 X (h := ?_)
        refine i_P_turnBack_30 X (hM := ha1) (h := ?_)
        refine i_P_turnBack_33 X (h1 := fun c33 => ?_) (h2 := fun c33 => ?_)
        · skip
          refine i_P_turnBack_38 X (h := ?_)
          refine i_P_turnBack_39 X (hM := by assumption) (hC := ct_P_isUsedUp hO) (hk := by omega) (hn := by omega) (h := fun v39 M39 hp39 => ?_)
          obtain ⟨rfl, rfl⟩ := hp39
          refine i_P_turnBack_42 X (h1 := fun c42 => ?_) (h2 := fun c42 => ?_)
          · skip
            have f42 := bI_eq0 c42
            refine i_P_turnBack_48 X (h := ?_)
            refine i_P_turnBack_49 X (h := ?_)
            refine i_P_turnBack_50 X (h := ?_)
            refine i_P_turnBack_51 X (h := ?_)
            refine i_P_turnBack_53 X (hM := ha1) (h := ?_)
            refine i_P_turnBack_56 X (hM := by assumption) (hC := ct_P_addVersion (cB := cB) G hI0 (i := f1) (by omega) hla hl0 (cr := ca1) (cs := cs1) hca1) (hk := by omega) (hn := by omega) (h := fun v56 M56 hp56 => ?_)
            obtain ⟨rfl, q1, hI2⟩ := hp56
            exact i_P_turnBack_59 X (hk := by omega) (hn := by omega) (hp := ⟨_, _, by simp only [F_turnBack]; rw [if_pos ⟨f7, Int32.not_lt.mpr c11⟩, nI_clamp (n := f1) (by omega), hl1]; simp only [tbF]; rw [if_neg (fun h => h c33), if_neg f42, hl0]; rfl, rfl, by have q := CS.of hI2; rw [hl0] at q; exact q⟩)
          · skip
            have f42 := bI_ne0 c42
            refine i_P_turnBack_45 X (h := ?_)
            exact i_P_turnBack_47 X (hk := by omega) (hn := by omega) (hp := ⟨_, _, by simp only [F_turnBack]; rw [if_pos ⟨f7, Int32.not_lt.mpr c11⟩, nI_clamp (n := f1) (by omega), hl1]; simp only [tbF]; rw [if_neg (fun h => h c33), if_pos f42], rfl, CS.of hI0⟩)
        · skip
          refine i_P_turnBack_36 X (h := ?_)
          exact i_P_turnBack_37 X (hk := by omega) (hn := by omega) (hp := ⟨_, _, by simp only [F_turnBack]; rw [if_pos ⟨f7, Int32.not_lt.mpr c11⟩, nI_clamp (n := f1) (by omega), hl1]; simp only [tbF]; rw [if_pos c33], rfl, CS.of hI0⟩)
    · skip
      refine i_P_turnBack_14 X (h := ?_)
      exact i_P_turnBack_15 X (hk := by omega) (hn := by omega) (hp := ⟨_, _, by simp only [F_turnBack]; rw [if_neg (fun h => h.2 (Int32.not_le.mp c11))], rfl, CS.of hI0⟩)
def F_make : sS → Int32 → Int32 → Int32 → Int32 × sS
  | ((w, g), (ck, m, ch), (dc, dm, dh), ev, sp, vs, ds, dv), f, n, b => if fdr m vs f ∧ nam n then (if rmF sp ck f.toNatClampNeg n.toNatClampNeg then (if m = 24 ∨ 512 ≤ ev then (-2, ((w, g), (ck, m, ch), (dc, dm, dh), ev, sp, vs, ds, dv)) else (nI m, ((w, g), (ck, m + 1, ch + 1), (dc, dm, dh), ev + 1, va_up sp m ((ck, nI (f.toNatClampNeg * 8 + n.toNatClampNeg)) :: sp m), if b = 0 then va_up vs m [(ck, 0, fun _ => 0, 0)] else vs, ds, dv))) else (-1, ((w, g), (ck, m, ch), (dc, dm, dh), ev, sp, vs, ds, dv))) else (-1, ((w, g), (ck, m, ch), (dc, dm, dh), ev, sp, vs, ds, dv))
set_option maxRecDepth 20000 in
set_option maxHeartbeats 1000000 in
theorem ct_P_make {l : Launch} {D : va_G} {tys : List (ClassId × FieldType)} {M : mM} {cI cB cN : ClassId} {h0 : Nat} {w g ck ch dc dh ev : Int32} {m dm : Nat} {sp ds : Nat → List (Int32 × Int32)} {vs dv : Nat → List vV} (G : tys[0]? = some (cI, .int) ∧ tys[1]? = some (cB, .boolean) ∧ tys[2]? = some (cN, .object RX0)) (hm : m ≤ 24) (hC : CS M cI cN h0 ((w, g), (ck, m, ch), (dc, dm, dh), ev, sp, vs, ds, dv)) (f n b : Int32) : Ct_P_make l D tys 3 12 [.ref h0, .int f, .int n, .int b] M (fun v M1 => ∃ r s1, F_make ((w, g), (ck, m, ch), (dc, dm, dh), ev, sp, vs, ds, dv) f n b = (r, s1) ∧ v = some (.int r) ∧ CS M1 cI cN h0 s1) := by
  refine Ct.of (cc := c_P_make) (maxL := 5) (ret := (some (.int))) (L0 := [some (.ref h0), some (.int f), some (.int n), some (.int b), none]) (by decide) (by intro v hv; simp only [List.mem_cons, List.not_mem_nil, or_false] at hv; rcases hv with rfl | rfl | rfl | rfl <;> first | rfl | exact mRf_cat (mRf_rf _)) (by simp) rfl ?_
  intro z ws0 hl hD ht X1 X2
  subst hl; subst hD; subst ht
  have X := And.intro X1 X2
  clear X1 X2
  obtain ⟨na, pa, nd, ow, sr, vr, dr, er, pl, hI⟩ := hC
  have hI0 := hI
  obtain ⟨hO, hNa, hPa, hNd, hNi⟩ := hI
  refine i_P_make_0 X (h := ?_)
  refine i_P_make_1 X (h := ?_)
  refine i_P_make_2 X (hM := by assumption) (hC := ct_P_isMadeFolder (cB := cB) G hm hI0 f) (hk := by omega) (hn := by omega) (h := fun v2 M2 hp2 => ?_)
  obtain ⟨rfl, rfl⟩ := hp2
  refine i_P_make_5 X (h1 := fun c5 => ?_) (h2 := fun c5 => ?_)
  · skip
    have f5 := bI_eq0 c5
    refine i_P_make_15 X (h := ?_)
    exact i_P_make_16 X (hk := by omega) (hn := by omega) (hp := ⟨_, _, by simp only [F_make]; rw [if_neg (fun h => f5 h.1)], rfl, CS.of hI0⟩)
  · skip
    have f5 := bI_ne0 c5
    refine i_P_make_8 X (h := ?_)
    refine i_P_make_9 X (hC := ct_P_isName n) (hk := by omega) (hn := by omega) (h := fun v9 M9 hp9 => ?_)
    obtain ⟨rfl, rfl⟩ := hp9
    refine i_P_make_12 X (h1 := fun c12 => ?_) (h2 := fun c12 => ?_)
    · skip
      have f12 := bI_ne0 c12
      obtain ⟨f1, hf1, rfl⟩ := ix_of f5.1 (by omega)
      obtain ⟨n1, hn1, rfl⟩ := ix_of (m := 8) f12 (by decide)
      refine i_P_make_17 X (h := ?_)
      refine i_P_make_18 X (h := ?_)
      refine i_P_make_19 X (hM := by assumption) (h := ?_)
      refine i_P_make_22 X (hM := by assumption) (hC := ct_P_findPlaces (cB := cB) G hI0 ck) (hk := by omega) (hn := by omega) (h := fun v22 M22 hp22 => ?_)
      obtain ⟨rfl, pl1, hpl1, rfl⟩ := hp22
      have hI1 := IC.places hI0 pl1
      have hIx1 := hI1
      obtain ⟨hO1, hNa1, hPa1, hNd1, hNi1⟩ := hIx1
      refine i_P_make_25 X (h := ?_)
      refine i_P_make_26 X (h := ?_)
      refine i_P_make_27 X (h := ?_)
      refine i_P_make_28 X (hM := by assumption) (hC := ct_P_hasRoomFor (cB := cB) G hI1 f1 n1 (by omega)) (hk := by omega) (hn := by omega) (h := fun v28 M28 hp28 => ?_)
      obtain ⟨rfl, rfl⟩ := hp28
      refine i_P_make_31 X (h1 := fun c31 => ?_) (h2 := fun c31 => ?_)
      · skip
        have f31 := (rm_iff (by omega) hpl1).mp (bI_ne0 c31)
        refine i_P_make_36 X (h := ?_)
        refine i_P_make_37 X (hM := by assumption) (h := ?_)
        refine i_P_make_40 X (h := ?_)
        refine i_P_make_42 X (h1 := fun c42 => ?_) (h2 := fun c42 => ?_)
        · skip
          have f42 : m = 24 := Nat.le_antisymm hm ((nI_leI (a := 24) (by decide) (by omega)).mp c42)
          refine i_P_make_52 X (h := ?_)
          exact i_P_make_54 X (hk := by omega) (hn := by omega) (hp := ⟨_, _, by simp only [F_make]; rw [if_pos ⟨f5, f12⟩, nI_clamp (n := f1) (by omega), nI_clamp (n := n1) (by omega), if_pos f31, if_pos (Or.inl f42)], rfl, CS.of hI1⟩)
        · skip
          have hm1 : m < 24 := Nat.lt_of_not_le (fun q => c42 (nI_le (a := 24) q (by omega)))
          refine i_P_make_45 X (h := ?_)
          refine i_P_make_46 X (hM := by assumption) (hC := ct_P_isUsedUp hO1) (hk := by omega) (hn := by omega) (h := fun v46 M46 hp46 => ?_)
          obtain ⟨rfl, rfl⟩ := hp46
          refine i_P_make_49 X (h1 := fun c49 => ?_) (h2 := fun c49 => ?_)
          · skip
            have f49 := bI_eq0 c49
            refine i_P_make_55 X (h := ?_)
            refine i_P_make_56 X (hM := by assumption) (h := ?_)
            refine i_P_make_59 X (h := ?_)
            refine i_P_make_61 X (h := ?_)
            refine i_P_make_62 X (h := ?_)
            refine i_P_make_63 X (hM := by assumption) (h := ?_)
            refine i_P_make_66 X (h := ?_)
            refine i_P_make_67 X (h := ?_)
            refine i_P_make_68 X (hM := by assumption) (h := ?_)
            rw [nI_1]
            have hI2 := IC.obj hI1 ck (nI (m + 1)) ch dc (nI dm) dh ev
            have hIx2 := hI2
            obtain ⟨hO2, hNa2, hPa2, hNd2, hNi2⟩ := hIx2
            refine i_P_make_71 X (h := ?_)
            refine i_P_make_72 X (h1 := fun c72 => ?_) (h2 := fun c72 => ?_)
            · skip
              refine i_P_make_101 X (h := ?_)
              refine i_P_make_102 X (h := ?_)
              refine i_P_make_104 X (h := ?_)
              refine i_P_make_105 X (h := ?_)
              refine i_P_make_106 X (hC := ct_P_placeOf (nI f1) (nI n1)) (hk := by omega) (hn := by omega) (h := fun v106 M106 hp106 => ?_)
              obtain ⟨rfl, rfl⟩ := hp106
              rw [pf_nI]
              refine i_P_make_109 X (hC := ct_P_place (cB := cB) G hI2 (i := m) hm1 (nI (f1 * 8 + n1))) (hk := by omega) (hn := by omega) (hM := by first | exact hI5.1 | exact hI2.1) (h := fun v109 M109 hp109 => ?_)
              obtain ⟨rfl, q1, hI6⟩ := hp109
              refine i_P_make_112 X (h := ?_)
              exact i_P_make_114 X (hk := by omega) (hn := by omega) (hp := ⟨_, _, by simp only [F_make]; rw [if_pos ⟨f5, f12⟩, nI_clamp (n := f1) (by omega), nI_clamp (n := n1) (by omega), if_pos f31, if_neg (fun h => h.elim (fun q => absurd q (by omega)) f49), if_neg c72], rfl, CS.of hI6⟩)
            · skip
              refine i_P_make_75 X (h := ?_)
              refine i_P_make_76 X (hM := by assumption) (h := ?_)
              refine i_P_make_79 X (h := ?_)
              refine i_P_make_81 X G (hM := by assumption) (hx := rfl) (hj := hm1) (h := ?_)
              refine i_P_make_82 X (hk := by omega) (hn := by omega) (h := fun q82 hq82 => ?_)
              have hI3 := IC.fresh hI2 hq82 (.inr (2, [.int 0, .int 0, .null, .null, .int 0]))
              have hO3 := hI3.1
              refine i_P_make_85 X (h := ?_)
              refine i_P_make_86 X (h := ?_)
              refine i_P_make_87 X (hM := by assumption) (h := ?_)
              refine i_P_make_90 X (h := ?_)
              refine i_P_make_91 X (h := ?_)
              refine i_P_make_92 X G (w := 4) (hv0 := by decide) (hv := by decide) (hb := by decide) (hk := by omega) (hn := by omega) (h := fun q92 hq92 => ?_)
              refine i_P_make_94 X (h := ?_)
              refine i_P_make_95 X (hC := ct_V_init (mS_of_new hq92 (mS_self _ _ _)) ck 0 q92 none) (hk := by omega) (hn := by omega) (h := fun v95 M95 hp95 => ?_)
              obtain ⟨rfl, rfl⟩ := hp95
              obtain ⟨e95, hq9⟩ := mS_sw (e1 := .inr (2, [.int ck, .int 0, .ref q92, va_rf none, .int 0])) (a := .inl (cI, 4, .inl (fun _ => 0))) hq92
              rw [e95]
              have hI4 := IC.fresh (IC.fresh (IC.owx hI2 hq82 m) hq82 (.inr (2, [.int ck, .int 0, .ref q92, va_rf none, .int 0]))) hq9 (.inl (cI, 4, .inl (fun _ => 0)))
              have hN4 := hI4.2.2.2.1 m hm1
              refine i_P_make_98 X (hM := hN4.1) (h := ?_)
              have hI5 := IC.node hI4 hm1 (b := some q82) (vl := [(ck, 0, fun _ => 0, 0)]) hN4.2.1 ⟨q82, q92, none, rfl, va_up_self _ _ _, mS_of_new hq9 (mS_self _ _ _), mS_self _ _ _, rfl⟩ hN4.2.2.2.1 hN4.2.2.2.2
              simp only [va_up_id] at hI5
              refine i_P_make_101 X (h := ?_)
              refine i_P_make_102 X (h := ?_)
              refine i_P_make_104 X (h := ?_)
              refine i_P_make_105 X (h := ?_)
              refine i_P_make_106 X (hC := ct_P_placeOf (nI f1) (nI n1)) (hk := by omega) (hn := by omega) (h := fun v106 M106 hp106 => ?_)
              obtain ⟨rfl, rfl⟩ := hp106
              rw [pf_nI]
              refine i_P_make_109 X (hC := ct_P_place (cB := cB) G hI5 (i := m) hm1 (nI (f1 * 8 + n1))) (hk := by omega) (hn := by omega) (hM := by first | exact hI5.1 | exact hI2.1) (h := fun v109 M109 hp109 => ?_)
              obtain ⟨rfl, q1, hI6⟩ := hp109
              refine i_P_make_112 X (h := ?_)
              exact i_P_make_114 X (hk := by omega) (hn := by omega) (hp := ⟨_, _, by simp only [F_make]; rw [if_pos ⟨f5, f12⟩, nI_clamp (n := f1) (by omega), nI_clamp (n := n1) (by omega), if_pos f31, if_neg (fun h => h.elim (fun q => absurd q (by omega)) f49), if_pos c72], rfl, CS.of hI6⟩)
          · skip
            have f49 := bI_ne0 c49
            refine i_P_make_52 X (h := ?_)
            exact i_P_make_54 X (hk := by omega) (hn := by omega) (hp := ⟨_, _, by simp only [F_make]; rw [if_pos ⟨f5, f12⟩, nI_clamp (n := f1) (by omega), nI_clamp (n := n1) (by omega), if_pos f31, if_pos (Or.inr f49)], rfl, CS.of hI1⟩)
      · skip
        have f31 := fun q => bI_eq0 c31 ((rm_iff (by omega) hpl1).mpr q)
        refine i_P_make_34 X (h := ?_)
        exact i_P_make_35 X (hk := by omega) (hn := by omega) (hp := ⟨_, _, by simp only [F_make]; rw [if_pos ⟨f5, f12⟩, nI_clamp (n := f1) (by omega), nI_clamp (n := n1) (by omega), if_neg f31], rfl, CS.of hI1⟩)
    · skip
      have f12 := bI_eq0 c12
      refine i_P_make_15 X (h := ?_)
      exact i_P_make_16 X (hk := by omega) (hn := by omega) (hp := ⟨_, _, by simp only [F_make]; rw [if_neg (fun h => f12 h.2)], rfl, CS.of hI0⟩)
