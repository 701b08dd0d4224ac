/-- a made file -/
abbrev fil (m : Nat) (vs : Nat → List vV) (x : Int32) : Prop := (0 ≤ x ∧ x < nI m) ∧ (vs x.toNatClampNeg).isEmpty = false
theorem fil_null {M : mM} {cI : ClassId} {ow : Nat → Nat} {vr : Nat → Option Nat} {vs : Nat → List vV} {m : Nat} {x : Int32} (hm : m ≤ 24) (hv : ∀ i, i < 24 → vrc M cI ow i (vr i) (vs i)) (h : va_rf (if 0 ≤ x ∧ x < nI m then vr x.toNatClampNeg else none) = .null) : ¬ fil m vs x := by
  intro q
  rw [if_pos q.1] at h
  obtain ⟨j, hj, rfl⟩ := ix_of q.1 (by omega)
  have e := nI_clamp (n := j) (by omega)
  rw [e] at h
  have q2 := q.2
  rw [e, (vrc_nil (hv j (by omega))).mpr (va_rf_null h)] at q2
  exact absurd q2 (by decide)
theorem fil_ref {M : mM} {cI : ClassId} {ow : Nat → Nat} {vr : Nat → Option Nat} {vs : Nat → List vV} {m : Nat} {x : Int32} {a : Nat} (hm : m ≤ 24) (hv : ∀ i, i < 24 → vrc M cI ow i (vr i) (vs i)) (h : va_rf (if 0 ≤ x ∧ x < nI m then vr x.toNatClampNeg else none) = .ref a) : fil m vs x ∧ ∃ j, j < m ∧ x = nI j ∧ vr j = some a := by
  have h := va_rf_ref h
  by_cases q : 0 ≤ x ∧ x < nI m
  · rw [if_pos q] at h
    obtain ⟨j, hj, rfl⟩ := ix_of q (by omega)
    have e := nI_clamp (n := j) (by omega)
    rw [e] at h
    refine ⟨⟨q, ?_⟩, j, hj, rfl, h⟩
    rw [e]
    cases hl : (vs j).isEmpty with
    | false => rfl
    | true =>
      rw [(vrc_nil (hv j (by omega))).mp hl] at h
      cases h
  · rw [if_neg q] at h
    cases h
theorem vrc_some {M : mM} {cI : ClassId} {ow : Nat → Nat} {i a : Nat} {l : List vV} (h : vrc M cI ow i (some a) l) : ∃ (t x : Int32) (cs : Nat → Int32) (g : Int32) (rs : List vV) (ca : Nat) (b : Option Nat), l = (t, x, cs, g) :: rs ∧ M a = some (.inr (2, [.int t, .int x, .ref ca, va_rf b, .int g])) ∧ M ca = some (.inl (cI, 4, .inl cs)) ∧ vrc M cI ow i b rs := by
  cases l with
  | nil => cases h
  | cons q l =>
    obtain ⟨t, x, cs, g⟩ := q
    obtain ⟨a', ca, b, e, h2, h3, h4, h5⟩ := h
    cases e
    exact ⟨t, x, cs, g, l, ca, b, rfl, h3, h4, h5⟩
/-- how many are below, of n from i on -/
def blL (pl : Nat → Int32) (f : Nat) : Nat → Nat → Nat
  | 0, _ => 0
  | n + 1, i => (if ¬ i = f ∧ wiL pl f 24 i = true then 1 else 0) + blL pl f n (i + 1)
/-- the time of the version with index k -/
def vti : List vV → Int32 → Int32
  | [], _ => -1
  | (t, x, _, _) :: l, k => if x = k then t else vti l k
theorem blL_congr {p1 p2 : Nat → Int32} {f : Nat} (h : ∀ i, i < 24 → p1 i = p2 i) (hok : plOk p1) : ∀ (n i : Nat), i + n ≤ 24 → blL p1 f n i = blL p2 f n i
  | 0, _, _ => rfl
  | n + 1, i, hi => by
    unfold blL
    rw [wiL_congr h hok 24 i (by omega), blL_congr h hok n (i + 1) (by omega)]
def rdV : List vV → Nat → Int64
  | [], _ => -1000000000000
  | (_, _, cs, g) :: _, c => if g = 0 then (cs c).toInt64 else -2000000000000
def F_read : sS → Int32 → Int32 → Int32 → Int64 × sS
  | ((w, g), (ck, m, ch), (dc, dm, dh), ev, sp, vs, ds, dv), t, f, c => (if ¬ t < 0 ∧ fil m vs f ∧ cel c then rdV (vao (vs f.toNatClampNeg) t) c.toNatClampNeg else -1000000000000, ((w, g), (ck, m, ch), (dc, dm, dh), ev, sp, vs, ds, dv))
set_option maxRecDepth 20000 in
set_option maxHeartbeats 1000000 in
theorem ct_P_read {l : Launch} {D : va_G} {tys : List (ClassId × FieldType)} {M : mM} {cI cB cN : ClassId} {h0 : Nat} {w g ck ch dc dh ev : Int32} {m dm : Nat} {sp ds : Nat → List (Int32 × Int32)} {vs dv : Nat → List vV} (G : tys[0]? = some (cI, .int) ∧ tys[1]? = some (cB, .boolean) ∧ tys[2]? = some (cN, .object RX0)) (hm : m ≤ 24) (hC : CS M cI cN h0 ((w, g), (ck, m, ch), (dc, dm, dh), ev, sp, vs, ds, dv)) (t f c : Int32) : Ct_P_read l D tys 0 0 [.ref h0, .int t, .int f, .int c] M (fun v M1 => ∃ r s1, F_read ((w, g), (ck, m, ch), (dc, dm, dh), ev, sp, vs, ds, dv) t f c = (r, s1) ∧ v = some (.long r) ∧ CS M1 cI cN h0 s1) := by
  refine Ct.of (cc := c_P_read) (maxL := 6) (ret := (some (.long))) (L0 := [some (.ref h0), some (.int t), some (.int f), some (.int c), none, none]) (by decide) (by intro v hv; simp only [List.mem_cons, List.not_mem_nil, or_false] at hv; rcases hv with rfl | rfl | rfl | rfl <;> first | rfl | exact mRf_cat (mRf_rf _)) (by simp) rfl ?_
  intro z ws0 hl hD ht X1 X2
  subst hl; subst hD; subst ht
  have X := And.intro X1 X2
  clear X1 X2
  obtain ⟨na, pa, nd, ow, sr, vr, dr, er, pl, hI⟩ := hC
  have hI0 := hI
  obtain ⟨hO, hNa, hPa, hNd, hNi⟩ := hI
  refine i_P_read_0 X (h := ?_)
  refine i_P_read_1 X (h := ?_)
  refine i_P_read_2 X (hM := by assumption) (hC := ct_P_latestVersion (cB := cB) G hm hI0 f) (hk := by omega) (hn := by omega) (h := fun v2 M2 hp2 => ?_)
  obtain ⟨rfl, rfl⟩ := hp2
  refine i_P_read_5 X (h := ?_)
  refine i_P_read_7 X (h := ?_)
  refine i_P_read_8 X (h1 := fun c8 => ?_) (h2 := fun c8 => ?_)
  · skip
    refine i_P_read_23 X (h := ?_)
    exact i_P_read_26 X (hk := by omega) (hn := by omega) (hp := ⟨_, _, by simp only [F_read]; rw [if_neg (fun h => h.1 c8)], rfl, CS.of hI0⟩)
  · skip
    refine i_P_read_11 X (h := ?_)
    refine i_P_read_13 X (h1 := fun c13 => ?_) (h2 := fun q13 c13 => ?_)
    · skip
      have f13 := fil_null hm (fun i hi => (hNd i hi).2.2.1) c13
      refine i_P_read_23 X (h := ?_)
      exact i_P_read_26 X (hk := by omega) (hn := by omega) (hp := ⟨_, _, by simp only [F_read]; rw [if_neg (fun h => f13 h.2.1)], rfl, CS.of hI0⟩)
    · skip
      obtain ⟨f13, f1, hf1, rfl, hla⟩ := fil_ref hm (fun i hi => (hNd i hi).2.2.1) c13
      rw [c13]
      refine i_P_read_16 X (h := ?_)
      refine i_P_read_17 X (hC := ct_P_isCell c) (hk := by omega) (hn := by omega) (h := fun v17 M17 hp17 => ?_)
      obtain ⟨rfl, rfl⟩ := hp17
      refine i_P_read_20 X (h1 := fun c20 => ?_) (h2 := fun c20 => ?_)
      · skip
        have f20 := bI_ne0 c20
        obtain ⟨c1, hc1, rfl⟩ := ix_of (m := 4) f20 (by decide)
        refine i_P_read_27 X (h := ?_)
        refine i_P_read_29 X (h := ?_)
        refine i_P_read_30 X (hC := ct_P_versionAsOf (r := some q13) (by rw [← hla]; exact (hNd f1 (by omega)).2.2.1) t) (hk := by omega) (hn := by omega) (h := fun v30 M30 hp30 => ?_)
        obtain ⟨r1, rfl, rfl, hr1⟩ := hp30
        refine i_P_read_33 X (h := ?_)
        refine i_P_read_35 X (h := ?_)
        refine i_P_read_37 X (h1 := fun q37 c37 => ?_) (h2 := fun c37 => ?_)
        · skip
          have q1 := va_rf_ref c37
          subst q1
          obtain ⟨t1, x1, cs1, g1, rs1, ca1, b1, hl1, ha1, hca1, hb1⟩ := vrc_some hr1
          refine i_P_read_44 X (h := ?_)
          refine i_P_read_46 X (hM := ha1) (h := ?_)
          refine i_P_read_49 X (h1 := fun c49 => ?_) (h2 := fun c49 => ?_)
          · skip
            refine i_P_read_58 X (h := ?_)
            refine i_P_read_60 X (hM := ha1) (h := ?_)
            refine i_P_read_63 X (h := ?_)
            refine i_P_read_64 X G (hM := hca1) (hx := rfl) (hj := hc1) (h := ?_)
            refine i_P_read_65 X (h := ?_)
            exact i_P_read_66 X (hk := by omega) (hn := by omega) (hp := ⟨_, _, by simp only [F_read]; rw [if_pos ⟨c8, f13, f20⟩, nI_clamp (n := f1) (by omega), nI_clamp (n := c1) (by omega), hl1]; simp only [rdV]; rw [if_pos c49], rfl, CS.of hI0⟩)
          · skip
            refine i_P_read_52 X (h := ?_)
            refine i_P_read_55 X (h := ?_)
            exact i_P_read_66 X (hk := by omega) (hn := by omega) (hp := ⟨_, _, by simp only [F_read]; rw [if_pos ⟨c8, f13, f20⟩, nI_clamp (n := f1) (by omega), nI_clamp (n := c1) (by omega), hl1]; simp only [rdV]; rw [if_neg c49], rfl, CS.of hI0⟩)
        · skip
          have q1 := va_rf_null c37
          have hl1 := List.isEmpty_iff.mp ((vrc_nil hr1).mpr q1)
          refine i_P_read_40 X (h := ?_)
          exact i_P_read_43 X (hk := by omega) (hn := by omega) (hp := ⟨_, _, by simp only [F_read]; rw [if_pos ⟨c8, f13, f20⟩, nI_clamp (n := f1) (by omega), nI_clamp (n := c1) (by omega), hl1]; rfl, rfl, CS.of hI0⟩)
      · skip
        have f20 := bI_eq0 c20
        refine i_P_read_23 X (h := ?_)
        exact i_P_read_26 X (hk := by omega) (hn := by omega) (hp := ⟨_, _, by simp only [F_read]; rw [if_neg (fun h => f20 h.2.2)], rfl, CS.of hI0⟩)
def F_below : sS → Int32 → Int32 → Int32 × sS
  | ((w, g), (ck, m, ch), (dc, dm, dh), ev, sp, vs, ds, dv), t, f => (if ¬ t < 0 ∧ fdr m vs f then nI (blL (fun i => plc (sp i) t) f.toNatClampNeg 24 0) else -1, ((w, g), (ck, m, ch), (dc, dm, dh), ev, sp, vs, ds, dv))
set_option maxRecDepth 20000 in
set_option maxHeartbeats 1000000 in
theorem lp_P_below {z : zT} {ws0 : va_W} {mc ms : Nat} {M : mM} {cI cB cN : ClassId} {h0 na pa : Nat} {nd ow : Nat → Nat} {sr vr dr er : Nat → Option Nat} {pl : Nat → Int32} {w g ck mk ch dc dm dh ev : Int32} {sp ds : Nat → List (Int32 × Int32)} {vs dv : Nat → List vV} (G : GT z cI cB cN) (hI : IC M cI cN h0 na pa nd ow sr vr dr er pl w g ck mk ch dc dm dh ev sp ds vs dv) (hok : plOk pl) {f1 : Nat} (hf : f1 < 24) {l1 : Option Value} {tot : Nat} {Post : Option Value → mM → Prop} (hPost : Post (some (.int (nI tot))) M)
    (X : B_P_below z ws0 mc ms Post) : ∀ (n j k : Nat), j + n = 24 → tot = k + blL pl f1 n j → RN z 24 [some (.ref h0), l1, some (.int (nI f1)), some (.int (nI k)), some (.int (nI j))] [] M 0 0 := by
  have hI0 := hI
  obtain ⟨hO, hNa, hPa, hNd, hNi⟩ := hI
  intro n
  induction n with
  | zero =>
    intro j k hj hr
    have hj : j = 24 := by omega
    subst hj
    refine i_P_below_24 X (h := ?_)
    refine i_P_below_26 X (h := ?_)
    refine i_P_below_28 X (h1 := fun c28 => ?_) (h2 := fun c28 => ?_)
    · skip
      refine i_P_below_56 X (h := ?_)
      exact i_P_below_57 X (hk := by omega) (hn := by omega) (hp := by rw [show k = tot from by rw [hr]; simp [blL]]; exact hPost)
    · skip
      exact absurd (by decide) c28 --end
  | succ n ih =>
    intro j k hj hr
    refine i_P_below_24 X (h := ?_)
    refine i_P_below_26 X (h := ?_)
    refine i_P_below_28 X (h1 := fun c28 => ?_) (h2 := fun c28 => ?_)
    · skip
      exact absurd c28 (nI_ge (a := j) (b := 24) (by omega) (by decide)) --end
    · skip
      refine i_P_below_31 X (h := ?_)
      refine i_P_below_33 X (h := ?_)
      refine i_P_below_34 X (h1 := fun c34 => ?_) (h2 := fun c34 => ?_)
      · skip
        refine i_P_below_50 X (h := ?_)
        refine i_P_below_53 X (h := ?_)
        rw [nI_1]
        exact ih (j + 1) _ (by omega) (by rw [hr]; simp only [blL]; rw [if_neg (fun h => h.1 ((nI_eq (by omega) (by omega)).mp c34))]; omega)
      · skip
        refine i_P_below_37 X (h := ?_)
        refine i_P_below_38 X (h := ?_)
        refine i_P_below_40 X (h := ?_)
        refine i_P_below_41 X (hM := by assumption) (hC := ct_P_isWithin (cB := cB) G hI0 hok (x := j) (t := f1) (by omega) hf) (hk := by omega) (hn := by omega) (h := fun v41 M41 hp41 => ?_)
        obtain ⟨rfl, rfl⟩ := hp41
        refine i_P_below_44 X (h1 := fun c44 => ?_) (h2 := fun c44 => ?_)
        · skip
          refine i_P_below_50 X (h := ?_)
          refine i_P_below_53 X (h := ?_)
          rw [nI_1]
          exact ih (j + 1) _ (by omega) (by rw [hr]; simp only [blL]; rw [if_neg (fun h => (bI_eq0 c44) h.2)]; omega)
        · skip
          refine i_P_below_47 X (h := ?_)
          rw [nI_1]
          refine i_P_below_50 X (h := ?_)
          refine i_P_below_53 X (h := ?_)
          rw [nI_1]
          exact ih (j + 1) _ (by omega) (by rw [hr]; simp only [blL]; rw [if_pos ⟨fun q => c34 (by rw [q]), bI_ne0 c44⟩]; omega)
set_option maxRecDepth 20000 in
set_option maxHeartbeats 1000000 in
theorem ct_P_below {l : Launch} {D : va_G} {tys : List (ClassId × FieldType)} {M : mM} {cI cB cN : ClassId} {h0 : Nat} {w g ck ch dc dh ev : Int32} {m dm : Nat} {sp ds : Nat → List (Int32 × Int32)} {vs dv : Nat → List vV} (G : tys[0]? = some (cI, .int) ∧ tys[1]? = some (cB, .boolean) ∧ tys[2]? = some (cN, .object RX0)) (hm : m ≤ 24) (hC : CS M cI cN h0 ((w, g), (ck, m, ch), (dc, dm, dh), ev, sp, vs, ds, dv)) (hs : spOk sp) (t f : Int32) : Ct_P_below l D tys 0 0 [.ref h0, .int t, .int f] M (fun v M1 => ∃ r s1, F_below ((w, g), (ck, m, ch), (dc, dm, dh), ev, sp, vs, ds, dv) t f = (r, s1) ∧ v = some (.int r) ∧ CS M1 cI cN h0 s1) := by
  refine Ct.of (cc := c_P_below) (maxL := 5) (ret := (some (.int))) (L0 := [some (.ref h0), some (.int t), some (.int f), none, none]) (by decide) (by intro v hv; simp only [List.mem_cons, List.not_mem_nil, or_false] at hv; rcases hv with rfl | rfl | rfl <;> first | rfl | exact mRf_cat (mRf_rf _)) (by simp) rfl ?_
  intro z ws0 hl hD ht X1 X2
  subst hl; subst hD; subst ht
  have X := And.intro X1 X2
  clear X1 X2
  obtain ⟨na, pa, nd, ow, sr, vr, dr, er, pl, hI⟩ := hC
  have hI0 := hI
  obtain ⟨hO, hNa, hPa, hNd, hNi⟩ := hI
  refine i_P_below_0 X (h := ?_)
  refine i_P_below_1 X (h1 := fun c1 => ?_) (h2 := fun c1 => ?_)
  · skip
    refine i_P_below_12 X (h := ?_)
    exact i_P_below_13 X (hk := by omega) (hn := by omega) (hp := ⟨_, _, by simp only [F_below]; rw [if_neg (fun h => h.1 c1)], rfl, CS.of hI0⟩)
  · skip
    refine i_P_below_4 X (h := ?_)
    refine i_P_below_5 X (h := ?_)
    refine i_P_below_6 X (hM := by assumption) (hC := ct_P_isMadeFolder (cB := cB) G hm hI0 f) (hk := by omega) (hn := by omega) (h := fun v6 M6 hp6 => ?_)
    obtain ⟨rfl, rfl⟩ := hp6
    refine i_P_below_9 X (h1 := fun c9 => ?_) (h2 := fun c9 => ?_)
    · skip
      have f9 := bI_ne0 c9
      obtain ⟨f1, hf1, rfl⟩ := ix_of f9.1 (by omega)
      refine i_P_below_14 X (h := ?_)
      refine i_P_below_15 X (h := ?_)
      refine i_P_below_16 X (hM := by assumption) (hC := ct_P_findPlaces (cB := cB) G hI0 t) (hk := by omega) (hn := by omega) (h := fun v16 M16 hp16 => ?_)
      obtain ⟨rfl, pl1, hpl1, rfl⟩ := hp16
      have hI1 := IC.places hI0 pl1
      have hIx1 := hI1
      obtain ⟨hO1, hNa1, hPa1, hNd1, hNi1⟩ := hIx1
      refine i_P_below_19 X (h := ?_)
      refine i_P_below_20 X (h := ?_)
      refine i_P_below_21 X (h := ?_)
      refine i_P_below_22 X (h := ?_)
      exact lp_P_below (cB := cB) G hI1 (plOk_of hs hpl1) (by omega) (tot := blL pl1 f1 24 0) ⟨_, _, by simp only [F_below]; rw [if_pos ⟨c1, f9⟩, nI_clamp (n := f1) (by omega), ← blL_congr (p1 := pl1) (fun i hi => hpl1 i hi) (plOk_of hs hpl1) 24 0 (by omega)], rfl, CS.of hI1⟩ X 24 0 0 rfl (by omega)
    · skip
      have f9 := bI_eq0 c9
      refine i_P_below_12 X (h := ?_)
      exact i_P_below_13 X (hk := by omega) (hn := by omega) (hp := ⟨_, _, by simp only [F_below]; rw [if_neg (fun h => f9 h.2)], rfl, CS.of hI0⟩)
def F_versionTime : sS → Int32 → Int32 → Int32 × sS
  | ((w, g), (ck, m, ch), (dc, dm, dh), ev, sp, vs, ds, dv), f, k => (if fil m vs f then vti (vs f.toNatClampNeg) k else -1, ((w, g), (ck, m, ch), (dc, dm, dh), ev, sp, vs, ds, dv))
set_option maxRecDepth 20000 in
set_option maxHeartbeats 1000000 in
theorem lp_P_versionTime {z : zT} {ws0 : va_W} {mc ms : Nat} {M : mM} {cI : ClassId} {ow : Nat → Nat} {i : Nat} {k : Int32} {l0 l1 : Option Value} {p : Int32} {Post : Option Value → mM → Prop} (hPost : Post (some (.int p)) M)
    (X : B_P_versionTime z ws0 mc ms Post) : ∀ (l : List vV) (r : Option Nat), vrc M cI ow i r l → p = vti l k → RN z 6 [l0, l1, some (.int k), some (va_rf r)] [] M 0 0 := by
  intro l
  induction l with
  | nil =>
    intro r hr hp
    have hr : r = none := hr
    subst hr
    simp only [vti] at hp
    subst hp
    refine i_P_versionTime_6 X (h := ?_)
    refine i_P_versionTime_7 X (h1 := fun c7 => ?_) (h2 := fun q7 c7 => ?_)
    · skip
      refine i_P_versionTime_26 X (h := ?_)
      refine i_P_versionTime_27 X (h1 := fun q27 c27 => ?_) (h2 := fun c27 => ?_)
      · skip
        exact absurd c27 (by simp [va_rf]) --end
      · skip
        refine i_P_versionTime_30 X (h := ?_)
        refine i_P_versionTime_31 X (h := ?_)
        exact i_P_versionTime_38 X (hk := by omega) (hn := by omega) (hp := hPost)
    · skip
      exact absurd c7 (by simp [va_rf]) --end
  | cons q l ih =>
    intro r hr hp
    obtain ⟨t, x, cs, gn⟩ := q
    obtain ⟨a, ca, b, rfl, hw, ha, hca, hb⟩ := hr
    simp only [vti] at hp
    refine i_P_versionTime_6 X (h := ?_)
    refine i_P_versionTime_7 X (h1 := fun c7 => ?_) (h2 := fun q7 c7 => ?_)
    · skip
      exact absurd c7 (by simp [va_rf]) --end
    · skip
      refine i_P_versionTime_10 X (h := ?_)
      refine i_P_versionTime_11 X (hM := by assumption) (h := ?_)
      refine i_P_versionTime_14 X (h := ?_)
      refine i_P_versionTime_15 X (h1 := fun c15 => ?_) (h2 := fun c15 => ?_)
      · skip
        refine i_P_versionTime_26 X (h := ?_)
        refine i_P_versionTime_27 X (h1 := fun q27 c27 => ?_) (h2 := fun c27 => ?_)
        · skip
          refine i_P_versionTime_34 X (h := ?_)
          refine i_P_versionTime_35 X (hM := by assumption) (h := ?_)
          exact i_P_versionTime_38 X (hk := by omega) (hn := by omega) (hp := by rw [if_pos c15] at hp; subst hp; exact hPost)
        · skip
          exact absurd c27 (by simp [va_rf]) --end
      · skip
        refine i_P_versionTime_18 X (h := ?_)
        refine i_P_versionTime_19 X (hM := by assumption) (h := ?_)
        refine i_P_versionTime_22 X (h := ?_)
        refine i_P_versionTime_23 X (h := ?_)
        exact ih b hb (by rw [hp, if_neg c15])
set_option maxRecDepth 20000 in
set_option maxHeartbeats 1000000 in
theorem ct_P_versionTime {l : Launch} {D : va_G} {tys : List (ClassId × FieldType)} {M : mM} {cI cB cN : ClassId} {h0 : Nat} {w g ck ch dc dh ev : Int32} {m dm : Nat} {sp ds : Nat → List (Int32 × Int32)} {vs dv : Nat → List vV} (G : tys[0]? = some (cI, .int) ∧ tys[1]? = some (cB, .boolean) ∧ tys[2]? = some (cN, .object RX0)) (hm : m ≤ 24) (hC : CS M cI cN h0 ((w, g), (ck, m, ch), (dc, dm, dh), ev, sp, vs, ds, dv)) (f k : Int32) : Ct_P_versionTime l D tys 0 0 [.ref h0, .int f, .int k] M (fun v M1 => ∃ r s1, F_versionTime ((w, g), (ck, m, ch), (dc, dm, dh), ev, sp, vs, ds, dv) f k = (r, s1) ∧ v = some (.int r) ∧ CS M1 cI cN h0 s1) := by
  refine Ct.of (cc := c_P_versionTime) (maxL := 4) (ret := (some (.int))) (L0 := [some (.ref h0), some (.int f), some (.int k), none]) (by decide) (by intro v hv; simp only [List.mem_cons, List.not_mem_nil, or_false] at hv; rcases hv with rfl | rfl | rfl <;> first | rfl | exact mRf_cat (mRf_rf _)) (by simp) rfl ?_
  intro z ws0 hl hD ht X1 X2
  subst hl; subst hD; subst ht
  have X := And.intro X1 X2
  clear X1 X2
  obtain ⟨na, pa, nd, ow, sr, vr, dr, er, pl, hI⟩ := hC
  have hI0 := hI
  obtain ⟨hO, hNa, hPa, hNd, hNi⟩ := hI
  refine i_P_versionTime_0 X (h := ?_)
  refine i_P_versionTime_1 X (h := ?_)
  refine i_P_versionTime_2 X (hM := by assumption) (hC := ct_P_latestVersion (cB := cB) G hm hI0 f) (hk := by omega) (hn := by omega) (h := fun v2 M2 hp2 => ?_)
  obtain ⟨rfl, rfl⟩ := hp2
  refine i_P_versionTime_5 X (h := ?_)
  rcases mRf_rf (if 0 ≤ f ∧ f < nI m then vr f.toNatClampNeg else none) with c | ⟨a, c⟩
  · have f5 := fil_null hm (fun i hi => (hNd i hi).2.2.1) c
    rw [va_rf_null c]
    exact lp_P_versionTime (cI := cI) (ow := ow) (i := 0) (p := -1) ⟨_, _, by simp only [F_versionTime]; rw [if_neg f5], rfl, CS.of hI0⟩ X [] none rfl rfl
  · obtain ⟨f5, f1, hf1, rfl, hla⟩ := fil_ref hm (fun i hi => (hNd i hi).2.2.1) c
    rw [va_rf_ref c]
    exact lp_P_versionTime (p := vti (vs f1) k) ⟨_, _, by simp only [F_versionTime]; rw [if_pos f5, nI_clamp (n := f1) (by omega)], rfl, CS.of hI0⟩ X (vs f1) (some a) (by rw [← hla]; exact (hNd f1 (by omega)).2.2.1) rfl
def F_thin : sS → Int32 → Int32 × sS
  | ((w, g), (ck, m, ch), (dc, dm, dh), ev, sp, vs, ds, dv), f => if fil m vs f then (nI (thinC (ck - w) g (vs f.toNatClampNeg)), ((w, g), (ck, m, ch), (ck, m, ch), ev, sp, va_up vs f.toNatClampNeg (thinV (ck - w) g (vs f.toNatClampNeg)), sp, va_up vs f.toNatClampNeg (thinV (ck - w) g (vs f.toNatClampNeg)))) else (-1, ((w, g), (ck, m, ch), (dc, dm, dh), ev, sp, vs, ds, dv))
set_option maxRecDepth 20000 in
set_option maxHeartbeats 1000000 in
theorem ct_P_thin {l : Launch} {D : va_G} {tys : List (ClassId × FieldType)} {M : mM} {cI cB cN : ClassId} {h0 : Nat} {w g ck ch dc dh ev : Int32} {m dm : Nat} {sp ds : Nat → List (Int32 × Int32)} {vs dv : Nat → List vV} (G : tys[0]? = some (cI, .int) ∧ tys[1]? = some (cB, .boolean) ∧ tys[2]? = some (cN, .object RX0)) (hm : m ≤ 24) (hC : CS M cI cN h0 ((w, g), (ck, m, ch), (dc, dm, dh), ev, sp, vs, ds, dv)) (hnd : ∀ i, i < 24 → ((vs i).map (fun e => e.2.1)).Nodup) (f : Int32) : Ct_P_thin l D tys 0 0 [.ref h0, .int f] M (fun v M1 => ∃ r s1, F_thin ((w, g), (ck, m, ch), (dc, dm, dh), ev, sp, vs, ds, dv) f = (r, s1) ∧ v = some (.int r) ∧ CS M1 cI cN h0 s1) := by
  refine Ct.of (cc := c_P_thin) (maxL := 3) (ret := (some (.int))) (L0 := [some (.ref h0), some (.int f), none]) (by decide) (by intro v hv; simp only [List.mem_cons, List.not_mem_nil, or_false] at hv; rcases hv with rfl | rfl <;> first | rfl | exact mRf_cat (mRf_rf _)) (by simp) rfl ?_
  intro z ws0 hl hD ht X1 X2
  subst hl; subst hD; subst ht
  have X := And.intro X1 X2
  clear X1 X2
  obtain ⟨na, pa, nd, ow, sr, vr, dr, er, pl, hI⟩ := hC
  have hI0 := hI
  obtain ⟨hO, hNa, hPa, hNd, hNi⟩ := hI
  refine i_P_thin_0 X (h := ?_)
  refine i_P_thin_1 X (h := ?_)
  refine i_P_thin_2 X (hM := by assumption) (hC := ct_P_latestVersion (cB := cB) G hm hI0 f) (hk := by omega) (hn := by omega) (h := fun v2 M2 hp2 => ?_)
  obtain ⟨rfl, rfl⟩ := hp2
  refine i_P_thin_5 X (h := ?_)
  refine i_P_thin_6 X (h := ?_)
  refine i_P_thin_7 X (h1 := fun q7 c7 => ?_) (h2 := fun c7 => ?_)
  · skip
    obtain ⟨f7, f1, hf1, rfl, hla⟩ := fil_ref hm (fun i hi => (hNd i hi).2.2.1) c7
    rw [c7]
    refine i_P_thin_12 X (h := ?_)
    refine i_P_thin_13 X (hM := by assumption) (hC := ct_P_makeDurable (cB := cB) G hI0) (hk := by omega) (hn := by omega) (h := fun v13 M13 hp13 => ?_)
    obtain ⟨rfl, hI1⟩ := hp13
    refine i_P_thin_16 X (h := ?_)
    refine i_P_thin_17 X (h := ?_)
    refine i_P_thin_18 X (hC := ct_P_dropThinned (cB := cB) G hI1 (i := f1) (by omega) rfl rfl hla (hnd f1 (by omega))) (hk := by omega) (hn := by omega) (hM := hI1.1) (h := fun v18 M18 hp18 => ?_)
    obtain ⟨rfl, hI2⟩ := hp18
    exact i_P_thin_21 X (hk := by omega) (hn := by omega) (hp := ⟨_, _, by simp only [F_thin]; rw [if_pos f7, nI_clamp (n := f1) (by omega)], rfl, CS.of hI2⟩)
  · skip
    have f7 := fil_null hm (fun i hi => (hNd i hi).2.2.1) c7
    refine i_P_thin_10 X (h := ?_)
    exact i_P_thin_11 X (hk := by omega) (hn := by omega) (hp := ⟨_, _, by simp only [F_thin]; rw [if_neg f7], rfl, CS.of hI0⟩)
def F_crash : sS → Int32 × sS
  | ((w, g), (ck, m, ch), (dc, dm, dh), ev, sp, vs, ds, dv) => (ch - dh, ((w, g), (dc, dm, dh), (dc, dm, dh), ev, ds, dv, ds, dv))
set_option maxRecDepth 20000 in
set_option maxHeartbeats 1000000 in
theorem lp_P_crash {z : zT} {ws0 : va_W} {mc ms : Nat} {cI cB cN : ClassId} {h0 na pa : Nat} {nd ow : Nat → Nat} {dr er : Nat → Option Nat} {pl : Nat → Int32} {w g  dc dm dh ev : Int32} {ds : Nat → List (Int32 × Int32)} {dv : Nat → List vV} (G : GT z cI cB cN) {p : Int32} {Post : Option Value → mM → Prop} (hPost : ∀ M1, IC M1 cI cN h0 na pa nd ow dr er dr er pl w g dc dm dh dc dm dh ev ds ds dv dv → Post (some (.int p)) M1)
    (X : B_P_crash z ws0 mc ms Post) : ∀ (n j : Nat) (M : mM) (sr vr : Nat → Option Nat) (sp : Nat → List (Int32 × Int32)) (vs : Nat → List vV), IC M cI cN h0 na pa nd ow sr vr dr er pl w g dc dm dh dc dm dh ev sp ds vs dv → j + n = 24 → (∀ i, i < j → sr i = dr i ∧ vr i = er i ∧ sp i = ds i ∧ vs i = dv i) → RN z 36 [some (.ref h0), some (.int p), some (.int (nI j))] [] M 0 0 := by
  intro n
  induction n with
  | zero =>
    intro j M sr vr sp vs hI hj hr
    have hj : j = 24 := by omega
    subst hj
    refine i_P_crash_36 X (h := ?_)
    refine i_P_crash_37 X (h := ?_)
    refine i_P_crash_39 X (h1 := fun c39 => ?_) (h2 := fun c39 => ?_)
    · skip
      refine i_P_crash_57 X (h := ?_)
      exact i_P_crash_58 X (hk := by omega) (hn := by omega) (hp := hPost _ (IC_congr hI (fun i hi => ⟨(hr i hi).1.symm, (hr i hi).2.1.symm, rfl, rfl, (hr i hi).2.2.1.symm, rfl, (hr i hi).2.2.2.symm, rfl⟩)))
    · skip
      exact absurd (by decide) c39 --end
  | succ n ih =>
    intro j M sr vr sp vs hI hj hr
    have hI0 := hI
    obtain ⟨hO, hNa, hPa, hNd, hNi⟩ := hI
    have hN := hNd j (by omega)
    refine i_P_crash_36 X (h := ?_)
    refine i_P_crash_37 X (h := ?_)
    refine i_P_crash_39 X (h1 := fun c39 => ?_) (h2 := fun c39 => ?_)
    · skip
      exact absurd c39 (nI_ge (a := j) (b := 24) (by omega) (by decide)) --end
    · skip
      refine i_P_crash_42 X (h := ?_)
      refine i_P_crash_43 X (hM := by assumption) (h := ?_)
      refine i_P_crash_46 X (h := ?_)
      refine i_P_crash_47 X G (hM := by assumption) (hx := rfl) (hj := by omega) (h := ?_)
      refine i_P_crash_48 X (hC := ct_N_goBack hN.1) (hk := by omega) (hn := by omega) (hM := hN.1) (h := fun v48 M48 hp48 => ?_)
      obtain ⟨rfl, rfl⟩ := hp48
      refine i_P_crash_51 X (h := ?_)
      refine i_P_crash_54 X (h := ?_)
      rw [nI_1]
      have hI2 := IC.node hI0 (i := j) (by omega) hN.2.2.2.1 hN.2.2.2.2 hN.2.2.2.1 hN.2.2.2.2
      simp only [va_up_id] at hI2
      refine ih (j + 1) _ _ _ _ _ hI2 (by omega) (fun i hi => ?_)
      by_cases hij : i = j
      · subst hij
        simp only [va_up_self]
        exact ⟨trivial, trivial, trivial, trivial⟩
      · simp only [va_up_ne _ _ hij]
        exact hr i (by omega)
set_option maxRecDepth 20000 in
set_option maxHeartbeats 1000000 in
theorem ct_P_crash {l : Launch} {D : va_G} {tys : List (ClassId × FieldType)} {M : mM} {cI cB cN : ClassId} {h0 : Nat} {w g ck ch dc dh ev : Int32} {m dm : Nat} {sp ds : Nat → List (Int32 × Int32)} {vs dv : Nat → List vV} (G : tys[0]? = some (cI, .int) ∧ tys[1]? = some (cB, .boolean) ∧ tys[2]? = some (cN, .object RX0)) (hC : CS M cI cN h0 ((w, g), (ck, m, ch), (dc, dm, dh), ev, sp, vs, ds, dv)) : Ct_P_crash l D tys 0 0 [.ref h0] M (fun v M1 => ∃ r s1, F_crash ((w, g), (ck, m, ch), (dc, dm, dh), ev, sp, vs, ds, dv) = (r, s1) ∧ v = some (.int r) ∧ CS M1 cI cN h0 s1) := by
  refine Ct.of (cc := c_P_crash) (maxL := 3) (ret := (some (.int))) (L0 := [some (.ref h0), none, none]) (by decide) (by intro v hv; simp only [List.mem_cons, List.not_mem_nil, or_false] at hv; rcases hv with rfl <;> first | rfl | exact mRf_cat (mRf_rf _)) (by simp) rfl ?_
  intro z ws0 hl hD ht X1 X2
  subst hl; subst hD; subst ht
  have X := And.intro X1 X2
  clear X1 X2
  obtain ⟨na, pa, nd, ow, sr, vr, dr, er, pl, hI⟩ := hC
  have hI0 := hI
  obtain ⟨hO, hNa, hPa, hNd, hNi⟩ := hI
  refine i_P_crash_0 X (h := ?_)
  refine i_P_crash_1 X (hM := by assumption) (h := ?_)
  refine i_P_crash_4 X (h := ?_)
  refine i_P_crash_5 X (hM := by assumption) (h := ?_)
  refine i_P_crash_8 X (h := ?_)
  refine i_P_crash_9 X (h := ?_)
  refine i_P_crash_10 X (h := ?_)
  refine i_P_crash_11 X (h := ?_)
  refine i_P_crash_12 X (hM := by assumption) (h := ?_)
  refine i_P_crash_15 X (hM := by assumption) (h := ?_)
  refine i_P_crash_18 X (h := ?_)
  refine i_P_crash_19 X (h := ?_)
  refine i_P_crash_20 X (hM := mS_self _ _ _) (h := ?_)
  refine i_P_crash_23 X (hM := mS_self _ _ _) (h := ?_)
  refine i_P_crash_26 X (h := ?_)
  refine i_P_crash_27 X (h := ?_)
  refine i_P_crash_28 X (hM := mS_self _ _ _) (h := ?_)
  refine i_P_crash_31 X (hM := mS_self _ _ _) (h := ?_)
  refine i_P_crash_34 X (h := ?_)
  refine i_P_crash_35 X (h := ?_)
  simp only [mS_mS]
  exact lp_P_crash (cB := cB) G (p := ch - dh) (fun M1 h1 => ⟨_, _, rfl, rfl, CS.of h1⟩) X 24 0 _ sr vr sp vs (IC.obj hI0 dc (nI dm) dh dc (nI dm) dh ev) rfl (fun i hi => absurd hi (by omega))
def nodV (ck : Int32) (y : Int32) : List vV → Int32
  | [] => -1
  | (t, x, cs, g) :: l => if y = 2 then x + 1 else if y = 3 then nI (cgn ((t, x, cs, g) :: l)) else if y = 4 then t else -1
def F_node : sS → Int32 → Int32 → Int32 × sS
  | ((w, g), (ck, m, ch), (dc, dm, dh), ev, sp, vs, ds, dv), x, y => (if x < 0 ∨ 24 ≤ x then -1 else if y = 0 then (if 0 ≤ x ∧ x < nI m then (if (vs x.toNatClampNeg).isEmpty = true then 1 else 2) else 0) else if y = 1 then (if plc (sp x.toNatClampNeg) ck = -1 then 0 else 1) else if fil m vs x then nodV ck y (vs x.toNatClampNeg) else -1, ((w, g), (ck, m, ch), (dc, dm, dh), ev, sp, vs, ds, dv))
set_option maxRecDepth 20000 in
set_option maxHeartbeats 1000000 in
theorem ct_P_node {l : Launch} {D : va_G} {tys : List (ClassId × FieldType)} {M : mM} {cI cB cN : ClassId} {h0 : Nat} {w g ck ch dc dh ev : Int32} {m dm : Nat} {sp ds : Nat → List (Int32 × Int32)} {vs dv : Nat → List vV} (G : tys[0]? = some (cI, .int) ∧ tys[1]? = some (cB, .boolean) ∧ tys[2]? = some (cN, .object RX0)) (hm : m ≤ 24) (hC : CS M cI cN h0 ((w, g), (ck, m, ch), (dc, dm, dh), ev, sp, vs, ds, dv)) (x y : Int32) : Ct_P_node l D tys 0 0 [.ref h0, .int x, .int y] M (fun v M1 => ∃ r s1, F_node ((w, g), (ck, m, ch), (dc, dm, dh), ev, sp, vs, ds, dv) x y = (r, s1) ∧ v = some (.int r) ∧ CS M1 cI cN h0 s1) := by
  refine Ct.of (cc := c_P_node) (maxL := 4) (ret := (some (.int))) (L0 := [some (.ref h0), some (.int x), some (.int y), none]) (by decide) (by intro v hv; simp only [List.mem_cons, List.not_mem_nil, or_false] at hv; rcases hv with rfl | rfl | rfl <;> first | rfl | exact mRf_cat (mRf_rf _)) (by simp) rfl ?_
  intro z ws0 hl hD ht X1 X2
  subst hl; subst hD; subst ht
  have X := And.intro X1 X2
  clear X1 X2
  obtain ⟨na, pa, nd, ow, sr, vr, dr, er, pl, hI⟩ := hC
  have hI0 := hI
  obtain ⟨hO, hNa, hPa, hNd, hNi⟩ := hI
  refine i_P_node_0 X (h := ?_)
  refine i_P_node_1 X (h1 := fun c1 => ?_) (h2 := fun c1 => ?_)
  · skip
    refine i_P_node_10 X (h := ?_)
    exact i_P_node_11 X (hk := by omega) (hn := by omega) (hp := ⟨_, _, by simp only [F_node]; rw [if_pos (Or.inl c1)], rfl, CS.of hI0⟩)
  · skip
    refine i_P_node_4 X (h := ?_)
    refine i_P_node_5 X (h := ?_)
    refine i_P_node_7 X (h1 := fun c7 => ?_) (h2 := fun c7 => ?_)
    · skip
      refine i_P_node_12 X (h := ?_)
      refine i_P_node_13 X (h1 := fun c13 => ?_) (h2 := fun c13 => ?_)
      · skip
        refine i_P_node_22 X (h := ?_)
        refine i_P_node_23 X (h := ?_)
        refine i_P_node_24 X (h1 := fun c24 => ?_) (h2 := fun c24 => ?_)
        · skip
          refine i_P_node_50 X (h := ?_)
          refine i_P_node_51 X (h := ?_)
          refine i_P_node_52 X (hM := by assumption) (hC := ct_P_latestVersion (cB := cB) G hm hI0 x) (hk := by omega) (hn := by omega) (h := fun v52 M52 hp52 => ?_)
          obtain ⟨rfl, rfl⟩ := hp52
          refine i_P_node_55 X (h := ?_)
          refine i_P_node_56 X (h := ?_)
          refine i_P_node_57 X (h1 := fun q57 c57 => ?_) (h2 := fun c57 => ?_)
          · skip
            obtain ⟨f57, f1, hf1, rfl, hla⟩ := fil_ref hm (fun i hi => (hNd i hi).2.2.1) c57
            rw [c57]
            obtain ⟨t1, x1, cs1, g1, rs1, ca1, b1, hl1, ha1, hca1, hb1⟩ := vrc_some (by rw [← hla]; exact (hNd f1 (by omega)).2.2.1)
            refine i_P_node_62 X (h := ?_)
            refine i_P_node_63 X (h2 := fun c63 => ?_) (h3 := fun c63 => ?_) (h4 := fun c63 => ?_) (hd := fun e2 e3 e4 => ?_)
            · skip
              refine i_P_node_88 X (h := ?_)
              refine i_P_node_89 X (hM := ha1) (h := ?_)
              refine i_P_node_92 X (h := ?_)
              refine i_P_node_93 X (h := ?_)
              exact i_P_node_94 X (hk := by omega) (hn := by omega) (hp := ⟨_, _, by simp only [F_node]; rw [if_neg (fun h => h.elim (fun q => absurd q c1) (fun q => absurd c7 (Int32.not_lt.mpr q))), if_neg c13, if_neg c24, if_pos f57, nI_clamp (n := f1) (by omega), hl1]; simp only [nodV]; rw [if_pos c63], rfl, CS.of hI0⟩)
            · skip
              refine i_P_node_95 X (h := ?_)
              refine i_P_node_96 X (hC := ct_P_countGone (r := some q57) (l1 := vs f1) (by rw [← hla]; exact (hNd f1 (by omega)).2.2.1)) (hk := by omega) (hn := by omega) (h := fun v96 M96 hp96 => ?_)
              obtain ⟨rfl, rfl⟩ := hp96
              exact i_P_node_99 X (hk := by omega) (hn := by omega) (hp := ⟨_, _, by simp only [F_node]; rw [if_neg (fun h => h.elim (fun q => absurd q c1) (fun q => absurd c7 (Int32.not_lt.mpr q))), if_neg c13, if_neg c24, if_pos f57, nI_clamp (n := f1) (by omega), hl1]; simp only [nodV]; rw [if_neg (by rw [c63]; decide), if_pos c63], rfl, CS.of hI0⟩)
            · skip
              refine i_P_node_100 X (h := ?_)
              refine i_P_node_101 X (hM := ha1) (h := ?_)
              exact i_P_node_104 X (hk := by omega) (hn := by omega) (hp := ⟨_, _, by simp only [F_node]; rw [if_neg (fun h => h.elim (fun q => absurd q c1) (fun q => absurd c7 (Int32.not_lt.mpr q))), if_neg c13, if_neg c24, if_pos f57, nI_clamp (n := f1) (by omega), hl1]; simp only [nodV]; rw [if_neg (by rw [c63]; decide), if_neg (by rw [c63]; decide), if_pos c63], rfl, CS.of hI0⟩)
            · skip
              refine i_P_node_105 X (h := ?_)
              exact i_P_node_106 X (hk := by omega) (hn := by omega) (hp := ⟨_, _, by simp only [F_node]; rw [if_neg (fun h => h.elim (fun q => absurd q c1) (fun q => absurd c7 (Int32.not_lt.mpr q))), if_neg c13, if_neg c24, if_pos f57, nI_clamp (n := f1) (by omega), hl1]; simp only [nodV]; rw [if_neg e2, if_neg e3, if_neg e4], rfl, CS.of hI0⟩)
          · skip
            have f57 := fil_null hm (fun i hi => (hNd i hi).2.2.1) c57
            refine i_P_node_60 X (h := ?_)
            exact i_P_node_61 X (hk := by omega) (hn := by omega) (hp := ⟨_, _, by simp only [F_node]; rw [if_neg (fun h => h.elim (fun q => absurd q c1) (fun q => absurd c7 (Int32.not_lt.mpr q))), if_neg c13, if_neg c24, if_neg f57], rfl, CS.of hI0⟩)
        · skip
          obtain ⟨x1, hx1, rfl⟩ := ix_of (x := x) (m := 24) ⟨Int32.not_lt.mp c1, c7⟩ (by decide)
          refine i_P_node_27 X (h := ?_)
          refine i_P_node_28 X (hM := by assumption) (h := ?_)
          refine i_P_node_31 X (h := ?_)
          refine i_P_node_32 X G (hM := by assumption) (hx := rfl) (hj := hx1) (h := ?_)
          refine i_P_node_33 X (h := ?_)
          refine i_P_node_34 X (hM := by assumption) (h := ?_)
          refine i_P_node_37 X (hC := ct_N_placeAsOf (hNd x1 hx1).1 (hNd x1 hx1).2.1 ck) (hk := by omega) (hn := by omega) (hM := (hNd x1 hx1).1) (h := fun v37 M37 hp37 => ?_)
          obtain ⟨rfl, rfl⟩ := hp37
          refine i_P_node_40 X (h := ?_)
          refine i_P_node_41 X (h1 := fun c41 => ?_) (h2 := fun c41 => ?_)
          · skip
            refine i_P_node_48 X (h := ?_)
            exact i_P_node_49 X (hk := by omega) (hn := by omega) (hp := ⟨_, _, by simp only [F_node]; rw [if_neg (fun h => h.elim (fun q => absurd q c1) (fun q => absurd c7 (Int32.not_lt.mpr q))), if_neg c13, if_pos c24, nI_clamp (n := x1) (by omega), if_neg c41], rfl, CS.of hI0⟩)
          · skip
            refine i_P_node_44 X (h := ?_)
            refine i_P_node_45 X (h := ?_)
            exact i_P_node_49 X (hk := by omega) (hn := by omega) (hp := ⟨_, _, by simp only [F_node]; rw [if_neg (fun h => h.elim (fun q => absurd q c1) (fun q => absurd c7 (Int32.not_lt.mpr q))), if_neg c13, if_pos c24, nI_clamp (n := x1) (by omega), if_pos c41], rfl, CS.of hI0⟩)
      · skip
        refine i_P_node_16 X (h := ?_)
        refine i_P_node_17 X (h := ?_)
        refine i_P_node_18 X (hM := by assumption) (hC := ct_P_kindOf (cB := cB) G hm hI0 x) (hk := by omega) (hn := by omega) (h := fun v18 M18 hp18 => ?_)
        obtain ⟨rfl, rfl⟩ := hp18
        exact i_P_node_21 X (hk := by omega) (hn := by omega) (hp := ⟨_, _, by simp only [F_node]; rw [if_neg (fun h => h.elim (fun q => absurd q c1) (fun q => absurd c7 (Int32.not_lt.mpr q))), if_pos c13], rfl, CS.of hI0⟩)
    · skip
      refine i_P_node_10 X (h := ?_)
      exact i_P_node_11 X (hk := by omega) (hn := by omega) (hp := ⟨_, _, by simp only [F_node]; rw [if_pos (Or.inr (Int32.not_lt.mp c7))], rfl, CS.of hI0⟩)
