theorem entL_lt (pl : Nat → Int32) (p : Int32) : ∀ (n i : Nat), i + n ≤ 24 → entL pl p n i < 24
  | 0, _, _ => by simp [entL]
  | n + 1, i, h => by
    unfold entL
    split
    · omega
    · exact entL_lt pl p n (i + 1) (by omega)
set_option maxRecDepth 20000 in
set_option maxHeartbeats 1000000 in
theorem ct_P_isMadeFolder {l : Launch} {D : va_G} {tys : List (ClassId × FieldType)} {M : mM} {cI cB cN : ClassId} {h0 na pa : Nat} {nd ow : Nat → Nat} {sr vr dr er : Nat → Option Nat} {pl : Nat → Int32} {w g ck ch dc dm dh ev : Int32} {sp ds : Nat → List (Int32 × Int32)} {vs dv : Nat → List vV} (G : tys[0]? = some (cI, .int) ∧ tys[1]? = some (cB, .boolean) ∧ tys[2]? = some (cN, .object RX0)) {m : Nat} (hm : m ≤ 24) (hI : IC M cI cN h0 na pa nd ow sr vr dr er pl w g ck (nI m) ch dc dm dh ev sp ds vs dv) (x : Int32) : Ct_P_isMadeFolder l D tys 0 0 [.ref h0, .int x] M (fun v M1 => v = some (.int (bI ((0 ≤ x ∧ x < nI m) ∧ (vs x.toNatClampNeg).isEmpty = true))) ∧ M1 = M) := by
  refine Ct.of (cc := c_P_isMadeFolder) (maxL := 2) (ret := (some (.boolean))) (L0 := [some (.ref h0), some (.int x)]) (by decide) (by intro v hv; simp only [List.mem_cons, List.not_mem_nil, or_false] at hv; rcases hv with rfl | rfl <;> first | rfl | exact mRf_cat (mRf_rf _)) (by simp) rfl ?_
  intro z ws0 hl hD ht X1 X2
  subst hl; subst hD; subst ht
  have X := And.intro X1 X2
  clear X1 X2
  have hI0 := hI
  obtain ⟨hO, hNa, hPa, hNd, hNi⟩ := hI
  refine i_P_isMadeFolder_0 X (h := ?_)
  refine i_P_isMadeFolder_1 X (h := ?_)
  refine i_P_isMadeFolder_2 X (hM := by assumption) (hC := ct_P_isMade hO x) (hk := by omega) (hn := by omega) (h := fun v2 M2 hp2 => ?_)
  obtain ⟨rfl, rfl⟩ := hp2
  refine i_P_isMadeFolder_5 X (h1 := fun c5 => ?_) (h2 := fun c5 => ?_)
  · skip
    have f5 := bI_eq0 c5
    refine i_P_isMadeFolder_24 X (h := ?_)
    exact i_P_isMadeFolder_25 X (hk := by omega) (hn := by omega) (hx := by first | exact Or.inl rfl | exact Or.inr rfl | assumption) (hp := ⟨by clear X; first | (rw [bI_f (fun h => f5 h.1)]; done) | (have q := va_rf_null c17; rw [bI_t ⟨f5, by rw [hcl]; exact hn0.mpr q⟩]; done) | (have q := va_rf_ref c17; rw [bI_f (fun h => by rw [hcl, hn0, q] at h; exact absurd h.2 (by simp))]; done), rfl⟩)
  · skip
    have f5 := bI_ne0 c5
    obtain ⟨j, hj, rfl⟩ := ix_of f5 (by omega)
    have hN := hNd j (by omega)
    have hn0 := vrc_nil hN.2.2.1
    have hcl := nI_clamp (n := j) (by omega)
    refine i_P_isMadeFolder_8 X (h := ?_)
    refine i_P_isMadeFolder_9 X (hM := by assumption) (h := ?_)
    refine i_P_isMadeFolder_12 X (h := ?_)
    refine i_P_isMadeFolder_13 X G (hM := by assumption) (hx := rfl) (hj := by omega) (h := ?_)
    refine i_P_isMadeFolder_14 X (hM := hN.1) (h := ?_)
    refine i_P_isMadeFolder_17 X (h1 := fun q17 c17 => ?_) (h2 := fun c17 => ?_)
    · skip
      refine i_P_isMadeFolder_24 X (h := ?_)
      exact i_P_isMadeFolder_25 X (hk := by omega) (hn := by omega) (hx := by first | exact Or.inl rfl | exact Or.inr rfl | assumption) (hp := ⟨by clear X; first | (rw [bI_f (fun h => f5 h.1)]; done) | (have q := va_rf_null c17; rw [bI_t ⟨f5, by rw [hcl]; exact hn0.mpr q⟩]; done) | (have q := va_rf_ref c17; rw [bI_f (fun h => by rw [hcl, hn0, q] at h; exact absurd h.2 (by simp))]; done), rfl⟩)
    · skip
      refine i_P_isMadeFolder_20 X (h := ?_)
      refine i_P_isMadeFolder_21 X (h := ?_)
      exact i_P_isMadeFolder_25 X (hk := by omega) (hn := by omega) (hx := by first | exact Or.inl rfl | exact Or.inr rfl | assumption) (hp := ⟨by clear X; first | (rw [bI_f (fun h => f5 h.1)]; done) | (have q := va_rf_null c17; rw [bI_t ⟨f5, by rw [hcl]; exact hn0.mpr q⟩]; done) | (have q := va_rf_ref c17; rw [bI_f (fun h => by rw [hcl, hn0, q] at h; exact absurd h.2 (by simp))]; done), rfl⟩)
set_option maxRecDepth 20000 in
set_option maxHeartbeats 1000000 in
theorem ct_P_latestVersion {l : Launch} {D : va_G} {tys : List (ClassId × FieldType)} {M : mM} {cI cB cN : ClassId} {h0 na pa : Nat} {nd ow : Nat → Nat} {sr vr dr er : Nat → Option Nat} {pl : Nat → Int32} {w g ck ch dc dm dh ev : Int32} {sp ds : Nat → List (Int32 × Int32)} {vs dv : Nat → List vV} (G : tys[0]? = some (cI, .int) ∧ tys[1]? = some (cB, .boolean) ∧ tys[2]? = some (cN, .object RX0)) {m : Nat} (hm : m ≤ 24) (hI : IC M cI cN h0 na pa nd ow sr vr dr er pl w g ck (nI m) ch dc dm dh ev sp ds vs dv) (x : Int32) : Ct_P_latestVersion l D tys 0 0 [.ref h0, .int x] M (fun v M1 => v = some (va_rf (if 0 ≤ x ∧ x < nI m then vr x.toNatClampNeg else none)) ∧ M1 = M) := by
  refine Ct.of (cc := c_P_latestVersion) (maxL := 2) (ret := (some (.object "PastTree$Version"))) (L0 := [some (.ref h0), some (.int x)]) (by decide) (by intro v hv; simp only [List.mem_cons, List.not_mem_nil, or_false] at hv; rcases hv with rfl | rfl <;> first | rfl | exact mRf_cat (mRf_rf _)) (by simp) rfl ?_
  intro z ws0 hl hD ht X1 X2
  subst hl; subst hD; subst ht
  have X := And.intro X1 X2
  clear X1 X2
  have hI0 := hI
  obtain ⟨hO, hNa, hPa, hNd, hNi⟩ := hI
  refine i_P_latestVersion_0 X (h := ?_)
  refine i_P_latestVersion_1 X (h := ?_)
  refine i_P_latestVersion_2 X (hM := by assumption) (hC := ct_P_isMade hO x) (hk := by omega) (hn := by omega) (h := fun v2 M2 hp2 => ?_)
  obtain ⟨rfl, rfl⟩ := hp2
  refine i_P_latestVersion_5 X (h1 := fun c5 => ?_) (h2 := fun c5 => ?_)
  · skip
    have f5 := bI_eq0 c5
    refine i_P_latestVersion_20 X (h := ?_)
    exact i_P_latestVersion_21 X (hk := by omega) (hn := by omega) (hp := ⟨by clear X; first | (rw [if_neg f5]; rfl) | (rw [if_pos f5, hcl]), rfl⟩)
  · skip
    have f5 := bI_ne0 c5
    obtain ⟨j, hj, rfl⟩ := ix_of f5 (by omega)
    have hN := hNd j (by omega)
    have hcl := nI_clamp (n := j) (by omega)
    refine i_P_latestVersion_8 X (h := ?_)
    refine i_P_latestVersion_9 X (hM := by assumption) (h := ?_)
    refine i_P_latestVersion_12 X (h := ?_)
    refine i_P_latestVersion_13 X G (hM := by assumption) (hx := rfl) (hj := by omega) (h := ?_)
    refine i_P_latestVersion_14 X (hM := hN.1) (h := ?_)
    refine i_P_latestVersion_17 X (h := ?_)
    exact i_P_latestVersion_21 X (hk := by omega) (hn := by omega) (hp := ⟨by clear X; first | (rw [if_neg f5]; rfl) | (rw [if_pos f5, hcl]), rfl⟩)
set_option maxRecDepth 20000 in
set_option maxHeartbeats 1000000 in
theorem ct_P_kindOf {l : Launch} {D : va_G} {tys : List (ClassId × FieldType)} {M : mM} {cI cB cN : ClassId} {h0 na pa : Nat} {nd ow : Nat → Nat} {sr vr dr er : Nat → Option Nat} {pl : Nat → Int32} {w g ck ch dc dm dh ev : Int32} {sp ds : Nat → List (Int32 × Int32)} {vs dv : Nat → List vV} (G : tys[0]? = some (cI, .int) ∧ tys[1]? = some (cB, .boolean) ∧ tys[2]? = some (cN, .object RX0)) {m : Nat} (hm : m ≤ 24) (hI : IC M cI cN h0 na pa nd ow sr vr dr er pl w g ck (nI m) ch dc dm dh ev sp ds vs dv) (x : Int32) : Ct_P_kindOf l D tys 0 0 [.ref h0, .int x] M (fun v M1 => v = some (.int (if 0 ≤ x ∧ x < nI m then (if (vs x.toNatClampNeg).isEmpty = true then 1 else 2) else 0)) ∧ M1 = M) := by
  refine Ct.of (cc := c_P_kindOf) (maxL := 2) (ret := (some (.int))) (L0 := [some (.ref h0), some (.int x)]) (by decide) (by intro v hv; simp only [List.mem_cons, List.not_mem_nil, or_false] at hv; rcases hv with rfl | rfl <;> first | rfl | exact mRf_cat (mRf_rf _)) (by simp) rfl ?_
  intro z ws0 hl hD ht X1 X2
  subst hl; subst hD; subst ht
  have X := And.intro X1 X2
  clear X1 X2
  have hI0 := hI
  obtain ⟨hO, hNa, hPa, hNd, hNi⟩ := hI
  refine i_P_kindOf_0 X (h := ?_)
  refine i_P_kindOf_1 X (h := ?_)
  refine i_P_kindOf_2 X (hM := by assumption) (hC := ct_P_isMade hO x) (hk := by omega) (hn := by omega) (h := fun v2 M2 hp2 => ?_)
  obtain ⟨rfl, rfl⟩ := hp2
  refine i_P_kindOf_5 X (h1 := fun c5 => ?_) (h2 := fun c5 => ?_)
  · skip
    have f5 := bI_ne0 c5
    refine i_P_kindOf_10 X (h := ?_)
    refine i_P_kindOf_11 X (h := ?_)
    refine i_P_kindOf_12 X (hM := by assumption) (hC := ct_P_isMadeFolder (cB := cB) G hm hI0 x) (hk := by omega) (hn := by omega) (h := fun v12 M12 hp12 => ?_)
    obtain ⟨rfl, rfl⟩ := hp12
    refine i_P_kindOf_15 X (h1 := fun c15 => ?_) (h2 := fun c15 => ?_)
    · skip
      have f15 := bI_eq0 c15
      refine i_P_kindOf_22 X (h := ?_)
      exact i_P_kindOf_23 X (hk := by omega) (hn := by omega) (hp := ⟨by clear X; first | (rw [if_neg f5]; done) | (rw [if_pos f5, if_pos f15.2]; done) | (rw [if_pos f5, if_neg (fun h => f15 ⟨f5, h⟩)]; done), rfl⟩)
    · skip
      have f15 := bI_ne0 c15
      refine i_P_kindOf_18 X (h := ?_)
      refine i_P_kindOf_19 X (h := ?_)
      exact i_P_kindOf_23 X (hk := by omega) (hn := by omega) (hp := ⟨by clear X; first | (rw [if_neg f5]; done) | (rw [if_pos f5, if_pos f15.2]; done) | (rw [if_pos f5, if_neg (fun h => f15 ⟨f5, h⟩)]; done), rfl⟩)
  · skip
    have f5 := bI_eq0 c5
    refine i_P_kindOf_8 X (h := ?_)
    exact i_P_kindOf_9 X (hk := by omega) (hn := by omega) (hp := ⟨by clear X; first | (rw [if_neg f5]; done) | (rw [if_pos f5, if_pos f15.2]; done) | (rw [if_pos f5, if_neg (fun h => f15 ⟨f5, h⟩)]; done), rfl⟩)
set_option maxRecDepth 20000 in
set_option maxHeartbeats 1000000 in
theorem ct_P_noteChange {l : Launch} {D : va_G} {tys : List (ClassId × FieldType)} {M : mM} {cI cB cN : ClassId} {h0 na pa : Nat} {nd ow : Nat → Nat} {sr vr dr er : Nat → Option Nat} {pl : Nat → Int32} {w g ck mk ch dc dm dh ev : Int32} {sp ds : Nat → List (Int32 × Int32)} {vs dv : Nat → List vV} (hI : IC M cI cN h0 na pa nd ow sr vr dr er pl w g ck mk ch dc dm dh ev sp ds vs dv) : Ct_P_noteChange l D tys 0 0 [.ref h0] M (fun v M1 => v = none ∧ M1 = mS M h0 (.inr (3, [.int w, .int g, .ref na, .ref pa, .int ck, .int mk, .int (ch + 1), .int dc, .int dm, .int dh, .int (ev + 1)]))) := by
  refine Ct.of (cc := c_P_noteChange) (maxL := 1) (ret := none) (L0 := [some (.ref h0)]) (by decide) (by intro v hv; simp only [List.mem_cons, List.not_mem_nil, or_false] at hv; rcases hv with rfl <;> first | rfl | exact mRf_cat (mRf_rf _)) (by simp) rfl ?_
  intro z ws0 hl hD ht X1 X2
  subst hl; subst hD; subst ht
  have X := And.intro X1 X2
  clear X1 X2
  obtain ⟨hO, -⟩ := hI
  refine i_P_noteChange_0 X (h := ?_)
  refine i_P_noteChange_1 X (h := ?_)
  refine i_P_noteChange_2 X (hM := by assumption) (h := ?_)
  refine i_P_noteChange_5 X (h := ?_)
  refine i_P_noteChange_6 X (h := ?_)
  refine i_P_noteChange_7 X (hM := by assumption) (h := ?_)
  refine i_P_noteChange_10 X (h := ?_)
  refine i_P_noteChange_11 X (h := ?_)
  refine i_P_noteChange_12 X (hM := mS_self _ _ _) (h := ?_)
  refine i_P_noteChange_15 X (h := ?_)
  refine i_P_noteChange_16 X (h := ?_)
  refine i_P_noteChange_17 X (hM := mS_self _ _ _) (h := ?_)
  exact i_P_noteChange_20 X (hk := by omega) (hn := by omega) (hp := ⟨rfl, mS_mS _ _ _ _⟩)
set_option maxRecDepth 20000 in
theorem lp_P_entryAt {z : zT} {ws0 : va_W} {mc ms : Nat} {M : mM} {cI cB cN : ClassId} {h0 na pa : Nat} {nd ow : Nat → Nat} {sr vr dr er : Nat → Option Nat} {pl : Nat → Int32} {w g ck mk ch dc dm dh ev : Int32} {sp ds : Nat → List (Int32 × Int32)} {vs dv : Nat → List vV} (G : GT z cI cB cN) (hI : IC M cI cN h0 na pa nd ow sr vr dr er pl w g ck mk ch dc dm dh ev sp ds vs dv) {p : Int32} {l1 l2 : Option Value} {r : Nat}
    (X : B_P_entryAt z ws0 mc ms (fun v M1 => v = some (.int (nI r)) ∧ M1 = M)) : ∀ (n j : Nat), j + n = 24 → r = entL pl p n j → RN z 9 [some (.ref h0), l1, l2, some (.int p), some (.int (nI j))] [] M 0 0 := by
  obtain ⟨hO, hNa, hPa, hNd, hNi⟩ := hI
  intro n
  induction n with
  | zero =>
    intro j hj hr
    have hj : j = 24 := by omega
    subst hj
    refine i_P_entryAt_9 X (h := ?_)
    refine i_P_entryAt_11 X (h := ?_)
    refine i_P_entryAt_13 X (h1 := fun c13 => ?_) (h2 := fun c13 => ?_)
    · skip
      refine i_P_entryAt_36 X (h := ?_)
      exact i_P_entryAt_37 X (hk := by omega) (hn := by omega) (hp := ⟨by rw [hr]; rfl, rfl⟩)
    · skip
      exact absurd (by decide) c13 --end
  | succ n ih =>
    intro j hj hr
    refine i_P_entryAt_9 X (h := ?_)
    refine i_P_entryAt_11 X (h := ?_)
    refine i_P_entryAt_13 X (h1 := fun c13 => ?_) (h2 := fun c13 => ?_)
    · skip
      exact absurd c13 (nI_ge (a := j) (b := 24) (by omega) (by decide)) --end
    · skip
      refine i_P_entryAt_16 X (h := ?_)
      refine i_P_entryAt_17 X (hM := by assumption) (h := ?_)
      refine i_P_entryAt_20 X (h := ?_)
      refine i_P_entryAt_22 X G (hM := by assumption) (hx := rfl) (hj := by omega) (h := ?_)
      refine i_P_entryAt_23 X (h := ?_)
      refine i_P_entryAt_24 X (h1 := fun c24 => ?_) (h2 := fun c24 => ?_)
      · skip
        refine i_P_entryAt_30 X (h := ?_)
        refine i_P_entryAt_33 X (h := ?_)
        rw [nI_1]
        exact ih (j + 1) (by omega) (by rw [hr]; simp only [entL]; rw [if_neg c24])
      · skip
        have c24 : pl j = p := c24
        refine i_P_entryAt_27 X (h := ?_)
        exact i_P_entryAt_29 X (hk := by omega) (hn := by omega) (hp := ⟨by rw [hr]; simp only [entL]; rw [if_pos c24], rfl⟩)
set_option maxRecDepth 20000 in
set_option maxHeartbeats 1000000 in
theorem ct_P_entryAt {l : Launch} {D : va_G} {tys : List (ClassId × FieldType)} {M : mM} {cI cB cN : ClassId} {h0 na pa : Nat} {nd ow : Nat → Nat} {sr vr dr er : Nat → Option Nat} {pl : Nat → Int32} {w g ck mk ch dc dm dh ev : Int32} {sp ds : Nat → List (Int32 × Int32)} {vs dv : Nat → List vV} (G : tys[0]? = some (cI, .int) ∧ tys[1]? = some (cB, .boolean) ∧ tys[2]? = some (cN, .object RX0)) (hI : IC M cI cN h0 na pa nd ow sr vr dr er pl w g ck mk ch dc dm dh ev sp ds vs dv) (f n : Nat) : Ct_P_entryAt l D tys 0 0 [.ref h0, .int (nI f), .int (nI n)] M (fun v M1 => v = some (.int (nI (entL pl (nI (f * 8 + n)) 24 0))) ∧ M1 = M) := by
  refine Ct.of (cc := c_P_entryAt) (maxL := 5) (ret := (some (.int))) (L0 := [some (.ref h0), some (.int (nI f)), some (.int (nI n)), none, none]) (by decide) (by intro v hv; simp only [List.mem_cons, List.not_mem_nil, or_false] at hv; rcases hv with rfl | rfl | rfl <;> first | rfl | exact mRf_cat (mRf_rf _)) (by simp) rfl ?_
  intro z ws0 hl hD ht X1 X2
  subst hl; subst hD; subst ht
  have X := And.intro X1 X2
  clear X1 X2
  have hI0 := hI
  obtain ⟨hO, hNa, hPa, hNd, hNi⟩ := hI
  refine i_P_entryAt_0 X (h := ?_)
  refine i_P_entryAt_1 X (h := ?_)
  refine i_P_entryAt_2 X (hC := ct_P_placeOf (nI f) (nI n)) (hk := by omega) (hn := by omega) (h := fun v2 M2 hp2 => ?_)
  obtain ⟨rfl, rfl⟩ := hp2
  refine i_P_entryAt_5 X (h := ?_)
  refine i_P_entryAt_6 X (h := ?_)
  refine i_P_entryAt_7 X (h := ?_)
  rw [show nI f * 8 + nI n = nI (f * 8 + n) from by rw [show (8 : Int32) = nI 8 from rfl, pk_mul, nI_add]]
  exact lp_P_entryAt (cB := cB) G hI0 X 24 0 rfl rfl
set_option maxRecDepth 20000 in
theorem lp_P_firstName {z : zT} {ws0 : va_W} {mc ms : Nat} {M : mM} {cI cB cN : ClassId} {h0 na pa : Nat} {nd ow : Nat → Nat} {sr vr dr er : Nat → Option Nat} {pl : Nat → Int32} {w g ck mk ch dc dm dh ev : Int32} {sp ds : Nat → List (Int32 × Int32)} {vs dv : Nat → List vV} (G : GT z cI cB cN) (hI : IC M cI cN h0 na pa nd ow sr vr dr er pl w g ck mk ch dc dm dh ev sp ds vs dv) {f : Nat} {l2 : Option Value} {r : Nat}
    (X : B_P_firstName z ws0 mc ms (fun v M1 => v = some (.int (nI r)) ∧ M1 = M)) : ∀ (n j : Nat), j + n = 8 → r = fnL pl f n j → RN z 2 [some (.ref h0), some (.int (nI f)), l2, some (.int (nI j))] [] M 0 0 := by
  have hI0 := hI
  obtain ⟨hO, hNa, hPa, hNd, hNi⟩ := hI
  intro n
  induction n with
  | zero =>
    intro j hj hr
    have hj : j = 8 := by omega
    subst hj
    refine i_P_firstName_2 X (h := ?_)
    refine i_P_firstName_3 X (h := ?_)
    refine i_P_firstName_5 X (h1 := fun c5 => ?_) (h2 := fun c5 => ?_)
    · skip
      refine i_P_firstName_25 X (h := ?_)
      exact i_P_firstName_27 X (hk := by omega) (hn := by omega) (hp := ⟨by rw [hr]; rfl, rfl⟩)
    · skip
      exact absurd (by decide) c5 --end
  | succ n ih =>
    intro j hj hr
    refine i_P_firstName_2 X (h := ?_)
    refine i_P_firstName_3 X (h := ?_)
    refine i_P_firstName_5 X (h1 := fun c5 => ?_) (h2 := fun c5 => ?_)
    · skip
      exact absurd c5 (nI_ge (a := j) (b := 8) (by omega) (by decide)) --end
    · skip
      refine i_P_firstName_8 X (h := ?_)
      refine i_P_firstName_9 X (h := ?_)
      refine i_P_firstName_10 X (h := ?_)
      refine i_P_firstName_11 X (hM := by assumption) (hC := ct_P_entryAt (cB := cB) G hI0 f j) (hk := by omega) (hn := by omega) (h := fun v11 M11 hp11 => ?_)
      obtain ⟨rfl, rfl⟩ := hp11
      refine i_P_firstName_14 X (h1 := fun c14 => ?_) (h2 := fun c14 => ?_)
      · skip
        have f14 : entL pl (nI (f * 8 + j)) 24 0 = 0 := (nI_eq (b := 0) (Nat.lt_trans (entL_lt _ _ 24 0 (by decide)) (by decide)) (by decide)).mp c14
        refine i_P_firstName_19 X (h := ?_)
        refine i_P_firstName_22 X (h := ?_)
        rw [nI_1]
        exact ih (j + 1) (by omega) (by rw [hr]; simp only [fnL]; rw [if_pos f14])
      · skip
        have f14 : ¬ entL pl (nI (f * 8 + j)) 24 0 = 0 := fun q => c14 (by rw [q]; rfl)
        refine i_P_firstName_17 X (h := ?_)
        exact i_P_firstName_18 X (hk := by omega) (hn := by omega) (hp := ⟨by rw [hr]; simp only [fnL]; rw [if_neg f14], rfl⟩)
set_option maxRecDepth 20000 in
set_option maxHeartbeats 1000000 in
theorem ct_P_firstName {l : Launch} {D : va_G} {tys : List (ClassId × FieldType)} {M : mM} {cI cB cN : ClassId} {h0 na pa : Nat} {nd ow : Nat → Nat} {sr vr dr er : Nat → Option Nat} {pl : Nat → Int32} {w g ck mk ch dc dm dh ev : Int32} {sp ds : Nat → List (Int32 × Int32)} {vs dv : Nat → List vV} (G : tys[0]? = some (cI, .int) ∧ tys[1]? = some (cB, .boolean) ∧ tys[2]? = some (cN, .object RX0)) (hI : IC M cI cN h0 na pa nd ow sr vr dr er pl w g ck mk ch dc dm dh ev sp ds vs dv) (f n : Nat) (hn : n ≤ 8) : Ct_P_firstName l D tys 0 0 [.ref h0, .int (nI f), .int (nI n)] M (fun v M1 => v = some (.int (nI (fnL pl f (8 - n) n))) ∧ M1 = M) := by
  refine Ct.of (cc := c_P_firstName) (maxL := 4) (ret := (some (.int))) (L0 := [some (.ref h0), some (.int (nI f)), some (.int (nI n)), none]) (by decide) (by intro v hv; simp only [List.mem_cons, List.not_mem_nil, or_false] at hv; rcases hv with rfl | rfl | rfl <;> first | rfl | exact mRf_cat (mRf_rf _)) (by simp) rfl ?_
  intro z ws0 hl hD ht X1 X2
  subst hl; subst hD; subst ht
  have X := And.intro X1 X2
  clear X1 X2
  refine i_P_firstName_0 X (h := ?_)
  refine i_P_firstName_1 X (h := ?_)
  exact lp_P_firstName (cB := cB) G hI X (8 - n) n (by omega) rfl
set_option maxRecDepth 20000 in
set_option maxHeartbeats 1000000 in
theorem ct_P_hasRoomFor {l : Launch} {D : va_G} {tys : List (ClassId × FieldType)} {M : mM} {cI cB cN : ClassId} {h0 na pa : Nat} {nd ow : Nat → Nat} {sr vr dr er : Nat → Option Nat} {pl : Nat → Int32} {w g ck mk ch dc dm dh ev : Int32} {sp ds : Nat → List (Int32 × Int32)} {vs dv : Nat → List vV} (G : tys[0]? = some (cI, .int) ∧ tys[1]? = some (cB, .boolean) ∧ tys[2]? = some (cN, .object RX0)) (hI : IC M cI cN h0 na pa nd ow sr vr dr er pl w g ck mk ch dc dm dh ev sp ds vs dv) (f n : Nat) (hf : f < 24) : Ct_P_hasRoomFor l D tys 0 0 [.ref h0, .int (nI f), .int (nI n)] M (fun v M1 => v = some (.int (bI ((f = 0 ∨ ¬ pl f = -1) ∧ entL pl (nI (f * 8 + n)) 24 0 = 0))) ∧ M1 = M) := by
  refine Ct.of (cc := c_P_hasRoomFor) (maxL := 4) (ret := (some (.boolean))) (L0 := [some (.ref h0), some (.int (nI f)), some (.int (nI n)), none]) (by decide) (by intro v hv; simp only [List.mem_cons, List.not_mem_nil, or_false] at hv; rcases hv with rfl | rfl | rfl <;> first | rfl | exact mRf_cat (mRf_rf _)) (by simp) rfl ?_
  intro z ws0 hl hD ht X1 X2
  subst hl; subst hD; subst ht
  have X := And.intro X1 X2
  clear X1 X2
  have hI0 := hI
  obtain ⟨hO, hNa, hPa, hNd, hNi⟩ := hI
  refine i_P_hasRoomFor_0 X (h := ?_)
  refine i_P_hasRoomFor_1 X (h1 := fun c1 => ?_) (h2 := fun c1 => ?_)
  · skip
    have f1 : f = 0 := (nI_eq (b := 0) (by omega) (by decide)).mp c1
    refine i_P_hasRoomFor_14 X (h := ?_)
    refine i_P_hasRoomFor_15 X (h := ?_)
    refine i_P_hasRoomFor_19 X (h := ?_)
    refine i_P_hasRoomFor_20 X (h := ?_)
    refine i_P_hasRoomFor_21 X (h1 := fun c => absurd c (by decide)) (h2 := fun _ => ?_)
    refine i_P_hasRoomFor_24 X (h := ?_)
    refine i_P_hasRoomFor_25 X (h := ?_)
    refine i_P_hasRoomFor_26 X (h := ?_)
    refine i_P_hasRoomFor_27 X (hM := by assumption) (hC := ct_P_entryAt (cB := cB) G hI0 f n) (hk := by omega) (hn := by omega) (h := fun v27 M27 hp27 => ?_)
    obtain ⟨rfl, rfl⟩ := hp27
    refine i_P_hasRoomFor_30 X (h1 := fun c30 => ?_) (h2 := fun c30 => ?_)
    · skip
      have f30 : ¬ entL pl (nI (f * 8 + n)) 24 0 = 0 := fun q => c30 (by rw [q]; rfl)
      refine i_P_hasRoomFor_37 X (h := ?_)
      exact i_P_hasRoomFor_38 X (hk := by omega) (hn := by omega) (hx := by first | exact Or.inl rfl | exact Or.inr rfl | assumption) (hp := ⟨by clear X; unfold bI; grind, rfl⟩)
    · skip
      have f30 : entL pl (nI (f * 8 + n)) 24 0 = 0 := (nI_eq (b := 0) (Nat.lt_trans (entL_lt _ _ 24 0 (by decide)) (by decide)) (by decide)).mp c30
      refine i_P_hasRoomFor_33 X (h := ?_)
      refine i_P_hasRoomFor_34 X (h := ?_)
      exact i_P_hasRoomFor_38 X (hk := by omega) (hn := by omega) (hx := by first | exact Or.inl rfl | exact Or.inr rfl | assumption) (hp := ⟨by clear X; unfold bI; grind, rfl⟩)
  · skip
    have f1 : ¬ f = 0 := fun q => c1 (by rw [q]; rfl)
    refine i_P_hasRoomFor_4 X (h := ?_)
    refine i_P_hasRoomFor_5 X (hM := by assumption) (h := ?_)
    refine i_P_hasRoomFor_8 X (h := ?_)
    refine i_P_hasRoomFor_9 X G (hM := by assumption) (hx := rfl) (hj := hf) (h := ?_)
    refine i_P_hasRoomFor_10 X (h := ?_)
    refine i_P_hasRoomFor_11 X (h1 := fun c11 => ?_) (h2 := fun c11 => ?_)
    · skip
      refine i_P_hasRoomFor_18 X (h := ?_)
      refine i_P_hasRoomFor_19 X (h := ?_)
      refine i_P_hasRoomFor_20 X (h := ?_)
      refine i_P_hasRoomFor_21 X (h1 := fun _ => ?_) (h2 := fun c => absurd rfl c)
      refine i_P_hasRoomFor_37 X (h := ?_)
      exact i_P_hasRoomFor_38 X (hk := by omega) (hn := by omega) (hx := by first | exact Or.inl rfl | exact Or.inr rfl | assumption) (hp := ⟨by clear X; unfold bI; grind, rfl⟩)
    · skip
      refine i_P_hasRoomFor_14 X (h := ?_)
      refine i_P_hasRoomFor_15 X (h := ?_)
      refine i_P_hasRoomFor_19 X (h := ?_)
      refine i_P_hasRoomFor_20 X (h := ?_)
      refine i_P_hasRoomFor_21 X (h1 := fun c => absurd c (by decide)) (h2 := fun _ => ?_)
      refine i_P_hasRoomFor_24 X (h := ?_)
      refine i_P_hasRoomFor_25 X (h := ?_)
      refine i_P_hasRoomFor_26 X (h := ?_)
      refine i_P_hasRoomFor_27 X (hM := by assumption) (hC := ct_P_entryAt (cB := cB) G hI0 f n) (hk := by omega) (hn := by omega) (h := fun v27 M27 hp27 => ?_)
      obtain ⟨rfl, rfl⟩ := hp27
      refine i_P_hasRoomFor_30 X (h1 := fun c30 => ?_) (h2 := fun c30 => ?_)
      · skip
        have f30 : ¬ entL pl (nI (f * 8 + n)) 24 0 = 0 := fun q => c30 (by rw [q]; rfl)
        refine i_P_hasRoomFor_37 X (h := ?_)
        exact i_P_hasRoomFor_38 X (hk := by omega) (hn := by omega) (hx := by first | exact Or.inl rfl | exact Or.inr rfl | assumption) (hp := ⟨by clear X; unfold bI; grind, rfl⟩)
      · skip
        have f30 : entL pl (nI (f * 8 + n)) 24 0 = 0 := (nI_eq (b := 0) (Nat.lt_trans (entL_lt _ _ 24 0 (by decide)) (by decide)) (by decide)).mp c30
        refine i_P_hasRoomFor_33 X (h := ?_)
        refine i_P_hasRoomFor_34 X (h := ?_)
        exact i_P_hasRoomFor_38 X (hk := by omega) (hn := by omega) (hx := by first | exact Or.inl rfl | exact Or.inr rfl | assumption) (hp := ⟨by clear X; unfold bI; grind, rfl⟩)
