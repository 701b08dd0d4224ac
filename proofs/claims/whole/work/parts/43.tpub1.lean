def sumL (vs : Nat → List vV) : Nat → Nat
  | 0 => 0
  | n + 1 => sumL vs n + (vs n).length
def sumG (vs : Nat → List vV) : Nat → Nat
  | 0 => 0
  | n + 1 => sumG vs n + cgn (vs n)
def hd0 : List vV → Prop
  | [] => True
  | (_, _, _, g) :: _ => g = 0
/-- what the twin's rows below c say: the class's lists -/
def RA (W S N U F K C Qf Qt : Nat → Int32) (gn c : Nat) (ck : Int32) (m : Nat) (sp : Nat → List (Int32 × Int32)) (vs : Nat → List vV) : Prop :=
  lgOk S U c ∧ (m = 1 + cntK K c ∧ m ≤ 24) ∧
  (∀ n, 0 < n → n < 24 → kdL K N (nI n) c 0 = if n < m then (if (vs n).isEmpty = true then 1 else 2) else 0) ∧
  (∀ t, eR (rep W S N U t c) (fun n => plc (sp n) t)) ∧
  (sp 0 = [] ∧ vs 0 = [] ∧ ∀ n, m ≤ n → n < 24 → sp n = [] ∧ vs n = []) ∧
  (spOk sp ∧ ∀ n, n < 24 → ∀ e ∈ sp n, e.1 ≤ ck) ∧
  (∀ n, n < 24 → VN F W C Qf Qt gn c ck n (vs n) ∧ hd0 (vs n)) ∧
  (∀ j, j < c → 0 ≤ W j) ∧ sumL vs 24 ≤ c ∧ gn = sumG vs 24
theorem RA.clock {W S N U F K C Qf Qt : Nat → Int32} {gn c : Nat} {ck ck' : Int32} {m : Nat} {sp : Nat → List (Int32 × Int32)} {vs : Nat → List vV} (h : RA W S N U F K C Qf Qt gn c ck m sp vs) (hc : ck ≤ ck') : RA W S N U F K C Qf Qt gn c ck' m sp vs := by
  obtain ⟨h1, h2, h3, h4, h5, h6, h7, h8⟩ := h
  exact ⟨h1, h2, h3, h4, h5, ⟨h6.1, fun n hn e he => Int32.le_trans (h6.2 n hn e he) hc⟩, fun n hn => ⟨(h7 n hn).1.clock hc, (h7 n hn).2⟩, h8⟩
/-- the twin holds the state sigma, J calls at most having been made -/
def TS (M : mM) (cI cB : ClassId) (t0 J : Nat) : sS → Prop
  | ((w, g), (ck, m, ch), (dc, dm, dh), ev, sp, vs, ds, dv) => ∃ (ad : Nat → Nat) (W S N U F K C Qf Qt E R : Nat → Int32) (c d gn : Nat), TI M cI cB t0 ad W S N U F K C Qf Qt E R w g ck dc c d gn ∧ RA W S N U F K C Qf Qt gn c ck m sp vs ∧ RA W S N U F K C Qf Qt gn d dc dm ds dv ∧
    (ch = nI c ∧ dh = nI d ∧ d ≤ c) ∧ (∃ e, ev = nI e ∧ c ≤ e ∧ e ≤ J) ∧ (∃ kc kd, ck = nI kc ∧ dc = nI kd ∧ kd ≤ kc ∧ kc ≤ 1000 * J) ∧ (∀ i, i < gn → Qt i < dc) ∧ (0 ≤ w ∧ w ≤ 1000 ∧ 0 ≤ g ∧ g ≤ 1000)
theorem TS.of {M : mM} {cI cB : ClassId} {t0 J : Nat} {ad : Nat → Nat} {W S N U F K C Qf Qt E R : Nat → Int32} {c d gn : Nat} {w g ck ch dc dh ev : Int32} {m dm : Nat} {sp ds : Nat → List (Int32 × Int32)} {vs dv : Nat → List vV} (h1 : TI M cI cB t0 ad W S N U F K C Qf Qt E R w g ck dc c d gn) (h2 : RA W S N U F K C Qf Qt gn c ck m sp vs) (h3 : RA W S N U F K C Qf Qt gn d dc dm ds dv) (h4 : ch = nI c ∧ dh = nI d ∧ d ≤ c) (h5 : ∃ e, ev = nI e ∧ c ≤ e ∧ e ≤ J) (h6 : ∃ kc kd, ck = nI kc ∧ dc = nI kd ∧ kd ≤ kc ∧ kc ≤ 1000 * J) (h7 : ∀ i, i < gn → Qt i < dc) (h8 : 0 ≤ w ∧ w ≤ 1000 ∧ 0 ≤ g ∧ g ≤ 1000) : TS M cI cB t0 J ((w, g), (ck, m, ch), (dc, dm, dh), ev, sp, vs, ds, dv) := ⟨ad, W, S, N, U, F, K, C, Qf, Qt, E, R, c, d, gn, h1, h2, h3, h4, h5, h6, h7, h8⟩
theorem TS.mono {M : mM} {cI cB : ClassId} {t0 J J' : Nat} {s : sS} (hJ : J ≤ J') (h : TS M cI cB t0 J s) : TS M cI cB t0 J' s := by
  obtain ⟨⟨w, g⟩, ⟨ck, m, ch⟩, ⟨dc, dm, dh⟩, ev, sp, vs, ds, dv⟩ := s
  obtain ⟨ad, W, S, N, U, F, K, C, Qf, Qt, E, R, c, d, gn, h1, h2, h3, h4, ⟨e, he1, he2, he3⟩, ⟨kc, kd, hk1, hk2, hk3, hk4⟩, h7, h8⟩ := h
  exact ⟨ad, W, S, N, U, F, K, C, Qf, Qt, E, R, c, d, gn, h1, h2, h3, h4, ⟨e, he1, he2, by omega⟩, ⟨kc, kd, hk1, hk2, hk3, by omega⟩, h7, h8⟩
theorem tick_no {x : Int32} (h : ¬ (0 ≤ x ∧ x < 1001)) : x < 0 ∨ 1000 < x := by
  by_cases q : x < 0
  · exact Or.inl q
  · refine Or.inr (Int32.not_le.mp (fun h2 => h ⟨Int32.not_lt.mp q, ?_⟩))
    rw [Int32.lt_iff_toInt_lt]
    rw [Int32.le_iff_toInt_le] at h2
    have e1 : (1000 : Int32).toInt = 1000 := by decide
    have e2 : (1001 : Int32).toInt = 1001 := by decide
    omega
set_option maxRecDepth 20000 in
set_option maxHeartbeats 1000000 in
theorem ct_T_tick {l : Launch} {D : va_G} {tys : List (ClassId × FieldType)} {M : mM} {cI cB cN : ClassId} {t0 J : Nat} {w g ck ch dc dh ev : Int32} {m dm : Nat} {sp ds : Nat → List (Int32 × Int32)} {vs dv : Nat → List vV} (hS : TS M cI cB t0 J ((w, g), (ck, m, ch), (dc, dm, dh), ev, sp, vs, ds, dv)) (hJ : J < 512) (x : Int32) : Ct_T_tick l D tys 0 0 [.ref t0, .int x] M (fun v M1 => ∃ r s1, F_tick ((w, g), (ck, m, ch), (dc, dm, dh), ev, sp, vs, ds, dv) x = (r, s1) ∧ v = some (.int r) ∧ TS M1 cI cB t0 (J + 1) s1) := by
  refine Ct.of (cc := c_T_tick) (maxL := 2) (ret := (some (.int))) (L0 := [some (.ref t0), some (.int x)]) (by decide) (by intro v hv; simp only [List.mem_cons, List.not_mem_nil, or_false] at hv; rcases hv with rfl | rfl <;> first | rfl | exact mRf_cat (mRf_rf _)) (by simp) rfl ?_
  intro z ws0 hl hD ht X1 X2
  subst hl; subst hD; subst ht
  have X := And.intro X1 X2
  clear X1 X2
  obtain ⟨ad, W, S, N, U, F, K, C, Qf, Qt, E, R, c, d, gn, hT, hA, hB, hcd, hev, hck, hqt, hwg⟩ := hS
  obtain ⟨rfl, rfl, hdc⟩ := hcd
  obtain ⟨e, rfl, hce, heJ⟩ := hev
  obtain ⟨kc, kd, rfl, rfl, hkd, hkc⟩ := hck
  have hT0 := hT
  obtain ⟨hO, tW, tS, tN, tU, tF, tK, tC, tGF, tGT, tE, tR, tI⟩ := hT
  refine i_T_tick_0 X (h := ?_)
  refine i_T_tick_1 X (h := ?_)
  refine i_T_tick_4 X (hC := ct_T_isin x 1001) (hk := by omega) (hn := by omega) (h := fun v4 M4 hp4 => ?_)
  obtain ⟨rfl, rfl⟩ := hp4
  refine i_T_tick_7 X (h1 := fun c7 => ?_) (h2 := fun c7 => ?_)
  · skip
    have f7 := bI_ne0 c7
    obtain ⟨x1, hx1, rfl⟩ := ix_of (m := 1001) f7 (by decide)
    refine i_T_tick_12 X (h := ?_)
    refine i_T_tick_13 X (h := ?_)
    refine i_T_tick_14 X (hM := by assumption) (h := ?_)
    refine i_T_tick_17 X (h := ?_)
    refine i_T_tick_18 X (h := ?_)
    refine i_T_tick_19 X (hM := by assumption) (h := ?_)
    refine i_T_tick_22 X (h := ?_)
    refine i_T_tick_23 X (hM := mS_self _ _ _) (h := ?_)
    exact i_T_tick_26 X (hk := by omega) (hn := by omega) (hp := ⟨_, _, by simp only [F_tick]; rw [if_neg (fun h => h.elim (fun q => absurd q (nI_pos (by omega))) (fun q => absurd q (nI_nlt (b := x1) (a := 1000) (by omega) (by decide))))], rfl, by
        rw [nI_add]
        exact TS.of (TI.obj hT0 c d gn (nI (kc + x1)) (nI kd)) (hA.clock (nI_le (by omega) (by omega))) hB ⟨rfl, rfl, hdc⟩ ⟨e, rfl, hce, by omega⟩ ⟨kc + x1, kd, rfl, rfl, by omega, by omega⟩ hqt hwg⟩)
  · skip
    have f7 := bI_eq0 c7
    refine i_T_tick_10 X (h := ?_)
    exact i_T_tick_11 X (hk := by omega) (hn := by omega) (hp := ⟨_, _, by simp only [F_tick]; rw [if_pos (tick_no f7)], rfl, TS.of (hT0) hA hB ⟨rfl, rfl, hdc⟩ ⟨e, rfl, hce, by omega⟩ ⟨kc, kd, rfl, rfl, hkd, by omega⟩ hqt hwg⟩)
set_option maxRecDepth 20000 in
set_option maxHeartbeats 1000000 in
theorem ct_T_count {l : Launch} {D : va_G} {tys : List (ClassId × FieldType)} {M : mM} {cI cB cN : ClassId} {t0 J : Nat} {w g ck ch dc dh ev : Int32} {m dm : Nat} {sp ds : Nat → List (Int32 × Int32)} {vs dv : Nat → List vV} (G : tys[0]? = some (cI, .int) ∧ tys[1]? = some (cB, .boolean) ∧ tys[2]? = some (cN, .object RX0)) (hS : TS M cI cB t0 J ((w, g), (ck, m, ch), (dc, dm, dh), ev, sp, vs, ds, dv)) (hJ : J < 512) (x : Int32) : Ct_T_count l D tys 0 0 [.ref t0, .int x] M (fun v M1 => ∃ r s1, F_count ((w, g), (ck, m, ch), (dc, dm, dh), ev, sp, vs, ds, dv) x = (r, s1) ∧ v = some (.int r) ∧ TS M1 cI cB t0 (J + 1) s1) := by
  refine Ct.of (cc := c_T_count) (maxL := 2) (ret := (some (.int))) (L0 := [some (.ref t0), some (.int x)]) (by decide) (by intro v hv; simp only [List.mem_cons, List.not_mem_nil, or_false] at hv; rcases hv with rfl | rfl <;> first | rfl | exact mRf_cat (mRf_rf _)) (by simp) rfl ?_
  intro z ws0 hl hD ht X1 X2
  subst hl; subst hD; subst ht
  have X := And.intro X1 X2
  clear X1 X2
  obtain ⟨ad, W, S, N, U, F, K, C, Qf, Qt, E, R, c, d, gn, hT, hA, hB, hcd, hev, hck, hqt, hwg⟩ := hS
  obtain ⟨rfl, rfl, hdc⟩ := hcd
  obtain ⟨e, rfl, hce, heJ⟩ := hev
  obtain ⟨kc, kd, rfl, rfl, hkd, hkc⟩ := hck
  have hT0 := hT
  obtain ⟨hO, tW, tS, tN, tU, tF, tK, tC, tGF, tGT, tE, tR, tI⟩ := hT
  have hm := hA.2.1.1
  refine i_T_count_0 X (h := ?_)
  refine i_T_count_1 X (h1 := fun c1 => ?_) (h2 := fun c1 => ?_)
  · skip
    refine i_T_count_9 X (h := ?_)
    refine i_T_count_10 X (h := ?_)
    refine i_T_count_11 X (h1 := fun c11 => ?_) (h2 := fun c11 => ?_)
    · skip
      refine i_T_count_19 X (h := ?_)
      refine i_T_count_20 X (h := ?_)
      refine i_T_count_21 X (h1 := fun c21 => ?_) (h2 := fun c21 => ?_)
      · skip
        refine i_T_count_29 X (h := ?_)
        refine i_T_count_30 X (h := ?_)
        refine i_T_count_31 X (h1 := fun c31 => ?_) (h2 := fun c31 => ?_)
        · skip
          refine i_T_count_46 X (h := ?_)
          exact i_T_count_47 X (hk := by omega) (hn := by omega) (hp := ⟨_, _, by simp only [F_count]; rw [if_neg c1, if_neg c11, if_neg c21, if_neg c31], rfl, TS.of (hT0) hA hB ⟨rfl, rfl, hdc⟩ ⟨e, rfl, hce, by omega⟩ ⟨kc, kd, rfl, rfl, hkd, by omega⟩ hqt hwg⟩)
        · skip
          refine i_T_count_34 X (h := ?_)
          refine i_T_count_35 X (hM := by assumption) (h := ?_)
          refine i_T_count_38 X (h := ?_)
          refine i_T_count_39 X (hM := by assumption) (h := ?_)
          refine i_T_count_42 X (h := ?_)
          refine i_T_count_43 X (h := ?_)
          exact i_T_count_47 X (hk := by omega) (hn := by omega) (hp := ⟨_, _, by simp only [F_count]; rw [if_neg c1, if_neg c11, if_neg c21, if_pos c31], rfl, TS.of (hT0) hA hB ⟨rfl, rfl, hdc⟩ ⟨e, rfl, hce, by omega⟩ ⟨kc, kd, rfl, rfl, hkd, by omega⟩ hqt hwg⟩)
      · skip
        refine i_T_count_24 X (h := ?_)
        refine i_T_count_25 X (hM := by assumption) (h := ?_)
        exact i_T_count_28 X (hk := by omega) (hn := by omega) (hp := ⟨_, _, by simp only [F_count]; rw [if_neg c1, if_neg c11, if_pos c21], rfl, TS.of (hT0) hA hB ⟨rfl, rfl, hdc⟩ ⟨e, rfl, hce, by omega⟩ ⟨kc, kd, rfl, rfl, hkd, by omega⟩ hqt hwg⟩)
    · skip
      refine i_T_count_14 X (h := ?_)
      refine i_T_count_15 X (hM := by assumption) (hC := ct_T_nodes G hT0 (by omega)) (hk := by omega) (hn := by omega) (h := fun v15 M15 hp15 => ?_)
      obtain ⟨rfl, rfl⟩ := hp15
      exact i_T_count_18 X (hk := by omega) (hn := by omega) (hp := ⟨_, _, by simp only [F_count]; rw [if_neg c1, if_pos c11, hm], rfl, TS.of (hT0) hA hB ⟨rfl, rfl, hdc⟩ ⟨e, rfl, hce, by omega⟩ ⟨kc, kd, rfl, rfl, hkd, by omega⟩ hqt hwg⟩)
  · skip
    refine i_T_count_4 X (h := ?_)
    refine i_T_count_5 X (hM := by assumption) (h := ?_)
    exact i_T_count_8 X (hk := by omega) (hn := by omega) (hp := ⟨_, _, by simp only [F_count]; rw [if_pos c1], rfl, TS.of (hT0) hA hB ⟨rfl, rfl, hdc⟩ ⟨e, rfl, hce, by omega⟩ ⟨kc, kd, rfl, rfl, hkd, by omega⟩ hqt hwg⟩)
set_option maxRecDepth 20000 in
set_option maxHeartbeats 1000000 in
theorem ct_T_sync {l : Launch} {D : va_G} {tys : List (ClassId × FieldType)} {M : mM} {cI cB cN : ClassId} {t0 J : Nat} {w g ck ch dc dh ev : Int32} {m dm : Nat} {sp ds : Nat → List (Int32 × Int32)} {vs dv : Nat → List vV} (hS : TS M cI cB t0 J ((w, g), (ck, m, ch), (dc, dm, dh), ev, sp, vs, ds, dv)) (hJ : J < 512) : Ct_T_sync l D tys 0 0 [.ref t0] M (fun v M1 => ∃ r s1, F_sync ((w, g), (ck, m, ch), (dc, dm, dh), ev, sp, vs, ds, dv) = (r, s1) ∧ v = some (.int r) ∧ TS M1 cI cB t0 (J + 1) s1) := by
  refine Ct.of (cc := c_T_sync) (maxL := 1) (ret := (some (.int))) (L0 := [some (.ref t0)]) (by decide) (by intro v hv; simp only [List.mem_cons, List.not_mem_nil, or_false] at hv; rcases hv with rfl <;> first | rfl | exact mRf_cat (mRf_rf _)) (by simp) rfl ?_
  intro z ws0 hl hD ht X1 X2
  subst hl; subst hD; subst ht
  have X := And.intro X1 X2
  clear X1 X2
  obtain ⟨ad, W, S, N, U, F, K, C, Qf, Qt, E, R, c, d, gn, hT, hA, hB, hcd, hev, hck, hqt, hwg⟩ := hS
  obtain ⟨rfl, rfl, hdc⟩ := hcd
  obtain ⟨e, rfl, hce, heJ⟩ := hev
  obtain ⟨kc, kd, rfl, rfl, hkd, hkc⟩ := hck
  have hT0 := hT
  obtain ⟨hO, tW, tS, tN, tU, tF, tK, tC, tGF, tGT, tE, tR, tI⟩ := hT
  refine i_T_sync_0 X (h := ?_)
  refine i_T_sync_1 X (h := ?_)
  refine i_T_sync_2 X (hM := by assumption) (h := ?_)
  refine i_T_sync_5 X (hM := by assumption) (h := ?_)
  refine i_T_sync_8 X (h := ?_)
  refine i_T_sync_9 X (h := ?_)
  refine i_T_sync_10 X (hM := mS_self _ _ _) (h := ?_)
  refine i_T_sync_13 X (hM := mS_self _ _ _) (h := ?_)
  refine i_T_sync_16 X (h := ?_)
  refine i_T_sync_17 X (hM := mS_self _ _ _) (h := ?_)
  exact i_T_sync_20 X (hk := by omega) (hn := by omega) (hp := ⟨_, _, rfl, rfl, by
      simp only [mS_mS]
      exact TS.of (TI.obj hT0 c c gn (nI kc) (nI kc)) hA hA ⟨rfl, rfl, Nat.le_refl c⟩ ⟨e, rfl, hce, by omega⟩ ⟨kc, kc, rfl, rfl, Nat.le_refl kc, by omega⟩ (fun i hi => Int32.lt_of_lt_of_le (hqt i hi) (nI_le hkd (by omega))) hwg⟩)
set_option maxRecDepth 20000 in
set_option maxHeartbeats 1000000 in
theorem ct_T_crash {l : Launch} {D : va_G} {tys : List (ClassId × FieldType)} {M : mM} {cI cB cN : ClassId} {t0 J : Nat} {w g ck ch dc dh ev : Int32} {m dm : Nat} {sp ds : Nat → List (Int32 × Int32)} {vs dv : Nat → List vV} (hS : TS M cI cB t0 J ((w, g), (ck, m, ch), (dc, dm, dh), ev, sp, vs, ds, dv)) (hJ : J < 512) : Ct_T_crash l D tys 0 0 [.ref t0] M (fun v M1 => ∃ r s1, F_crash ((w, g), (ck, m, ch), (dc, dm, dh), ev, sp, vs, ds, dv) = (r, s1) ∧ v = some (.int r) ∧ TS M1 cI cB t0 (J + 1) s1) := by
  refine Ct.of (cc := c_T_crash) (maxL := 2) (ret := (some (.int))) (L0 := [some (.ref t0), none]) (by decide) (by intro v hv; simp only [List.mem_cons, List.not_mem_nil, or_false] at hv; rcases hv with rfl <;> first | rfl | exact mRf_cat (mRf_rf _)) (by simp) rfl ?_
  intro z ws0 hl hD ht X1 X2
  subst hl; subst hD; subst ht
  have X := And.intro X1 X2
  clear X1 X2
  obtain ⟨ad, W, S, N, U, F, K, C, Qf, Qt, E, R, c, d, gn, hT, hA, hB, hcd, hev, hck, hqt, hwg⟩ := hS
  obtain ⟨rfl, rfl, hdc⟩ := hcd
  obtain ⟨e, rfl, hce, heJ⟩ := hev
  obtain ⟨kc, kd, rfl, rfl, hkd, hkc⟩ := hck
  have hT0 := hT
  obtain ⟨hO, tW, tS, tN, tU, tF, tK, tC, tGF, tGT, tE, tR, tI⟩ := hT
  refine i_T_crash_0 X (h := ?_)
  refine i_T_crash_1 X (hM := by assumption) (h := ?_)
  refine i_T_crash_4 X (h := ?_)
  refine i_T_crash_5 X (hM := by assumption) (h := ?_)
  refine i_T_crash_8 X (h := ?_)
  refine i_T_crash_9 X (h := ?_)
  refine i_T_crash_10 X (h := ?_)
  refine i_T_crash_11 X (h := ?_)
  refine i_T_crash_12 X (hM := by assumption) (h := ?_)
  refine i_T_crash_15 X (hM := by assumption) (h := ?_)
  refine i_T_crash_18 X (h := ?_)
  refine i_T_crash_19 X (h := ?_)
  refine i_T_crash_20 X (hM := mS_self _ _ _) (h := ?_)
  refine i_T_crash_23 X (hM := mS_self _ _ _) (h := ?_)
  refine i_T_crash_26 X (h := ?_)
  exact i_T_crash_27 X (hk := by omega) (hn := by omega) (hp := ⟨_, _, rfl, rfl, by
      simp only [mS_mS]
      exact TS.of (TI.obj hT0 d d gn (nI kd) (nI kd)) hB hB ⟨rfl, rfl, Nat.le_refl d⟩ ⟨e, rfl, by omega, by omega⟩ ⟨kd, kd, rfl, rfl, Nat.le_refl kd, by omega⟩ hqt hwg⟩)
