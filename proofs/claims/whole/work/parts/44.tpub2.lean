theorem lt24 {f : Int32} {m : Nat} (hm : m ≤ 24) (h : f < nI m) : f < 24 := Int32.lt_of_lt_of_le h (nI_le (b := 24) hm (by decide))
theorem RA.m1 {W S N U F K C Qf Qt : Nat → Int32} {gn c : Nat} {ck : Int32} {m : Nat} {sp : Nat → List (Int32 × Int32)} {vs : Nat → List vV} (h : RA W S N U F K C Qf Qt gn c ck m sp vs) : 1 ≤ m := by have := h.2.1.1; omega
theorem kd_fd {W S N U F K C Qf Qt : Nat → Int32} {gn c : Nat} {ck : Int32} {m : Nat} {sp : Nat → List (Int32 × Int32)} {vs : Nat → List vV} (h : RA W S N U F K C Qf Qt gn c ck m sp vs) {f : Int32} : ((0 ≤ f ∧ f < 24) ∧ (if f = 0 then 1 else kdL K N f c 0) = 1) ↔ fdr m vs f := by
  have hm := h.2.1.2
  have hm1 := h.m1
  constructor
  · rintro ⟨h1, h2⟩
    obtain ⟨j, hj, rfl⟩ := ix_of (m := 24) h1 (by decide)
    have hcl := nI_clamp (n := j) (by omega)
    by_cases hj0 : j = 0
    · subst hj0
      exact ⟨⟨h1.1, nI_lt (by omega) (by omega)⟩, by rw [hcl, h.2.2.2.2.1.2.1]; rfl⟩
    · rw [if_neg (nI_ne0 (by omega) (by omega)), h.2.2.1 j (by omega) hj] at h2
      by_cases hjm : j < m
      · rw [if_pos hjm] at h2
        by_cases he : (vs j).isEmpty = true
        · exact ⟨⟨h1.1, nI_lt hjm (by omega)⟩, by rw [hcl]; exact he⟩
        · rw [if_neg he] at h2
          exact absurd h2 (by decide)
      · rw [if_neg hjm] at h2
        exact absurd h2 (by decide)
  · rintro ⟨h1, h2⟩
    refine ⟨⟨h1.1, lt24 hm h1.2⟩, ?_⟩
    obtain ⟨j, hj, rfl⟩ := ix_of h1 (by omega)
    rw [nI_clamp (n := j) (by omega)] at h2
    by_cases hj0 : j = 0
    · subst hj0
      rfl
    · rw [if_neg (nI_ne0 (by omega) (by omega)), h.2.2.1 j (by omega) (by omega), if_pos hj, if_pos h2]
theorem kd_fi {W S N U F K C Qf Qt : Nat → Int32} {gn c : Nat} {ck : Int32} {m : Nat} {sp : Nat → List (Int32 × Int32)} {vs : Nat → List vV} (h : RA W S N U F K C Qf Qt gn c ck m sp vs) {f : Int32} : ((0 ≤ f ∧ f < 24) ∧ (if f = 0 then 1 else kdL K N f c 0) = 2) ↔ fil m vs f := by
  have hm := h.2.1.2
  have hm1 := h.m1
  constructor
  · rintro ⟨h1, h2⟩
    obtain ⟨j, hj, rfl⟩ := ix_of (m := 24) h1 (by decide)
    have hcl := nI_clamp (n := j) (by omega)
    by_cases hj0 : j = 0
    · subst hj0
      rw [if_pos (show nI 0 = 0 from rfl)] at h2
      exact absurd h2 (by decide)
    · rw [if_neg (nI_ne0 (by omega) (by omega)), h.2.2.1 j (by omega) hj] at h2
      by_cases hjm : j < m
      · rw [if_pos hjm] at h2
        cases he : (vs j).isEmpty with
        | true =>
          rw [he, if_pos rfl] at h2
          exact absurd h2 (by decide)
        | false => exact ⟨⟨h1.1, nI_lt hjm (by omega)⟩, by rw [hcl]; exact he⟩
      · rw [if_neg hjm] at h2
        exact absurd h2 (by decide)
  · rintro ⟨h1, h2⟩
    refine ⟨⟨h1.1, lt24 hm h1.2⟩, ?_⟩
    obtain ⟨j, hj, rfl⟩ := ix_of h1 (by omega)
    rw [nI_clamp (n := j) (by omega)] at h2
    by_cases hj0 : j = 0
    · subst hj0
      rw [h.2.2.2.2.1.2.1] at h2
      exact absurd h2 (by decide)
    · rw [if_neg (nI_ne0 (by omega) (by omega)), h.2.2.1 j (by omega) (by omega), if_pos hj, if_neg (by rw [h2]; decide)]
theorem RA.q0 {W S N U F K C Qf Qt : Nat → Int32} {gn c : Nat} {ck : Int32} {m : Nat} {sp : Nat → List (Int32 × Int32)} {vs : Nat → List vV} (h : RA W S N U F K C Qf Qt gn c ck m sp vs) (t : Int32) : plc (sp 0) t = -1 := by rw [h.2.2.2.2.1.1]; rfl
theorem RA.ent {W S N U F K C Qf Qt : Nat → Int32} {gn c : Nat} {ck : Int32} {m : Nat} {sp : Nat → List (Int32 × Int32)} {vs : Nat → List vV} (h : RA W S N U F K C Qf Qt gn c ck m sp vs) {t : Int32} {E : Nat → Int32} (hE : ∀ e, e < 192 → E e = rep W S N U t c e) : eR E (fun n => plc (sp n) t) := eR_cg (h.2.2.2.1 t) hE (fun _ _ _ => rfl)
theorem RA.pl {W S N U F K C Qf Qt : Nat → Int32} {gn c : Nat} {ck : Int32} {m : Nat} {sp : Nat → List (Int32 × Int32)} {vs : Nat → List vV} (h : RA W S N U F K C Qf Qt gn c ck m sp vs) (t : Int32) : plOk (fun n => plc (sp n) t) := plOk_of h.2.2.2.2.2.1.1 (fun _ _ => rfl)
theorem cgn_le : ∀ (l : List vV), cgn l ≤ l.length
  | [] => Nat.le_refl 0
  | (_, _, _, g) :: l => by
    have := cgn_le l
    unfold cgn
    simp only [List.length_cons]
    split <;> omega
theorem sumG_le (vs : Nat → List vV) : ∀ n, sumG vs n ≤ sumL vs n
  | 0 => Nat.le_refl 0
  | n + 1 => by
    have h1 := sumG_le vs n
    have h2 := cgn_le (vs n)
    unfold sumG sumL
    omega
theorem RA.gn {W S N U F K C Qf Qt : Nat → Int32} {gn c : Nat} {ck : Int32} {m : Nat} {sp : Nat → List (Int32 × Int32)} {vs : Nat → List vV} (h : RA W S N U F K C Qf Qt gn c ck m sp vs) : gn ≤ c := by
  obtain ⟨-, -, -, -, -, -, -, -, h1, h2⟩ := h
  have := sumG_le vs 24
  omega
theorem sumL_ge (vs : Nat → List vV) : ∀ n j, j < n → (vs j).length ≤ sumL vs n
  | 0, j, h => absurd h (by omega)
  | n + 1, j, h => by
    unfold sumL
    by_cases hj : j = n
    · subst hj
      omega
    · have := sumL_ge vs n j (by omega)
      omega
theorem RA.len {W S N U F K C Qf Qt : Nat → Int32} {gn c : Nat} {ck : Int32} {m : Nat} {sp : Nat → List (Int32 × Int32)} {vs : Nat → List vV} (h : RA W S N U F K C Qf Qt gn c ck m sp vs) {n : Nat} (hn : n < 24) : (vs n).length ≤ c := by
  obtain ⟨-, -, -, -, -, -, -, -, h1, -⟩ := h
  have := sumL_ge vs 24 n hn
  omega
theorem vR_neg {C W : Nat → Int32} {c : Nat} {v : Int32} {l : List vV} (hc : c ≤ 512) (h : vR C W c v l) (hv : ¬ 0 ≤ v) : l = [] ∧ v = -1 := by
  cases l with
  | nil => exact ⟨rfl, h⟩
  | cons q l =>
    obtain ⟨t, x, cs, g⟩ := q
    obtain ⟨i, h1, h2, -⟩ := h
    rw [h2] at hv
    exact absurd (nI_pos' (by omega)) hv
theorem vR_pos {C W : Nat → Int32} {c : Nat} {v : Int32} {l : List vV} (h : vR C W c v l) (hv : 0 ≤ v) : ∃ (t x : Int32) (cs : Nat → Int32) (g : Int32) (rs : List vV) (i : Nat), l = (t, x, cs, g) :: rs ∧ i < c ∧ v = nI i ∧ W i = t ∧ ∀ k, k < 4 → C (i * 4 + k) = cs k := by
  cases l with
  | nil =>
    have h : v = -1 := h
    rw [h] at hv
    exact absurd hv (by decide)
  | cons q l =>
    obtain ⟨t, x, cs, g⟩ := q
    obtain ⟨i, h1, h2, h3, h4⟩ := h
    exact ⟨t, x, cs, g, l, i, rfl, h1, h2, h3, h4⟩
theorem vao_mem : ∀ {l : List vV} {t : Int32} {e : vV} {rs : List vV}, vao l t = e :: rs → e ∈ l
  | [], _, _, _, h => by cases h
  | (t1, x, cs, g) :: l, t, e, rs, h => by
    unfold vao at h
    split at h
    · exact List.mem_cons_of_mem _ (vao_mem h)
    · cases h
      exact List.mem_cons_self
theorem vti_neg : ∀ {l : List vV} {k : Int32}, idxO l → l.length < 2 ^ 31 → k < 0 → vti l k = -1
  | [], _, _, _, _ => rfl
  | (t, x, cs, g) :: l, k, hi, hl, hk => by
    have hl' : l.length + 1 < 2 ^ 31 := by simpa using hl
    unfold vti
    rw [if_neg (fun e => by rw [← e, hi.1] at hk; exact absurd hk (nI_pos (by omega)))]
    exact vti_neg hi.2 (by omega) hk
theorem prI_1 (k : Nat) : prI k + 1 = prI (k + 1) := by
  cases k with
  | zero => rfl
  | succ k => exact nI_1 k
set_option maxRecDepth 20000 in
set_option maxHeartbeats 1000000 in
theorem ct_T_look {l : Launch} {D : va_G} {tys : List (ClassId × FieldType)} {M : mM} {cI cB cN : ClassId} {t0 J : Nat} {w g ck ch dc dh ev : Int32} {m dm : Nat} {sp ds : Nat → List (Int32 × Int32)} {vs dv : Nat → List vV} (G : tys[0]? = some (cI, .int) ∧ tys[1]? = some (cB, .boolean) ∧ tys[2]? = some (cN, .object RX0)) (hS : TS M cI cB t0 J ((w, g), (ck, m, ch), (dc, dm, dh), ev, sp, vs, ds, dv)) (hJ : J < 512) (t f n : Int32) : Ct_T_look l D tys 0 0 [.ref t0, .int t, .int f, .int n] M (fun v M1 => ∃ r s1, F_look ((w, g), (ck, m, ch), (dc, dm, dh), ev, sp, vs, ds, dv) t f n = (r, s1) ∧ v = some (.int r) ∧ TS M1 cI cB t0 (J + 1) s1) := by
  refine Ct.of (cc := c_T_look) (maxL := 4) (ret := (some (.int))) (L0 := [some (.ref t0), some (.int t), some (.int f), some (.int n)]) (by decide) (by intro v hv; simp only [List.mem_cons, List.not_mem_nil, or_false] at hv; rcases hv with rfl | rfl | rfl | rfl <;> first | rfl | exact mRf_cat (mRf_rf _)) (by simp) rfl ?_
  intro z ws0 hl hD ht X1 X2
  subst hl; subst hD; subst ht
  have X := And.intro X1 X2
  clear X1 X2
  obtain ⟨ad, W, S, N, U, F, K, C, Qf, Qt, E, R, c, d, gn, hT, hA, hB, hcd, hev, hck, hqt, hwg⟩ := hS
  obtain ⟨rfl, rfl, hdc⟩ := hcd
  obtain ⟨e, rfl, hce, heJ⟩ := hev
  obtain ⟨kc, kd, rfl, rfl, hkd, hkc⟩ := hck
  have hT0 := hT
  obtain ⟨hO, tW, tS, tN, tU, tF, tK, tC, tGF, tGT, tE, tR, tI⟩ := hT
  have hm := hA.2.1.2
  have hc5 : c ≤ 512 := by omega
  refine i_T_look_0 X (h := ?_)
  refine i_T_look_1 X (h := ?_)
  refine i_T_look_2 X (h := ?_)
  refine i_T_look_3 X (h := ?_)
  refine i_T_look_4 X (hM := by assumption) (hC := ct_T_asked G hT0 hc5 t f n) (hk := by omega) (hn := by omega) (h := fun v4 M4 hp4 => ?_)
  obtain ⟨rfl, rfl⟩ := hp4
  refine i_T_look_7 X (h1 := fun c7 => ?_) (h2 := fun c7 => ?_)
  · skip
    have f7 := bI_ne0 c7
    have g4 := (kd_fd hA).mp ⟨f7.2.1, f7.2.2.2⟩
    obtain ⟨f1, hf1, rfl⟩ := ix_of g4.1 (by omega)
    obtain ⟨n1, hn1, rfl⟩ := ix_of (m := 8) f7.2.2.1 (by decide)
    refine i_T_look_12 X (h := ?_)
    refine i_T_look_13 X (h := ?_)
    refine i_T_look_14 X (hM := by assumption) (hC := ct_T_asOf G hT0 hc5 hA.1 t) (hk := by omega) (hn := by omega) (h := fun v14 M14 hp14 => ?_)
    obtain ⟨rfl, E1, hE1, rfl⟩ := hp14
    have hT1 := TI.u9 hT0 E1
    have hx1 := hT1
    obtain ⟨hO1, tW1, tS1, tN1, tU1, tF1, tK1, tC1, tGF1, tGT1, tE1, tR1, tI1⟩ := hx1
    refine i_T_look_17 X (h := ?_)
    refine i_T_look_18 X (hM := by assumption) (h := ?_)
    refine i_T_look_21 X (h := ?_)
    refine i_T_look_22 X (h := ?_)
    refine i_T_look_24 X (h := ?_)
    refine i_T_look_25 X (h := ?_)
    refine i_T_look_26 X (h := ?_)
    refine i_T_look_27 X G (hM := by assumption) (j := f1 * 8 + n1) (hx := pf_nI f1 n1) (hj := by omega) (h := ?_)
    exact i_T_look_28 X (hk := by omega) (hn := by omega) (hp := ⟨_, _, by simp only [F_look]; rw [if_pos ⟨f7.1, g4, f7.2.2.1⟩, nI_clamp (n := f1) (by omega), nI_clamp (n := n1) (by omega)], by rw [ent_rep (hA.ent hE1) (hA.q0 t) (by omega)]; rfl, TS.of (hT1) hA hB ⟨rfl, rfl, hdc⟩ ⟨e, rfl, hce, by omega⟩ ⟨kc, kd, rfl, rfl, hkd, by omega⟩ hqt hwg⟩)
  · skip
    have f7 := bI_eq0 c7
    refine i_T_look_10 X (h := ?_)
    exact i_T_look_11 X (hk := by omega) (hn := by omega) (hp := ⟨_, _, by simp only [F_look]; rw [if_neg (fun h => f7 ⟨h.1, ((kd_fd hA).mpr h.2.1).1, h.2.2, ((kd_fd hA).mpr h.2.1).2⟩)], rfl, TS.of (hT0) hA hB ⟨rfl, rfl, hdc⟩ ⟨e, rfl, hce, by omega⟩ ⟨kc, kd, rfl, rfl, hkd, by omega⟩ hqt hwg⟩)
set_option maxRecDepth 20000 in
set_option maxHeartbeats 1000000 in
theorem lp_T_next {z : zT} {ws0 : va_W} {mc ms : Nat} {M : mM} {cI cB cN : ClassId} {t0 : Nat} {ad : Nat → Nat} {W S N U F K C Qf Qt E R : Nat → Int32} {w g ck dk : Int32} {c d gn : Nat} (G : GT z cI cB cN) (hT : TI M cI cB t0 ad W S N U F K C Qf Qt E R w g ck dk c d gn) {q : Nat → Int32} (hq : eR E q) (hq0 : q 0 = -1) {f1 : Nat} (hf : f1 < 24) {l1 l3 : Option Value} {r : Nat} {Post : Option Value → mM → Prop} (hPost : Post (some (.int (nI r))) M) (X : B_T_next z ws0 mc ms Post) : ∀ (n j : Nat), j + n = 8 → r = fnL q f1 n j → RN z 20 [some (.ref t0), l1, some (.int (nI f1)), l3, some (.int (nI j))] [] M 0 0 := by
  obtain ⟨hO, tW, tS, tN, tU, tF, tK, tC, tGF, tGT, tE, tR, tI⟩ := hT
  intro n
  induction n with
  | zero =>
    intro j hj hr
    have hj : j = 8 := by omega
    subst hj
    refine i_T_next_20 X (h := ?_)
    refine i_T_next_22 X (h := ?_)
    refine i_T_next_24 X (h1 := fun c24 => ?_) (h2 := fun c24 => ?_)
    · skip
      refine i_T_next_48 X (h := ?_)
      exact i_T_next_50 X (hk := by omega) (hn := by omega) (hp := by rw [show nI 8 = nI r from by rw [hr]; rfl]; exact hPost)
    · skip
      exact absurd (by decide) c24 --end
  | succ n ih =>
    intro j hj hr
    simp only [fnL] at hr
    have he := ent_rep hq hq0 (e := f1 * 8 + j) (by omega)
    have hl := entL_lt q (nI (f1 * 8 + j)) 24 0 (by decide)
    refine i_T_next_20 X (h := ?_)
    refine i_T_next_22 X (h := ?_)
    refine i_T_next_24 X (h1 := fun c24 => ?_) (h2 := fun c24 => ?_)
    · skip
      exact absurd c24 (nI_ge (a := j) (b := 8) (by omega) (by decide)) --end
    · skip
      refine i_T_next_27 X (h := ?_)
      refine i_T_next_28 X (hM := by assumption) (h := ?_)
      refine i_T_next_31 X (h := ?_)
      refine i_T_next_32 X (h := ?_)
      refine i_T_next_34 X (h := ?_)
      refine i_T_next_35 X (h := ?_)
      refine i_T_next_37 X (h := ?_)
      refine i_T_next_38 X G (hM := by assumption) (j := f1 * 8 + j) (hx := pf_nI f1 j) (hj := by omega) (h := ?_)
      refine i_T_next_39 X (h1 := fun c39 => ?_) (h2 := fun c39 => ?_)
      · skip
        rw [he] at c39
        have f39 : ¬ entL q (nI (f1 * 8 + j)) 24 0 = 0 := fun h => c39 (by rw [h]; rfl)
        refine i_T_next_48 X (h := ?_)
        exact i_T_next_50 X (hk := by omega) (hn := by omega) (hp := by rw [if_neg f39] at hr; subst hr; exact hPost)
      · skip
        rw [he] at c39
        have f39 : entL q (nI (f1 * 8 + j)) 24 0 = 0 := (nz_iff hl).mp c39
        refine i_T_next_42 X (h := ?_)
        refine i_T_next_45 X (h := ?_)
        rw [nI_1]
        exact ih (j + 1) (by omega) (by rw [hr, if_pos f39])
set_option maxRecDepth 20000 in
set_option maxHeartbeats 1000000 in
theorem ct_T_next {l : Launch} {D : va_G} {tys : List (ClassId × FieldType)} {M : mM} {cI cB cN : ClassId} {t0 J : Nat} {w g ck ch dc dh ev : Int32} {m dm : Nat} {sp ds : Nat → List (Int32 × Int32)} {vs dv : Nat → List vV} (G : tys[0]? = some (cI, .int) ∧ tys[1]? = some (cB, .boolean) ∧ tys[2]? = some (cN, .object RX0)) (hS : TS M cI cB t0 J ((w, g), (ck, m, ch), (dc, dm, dh), ev, sp, vs, ds, dv)) (hJ : J < 512) (t f n : Int32) : Ct_T_next l D tys 0 0 [.ref t0, .int t, .int f, .int n] M (fun v M1 => ∃ r s1, F_next ((w, g), (ck, m, ch), (dc, dm, dh), ev, sp, vs, ds, dv) t f n = (r, s1) ∧ v = some (.int r) ∧ TS M1 cI cB t0 (J + 1) s1) := by
  refine Ct.of (cc := c_T_next) (maxL := 5) (ret := (some (.int))) (L0 := [some (.ref t0), some (.int t), some (.int f), some (.int n), none]) (by decide) (by intro v hv; simp only [List.mem_cons, List.not_mem_nil, or_false] at hv; rcases hv with rfl | rfl | rfl | rfl <;> first | rfl | exact mRf_cat (mRf_rf _)) (by simp) rfl ?_
  intro z ws0 hl hD ht X1 X2
  subst hl; subst hD; subst ht
  have X := And.intro X1 X2
  clear X1 X2
  obtain ⟨ad, W, S, N, U, F, K, C, Qf, Qt, E, R, c, d, gn, hT, hA, hB, hcd, hev, hck, hqt, hwg⟩ := hS
  obtain ⟨rfl, rfl, hdc⟩ := hcd
  obtain ⟨e, rfl, hce, heJ⟩ := hev
  obtain ⟨kc, kd, rfl, rfl, hkd, hkc⟩ := hck
  have hT0 := hT
  obtain ⟨hO, tW, tS, tN, tU, tF, tK, tC, tGF, tGT, tE, tR, tI⟩ := hT
  have hm := hA.2.1.2
  have hc5 : c ≤ 512 := by omega
  refine i_T_next_0 X (h := ?_)
  refine i_T_next_1 X (h := ?_)
  refine i_T_next_2 X (h := ?_)
  refine i_T_next_3 X (h := ?_)
  refine i_T_next_4 X (hM := by assumption) (hC := ct_T_asked G hT0 hc5 t f n) (hk := by omega) (hn := by omega) (h := fun v4 M4 hp4 => ?_)
  obtain ⟨rfl, rfl⟩ := hp4
  refine i_T_next_7 X (h1 := fun c7 => ?_) (h2 := fun c7 => ?_)
  · skip
    have f7 := bI_ne0 c7
    have g4 := (kd_fd hA).mp ⟨f7.2.1, f7.2.2.2⟩
    obtain ⟨f1, hf1, rfl⟩ := ix_of g4.1 (by omega)
    obtain ⟨n1, hn1, rfl⟩ := ix_of (m := 8) f7.2.2.1 (by decide)
    refine i_T_next_12 X (h := ?_)
    refine i_T_next_13 X (h := ?_)
    refine i_T_next_14 X (hM := by assumption) (hC := ct_T_asOf G hT0 hc5 hA.1 t) (hk := by omega) (hn := by omega) (h := fun v14 M14 hp14 => ?_)
    obtain ⟨rfl, E1, hE1, rfl⟩ := hp14
    have hT1 := TI.u9 hT0 E1
    have hx1 := hT1
    obtain ⟨hO1, tW1, tS1, tN1, tU1, tF1, tK1, tC1, tGF1, tGT1, tE1, tR1, tI1⟩ := hx1
    refine i_T_next_17 X (h := ?_)
    refine i_T_next_18 X (h := ?_)
    exact lp_T_next G hT1 (hA.ent hE1) (hA.q0 t) (by omega) (r := fnL (fun n => plc (sp n) t) f1 (8 - n1) n1) ⟨_, _, by simp only [F_next]; rw [if_pos ⟨f7.1, g4, f7.2.2.1⟩, nI_clamp (n := f1) (by omega), nI_clamp (n := n1) (by omega)], rfl, TS.of (hT1) hA hB ⟨rfl, rfl, hdc⟩ ⟨e, rfl, hce, by omega⟩ ⟨kc, kd, rfl, rfl, hkd, by omega⟩ hqt hwg⟩ X (8 - n1) n1 (by omega) rfl
  · skip
    have f7 := bI_eq0 c7
    refine i_T_next_10 X (h := ?_)
    exact i_T_next_11 X (hk := by omega) (hn := by omega) (hp := ⟨_, _, by simp only [F_next]; rw [if_neg (fun h => f7 ⟨h.1, ((kd_fd hA).mpr h.2.1).1, h.2.2, ((kd_fd hA).mpr h.2.1).2⟩)], rfl, TS.of (hT0) hA hB ⟨rfl, rfl, hdc⟩ ⟨e, rfl, hce, by omega⟩ ⟨kc, kd, rfl, rfl, hkd, by omega⟩ hqt hwg⟩)
set_option maxRecDepth 20000 in
set_option maxHeartbeats 1000000 in
theorem lp_T_below {z : zT} {ws0 : va_W} {mc ms : Nat} {M : mM} {cI cB cN : ClassId} {t0 : Nat} {ad : Nat → Nat} {W S N U F K C Qf Qt E R : Nat → Int32} {w g ck dk : Int32} {c d gn : Nat} (G : GT z cI cB cN) (hT : TI M cI cB t0 ad W S N U F K C Qf Qt E R w g ck dk c d gn) {l1 l2 : Option Value} {r : Int32} {Post : Option Value → mM → Prop} (hPost : Post (some (.int r)) M) (X : B_T_below z ws0 mc ms Post) : ∀ (n j k : Nat), j + n = 24 → r = prI (k + cntR R n j) → RN z 27 [some (.ref t0), l1, l2, some (.int (prI k)), some (.int (nI j))] [] M 0 0 := by
  obtain ⟨hO, tW, tS, tN, tU, tF, tK, tC, tGF, tGT, tE, tR, tI⟩ := hT
  intro n
  induction n with
  | zero =>
    intro j k hj hr
    have hj : j = 24 := by omega
    subst hj
    refine i_T_below_27 X (h := ?_)
    refine i_T_below_29 X (h := ?_)
    refine i_T_below_31 X (h1 := fun c31 => ?_) (h2 := fun c31 => ?_)
    · skip
      refine i_T_below_53 X (h := ?_)
      exact i_T_below_54 X (hk := by omega) (hn := by omega) (hp := by rw [show prI k = r from by rw [hr]; rfl]; exact hPost)
    · skip
      exact absurd (by decide) c31 --end
  | succ n ih =>
    intro j k hj hr
    simp only [cntR] at hr
    refine i_T_below_27 X (h := ?_)
    refine i_T_below_29 X (h := ?_)
    refine i_T_below_31 X (h1 := fun c31 => ?_) (h2 := fun c31 => ?_)
    · skip
      exact absurd c31 (nI_ge (a := j) (b := 24) (by omega) (by decide)) --end
    · skip
      refine i_T_below_34 X (h := ?_)
      refine i_T_below_35 X (hM := by assumption) (h := ?_)
      refine i_T_below_38 X (h := ?_)
      refine i_T_below_40 X G (hM := by assumption) (hx := rfl) (hj := by omega) (h := ?_)
      refine i_T_below_41 X (h1 := fun c41 => ?_) (h2 := fun c41 => ?_)
      · skip
        refine i_T_below_47 X (h := ?_)
        refine i_T_below_50 X (h := ?_)
        rw [nI_1]
        exact ih (j + 1) _ (by omega) (by rw [hr, if_pos c41, Nat.zero_add])
      · skip
        refine i_T_below_44 X (h := ?_)
        rw [prI_1]
        refine i_T_below_47 X (h := ?_)
        refine i_T_below_50 X (h := ?_)
        rw [nI_1]
        exact ih (j + 1) _ (by omega) (by rw [hr, if_neg c41, show k + (1 + cntR R n (j + 1)) = k + 1 + cntR R n (j + 1) by omega])
set_option maxRecDepth 20000 in
set_option maxHeartbeats 1000000 in
theorem ct_T_below {l : Launch} {D : va_G} {tys : List (ClassId × FieldType)} {M : mM} {cI cB cN : ClassId} {t0 J : Nat} {w g ck ch dc dh ev : Int32} {m dm : Nat} {sp ds : Nat → List (Int32 × Int32)} {vs dv : Nat → List vV} (G : tys[0]? = some (cI, .int) ∧ tys[1]? = some (cB, .boolean) ∧ tys[2]? = some (cN, .object RX0)) (hS : TS M cI cB t0 J ((w, g), (ck, m, ch), (dc, dm, dh), ev, sp, vs, ds, dv)) (hJ : J < 512) (t f : Int32) : Ct_T_below l D tys 0 0 [.ref t0, .int t, .int f] M (fun v M1 => ∃ r s1, F_below ((w, g), (ck, m, ch), (dc, dm, dh), ev, sp, vs, ds, dv) t f = (r, s1) ∧ v = some (.int r) ∧ TS M1 cI cB t0 (J + 1) s1) := by
  refine Ct.of (cc := c_T_below) (maxL := 5) (ret := (some (.int))) (L0 := [some (.ref t0), some (.int t), some (.int f), none, none]) (by decide) (by intro v hv; simp only [List.mem_cons, List.not_mem_nil, or_false] at hv; rcases hv with rfl | rfl | rfl <;> first | rfl | exact mRf_cat (mRf_rf _)) (by simp) rfl ?_
  intro z ws0 hl hD ht X1 X2
  subst hl; subst hD; subst ht
  have X := And.intro X1 X2
  clear X1 X2
  obtain ⟨ad, W, S, N, U, F, K, C, Qf, Qt, E, R, c, d, gn, hT, hA, hB, hcd, hev, hck, hqt, hwg⟩ := hS
  obtain ⟨rfl, rfl, hdc⟩ := hcd
  obtain ⟨e, rfl, hce, heJ⟩ := hev
  obtain ⟨kc, kd, rfl, rfl, hkd, hkc⟩ := hck
  have hT0 := hT
  obtain ⟨hO, tW, tS, tN, tU, tF, tK, tC, tGF, tGT, tE, tR, tI⟩ := hT
  have hm := hA.2.1.2
  have hc5 : c ≤ 512 := by omega
  refine i_T_below_0 X (h := ?_)
  refine i_T_below_1 X (h := ?_)
  refine i_T_below_2 X (h := ?_)
  refine i_T_below_3 X (h := ?_)
  refine i_T_below_4 X (hM := by assumption) (hC := ct_T_asked G hT0 hc5 t f 0) (hk := by omega) (hn := by omega) (h := fun v4 M4 hp4 => ?_)
  obtain ⟨rfl, rfl⟩ := hp4
  refine i_T_below_7 X (h1 := fun c7 => ?_) (h2 := fun c7 => ?_)
  · skip
    have f7 := bI_ne0 c7
    have g4 := (kd_fd hA).mp ⟨f7.2.1, f7.2.2.2⟩
    obtain ⟨f1, hf1, rfl⟩ := ix_of g4.1 (by omega)
    refine i_T_below_12 X (h := ?_)
    refine i_T_below_13 X (h := ?_)
    refine i_T_below_14 X (hM := by assumption) (hC := ct_T_asOf G hT0 hc5 hA.1 t) (hk := by omega) (hn := by omega) (h := fun v14 M14 hp14 => ?_)
    obtain ⟨rfl, E1, hE1, rfl⟩ := hp14
    have hT1 := TI.u9 hT0 E1
    have hx1 := hT1
    obtain ⟨hO1, tW1, tS1, tN1, tU1, tF1, tK1, tC1, tGF1, tGT1, tE1, tR1, tI1⟩ := hx1
    refine i_T_below_17 X (h := ?_)
    refine i_T_below_18 X (h := ?_)
    refine i_T_below_19 X (hM := by assumption) (hC := ct_T_reach G hT1 (eR_en (hA.ent hE1)) (n := f1) (by omega)) (hk := by omega) (hn := by omega) (h := fun v19 M19 hp19 => ?_)
    obtain ⟨rfl, R1, hR1, rfl⟩ := hp19
    have hT2 := TI.u10 hT1 R1
    refine i_T_below_22 X (h := ?_)
    refine i_T_below_23 X (h := ?_)
    refine i_T_below_24 X (h := ?_)
    refine i_T_below_25 X (h := ?_)
    exact lp_T_below G hT2 (r := nI (blL (fun n => plc (sp n) t) f1 24 0)) ⟨_, _, by simp only [F_below]; rw [if_pos ⟨f7.1, g4⟩, nI_clamp (n := f1) (by omega)], rfl, TS.of (hT2) hA hB ⟨rfl, rfl, hdc⟩ ⟨e, rfl, hce, by omega⟩ ⟨kc, kd, rfl, rfl, hkd, by omega⟩ hqt hwg⟩ X 24 0 0 (by omega) (by rw [cntR_bl (fun k hk => reach_wi (hA.ent hE1) (hA.q0 t) (hA.pl t) hR1 hk) 24 0 (by omega), if_pos (by omega), Nat.zero_add]; rfl)
  · skip
    have f7 := bI_eq0 c7
    refine i_T_below_10 X (h := ?_)
    exact i_T_below_11 X (hk := by omega) (hn := by omega) (hp := ⟨_, _, by simp only [F_below]; rw [if_neg (fun h => f7 ⟨h.1, ((kd_fd hA).mpr h.2).1, by decide, ((kd_fd hA).mpr h.2).2⟩)], rfl, TS.of (hT0) hA hB ⟨rfl, rfl, hdc⟩ ⟨e, rfl, hce, by omega⟩ ⟨kc, kd, rfl, rfl, hkd, by omega⟩ hqt hwg⟩)
set_option maxRecDepth 20000 in
set_option maxHeartbeats 1000000 in
theorem ct_T_versionTime {l : Launch} {D : va_G} {tys : List (ClassId × FieldType)} {M : mM} {cI cB cN : ClassId} {t0 J : Nat} {w g ck ch dc dh ev : Int32} {m dm : Nat} {sp ds : Nat → List (Int32 × Int32)} {vs dv : Nat → List vV} (G : tys[0]? = some (cI, .int) ∧ tys[1]? = some (cB, .boolean) ∧ tys[2]? = some (cN, .object RX0)) (hS : TS M cI cB t0 J ((w, g), (ck, m, ch), (dc, dm, dh), ev, sp, vs, ds, dv)) (hJ : J < 512) (f k : Int32) : Ct_T_versionTime l D tys 0 0 [.ref t0, .int f, .int k] M (fun v M1 => ∃ r s1, F_versionTime ((w, g), (ck, m, ch), (dc, dm, dh), ev, sp, vs, ds, dv) f k = (r, s1) ∧ v = some (.int r) ∧ TS M1 cI cB t0 (J + 1) s1) := by
  refine Ct.of (cc := c_T_versionTime) (maxL := 3) (ret := (some (.int))) (L0 := [some (.ref t0), some (.int f), some (.int k)]) (by decide) (by intro v hv; simp only [List.mem_cons, List.not_mem_nil, or_false] at hv; rcases hv with rfl | rfl | rfl <;> first | rfl | exact mRf_cat (mRf_rf _)) (by simp) rfl ?_
  intro z ws0 hl hD ht X1 X2
  subst hl; subst hD; subst ht
  have X := And.intro X1 X2
  clear X1 X2
  obtain ⟨ad, W, S, N, U, F, K, C, Qf, Qt, E, R, c, d, gn, hT, hA, hB, hcd, hev, hck, hqt, hwg⟩ := hS
  obtain ⟨rfl, rfl, hdc⟩ := hcd
  obtain ⟨e, rfl, hce, heJ⟩ := hev
  obtain ⟨kc, kd, rfl, rfl, hkd, hkc⟩ := hck
  have hT0 := hT
  obtain ⟨hO, tW, tS, tN, tU, tF, tK, tC, tGF, tGT, tE, tR, tI⟩ := hT
  have hm := hA.2.1.2
  have hc5 : c ≤ 512 := by omega
  refine i_T_versionTime_0 X (h := ?_)
  refine i_T_versionTime_1 X (h := ?_)
  refine i_T_versionTime_3 X (hC := ct_T_isin f 24) (hk := by omega) (hn := by omega) (h := fun v3 M3 hp3 => ?_)
  obtain ⟨rfl, rfl⟩ := hp3
  refine i_T_versionTime_6 X (h1 := fun c6 => ?_) (h2 := fun c6 => ?_)
  · skip
    have f6 := bI_eq0 c6
    refine i_T_versionTime_22 X (h := ?_)
    exact i_T_versionTime_23 X (hk := by omega) (hn := by omega) (hp := ⟨_, _, by simp only [F_versionTime]; rw [if_neg (fun h => f6 ((kd_fi hA).mpr h).1)], rfl, TS.of (hT0) hA hB ⟨rfl, rfl, hdc⟩ ⟨e, rfl, hce, by omega⟩ ⟨kc, kd, rfl, rfl, hkd, by omega⟩ hqt hwg⟩)
  · skip
    have f6 := bI_ne0 c6
    refine i_T_versionTime_9 X (h := ?_)
    refine i_T_versionTime_10 X (h := ?_)
    refine i_T_versionTime_11 X (hM := by assumption) (hC := ct_T_kind G hT0 hc5 f) (hk := by omega) (hn := by omega) (h := fun v11 M11 hp11 => ?_)
    obtain ⟨rfl, rfl⟩ := hp11
    refine i_T_versionTime_14 X (h := ?_)
    refine i_T_versionTime_15 X (h1 := fun c15 => ?_) (h2 := fun c15 => ?_)
    · skip
      refine i_T_versionTime_22 X (h := ?_)
      exact i_T_versionTime_23 X (hk := by omega) (hn := by omega) (hp := ⟨_, _, by simp only [F_versionTime]; rw [if_neg (fun h => c15 ((kd_fi hA).mpr h).2)], rfl, TS.of (hT0) hA hB ⟨rfl, rfl, hdc⟩ ⟨e, rfl, hce, by omega⟩ ⟨kc, kd, rfl, rfl, hkd, by omega⟩ hqt hwg⟩)
    · skip
      have g4 := (kd_fi hA).mp ⟨f6, c15⟩
      obtain ⟨f1, hf1, rfl⟩ := ix_of g4.1 (by omega)
      have hV := (hA.2.2.2.2.2.2.1 f1 (by omega)).1
      have hlen := hA.len (n := f1) (by omega)
      refine i_T_versionTime_18 X (h := ?_)
      refine i_T_versionTime_19 X (h1 := fun c19 => ?_) (h2 := fun c19 => ?_)
      · skip
        refine i_T_versionTime_24 X (h := ?_)
        refine i_T_versionTime_25 X (h := ?_)
        refine i_T_versionTime_26 X (h := ?_)
        refine i_T_versionTime_27 X (hM := by assumption) (hC := ct_T_timeOf G hT0 hc5 (nI f1) k) (hk := by omega) (hn := by omega) (h := fun v27 M27 hp27 => ?_)
        obtain ⟨rfl, rfl⟩ := hp27
        exact i_T_versionTime_30 X (hk := by omega) (hn := by omega) (hp := ⟨_, _, by simp only [F_versionTime]; rw [if_pos g4, nI_clamp (n := f1) (by omega), ← hV.2.2.2.1 k], rfl, TS.of (hT0) hA hB ⟨rfl, rfl, hdc⟩ ⟨e, rfl, hce, by omega⟩ ⟨kc, kd, rfl, rfl, hkd, by omega⟩ hqt hwg⟩)
      · skip
        refine i_T_versionTime_22 X (h := ?_)
        exact i_T_versionTime_23 X (hk := by omega) (hn := by omega) (hp := ⟨_, _, by simp only [F_versionTime]; rw [if_pos g4, nI_clamp (n := f1) (by omega), vti_neg hV.1 (by omega) (Int32.not_le.mp c19)], rfl, TS.of (hT0) hA hB ⟨rfl, rfl, hdc⟩ ⟨e, rfl, hce, by omega⟩ ⟨kc, kd, rfl, rfl, hkd, by omega⟩ hqt hwg⟩)
set_option maxRecDepth 20000 in
set_option maxHeartbeats 1000000 in
theorem ct_T_read {l : Launch} {D : va_G} {tys : List (ClassId × FieldType)} {M : mM} {cI cB cN : ClassId} {t0 J : Nat} {w g ck ch dc dh ev : Int32} {m dm : Nat} {sp ds : Nat → List (Int32 × Int32)} {vs dv : Nat → List vV} (G : tys[0]? = some (cI, .int) ∧ tys[1]? = some (cB, .boolean) ∧ tys[2]? = some (cN, .object RX0)) (hS : TS M cI cB t0 J ((w, g), (ck, m, ch), (dc, dm, dh), ev, sp, vs, ds, dv)) (hJ : J < 512) (t f x : Int32) : Ct_T_read l D tys 0 0 [.ref t0, .int t, .int f, .int x] M (fun v M1 => ∃ r s1, F_read ((w, g), (ck, m, ch), (dc, dm, dh), ev, sp, vs, ds, dv) t f x = (r, s1) ∧ v = some (.long r) ∧ TS M1 cI cB t0 (J + 1) s1) := by
  refine Ct.of (cc := c_T_read) (maxL := 5) (ret := (some (.long))) (L0 := [some (.ref t0), some (.int t), some (.int f), some (.int x), none]) (by decide) (by intro v hv; simp only [List.mem_cons, List.not_mem_nil, or_false] at hv; rcases hv with rfl | rfl | rfl | rfl <;> first | rfl | exact mRf_cat (mRf_rf _)) (by simp) rfl ?_
  intro z ws0 hl hD ht X1 X2
  subst hl; subst hD; subst ht
  have X := And.intro X1 X2
  clear X1 X2
  obtain ⟨ad, W, S, N, U, F, K, C, Qf, Qt, E, R, c, d, gn, hT, hA, hB, hcd, hev, hck, hqt, hwg⟩ := hS
  obtain ⟨rfl, rfl, hdc⟩ := hcd
  obtain ⟨e, rfl, hce, heJ⟩ := hev
  obtain ⟨kc, kd, rfl, rfl, hkd, hkc⟩ := hck
  have hT0 := hT
  obtain ⟨hO, tW, tS, tN, tU, tF, tK, tC, tGF, tGT, tE, tR, tI⟩ := hT
  have hm := hA.2.1.2
  have hc5 : c ≤ 512 := by omega
  refine i_T_read_0 X (h := ?_)
  refine i_T_read_1 X (h1 := fun c1 => ?_) (h2 := fun c1 => ?_)
  · skip
    refine i_T_read_30 X (h := ?_)
    exact i_T_read_33 X (hk := by omega) (hn := by omega) (hp := ⟨_, _, by simp only [F_read]; rw [if_neg (fun h => h.1 c1)], rfl, TS.of (hT0) hA hB ⟨rfl, rfl, hdc⟩ ⟨e, rfl, hce, by omega⟩ ⟨kc, kd, rfl, rfl, hkd, by omega⟩ hqt hwg⟩)
  · skip
    refine i_T_read_4 X (h := ?_)
    refine i_T_read_5 X (h := ?_)
    refine i_T_read_7 X (hC := ct_T_isin f 24) (hk := by omega) (hn := by omega) (h := fun v7 M7 hp7 => ?_)
    obtain ⟨rfl, rfl⟩ := hp7
    refine i_T_read_10 X (h1 := fun c10 => ?_) (h2 := fun c10 => ?_)
    · skip
      have f10 := bI_eq0 c10
      refine i_T_read_30 X (h := ?_)
      exact i_T_read_33 X (hk := by omega) (hn := by omega) (hp := ⟨_, _, by simp only [F_read]; rw [if_neg (fun h => f10 ((kd_fi hA).mpr h.2.1).1)], rfl, TS.of (hT0) hA hB ⟨rfl, rfl, hdc⟩ ⟨e, rfl, hce, by omega⟩ ⟨kc, kd, rfl, rfl, hkd, by omega⟩ hqt hwg⟩)
    · skip
      have f10 := bI_ne0 c10
      refine i_T_read_13 X (h := ?_)
      refine i_T_read_14 X (h := ?_)
      refine i_T_read_15 X (hC := ct_T_isin x 4) (hk := by omega) (hn := by omega) (h := fun v15 M15 hp15 => ?_)
      obtain ⟨rfl, rfl⟩ := hp15
      refine i_T_read_18 X (h1 := fun c18 => ?_) (h2 := fun c18 => ?_)
      · skip
        have f18 := bI_eq0 c18
        refine i_T_read_30 X (h := ?_)
        exact i_T_read_33 X (hk := by omega) (hn := by omega) (hp := ⟨_, _, by simp only [F_read]; rw [if_neg (fun h => f18 h.2.2)], rfl, TS.of (hT0) hA hB ⟨rfl, rfl, hdc⟩ ⟨e, rfl, hce, by omega⟩ ⟨kc, kd, rfl, rfl, hkd, by omega⟩ hqt hwg⟩)
      · skip
        have f18 := bI_ne0 c18
        refine i_T_read_21 X (h := ?_)
        refine i_T_read_22 X (h := ?_)
        refine i_T_read_23 X (hM := by assumption) (hC := ct_T_kind G hT0 hc5 f) (hk := by omega) (hn := by omega) (h := fun v23 M23 hp23 => ?_)
        obtain ⟨rfl, rfl⟩ := hp23
        refine i_T_read_26 X (h := ?_)
        refine i_T_read_27 X (h1 := fun c27 => ?_) (h2 := fun c27 => ?_)
        · skip
          have g4 := (kd_fi hA).mp ⟨f10, c27⟩
          obtain ⟨f1, hf1, rfl⟩ := ix_of g4.1 (by omega)
          obtain ⟨x1, hx1, rfl⟩ := ix_of (m := 4) f18 (by decide)
          have hV := (hA.2.2.2.2.2.2.1 f1 (by omega)).1
          refine i_T_read_34 X (h := ?_)
          refine i_T_read_35 X (h := ?_)
          refine i_T_read_36 X (h := ?_)
          refine i_T_read_37 X (hM := by assumption) (hC := ct_T_version G hT0 hc5 (nI f1) t) (hk := by omega) (hn := by omega) (h := fun v37 M37 hp37 => ?_)
          obtain ⟨rfl, rfl⟩ := hp37
          refine i_T_read_40 X (h := ?_)
          refine i_T_read_42 X (h := ?_)
          refine i_T_read_44 X (h1 := fun c44 => ?_) (h2 := fun c44 => ?_)
          · skip
            obtain ⟨t2, y2, cs2, g2, rs2, i1, hl2, hi1, hv2, hw2, hc2⟩ := vR_pos (hV.2.2.2.2.1 t) c44
            have hg2 := hV.2.2.2.2.2 _ (vao_mem hl2)
            refine i_T_read_51 X (h := ?_)
            refine i_T_read_52 X (h := ?_)
            refine i_T_read_53 X (h := ?_)
            refine i_T_read_54 X (hM := by assumption) (h := ?_)
            refine i_T_read_57 X (h := ?_)
            refine i_T_read_59 X G (hM := by assumption) (j := i1) (hx := hv2) (hj := by omega) (h := ?_)
            refine i_T_read_60 X (hM := by assumption) (hC := ct_T_isGone G hT0 (Nat.le_trans hA.gn hc5) (nI f1) (W i1)) (hk := by omega) (hn := by omega) (h := fun v60 M60 hp60 => ?_)
            obtain ⟨b1, rfl, hb1, rfl⟩ := hp60
            refine i_T_read_63 X (h1 := fun c63 => ?_) (h2 := fun c63 => ?_)
            · skip
              have f63 := bI_eq0 c63
              have f64 : g2 = 0 := by
                by_cases q : g2 = 0
                · exact q
                · exact absurd (hb1.mpr (by rw [hw2]; exact hg2.2.mp q)) f63
              refine i_T_read_72 X (h := ?_)
              refine i_T_read_73 X (hM := by assumption) (h := ?_)
              refine i_T_read_76 X (h := ?_)
              refine i_T_read_78 X (h := ?_)
              refine i_T_read_79 X (h := ?_)
              refine i_T_read_80 X (h := ?_)
              refine i_T_read_81 X (h := ?_)
              refine i_T_read_82 X G (hM := by assumption) (j := i1 * 4 + x1) (hx := by rw [hv2]; exact cc_nI i1 x1) (hj := by omega) (h := ?_)
              refine i_T_read_83 X (h := ?_)
              exact i_T_read_84 X (hk := by omega) (hn := by omega) (hp := ⟨(cs2 x1).toInt64, _, by simp only [F_read]; rw [if_pos ⟨c1, g4, f18⟩, nI_clamp (n := f1) (by omega), nI_clamp (n := x1) (by omega), hl2]; simp only [rdV]; rw [if_pos f64], by rw [hc2 x1 hx1], TS.of (hT0) hA hB ⟨rfl, rfl, hdc⟩ ⟨e, rfl, hce, by omega⟩ ⟨kc, kd, rfl, rfl, hkd, by omega⟩ hqt hwg⟩)
            · skip
              have f63 := bI_ne0 c63
              have f64 : ¬ g2 = 0 := hg2.2.mpr (by rw [← hw2]; exact hb1.mp f63)
              refine i_T_read_66 X (h := ?_)
              refine i_T_read_69 X (h := ?_)
              exact i_T_read_84 X (hk := by omega) (hn := by omega) (hp := ⟨-2000000000000, _, by simp only [F_read]; rw [if_pos ⟨c1, g4, f18⟩, nI_clamp (n := f1) (by omega), nI_clamp (n := x1) (by omega), hl2]; simp only [rdV]; rw [if_neg f64], rfl, TS.of (hT0) hA hB ⟨rfl, rfl, hdc⟩ ⟨e, rfl, hce, by omega⟩ ⟨kc, kd, rfl, rfl, hkd, by omega⟩ hqt hwg⟩)
          · skip
            have hv := vR_neg hc5 (hV.2.2.2.2.1 t) c44
            refine i_T_read_47 X (h := ?_)
            exact i_T_read_50 X (hk := by omega) (hn := by omega) (hp := ⟨_, _, by simp only [F_read]; rw [if_pos ⟨c1, g4, f18⟩, nI_clamp (n := f1) (by omega), nI_clamp (n := x1) (by omega), hv.1]; rfl, rfl, TS.of (hT0) hA hB ⟨rfl, rfl, hdc⟩ ⟨e, rfl, hce, by omega⟩ ⟨kc, kd, rfl, rfl, hkd, by omega⟩ hqt hwg⟩)
        · skip
          refine i_T_read_30 X (h := ?_)
          exact i_T_read_33 X (hk := by omega) (hn := by omega) (hp := ⟨_, _, by simp only [F_read]; rw [if_neg (fun h => c27 ((kd_fi hA).mpr h.2.1).2)], rfl, TS.of (hT0) hA hB ⟨rfl, rfl, hdc⟩ ⟨e, rfl, hce, by omega⟩ ⟨kc, kd, rfl, rfl, hkd, by omega⟩ hqt hwg⟩)
