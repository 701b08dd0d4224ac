theorem entL_sp {q : Nat → Int32} {p : Int32} : ∀ (n i : Nat), ¬ entL q p n i = 0 → q (entL q p n i) = p
  | 0, _, h => absurd rfl h
  | n + 1, i, h => by
    unfold entL at h ⊢
    by_cases hq : q i = p
    · rw [if_pos hq]
      exact hq
    · rw [if_neg hq] at h ⊢
      exact entL_sp n (i + 1) h
theorem entT_pl {sp : Nat → List (Int32 × Int32)} {t : Int32} {f n : Nat} (h : ¬ entT sp t f n = 0) : plc (sp (entT sp t f n)) t = nI (f * 8 + n) := entL_sp (q := fun i => plc (sp i) t) 24 0 h
theorem RA.ent_m {W S N U F K C Qf Qt : Nat → Int32} {gn c : Nat} {ck : Int32} {m : Nat} {sp : Nat → List (Int32 × Int32)} {vs : Nat → List vV} (hA : RA W S N U F K C Qf Qt gn c ck m sp vs) {t : Int32} {f n : Nat} (hf : f < 24) (hn : n < 8) (h : ¬ entT sp t f n = 0) : entT sp t f n < m := by
  rcases Nat.lt_or_ge (entT sp t f n) m with q | q
  · exact q
  · have h1 := entT_pl h
    rw [(hA.2.2.2.2.1.2.2 _ q (entT_lt sp t f n)).1] at h1
    exact absurd h1.symm (nI_m1 (by omega))
theorem RA.free {W S N U F K C Qf Qt : Nat → Int32} {gn c : Nat} {ck : Int32} {m : Nat} {sp : Nat → List (Int32 × Int32)} {vs : Nat → List vV} (hA : RA W S N U F K C Qf Qt gn c ck m sp vs) {t : Int32} {f n : Nat} (hf : f < 24) (hn : n < 8) (h : entT sp t f n = 0) : ∀ x, 0 < x → x < 24 → ¬ plc (sp x) t = nI (f * 8 + n) := fun x h0 h1 hh => by
  have h2 := ((hA.2.2.2.1 t (f * 8 + n) (by omega)).2 x h0 h1).mpr hh
  rw [ent_rep (hA.2.2.2.1 t) (hA.q0 t) (by omega)] at h2
  have h3 : nI 0 = nI x := by rw [← h2]; exact congrArg nI h.symm
  have := (nI_eq (by omega) (by omega)).mp h3
  omega
theorem ev_no {e : Nat} (h : e < 512) : ¬ (512 : Int32) ≤ nI e := nI_ge (b := 512) h (by decide)
theorem RA.opn {W S N U F K C Qf Qt : Nat → Int32} {gn c : Nat} {ck : Int32} {m : Nat} {sp : Nat → List (Int32 × Int32)} {vs : Nat → List vV} (hA : RA W S N U F K C Qf Qt gn c ck m sp vs) {t : Int32} {E : Nat → Int32} (hE : eR E (fun n => plc (sp n) t)) {f : Nat} (hf : f < 24) : (nI f = 0 ∨ (0 < nI f ∧ ∃ e, e < 192 ∧ E e = nI f)) ↔ (f = 0 ∨ ¬ plc (sp f) t = -1) := by
  constructor
  · rintro (h | ⟨h1, h2⟩)
    · exact Or.inl ((nz_iff hf).mp h)
    · have h0 : 0 < f := Nat.pos_of_ne_zero (fun e => by rw [e] at h1; exact absurd h1 (by decide))
      exact Or.inr ((eR_placed hE h0 hf (hA.pl t f hf)).mp h2)
  · rintro (h | h)
    · exact Or.inl (by rw [h]; rfl)
    · by_cases h0 : f = 0
      · exact Or.inl (by rw [h0]; rfl)
      · exact Or.inr ⟨nI_lt (a := 0) (by omega) (by omega), (eR_placed hE (by omega) hf (hA.pl t f hf)).mpr h⟩
theorem RA.plc0 {W S N U F K C Qf Qt : Nat → Int32} {gn c : Nat} {ck : Int32} {m : Nat} {sp : Nat → List (Int32 × Int32)} {vs : Nat → List vV} (hA : RA W S N U F K C Qf Qt gn c ck m sp vs) {t : Int32} {E : Nat → Int32} (hE : eR E (fun n => plc (sp n) t)) {f : Nat} (h0 : ¬ f = 0) (hf : f < 24) : (0 < nI f ∧ ∃ e, e < 192 ∧ E e = nI f) ↔ ¬ plc (sp f) t = -1 := by
  constructor
  · rintro ⟨_, h2⟩
    exact (eR_placed hE (by omega) hf (hA.pl t f hf)).mp h2
  · intro h
    exact ⟨nI_lt (a := 0) (by omega) (by omega), (eR_placed hE (by omega) hf (hA.pl t f hf)).mpr h⟩
theorem le0_iff {e : Nat} (h : e < 24) : nI e ≤ 0 ↔ e = 0 := by
  constructor
  · intro hh
    by_cases h0 : e = 0
    · exact h0
    · exact absurd hh (nI_nle (by omega) (by omega))
  · intro hh
    rw [hh]
    decide
theorem latR_len {ck : Int32} {cs : Nat → Int32} : ∀ (l : List vV), idxO l → l.isEmpty = false → latR ck l = nI (addV ck cs l).length
  | [], _, h => by cases h
  | (t, x, c0, g) :: l, hi, _ => by
    simp only [latR, addV]
    split
    · rw [hi.1, nI_1]
      rfl
    · rw [hi.1, nI_1, nI_1]
      rfl
theorem RA.nv {W S N U F K C Qf Qt : Nat → Int32} {gn c : Nat} {ck : Int32} {m : Nat} {sp : Nat → List (Int32 × Int32)} {vs : Nat → List vV} (hA : RA W S N U F K C Qf Qt gn c ck m sp vs) (hc : c ≤ 520) {n : Nat} (hn : n < 24) : (∀ k, k < (vs n).length → ¬ tof F W (nI n) (nI k) c 0 (-1) (-1) < 0) ∧ tof F W (nI n) (nI (vs n).length) c 0 (-1) (-1) < 0 := by
  have hV := (hA.2.2.2.2.2.2.1 n hn).1
  have hl := hA.len hn
  refine ⟨fun k hk => ?_, ?_⟩
  · rw [hV.2.2.2.1]
    exact Int32.not_lt.mpr (vti_ge hV.1 hV.2.1 hk (by omega))
  · rw [hV.2.2.2.1, vti_none hV.1 (Nat.le_refl _) (by omega)]
    decide
set_option maxRecDepth 20000 in
set_option maxHeartbeats 1000000 in
theorem ct_T_remove {l : Launch} {D : va_G} {tys : List (ClassId × FieldType)} {M : mM} {cI cB cN : ClassId} {t0 J : Nat} {w g ck ch dc dh ev : Int32} {m dm : Nat} {sp ds : Nat → List (Int32 × Int32)} {vs dv : Nat → List vV} (G : tys[0]? = some (cI, .int) ∧ tys[1]? = some (cB, .boolean) ∧ tys[2]? = some (cN, .object RX0)) (hS : TS M cI cB t0 J ((w, g), (ck, m, ch), (dc, dm, dh), ev, sp, vs, ds, dv)) (hJ : J < 512) (f n : Int32) : Ct_T_remove l D tys 0 0 [.ref t0, .int f, .int n] M (fun v M1 => ∃ r s1, F_remove ((w, g), (ck, m, ch), (dc, dm, dh), ev, sp, vs, ds, dv) f n = (r, s1) ∧ v = some (.int r) ∧ TS M1 cI cB t0 (J + 1) s1) := by
  refine Ct.of (cc := c_T_remove) (maxL := 5) (ret := (some (.int))) (L0 := [some (.ref t0), some (.int f), some (.int n), none, none]) (by decide) (by intro v hv; simp only [List.mem_cons, List.not_mem_nil, or_false] at hv; rcases hv with rfl | rfl | rfl <;> first | rfl | exact mRf_cat (mRf_rf _)) (by simp) rfl ?_
  intro z ws0 hl hD ht X1 X2
  subst hl; subst hD; subst ht
  have X := And.intro X1 X2
  clear X1 X2
  obtain ⟨ad, W, S, N, U, F, K, C, Qf, Qt, E, R, c, d, gn, hT, hA, hB, hcd, hev, hck, hqt, hwg⟩ := hS
  obtain ⟨rfl, rfl, hdc⟩ := hcd
  obtain ⟨e, rfl, hce, heJ⟩ := hev
  obtain ⟨kc, kd, rfl, rfl, hkd, hkc⟩ := hck
  have hT0 := hT
  obtain ⟨hO, tW, tS, tN, tU, tF, tK, tC, tGF, tGT, tE, tR, tI⟩ := hT
  have hm := hA.2.1.2
  have hc5 : c ≤ 511 := by omega
  have hk0 : (0 : Int32) ≤ nI kc := nI_pos' (by omega)
  have hev := ev_no (e := e) (by omega)
  refine i_T_remove_0 X (h := ?_)
  refine i_T_remove_1 X (h := ?_)
  refine i_T_remove_2 X (hM := by assumption) (h := ?_)
  refine i_T_remove_5 X (hM := by assumption) (hC := ct_T_asOf G hT0 (by omega) hA.1 (nI kc)) (hk := by omega) (hn := by omega) (h := fun v5 M5 hp5 => ?_)
  obtain ⟨rfl, E1, hE1, rfl⟩ := hp5
  have hT1 := TI.u9 hT0 E1
  have hx1 := hT1
  obtain ⟨hO1, tW1, tS1, tN1, tU1, tF1, tK1, tC1, tGF1, tGT1, tE1, tR1, tI1⟩ := hx1
  refine i_T_remove_8 X (h := ?_)
  refine i_T_remove_9 X (h := ?_)
  refine i_T_remove_11 X (hC := ct_T_isin f 24) (hk := by omega) (hn := by omega) (h := fun v11 M11 hp11 => ?_)
  obtain ⟨rfl, rfl⟩ := hp11
  refine i_T_remove_14 X (h1 := fun c14 => ?_) (h2 := fun c14 => ?_)
  · skip
    have f14 := bI_eq0 c14
    refine i_T_remove_35 X (h := ?_)
    exact i_T_remove_36 X (hk := by omega) (hn := by omega) (hp := ⟨_, _, by simp only [F_remove]; rw [if_neg (fun h => f14 ((kd_fd hA).mpr h.1).1)], rfl, TS.of (hT1) hA hB ⟨rfl, rfl, hdc⟩ ⟨e, rfl, hce, by omega⟩ ⟨kc, kd, rfl, rfl, hkd, by omega⟩ hqt hwg⟩)
  · skip
    have f14 := bI_ne0 c14
    refine i_T_remove_17 X (h := ?_)
    refine i_T_remove_18 X (h := ?_)
    refine i_T_remove_20 X (hC := ct_T_isin n 8) (hk := by omega) (hn := by omega) (h := fun v20 M20 hp20 => ?_)
    obtain ⟨rfl, rfl⟩ := hp20
    refine i_T_remove_23 X (h1 := fun c23 => ?_) (h2 := fun c23 => ?_)
    · skip
      have f23 := bI_eq0 c23
      refine i_T_remove_35 X (h := ?_)
      exact i_T_remove_36 X (hk := by omega) (hn := by omega) (hp := ⟨_, _, by simp only [F_remove]; rw [if_neg (fun h => f23 h.2)], rfl, TS.of (hT1) hA hB ⟨rfl, rfl, hdc⟩ ⟨e, rfl, hce, by omega⟩ ⟨kc, kd, rfl, rfl, hkd, by omega⟩ hqt hwg⟩)
    · skip
      have f23 := bI_ne0 c23
      refine i_T_remove_26 X (h := ?_)
      refine i_T_remove_27 X (h := ?_)
      refine i_T_remove_28 X (hM := by assumption) (hC := ct_T_kind G hT1 (by omega) f) (hk := by omega) (hn := by omega) (h := fun v28 M28 hp28 => ?_)
      obtain ⟨rfl, rfl⟩ := hp28
      refine i_T_remove_31 X (h := ?_)
      refine i_T_remove_32 X (h1 := fun c32 => ?_) (h2 := fun c32 => ?_)
      · skip
        have g4 := (kd_fd hA).mp ⟨f14, c32⟩
        obtain ⟨f1, hf1, rfl⟩ := ix_of g4.1 (by omega)
        obtain ⟨n1, hn1, rfl⟩ := ix_of (m := 8) f23 (by decide)
        refine i_T_remove_37 X (h := ?_)
        refine i_T_remove_38 X (hM := by assumption) (h := ?_)
        refine i_T_remove_41 X (h := ?_)
        refine i_T_remove_42 X (h := ?_)
        refine i_T_remove_44 X (h := ?_)
        refine i_T_remove_45 X (h := ?_)
        refine i_T_remove_46 X (h := ?_)
        refine i_T_remove_47 X G (hM := by assumption) (j := f1 * 8 + n1) (hx := pf_nI f1 n1) (hj := by omega) (h := ?_)
        have hent : E1 (f1 * 8 + n1) = nI (entT sp (nI kc) f1 n1) := ent_rep (hA.ent hE1) (hA.q0 _) (by omega)
        rw [hent]
        have hel := entT_lt sp (nI kc) f1 n1
        refine i_T_remove_48 X (h := ?_)
        refine i_T_remove_49 X (h := ?_)
        refine i_T_remove_50 X (h1 := fun c50 => ?_) (h2 := fun c50 => ?_)
        · skip
          have f50 := (nz_iff hel).mp c50
          refine i_T_remove_61 X (h := ?_)
          exact i_T_remove_62 X (hk := by omega) (hn := by omega) (hp := ⟨_, _, by simp only [F_remove]; rw [if_pos ⟨g4, f23⟩, nI_clamp (n := f1) (by omega), nI_clamp (n := n1) (by omega), if_pos (Or.inl f50)], rfl, TS.of (hT1) hA hB ⟨rfl, rfl, hdc⟩ ⟨e, rfl, hce, by omega⟩ ⟨kc, kd, rfl, rfl, hkd, by omega⟩ hqt hwg⟩)
        · skip
          have f50 : ¬ entT sp (nI kc) f1 n1 = 0 := fun q => c50 ((nz_iff hel).mpr q)
          refine i_T_remove_53 X (h := ?_)
          refine i_T_remove_54 X (h := ?_)
          refine i_T_remove_55 X (hM := by assumption) (hC := ct_T_hasEntries G hT1 hel) (hk := by omega) (hn := by omega) (h := fun v55 M55 hp55 => ?_)
          obtain ⟨b1, rfl, hb1, rfl⟩ := hp55
          have hfn : b1 = true ↔ fnL (fun i => plc (sp i) (nI kc)) (entT sp (nI kc) f1 n1) 8 0 < 8 := by
            rw [hb1, ← eR_has (hA.ent hE1) (hA.q0 _) hel 8 0 rfl]
            exact ⟨fun ⟨k, a, b⟩ => ⟨k, Nat.zero_le k, a, b⟩, fun ⟨k, _, a, b⟩ => ⟨k, a, b⟩⟩
          refine i_T_remove_58 X (h1 := fun c58 => ?_) (h2 := fun c58 => ?_)
          · skip
            have f58 : ¬ fnL (fun i => plc (sp i) (nI kc)) (entT sp (nI kc) f1 n1) 8 0 < 8 := fun q => bI_eq0 c58 (hfn.mpr q)
            refine i_T_remove_63 X (h := ?_)
            refine i_T_remove_64 X (h := ?_)
            refine i_T_remove_65 X (h := ?_)
            refine i_T_remove_66 X (h := ?_)
            refine i_T_remove_67 X (h := ?_)
            refine i_T_remove_69 X (h := ?_)
            refine i_T_remove_70 X (h := ?_)
            refine i_T_remove_71 X (h := ?_)
            rw [pf_nI]
            refine i_T_remove_72 X (h := ?_)
            refine i_T_remove_73 X (h := ?_)
            refine i_T_remove_74 X (hM := by assumption) (hC := ct_T_change G hT1 (by omega) (-1) 0 (nI (f1 * 8 + n1)) (-1) 0) (hk := by omega) (hn := by omega) (h := fun v74 M74 hp74 => ?_)
            obtain ⟨rfl, hT2⟩ := hp74
            refine i_T_remove_77 X (h := ?_)
            refine i_T_remove_79 X (h := ?_)
            exact i_T_remove_80 X (hk := by omega) (hn := by omega) (hp := ⟨_, _, by simp only [F_remove]; rw [if_pos ⟨g4, f23⟩, nI_clamp (n := f1) (by omega), nI_clamp (n := n1) (by omega), if_neg (fun h => h.elim f50 f58), if_neg hev], rfl, TS.of hT2 (hA.place hk0 (Nat.pos_of_ne_zero f50) (hA.ent_m (by omega) hn1 f50) (Or.inr ⟨rfl, rfl, f1 * 8 + n1, by omega, rfl, entT_pl f50⟩)) (hB.ext (fun j hj => ⟨upd_lt j (by omega), upd_lt j (by omega), upd_lt j (by omega), upd_lt j (by omega), upd_lt j (by omega), upd_lt j (by omega)⟩) (fun _ _ _ _ => rfl)) ⟨nI_1 c, rfl, by omega⟩ ⟨e + 1, nI_1 e, by omega, by omega⟩ ⟨kc, kd, rfl, rfl, hkd, by omega⟩ hqt hwg⟩)
          · skip
            have f58 := hfn.mp (bI_ne0 c58)
            refine i_T_remove_61 X (h := ?_)
            exact i_T_remove_62 X (hk := by omega) (hn := by omega) (hp := ⟨_, _, by simp only [F_remove]; rw [if_pos ⟨g4, f23⟩, nI_clamp (n := f1) (by omega), nI_clamp (n := n1) (by omega), if_pos (Or.inr f58)], rfl, TS.of (hT1) hA hB ⟨rfl, rfl, hdc⟩ ⟨e, rfl, hce, by omega⟩ ⟨kc, kd, rfl, rfl, hkd, by omega⟩ hqt hwg⟩)
      · skip
        refine i_T_remove_35 X (h := ?_)
        exact i_T_remove_36 X (hk := by omega) (hn := by omega) (hp := ⟨_, _, by simp only [F_remove]; rw [if_neg (fun h => c32 ((kd_fd hA).mpr h.1).2)], rfl, TS.of (hT1) hA hB ⟨rfl, rfl, hdc⟩ ⟨e, rfl, hce, by omega⟩ ⟨kc, kd, rfl, rfl, hkd, by omega⟩ hqt hwg⟩)
set_option maxRecDepth 20000 in
set_option maxHeartbeats 1000000 in
theorem ct_T_putBack {l : Launch} {D : va_G} {tys : List (ClassId × FieldType)} {M : mM} {cI cB cN : ClassId} {t0 J : Nat} {w g ck ch dc dh ev : Int32} {m dm : Nat} {sp ds : Nat → List (Int32 × Int32)} {vs dv : Nat → List vV} (G : tys[0]? = some (cI, .int) ∧ tys[1]? = some (cB, .boolean) ∧ tys[2]? = some (cN, .object RX0)) (hS : TS M cI cB t0 J ((w, g), (ck, m, ch), (dc, dm, dh), ev, sp, vs, ds, dv)) (hJ : J < 512) (f n t : Int32) : Ct_T_putBack l D tys 0 0 [.ref t0, .int f, .int n, .int t] M (fun v M1 => ∃ r s1, F_putBack ((w, g), (ck, m, ch), (dc, dm, dh), ev, sp, vs, ds, dv) f n t = (r, s1) ∧ v = some (.int r) ∧ TS M1 cI cB t0 (J + 1) s1) := by
  refine Ct.of (cc := c_T_putBack) (maxL := 6) (ret := (some (.int))) (L0 := [some (.ref t0), some (.int f), some (.int n), some (.int t), none, none]) (by decide) (by intro v hv; simp only [List.mem_cons, List.not_mem_nil, or_false] at hv; rcases hv with rfl | rfl | rfl | rfl <;> first | rfl | exact mRf_cat (mRf_rf _)) (by simp) rfl ?_
  intro z ws0 hl hD ht X1 X2
  subst hl; subst hD; subst ht
  have X := And.intro X1 X2
  clear X1 X2
  obtain ⟨ad, W, S, N, U, F, K, C, Qf, Qt, E, R, c, d, gn, hT, hA, hB, hcd, hev, hck, hqt, hwg⟩ := hS
  obtain ⟨rfl, rfl, hdc⟩ := hcd
  obtain ⟨e, rfl, hce, heJ⟩ := hev
  obtain ⟨kc, kd, rfl, rfl, hkd, hkc⟩ := hck
  have hT0 := hT
  obtain ⟨hO, tW, tS, tN, tU, tF, tK, tC, tGF, tGT, tE, tR, tI⟩ := hT
  have hm := hA.2.1.2
  have hc5 : c ≤ 511 := by omega
  have hk0 : (0 : Int32) ≤ nI kc := nI_pos' (by omega)
  have hev := ev_no (e := e) (by omega)
  refine i_T_putBack_0 X (h := ?_)
  refine i_T_putBack_1 X (h := ?_)
  refine i_T_putBack_2 X (h := ?_)
  refine i_T_putBack_3 X (h := ?_)
  refine i_T_putBack_4 X (hM := by assumption) (hC := ct_T_asked G hT0 (by omega) t f n) (hk := by omega) (hn := by omega) (h := fun v4 M4 hp4 => ?_)
  obtain ⟨rfl, rfl⟩ := hp4
  refine i_T_putBack_7 X (h1 := fun c7 => ?_) (h2 := fun c7 => ?_)
  · skip
    have f7 := bI_ne0 c7
    have g4 := (kd_fd hA).mp ⟨f7.2.1, f7.2.2.2⟩
    obtain ⟨f1, hf1, rfl⟩ := ix_of g4.1 (by omega)
    obtain ⟨n1, hn1, rfl⟩ := ix_of (m := 8) f7.2.2.1 (by decide)
    refine i_T_putBack_12 X (h := ?_)
    refine i_T_putBack_13 X (h := ?_)
    refine i_T_putBack_14 X (hM := by assumption) (hC := ct_T_asOf G hT0 (by omega) hA.1 t) (hk := by omega) (hn := by omega) (h := fun v14 M14 hp14 => ?_)
    obtain ⟨rfl, E1, hE1, rfl⟩ := hp14
    have hT1 := TI.u9 hT0 E1
    have hx1 := hT1
    obtain ⟨hO1, tW1, tS1, tN1, tU1, tF1, tK1, tC1, tGF1, tGT1, tE1, tR1, tI1⟩ := hx1
    refine i_T_putBack_17 X (h := ?_)
    refine i_T_putBack_18 X (hM := by assumption) (h := ?_)
    refine i_T_putBack_21 X (h := ?_)
    refine i_T_putBack_22 X (h := ?_)
    refine i_T_putBack_24 X (h := ?_)
    refine i_T_putBack_25 X (h := ?_)
    refine i_T_putBack_26 X (h := ?_)
    refine i_T_putBack_27 X G (hM := by assumption) (j := f1 * 8 + n1) (hx := pf_nI f1 n1) (hj := by omega) (h := ?_)
    have hent1 : E1 (f1 * 8 + n1) = nI (entT sp t f1 n1) := ent_rep (hA.ent hE1) (hA.q0 _) (by omega)
    rw [hent1]
    have hel := entT_lt sp t f1 n1
    refine i_T_putBack_28 X (h := ?_)
    refine i_T_putBack_30 X (h := ?_)
    refine i_T_putBack_31 X (h := ?_)
    refine i_T_putBack_32 X (hM := by assumption) (h := ?_)
    refine i_T_putBack_35 X (hM := by assumption) (hC := ct_T_asOf G hT1 (by omega) hA.1 (nI kc)) (hk := by omega) (hn := by omega) (h := fun v35 M35 hp35 => ?_)
    obtain ⟨rfl, E2, hE2, rfl⟩ := hp35
    have hT2 := TI.u9 hT1 E2
    have hx2 := hT2
    obtain ⟨hO2, tW2, tS2, tN2, tU2, tF2, tK2, tC2, tGF2, tGT2, tE2, tR2, tI2⟩ := hx2
    have hent2 : E2 (f1 * 8 + n1) = nI (entT sp (nI kc) f1 n1) := ent_rep (hA.ent hE2) (hA.q0 _) (by omega)
    have hel2 := entT_lt sp (nI kc) f1 n1
    refine i_T_putBack_38 X (h := ?_)
    refine i_T_putBack_40 X (h1 := fun c40 => ?_) (h2 := fun c40 => ?_)
    · skip
      have f40 := (nz_iff hel).mp c40
      refine i_T_putBack_74 X (h := ?_)
      exact i_T_putBack_75 X (hk := by omega) (hn := by omega) (hp := ⟨_, _, by simp only [F_putBack]; rw [if_pos ⟨g4, f7.2.2.1, f7.1⟩, nI_clamp (n := f1) (by omega), nI_clamp (n := n1) (by omega), if_pos (Or.inl f40)], rfl, TS.of (hT2) hA hB ⟨rfl, rfl, hdc⟩ ⟨e, rfl, hce, by omega⟩ ⟨kc, kd, rfl, rfl, hkd, by omega⟩ hqt hwg⟩)
    · skip
      have f40 : ¬ entT sp t f1 n1 = 0 := fun q => c40 ((nz_iff hel).mpr q)
      refine i_T_putBack_43 X (h := ?_)
      refine i_T_putBack_44 X (h := ?_)
      refine i_T_putBack_46 X (hM := by assumption) (hC := ct_T_placed G hT2 (nI (entT sp t f1 n1))) (hk := by omega) (hn := by omega) (h := fun v46 M46 hp46 => ?_)
      obtain ⟨b1, rfl, hb1, rfl⟩ := hp46
      rw [hA.plc0 (hA.ent hE2) f40 hel] at hb1
      refine i_T_putBack_49 X (h1 := fun c49 => ?_) (h2 := fun c49 => ?_)
      · skip
        have f49 := hb1.mp (bI_ne0 c49)
        refine i_T_putBack_74 X (h := ?_)
        exact i_T_putBack_75 X (hk := by omega) (hn := by omega) (hp := ⟨_, _, by simp only [F_putBack]; rw [if_pos ⟨g4, f7.2.2.1, f7.1⟩, nI_clamp (n := f1) (by omega), nI_clamp (n := n1) (by omega), if_pos (Or.inr (Or.inl f49))], rfl, TS.of (hT2) hA hB ⟨rfl, rfl, hdc⟩ ⟨e, rfl, hce, by omega⟩ ⟨kc, kd, rfl, rfl, hkd, by omega⟩ hqt hwg⟩)
      · skip
        have f49 := fun q => bI_eq0 c49 (hb1.mpr q)
        refine i_T_putBack_52 X (h := ?_)
        refine i_T_putBack_53 X (h := ?_)
        refine i_T_putBack_54 X (hM := by assumption) (hC := ct_T_opn G hT2 (nI f1)) (hk := by omega) (hn := by omega) (h := fun v54 M54 hp54 => ?_)
        obtain ⟨b2, rfl, hb2, rfl⟩ := hp54
        rw [hA.opn (hA.ent hE2) (show f1 < 24 by omega)] at hb2
        refine i_T_putBack_57 X (h1 := fun c57 => ?_) (h2 := fun c57 => ?_)
        · skip
          have f57 := fun q => bI_eq0 c57 (hb2.mpr q)
          refine i_T_putBack_74 X (h := ?_)
          exact i_T_putBack_75 X (hk := by omega) (hn := by omega) (hp := ⟨_, _, by simp only [F_putBack]; rw [if_pos ⟨g4, f7.2.2.1, f7.1⟩, nI_clamp (n := f1) (by omega), nI_clamp (n := n1) (by omega), if_pos (Or.inr (Or.inr (Or.inl (fun q => f57 q.1))))], rfl, TS.of (hT2) hA hB ⟨rfl, rfl, hdc⟩ ⟨e, rfl, hce, by omega⟩ ⟨kc, kd, rfl, rfl, hkd, by omega⟩ hqt hwg⟩)
        · skip
          have f57 := hb2.mp (bI_ne0 c57)
          refine i_T_putBack_60 X (h := ?_)
          refine i_T_putBack_61 X (hM := by assumption) (h := ?_)
          refine i_T_putBack_64 X (h := ?_)
          refine i_T_putBack_65 X (h := ?_)
          refine i_T_putBack_67 X (h := ?_)
          refine i_T_putBack_68 X (h := ?_)
          refine i_T_putBack_69 X (h := ?_)
          refine i_T_putBack_70 X G (hM := by assumption) (j := f1 * 8 + n1) (hx := pf_nI f1 n1) (hj := by omega) (h := ?_)
          rw [hent2]
          refine i_T_putBack_71 X (h1 := fun c71 => ?_) (h2 := fun c71 => ?_)
          · skip
            have f71 := (le0_iff hel2).mp c71
            refine i_T_putBack_76 X (h := ?_)
            refine i_T_putBack_77 X (h := ?_)
            refine i_T_putBack_79 X (hM := by assumption) (hC := ct_T_reach G hT2 (eR_en (hA.ent hE2)) hel) (hk := by omega) (hn := by omega) (h := fun v79 M79 hp79 => ?_)
            obtain ⟨rfl, R1, hR1, rfl⟩ := hp79
            have hT3 := TI.u10 hT2 R1
            have hx3 := hT3
            obtain ⟨hO3, tW3, tS3, tN3, tU3, tF3, tK3, tC3, tGF3, tGT3, tE3, tR3, tI3⟩ := hx3
            have hwi := reach_wi (hA.ent hE2) (hA.q0 _) (hA.pl _) hR1 (show f1 < 24 by omega)
            refine i_T_putBack_82 X (h := ?_)
            refine i_T_putBack_83 X (hM := by assumption) (h := ?_)
            refine i_T_putBack_86 X (h := ?_)
            refine i_T_putBack_87 X G (hM := by assumption) (hx := rfl) (hj := by omega) (h := ?_)
            refine i_T_putBack_88 X (h1 := fun c88 => ?_) (h2 := fun c88 => ?_)
            · skip
              have f88 : ¬ witT sp (nI kc) (entT sp t f1 n1) f1 = true := fun q => hwi.mpr q c88
              refine i_T_putBack_93 X (h := ?_)
              refine i_T_putBack_94 X (h := ?_)
              refine i_T_putBack_95 X (h := ?_)
              refine i_T_putBack_97 X (h := ?_)
              refine i_T_putBack_98 X (h := ?_)
              refine i_T_putBack_99 X (h := ?_)
              rw [pf_nI]
              refine i_T_putBack_100 X (h := ?_)
              refine i_T_putBack_102 X (h := ?_)
              refine i_T_putBack_103 X (h := ?_)
              refine i_T_putBack_104 X (h := ?_)
              refine i_T_putBack_105 X (hM := by assumption) (hC := ct_T_change G hT3 (by omega) (nI (f1 * 8 + n1)) (nI (entT sp t f1 n1)) (-1) (-1) 0) (hk := by omega) (hn := by omega) (h := fun v105 M105 hp105 => ?_)
              obtain ⟨rfl, hT4⟩ := hp105
              refine i_T_putBack_108 X (h := ?_)
              refine i_T_putBack_110 X (h := ?_)
              exact i_T_putBack_112 X (hk := by omega) (hn := by omega) (hp := ⟨_, _, by simp only [F_putBack]; rw [if_pos ⟨g4, f7.2.2.1, f7.1⟩, nI_clamp (n := f1) (by omega), nI_clamp (n := n1) (by omega), if_neg (fun h => h.elim f40 (fun h => h.elim f49 (fun h => h.elim (fun q => q ⟨f57, f71⟩) f88))), if_neg hev], rfl, TS.of hT4 (hA.place hk0 (Nat.pos_of_ne_zero f40) (hA.ent_m (by omega) hn1 f40) (Or.inl ⟨f1 * 8 + n1, by omega, rfl, rfl, rfl, hA.free (by omega) hn1 f71, Or.inl ⟨rfl, Decidable.byContradiction (fun q => f49 q)⟩⟩)) (hB.ext (fun j hj => ⟨upd_lt j (by omega), upd_lt j (by omega), upd_lt j (by omega), upd_lt j (by omega), upd_lt j (by omega), upd_lt j (by omega)⟩) (fun _ _ _ _ => rfl)) ⟨nI_1 c, rfl, by omega⟩ ⟨e + 1, nI_1 e, by omega, by omega⟩ ⟨kc, kd, rfl, rfl, hkd, by omega⟩ hqt hwg⟩)
            · skip
              have f88 : witT sp (nI kc) (entT sp t f1 n1) f1 = true := hwi.mp c88
              refine i_T_putBack_91 X (h := ?_)
              exact i_T_putBack_92 X (hk := by omega) (hn := by omega) (hp := ⟨_, _, by simp only [F_putBack]; rw [if_pos ⟨g4, f7.2.2.1, f7.1⟩, nI_clamp (n := f1) (by omega), nI_clamp (n := n1) (by omega), if_pos (Or.inr (Or.inr (Or.inr f88)))], rfl, TS.of (hT3) hA hB ⟨rfl, rfl, hdc⟩ ⟨e, rfl, hce, by omega⟩ ⟨kc, kd, rfl, rfl, hkd, by omega⟩ hqt hwg⟩)
          · skip
            have f71 : ¬ entT sp (nI kc) f1 n1 = 0 := fun q => c71 ((le0_iff hel2).mpr q)
            refine i_T_putBack_74 X (h := ?_)
            exact i_T_putBack_75 X (hk := by omega) (hn := by omega) (hp := ⟨_, _, by simp only [F_putBack]; rw [if_pos ⟨g4, f7.2.2.1, f7.1⟩, nI_clamp (n := f1) (by omega), nI_clamp (n := n1) (by omega), if_pos (Or.inr (Or.inr (Or.inl (fun q => f71 q.2))))], rfl, TS.of (hT2) hA hB ⟨rfl, rfl, hdc⟩ ⟨e, rfl, hce, by omega⟩ ⟨kc, kd, rfl, rfl, hkd, by omega⟩ hqt hwg⟩)
  · skip
    have f7 := bI_eq0 c7
    refine i_T_putBack_10 X (h := ?_)
    exact i_T_putBack_11 X (hk := by omega) (hn := by omega) (hp := ⟨_, _, by simp only [F_putBack]; rw [if_neg (fun h => f7 ⟨h.2.2, ((kd_fd hA).mpr h.1).1, h.2.1, ((kd_fd hA).mpr h.1).2⟩)], rfl, TS.of (hT0) hA hB ⟨rfl, rfl, hdc⟩ ⟨e, rfl, hce, by omega⟩ ⟨kc, kd, rfl, rfl, hkd, by omega⟩ hqt hwg⟩)
set_option maxRecDepth 20000 in
set_option maxHeartbeats 1000000 in
theorem ct_T_move {l : Launch} {D : va_G} {tys : List (ClassId × FieldType)} {M : mM} {cI cB cN : ClassId} {t0 J : Nat} {w g ck ch dc dh ev : Int32} {m dm : Nat} {sp ds : Nat → List (Int32 × Int32)} {vs dv : Nat → List vV} (G : tys[0]? = some (cI, .int) ∧ tys[1]? = some (cB, .boolean) ∧ tys[2]? = some (cN, .object RX0)) (hS : TS M cI cB t0 J ((w, g), (ck, m, ch), (dc, dm, dh), ev, sp, vs, ds, dv)) (hJ : J < 512) (f n o a : Int32) : Ct_T_move l D tys 0 0 [.ref t0, .int f, .int n, .int o, .int a] M (fun v M1 => ∃ r s1, F_move ((w, g), (ck, m, ch), (dc, dm, dh), ev, sp, vs, ds, dv) f n o a = (r, s1) ∧ v = some (.int r) ∧ TS M1 cI cB t0 (J + 1) s1) := by
  refine Ct.of (cc := c_T_move) (maxL := 7) (ret := (some (.int))) (L0 := [some (.ref t0), some (.int f), some (.int n), some (.int o), some (.int a), none, none]) (by decide) (by intro v hv; simp only [List.mem_cons, List.not_mem_nil, or_false] at hv; rcases hv with rfl | rfl | rfl | rfl | rfl <;> first | rfl | exact mRf_cat (mRf_rf _)) (by simp) rfl ?_
  intro z ws0 hl hD ht X1 X2
  subst hl; subst hD; subst ht
  have X := And.intro X1 X2
  clear X1 X2
  obtain ⟨ad, W, S, N, U, F, K, C, Qf, Qt, E, R, c, d, gn, hT, hA, hB, hcd, hev, hck, hqt, hwg⟩ := hS
  obtain ⟨rfl, rfl, hdc⟩ := hcd
  obtain ⟨e, rfl, hce, heJ⟩ := hev
  obtain ⟨kc, kd, rfl, rfl, hkd, hkc⟩ := hck
  have hT0 := hT
  obtain ⟨hO, tW, tS, tN, tU, tF, tK, tC, tGF, tGT, tE, tR, tI⟩ := hT
  have hm := hA.2.1.2
  have hc5 : c ≤ 511 := by omega
  have hk0 : (0 : Int32) ≤ nI kc := nI_pos' (by omega)
  have hev := ev_no (e := e) (by omega)
  refine i_T_move_0 X (h := ?_)
  refine i_T_move_1 X (h := ?_)
  refine i_T_move_2 X (hM := by assumption) (h := ?_)
  refine i_T_move_5 X (hM := by assumption) (hC := ct_T_asOf G hT0 (by omega) hA.1 (nI kc)) (hk := by omega) (hn := by omega) (h := fun v5 M5 hp5 => ?_)
  obtain ⟨rfl, E1, hE1, rfl⟩ := hp5
  have hT1 := TI.u9 hT0 E1
  have hx1 := hT1
  obtain ⟨hO1, tW1, tS1, tN1, tU1, tF1, tK1, tC1, tGF1, tGT1, tE1, tR1, tI1⟩ := hx1
  refine i_T_move_8 X (h := ?_)
  refine i_T_move_9 X (h := ?_)
  refine i_T_move_11 X (hC := ct_T_isin f 24) (hk := by omega) (hn := by omega) (h := fun v11 M11 hp11 => ?_)
  obtain ⟨rfl, rfl⟩ := hp11
  refine i_T_move_14 X (h1 := fun c14 => ?_) (h2 := fun c14 => ?_)
  · skip
    have f14 := bI_eq0 c14
    refine i_T_move_45 X (h := ?_)
    exact i_T_move_46 X (hk := by omega) (hn := by omega) (hp := ⟨_, _, by simp only [F_move]; rw [if_neg (fun h => f14 ((kd_fd hA).mpr h.1).1)], rfl, TS.of (hT1) hA hB ⟨rfl, rfl, hdc⟩ ⟨e, rfl, hce, by omega⟩ ⟨kc, kd, rfl, rfl, hkd, by omega⟩ hqt hwg⟩)
  · skip
    have f14 := bI_ne0 c14
    refine i_T_move_17 X (h := ?_)
    refine i_T_move_18 X (h := ?_)
    refine i_T_move_20 X (hC := ct_T_isin n 8) (hk := by omega) (hn := by omega) (h := fun v20 M20 hp20 => ?_)
    obtain ⟨rfl, rfl⟩ := hp20
    refine i_T_move_23 X (h1 := fun c23 => ?_) (h2 := fun c23 => ?_)
    · skip
      have f23 := bI_eq0 c23
      refine i_T_move_45 X (h := ?_)
      exact i_T_move_46 X (hk := by omega) (hn := by omega) (hp := ⟨_, _, by simp only [F_move]; rw [if_neg (fun h => f23 h.2.1)], rfl, TS.of (hT1) hA hB ⟨rfl, rfl, hdc⟩ ⟨e, rfl, hce, by omega⟩ ⟨kc, kd, rfl, rfl, hkd, by omega⟩ hqt hwg⟩)
    · skip
      have f23 := bI_ne0 c23
      refine i_T_move_26 X (h := ?_)
      refine i_T_move_27 X (h := ?_)
      refine i_T_move_29 X (hC := ct_T_isin o 24) (hk := by omega) (hn := by omega) (h := fun v29 M29 hp29 => ?_)
      obtain ⟨rfl, rfl⟩ := hp29
      refine i_T_move_32 X (h1 := fun c32 => ?_) (h2 := fun c32 => ?_)
      · skip
        have f32 := bI_eq0 c32
        refine i_T_move_45 X (h := ?_)
        exact i_T_move_46 X (hk := by omega) (hn := by omega) (hp := ⟨_, _, by simp only [F_move]; rw [if_neg (fun h => f32 ((kd_fd hA).mpr h.2.2.1).1)], rfl, TS.of (hT1) hA hB ⟨rfl, rfl, hdc⟩ ⟨e, rfl, hce, by omega⟩ ⟨kc, kd, rfl, rfl, hkd, by omega⟩ hqt hwg⟩)
      · skip
        have f32 := bI_ne0 c32
        refine i_T_move_35 X (h := ?_)
        refine i_T_move_37 X (h := ?_)
        refine i_T_move_39 X (hC := ct_T_isin a 8) (hk := by omega) (hn := by omega) (h := fun v39 M39 hp39 => ?_)
        obtain ⟨rfl, rfl⟩ := hp39
        refine i_T_move_42 X (h1 := fun c42 => ?_) (h2 := fun c42 => ?_)
        · skip
          have f42 := bI_ne0 c42
          refine i_T_move_47 X (h := ?_)
          refine i_T_move_48 X (h := ?_)
          refine i_T_move_49 X (hM := by assumption) (hC := ct_T_kind G hT1 (by omega) f) (hk := by omega) (hn := by omega) (h := fun v49 M49 hp49 => ?_)
          obtain ⟨rfl, rfl⟩ := hp49
          refine i_T_move_52 X (h := ?_)
          refine i_T_move_53 X (h1 := fun c53 => ?_) (h2 := fun c53 => ?_)
          · skip
            refine i_T_move_65 X (h := ?_)
            exact i_T_move_66 X (hk := by omega) (hn := by omega) (hp := ⟨_, _, by simp only [F_move]; rw [if_neg (fun h => c53 ((kd_fd hA).mpr h.1).2)], rfl, TS.of (hT1) hA hB ⟨rfl, rfl, hdc⟩ ⟨e, rfl, hce, by omega⟩ ⟨kc, kd, rfl, rfl, hkd, by omega⟩ hqt hwg⟩)
          · skip
            refine i_T_move_56 X (h := ?_)
            refine i_T_move_57 X (h := ?_)
            refine i_T_move_58 X (hM := by assumption) (hC := ct_T_kind G hT1 (by omega) o) (hk := by omega) (hn := by omega) (h := fun v58 M58 hp58 => ?_)
            obtain ⟨rfl, rfl⟩ := hp58
            refine i_T_move_61 X (h := ?_)
            refine i_T_move_62 X (h1 := fun c62 => ?_) (h2 := fun c62 => ?_)
            · skip
              have g4 := (kd_fd hA).mp ⟨f14, c53⟩
              have g5 := (kd_fd hA).mp ⟨f32, c62⟩
              obtain ⟨f1, hf1, rfl⟩ := ix_of g4.1 (by omega)
              obtain ⟨n1, hn1, rfl⟩ := ix_of (m := 8) f23 (by decide)
              obtain ⟨o1, ho1, rfl⟩ := ix_of g5.1 (by omega)
              obtain ⟨a1, ha1, rfl⟩ := ix_of (m := 8) f42 (by decide)
              refine i_T_move_67 X (h := ?_)
              refine i_T_move_68 X (hM := by assumption) (h := ?_)
              refine i_T_move_71 X (h := ?_)
              refine i_T_move_72 X (h := ?_)
              refine i_T_move_74 X (h := ?_)
              refine i_T_move_75 X (h := ?_)
              refine i_T_move_76 X (h := ?_)
              refine i_T_move_77 X G (hM := by assumption) (j := f1 * 8 + n1) (hx := pf_nI f1 n1) (hj := by omega) (h := ?_)
              have hent : E1 (f1 * 8 + n1) = nI (entT sp (nI kc) f1 n1) := ent_rep (hA.ent hE1) (hA.q0 _) (by omega)
              rw [hent]
              have hel := entT_lt sp (nI kc) f1 n1
              have hel2 := entT_lt sp (nI kc) o1 a1
              have hent2 : E1 (o1 * 8 + a1) = nI (entT sp (nI kc) o1 a1) := ent_rep (hA.ent hE1) (hA.q0 _) (by omega)
              refine i_T_move_78 X (h := ?_)
              refine i_T_move_80 X (h := ?_)
              refine i_T_move_82 X (h1 := fun c82 => ?_) (h2 := fun c82 => ?_)
              · skip
                have f82 := (nz_iff hel).mp c82
                refine i_T_move_108 X (h := ?_)
                exact i_T_move_109 X (hk := by omega) (hn := by omega) (hp := ⟨_, _, by simp only [F_move]; rw [if_pos ⟨g4, f23, g5, f42⟩, nI_clamp (n := f1) (by omega), nI_clamp (n := n1) (by omega), nI_clamp (n := o1) (by omega), nI_clamp (n := a1) (by omega), if_pos (Or.inl f82)], rfl, TS.of (hT1) hA hB ⟨rfl, rfl, hdc⟩ ⟨e, rfl, hce, by omega⟩ ⟨kc, kd, rfl, rfl, hkd, by omega⟩ hqt hwg⟩)
              · skip
                have f82 : ¬ entT sp (nI kc) f1 n1 = 0 := fun q => c82 ((nz_iff hel).mpr q)
                refine i_T_move_85 X (h := ?_)
                refine i_T_move_86 X (h := ?_)
                refine i_T_move_87 X (hM := by assumption) (hC := ct_T_opn G hT1 (nI o1)) (hk := by omega) (hn := by omega) (h := fun v87 M87 hp87 => ?_)
                obtain ⟨b2, rfl, hb2, rfl⟩ := hp87
                rw [hA.opn (hA.ent hE1) (show o1 < 24 by omega)] at hb2
                refine i_T_move_90 X (h1 := fun c90 => ?_) (h2 := fun c90 => ?_)
                · skip
                  have f90 := fun q => bI_eq0 c90 (hb2.mpr q)
                  refine i_T_move_108 X (h := ?_)
                  exact i_T_move_109 X (hk := by omega) (hn := by omega) (hp := ⟨_, _, by simp only [F_move]; rw [if_pos ⟨g4, f23, g5, f42⟩, nI_clamp (n := f1) (by omega), nI_clamp (n := n1) (by omega), nI_clamp (n := o1) (by omega), nI_clamp (n := a1) (by omega), if_pos (Or.inr (Or.inl (fun q => f90 q.1)))], rfl, TS.of (hT1) hA hB ⟨rfl, rfl, hdc⟩ ⟨e, rfl, hce, by omega⟩ ⟨kc, kd, rfl, rfl, hkd, by omega⟩ hqt hwg⟩)
                · skip
                  have f90 := hb2.mp (bI_ne0 c90)
                  refine i_T_move_93 X (h := ?_)
                  refine i_T_move_94 X (hM := by assumption) (h := ?_)
                  refine i_T_move_97 X (h := ?_)
                  refine i_T_move_98 X (h := ?_)
                  refine i_T_move_100 X (h := ?_)
                  refine i_T_move_101 X (h := ?_)
                  refine i_T_move_103 X (h := ?_)
                  refine i_T_move_104 X G (hM := by assumption) (j := o1 * 8 + a1) (hx := pf_nI o1 a1) (hj := by omega) (h := ?_)
                  rw [hent2]
                  refine i_T_move_105 X (h1 := fun c105 => ?_) (h2 := fun c105 => ?_)
                  · skip
                    have f105 := (le0_iff hel2).mp c105
                    refine i_T_move_110 X (h := ?_)
                    refine i_T_move_111 X (h := ?_)
                    refine i_T_move_113 X (hM := by assumption) (hC := ct_T_reach G hT1 (eR_en (hA.ent hE1)) hel) (hk := by omega) (hn := by omega) (h := fun v113 M113 hp113 => ?_)
                    obtain ⟨rfl, R1, hR1, rfl⟩ := hp113
                    have hT3 := TI.u10 hT1 R1
                    have hx3 := hT3
                    obtain ⟨hO3, tW3, tS3, tN3, tU3, tF3, tK3, tC3, tGF3, tGT3, tE3, tR3, tI3⟩ := hx3
                    have hwi := reach_wi (hA.ent hE1) (hA.q0 _) (hA.pl _) hR1 (show o1 < 24 by omega)
                    refine i_T_move_116 X (h := ?_)
                    refine i_T_move_117 X (hM := by assumption) (h := ?_)
                    refine i_T_move_120 X (h := ?_)
                    refine i_T_move_121 X G (hM := by assumption) (hx := rfl) (hj := by omega) (h := ?_)
                    refine i_T_move_122 X (h1 := fun c122 => ?_) (h2 := fun c122 => ?_)
                    · skip
                      have f122 : ¬ witT sp (nI kc) (entT sp (nI kc) f1 n1) o1 = true := fun q => hwi.mpr q c122
                      refine i_T_move_127 X (h := ?_)
                      refine i_T_move_128 X (h := ?_)
                      refine i_T_move_129 X (h := ?_)
                      refine i_T_move_131 X (h := ?_)
                      refine i_T_move_132 X (h := ?_)
                      refine i_T_move_134 X (h := ?_)
                      rw [pf_nI]
                      refine i_T_move_135 X (h := ?_)
                      refine i_T_move_137 X (h := ?_)
                      refine i_T_move_138 X (h := ?_)
                      refine i_T_move_140 X (h := ?_)
                      refine i_T_move_141 X (h := ?_)
                      refine i_T_move_142 X (h := ?_)
                      rw [pf_nI]
                      refine i_T_move_143 X (h := ?_)
                      refine i_T_move_144 X (h := ?_)
                      refine i_T_move_145 X (hM := by assumption) (hC := ct_T_change G hT3 (by omega) (nI (o1 * 8 + a1)) (nI (entT sp (nI kc) f1 n1)) (nI (f1 * 8 + n1)) (-1) 0) (hk := by omega) (hn := by omega) (h := fun v145 M145 hp145 => ?_)
                      obtain ⟨rfl, hT4⟩ := hp145
                      refine i_T_move_148 X (h := ?_)
                      refine i_T_move_150 X (h := ?_)
                      exact i_T_move_151 X (hk := by omega) (hn := by omega) (hp := ⟨_, _, by simp only [F_move]; rw [if_pos ⟨g4, f23, g5, f42⟩, nI_clamp (n := f1) (by omega), nI_clamp (n := n1) (by omega), nI_clamp (n := o1) (by omega), nI_clamp (n := a1) (by omega), if_neg (fun h => h.elim f82 (fun h => h.elim (fun q => q ⟨f90, f105⟩) f122)), if_neg hev], rfl, TS.of hT4 (hA.place hk0 (Nat.pos_of_ne_zero f82) (hA.ent_m (by omega) hn1 f82) (Or.inl ⟨o1 * 8 + a1, by omega, rfl, rfl, rfl, hA.free (by omega) ha1 f105, Or.inr ⟨f1 * 8 + n1, by omega, rfl, entT_pl f82⟩⟩)) (hB.ext (fun j hj => ⟨upd_lt j (by omega), upd_lt j (by omega), upd_lt j (by omega), upd_lt j (by omega), upd_lt j (by omega), upd_lt j (by omega)⟩) (fun _ _ _ _ => rfl)) ⟨nI_1 c, rfl, by omega⟩ ⟨e + 1, nI_1 e, by omega, by omega⟩ ⟨kc, kd, rfl, rfl, hkd, by omega⟩ hqt hwg⟩)
                    · skip
                      have f122 : witT sp (nI kc) (entT sp (nI kc) f1 n1) o1 = true := hwi.mp c122
                      refine i_T_move_125 X (h := ?_)
                      exact i_T_move_126 X (hk := by omega) (hn := by omega) (hp := ⟨_, _, by simp only [F_move]; rw [if_pos ⟨g4, f23, g5, f42⟩, nI_clamp (n := f1) (by omega), nI_clamp (n := n1) (by omega), nI_clamp (n := o1) (by omega), nI_clamp (n := a1) (by omega), if_pos (Or.inr (Or.inr f122))], rfl, TS.of (hT3) hA hB ⟨rfl, rfl, hdc⟩ ⟨e, rfl, hce, by omega⟩ ⟨kc, kd, rfl, rfl, hkd, by omega⟩ hqt hwg⟩)
                  · skip
                    have f105 : ¬ entT sp (nI kc) o1 a1 = 0 := fun q => c105 ((le0_iff hel2).mpr q)
                    refine i_T_move_108 X (h := ?_)
                    exact i_T_move_109 X (hk := by omega) (hn := by omega) (hp := ⟨_, _, by simp only [F_move]; rw [if_pos ⟨g4, f23, g5, f42⟩, nI_clamp (n := f1) (by omega), nI_clamp (n := n1) (by omega), nI_clamp (n := o1) (by omega), nI_clamp (n := a1) (by omega), if_pos (Or.inr (Or.inl (fun q => f105 q.2)))], rfl, TS.of (hT1) hA hB ⟨rfl, rfl, hdc⟩ ⟨e, rfl, hce, by omega⟩ ⟨kc, kd, rfl, rfl, hkd, by omega⟩ hqt hwg⟩)
            · skip
              refine i_T_move_65 X (h := ?_)
              exact i_T_move_66 X (hk := by omega) (hn := by omega) (hp := ⟨_, _, by simp only [F_move]; rw [if_neg (fun h => c62 ((kd_fd hA).mpr h.2.2.1).2)], rfl, TS.of (hT1) hA hB ⟨rfl, rfl, hdc⟩ ⟨e, rfl, hce, by omega⟩ ⟨kc, kd, rfl, rfl, hkd, by omega⟩ hqt hwg⟩)
        · skip
          have f42 := bI_eq0 c42
          refine i_T_move_45 X (h := ?_)
          exact i_T_move_46 X (hk := by omega) (hn := by omega) (hp := ⟨_, _, by simp only [F_move]; rw [if_neg (fun h => f42 h.2.2.2)], rfl, TS.of (hT1) hA hB ⟨rfl, rfl, hdc⟩ ⟨e, rfl, hce, by omega⟩ ⟨kc, kd, rfl, rfl, hkd, by omega⟩ hqt hwg⟩)
