theorem vao_hd {ck : Int32} : ∀ {l : List vV}, tmO ck l → vao l ck = l
  | [], _ => rfl
  | (t, x, cs, g) :: l, h => by
    unfold vao
    rw [if_neg (Int32.not_lt.mpr h.2.1)]
theorem upd_c4 {C1 cs : Nat → Int32} {c x1 : Nat} {v : Int32} (h : ∀ q, q < 4 → C1 (c * 4 + q) = cs q) : ∀ k, k < 4 → upd C1 (c * 4 + x1) v (c * 4 + k) = upd cs x1 v k := fun k hk => by
  by_cases hkx : k = x1
  · subst hkx
    rw [pk_us, pk_us]
  · rw [pk_un (by omega), pk_un hkx]
    exact h k hk
theorem vR_ne {C W : Nat → Int32} {c : Nat} {v : Int32} {l : List vV} (h : vR C W c v l) (hl : l.isEmpty = false) : ∃ (t x : Int32) (cs : Nat → Int32) (g : Int32) (rs : List vV) (i : Nat), l = (t, x, cs, g) :: rs ∧ i < c ∧ v = nI i ∧ W i = t ∧ ∀ k, k < 4 → C (i * 4 + k) = cs k := by
  cases l with
  | nil => cases hl
  | cons q l =>
    obtain ⟨t, x, cs, g⟩ := q
    obtain ⟨i, h1, h2, h3, h4⟩ := h
    exact ⟨t, x, cs, g, l, i, rfl, h1, h2, h3, h4⟩
set_option maxRecDepth 20000 in
set_option maxHeartbeats 1000000 in
theorem ct_T_make {l : Launch} {D : va_G} {tys : List (ClassId × FieldType)} {M : mM} {cI cB cN : ClassId} {t0 J : Nat} {w g ck ch dc dh ev : Int32} {m dm : Nat} {sp ds : Nat → List (Int32 × Int32)} {vs dv : Nat → List vV} (G : tys[0]? = some (cI, .int) ∧ tys[1]? = some (cB, .boolean) ∧ tys[2]? = some (cN, .object RX0)) (hS : TS M cI cB t0 J ((w, g), (ck, m, ch), (dc, dm, dh), ev, sp, vs, ds, dv)) (hJ : J < 512) (f n b : Int32) : Ct_T_make l D tys 0 0 [.ref t0, .int f, .int n, .int b] M (fun v M1 => ∃ r s1, F_make ((w, g), (ck, m, ch), (dc, dm, dh), ev, sp, vs, ds, dv) f n b = (r, s1) ∧ v = some (.int r) ∧ TS M1 cI cB t0 (J + 1) s1) := by
  refine Ct.of (cc := c_T_make) (maxL := 6) (ret := (some (.int))) (L0 := [some (.ref t0), some (.int f), some (.int n), some (.int b), none, none]) (by decide) (by intro v hv; simp only [List.mem_cons, List.not_mem_nil, or_false] at hv; rcases hv with rfl | rfl | rfl | rfl <;> first | rfl | exact mRf_cat (mRf_rf _)) (by simp) rfl ?_
  intro z ws0 hl hD ht X1 X2
  subst hl; subst hD; subst ht
  have X := And.intro X1 X2
  clear X1 X2
  obtain ⟨ad, W, S, N, U, F, K, C, Qf, Qt, E, R, c, d, gn, hT, hA, hB, hcd, hev, hck, hqt, hwg⟩ := hS
  obtain ⟨rfl, rfl, hdc⟩ := hcd
  obtain ⟨e, rfl, hce, heJ⟩ := hev
  obtain ⟨kc, kd, rfl, rfl, hkd, hkc⟩ := hck
  have hT0 := hT
  obtain ⟨hO, tW, tS, tN, tU, tF, tK, tC, tGF, tGT, tE, tR, tI⟩ := hT
  have hm := hA.2.1.2
  have hc5 : c ≤ 511 := by omega
  have hk0 : (0 : Int32) ≤ nI kc := nI_pos' (by omega)
  have hev := ev_no (e := e) (by omega)
  have hq : ∀ i, i < gn → ¬ Qt i = nI kc := (fun i hi h => absurd (hqt i hi) (by rw [h]; exact Int32.not_lt.mpr (nI_le hkd (by omega))))
  refine i_T_make_0 X (h := ?_)
  refine i_T_make_1 X (h := ?_)
  refine i_T_make_2 X (hM := by assumption) (h := ?_)
  refine i_T_make_5 X (hM := by assumption) (hC := ct_T_asOf G hT0 (by omega) hA.1 (nI kc)) (hk := by omega) (hn := by omega) (h := fun v5 M5 hp5 => ?_)
  obtain ⟨rfl, E1, hE1, rfl⟩ := hp5
  have hT1 := TI.u9 hT0 E1
  have hx1 := hT1
  obtain ⟨hO1, tW1, tS1, tN1, tU1, tF1, tK1, tC1, tGF1, tGT1, tE1, tR1, tI1⟩ := hx1
  refine i_T_make_8 X (h := ?_)
  refine i_T_make_9 X (h := ?_)
  refine i_T_make_11 X (hC := ct_T_isin f 24) (hk := by omega) (hn := by omega) (h := fun v11 M11 hp11 => ?_)
  obtain ⟨rfl, rfl⟩ := hp11
  refine i_T_make_14 X (h1 := fun c14 => ?_) (h2 := fun c14 => ?_)
  · skip
    have f14 := bI_eq0 c14
    refine i_T_make_57 X (h := ?_)
    exact i_T_make_58 X (hk := by omega) (hn := by omega) (hp := ⟨_, _, by simp only [F_make]; rw [if_neg (fun h => f14 ((kd_fd hA).mpr h.1).1)], rfl, TS.of (hT1) hA hB ⟨rfl, rfl, hdc⟩ ⟨e, rfl, hce, by omega⟩ ⟨kc, kd, rfl, rfl, hkd, by omega⟩ hqt hwg⟩)
  · skip
    have f14 := bI_ne0 c14
    refine i_T_make_17 X (h := ?_)
    refine i_T_make_18 X (h := ?_)
    refine i_T_make_20 X (hC := ct_T_isin n 8) (hk := by omega) (hn := by omega) (h := fun v20 M20 hp20 => ?_)
    obtain ⟨rfl, rfl⟩ := hp20
    refine i_T_make_23 X (h1 := fun c23 => ?_) (h2 := fun c23 => ?_)
    · skip
      have f23 := bI_eq0 c23
      refine i_T_make_57 X (h := ?_)
      exact i_T_make_58 X (hk := by omega) (hn := by omega) (hp := ⟨_, _, by simp only [F_make]; rw [if_neg (fun h => f23 h.2)], rfl, TS.of (hT1) hA hB ⟨rfl, rfl, hdc⟩ ⟨e, rfl, hce, by omega⟩ ⟨kc, kd, rfl, rfl, hkd, by omega⟩ hqt hwg⟩)
    · skip
      have f23 := bI_ne0 c23
      refine i_T_make_26 X (h := ?_)
      refine i_T_make_27 X (h := ?_)
      refine i_T_make_28 X (hM := by assumption) (hC := ct_T_kind G hT1 (by omega) f) (hk := by omega) (hn := by omega) (h := fun v28 M28 hp28 => ?_)
      obtain ⟨rfl, rfl⟩ := hp28
      refine i_T_make_31 X (h := ?_)
      refine i_T_make_32 X (h1 := fun c32 => ?_) (h2 := fun c32 => ?_)
      · skip
        refine i_T_make_57 X (h := ?_)
        exact i_T_make_58 X (hk := by omega) (hn := by omega) (hp := ⟨_, _, by simp only [F_make]; rw [if_neg (fun h => c32 ((kd_fd hA).mpr h.1).2)], rfl, TS.of (hT1) hA hB ⟨rfl, rfl, hdc⟩ ⟨e, rfl, hce, by omega⟩ ⟨kc, kd, rfl, rfl, hkd, by omega⟩ hqt hwg⟩)
      · skip
        have g4 := (kd_fd hA).mp ⟨f14, c32⟩
        obtain ⟨f1, hf1, rfl⟩ := ix_of g4.1 (by omega)
        obtain ⟨n1, hn1, rfl⟩ := ix_of (m := 8) f23 (by decide)
        refine i_T_make_35 X (h := ?_)
        refine i_T_make_36 X (h := ?_)
        refine i_T_make_37 X (hM := by assumption) (hC := ct_T_opn G hT1 (nI f1)) (hk := by omega) (hn := by omega) (h := fun v37 M37 hp37 => ?_)
        obtain ⟨b2, rfl, hb2, rfl⟩ := hp37
        rw [hA.opn (hA.ent hE1) (show f1 < 24 by omega)] at hb2
        refine i_T_make_40 X (h1 := fun c40 => ?_) (h2 := fun c40 => ?_)
        · skip
          have f40 := fun q => bI_eq0 c40 (hb2.mpr q)
          refine i_T_make_57 X (h := ?_)
          exact i_T_make_58 X (hk := by omega) (hn := by omega) (hp := ⟨_, _, by simp only [F_make]; rw [if_pos ⟨g4, f23⟩, nI_clamp (n := f1) (by omega), nI_clamp (n := n1) (by omega), if_neg (fun h => f40 h.1)], rfl, TS.of (hT1) hA hB ⟨rfl, rfl, hdc⟩ ⟨e, rfl, hce, by omega⟩ ⟨kc, kd, rfl, rfl, hkd, by omega⟩ hqt hwg⟩)
        · skip
          have f40 := hb2.mp (bI_ne0 c40)
          refine i_T_make_43 X (h := ?_)
          refine i_T_make_44 X (hM := by assumption) (h := ?_)
          refine i_T_make_47 X (h := ?_)
          refine i_T_make_48 X (h := ?_)
          refine i_T_make_50 X (h := ?_)
          refine i_T_make_51 X (h := ?_)
          refine i_T_make_52 X (h := ?_)
          refine i_T_make_53 X G (hM := by assumption) (j := f1 * 8 + n1) (hx := pf_nI f1 n1) (hj := by omega) (h := ?_)
          have hent : E1 (f1 * 8 + n1) = nI (entT sp (nI kc) f1 n1) := ent_rep (hA.ent hE1) (hA.q0 _) (by omega)
          rw [hent]
          have hel := entT_lt sp (nI kc) f1 n1
          refine i_T_make_54 X (h1 := fun c54 => ?_) (h2 := fun c54 => ?_)
          · skip
            have f54 := (le0_iff hel).mp c54
            refine i_T_make_59 X (h := ?_)
            refine i_T_make_60 X (hM := by assumption) (hC := ct_T_nodes G hT1 (by omega)) (hk := by omega) (hn := by omega) (h := fun v60 M60 hp60 => ?_)
            obtain ⟨rfl, rfl⟩ := hp60
            rw [← hA.2.1.1]
            refine i_T_make_63 X (h := ?_)
            refine i_T_make_65 X (h := ?_)
            refine i_T_make_67 X (h := ?_)
            refine i_T_make_69 X (h1 := fun c69 => ?_) (h2 := fun c69 => ?_)
            · skip
              have f69 : ¬ m = 24 := fun q => c69 (by rw [q]; rfl)
              refine i_T_make_75 X (h := ?_)
              refine i_T_make_76 X (h := ?_)
              refine i_T_make_77 X (h := ?_)
              refine i_T_make_79 X (h := ?_)
              refine i_T_make_80 X (h := ?_)
              refine i_T_make_81 X (h := ?_)
              rw [pf_nI]
              refine i_T_make_82 X (h := ?_)
              refine i_T_make_84 X (h := ?_)
              refine i_T_make_85 X (h := ?_)
              refine i_T_make_86 X (h1 := fun c86 => ?_) (h2 := fun c86 => ?_)
              · skip
                refine i_T_make_93 X (h := ?_)
                refine i_T_make_95 X (h := ?_)
                refine i_T_make_96 X (h1 := fun c96 => ?_) (h2 := fun c96 => ?_)
                · skip
                  skip
                  refine i_T_make_103 X (h := ?_)
                  refine i_T_make_104 X (hM := by assumption) (hC := ct_T_change G hT1 (by omega) (nI (f1 * 8 + n1)) (nI m) (-1) (nI m) 2) (hk := by omega) (hn := by omega) (h := fun v104 M104 hp104 => ?_)
                  obtain ⟨rfl, hT2⟩ := hp104
                  refine i_T_make_107 X (h := ?_)
                  refine i_T_make_109 X (h := ?_)
                  refine i_T_make_110 X (h := ?_)
                  refine i_T_make_111 X (h := ?_)
                  refine i_T_make_113 X (hC := ct_T_copyCells G hT2 (src := fun _ => 0) (fr := -1) (j := c) (by omega) (Or.inl ⟨by decide, fun _ _ => rfl⟩)) (hk := by omega) (hn := by omega) (hM := hT2.1) (h := fun v113 M113 hp113 => ?_)
                  obtain ⟨rfl, C1, hT3, hc1, hc2⟩ := hp113
                  refine i_T_make_116 X (h := ?_)
                  exact i_T_make_118 X (hk := by omega) (hn := by omega) (hp := ⟨_, _, by simp only [F_make]; rw [if_pos ⟨g4, f23⟩, nI_clamp (n := f1) (by omega), nI_clamp (n := n1) (by omega), if_pos ⟨f40, f54⟩, if_neg (fun h => h.elim f69 hev)], rfl, TS.of hT3 (hA.make (b := b) (C' := C1) (by omega) hk0 (by omega) (by omega) (hA.free (by omega) hn1 f54) (Or.inl ⟨c86, rfl, rfl⟩) (fun j k hj hk => hc2 _ (by omega)) hc1 hq) (hB.ext (fun j hj => ⟨upd_lt j (by omega), upd_lt j (by omega), upd_lt j (by omega), upd_lt j (by omega), upd_lt j (by omega), upd_lt j (by omega)⟩) (fun j k hj hk => hc2 _ (by omega))) ⟨nI_1 c, rfl, by omega⟩ ⟨e + 1, nI_1 e, by omega, by omega⟩ ⟨kc, kd, rfl, rfl, hkd, by omega⟩ hqt hwg⟩)
                · skip
                  exact absurd c86 c96 --end
              · skip
                refine i_T_make_89 X (h := ?_)
                refine i_T_make_90 X (h := ?_)
                refine i_T_make_95 X (h := ?_)
                refine i_T_make_96 X (h1 := fun c96 => ?_) (h2 := fun c96 => ?_)
                · skip
                  exact absurd c96 c86 --end
                · skip
                  skip
                  refine i_T_make_99 X (h := ?_)
                  refine i_T_make_100 X (h := ?_)
                  refine i_T_make_104 X (hM := by assumption) (hC := ct_T_change G hT1 (by omega) (nI (f1 * 8 + n1)) (nI m) (-1) (-1) 1) (hk := by omega) (hn := by omega) (h := fun v104 M104 hp104 => ?_)
                  obtain ⟨rfl, hT2⟩ := hp104
                  refine i_T_make_107 X (h := ?_)
                  refine i_T_make_109 X (h := ?_)
                  refine i_T_make_110 X (h := ?_)
                  refine i_T_make_111 X (h := ?_)
                  refine i_T_make_113 X (hC := ct_T_copyCells G hT2 (src := fun _ => 0) (fr := -1) (j := c) (by omega) (Or.inl ⟨by decide, fun _ _ => rfl⟩)) (hk := by omega) (hn := by omega) (hM := hT2.1) (h := fun v113 M113 hp113 => ?_)
                  obtain ⟨rfl, C1, hT3, hc1, hc2⟩ := hp113
                  refine i_T_make_116 X (h := ?_)
                  exact i_T_make_118 X (hk := by omega) (hn := by omega) (hp := ⟨_, _, by simp only [F_make]; rw [if_pos ⟨g4, f23⟩, nI_clamp (n := f1) (by omega), nI_clamp (n := n1) (by omega), if_pos ⟨f40, f54⟩, if_neg (fun h => h.elim f69 hev)], rfl, TS.of hT3 (hA.make (b := b) (C' := C1) (by omega) hk0 (by omega) (by omega) (hA.free (by omega) hn1 f54) (Or.inr ⟨c86, rfl, rfl⟩) (fun j k hj hk => hc2 _ (by omega)) hc1 hq) (hB.ext (fun j hj => ⟨upd_lt j (by omega), upd_lt j (by omega), upd_lt j (by omega), upd_lt j (by omega), upd_lt j (by omega), upd_lt j (by omega)⟩) (fun j k hj hk => hc2 _ (by omega))) ⟨nI_1 c, rfl, by omega⟩ ⟨e + 1, nI_1 e, by omega, by omega⟩ ⟨kc, kd, rfl, rfl, hkd, by omega⟩ hqt hwg⟩)
            · skip
              have f69 : m = 24 := (nI_eq (b := 24) (by omega) (by decide)).mp c69
              refine i_T_make_72 X (h := ?_)
              exact i_T_make_74 X (hk := by omega) (hn := by omega) (hp := ⟨_, _, by simp only [F_make]; rw [if_pos ⟨g4, f23⟩, nI_clamp (n := f1) (by omega), nI_clamp (n := n1) (by omega), if_pos ⟨f40, f54⟩, if_pos (Or.inl f69)], rfl, TS.of (hT1) hA hB ⟨rfl, rfl, hdc⟩ ⟨e, rfl, hce, by omega⟩ ⟨kc, kd, rfl, rfl, hkd, by omega⟩ hqt hwg⟩)
          · skip
            have f54 : ¬ entT sp (nI kc) f1 n1 = 0 := fun q => c54 ((le0_iff hel).mpr q)
            refine i_T_make_57 X (h := ?_)
            exact i_T_make_58 X (hk := by omega) (hn := by omega) (hp := ⟨_, _, by simp only [F_make]; rw [if_pos ⟨g4, f23⟩, nI_clamp (n := f1) (by omega), nI_clamp (n := n1) (by omega), if_neg (fun h => f54 h.2)], rfl, TS.of (hT1) hA hB ⟨rfl, rfl, hdc⟩ ⟨e, rfl, hce, by omega⟩ ⟨kc, kd, rfl, rfl, hkd, by omega⟩ hqt hwg⟩)
set_option maxRecDepth 20000 in
set_option maxHeartbeats 1000000 in
theorem ct_T_write {l : Launch} {D : va_G} {tys : List (ClassId × FieldType)} {M : mM} {cI cB cN : ClassId} {t0 J : Nat} {w g ck ch dc dh ev : Int32} {m dm : Nat} {sp ds : Nat → List (Int32 × Int32)} {vs dv : Nat → List vV} (G : tys[0]? = some (cI, .int) ∧ tys[1]? = some (cB, .boolean) ∧ tys[2]? = some (cN, .object RX0)) (hS : TS M cI cB t0 J ((w, g), (ck, m, ch), (dc, dm, dh), ev, sp, vs, ds, dv)) (hJ : J < 512) (f x y : Int32) : Ct_T_write l D tys 0 0 [.ref t0, .int f, .int x, .int y] M (fun v M1 => ∃ r s1, F_write ((w, g), (ck, m, ch), (dc, dm, dh), ev, sp, vs, ds, dv) f x y = (r, s1) ∧ v = some (.int r) ∧ TS M1 cI cB t0 (J + 1) s1) := by
  refine Ct.of (cc := c_T_write) (maxL := 6) (ret := (some (.int))) (L0 := [some (.ref t0), some (.int f), some (.int x), some (.int y), none, none]) (by decide) (by intro v hv; simp only [List.mem_cons, List.not_mem_nil, or_false] at hv; rcases hv with rfl | rfl | rfl | rfl <;> first | rfl | exact mRf_cat (mRf_rf _)) (by simp) rfl ?_
  intro z ws0 hl hD ht X1 X2
  subst hl; subst hD; subst ht
  have X := And.intro X1 X2
  clear X1 X2
  obtain ⟨ad, W, S, N, U, F, K, C, Qf, Qt, E, R, c, d, gn, hT, hA, hB, hcd, hev, hck, hqt, hwg⟩ := hS
  obtain ⟨rfl, rfl, hdc⟩ := hcd
  obtain ⟨e, rfl, hce, heJ⟩ := hev
  obtain ⟨kc, kd, rfl, rfl, hkd, hkc⟩ := hck
  have hT0 := hT
  obtain ⟨hO, tW, tS, tN, tU, tF, tK, tC, tGF, tGT, tE, tR, tI⟩ := hT
  have hm := hA.2.1.2
  have hc5 : c ≤ 511 := by omega
  have hk0 : (0 : Int32) ≤ nI kc := nI_pos' (by omega)
  have hev := ev_no (e := e) (by omega)
  have hq : ∀ i, i < gn → ¬ Qt i = nI kc := (fun i hi h => absurd (hqt i hi) (by rw [h]; exact Int32.not_lt.mpr (nI_le hkd (by omega))))
  refine i_T_write_0 X (h := ?_)
  refine i_T_write_1 X (h := ?_)
  refine i_T_write_3 X (hC := ct_T_isin f 24) (hk := by omega) (hn := by omega) (h := fun v3 M3 hp3 => ?_)
  obtain ⟨rfl, rfl⟩ := hp3
  refine i_T_write_6 X (h1 := fun c6 => ?_) (h2 := fun c6 => ?_)
  · skip
    have f6 := bI_eq0 c6
    refine i_T_write_26 X (h := ?_)
    exact i_T_write_27 X (hk := by omega) (hn := by omega) (hp := ⟨_, _, by simp only [F_write]; rw [if_neg (fun h => f6 ((kd_fi hA).mpr h.1).1)], rfl, TS.of (hT0) hA hB ⟨rfl, rfl, hdc⟩ ⟨e, rfl, hce, by omega⟩ ⟨kc, kd, rfl, rfl, hkd, by omega⟩ hqt hwg⟩)
  · skip
    have f6 := bI_ne0 c6
    refine i_T_write_9 X (h := ?_)
    refine i_T_write_10 X (h := ?_)
    refine i_T_write_11 X (hC := ct_T_isin x 4) (hk := by omega) (hn := by omega) (h := fun v11 M11 hp11 => ?_)
    obtain ⟨rfl, rfl⟩ := hp11
    refine i_T_write_14 X (h1 := fun c14 => ?_) (h2 := fun c14 => ?_)
    · skip
      have f14 := bI_eq0 c14
      refine i_T_write_26 X (h := ?_)
      exact i_T_write_27 X (hk := by omega) (hn := by omega) (hp := ⟨_, _, by simp only [F_write]; rw [if_neg (fun h => f14 h.2)], rfl, TS.of (hT0) hA hB ⟨rfl, rfl, hdc⟩ ⟨e, rfl, hce, by omega⟩ ⟨kc, kd, rfl, rfl, hkd, by omega⟩ hqt hwg⟩)
    · skip
      have f14 := bI_ne0 c14
      refine i_T_write_17 X (h := ?_)
      refine i_T_write_18 X (h := ?_)
      refine i_T_write_19 X (hM := by assumption) (hC := ct_T_kind G hT0 (by omega) f) (hk := by omega) (hn := by omega) (h := fun v19 M19 hp19 => ?_)
      obtain ⟨rfl, rfl⟩ := hp19
      refine i_T_write_22 X (h := ?_)
      refine i_T_write_23 X (h1 := fun c23 => ?_) (h2 := fun c23 => ?_)
      · skip
        have g4 := (kd_fi hA).mp ⟨f6, c23⟩
        obtain ⟨f1, hf1, rfl⟩ := ix_of g4.1 (by omega)
        obtain ⟨x1, hx1, rfl⟩ := ix_of (m := 4) f14 (by decide)
        have hV := (hA.2.2.2.2.2.2.1 f1 (by omega)).1
        have hne := g4.2
        rw [nI_clamp (n := f1) (by omega)] at hne
        have hvr := hV.2.2.2.2.1 (nI kc)
        rw [vao_hd hV.2.1] at hvr
        obtain ⟨t2, y2, cs2, g2, rs2, i1, hl2, hi1, hv2, hw2, hc2⟩ := vR_ne hvr hne
        refine i_T_write_28 X (h := ?_)
        refine i_T_write_29 X (h := ?_)
        refine i_T_write_30 X (h := ?_)
        refine i_T_write_31 X (hM := by assumption) (h := ?_)
        refine i_T_write_34 X (hM := by assumption) (hC := ct_T_version G hT0 (by omega) (nI f1) (nI kc)) (hk := by omega) (hn := by omega) (h := fun v34 M34 hp34 => ?_)
        obtain ⟨rfl, rfl⟩ := hp34
        refine i_T_write_37 X (h := ?_)
        refine i_T_write_39 X (h := ?_)
        refine i_T_write_40 X (h := ?_)
        refine i_T_write_41 X (h := ?_)
        refine i_T_write_42 X (h := ?_)
        refine i_T_write_43 X (h := ?_)
        refine i_T_write_44 X (h := ?_)
        refine i_T_write_45 X (hM := by assumption) (hC := ct_T_change G hT0 (by omega) (-1) 0 (-1) (nI f1) 0) (hk := by omega) (hn := by omega) (h := fun v45 M45 hp45 => ?_)
        obtain ⟨rfl, hT1⟩ := hp45
        refine i_T_write_48 X (h := ?_)
        refine i_T_write_50 X (h := ?_)
        refine i_T_write_51 X (h := ?_)
        refine i_T_write_53 X (h := ?_)
        refine i_T_write_55 X (hC := ct_T_copyCells G hT1 (src := cs2) (fr := verL F W (nI f1) (nI kc) c) (j := c) (by omega) (Or.inr ⟨i1, by omega, by omega, hv2, fun k hk => (hc2 k hk).symm⟩)) (hk := by omega) (hn := by omega) (hM := hT1.1) (h := fun v55 M55 hp55 => ?_)
        obtain ⟨rfl, C1, hT2, hd1, hd2⟩ := hp55
        have hx2 := hT2
        obtain ⟨hO2, tW2, tS2, tN2, tU2, tF2, tK2, tC2, tGF2, tGT2, tE2, tR2, tI2⟩ := hx2
        refine i_T_write_58 X (h := ?_)
        refine i_T_write_59 X (hM := by assumption) (h := ?_)
        refine i_T_write_62 X (h := ?_)
        refine i_T_write_64 X (h := ?_)
        refine i_T_write_65 X (h := ?_)
        refine i_T_write_66 X (h := ?_)
        refine i_T_write_67 X (h := ?_)
        refine i_T_write_68 X (h := ?_)
        refine i_T_write_69 X G (hM := by assumption) (j := c * 4 + x1) (hx := cc_nI c x1) (hj := by omega) (h := ?_)
        have hT3 := TI.u6 hT2 (upd C1 (c * 4 + x1) y)
        have hA2 := hA.write (f1 := f1) (nn := 0) (cs := upd (celV (vs f1)) x1 y) (C' := upd C1 (c * 4 + x1) y) (by omega) hk0 (by omega) hne (fun j k hj hk => by rw [pk_un (by omega)]; exact hd2 _ (by omega)) (by rw [hl2]; exact upd_c4 hd1) hq
        have hnv := hA2.nv (by omega) (n := f1) (by omega)
        rw [va_up_self] at hnv
        refine i_T_write_70 X (h := ?_)
        refine i_T_write_71 X (h := ?_)
        refine i_T_write_72 X (hC := ct_T_versions G hT3 (by omega) hnv.1 hnv.2) (hk := by omega) (hn := by omega) (hM := hT3.1) (h := fun v72 M72 hp72 => ?_)
        obtain ⟨rfl, rfl⟩ := hp72
        exact i_T_write_75 X (hk := by omega) (hn := by omega) (hp := ⟨_, _, by simp only [F_write]; rw [if_pos ⟨g4, f14⟩, if_neg hev, nI_clamp (n := f1) (by omega), nI_clamp (n := x1) (by omega)], by rw [latR_len (cs := upd (celV (vs f1)) x1 y) _ hV.1 hne], TS.of hT3 (hA2) (hB.ext (fun j hj => ⟨upd_lt j (by omega), upd_lt j (by omega), upd_lt j (by omega), upd_lt j (by omega), upd_lt j (by omega), upd_lt j (by omega)⟩) (fun j k hj hk => by rw [pk_un (by omega)]; exact hd2 _ (by omega))) ⟨nI_1 c, rfl, by omega⟩ ⟨e + 1, nI_1 e, by omega, by omega⟩ ⟨kc, kd, rfl, rfl, hkd, by omega⟩ hqt hwg⟩)
      · skip
        refine i_T_write_26 X (h := ?_)
        exact i_T_write_27 X (hk := by omega) (hn := by omega) (hp := ⟨_, _, by simp only [F_write]; rw [if_neg (fun h => c23 ((kd_fi hA).mpr h.1).2)], rfl, TS.of (hT0) hA hB ⟨rfl, rfl, hdc⟩ ⟨e, rfl, hce, by omega⟩ ⟨kc, kd, rfl, rfl, hkd, by omega⟩ hqt hwg⟩)
set_option maxRecDepth 20000 in
set_option maxHeartbeats 1000000 in
theorem ct_T_turnBack {l : Launch} {D : va_G} {tys : List (ClassId × FieldType)} {M : mM} {cI cB cN : ClassId} {t0 J : Nat} {w g ck ch dc dh ev : Int32} {m dm : Nat} {sp ds : Nat → List (Int32 × Int32)} {vs dv : Nat → List vV} (G : tys[0]? = some (cI, .int) ∧ tys[1]? = some (cB, .boolean) ∧ tys[2]? = some (cN, .object RX0)) (hS : TS M cI cB t0 J ((w, g), (ck, m, ch), (dc, dm, dh), ev, sp, vs, ds, dv)) (hJ : J < 512) (f t : Int32) : Ct_T_turnBack l D tys 0 0 [.ref t0, .int f, .int t] M (fun v M1 => ∃ r s1, F_turnBack ((w, g), (ck, m, ch), (dc, dm, dh), ev, sp, vs, ds, dv) f t = (r, s1) ∧ v = some (.int r) ∧ TS M1 cI cB t0 (J + 1) s1) := by
  refine Ct.of (cc := c_T_turnBack) (maxL := 5) (ret := (some (.int))) (L0 := [some (.ref t0), some (.int f), some (.int t), none, none]) (by decide) (by intro v hv; simp only [List.mem_cons, List.not_mem_nil, or_false] at hv; rcases hv with rfl | rfl | rfl <;> first | rfl | exact mRf_cat (mRf_rf _)) (by simp) rfl ?_
  intro z ws0 hl hD ht X1 X2
  subst hl; subst hD; subst ht
  have X := And.intro X1 X2
  clear X1 X2
  obtain ⟨ad, W, S, N, U, F, K, C, Qf, Qt, E, R, c, d, gn, hT, hA, hB, hcd, hev, hck, hqt, hwg⟩ := hS
  obtain ⟨rfl, rfl, hdc⟩ := hcd
  obtain ⟨e, rfl, hce, heJ⟩ := hev
  obtain ⟨kc, kd, rfl, rfl, hkd, hkc⟩ := hck
  have hT0 := hT
  obtain ⟨hO, tW, tS, tN, tU, tF, tK, tC, tGF, tGT, tE, tR, tI⟩ := hT
  have hm := hA.2.1.2
  have hc5 : c ≤ 511 := by omega
  have hk0 : (0 : Int32) ≤ nI kc := nI_pos' (by omega)
  have hev := ev_no (e := e) (by omega)
  have hq : ∀ i, i < gn → ¬ Qt i = nI kc := (fun i hi h => absurd (hqt i hi) (by rw [h]; exact Int32.not_lt.mpr (nI_le hkd (by omega))))
  refine i_T_turnBack_0 X (h := ?_)
  refine i_T_turnBack_1 X (h := ?_)
  refine i_T_turnBack_3 X (hC := ct_T_isin f 24) (hk := by omega) (hn := by omega) (h := fun v3 M3 hp3 => ?_)
  obtain ⟨rfl, rfl⟩ := hp3
  refine i_T_turnBack_6 X (h1 := fun c6 => ?_) (h2 := fun c6 => ?_)
  · skip
    have f6 := bI_eq0 c6
    refine i_T_turnBack_22 X (h := ?_)
    exact i_T_turnBack_23 X (hk := by omega) (hn := by omega) (hp := ⟨_, _, by simp only [F_turnBack]; rw [if_neg (fun h => f6 ((kd_fi hA).mpr h.1).1)], rfl, TS.of (hT0) hA hB ⟨rfl, rfl, hdc⟩ ⟨e, rfl, hce, by omega⟩ ⟨kc, kd, rfl, rfl, hkd, by omega⟩ hqt hwg⟩)
  · skip
    have f6 := bI_ne0 c6
    refine i_T_turnBack_9 X (h := ?_)
    refine i_T_turnBack_10 X (h1 := fun c10 => ?_) (h2 := fun c10 => ?_)
    · skip
      refine i_T_turnBack_22 X (h := ?_)
      exact i_T_turnBack_23 X (hk := by omega) (hn := by omega) (hp := ⟨_, _, by simp only [F_turnBack]; rw [if_neg (fun h => h.2 c10)], rfl, TS.of (hT0) hA hB ⟨rfl, rfl, hdc⟩ ⟨e, rfl, hce, by omega⟩ ⟨kc, kd, rfl, rfl, hkd, by omega⟩ hqt hwg⟩)
    · skip
      refine i_T_turnBack_13 X (h := ?_)
      refine i_T_turnBack_14 X (h := ?_)
      refine i_T_turnBack_15 X (hM := by assumption) (hC := ct_T_kind G hT0 (by omega) f) (hk := by omega) (hn := by omega) (h := fun v15 M15 hp15 => ?_)
      obtain ⟨rfl, rfl⟩ := hp15
      refine i_T_turnBack_18 X (h := ?_)
      refine i_T_turnBack_19 X (h1 := fun c19 => ?_) (h2 := fun c19 => ?_)
      · skip
        have g4 := (kd_fi hA).mp ⟨f6, c19⟩
        obtain ⟨f1, hf1, rfl⟩ := ix_of g4.1 (by omega)
        have hV := (hA.2.2.2.2.2.2.1 f1 (by omega)).1
        have hne := g4.2
        rw [nI_clamp (n := f1) (by omega)] at hne
        refine i_T_turnBack_24 X (h := ?_)
        refine i_T_turnBack_25 X (h := ?_)
        refine i_T_turnBack_26 X (h := ?_)
        refine i_T_turnBack_27 X (hM := by assumption) (hC := ct_T_version G hT0 (by omega) (nI f1) t) (hk := by omega) (hn := by omega) (h := fun v27 M27 hp27 => ?_)
        obtain ⟨rfl, rfl⟩ := hp27
        refine i_T_turnBack_30 X (h := ?_)
        refine i_T_turnBack_31 X (h := ?_)
        refine i_T_turnBack_32 X (h1 := fun c32 => ?_) (h2 := fun c32 => ?_)
        · skip
          have hv := vR_neg (by omega) (hV.2.2.2.2.1 t) (Int32.not_le.mpr c32)
          refine i_T_turnBack_49 X (h := ?_)
          exact i_T_turnBack_50 X (hk := by omega) (hn := by omega) (hp := ⟨-1, _, by simp only [F_turnBack]; rw [if_pos ⟨g4, c10⟩, nI_clamp (n := f1) (by omega), hv.1]; rfl, rfl, TS.of (hT0) hA hB ⟨rfl, rfl, hdc⟩ ⟨e, rfl, hce, by omega⟩ ⟨kc, kd, rfl, rfl, hkd, by omega⟩ hqt hwg⟩)
        · skip
          obtain ⟨t2, y2, cs2, g2, rs2, i1, hl2, hi1, hv2, hw2, hc2⟩ := vR_pos (hV.2.2.2.2.1 t) (Int32.not_lt.mp c32)
          have hg2 := hV.2.2.2.2.2 _ (vao_mem hl2)
          refine i_T_turnBack_35 X (h := ?_)
          refine i_T_turnBack_36 X (h := ?_)
          refine i_T_turnBack_37 X (h := ?_)
          refine i_T_turnBack_38 X (hM := by assumption) (h := ?_)
          refine i_T_turnBack_41 X (h := ?_)
          refine i_T_turnBack_42 X G (hM := by assumption) (j := i1) (hx := hv2) (hj := by omega) (h := ?_)
          refine i_T_turnBack_43 X (hM := by assumption) (hC := ct_T_isGone G hT0 (Nat.le_trans hA.gn (by omega)) (nI f1) (W i1)) (hk := by omega) (hn := by omega) (h := fun v43 M43 hp43 => ?_)
          obtain ⟨b1, rfl, hb1, rfl⟩ := hp43
          refine i_T_turnBack_46 X (h1 := fun c46 => ?_) (h2 := fun c46 => ?_)
          · skip
            have f46 := bI_eq0 c46
            have f64 : g2 = 0 := by
              by_cases q : g2 = 0
              · exact q
              · exact absurd (hb1.mpr (by rw [hw2]; exact hg2.2.mp q)) f46
            refine i_T_turnBack_51 X (h := ?_)
            refine i_T_turnBack_52 X (h := ?_)
            refine i_T_turnBack_53 X (h := ?_)
            refine i_T_turnBack_54 X (h := ?_)
            refine i_T_turnBack_55 X (h := ?_)
            refine i_T_turnBack_56 X (h := ?_)
            refine i_T_turnBack_57 X (hM := by assumption) (hC := ct_T_change G hT0 (by omega) (-1) 0 (-1) (nI f1) 0) (hk := by omega) (hn := by omega) (h := fun v57 M57 hp57 => ?_)
            obtain ⟨rfl, hT1⟩ := hp57
            refine i_T_turnBack_60 X (h := ?_)
            refine i_T_turnBack_62 X (h := ?_)
            refine i_T_turnBack_63 X (h := ?_)
            refine i_T_turnBack_64 X (h := ?_)
            refine i_T_turnBack_66 X (hC := ct_T_copyCells G hT1 (src := cs2) (fr := verL F W (nI f1) t c) (j := c) (by omega) (Or.inr ⟨i1, by omega, by omega, hv2, fun k hk => (hc2 k hk).symm⟩)) (hk := by omega) (hn := by omega) (hM := hT1.1) (h := fun v66 M66 hp66 => ?_)
            obtain ⟨rfl, C1, hT2, hd1, hd2⟩ := hp66
            have hA2 := hA.write (f1 := f1) (nn := 0) (cs := cs2) (C' := C1) (by omega) hk0 (by omega) hne (fun j k hj hk => hd2 _ (by omega)) hd1 hq
            have hnv := hA2.nv (by omega) (n := f1) (by omega)
            rw [va_up_self] at hnv
            refine i_T_turnBack_69 X (h := ?_)
            refine i_T_turnBack_70 X (h := ?_)
            refine i_T_turnBack_71 X (hC := ct_T_versions G hT2 (by omega) hnv.1 hnv.2) (hk := by omega) (hn := by omega) (hM := hT2.1) (h := fun v71 M71 hp71 => ?_)
            obtain ⟨rfl, rfl⟩ := hp71
            exact i_T_turnBack_74 X (hk := by omega) (hn := by omega) (hp := ⟨latR (nI kc) (vs f1), _, by simp only [F_turnBack]; rw [if_pos ⟨g4, c10⟩, nI_clamp (n := f1) (by omega), hl2]; simp only [tbF]; rw [if_neg (fun h => h f64), if_neg hev], by rw [latR_len (cs := cs2) _ hV.1 hne], TS.of hT2 (hA2) (hB.ext (fun j hj => ⟨upd_lt j (by omega), upd_lt j (by omega), upd_lt j (by omega), upd_lt j (by omega), upd_lt j (by omega), upd_lt j (by omega)⟩) (fun j k hj hk => hd2 _ (by omega))) ⟨nI_1 c, rfl, by omega⟩ ⟨e + 1, nI_1 e, by omega, by omega⟩ ⟨kc, kd, rfl, rfl, hkd, by omega⟩ hqt hwg⟩)
          · skip
            have f46 := bI_ne0 c46
            have f64 : ¬ g2 = 0 := hg2.2.mpr (by rw [← hw2]; exact hb1.mp f46)
            refine i_T_turnBack_49 X (h := ?_)
            exact i_T_turnBack_50 X (hk := by omega) (hn := by omega) (hp := ⟨-1, _, by simp only [F_turnBack]; rw [if_pos ⟨g4, c10⟩, nI_clamp (n := f1) (by omega), hl2]; simp only [tbF]; rw [if_pos f64], rfl, TS.of (hT0) hA hB ⟨rfl, rfl, hdc⟩ ⟨e, rfl, hce, by omega⟩ ⟨kc, kd, rfl, rfl, hkd, by omega⟩ hqt hwg⟩)
      · skip
        refine i_T_turnBack_22 X (h := ?_)
        exact i_T_turnBack_23 X (hk := by omega) (hn := by omega) (hp := ⟨_, _, by simp only [F_turnBack]; rw [if_neg (fun h => c19 ((kd_fi hA).mpr h.1).2)], rfl, TS.of (hT0) hA hB ⟨rfl, rfl, hdc⟩ ⟨e, rfl, hce, by omega⟩ ⟨kc, kd, rfl, rfl, hkd, by omega⟩ hqt hwg⟩)
