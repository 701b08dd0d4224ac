theorem clm_neg {x : Int32} (h : ¬ 0 ≤ x) : clmV x = 0 := by
  have h1 : x < 0 := Int32.not_le.mp h
  have h2 : x < 1000 := Int32.lt_trans h1 (by decide)
  unfold clmV
  rw [if_pos h2, if_neg (fun q => h (Int32.le_of_lt q))]
theorem clm_big {x : Int32} (h : ¬ x ≤ 1000) : clmV x = 1000 := by
  have h1 : ¬ x < 1000 := fun q => h (Int32.le_of_lt q)
  unfold clmV
  rw [if_neg h1, if_pos (by decide)]
theorem clm_mid {x : Int32} (h0 : 0 ≤ x) (h : x ≤ 1000) : clmV x = x := by
  unfold clmV
  by_cases h1 : x < 1000
  · rw [if_pos h1]
    by_cases h2 : 0 < x
    · rw [if_pos h2]
    · rw [if_neg h2]
      exact Int32.le_antisymm h0 (Int32.not_lt.mp h2)
  · rw [if_neg h1, if_pos (by decide)]
    exact Int32.le_antisymm (Int32.not_lt.mp h1) h
theorem clm_rng (x : Int32) : 0 ≤ clmV x ∧ clmV x ≤ 1000 := by
  by_cases h0 : 0 ≤ x
  · by_cases h : x ≤ 1000
    · rw [clm_mid h0 h]
      exact ⟨h0, h⟩
    · rw [clm_big h]
      decide
  · rw [clm_neg h0]
    decide
theorem RA_0 : ∀ (W S N U F K C Qf Qt : Nat → Int32), RA W S N U F K C Qf Qt 0 0 0 1 (fun _ => []) (fun _ => []) := fun W S N U F K C Qf Qt =>
  ⟨fun i hi => absurd hi (by omega), ⟨rfl, by decide⟩, (fun n h0 hn => by rw [if_neg (by omega)]; rfl), fun t e he => ⟨⟨0, by decide, rfl⟩, fun n h0 hn => ⟨fun h => absurd h.symm (nI_ne0 h0 (by omega)), fun h => absurd h.symm (nI_m1 (by omega))⟩⟩, ⟨rfl, rfl, fun n _ _ => ⟨rfl, rfl⟩⟩, ⟨(fun i _ e he => by cases he), (fun n _ e he => by cases he)⟩, fun n hn => ⟨⟨trivial, trivial, rfl, fun k => rfl, fun t => rfl, (fun e he => by cases he)⟩, trivial⟩, fun j hj => absurd hj (by omega), by decide, by decide⟩
/-- the versions of index below v -/
theorem drop_ix {ck : Int32} : ∀ {l : List vV} {v : Nat}, idxO l → v < l.length → l.length < 2 ^ 31 → ∃ e, l.drop (l.length - 1 - v) = e :: l.drop (l.length - v) ∧ vti l (nI v) = e.1
  | [], _, _, h, _ => absurd h (by simp)
  | (t, x, cs, g) :: l, v, hi, hv, hl => by
    have hl' : l.length + 1 < 2 ^ 31 := by simpa using hl
    have hv' : v < l.length + 1 := by simpa using hv
    rw [List.length_cons]
    by_cases hq : v = l.length
    · subst hq
      refine ⟨(t, x, cs, g), ?_, ?_⟩
      · rw [show l.length + 1 - 1 - l.length = 0 by omega, show l.length + 1 - l.length = 1 by omega]
        rfl
      · unfold vti
        rw [if_pos hi.1]
    · obtain ⟨e, h1, h2⟩ := drop_ix (ck := ck) hi.2 (show v < l.length by omega) (by omega)
      refine ⟨e, ?_, ?_⟩
      · rw [show l.length + 1 - 1 - v = (l.length - 1 - v) + 1 by omega, show l.length + 1 - v = (l.length - v) + 1 by omega, List.drop_succ_cons, List.drop_succ_cons]
        exact h1
      · unfold vti
        rw [if_neg (fun q => hq (by rw [hi.1] at q; exact ((nI_eq (by omega) (by omega)).mp q).symm))]
        exact h2
theorem xo {x : Int32} (h : ¬ (0 ≤ x ∧ x < 24)) : x < 0 ∨ 24 ≤ x := by
  by_cases q : x < 0
  · exact Or.inl q
  · exact Or.inr (Int32.not_lt.mp (fun h2 => h ⟨Int32.not_lt.mp q, h2⟩))
theorem y5 {y : Int32} (h : 0 ≤ y ∧ y < 5) (h0 : ¬ y = 0) (h1 : ¬ y = 1) (h2 : ¬ y = 2) (h4 : ¬ y = 4) : y = 3 := by
  obtain ⟨j, hj, rfl⟩ := ix_of (m := 5) h (by decide)
  have e0 : j ≠ 0 := fun e => h0 (by rw [e]; rfl)
  have e1 : j ≠ 1 := fun e => h1 (by rw [e]; rfl)
  have e2 : j ≠ 2 := fun e => h2 (by rw [e]; rfl)
  have e4 : j ≠ 4 := fun e => h4 (by rw [e]; rfl)
  rw [show j = 3 by omega]
  rfl
theorem nodV_2 {ck y : Int32} {l : List vV} (hi : idxO l) (hl : l.isEmpty = false) (hy : y = 2) : nodV ck y l = nI l.length := by
  cases l with
  | nil => cases hl
  | cons q l =>
    obtain ⟨t, x, cs, g⟩ := q
    simp only [nodV]
    rw [if_pos hy, hi.1, nI_1]
    rfl
theorem nodV_3 {ck y : Int32} {l : List vV} (hl : l.isEmpty = false) (hy : y = 3) : nodV ck y l = nI (cgn l) := by
  cases l with
  | nil => cases hl
  | cons q l =>
    obtain ⟨t, x, cs, g⟩ := q
    simp only [nodV]
    rw [if_neg (by rw [hy]; decide), if_pos hy]
theorem nodV_4 {ck y : Int32} {l : List vV} (hi : idxO l) (hl : l.isEmpty = false) (hy : y = 4) (hn : l.length < 600) : nodV ck y l = vti l (nI l.length - 1) := by
  cases l with
  | nil => cases hl
  | cons q l =>
    obtain ⟨t, x, cs, g⟩ := q
    have hn' : l.length + 1 < 600 := by simpa using hn
    simp only [nodV, vti, List.length_cons]
    rw [if_neg (by rw [hy]; decide), if_neg (by rw [hy]; decide), if_pos hy, nI_pred, if_pos hi.1]
theorem nodV_o {ck y : Int32} {m : Nat} {vs : Nat → List vV} {x : Int32} (h : ¬ (0 ≤ y ∧ y < 5)) : (if fil m vs x then nodV ck y (vs x.toNatClampNeg) else -1) = -1 := by
  split
  · cases hl : vs x.toNatClampNeg with
    | nil => rfl
    | cons q l =>
      obtain ⟨t, x1, cs, g⟩ := q
      simp only [nodV]
      rw [if_neg (fun q => h (by rw [q]; decide)), if_neg (fun q => h (by rw [q]; decide)), if_neg (fun q => h (by rw [q]; decide))]
  · rfl
theorem kd_v {W S N U F K C Qf Qt : Nat → Int32} {gn c : Nat} {ck : Int32} {m : Nat} {sp : Nat → List (Int32 × Int32)} {vs : Nat → List vV} (h : RA W S N U F K C Qf Qt gn c ck m sp vs) {n1 : Nat} (hn : n1 < 24) : (if nI n1 = 0 then 1 else kdL K N (nI n1) c 0) = if 0 ≤ nI n1 ∧ nI n1 < nI m then (if (vs n1).isEmpty = true then 1 else 2) else 0 := by
  have hm := h.2.1.2
  have hm1 := h.m1
  by_cases h0 : n1 = 0
  · subst h0
    rw [if_pos (show nI 0 = 0 from rfl), if_pos ⟨by decide, nI_lt (by omega) (by omega)⟩, h.2.2.2.2.1.2.1]
    rfl
  · rw [if_neg (nI_ne0 (by omega) (by omega)), h.2.2.1 n1 (by omega) hn]
    by_cases h1 : n1 < m
    · rw [if_pos h1, if_pos (c := 0 ≤ nI n1 ∧ nI n1 < nI m) ⟨nI_pos' (by omega), nI_lt h1 (by omega)⟩]
    · rw [if_neg h1, if_neg (c := 0 ≤ nI n1 ∧ nI n1 < nI m) (fun q => h1 ((nI_ltI (by omega) (by omega)).mp q.2))]
set_option maxRecDepth 20000 in
set_option maxHeartbeats 2000000 in
theorem lp_T_node {z : zT} {ws0 : va_W} {mc ms : Nat} {M : mM} {cI cB cN : ClassId} {t0 : Nat} {ad : Nat → Nat} {W S N U F K C Qf Qt E R : Nat → Int32} {w g ck dk : Int32} {c d gn : Nat} (G : GT z cI cB cN) (hT : TI M cI cB t0 ad W S N U F K C Qf Qt E R w g ck dk c d gn) (hc : c ≤ 512) (hg : gn ≤ 512) {n1 : Nat} {kq : Int32} {ll : List vV} (hl : ll.length ≤ 512) (hV : VN F W C Qf Qt gn c kq n1 ll) {l2 l3 : Option Value} {Post : Option Value → mM → Prop} (hPost : Post (some (.int (nI (cgn ll)))) M) (X : B_T_node z ws0 mc ms Post) : ∀ (n j : Nat), j + n = ll.length → RN z 101 [some (.ref t0), some (.int (nI n1)), l2, l3, some (.int (nI ll.length)), some (.int (nI (cgn (ll.drop (ll.length - j))))), some (.int (nI j))] [] M 0 0 := by
  have hT0 := hT
  obtain ⟨hO, tW, tS, tN, tU, tF, tK, tC, tGF, tGT, tE, tR, tI⟩ := hT
  intro n
  induction n with
  | zero =>
    intro j hj
    have hj : j = ll.length := by omega
    subst hj
    refine i_T_node_101 X (h := ?_)
    refine i_T_node_103 X (h := ?_)
    refine i_T_node_105 X (h1 := fun c105 => ?_) (h2 := fun c105 => ?_)
    · skip
      refine i_T_node_132 X (h := ?_)
      exact i_T_node_134 X (hk := by omega) (hn := by omega) (hp := by rw [show ll.drop (ll.length - ll.length) = ll from by rw [Nat.sub_self]; rfl]; exact hPost)
    · skip
      exact absurd (nI_le (Nat.le_refl _) (by omega)) c105 --end
  | succ n ih =>
    intro j hj
    obtain ⟨eq, he1, he2⟩ := drop_ix (ck := kq) (v := j) hV.1 (by omega) (by omega)
    have hmem : eq ∈ ll := List.mem_of_mem_drop (by rw [he1]; exact List.mem_cons_self)
    have hge := hV.2.2.2.2.2 eq hmem
    obtain ⟨tq, xq, cq, gq⟩ := eq
    refine i_T_node_101 X (h := ?_)
    refine i_T_node_103 X (h := ?_)
    refine i_T_node_105 X (h1 := fun c105 => ?_) (h2 := fun c105 => ?_)
    · skip
      exact absurd c105 (nI_ge (a := j) (b := ll.length) (by omega) (by omega)) --end
    · skip
      refine i_T_node_108 X (h := ?_)
      refine i_T_node_109 X (h := ?_)
      refine i_T_node_110 X (h := ?_)
      refine i_T_node_111 X (h := ?_)
      refine i_T_node_112 X (h := ?_)
      refine i_T_node_114 X (hM := by assumption) (hC := ct_T_timeOf G hT0 hc (nI n1) (nI j)) (hk := by omega) (hn := by omega) (h := fun v114 M114 hp114 => ?_)
      obtain ⟨rfl, rfl⟩ := hp114
      rw [hV.2.2.2.1, he2]
      refine i_T_node_117 X (hM := by assumption) (hC := ct_T_isGone G hT0 hg (nI n1) tq) (hk := by omega) (hn := by omega) (h := fun v117 M117 hp117 => ?_)
      obtain ⟨b1, rfl, hb1, rfl⟩ := hp117
      refine i_T_node_120 X (h1 := fun c120 => ?_) (h2 := fun c120 => ?_)
      · skip
        have f120 : gq = 0 := by
          by_cases q : gq = 0
          · exact q
          · exact absurd (hb1.mpr (hge.2.mp q)) (bI_eq0 c120)
        refine i_T_node_126 X (h := ?_)
        refine i_T_node_129 X (h := ?_)
        rw [nI_1]
        rw [show cgn (ll.drop (ll.length - j)) = cgn (ll.drop (ll.length - (j + 1))) from by rw [show ll.length - (j + 1) = ll.length - 1 - j by omega, he1]; simp only [cgn]; rw [if_pos f120]; omega]
        exact ih (j + 1) (by omega)
      · skip
        have f120 : ¬ gq = 0 := hge.2.mpr (hb1.mp (bI_ne0 c120))
        refine i_T_node_123 X (h := ?_)
        refine i_T_node_126 X (h := ?_)
        refine i_T_node_129 X (h := ?_)
        rw [nI_1, nI_1]
        rw [show cgn (ll.drop (ll.length - j)) + 1 = cgn (ll.drop (ll.length - (j + 1))) from by rw [show ll.length - (j + 1) = ll.length - 1 - j by omega, he1]; simp only [cgn]; rw [if_neg f120]; omega]
        exact ih (j + 1) (by omega)
set_option maxRecDepth 20000 in
set_option maxHeartbeats 1000000 in
theorem ct_T_node {l : Launch} {D : va_G} {tys : List (ClassId × FieldType)} {M : mM} {cI cB cN : ClassId} {t0 J : Nat} {w g ck ch dc dh ev : Int32} {m dm : Nat} {sp ds : Nat → List (Int32 × Int32)} {vs dv : Nat → List vV} (G : tys[0]? = some (cI, .int) ∧ tys[1]? = some (cB, .boolean) ∧ tys[2]? = some (cN, .object RX0)) (hS : TS M cI cB t0 J ((w, g), (ck, m, ch), (dc, dm, dh), ev, sp, vs, ds, dv)) (hJ : J < 512) (x y : Int32) : Ct_T_node l D tys 0 0 [.ref t0, .int x, .int y] M (fun v M1 => ∃ r s1, F_node ((w, g), (ck, m, ch), (dc, dm, dh), ev, sp, vs, ds, dv) x y = (r, s1) ∧ v = some (.int r) ∧ TS M1 cI cB t0 (J + 1) s1) := by
  refine Ct.of (cc := c_T_node) (maxL := 7) (ret := (some (.int))) (L0 := [some (.ref t0), some (.int x), some (.int y), none, none, none, none]) (by decide) (by intro v hv; simp only [List.mem_cons, List.not_mem_nil, or_false] at hv; rcases hv with rfl | rfl | rfl <;> first | rfl | exact mRf_cat (mRf_rf _)) (by simp) rfl ?_
  intro z ws0 hl hD ht X1 X2
  subst hl; subst hD; subst ht
  have X := And.intro X1 X2
  clear X1 X2
  obtain ⟨ad, W, S, N, U, F, K, C, Qf, Qt, E, R, c, d, gn, hT, hA, hB, hcd, hev, hck, hqt, hwg⟩ := hS
  obtain ⟨rfl, rfl, hdc⟩ := hcd
  obtain ⟨e, rfl, hce, heJ⟩ := hev
  obtain ⟨kc, kd, rfl, rfl, hkd, hkc⟩ := hck
  have hT0 := hT
  obtain ⟨hO, tW, tS, tN, tU, tF, tK, tC, tGF, tGT, tE, tR, tI⟩ := hT
  have hm := hA.2.1.2
  have hc5 : c ≤ 512 := by omega
  refine i_T_node_0 X (h := ?_)
  refine i_T_node_1 X (h := ?_)
  refine i_T_node_3 X (hC := ct_T_isin x 24) (hk := by omega) (hn := by omega) (h := fun v3 M3 hp3 => ?_)
  obtain ⟨rfl, rfl⟩ := hp3
  refine i_T_node_6 X (h1 := fun c6 => ?_) (h2 := fun c6 => ?_)
  · skip
    have f6 := bI_eq0 c6
    refine i_T_node_17 X (h := ?_)
    exact i_T_node_18 X (hk := by omega) (hn := by omega) (hp := ⟨_, _, by simp only [F_node]; rw [if_pos (xo f6)], rfl, TS.of (hT0) hA hB ⟨rfl, rfl, hdc⟩ ⟨e, rfl, hce, by omega⟩ ⟨kc, kd, rfl, rfl, hkd, by omega⟩ hqt hwg⟩)
  · skip
    have f6 := bI_ne0 c6
    refine i_T_node_9 X (h := ?_)
    refine i_T_node_10 X (h := ?_)
    refine i_T_node_11 X (hC := ct_T_isin y 5) (hk := by omega) (hn := by omega) (h := fun v11 M11 hp11 => ?_)
    obtain ⟨rfl, rfl⟩ := hp11
    refine i_T_node_14 X (h1 := fun c14 => ?_) (h2 := fun c14 => ?_)
    · skip
      have f14 := bI_ne0 c14
      obtain ⟨n1, hn1, rfl⟩ := ix_of (m := 24) f6 (by decide)
      have hcl := nI_clamp (n := n1) (by omega)
      refine i_T_node_19 X (h := ?_)
      refine i_T_node_20 X (h := ?_)
      refine i_T_node_21 X (hM := by assumption) (hC := ct_T_kind G hT0 hc5 (nI n1)) (hk := by omega) (hn := by omega) (h := fun v21 M21 hp21 => ?_)
      obtain ⟨rfl, rfl⟩ := hp21
      refine i_T_node_24 X (h := ?_)
      refine i_T_node_25 X (h := ?_)
      refine i_T_node_26 X (h1 := fun c26 => ?_) (h2 := fun c26 => ?_)
      · skip
        refine i_T_node_31 X (h := ?_)
        refine i_T_node_32 X (h := ?_)
        refine i_T_node_33 X (hM := by assumption) (h := ?_)
        refine i_T_node_36 X (hM := by assumption) (hC := ct_T_asOf G hT0 hc5 hA.1 (nI kc)) (hk := by omega) (hn := by omega) (h := fun v36 M36 hp36 => ?_)
        obtain ⟨rfl, E1, hE1, rfl⟩ := hp36
        have hT1 := TI.u9 hT0 E1
        have hx1 := hT1
        obtain ⟨hO1, tW1, tS1, tN1, tU1, tF1, tK1, tC1, tGF1, tGT1, tE1, tR1, tI1⟩ := hx1
        refine i_T_node_39 X (h := ?_)
        refine i_T_node_40 X (h := ?_)
        refine i_T_node_41 X (h1 := fun c41 => ?_) (h2 := fun c41 => ?_)
        · skip
          refine i_T_node_58 X (h := ?_)
          refine i_T_node_59 X (h := ?_)
          refine i_T_node_60 X (h1 := fun c60 => ?_) (h2 := fun c60 => ?_)
          · skip
            have g4 := (kd_fi hA).mp ⟨f6, c60⟩
            have hV := (hA.2.2.2.2.2.2.1 n1 hn1).1
            have hnv := hA.nv (by omega) hn1
            have hlen := hA.len hn1
            have hne := g4.2
            rw [hcl] at hne
            refine i_T_node_65 X (h := ?_)
            refine i_T_node_66 X (h := ?_)
            refine i_T_node_67 X (hM := by assumption) (hC := ct_T_versions G hT1 hc5 hnv.1 hnv.2) (hk := by omega) (hn := by omega) (h := fun v67 M67 hp67 => ?_)
            obtain ⟨rfl, rfl⟩ := hp67
            refine i_T_node_70 X (h := ?_)
            refine i_T_node_72 X (h := ?_)
            refine i_T_node_73 X (h := ?_)
            refine i_T_node_74 X (h1 := fun c74 => ?_) (h2 := fun c74 => ?_)
            · skip
              refine i_T_node_80 X (h := ?_)
              refine i_T_node_81 X (h := ?_)
              refine i_T_node_82 X (h1 := fun c82 => ?_) (h2 := fun c82 => ?_)
              · skip
                refine i_T_node_95 X (h := ?_)
                refine i_T_node_96 X (h := ?_)
                refine i_T_node_98 X (h := ?_)
                refine i_T_node_99 X (h := ?_)
                have hFv : F_node ((w, g), (nI kc, m, nI c), (nI kd, dm, nI d), nI e, sp, vs, ds, dv) (nI n1) y = (nI (cgn (vs n1)), ((w, g), (nI kc, m, nI c), (nI kd, dm, nI d), nI e, sp, vs, ds, dv)) := by
                  simp only [F_node]
                  rw [if_neg (fun h => h.elim (fun q => absurd q (Int32.not_lt.mpr f6.1)) (fun q => absurd f6.2 (Int32.not_lt.mpr q))), if_neg c26, if_neg c41, if_pos g4, hcl, nodV_3 hne (y5 f14 c26 c41 c74 c82)]
                have hlp := lp_T_node (l2 := some (.int y)) (l3 := some (.int (if nI n1 = 0 then 1 else kdL K N (nI n1) c 0))) G hT1 hc5 (Nat.le_trans hA.gn hc5) (n1 := n1) (ll := vs n1) (by omega) hV ⟨nI (cgn (vs n1)), _, hFv, rfl, TS.of (hT1) hA hB ⟨rfl, rfl, hdc⟩ ⟨e, rfl, hce, by omega⟩ ⟨kc, kd, rfl, rfl, hkd, by omega⟩ hqt hwg⟩ X (vs n1).length 0 (by omega)
                rw [show cgn ((vs n1).drop ((vs n1).length - 0)) = 0 from by rw [Nat.sub_zero, List.drop_length]; rfl] at hlp
                exact hlp
              · skip
                refine i_T_node_85 X (h := ?_)
                refine i_T_node_86 X (h := ?_)
                refine i_T_node_87 X (h := ?_)
                refine i_T_node_89 X (h := ?_)
                refine i_T_node_90 X (h := ?_)
                refine i_T_node_91 X (hM := by assumption) (hC := ct_T_timeOf G hT1 hc5 (nI n1) (nI (vs n1).length - 1)) (hk := by omega) (hn := by omega) (h := fun v91 M91 hp91 => ?_)
                obtain ⟨rfl, rfl⟩ := hp91
                exact i_T_node_94 X (hk := by omega) (hn := by omega) (hp := ⟨_, _, by simp only [F_node]; rw [if_neg (fun h => h.elim (fun q => absurd q (Int32.not_lt.mpr f6.1)) (fun q => absurd f6.2 (Int32.not_lt.mpr q))), if_neg c26, if_neg c41, if_pos g4, hcl, nodV_4 hV.1 hne c82 (by omega)], by rw [hV.2.2.2.1], TS.of (hT1) hA hB ⟨rfl, rfl, hdc⟩ ⟨e, rfl, hce, by omega⟩ ⟨kc, kd, rfl, rfl, hkd, by omega⟩ hqt hwg⟩)
            · skip
              refine i_T_node_77 X (h := ?_)
              exact i_T_node_79 X (hk := by omega) (hn := by omega) (hp := ⟨nI (vs n1).length, _, by simp only [F_node]; rw [if_neg (fun h => h.elim (fun q => absurd q (Int32.not_lt.mpr f6.1)) (fun q => absurd f6.2 (Int32.not_lt.mpr q))), if_neg c26, if_neg c41, if_pos g4, hcl, nodV_2 hV.1 hne c74], rfl, TS.of (hT1) hA hB ⟨rfl, rfl, hdc⟩ ⟨e, rfl, hce, by omega⟩ ⟨kc, kd, rfl, rfl, hkd, by omega⟩ hqt hwg⟩)
          · skip
            refine i_T_node_63 X (h := ?_)
            exact i_T_node_64 X (hk := by omega) (hn := by omega) (hp := ⟨_, _, by simp only [F_node]; rw [if_neg (fun h => h.elim (fun q => absurd q (Int32.not_lt.mpr f6.1)) (fun q => absurd f6.2 (Int32.not_lt.mpr q))), if_neg c26, if_neg c41, if_neg (fun h => c60 ((kd_fi hA).mpr h).2)], rfl, TS.of (hT1) hA hB ⟨rfl, rfl, hdc⟩ ⟨e, rfl, hce, by omega⟩ ⟨kc, kd, rfl, rfl, hkd, by omega⟩ hqt hwg⟩)
        · skip
          refine i_T_node_44 X (h := ?_)
          refine i_T_node_45 X (h := ?_)
          refine i_T_node_46 X (hM := by assumption) (hC := ct_T_placed G hT1 (nI n1)) (hk := by omega) (hn := by omega) (h := fun v46 M46 hp46 => ?_)
          obtain ⟨b1, rfl, hb1, rfl⟩ := hp46
          have hpl : b1 = true ↔ ¬ plc (sp n1) (nI kc) = -1 := by
            rw [hb1]
            by_cases h0 : n1 = 0
            · subst h0
              exact ⟨fun h => absurd h.1 (by decide), fun h => absurd (hA.q0 _) h⟩
            · exact hA.plc0 (hA.ent hE1) h0 hn1
          refine i_T_node_49 X (h1 := fun c49 => ?_) (h2 := fun c49 => ?_)
          · skip
            refine i_T_node_56 X (h := ?_)
            exact i_T_node_57 X (hk := by omega) (hn := by omega) (hp := ⟨0, _, by simp only [F_node]; rw [if_neg (fun h => h.elim (fun q => absurd q (Int32.not_lt.mpr f6.1)) (fun q => absurd f6.2 (Int32.not_lt.mpr q))), if_neg c26, if_pos c41, hcl, if_pos (Decidable.byContradiction (fun q => bI_eq0 c49 (hpl.mpr q)))], rfl, TS.of (hT1) hA hB ⟨rfl, rfl, hdc⟩ ⟨e, rfl, hce, by omega⟩ ⟨kc, kd, rfl, rfl, hkd, by omega⟩ hqt hwg⟩)
          · skip
            refine i_T_node_52 X (h := ?_)
            refine i_T_node_53 X (h := ?_)
            exact i_T_node_57 X (hk := by omega) (hn := by omega) (hp := ⟨1, _, by simp only [F_node]; rw [if_neg (fun h => h.elim (fun q => absurd q (Int32.not_lt.mpr f6.1)) (fun q => absurd f6.2 (Int32.not_lt.mpr q))), if_neg c26, if_pos c41, hcl, if_neg (hpl.mp (bI_ne0 c49))], rfl, TS.of (hT1) hA hB ⟨rfl, rfl, hdc⟩ ⟨e, rfl, hce, by omega⟩ ⟨kc, kd, rfl, rfl, hkd, by omega⟩ hqt hwg⟩)
      · skip
        refine i_T_node_29 X (h := ?_)
        exact i_T_node_30 X (hk := by omega) (hn := by omega) (hp := ⟨_, _, by simp only [F_node]; rw [if_neg (fun h => h.elim (fun q => absurd q (Int32.not_lt.mpr f6.1)) (fun q => absurd f6.2 (Int32.not_lt.mpr q))), if_pos c26], by rw [kd_v hA hn1, hcl], TS.of (hT0) hA hB ⟨rfl, rfl, hdc⟩ ⟨e, rfl, hce, by omega⟩ ⟨kc, kd, rfl, rfl, hkd, by omega⟩ hqt hwg⟩)
    · skip
      have f14 := bI_eq0 c14
      refine i_T_node_17 X (h := ?_)
      exact i_T_node_18 X (hk := by omega) (hn := by omega) (hp := ⟨-1, _, by simp only [F_node]; rw [if_neg (fun h => h.elim (fun q => absurd q (Int32.not_lt.mpr f6.1)) (fun q => absurd f6.2 (Int32.not_lt.mpr q))), if_neg (fun q => f14 (by rw [q]; decide)), if_neg (fun q => f14 (by rw [q]; decide)), nodV_o f14], rfl, TS.of (hT0) hA hB ⟨rfl, rfl, hdc⟩ ⟨e, rfl, hce, by omega⟩ ⟨kc, kd, rfl, rfl, hkd, by omega⟩ hqt hwg⟩)
