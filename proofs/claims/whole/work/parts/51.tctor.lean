/-- the twin under construction -/
def TC (M : mM) (t0 : Nat) (fs : List Value) (as : List (Nat × va_E)) : Prop := M t0 = some (.inr (4, fs)) ∧ (∀ p ∈ as, M p.1 = some p.2 ∧ ∃ q, p.2 = .inl q) ∧ (as.map (fun p => p.1)).Nodup
theorem TC.new {M : mM} {t0 q : Nat} {fs : List Value} {as : List (Nat × va_E)} {cl : va_E} (hq : M q = none) (h : TC M t0 fs as) (hc : ∃ q, cl = .inl q) : TC (mS M q cl) t0 fs ((q, cl) :: as) := by
  refine ⟨mS_of_new hq h.1, fun p hp => ?_, ?_⟩
  · rcases List.mem_cons.mp hp with rfl | hp
    · exact ⟨mS_self _ _ _, hc⟩
    · exact ⟨mS_of_new hq (h.2.1 p hp).1, (h.2.1 p hp).2⟩
  · rw [List.map_cons, List.nodup_cons]
    refine ⟨fun hm => ?_, h.2.2⟩
    obtain ⟨p, hp, e⟩ := List.mem_map.mp hm
    have h1 := (h.2.1 p hp).1
    rw [e, hq] at h1
    cases h1
theorem TC.put {M : mM} {t0 : Nat} {fs fs' : List Value} {as : List (Nat × va_E)} (h : TC M t0 fs as) : TC (mS M t0 (.inr (4, fs'))) t0 fs' as := by
  refine ⟨mS_self _ _ _, fun p hp => ⟨?_, (h.2.1 p hp).2⟩, h.2.2⟩
  obtain ⟨h1, q, h2⟩ := h.2.1 p hp
  exact mS_of_ne h.1 h1 (by rw [h2]; intro q; cases q)
theorem R_tc {z : zT} {pc : Nat} {L : List (Option Value)} {st : List Value} {M : mM} {k n t0 : Nat} {fs : List Value} {as : List (Nat × va_E)} (h0 : TC M t0 fs as) (h : ∀ M', TC M' t0 fs as → RN z pc L st M' k n) : RN z pc L st M k n := h M h0
theorem gD : ∀ (l : List Nat) (i : Nat) (h : i < l.length), l.getD i 0 = l[i]
  | [], _, h => absurd h (by simp)
  | _ :: _, 0, _ => rfl
  | _ :: l, i + 1, h => gD l i (by simpa using h)
theorem nod_getD : ∀ (l : List Nat) (i j : Nat), l.Nodup → i < l.length → j < l.length → l.getD i 0 = l.getD j 0 → i = j
  | [], i, _, _, hi, _, _ => absurd hi (by simp)
  | a :: l, 0, 0, _, _, _, _ => rfl
  | a :: l, 0, j + 1, h, _, hj, e => by
    have hj : j < l.length := by simpa using hj
    have e : a = l.getD j 0 := e
    rw [gD l j hj] at e
    exact absurd (by rw [e]; exact List.getElem_mem hj) (List.nodup_cons.mp h).1
  | a :: l, i + 1, 0, h, hi, _, e => by
    have hi : i < l.length := by simpa using hi
    have e : l.getD i 0 = a := e
    rw [gD l i hi] at e
    exact absurd (by rw [← e]; exact List.getElem_mem hi) (List.nodup_cons.mp h).1
  | a :: l, i + 1, j + 1, h, hi, hj, e => by
    have hi : i < l.length := by simpa using hi
    have hj : j < l.length := by simpa using hj
    rw [nod_getD l i j (List.nodup_cons.mp h).2 hi hj e]
theorem TC.fin {M : mM} {cI cB : ClassId} {t0 a0 a1 a2 a3 a4 a5 a6 a7 a8 a9 a10 : Nat} {w g : Int32} (h : TC M t0 [.int w, .int g, .ref a0, .ref a1, .ref a2, .ref a3, .ref a4, .ref a5, .ref a6, .int 0, .int 0, .int 0, .int 0, .ref a7, .ref a8, .int 0, .ref a9, .ref a10] [(a10, (.inl (cB, 24, .inl (fun _ => 0)))), (a9, (.inl (cI, 192, .inl (fun _ => 0)))), (a8, (.inl (cI, 520, .inl (fun _ => 0)))), (a7, (.inl (cI, 520, .inl (fun _ => 0)))), (a6, (.inl (cI, 2080, .inl (fun _ => 0)))), (a5, (.inl (cI, 520, .inl (fun _ => 0)))), (a4, (.inl (cI, 520, .inl (fun _ => 0)))), (a3, (.inl (cI, 520, .inl (fun _ => 0)))), (a2, (.inl (cI, 520, .inl (fun _ => 0)))), (a1, (.inl (cI, 520, .inl (fun _ => 0)))), (a0, (.inl (cI, 520, .inl (fun _ => 0))))]) (hr : (0 ≤ w ∧ w ≤ 1000) ∧ 0 ≤ g ∧ g ≤ 1000) : TS M cI cB t0 0 ((w, g), (0, 1, 0), (0, 1, 0), 0, fun _ => [], fun _ => [], fun _ => [], fun _ => []) := by
  refine TS.of (ad := fun i => [a10, a9, a8, a7, a6, a5, a4, a3, a2, a1, a0].getD (10 - i) 0) (W := fun _ => 0) (S := fun _ => 0) (N := fun _ => 0) (U := fun _ => 0) (F := fun _ => 0) (K := fun _ => 0) (C := fun _ => 0) (Qf := fun _ => 0) (Qt := fun _ => 0) (E := fun _ => 0) (R := fun _ => 0) (c := 0) (d := 0) (gn := 0) ?_ (RA_0 _ _ _ _ _ _ _ _ _) (RA_0 _ _ _ _ _ _ _ _ _) ⟨rfl, rfl, Nat.le_refl 0⟩ ⟨0, rfl, Nat.le_refl 0, Nat.le_refl 0⟩ ⟨0, 0, rfl, rfl, Nat.le_refl 0, Nat.le_refl 0⟩ (fun i hi => absurd hi (by omega)) ⟨hr.1.1, hr.1.2, hr.2.1, hr.2.2⟩
  refine ⟨h.1, (h.2.1 (a0, (.inl (cI, 520, .inl (fun _ => 0)))) (by simp)).1, (h.2.1 (a1, (.inl (cI, 520, .inl (fun _ => 0)))) (by simp)).1, (h.2.1 (a2, (.inl (cI, 520, .inl (fun _ => 0)))) (by simp)).1, (h.2.1 (a3, (.inl (cI, 520, .inl (fun _ => 0)))) (by simp)).1, (h.2.1 (a4, (.inl (cI, 520, .inl (fun _ => 0)))) (by simp)).1, (h.2.1 (a5, (.inl (cI, 520, .inl (fun _ => 0)))) (by simp)).1, (h.2.1 (a6, (.inl (cI, 2080, .inl (fun _ => 0)))) (by simp)).1, (h.2.1 (a7, (.inl (cI, 520, .inl (fun _ => 0)))) (by simp)).1, (h.2.1 (a8, (.inl (cI, 520, .inl (fun _ => 0)))) (by simp)).1, (h.2.1 (a9, (.inl (cI, 192, .inl (fun _ => 0)))) (by simp)).1, (h.2.1 (a10, (.inl (cB, 24, .inl (fun _ => 0)))) (by simp)).1, fun i j hi hj e => ?_⟩
  have := nod_getD [a10, a9, a8, a7, a6, a5, a4, a3, a2, a1, a0] (10 - i) (10 - j) h.2.2 (by simp only [List.length_cons, List.length_nil]; omega) (by simp only [List.length_cons, List.length_nil]; omega) e
  omega
set_option maxRecDepth 20000 in
set_option maxHeartbeats 1000000 in
theorem ct_T_init {l : Launch} {D : va_G} {tys : List (ClassId × FieldType)} {M : mM} {cI cB cN : ClassId} (G : tys[0]? = some (cI, .int) ∧ tys[1]? = some (cB, .boolean) ∧ tys[2]? = some (cN, .object RX0)) {t0 : Nat} (hO : M t0 = some (.inr (4, [.int 0, .int 0, .null, .null, .null, .null, .null, .null, .null, .int 0, .int 0, .int 0, .int 0, .null, .null, .int 0, .null, .null]))) (x y : Int32) : Ct_T_init l D tys 11 6456 [.ref t0, .int x, .int y] M (fun v M1 => v = none ∧ TS M1 cI cB t0 0 (initS x y)) := by
  refine Ct.of (cc := c_T_init) (maxL := 3) (ret := none) (L0 := [some (.ref t0), some (.int x), some (.int y)]) (by decide) (by intro v hv; simp only [List.mem_cons, List.not_mem_nil, or_false] at hv; rcases hv with rfl | rfl | rfl <;> first | rfl | exact mRf_cat (mRf_rf _)) (by simp) rfl ?_
  intro z ws0 hl hD ht X1 X2
  subst hl; subst hD; subst ht
  have X := And.intro X1 X2
  clear X1 X2
  have hc0 : TC M t0 [.int 0, .int 0, .null, .null, .null, .null, .null, .null, .null, .int 0, .int 0, .int 0, .int 0, .null, .null, .int 0, .null, .null] [] := ⟨hO, (fun p hp => by cases hp), List.nodup_nil⟩
  refine i_T_init_0 X (h := ?_)
  refine i_T_init_1 X (h := ?_)
  refine i_T_init_4 X (h := ?_)
  refine i_T_init_5 X (h := ?_)
  refine i_T_init_8 X G (w := 520) (hv0 := by decide) (hv := by decide) (hb := by decide) (hk := by omega) (hn := by omega) (h := fun q8 hq8 => ?_)
  refine R_tc (TC.new hq8 hc0 ⟨_, rfl⟩) (fun M8 hc8 => ?_)
  refine i_T_init_10 X (hM := hc8.1) (h := ?_)
  refine R_tc (TC.put hc8) (fun M10 hc10 => ?_)
  refine i_T_init_13 X (h := ?_)
  refine i_T_init_14 X (h := ?_)
  refine i_T_init_17 X G (w := 520) (hv0 := by decide) (hv := by decide) (hb := by decide) (hk := by omega) (hn := by omega) (h := fun q17 hq17 => ?_)
  refine R_tc (TC.new hq17 hc10 ⟨_, rfl⟩) (fun M17 hc17 => ?_)
  refine i_T_init_19 X (hM := hc17.1) (h := ?_)
  refine R_tc (TC.put hc17) (fun M19 hc19 => ?_)
  refine i_T_init_22 X (h := ?_)
  refine i_T_init_23 X (h := ?_)
  refine i_T_init_26 X G (w := 520) (hv0 := by decide) (hv := by decide) (hb := by decide) (hk := by omega) (hn := by omega) (h := fun q26 hq26 => ?_)
  refine R_tc (TC.new hq26 hc19 ⟨_, rfl⟩) (fun M26 hc26 => ?_)
  refine i_T_init_28 X (hM := hc26.1) (h := ?_)
  refine R_tc (TC.put hc26) (fun M28 hc28 => ?_)
  refine i_T_init_31 X (h := ?_)
  refine i_T_init_32 X (h := ?_)
  refine i_T_init_35 X G (w := 520) (hv0 := by decide) (hv := by decide) (hb := by decide) (hk := by omega) (hn := by omega) (h := fun q35 hq35 => ?_)
  refine R_tc (TC.new hq35 hc28 ⟨_, rfl⟩) (fun M35 hc35 => ?_)
  refine i_T_init_37 X (hM := hc35.1) (h := ?_)
  refine R_tc (TC.put hc35) (fun M37 hc37 => ?_)
  refine i_T_init_40 X (h := ?_)
  refine i_T_init_41 X (h := ?_)
  refine i_T_init_44 X G (w := 520) (hv0 := by decide) (hv := by decide) (hb := by decide) (hk := by omega) (hn := by omega) (h := fun q44 hq44 => ?_)
  refine R_tc (TC.new hq44 hc37 ⟨_, rfl⟩) (fun M44 hc44 => ?_)
  refine i_T_init_46 X (hM := hc44.1) (h := ?_)
  refine R_tc (TC.put hc44) (fun M46 hc46 => ?_)
  refine i_T_init_49 X (h := ?_)
  refine i_T_init_50 X (h := ?_)
  refine i_T_init_53 X G (w := 520) (hv0 := by decide) (hv := by decide) (hb := by decide) (hk := by omega) (hn := by omega) (h := fun q53 hq53 => ?_)
  refine R_tc (TC.new hq53 hc46 ⟨_, rfl⟩) (fun M53 hc53 => ?_)
  refine i_T_init_55 X (hM := hc53.1) (h := ?_)
  refine R_tc (TC.put hc53) (fun M55 hc55 => ?_)
  refine i_T_init_58 X (h := ?_)
  refine i_T_init_59 X (h := ?_)
  refine i_T_init_62 X G (w := 2080) (hv0 := by decide) (hv := by decide) (hb := by decide) (hk := by omega) (hn := by omega) (h := fun q62 hq62 => ?_)
  refine R_tc (TC.new hq62 hc55 ⟨_, rfl⟩) (fun M62 hc62 => ?_)
  refine i_T_init_64 X (hM := hc62.1) (h := ?_)
  refine R_tc (TC.put hc62) (fun M64 hc64 => ?_)
  refine i_T_init_67 X (h := ?_)
  refine i_T_init_68 X (h := ?_)
  refine i_T_init_71 X G (w := 520) (hv0 := by decide) (hv := by decide) (hb := by decide) (hk := by omega) (hn := by omega) (h := fun q71 hq71 => ?_)
  refine R_tc (TC.new hq71 hc64 ⟨_, rfl⟩) (fun M71 hc71 => ?_)
  refine i_T_init_73 X (hM := hc71.1) (h := ?_)
  refine R_tc (TC.put hc71) (fun M73 hc73 => ?_)
  refine i_T_init_76 X (h := ?_)
  refine i_T_init_77 X (h := ?_)
  refine i_T_init_80 X G (w := 520) (hv0 := by decide) (hv := by decide) (hb := by decide) (hk := by omega) (hn := by omega) (h := fun q80 hq80 => ?_)
  refine R_tc (TC.new hq80 hc73 ⟨_, rfl⟩) (fun M80 hc80 => ?_)
  refine i_T_init_82 X (hM := hc80.1) (h := ?_)
  refine R_tc (TC.put hc80) (fun M82 hc82 => ?_)
  refine i_T_init_85 X (h := ?_)
  refine i_T_init_86 X (h := ?_)
  refine i_T_init_89 X G (w := 192) (hv0 := by decide) (hv := by decide) (hb := by decide) (hk := by omega) (hn := by omega) (h := fun q89 hq89 => ?_)
  refine R_tc (TC.new hq89 hc82 ⟨_, rfl⟩) (fun M89 hc89 => ?_)
  refine i_T_init_91 X (hM := hc89.1) (h := ?_)
  refine R_tc (TC.put hc89) (fun M91 hc91 => ?_)
  refine i_T_init_94 X (h := ?_)
  refine i_T_init_95 X (h := ?_)
  refine i_T_init_97 X G (w := 24) (hv0 := by decide) (hv := by decide) (hb := by decide) (hk := by omega) (hn := by omega) (h := fun q97 hq97 => ?_)
  refine R_tc (TC.new hq97 hc91 ⟨_, rfl⟩) (fun M97 hc97 => ?_)
  refine i_T_init_99 X (hM := hc97.1) (h := ?_)
  refine R_tc (TC.put hc97) (fun M99 hc99 => ?_)
  refine i_T_init_102 X (h := ?_)
  refine i_T_init_103 X (h := ?_)
  refine i_T_init_104 X (h1 := fun c104 => ?_) (h2 := fun c104 => ?_)
  · skip
    refine i_T_init_111 X (h := ?_)
    refine i_T_init_112 X (h := ?_)
    refine i_T_init_115 X (h1 := fun c115 => ?_) (h2 := fun c115 => ?_)
    · skip
      refine i_T_init_124 X (h := ?_)
      refine i_T_init_125 X (hM := hc99.1) (h := ?_)
      refine R_tc (TC.put hc99) (fun M125 hc125 => ?_)
      refine i_T_init_128 X (h := ?_)
      refine i_T_init_129 X (h := ?_)
      refine i_T_init_130 X (h1 := fun c130 => ?_) (h2 := fun c130 => ?_)
      · skip
        refine i_T_init_137 X (h := ?_)
        refine i_T_init_138 X (h := ?_)
        refine i_T_init_141 X (h1 := fun c141 => ?_) (h2 := fun c141 => ?_)
        · skip
          refine i_T_init_150 X (h := ?_)
          refine i_T_init_151 X (hM := hc125.1) (h := ?_)
          refine R_tc (TC.put hc125) (fun M151 hc151 => ?_)
          exact i_T_init_154 X (hk := by omega) (hn := by omega) (hp := ⟨rfl, by
              have hr := And.intro (clm_rng x) (clm_rng y)
              show TS M151 cI cB t0 0 ((clmV x, clmV y), (0, 1, 0), (0, 1, 0), 0, fun _ => [], fun _ => [], fun _ => [], fun _ => [])
              rw [clm_mid c104 c115, clm_mid c130 c141] at hr ⊢
              exact TC.fin hc151 hr⟩)
        · skip
          refine i_T_init_144 X (h := ?_)
          refine i_T_init_147 X (h := ?_)
          refine i_T_init_151 X (hM := hc125.1) (h := ?_)
          refine R_tc (TC.put hc125) (fun M151 hc151 => ?_)
          exact i_T_init_154 X (hk := by omega) (hn := by omega) (hp := ⟨rfl, by
              have hr := And.intro (clm_rng x) (clm_rng y)
              show TS M151 cI cB t0 0 ((clmV x, clmV y), (0, 1, 0), (0, 1, 0), 0, fun _ => [], fun _ => [], fun _ => [], fun _ => [])
              rw [clm_mid c104 c115, clm_big c141] at hr ⊢
              exact TC.fin hc151 hr⟩)
      · skip
        refine i_T_init_133 X (h := ?_)
        refine i_T_init_134 X (h := ?_)
        refine i_T_init_151 X (hM := hc125.1) (h := ?_)
        refine R_tc (TC.put hc125) (fun M151 hc151 => ?_)
        exact i_T_init_154 X (hk := by omega) (hn := by omega) (hp := ⟨rfl, by
            have hr := And.intro (clm_rng x) (clm_rng y)
            show TS M151 cI cB t0 0 ((clmV x, clmV y), (0, 1, 0), (0, 1, 0), 0, fun _ => [], fun _ => [], fun _ => [], fun _ => [])
            rw [clm_mid c104 c115, clm_neg c130] at hr ⊢
            exact TC.fin hc151 hr⟩)
    · skip
      refine i_T_init_118 X (h := ?_)
      refine i_T_init_121 X (h := ?_)
      refine i_T_init_125 X (hM := hc99.1) (h := ?_)
      refine R_tc (TC.put hc99) (fun M125 hc125 => ?_)
      refine i_T_init_128 X (h := ?_)
      refine i_T_init_129 X (h := ?_)
      refine i_T_init_130 X (h1 := fun c130 => ?_) (h2 := fun c130 => ?_)
      · skip
        refine i_T_init_137 X (h := ?_)
        refine i_T_init_138 X (h := ?_)
        refine i_T_init_141 X (h1 := fun c141 => ?_) (h2 := fun c141 => ?_)
        · skip
          refine i_T_init_150 X (h := ?_)
          refine i_T_init_151 X (hM := hc125.1) (h := ?_)
          refine R_tc (TC.put hc125) (fun M151 hc151 => ?_)
          exact i_T_init_154 X (hk := by omega) (hn := by omega) (hp := ⟨rfl, by
              have hr := And.intro (clm_rng x) (clm_rng y)
              show TS M151 cI cB t0 0 ((clmV x, clmV y), (0, 1, 0), (0, 1, 0), 0, fun _ => [], fun _ => [], fun _ => [], fun _ => [])
              rw [clm_big c115, clm_mid c130 c141] at hr ⊢
              exact TC.fin hc151 hr⟩)
        · skip
          refine i_T_init_144 X (h := ?_)
          refine i_T_init_147 X (h := ?_)
          refine i_T_init_151 X (hM := hc125.1) (h := ?_)
          refine R_tc (TC.put hc125) (fun M151 hc151 => ?_)
          exact i_T_init_154 X (hk := by omega) (hn := by omega) (hp := ⟨rfl, by
              have hr := And.intro (clm_rng x) (clm_rng y)
              show TS M151 cI cB t0 0 ((clmV x, clmV y), (0, 1, 0), (0, 1, 0), 0, fun _ => [], fun _ => [], fun _ => [], fun _ => [])
              rw [clm_big c115, clm_big c141] at hr ⊢
              exact TC.fin hc151 hr⟩)
      · skip
        refine i_T_init_133 X (h := ?_)
        refine i_T_init_134 X (h := ?_)
        refine i_T_init_151 X (hM := hc125.1) (h := ?_)
        refine R_tc (TC.put hc125) (fun M151 hc151 => ?_)
        exact i_T_init_154 X (hk := by omega) (hn := by omega) (hp := ⟨rfl, by
            have hr := And.intro (clm_rng x) (clm_rng y)
            show TS M151 cI cB t0 0 ((clmV x, clmV y), (0, 1, 0), (0, 1, 0), 0, fun _ => [], fun _ => [], fun _ => [], fun _ => [])
            rw [clm_big c115, clm_neg c130] at hr ⊢
            exact TC.fin hc151 hr⟩)
  · skip
    refine i_T_init_107 X (h := ?_)
    refine i_T_init_108 X (h := ?_)
    refine i_T_init_125 X (hM := hc99.1) (h := ?_)
    refine R_tc (TC.put hc99) (fun M125 hc125 => ?_)
    refine i_T_init_128 X (h := ?_)
    refine i_T_init_129 X (h := ?_)
    refine i_T_init_130 X (h1 := fun c130 => ?_) (h2 := fun c130 => ?_)
    · skip
      refine i_T_init_137 X (h := ?_)
      refine i_T_init_138 X (h := ?_)
      refine i_T_init_141 X (h1 := fun c141 => ?_) (h2 := fun c141 => ?_)
      · skip
        refine i_T_init_150 X (h := ?_)
        refine i_T_init_151 X (hM := hc125.1) (h := ?_)
        refine R_tc (TC.put hc125) (fun M151 hc151 => ?_)
        exact i_T_init_154 X (hk := by omega) (hn := by omega) (hp := ⟨rfl, by
            have hr := And.intro (clm_rng x) (clm_rng y)
            show TS M151 cI cB t0 0 ((clmV x, clmV y), (0, 1, 0), (0, 1, 0), 0, fun _ => [], fun _ => [], fun _ => [], fun _ => [])
            rw [clm_neg c104, clm_mid c130 c141] at hr ⊢
            exact TC.fin hc151 hr⟩)
      · skip
        refine i_T_init_144 X (h := ?_)
        refine i_T_init_147 X (h := ?_)
        refine i_T_init_151 X (hM := hc125.1) (h := ?_)
        refine R_tc (TC.put hc125) (fun M151 hc151 => ?_)
        exact i_T_init_154 X (hk := by omega) (hn := by omega) (hp := ⟨rfl, by
            have hr := And.intro (clm_rng x) (clm_rng y)
            show TS M151 cI cB t0 0 ((clmV x, clmV y), (0, 1, 0), (0, 1, 0), 0, fun _ => [], fun _ => [], fun _ => [], fun _ => [])
            rw [clm_neg c104, clm_big c141] at hr ⊢
            exact TC.fin hc151 hr⟩)
    · skip
      refine i_T_init_133 X (h := ?_)
      refine i_T_init_134 X (h := ?_)
      refine i_T_init_151 X (hM := hc125.1) (h := ?_)
      refine R_tc (TC.put hc125) (fun M151 hc151 => ?_)
      exact i_T_init_154 X (hk := by omega) (hn := by omega) (hp := ⟨rfl, by
          have hr := And.intro (clm_rng x) (clm_rng y)
          show TS M151 cI cB t0 0 ((clmV x, clmV y), (0, 1, 0), (0, 1, 0), 0, fun _ => [], fun _ => [], fun _ => [], fun _ => [])
          rw [clm_neg c104, clm_neg c130] at hr ⊢
          exact TC.fin hc151 hr⟩)
