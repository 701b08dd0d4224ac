theorem idx_lt : ∀ {l : List vV}, idxO l → ∀ e ∈ l, ∃ j, j < l.length ∧ e.2.1 = nI j
  | [], _, e, he => by cases he
  | (t, x, cs, g) :: l, h, e, he => by
    rcases List.mem_cons.mp he with rfl | he
    · exact ⟨l.length, by simp, h.1⟩
    · obtain ⟨j, h1, h2⟩ := idx_lt h.2 e he
      exact ⟨j, by simp only [List.length_cons]; omega, h2⟩
theorem idx_nod : ∀ {l : List vV}, idxO l → l.length < 2 ^ 31 → (l.map (fun e => e.2.1)).Nodup
  | [], _, _ => List.nodup_nil
  | (t, x, cs, g) :: l, h, hl => by
    have hl' : l.length + 1 < 2 ^ 31 := by simpa using hl
    rw [List.map_cons, List.nodup_cons]
    refine ⟨fun hm => ?_, idx_nod h.2 (by omega)⟩
    obtain ⟨e, he, hx⟩ := List.mem_map.mp hm
    obtain ⟨j, hj, h2⟩ := idx_lt h.2 e he
    have hx : e.2.1 = x := hx
    rw [h2, h.1] at hx
    have := (nI_eq (by omega) (by omega)).mp hx
    omega
/-- what the class's contracts ask of the state, out of the twin's side -/
theorem TS.side {M : mM} {cI cB : ClassId} {t0 J : Nat} {w g ck ch dc dh ev : Int32} {m dm : Nat} {sp ds : Nat → List (Int32 × Int32)} {vs dv : Nat → List vV} (h : TS M cI cB t0 J ((w, g), (ck, m, ch), (dc, dm, dh), ev, sp, vs, ds, dv)) (hJ : J ≤ 600) : m ≤ 24 ∧ spOk sp ∧ (∀ i, i < 24 → ((vs i).map (fun e => e.2.1)).Nodup) ∧ ∃ fs, M t0 = some (.inr (4, fs)) := by
  obtain ⟨ad, W, S, N, U, F, K, C, Qf, Qt, E, R, c, d, gn, hT, hA, hB, hcd, hev, hck, hqt, hwg⟩ := h
  obtain ⟨e, -, hce, heJ⟩ := hev
  refine ⟨hA.2.1.2, hA.2.2.2.2.2.1.1, fun i hi => idx_nod (hA.2.2.2.2.2.2.1 i hi).1.1 (by have := hA.len hi; omega), _, hT.1⟩
theorem CS.at {M : mM} {cI cN : ClassId} {h0 : Nat} {w g ck ch dc dh ev : Int32} {m dm : Nat} {sp ds : Nat → List (Int32 × Int32)} {vs dv : Nat → List vV} (h : CS M cI cN h0 ((w, g), (ck, m, ch), (dc, dm, dh), ev, sp, vs, ds, dv)) : ∃ fs, M h0 = some (.inr (3, fs)) := by
  obtain ⟨na, pa, nd, ow, sr, vr, dr, er, pl, hI⟩ := h
  exact ⟨_, hI.1⟩
theorem law_idx {Ln i : Nat} (hL : Ln ≤ 2562) (hi : i < 5000) (h : ¬ nI Ln - 5 < nI i) : i + 5 ≤ Ln := by
  rw [Int32.lt_iff_toInt_lt, Int32.toInt_sub, nI_toInt (by omega), nI_toInt (by omega), show (5 : Int32).toInt = 5 from by decide, Int.bmod_eq_of_le (by omega) (by omega)] at h
  omega
theorem law_lt {Ln : Nat} {k : Nat} (hk : k < 2 ^ 31) (hL : Ln < 2 ^ 31) (h : ¬ nI Ln ≤ nI k) : k < Ln := by
  rcases Nat.lt_or_ge k Ln with q | q
  · exact q
  · exact absurd (nI_le q hk) h
theorem lg_same (r : Int64) : lg_cmp r r = 0 := by
  unfold lg_cmp
  simp
set_option maxRecDepth 20000 in
set_option maxHeartbeats 1000000 in
theorem ct_L_cell {b0 Ln : Nat} {xs : Nat → Int32} {l : Launch} {D : va_G} {tys : List (ClassId × FieldType)} {M : mM} (hLn : Ln < 2 ^ 31) {j : Nat} (hj : j < 2 ^ 31) : CtX b0 Ln xs l D tys y_L_cell w_L_cell 0 0 0 0 [.ref b0, .int (nI j)] M (fun v M1 => v = some (.int (if j < Ln then xs j else 0)) ∧ M1 = M) := by
  refine CtX.of (cc := c_L_cell) (maxL := 2) (ret := (some (.int))) (L0 := [some (.ref b0), some (.int (nI j))]) (by decide) (by intro v hv; simp only [List.mem_cons, List.not_mem_nil, or_false] at hv; rcases hv with rfl | rfl <;> first | rfl | exact mRf_cat (mRf_rf _)) (by simp) rfl ?_
  intro z ws0 hl hD ht Y X1 X2
  subst hl; subst hD; subst ht
  have X := And.intro X1 X2
  clear X1 X2
  refine i_L_cell_0 X (h := ?_)
  refine i_L_cell_1 X (h := ?_)
  refine i_L_cell_2 X Y (h := ?_)
  refine i_L_cell_3 X (h1 := fun c3 => ?_) (h2 := fun c3 => ?_)
  · skip
    refine i_L_cell_12 X (h := ?_)
    exact i_L_cell_13 X (hk := by omega) (hn := by omega) (hp := ⟨by rw [if_neg (fun q => absurd c3 (nI_ge q hLn))], rfl⟩)
  · skip
    refine i_L_cell_6 X (h := ?_)
    refine i_L_cell_7 X (h := ?_)
    refine i_L_cell_8 X Y (hx := rfl) (hj := law_lt hj hLn c3) (hw := hLn) (h := ?_)
    refine i_L_cell_9 X (h := ?_)
    exact i_L_cell_13 X (hk := by omega) (hn := by omega) (hp := ⟨by rw [if_pos (law_lt hj hLn c3)], rfl⟩)
set_option maxRecDepth 20000 in
set_option maxHeartbeats 4000000 in
theorem lp_L_law {z : zT} {nm : String} {b0 Ln : Nat} {xs : Nat → Int32} (X : B_L_law z nm b0 Ln xs) {cI cB cN : ClassId} (G : GT z cI cB cN) (hLn : Ln ≤ 2562) {h0 t0 : Nat} : ∀ (f J : Nat) (M M1 M2 : mM) (s0 : sS), J + f = 513 → spl M M1 M2 → CS M1 cI cN h0 s0 → TS M2 cI cB t0 J s0 → RN z 38 [some (.ref b0), some (.ref h0), some (.ref t0), some (.int (nI (2 + 5 * J)))] [] M (39 + 3 * J) (6629 + 12 * J) := by
  intro f
  induction f with
  | zero =>
    intro J M M1 M2 s0 hf hsp hC hS
    have hJ9 : J = 513 := by omega
    refine i_L_law_38 X (h := ?_)
    refine i_L_law_39 X (h := ?_)
    refine i_L_law_40 X (h := ?_)
    refine i_L_law_41 X (h := ?_)
    refine i_L_law_42 X (h := ?_)
    refine i_L_law_43 X (h1 := fun c43 => ?_) (h2 := fun c43 => ?_)
    · skip
      refine i_L_law_730 X (h := ?_)
      exact R_lawret X d_L_law_731 (by omega) (by omega)
    · skip
      have h9 := law_idx hLn (by omega) c43
      exact absurd h9 (by omega) --end
  | succ f ih =>
    intro J M M1 M2 s0 hf hsp hC hS
    have K : ∀ (s1 : sS) (M' M1' M2' : mM) (k n : Nat), spl M' M1' M2' → CS M1' cI cN h0 s1 → TS M2' cI cB t0 (J + 1) s1 → k ≤ 39 + 3 * (J + 1) → n ≤ 6629 + 12 * (J + 1) → RN z 724 [some (.ref b0), some (.ref h0), some (.ref t0), some (.int (nI (2 + 5 * J)))] [] M' k n := by
      intro s1 M' M1' M2' k n q1 q2 q3 q4 q5
      refine R_widen X.1 q4 q5 ?_
      refine i_L_law_724 X (h := ?_)
      refine i_L_law_727 X (h := ?_)
      have hih := ih (J + 1) M' M1' M2' s1 (by omega) q1 q2 q3
      rw [show 2 + 5 * (J + 1) = 2 + 5 * J + 5 by omega, ← nI_add] at hih
      exact hih
    have hS9 := TS.mono (J' := J + 1) (by omega) hS
    obtain ⟨⟨w, g⟩, ⟨ck, m, ch⟩, ⟨dc, dm, dh⟩, ev, sp, vs, ds, dv⟩ := s0
    obtain ⟨hm, hsp0, hnd, fs2, hM2⟩ := TS.side hS (by omega)
    obtain ⟨fs1, hM1⟩ := CS.at hC
    refine i_L_law_38 X (h := ?_)
    refine i_L_law_39 X (h := ?_)
    refine i_L_law_40 X (h := ?_)
    refine i_L_law_41 X (h := ?_)
    refine i_L_law_42 X (h := ?_)
    refine i_L_law_43 X (h1 := fun c43 => ?_) (h2 := fun c43 => ?_)
    · skip
      refine i_L_law_730 X (h := ?_)
      exact R_lawret X d_L_law_731 (by omega) (by omega)
    · skip
      have h9 := law_idx hLn (by omega) c43
      have hJ : J < 512 := by omega
      refine i_L_law_46 X (h := ?_)
      refine i_L_law_47 X (h := ?_)
      refine i_L_law_48 X (hx := rfl) (hj := by omega) (hw := by omega) (h := ?_)
      refine i_L_law_49 X (h := ?_)
      refine i_L_law_51 X (h := ?_)
      refine i_L_law_52 X (h0 := fun c52 => ?_) (h1 := fun c52 => ?_) (h2 := fun c52 => ?_) (h3 := fun c52 => ?_) (h4 := fun c52 => ?_) (h5 := fun c52 => ?_) (h6 := fun c52 => ?_) (h7 := fun c52 => ?_) (h8 := fun c52 => ?_) (h9 := fun c52 => ?_) (h10 := fun c52 => ?_) (h11 := fun c52 => ?_) (h12 := fun c52 => ?_) (h13 := fun c52 => ?_) (h14 := fun c52 => ?_) (h15 := fun c52 => ?_) (h16 := fun c52 => ?_) (hd := fun e0 e1 e2 e3 e4 e5 e6 e7 e8 e9 e10 e11 e12 e13 e14 e15 e16 => ?_)
      · skip
        refine i_L_law_136 X (h := ?_)
        refine i_L_law_137 X (h := ?_)
        refine i_L_law_138 X (h := ?_)
        refine i_L_law_139 X (h := ?_)
        refine i_L_law_140 X (h := ?_)
        refine i_L_law_141 X (hx := nI_add (2 + 5 * J) 1) (hj := by omega) (hw := by omega) (h := ?_)
        refine i_L_law_142 X (hsp := hsp) (hM := hM1) (hC := ct_P_tick (cB := cB) hC (xs (2 + 5 * J + 1))) (hk := by omega) (hn := by omega) (h := fun v142 M142 N142 hp142 hs142 => ?_)
        obtain ⟨r, s1, hF, rfl, hC1⟩ := hp142
        refine i_L_law_145 X (h := ?_)
        refine i_L_law_146 X (h := ?_)
        refine i_L_law_147 X (h := ?_)
        refine i_L_law_148 X (h := ?_)
        refine i_L_law_149 X (h := ?_)
        refine i_L_law_150 X (hx := nI_add (2 + 5 * J) 1) (hj := by omega) (hw := by omega) (h := ?_)
        refine i_L_law_151 X (hsp := hs142.symm) (hM := hM2) (hC := ct_T_tick (cN := cN) hS hJ (xs (2 + 5 * J + 1))) (hk := by omega) (hn := by omega) (h := fun v151 M151 N151 hp151 hs151 => ?_)
        obtain ⟨r2, s2, hF2, rfl, hS1⟩ := hp151
        rw [hF] at hF2
        obtain ⟨rfl, rfl⟩ := Prod.mk.inj hF2
        have hsx := hs151.symm
        refine i_L_law_154 X (h1 := fun c154 => ?_) (h2 := fun c154 => ?_)
        · skip
          exact K _ _ _ _ _ _ hsx hC1 hS1 (by omega) (by omega)
        · skip
          exact absurd rfl c154 --end
      · skip
        refine i_L_law_159 X (h := ?_)
        refine i_L_law_160 X (h := ?_)
        refine i_L_law_161 X (h := ?_)
        refine i_L_law_162 X (h := ?_)
        refine i_L_law_163 X (h := ?_)
        refine i_L_law_164 X (hx := nI_add (2 + 5 * J) 1) (hj := by omega) (hw := by omega) (h := ?_)
        refine i_L_law_165 X (h := ?_)
        refine i_L_law_166 X (h := ?_)
        refine i_L_law_167 X (h := ?_)
        refine i_L_law_168 X (h := ?_)
        refine i_L_law_169 X (hx := nI_add (2 + 5 * J) 2) (hj := by omega) (hw := by omega) (h := ?_)
        refine i_L_law_170 X (h := ?_)
        refine i_L_law_171 X (h := ?_)
        refine i_L_law_172 X (h := ?_)
        refine i_L_law_173 X (h := ?_)
        refine i_L_law_174 X (hx := nI_add (2 + 5 * J) 3) (hj := by omega) (hw := by omega) (h := ?_)
        refine i_L_law_175 X (h1 := fun c175 => ?_) (h2 := fun c175 => ?_)
        · skip
          refine i_L_law_182 X (h := ?_)
          refine i_L_law_183 X (hsp := hsp) (hM := hM1) (hC := ct_P_make G hm hC (xs (2 + 5 * J + 1)) (xs (2 + 5 * J + 2)) 0) (hk := by omega) (hn := by omega) (h := fun v183 M183 N183 hp183 hs183 => ?_)
          obtain ⟨r, s1, hF, rfl, hC1⟩ := hp183
          refine i_L_law_186 X (h := ?_)
          refine i_L_law_187 X (h := ?_)
          refine i_L_law_188 X (h := ?_)
          refine i_L_law_189 X (h := ?_)
          refine i_L_law_190 X (h := ?_)
          refine i_L_law_191 X (hx := nI_add (2 + 5 * J) 1) (hj := by omega) (hw := by omega) (h := ?_)
          refine i_L_law_192 X (h := ?_)
          refine i_L_law_193 X (h := ?_)
          refine i_L_law_194 X (h := ?_)
          refine i_L_law_195 X (h := ?_)
          refine i_L_law_196 X (hx := nI_add (2 + 5 * J) 2) (hj := by omega) (hw := by omega) (h := ?_)
          refine i_L_law_197 X (h := ?_)
          refine i_L_law_198 X (h := ?_)
          refine i_L_law_199 X (h := ?_)
          refine i_L_law_200 X (h := ?_)
          refine i_L_law_201 X (hx := nI_add (2 + 5 * J) 3) (hj := by omega) (hw := by omega) (h := ?_)
          refine i_L_law_202 X (h1 := fun c202 => ?_) (h2 := fun c202 => ?_)
          · skip
            refine i_L_law_209 X (h := ?_)
            refine i_L_law_210 X (hsp := hs183.symm) (hM := hM2) (hC := ct_T_make G hS hJ (xs (2 + 5 * J + 1)) (xs (2 + 5 * J + 2)) 0) (hk := by omega) (hn := by omega) (h := fun v210 M210 N210 hp210 hs210 => ?_)
            obtain ⟨r2, s2, hF2, rfl, hS1⟩ := hp210
            rw [hF] at hF2
            obtain ⟨rfl, rfl⟩ := Prod.mk.inj hF2
            have hsx := hs210.symm
            refine i_L_law_213 X (h1 := fun c213 => ?_) (h2 := fun c213 => ?_)
            · skip
              exact K _ _ _ _ _ _ hsx hC1 hS1 (by omega) (by omega)
            · skip
              exact absurd rfl c213 --end
          · skip
            exact absurd c175 c202 --end
        · skip
          refine i_L_law_178 X (h := ?_)
          refine i_L_law_179 X (h := ?_)
          refine i_L_law_183 X (hsp := hsp) (hM := hM1) (hC := ct_P_make G hm hC (xs (2 + 5 * J + 1)) (xs (2 + 5 * J + 2)) 1) (hk := by omega) (hn := by omega) (h := fun v183 M183 N183 hp183 hs183 => ?_)
          obtain ⟨r, s1, hF, rfl, hC1⟩ := hp183
          refine i_L_law_186 X (h := ?_)
          refine i_L_law_187 X (h := ?_)
          refine i_L_law_188 X (h := ?_)
          refine i_L_law_189 X (h := ?_)
          refine i_L_law_190 X (h := ?_)
          refine i_L_law_191 X (hx := nI_add (2 + 5 * J) 1) (hj := by omega) (hw := by omega) (h := ?_)
          refine i_L_law_192 X (h := ?_)
          refine i_L_law_193 X (h := ?_)
          refine i_L_law_194 X (h := ?_)
          refine i_L_law_195 X (h := ?_)
          refine i_L_law_196 X (hx := nI_add (2 + 5 * J) 2) (hj := by omega) (hw := by omega) (h := ?_)
          refine i_L_law_197 X (h := ?_)
          refine i_L_law_198 X (h := ?_)
          refine i_L_law_199 X (h := ?_)
          refine i_L_law_200 X (h := ?_)
          refine i_L_law_201 X (hx := nI_add (2 + 5 * J) 3) (hj := by omega) (hw := by omega) (h := ?_)
          refine i_L_law_202 X (h1 := fun c202 => ?_) (h2 := fun c202 => ?_)
          · skip
            exact absurd c202 c175 --end
          · skip
            refine i_L_law_205 X (h := ?_)
            refine i_L_law_206 X (h := ?_)
            refine i_L_law_210 X (hsp := hs183.symm) (hM := hM2) (hC := ct_T_make G hS hJ (xs (2 + 5 * J + 1)) (xs (2 + 5 * J + 2)) 1) (hk := by omega) (hn := by omega) (h := fun v210 M210 N210 hp210 hs210 => ?_)
            obtain ⟨r2, s2, hF2, rfl, hS1⟩ := hp210
            rw [hF] at hF2
            obtain ⟨rfl, rfl⟩ := Prod.mk.inj hF2
            have hsx := hs210.symm
            refine i_L_law_213 X (h1 := fun c213 => ?_) (h2 := fun c213 => ?_)
            · skip
              exact K _ _ _ _ _ _ hsx hC1 hS1 (by omega) (by omega)
            · skip
              exact absurd rfl c213 --end
      · skip
        refine i_L_law_218 X (h := ?_)
        refine i_L_law_219 X (h := ?_)
        refine i_L_law_220 X (h := ?_)
        refine i_L_law_221 X (h := ?_)
        refine i_L_law_222 X (h := ?_)
        refine i_L_law_223 X (hx := nI_add (2 + 5 * J) 1) (hj := by omega) (hw := by omega) (h := ?_)
        refine i_L_law_224 X (h := ?_)
        refine i_L_law_225 X (h := ?_)
        refine i_L_law_226 X (h := ?_)
        refine i_L_law_227 X (h := ?_)
        refine i_L_law_228 X (hx := nI_add (2 + 5 * J) 2) (hj := by omega) (hw := by omega) (h := ?_)
        refine i_L_law_229 X (hsp := hsp) (hM := hM1) (hC := ct_P_remove G hm hC (xs (2 + 5 * J + 1)) (xs (2 + 5 * J + 2))) (hk := by omega) (hn := by omega) (h := fun v229 M229 N229 hp229 hs229 => ?_)
        obtain ⟨r, s1, hF, rfl, hC1⟩ := hp229
        refine i_L_law_232 X (h := ?_)
        refine i_L_law_233 X (h := ?_)
        refine i_L_law_234 X (h := ?_)
        refine i_L_law_235 X (h := ?_)
        refine i_L_law_236 X (h := ?_)
        refine i_L_law_237 X (hx := nI_add (2 + 5 * J) 1) (hj := by omega) (hw := by omega) (h := ?_)
        refine i_L_law_238 X (h := ?_)
        refine i_L_law_239 X (h := ?_)
        refine i_L_law_240 X (h := ?_)
        refine i_L_law_241 X (h := ?_)
        refine i_L_law_242 X (hx := nI_add (2 + 5 * J) 2) (hj := by omega) (hw := by omega) (h := ?_)
        refine i_L_law_243 X (hsp := hs229.symm) (hM := hM2) (hC := ct_T_remove G hS hJ (xs (2 + 5 * J + 1)) (xs (2 + 5 * J + 2))) (hk := by omega) (hn := by omega) (h := fun v243 M243 N243 hp243 hs243 => ?_)
        obtain ⟨r2, s2, hF2, rfl, hS1⟩ := hp243
        rw [hF] at hF2
        obtain ⟨rfl, rfl⟩ := Prod.mk.inj hF2
        have hsx := hs243.symm
        refine i_L_law_246 X (h1 := fun c246 => ?_) (h2 := fun c246 => ?_)
        · skip
          exact K _ _ _ _ _ _ hsx hC1 hS1 (by omega) (by omega)
        · skip
          exact absurd rfl c246 --end
      · skip
        refine i_L_law_251 X (h := ?_)
        refine i_L_law_252 X (h := ?_)
        refine i_L_law_253 X (h := ?_)
        refine i_L_law_254 X (h := ?_)
        refine i_L_law_255 X (h := ?_)
        refine i_L_law_256 X (hx := nI_add (2 + 5 * J) 1) (hj := by omega) (hw := by omega) (h := ?_)
        refine i_L_law_257 X (h := ?_)
        refine i_L_law_258 X (h := ?_)
        refine i_L_law_259 X (h := ?_)
        refine i_L_law_260 X (h := ?_)
        refine i_L_law_261 X (hx := nI_add (2 + 5 * J) 2) (hj := by omega) (hw := by omega) (h := ?_)
        refine i_L_law_262 X (h := ?_)
        refine i_L_law_263 X (h := ?_)
        refine i_L_law_264 X (h := ?_)
        refine i_L_law_265 X (h := ?_)
        refine i_L_law_266 X (hx := nI_add (2 + 5 * J) 3) (hj := by omega) (hw := by omega) (h := ?_)
        refine i_L_law_267 X (h := ?_)
        refine i_L_law_268 X (h := ?_)
        refine i_L_law_269 X (h := ?_)
        refine i_L_law_270 X (h := ?_)
        refine i_L_law_271 X (hx := nI_add (2 + 5 * J) 4) (hj := by omega) (hw := by omega) (h := ?_)
        refine i_L_law_272 X (hsp := hsp) (hM := hM1) (hC := ct_P_move G hm hC hsp0 (xs (2 + 5 * J + 1)) (xs (2 + 5 * J + 2)) (xs (2 + 5 * J + 3)) (xs (2 + 5 * J + 4))) (hk := by omega) (hn := by omega) (h := fun v272 M272 N272 hp272 hs272 => ?_)
        obtain ⟨r, s1, hF, rfl, hC1⟩ := hp272
        refine i_L_law_275 X (h := ?_)
        refine i_L_law_276 X (h := ?_)
        refine i_L_law_277 X (h := ?_)
        refine i_L_law_278 X (h := ?_)
        refine i_L_law_279 X (h := ?_)
        refine i_L_law_280 X (hx := nI_add (2 + 5 * J) 1) (hj := by omega) (hw := by omega) (h := ?_)
        refine i_L_law_281 X (h := ?_)
        refine i_L_law_282 X (h := ?_)
        refine i_L_law_283 X (h := ?_)
        refine i_L_law_284 X (h := ?_)
        refine i_L_law_285 X (hx := nI_add (2 + 5 * J) 2) (hj := by omega) (hw := by omega) (h := ?_)
        refine i_L_law_286 X (h := ?_)
        refine i_L_law_287 X (h := ?_)
        refine i_L_law_288 X (h := ?_)
        refine i_L_law_289 X (h := ?_)
        refine i_L_law_290 X (hx := nI_add (2 + 5 * J) 3) (hj := by omega) (hw := by omega) (h := ?_)
        refine i_L_law_291 X (h := ?_)
        refine i_L_law_292 X (h := ?_)
        refine i_L_law_293 X (h := ?_)
        refine i_L_law_294 X (h := ?_)
        refine i_L_law_295 X (hx := nI_add (2 + 5 * J) 4) (hj := by omega) (hw := by omega) (h := ?_)
        refine i_L_law_296 X (hsp := hs272.symm) (hM := hM2) (hC := ct_T_move G hS hJ (xs (2 + 5 * J + 1)) (xs (2 + 5 * J + 2)) (xs (2 + 5 * J + 3)) (xs (2 + 5 * J + 4))) (hk := by omega) (hn := by omega) (h := fun v296 M296 N296 hp296 hs296 => ?_)
        obtain ⟨r2, s2, hF2, rfl, hS1⟩ := hp296
        rw [hF] at hF2
        obtain ⟨rfl, rfl⟩ := Prod.mk.inj hF2
        have hsx := hs296.symm
        refine i_L_law_299 X (h1 := fun c299 => ?_) (h2 := fun c299 => ?_)
        · skip
          exact K _ _ _ _ _ _ hsx hC1 hS1 (by omega) (by omega)
        · skip
          exact absurd rfl c299 --end
      · skip
        refine i_L_law_304 X (h := ?_)
        refine i_L_law_305 X (h := ?_)
        refine i_L_law_306 X (h := ?_)
        refine i_L_law_307 X (h := ?_)
        refine i_L_law_308 X (h := ?_)
        refine i_L_law_309 X (hx := nI_add (2 + 5 * J) 1) (hj := by omega) (hw := by omega) (h := ?_)
        refine i_L_law_310 X (h := ?_)
        refine i_L_law_311 X (h := ?_)
        refine i_L_law_312 X (h := ?_)
        refine i_L_law_313 X (h := ?_)
        refine i_L_law_314 X (hx := nI_add (2 + 5 * J) 2) (hj := by omega) (hw := by omega) (h := ?_)
        refine i_L_law_315 X (h := ?_)
        refine i_L_law_316 X (h := ?_)
        refine i_L_law_317 X (h := ?_)
        refine i_L_law_318 X (h := ?_)
        refine i_L_law_319 X (hx := nI_add (2 + 5 * J) 3) (hj := by omega) (hw := by omega) (h := ?_)
        refine i_L_law_320 X (hsp := hsp) (hM := hM1) (hC := ct_P_write G hm hC (xs (2 + 5 * J + 1)) (xs (2 + 5 * J + 2)) (xs (2 + 5 * J + 3))) (hk := by omega) (hn := by omega) (h := fun v320 M320 N320 hp320 hs320 => ?_)
        obtain ⟨r, s1, hF, rfl, hC1⟩ := hp320
        refine i_L_law_323 X (h := ?_)
        refine i_L_law_324 X (h := ?_)
        refine i_L_law_325 X (h := ?_)
        refine i_L_law_326 X (h := ?_)
        refine i_L_law_327 X (h := ?_)
        refine i_L_law_328 X (hx := nI_add (2 + 5 * J) 1) (hj := by omega) (hw := by omega) (h := ?_)
        refine i_L_law_329 X (h := ?_)
        refine i_L_law_330 X (h := ?_)
        refine i_L_law_331 X (h := ?_)
        refine i_L_law_332 X (h := ?_)
        refine i_L_law_333 X (hx := nI_add (2 + 5 * J) 2) (hj := by omega) (hw := by omega) (h := ?_)
        refine i_L_law_334 X (h := ?_)
        refine i_L_law_335 X (h := ?_)
        refine i_L_law_336 X (h := ?_)
        refine i_L_law_337 X (h := ?_)
        refine i_L_law_338 X (hx := nI_add (2 + 5 * J) 3) (hj := by omega) (hw := by omega) (h := ?_)
        refine i_L_law_339 X (hsp := hs320.symm) (hM := hM2) (hC := ct_T_write G hS hJ (xs (2 + 5 * J + 1)) (xs (2 + 5 * J + 2)) (xs (2 + 5 * J + 3))) (hk := by omega) (hn := by omega) (h := fun v339 M339 N339 hp339 hs339 => ?_)
        obtain ⟨r2, s2, hF2, rfl, hS1⟩ := hp339
        rw [hF] at hF2
        obtain ⟨rfl, rfl⟩ := Prod.mk.inj hF2
        have hsx := hs339.symm
        refine i_L_law_342 X (h1 := fun c342 => ?_) (h2 := fun c342 => ?_)
        · skip
          exact K _ _ _ _ _ _ hsx hC1 hS1 (by omega) (by omega)
        · skip
          exact absurd rfl c342 --end
      · skip
        refine i_L_law_347 X (h := ?_)
        refine i_L_law_348 X (h := ?_)
        refine i_L_law_349 X (h := ?_)
        refine i_L_law_350 X (h := ?_)
        refine i_L_law_351 X (h := ?_)
        refine i_L_law_352 X (hx := nI_add (2 + 5 * J) 1) (hj := by omega) (hw := by omega) (h := ?_)
        refine i_L_law_353 X (h := ?_)
        refine i_L_law_354 X (h := ?_)
        refine i_L_law_355 X (h := ?_)
        refine i_L_law_356 X (h := ?_)
        refine i_L_law_357 X (hx := nI_add (2 + 5 * J) 2) (hj := by omega) (hw := by omega) (h := ?_)
        refine i_L_law_358 X (hsp := hsp) (hM := hM1) (hC := ct_P_turnBack G hm hC (xs (2 + 5 * J + 1)) (xs (2 + 5 * J + 2))) (hk := by omega) (hn := by omega) (h := fun v358 M358 N358 hp358 hs358 => ?_)
        obtain ⟨r, s1, hF, rfl, hC1⟩ := hp358
        refine i_L_law_361 X (h := ?_)
        refine i_L_law_362 X (h := ?_)
        refine i_L_law_363 X (h := ?_)
        refine i_L_law_364 X (h := ?_)
        refine i_L_law_365 X (h := ?_)
        refine i_L_law_366 X (hx := nI_add (2 + 5 * J) 1) (hj := by omega) (hw := by omega) (h := ?_)
        refine i_L_law_367 X (h := ?_)
        refine i_L_law_368 X (h := ?_)
        refine i_L_law_369 X (h := ?_)
        refine i_L_law_370 X (h := ?_)
        refine i_L_law_371 X (hx := nI_add (2 + 5 * J) 2) (hj := by omega) (hw := by omega) (h := ?_)
        refine i_L_law_372 X (hsp := hs358.symm) (hM := hM2) (hC := ct_T_turnBack G hS hJ (xs (2 + 5 * J + 1)) (xs (2 + 5 * J + 2))) (hk := by omega) (hn := by omega) (h := fun v372 M372 N372 hp372 hs372 => ?_)
        obtain ⟨r2, s2, hF2, rfl, hS1⟩ := hp372
        rw [hF] at hF2
        obtain ⟨rfl, rfl⟩ := Prod.mk.inj hF2
        have hsx := hs372.symm
        refine i_L_law_375 X (h1 := fun c375 => ?_) (h2 := fun c375 => ?_)
        · skip
          exact K _ _ _ _ _ _ hsx hC1 hS1 (by omega) (by omega)
        · skip
          exact absurd rfl c375 --end
      · skip
        refine i_L_law_380 X (h := ?_)
        refine i_L_law_381 X (h := ?_)
        refine i_L_law_382 X (h := ?_)
        refine i_L_law_383 X (h := ?_)
        refine i_L_law_384 X (h := ?_)
        refine i_L_law_385 X (hx := nI_add (2 + 5 * J) 1) (hj := by omega) (hw := by omega) (h := ?_)
        refine i_L_law_386 X (h := ?_)
        refine i_L_law_387 X (h := ?_)
        refine i_L_law_388 X (h := ?_)
        refine i_L_law_389 X (h := ?_)
        refine i_L_law_390 X (hx := nI_add (2 + 5 * J) 2) (hj := by omega) (hw := by omega) (h := ?_)
        refine i_L_law_391 X (h := ?_)
        refine i_L_law_392 X (h := ?_)
        refine i_L_law_393 X (h := ?_)
        refine i_L_law_394 X (h := ?_)
        refine i_L_law_395 X (hx := nI_add (2 + 5 * J) 3) (hj := by omega) (hw := by omega) (h := ?_)
        refine i_L_law_396 X (hsp := hsp) (hM := hM1) (hC := ct_P_putBack G hm hC hsp0 (xs (2 + 5 * J + 1)) (xs (2 + 5 * J + 2)) (xs (2 + 5 * J + 3))) (hk := by omega) (hn := by omega) (h := fun v396 M396 N396 hp396 hs396 => ?_)
        obtain ⟨r, s1, hF, rfl, hC1⟩ := hp396
        refine i_L_law_399 X (h := ?_)
        refine i_L_law_400 X (h := ?_)
        refine i_L_law_401 X (h := ?_)
        refine i_L_law_402 X (h := ?_)
        refine i_L_law_403 X (h := ?_)
        refine i_L_law_404 X (hx := nI_add (2 + 5 * J) 1) (hj := by omega) (hw := by omega) (h := ?_)
        refine i_L_law_405 X (h := ?_)
        refine i_L_law_406 X (h := ?_)
        refine i_L_law_407 X (h := ?_)
        refine i_L_law_408 X (h := ?_)
        refine i_L_law_409 X (hx := nI_add (2 + 5 * J) 2) (hj := by omega) (hw := by omega) (h := ?_)
        refine i_L_law_410 X (h := ?_)
        refine i_L_law_411 X (h := ?_)
        refine i_L_law_412 X (h := ?_)
        refine i_L_law_413 X (h := ?_)
        refine i_L_law_414 X (hx := nI_add (2 + 5 * J) 3) (hj := by omega) (hw := by omega) (h := ?_)
        refine i_L_law_415 X (hsp := hs396.symm) (hM := hM2) (hC := ct_T_putBack G hS hJ (xs (2 + 5 * J + 1)) (xs (2 + 5 * J + 2)) (xs (2 + 5 * J + 3))) (hk := by omega) (hn := by omega) (h := fun v415 M415 N415 hp415 hs415 => ?_)
        obtain ⟨r2, s2, hF2, rfl, hS1⟩ := hp415
        rw [hF] at hF2
        obtain ⟨rfl, rfl⟩ := Prod.mk.inj hF2
        have hsx := hs415.symm
        refine i_L_law_418 X (h1 := fun c418 => ?_) (h2 := fun c418 => ?_)
        · skip
          exact K _ _ _ _ _ _ hsx hC1 hS1 (by omega) (by omega)
        · skip
          exact absurd rfl c418 --end
      · skip
        refine i_L_law_423 X (h := ?_)
        refine i_L_law_424 X (h := ?_)
        refine i_L_law_425 X (h := ?_)
        refine i_L_law_426 X (h := ?_)
        refine i_L_law_427 X (h := ?_)
        refine i_L_law_428 X (hx := nI_add (2 + 5 * J) 1) (hj := by omega) (hw := by omega) (h := ?_)
        refine i_L_law_429 X (h := ?_)
        refine i_L_law_430 X (h := ?_)
        refine i_L_law_431 X (h := ?_)
        refine i_L_law_432 X (h := ?_)
        refine i_L_law_433 X (hx := nI_add (2 + 5 * J) 2) (hj := by omega) (hw := by omega) (h := ?_)
        refine i_L_law_434 X (h := ?_)
        refine i_L_law_435 X (h := ?_)
        refine i_L_law_436 X (h := ?_)
        refine i_L_law_437 X (h := ?_)
        refine i_L_law_438 X (hx := nI_add (2 + 5 * J) 3) (hj := by omega) (hw := by omega) (h := ?_)
        refine i_L_law_439 X (hsp := hsp) (hM := hM1) (hC := ct_P_look G hm hC (xs (2 + 5 * J + 1)) (xs (2 + 5 * J + 2)) (xs (2 + 5 * J + 3))) (hk := by omega) (hn := by omega) (h := fun v439 M439 N439 hp439 hs439 => ?_)
        obtain ⟨r, s1, hF, rfl, hC1⟩ := hp439
        refine i_L_law_442 X (h := ?_)
        refine i_L_law_443 X (h := ?_)
        refine i_L_law_444 X (h := ?_)
        refine i_L_law_445 X (h := ?_)
        refine i_L_law_446 X (h := ?_)
        refine i_L_law_447 X (hx := nI_add (2 + 5 * J) 1) (hj := by omega) (hw := by omega) (h := ?_)
        refine i_L_law_448 X (h := ?_)
        refine i_L_law_449 X (h := ?_)
        refine i_L_law_450 X (h := ?_)
        refine i_L_law_451 X (h := ?_)
        refine i_L_law_452 X (hx := nI_add (2 + 5 * J) 2) (hj := by omega) (hw := by omega) (h := ?_)
        refine i_L_law_453 X (h := ?_)
        refine i_L_law_454 X (h := ?_)
        refine i_L_law_455 X (h := ?_)
        refine i_L_law_456 X (h := ?_)
        refine i_L_law_457 X (hx := nI_add (2 + 5 * J) 3) (hj := by omega) (hw := by omega) (h := ?_)
        refine i_L_law_458 X (hsp := hs439.symm) (hM := hM2) (hC := ct_T_look G hS hJ (xs (2 + 5 * J + 1)) (xs (2 + 5 * J + 2)) (xs (2 + 5 * J + 3))) (hk := by omega) (hn := by omega) (h := fun v458 M458 N458 hp458 hs458 => ?_)
        obtain ⟨r2, s2, hF2, rfl, hS1⟩ := hp458
        rw [hF] at hF2
        obtain ⟨rfl, rfl⟩ := Prod.mk.inj hF2
        have hsx := hs458.symm
        refine i_L_law_461 X (h1 := fun c461 => ?_) (h2 := fun c461 => ?_)
        · skip
          exact K _ _ _ _ _ _ hsx hC1 hS1 (by omega) (by omega)
        · skip
          exact absurd rfl c461 --end
      · skip
        refine i_L_law_466 X (h := ?_)
        refine i_L_law_467 X (h := ?_)
        refine i_L_law_468 X (h := ?_)
        refine i_L_law_469 X (h := ?_)
        refine i_L_law_470 X (h := ?_)
        refine i_L_law_471 X (hx := nI_add (2 + 5 * J) 1) (hj := by omega) (hw := by omega) (h := ?_)
        refine i_L_law_472 X (h := ?_)
        refine i_L_law_473 X (h := ?_)
        refine i_L_law_474 X (h := ?_)
        refine i_L_law_475 X (h := ?_)
        refine i_L_law_476 X (hx := nI_add (2 + 5 * J) 2) (hj := by omega) (hw := by omega) (h := ?_)
        refine i_L_law_477 X (h := ?_)
        refine i_L_law_478 X (h := ?_)
        refine i_L_law_479 X (h := ?_)
        refine i_L_law_480 X (h := ?_)
        refine i_L_law_481 X (hx := nI_add (2 + 5 * J) 3) (hj := by omega) (hw := by omega) (h := ?_)
        refine i_L_law_482 X (hsp := hsp) (hM := hM1) (hC := ct_P_next G hm hC (xs (2 + 5 * J + 1)) (xs (2 + 5 * J + 2)) (xs (2 + 5 * J + 3))) (hk := by omega) (hn := by omega) (h := fun v482 M482 N482 hp482 hs482 => ?_)
        obtain ⟨r, s1, hF, rfl, hC1⟩ := hp482
        refine i_L_law_485 X (h := ?_)
        refine i_L_law_486 X (h := ?_)
        refine i_L_law_487 X (h := ?_)
        refine i_L_law_488 X (h := ?_)
        refine i_L_law_489 X (h := ?_)
        refine i_L_law_490 X (hx := nI_add (2 + 5 * J) 1) (hj := by omega) (hw := by omega) (h := ?_)
        refine i_L_law_491 X (h := ?_)
        refine i_L_law_492 X (h := ?_)
        refine i_L_law_493 X (h := ?_)
        refine i_L_law_494 X (h := ?_)
        refine i_L_law_495 X (hx := nI_add (2 + 5 * J) 2) (hj := by omega) (hw := by omega) (h := ?_)
        refine i_L_law_496 X (h := ?_)
        refine i_L_law_497 X (h := ?_)
        refine i_L_law_498 X (h := ?_)
        refine i_L_law_499 X (h := ?_)
        refine i_L_law_500 X (hx := nI_add (2 + 5 * J) 3) (hj := by omega) (hw := by omega) (h := ?_)
        refine i_L_law_501 X (hsp := hs482.symm) (hM := hM2) (hC := ct_T_next G hS hJ (xs (2 + 5 * J + 1)) (xs (2 + 5 * J + 2)) (xs (2 + 5 * J + 3))) (hk := by omega) (hn := by omega) (h := fun v501 M501 N501 hp501 hs501 => ?_)
        obtain ⟨r2, s2, hF2, rfl, hS1⟩ := hp501
        rw [hF] at hF2
        obtain ⟨rfl, rfl⟩ := Prod.mk.inj hF2
        have hsx := hs501.symm
        refine i_L_law_504 X (h1 := fun c504 => ?_) (h2 := fun c504 => ?_)
        · skip
          exact K _ _ _ _ _ _ hsx hC1 hS1 (by omega) (by omega)
        · skip
          exact absurd rfl c504 --end
      · skip
        refine i_L_law_509 X (h := ?_)
        refine i_L_law_510 X (h := ?_)
        refine i_L_law_511 X (h := ?_)
        refine i_L_law_512 X (h := ?_)
        refine i_L_law_513 X (h := ?_)
        refine i_L_law_514 X (hx := nI_add (2 + 5 * J) 1) (hj := by omega) (hw := by omega) (h := ?_)
        refine i_L_law_515 X (h := ?_)
        refine i_L_law_516 X (h := ?_)
        refine i_L_law_517 X (h := ?_)
        refine i_L_law_518 X (h := ?_)
        refine i_L_law_519 X (hx := nI_add (2 + 5 * J) 2) (hj := by omega) (hw := by omega) (h := ?_)
        refine i_L_law_520 X (h := ?_)
        refine i_L_law_521 X (h := ?_)
        refine i_L_law_522 X (h := ?_)
        refine i_L_law_523 X (h := ?_)
        refine i_L_law_524 X (hx := nI_add (2 + 5 * J) 3) (hj := by omega) (hw := by omega) (h := ?_)
        refine i_L_law_525 X (hsp := hsp) (hM := hM1) (hC := ct_P_read G hm hC (xs (2 + 5 * J + 1)) (xs (2 + 5 * J + 2)) (xs (2 + 5 * J + 3))) (hk := by omega) (hn := by omega) (h := fun v525 M525 N525 hp525 hs525 => ?_)
        obtain ⟨r, s1, hF, rfl, hC1⟩ := hp525
        refine i_L_law_528 X (h := ?_)
        refine i_L_law_529 X (h := ?_)
        refine i_L_law_530 X (h := ?_)
        refine i_L_law_531 X (h := ?_)
        refine i_L_law_532 X (h := ?_)
        refine i_L_law_533 X (hx := nI_add (2 + 5 * J) 1) (hj := by omega) (hw := by omega) (h := ?_)
        refine i_L_law_534 X (h := ?_)
        refine i_L_law_535 X (h := ?_)
        refine i_L_law_536 X (h := ?_)
        refine i_L_law_537 X (h := ?_)
        refine i_L_law_538 X (hx := nI_add (2 + 5 * J) 2) (hj := by omega) (hw := by omega) (h := ?_)
        refine i_L_law_539 X (h := ?_)
        refine i_L_law_540 X (h := ?_)
        refine i_L_law_541 X (h := ?_)
        refine i_L_law_542 X (h := ?_)
        refine i_L_law_543 X (hx := nI_add (2 + 5 * J) 3) (hj := by omega) (hw := by omega) (h := ?_)
        refine i_L_law_544 X (hsp := hs525.symm) (hM := hM2) (hC := ct_T_read G hS hJ (xs (2 + 5 * J + 1)) (xs (2 + 5 * J + 2)) (xs (2 + 5 * J + 3))) (hk := by omega) (hn := by omega) (h := fun v544 M544 N544 hp544 hs544 => ?_)
        obtain ⟨r2, s2, hF2, rfl, hS1⟩ := hp544
        rw [hF] at hF2
        obtain ⟨rfl, rfl⟩ := Prod.mk.inj hF2
        have hsx := hs544.symm
        refine i_L_law_547 X (h := ?_)
        refine i_L_law_548 X (h1 := fun c548 => ?_) (h2 := fun c548 => ?_)
        · skip
          exact K _ _ _ _ _ _ hsx hC1 hS1 (by omega) (by omega)
        · skip
          exact absurd (lg_same _) c548 --end
      · skip
        refine i_L_law_553 X (h := ?_)
        refine i_L_law_554 X (h := ?_)
        refine i_L_law_555 X (h := ?_)
        refine i_L_law_556 X (h := ?_)
        refine i_L_law_557 X (h := ?_)
        refine i_L_law_558 X (hx := nI_add (2 + 5 * J) 1) (hj := by omega) (hw := by omega) (h := ?_)
        refine i_L_law_559 X (h := ?_)
        refine i_L_law_560 X (h := ?_)
        refine i_L_law_561 X (h := ?_)
        refine i_L_law_562 X (h := ?_)
        refine i_L_law_563 X (hx := nI_add (2 + 5 * J) 2) (hj := by omega) (hw := by omega) (h := ?_)
        refine i_L_law_564 X (hsp := hsp) (hM := hM1) (hC := ct_P_below G hm hC hsp0 (xs (2 + 5 * J + 1)) (xs (2 + 5 * J + 2))) (hk := by omega) (hn := by omega) (h := fun v564 M564 N564 hp564 hs564 => ?_)
        obtain ⟨r, s1, hF, rfl, hC1⟩ := hp564
        refine i_L_law_567 X (h := ?_)
        refine i_L_law_568 X (h := ?_)
        refine i_L_law_569 X (h := ?_)
        refine i_L_law_570 X (h := ?_)
        refine i_L_law_571 X (h := ?_)
        refine i_L_law_572 X (hx := nI_add (2 + 5 * J) 1) (hj := by omega) (hw := by omega) (h := ?_)
        refine i_L_law_573 X (h := ?_)
        refine i_L_law_574 X (h := ?_)
        refine i_L_law_575 X (h := ?_)
        refine i_L_law_576 X (h := ?_)
        refine i_L_law_577 X (hx := nI_add (2 + 5 * J) 2) (hj := by omega) (hw := by omega) (h := ?_)
        refine i_L_law_578 X (hsp := hs564.symm) (hM := hM2) (hC := ct_T_below G hS hJ (xs (2 + 5 * J + 1)) (xs (2 + 5 * J + 2))) (hk := by omega) (hn := by omega) (h := fun v578 M578 N578 hp578 hs578 => ?_)
        obtain ⟨r2, s2, hF2, rfl, hS1⟩ := hp578
        rw [hF] at hF2
        obtain ⟨rfl, rfl⟩ := Prod.mk.inj hF2
        have hsx := hs578.symm
        refine i_L_law_581 X (h1 := fun c581 => ?_) (h2 := fun c581 => ?_)
        · skip
          exact K _ _ _ _ _ _ hsx hC1 hS1 (by omega) (by omega)
        · skip
          exact absurd rfl c581 --end
      · skip
        refine i_L_law_586 X (h := ?_)
        refine i_L_law_587 X (h := ?_)
        refine i_L_law_588 X (h := ?_)
        refine i_L_law_589 X (h := ?_)
        refine i_L_law_590 X (h := ?_)
        refine i_L_law_591 X (hx := nI_add (2 + 5 * J) 1) (hj := by omega) (hw := by omega) (h := ?_)
        refine i_L_law_592 X (hsp := hsp) (hM := hM1) (hC := ct_P_thin G hm hC hnd (xs (2 + 5 * J + 1))) (hk := by omega) (hn := by omega) (h := fun v592 M592 N592 hp592 hs592 => ?_)
        obtain ⟨r, s1, hF, rfl, hC1⟩ := hp592
        refine i_L_law_595 X (h := ?_)
        refine i_L_law_596 X (h := ?_)
        refine i_L_law_597 X (h := ?_)
        refine i_L_law_598 X (h := ?_)
        refine i_L_law_599 X (h := ?_)
        refine i_L_law_600 X (hx := nI_add (2 + 5 * J) 1) (hj := by omega) (hw := by omega) (h := ?_)
        refine i_L_law_601 X (hsp := hs592.symm) (hM := hM2) (hC := ct_T_thin G hS hJ (xs (2 + 5 * J + 1))) (hk := by omega) (hn := by omega) (h := fun v601 M601 N601 hp601 hs601 => ?_)
        obtain ⟨r2, s2, hF2, rfl, hS1⟩ := hp601
        rw [hF] at hF2
        obtain ⟨rfl, rfl⟩ := Prod.mk.inj hF2
        have hsx := hs601.symm
        refine i_L_law_604 X (h1 := fun c604 => ?_) (h2 := fun c604 => ?_)
        · skip
          exact K _ _ _ _ _ _ hsx hC1 hS1 (by omega) (by omega)
        · skip
          exact absurd rfl c604 --end
      · skip
        refine i_L_law_609 X (h := ?_)
        refine i_L_law_610 X (hsp := hsp) (hM := hM1) (hC := ct_P_sync G hC) (hk := by omega) (hn := by omega) (h := fun v610 M610 N610 hp610 hs610 => ?_)
        obtain ⟨r, s1, hF, rfl, hC1⟩ := hp610
        refine i_L_law_613 X (h := ?_)
        refine i_L_law_614 X (hsp := hs610.symm) (hM := hM2) (hC := ct_T_sync (cN := cN) hS hJ) (hk := by omega) (hn := by omega) (h := fun v614 M614 N614 hp614 hs614 => ?_)
        obtain ⟨r2, s2, hF2, rfl, hS1⟩ := hp614
        rw [hF] at hF2
        obtain ⟨rfl, rfl⟩ := Prod.mk.inj hF2
        have hsx := hs614.symm
        refine i_L_law_617 X (h1 := fun c617 => ?_) (h2 := fun c617 => ?_)
        · skip
          exact K _ _ _ _ _ _ hsx hC1 hS1 (by omega) (by omega)
        · skip
          exact absurd rfl c617 --end
      · skip
        refine i_L_law_622 X (h := ?_)
        refine i_L_law_623 X (hsp := hsp) (hM := hM1) (hC := ct_P_crash G hC) (hk := by omega) (hn := by omega) (h := fun v623 M623 N623 hp623 hs623 => ?_)
        obtain ⟨r, s1, hF, rfl, hC1⟩ := hp623
        refine i_L_law_626 X (h := ?_)
        refine i_L_law_627 X (hsp := hs623.symm) (hM := hM2) (hC := ct_T_crash (cN := cN) hS hJ) (hk := by omega) (hn := by omega) (h := fun v627 M627 N627 hp627 hs627 => ?_)
        obtain ⟨r2, s2, hF2, rfl, hS1⟩ := hp627
        rw [hF] at hF2
        obtain ⟨rfl, rfl⟩ := Prod.mk.inj hF2
        have hsx := hs627.symm
        refine i_L_law_630 X (h1 := fun c630 => ?_) (h2 := fun c630 => ?_)
        · skip
          exact K _ _ _ _ _ _ hsx hC1 hS1 (by omega) (by omega)
        · skip
          exact absurd rfl c630 --end
      · skip
        refine i_L_law_635 X (h := ?_)
        refine i_L_law_636 X (h := ?_)
        refine i_L_law_637 X (h := ?_)
        refine i_L_law_638 X (h := ?_)
        refine i_L_law_639 X (h := ?_)
        refine i_L_law_640 X (hx := nI_add (2 + 5 * J) 1) (hj := by omega) (hw := by omega) (h := ?_)
        refine i_L_law_641 X (h := ?_)
        refine i_L_law_642 X (h := ?_)
        refine i_L_law_643 X (h := ?_)
        refine i_L_law_644 X (h := ?_)
        refine i_L_law_645 X (hx := nI_add (2 + 5 * J) 2) (hj := by omega) (hw := by omega) (h := ?_)
        refine i_L_law_646 X (hsp := hsp) (hM := hM1) (hC := ct_P_node G hm hC (xs (2 + 5 * J + 1)) (xs (2 + 5 * J + 2))) (hk := by omega) (hn := by omega) (h := fun v646 M646 N646 hp646 hs646 => ?_)
        obtain ⟨r, s1, hF, rfl, hC1⟩ := hp646
        refine i_L_law_649 X (h := ?_)
        refine i_L_law_650 X (h := ?_)
        refine i_L_law_651 X (h := ?_)
        refine i_L_law_652 X (h := ?_)
        refine i_L_law_653 X (h := ?_)
        refine i_L_law_654 X (hx := nI_add (2 + 5 * J) 1) (hj := by omega) (hw := by omega) (h := ?_)
        refine i_L_law_655 X (h := ?_)
        refine i_L_law_656 X (h := ?_)
        refine i_L_law_657 X (h := ?_)
        refine i_L_law_658 X (h := ?_)
        refine i_L_law_659 X (hx := nI_add (2 + 5 * J) 2) (hj := by omega) (hw := by omega) (h := ?_)
        refine i_L_law_660 X (hsp := hs646.symm) (hM := hM2) (hC := ct_T_node G hS hJ (xs (2 + 5 * J + 1)) (xs (2 + 5 * J + 2))) (hk := by omega) (hn := by omega) (h := fun v660 M660 N660 hp660 hs660 => ?_)
        obtain ⟨r2, s2, hF2, rfl, hS1⟩ := hp660
        rw [hF] at hF2
        obtain ⟨rfl, rfl⟩ := Prod.mk.inj hF2
        have hsx := hs660.symm
        refine i_L_law_663 X (h1 := fun c663 => ?_) (h2 := fun c663 => ?_)
        · skip
          exact K _ _ _ _ _ _ hsx hC1 hS1 (by omega) (by omega)
        · skip
          exact absurd rfl c663 --end
      · skip
        refine i_L_law_668 X (h := ?_)
        refine i_L_law_669 X (h := ?_)
        refine i_L_law_670 X (h := ?_)
        refine i_L_law_671 X (h := ?_)
        refine i_L_law_672 X (h := ?_)
        refine i_L_law_673 X (hx := nI_add (2 + 5 * J) 1) (hj := by omega) (hw := by omega) (h := ?_)
        refine i_L_law_674 X (h := ?_)
        refine i_L_law_675 X (h := ?_)
        refine i_L_law_676 X (h := ?_)
        refine i_L_law_677 X (h := ?_)
        refine i_L_law_678 X (hx := nI_add (2 + 5 * J) 2) (hj := by omega) (hw := by omega) (h := ?_)
        refine i_L_law_679 X (hsp := hsp) (hM := hM1) (hC := ct_P_versionTime G hm hC (xs (2 + 5 * J + 1)) (xs (2 + 5 * J + 2))) (hk := by omega) (hn := by omega) (h := fun v679 M679 N679 hp679 hs679 => ?_)
        obtain ⟨r, s1, hF, rfl, hC1⟩ := hp679
        refine i_L_law_682 X (h := ?_)
        refine i_L_law_683 X (h := ?_)
        refine i_L_law_684 X (h := ?_)
        refine i_L_law_685 X (h := ?_)
        refine i_L_law_686 X (h := ?_)
        refine i_L_law_687 X (hx := nI_add (2 + 5 * J) 1) (hj := by omega) (hw := by omega) (h := ?_)
        refine i_L_law_688 X (h := ?_)
        refine i_L_law_689 X (h := ?_)
        refine i_L_law_690 X (h := ?_)
        refine i_L_law_691 X (h := ?_)
        refine i_L_law_692 X (hx := nI_add (2 + 5 * J) 2) (hj := by omega) (hw := by omega) (h := ?_)
        refine i_L_law_693 X (hsp := hs679.symm) (hM := hM2) (hC := ct_T_versionTime G hS hJ (xs (2 + 5 * J + 1)) (xs (2 + 5 * J + 2))) (hk := by omega) (hn := by omega) (h := fun v693 M693 N693 hp693 hs693 => ?_)
        obtain ⟨r2, s2, hF2, rfl, hS1⟩ := hp693
        rw [hF] at hF2
        obtain ⟨rfl, rfl⟩ := Prod.mk.inj hF2
        have hsx := hs693.symm
        refine i_L_law_696 X (h1 := fun c696 => ?_) (h2 := fun c696 => ?_)
        · skip
          exact K _ _ _ _ _ _ hsx hC1 hS1 (by omega) (by omega)
        · skip
          exact absurd rfl c696 --end
      · skip
        refine i_L_law_701 X (h := ?_)
        refine i_L_law_702 X (h := ?_)
        refine i_L_law_703 X (h := ?_)
        refine i_L_law_704 X (h := ?_)
        refine i_L_law_705 X (h := ?_)
        refine i_L_law_706 X (hx := nI_add (2 + 5 * J) 1) (hj := by omega) (hw := by omega) (h := ?_)
        refine i_L_law_707 X (hsp := hsp) (hM := hM1) (hC := ct_P_count (cB := cB) hC (xs (2 + 5 * J + 1))) (hk := by omega) (hn := by omega) (h := fun v707 M707 N707 hp707 hs707 => ?_)
        obtain ⟨r, s1, hF, rfl, hC1⟩ := hp707
        refine i_L_law_710 X (h := ?_)
        refine i_L_law_711 X (h := ?_)
        refine i_L_law_712 X (h := ?_)
        refine i_L_law_713 X (h := ?_)
        refine i_L_law_714 X (h := ?_)
        refine i_L_law_715 X (hx := nI_add (2 + 5 * J) 1) (hj := by omega) (hw := by omega) (h := ?_)
        refine i_L_law_716 X (hsp := hs707.symm) (hM := hM2) (hC := ct_T_count G hS hJ (xs (2 + 5 * J + 1))) (hk := by omega) (hn := by omega) (h := fun v716 M716 N716 hp716 hs716 => ?_)
        obtain ⟨r2, s2, hF2, rfl, hS1⟩ := hp716
        rw [hF] at hF2
        obtain ⟨rfl, rfl⟩ := Prod.mk.inj hF2
        have hsx := hs716.symm
        refine i_L_law_719 X (h1 := fun c719 => ?_) (h2 := fun c719 => ?_)
        · skip
          exact K _ _ _ _ _ _ hsx hC1 hS1 (by omega) (by omega)
        · skip
          exact absurd rfl c719 --end
      · skip
        exact K _ _ _ _ _ _ hsp hC hS9 (by omega) (by omega)
