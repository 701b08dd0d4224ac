theorem cc_nI (j k : Nat) : nI j * 4 + nI k = nI (j * 4 + k) := by
  rw [show (4 : Int32) = nI 4 from rfl, pk_mul, nI_add]
theorem c8_nI (n : Nat) : nI n * 8 = nI (n * 8) := by
  rw [show (8 : Int32) = nI 8 from rfl, pk_mul]
theorem c88_nI (n : Nat) : nI n * 8 + 8 = nI (n * 8 + 8) := by
  rw [c8_nI, show (8 : Int32) = nI 8 from rfl, nI_add]
theorem upd_cg {E E' : Nat → Int32} {q b : Nat} {v : Int32} (h : ∀ e, e < b → E e = E' e) : ∀ e, e < b → upd E q v e = upd E' q v e := fun e he => by
  by_cases hq : e = q
  · subst hq
    rw [pk_us, pk_us]
  · rw [pk_un hq, pk_un hq]
    exact h e he
/-- what change k does to the entries -/
def apE (S N U : Nat → Int32) (k : Nat) (E : Nat → Int32) : Nat → Int32 :=
  if S k < 0 then (if U k < 0 then E else upd E (U k).toNatClampNeg 0) else upd (if U k < 0 then E else upd E (U k).toNatClampNeg 0) (S k).toNatClampNeg (N k)
/-- the entries by the first k changes that were made at or before t -/
def rep (W S N U : Nat → Int32) (t : Int32) : Nat → Nat → Int32
  | 0 => fun _ => 0
  | k + 1 => if W k ≤ t then apE S N U k (rep W S N U t k) else rep W S N U t k
def lgOk (S U : Nat → Int32) (c : Nat) : Prop := ∀ i, i < c → (U i < 0 ∨ ∃ q, q < 192 ∧ U i = nI q) ∧ (S i < 0 ∨ ∃ q, q < 192 ∧ S i = nI q)
/-- the twin's search for the time of version k, from change i on -/
def tof (F W : Nat → Int32) (f k : Int32) : Nat → Nat → Int32 → Int32 → Int32
  | 0, _, _, _ => -1
  | n + 1, i, a, last => if F i = f ∧ last < W i then (if a + 1 = k then W i else tof F W f k n (i + 1) (a + 1) (W i)) else tof F W f k n (i + 1) a last
set_option maxRecDepth 20000 in
set_option maxHeartbeats 1000000 in
theorem lp_T_hasEntries {z : zT} {ws0 : va_W} {mc ms : Nat} {M : mM} {cI cB cN : ClassId} {t0 : Nat} {ad : Nat → Nat} {W S N U F K C Qf Qt E R : Nat → Int32} {w g ck dk : Int32} {c d gn : Nat} (G : GT z cI cB cN) (hT : TI M cI cB t0 ad W S N U F K C Qf Qt E R w g ck dk c d gn) {n : Nat} (hn : n < 24) (X : B_T_hasEntries z ws0 mc ms (fun v M1 => ∃ b : Bool, v = some (.int (bI (b = true))) ∧ (b = true ↔ ∃ k, k < 8 ∧ 0 < E (n * 8 + k)) ∧ M1 = M)) : ∀ (k j : Nat), j + k = n * 8 + 8 → n * 8 ≤ j → (∀ e, n * 8 ≤ e → e < j → ¬ 0 < E e) → RN z 5 [some (.ref t0), some (.int (nI n)), some (.int (nI j))] [] M 0 0 := by
  obtain ⟨hO, tW, tS, tN, tU, tF, tK, tC, tGF, tGT, tE, tR, tI⟩ := hT
  intro k
  induction k with
  | zero =>
    intro j hj hj2 hr
    have hj : j = n * 8 + 8 := by omega
    subst hj
    refine i_T_hasEntries_5 X (h := ?_)
    refine i_T_hasEntries_6 X (h := ?_)
    refine i_T_hasEntries_7 X (h := ?_)
    refine i_T_hasEntries_9 X (h := ?_)
    refine i_T_hasEntries_10 X (h := ?_)
    refine i_T_hasEntries_12 X (h := ?_)
    refine i_T_hasEntries_13 X (h1 := fun c13 => ?_) (h2 := fun c13 => ?_)
    · skip
      refine i_T_hasEntries_33 X (h := ?_)
      exact i_T_hasEntries_34 X (hk := by omega) (hn := by omega) (hx := by first | exact Or.inl rfl | exact Or.inr rfl | assumption) (hp := ⟨false, rfl, ⟨fun h => absurd h (by decide), fun ⟨q, hq, h⟩ => absurd h (hr (n * 8 + q) (by omega) (by omega))⟩, rfl⟩)
    · skip
      exact absurd (by rw [c88_nI]; exact nI_le (Nat.le_refl _) (by omega)) c13 --end
  | succ k ih =>
    intro j hj hj2 hr
    refine i_T_hasEntries_5 X (h := ?_)
    refine i_T_hasEntries_6 X (h := ?_)
    refine i_T_hasEntries_7 X (h := ?_)
    refine i_T_hasEntries_9 X (h := ?_)
    refine i_T_hasEntries_10 X (h := ?_)
    refine i_T_hasEntries_12 X (h := ?_)
    refine i_T_hasEntries_13 X (h1 := fun c13 => ?_) (h2 := fun c13 => ?_)
    · skip
      exact absurd (by rw [← c88_nI]; exact c13) (nI_ge (a := j) (b := n * 8 + 8) (by omega) (by omega)) --end
    · skip
      refine i_T_hasEntries_16 X (h := ?_)
      refine i_T_hasEntries_17 X (hM := by assumption) (h := ?_)
      refine i_T_hasEntries_20 X (h := ?_)
      refine i_T_hasEntries_21 X G (hM := by assumption) (hx := rfl) (hj := by omega) (h := ?_)
      refine i_T_hasEntries_22 X (h1 := fun c22 => ?_) (h2 := fun c22 => ?_)
      · skip
        refine i_T_hasEntries_27 X (h := ?_)
        refine i_T_hasEntries_30 X (h := ?_)
        rw [nI_1]
        refine ih (j + 1) (by omega) (by omega) (fun e he1 he2 h => ?_)
        by_cases hij : e = j
        · subst hij
          exact absurd h (Int32.not_lt.mpr c22)
        · exact hr e he1 (by omega) h
      · skip
        refine i_T_hasEntries_25 X (h := ?_)
        exact i_T_hasEntries_26 X (hk := by omega) (hn := by omega) (hx := by first | exact Or.inl rfl | exact Or.inr rfl | assumption) (hp := ⟨true, rfl, ⟨fun _ => ⟨j - n * 8, by omega, by rw [show n * 8 + (j - n * 8) = j by omega]; exact Int32.not_le.mp c22⟩, fun _ => rfl⟩, rfl⟩)
set_option maxRecDepth 20000 in
set_option maxHeartbeats 1000000 in
theorem ct_T_hasEntries {l : Launch} {D : va_G} {tys : List (ClassId × FieldType)} {M : mM} {cI cB cN : ClassId} {t0 : Nat} {ad : Nat → Nat} {W S N U F K C Qf Qt E R : Nat → Int32} {w g ck dk : Int32} {c d gn : Nat} (G : tys[0]? = some (cI, .int) ∧ tys[1]? = some (cB, .boolean) ∧ tys[2]? = some (cN, .object RX0)) (hT : TI M cI cB t0 ad W S N U F K C Qf Qt E R w g ck dk c d gn) {n : Nat} (hn : n < 24) : Ct_T_hasEntries l D tys 0 0 [.ref t0, .int (nI n)] M (fun v M1 => ∃ b : Bool, v = some (.int (bI (b = true))) ∧ (b = true ↔ ∃ k, k < 8 ∧ 0 < E (n * 8 + k)) ∧ M1 = M) := by
  refine Ct.of (cc := c_T_hasEntries) (maxL := 3) (ret := (some (.boolean))) (L0 := [some (.ref t0), some (.int (nI n)), none]) (by decide) (by intro v hv; simp only [List.mem_cons, List.not_mem_nil, or_false] at hv; rcases hv with rfl | rfl <;> first | rfl | exact mRf_cat (mRf_rf _)) (by simp) rfl ?_
  intro z ws0 hl hD ht X1 X2
  subst hl; subst hD; subst ht
  have X := And.intro X1 X2
  clear X1 X2
  refine i_T_hasEntries_0 X (h := ?_)
  refine i_T_hasEntries_1 X (h := ?_)
  refine i_T_hasEntries_3 X (h := ?_)
  refine i_T_hasEntries_4 X (h := ?_)
  rw [c8_nI]
  exact lp_T_hasEntries G hT hn X 8 (n * 8) (by omega) (by omega) (fun e h1 h2 => absurd h2 (by omega))
set_option maxRecDepth 20000 in
set_option maxHeartbeats 1000000 in
theorem ct_T_change {l : Launch} {D : va_G} {tys : List (ClassId × FieldType)} {M : mM} {cI cB cN : ClassId} {t0 : Nat} {ad : Nat → Nat} {W S N U F K C Qf Qt E R : Nat → Int32} {w g ck dk : Int32} {c d gn : Nat} (G : tys[0]? = some (cI, .int) ∧ tys[1]? = some (cB, .boolean) ∧ tys[2]? = some (cN, .object RX0)) (hT : TI M cI cB t0 ad W S N U F K C Qf Qt E R w g ck dk c d gn) (hc : c < 520) (s n u f m : Int32) : Ct_T_change l D tys 0 0 [.ref t0, .int s, .int n, .int u, .int f, .int m] M (fun v M1 => v = some (.int (nI c)) ∧ TI M1 cI cB t0 ad (upd W c ck) (upd S c s) (upd N c n) (upd U c u) (upd F c f) (upd K c m) C Qf Qt E R w g ck dk (c + 1) d gn) := by
  refine Ct.of (cc := c_T_change) (maxL := 7) (ret := (some (.int))) (L0 := [some (.ref t0), some (.int s), some (.int n), some (.int u), some (.int f), some (.int m), none]) (by decide) (by intro v hv; simp only [List.mem_cons, List.not_mem_nil, or_false] at hv; rcases hv with rfl | rfl | rfl | rfl | rfl | rfl <;> first | rfl | exact mRf_cat (mRf_rf _)) (by simp) rfl ?_
  intro z ws0 hl hD ht X1 X2
  subst hl; subst hD; subst ht
  have X := And.intro X1 X2
  clear X1 X2
  have hT0 := hT
  obtain ⟨hO, tW, tS, tN, tU, tF, tK, tC, tGF, tGT, tE, tR, tI⟩ := hT
  refine i_T_change_0 X (h := ?_)
  refine i_T_change_1 X (hM := by assumption) (h := ?_)
  refine i_T_change_4 X (h := ?_)
  refine i_T_change_6 X (h := ?_)
  refine i_T_change_7 X (hM := by assumption) (h := ?_)
  refine i_T_change_10 X (h := ?_)
  refine i_T_change_12 X (h := ?_)
  refine i_T_change_13 X (hM := by assumption) (h := ?_)
  refine i_T_change_16 X G (hM := by assumption) (hx := rfl) (hj := hc) (h := ?_)
  have hT1 := TI.u0 hT0 (upd W c ck)
  have hx1 := hT1
  obtain ⟨hO1, tW1, tS1, tN1, tU1, tF1, tK1, tC1, tGF1, tGT1, tE1, tR1, tI1⟩ := hx1
  refine i_T_change_17 X (h := ?_)
  refine i_T_change_18 X (hM := by assumption) (h := ?_)
  refine i_T_change_21 X (h := ?_)
  refine i_T_change_23 X (h := ?_)
  refine i_T_change_24 X G (hM := by assumption) (hx := rfl) (hj := hc) (h := ?_)
  have hT2 := TI.u1 hT1 (upd S c s)
  have hx2 := hT2
  obtain ⟨hO2, tW2, tS2, tN2, tU2, tF2, tK2, tC2, tGF2, tGT2, tE2, tR2, tI2⟩ := hx2
  refine i_T_change_25 X (h := ?_)
  refine i_T_change_26 X (hM := by assumption) (h := ?_)
  refine i_T_change_29 X (h := ?_)
  refine i_T_change_31 X (h := ?_)
  refine i_T_change_32 X G (hM := by assumption) (hx := rfl) (hj := hc) (h := ?_)
  have hT3 := TI.u2 hT2 (upd N c n)
  have hx3 := hT3
  obtain ⟨hO3, tW3, tS3, tN3, tU3, tF3, tK3, tC3, tGF3, tGT3, tE3, tR3, tI3⟩ := hx3
  refine i_T_change_33 X (h := ?_)
  refine i_T_change_34 X (hM := by assumption) (h := ?_)
  refine i_T_change_37 X (h := ?_)
  refine i_T_change_39 X (h := ?_)
  refine i_T_change_40 X G (hM := by assumption) (hx := rfl) (hj := hc) (h := ?_)
  have hT4 := TI.u3 hT3 (upd U c u)
  have hx4 := hT4
  obtain ⟨hO4, tW4, tS4, tN4, tU4, tF4, tK4, tC4, tGF4, tGT4, tE4, tR4, tI4⟩ := hx4
  refine i_T_change_41 X (h := ?_)
  refine i_T_change_42 X (hM := by assumption) (h := ?_)
  refine i_T_change_45 X (h := ?_)
  refine i_T_change_47 X (h := ?_)
  refine i_T_change_49 X G (hM := by assumption) (hx := rfl) (hj := hc) (h := ?_)
  have hT5 := TI.u4 hT4 (upd F c f)
  have hx5 := hT5
  obtain ⟨hO5, tW5, tS5, tN5, tU5, tF5, tK5, tC5, tGF5, tGT5, tE5, tR5, tI5⟩ := hx5
  refine i_T_change_50 X (h := ?_)
  refine i_T_change_51 X (hM := by assumption) (h := ?_)
  refine i_T_change_54 X (h := ?_)
  refine i_T_change_56 X (h := ?_)
  refine i_T_change_58 X G (hM := by assumption) (hx := rfl) (hj := hc) (h := ?_)
  have hT6 := TI.u5 hT5 (upd K c m)
  have hx6 := hT6
  obtain ⟨hO6, tW6, tS6, tN6, tU6, tF6, tK6, tC6, tGF6, tGT6, tE6, tR6, tI6⟩ := hx6
  refine i_T_change_59 X (h := ?_)
  refine i_T_change_60 X (h := ?_)
  refine i_T_change_61 X (hM := by assumption) (h := ?_)
  refine i_T_change_64 X (h := ?_)
  refine i_T_change_65 X (h := ?_)
  refine i_T_change_66 X (hM := by assumption) (h := ?_)
  rw [nI_1]
  refine i_T_change_69 X (h := ?_)
  exact i_T_change_71 X (hk := by omega) (hn := by omega) (hp := ⟨rfl, TI.obj hT6 (c + 1) d gn ck dk⟩)
set_option maxRecDepth 20000 in
set_option maxHeartbeats 1000000 in
theorem lp_T_copyCells {z : zT} {ws0 : va_W} {mc ms : Nat} {cI cB cN : ClassId} {t0 : Nat} {ad : Nat → Nat} {W S N U F K Qf Qt E R : Nat → Int32} {w g ck dk : Int32} {c d gn : Nat} (G : GT z cI cB cN) {C0 src : Nat → Int32} {fr : Int32} {j : Nat} (hj : j < 520) (hs : (fr < 0 ∧ ∀ k, k < 4 → src k = 0) ∨ ∃ i, i < 520 ∧ i ≠ j ∧ fr = nI i ∧ ∀ k, k < 4 → src k = C0 (i * 4 + k)) (X : B_T_copyCells z ws0 mc ms (fun v M1 => v = none ∧ ∃ C', TI M1 cI cB t0 ad W S N U F K C' Qf Qt E R w g ck dk c d gn ∧ (∀ q, q < 4 → C' (j * 4 + q) = src q) ∧ ∀ q, q / 4 ≠ j → C' q = C0 q)) : ∀ (n k : Nat) (M : mM) (C : Nat → Int32), TI M cI cB t0 ad W S N U F K C Qf Qt E R w g ck dk c d gn → k + n = 4 → (∀ q, q < k → C (j * 4 + q) = src q) → (∀ q, q / 4 ≠ j → C q = C0 q) → RN z 2 [some (.ref t0), some (.int fr), some (.int (nI j)), some (.int (nI k))] [] M 0 0 := by
  intro n
  induction n with
  | zero =>
    intro k M C hT hk h1 h2
    have hk : k = 4 := by omega
    subst hk
    refine i_T_copyCells_2 X (h := ?_)
    refine i_T_copyCells_3 X (h := ?_)
    refine i_T_copyCells_4 X (h1 := fun c4 => ?_) (h2 := fun c4 => ?_)
    · skip
      exact i_T_copyCells_41 X (hk := by omega) (hn := by omega) (hp := ⟨rfl, C, hT, h1, h2⟩)
    · skip
      exact absurd (by decide) c4 --end
  | succ n ih =>
    intro k M C hT hk h1 h2
    have hT0 := hT
    obtain ⟨hO, tW, tS, tN, tU, tF, tK, tC, tGF, tGT, tE, tR, tI⟩ := hT
    refine i_T_copyCells_2 X (h := ?_)
    refine i_T_copyCells_3 X (h := ?_)
    refine i_T_copyCells_4 X (h1 := fun c4 => ?_) (h2 := fun c4 => ?_)
    · skip
      exact absurd c4 (nI_ge (a := k) (b := 4) (by omega) (by decide)) --end
    · skip
      refine i_T_copyCells_7 X (h := ?_)
      refine i_T_copyCells_8 X (hM := by assumption) (h := ?_)
      refine i_T_copyCells_11 X (h := ?_)
      refine i_T_copyCells_12 X (h := ?_)
      refine i_T_copyCells_13 X (h := ?_)
      refine i_T_copyCells_14 X (h := ?_)
      refine i_T_copyCells_15 X (h := ?_)
      refine i_T_copyCells_16 X (h := ?_)
      refine i_T_copyCells_17 X (h1 := fun c17 => ?_) (h2 := fun c17 => ?_)
      · skip
        obtain ⟨i, hi, hij, hfr, hsr⟩ := hs.resolve_left (fun h => absurd c17 (Int32.not_le.mpr h.1))
        subst hfr
        refine i_T_copyCells_24 X (h := ?_)
        refine i_T_copyCells_25 X (hM := by assumption) (h := ?_)
        refine i_T_copyCells_28 X (h := ?_)
        refine i_T_copyCells_29 X (h := ?_)
        refine i_T_copyCells_30 X (h := ?_)
        refine i_T_copyCells_31 X (h := ?_)
        refine i_T_copyCells_32 X (h := ?_)
        refine i_T_copyCells_33 X G (hM := by assumption) (j := i * 4 + k) (hx := cc_nI i k) (hj := by omega) (h := ?_)
        refine i_T_copyCells_34 X G (hM := by assumption) (j := j * 4 + k) (hx := cc_nI j k) (hj := by omega) (h := ?_)
        refine i_T_copyCells_35 X (h := ?_)
        refine i_T_copyCells_38 X (h := ?_)
        rw [nI_1]
        refine ih (k + 1) _ _ (TI.u6 hT0 _) (by omega) (fun q hq => ?_) (fun q hq => ?_)
        · by_cases hqk : q = k
          · subst hqk
            rw [pk_us]
            rw [hsr q (by omega), h2 _ (by omega)]
          · rw [pk_un (by omega)]
            exact h1 q (by omega)
        · rw [pk_un (by omega)]
          exact h2 q hq
      · skip
        have hs0 : ∀ k, k < 4 → src k = 0 := hs.elim (fun h => h.2) (fun ⟨i, hi, _, e, _⟩ => absurd (nI_pos' (n := i) (by omega)) (by rw [← e]; exact c17))
        refine i_T_copyCells_20 X (h := ?_)
        refine i_T_copyCells_21 X (h := ?_)
        refine i_T_copyCells_34 X G (hM := by assumption) (j := j * 4 + k) (hx := cc_nI j k) (hj := by omega) (h := ?_)
        refine i_T_copyCells_35 X (h := ?_)
        refine i_T_copyCells_38 X (h := ?_)
        rw [nI_1]
        refine ih (k + 1) _ _ (TI.u6 hT0 _) (by omega) (fun q hq => ?_) (fun q hq => ?_)
        · by_cases hqk : q = k
          · subst hqk
            rw [pk_us]
            rw [hs0 q (by omega)]
          · rw [pk_un (by omega)]
            exact h1 q (by omega)
        · rw [pk_un (by omega)]
          exact h2 q hq
set_option maxRecDepth 20000 in
set_option maxHeartbeats 1000000 in
theorem ct_T_copyCells {l : Launch} {D : va_G} {tys : List (ClassId × FieldType)} {M : mM} {cI cB cN : ClassId} {t0 : Nat} {ad : Nat → Nat} {W S N U F K C Qf Qt E R : Nat → Int32} {w g ck dk : Int32} {c d gn : Nat} (G : tys[0]? = some (cI, .int) ∧ tys[1]? = some (cB, .boolean) ∧ tys[2]? = some (cN, .object RX0)) (hT : TI M cI cB t0 ad W S N U F K C Qf Qt E R w g ck dk c d gn) {src : Nat → Int32} {fr : Int32} {j : Nat} (hj : j < 520) (hs : (fr < 0 ∧ ∀ k, k < 4 → src k = 0) ∨ ∃ i, i < 520 ∧ i ≠ j ∧ fr = nI i ∧ ∀ k, k < 4 → src k = C (i * 4 + k)) : Ct_T_copyCells l D tys 0 0 [.ref t0, .int fr, .int (nI j)] M (fun v M1 => v = none ∧ ∃ C', TI M1 cI cB t0 ad W S N U F K C' Qf Qt E R w g ck dk c d gn ∧ (∀ q, q < 4 → C' (j * 4 + q) = src q) ∧ ∀ q, q / 4 ≠ j → C' q = C q) := by
  refine Ct.of (cc := c_T_copyCells) (maxL := 4) (ret := none) (L0 := [some (.ref t0), some (.int fr), some (.int (nI j)), none]) (by decide) (by intro v hv; simp only [List.mem_cons, List.not_mem_nil, or_false] at hv; rcases hv with rfl | rfl | rfl <;> first | rfl | exact mRf_cat (mRf_rf _)) (by simp) rfl ?_
  intro z ws0 hl hD ht X1 X2
  subst hl; subst hD; subst ht
  have X := And.intro X1 X2
  clear X1 X2
  refine i_T_copyCells_0 X (h := ?_)
  refine i_T_copyCells_1 X (h := ?_)
  exact lp_T_copyCells G hj hs X 4 0 M C hT rfl (fun q hq => absurd hq (by omega)) (fun q hq => rfl)
set_option maxRecDepth 20000 in
set_option maxHeartbeats 1000000 in
theorem lp2_T_asOf {z : zT} {ws0 : va_W} {mc ms : Nat} {M0 : mM} {cI cB cN : ClassId} {t0 : Nat} {ad : Nat → Nat} {W S N U F K C Qf Qt R : Nat → Int32} {w g ck dk : Int32} {c d gn : Nat} (G : GT z cI cB cN) (hc : c ≤ 512) (hlg : lgOk S U c) {t : Int32} (X : B_T_asOf z ws0 mc ms (fun v M1 => v = none ∧ ∃ E' : Nat → Int32, (∀ e, e < 192 → E' e = rep W S N U t c e) ∧ M1 = mS M0 (ad 9) (.inl (cI, 192, .inl E')))) : ∀ (n j : Nat) (M : mM) (E : Nat → Int32), TI M cI cB t0 ad W S N U F K C Qf Qt E R w g ck dk c d gn → j + n = c → (∀ e, e < 192 → E e = rep W S N U t j e) → (∀ e, mS M (ad 9) e = mS M0 (ad 9) e) → RN z 24 [some (.ref t0), some (.int t), some (.int (nI j))] [] M 0 0 := by
  intro n
  induction n with
  | zero =>
    intro j M E hT hj hr he
    have hj : j = c := by omega
    subst hj
    obtain ⟨hO, tW, tS, tN, tU, tF, tK, tC, tGF, tGT, tE, tR, tI⟩ := hT
    refine i_T_asOf_24 X (h := ?_)
    refine i_T_asOf_25 X (h := ?_)
    refine i_T_asOf_26 X (hM := by assumption) (h := ?_)
    refine i_T_asOf_29 X (h1 := fun c29 => ?_) (h2 := fun c29 => ?_)
    · skip
      exact i_T_asOf_95 X (hk := by omega) (hn := by omega) (hp := ⟨rfl, E, hr, by rw [← he, mS_same tE]⟩)
    · skip
      exact absurd (nI_le (Nat.le_refl _) (by omega)) c29 --end
  | succ n ih =>
    intro j M E hT hj hr he
    have hT0 := hT
    obtain ⟨hO, tW, tS, tN, tU, tF, tK, tC, tGF, tGT, tE, tR, tI⟩ := hT
    have hlj := hlg j (by omega)
    refine i_T_asOf_24 X (h := ?_)
    refine i_T_asOf_25 X (h := ?_)
    refine i_T_asOf_26 X (hM := by assumption) (h := ?_)
    refine i_T_asOf_29 X (h1 := fun c29 => ?_) (h2 := fun c29 => ?_)
    · skip
      exact absurd c29 (nI_ge (a := j) (b := c) (by omega) (by omega)) --end
    · skip
      refine i_T_asOf_32 X (h := ?_)
      refine i_T_asOf_33 X (hM := by assumption) (h := ?_)
      refine i_T_asOf_36 X (h := ?_)
      refine i_T_asOf_37 X G (hM := by assumption) (hx := rfl) (hj := by omega) (h := ?_)
      refine i_T_asOf_38 X (h := ?_)
      refine i_T_asOf_39 X (h1 := fun c39 => ?_) (h2 := fun c39 => ?_)
      · skip
        refine i_T_asOf_89 X (h := ?_)
        refine i_T_asOf_92 X (h := ?_)
        rw [nI_1]
        exact ih (j + 1) _ _ hT0 (by omega) (fun e h => by rw [hr e h]; simp only [rep]; rw [if_neg (Int32.not_le.mpr c39)]) he
      · skip
        refine i_T_asOf_42 X (h := ?_)
        refine i_T_asOf_43 X (hM := by assumption) (h := ?_)
        refine i_T_asOf_46 X (h := ?_)
        refine i_T_asOf_47 X G (hM := by assumption) (hx := rfl) (hj := by omega) (h := ?_)
        refine i_T_asOf_48 X (h1 := fun c48 => ?_) (h2 := fun c48 => ?_)
        · skip
          refine i_T_asOf_63 X (h := ?_)
          refine i_T_asOf_64 X (hM := by assumption) (h := ?_)
          refine i_T_asOf_67 X (h := ?_)
          refine i_T_asOf_68 X G (hM := by assumption) (hx := rfl) (hj := by omega) (h := ?_)
          refine i_T_asOf_69 X (h1 := fun c69 => ?_) (h2 := fun c69 => ?_)
          · skip
            refine i_T_asOf_89 X (h := ?_)
            refine i_T_asOf_92 X (h := ?_)
            rw [nI_1]
            refine ih (j + 1) _ _ (hT0) (by omega) (fun e h => ?_) (he)
            simp only [rep]
            rw [if_pos (Int32.not_lt.mp c39)]
            unfold apE
            rw [if_pos c69, if_pos c48]
            exact hr e h
          · skip
            obtain ⟨q2, hq2, hs2⟩ := hlj.2.resolve_left c69
            refine i_T_asOf_72 X (h := ?_)
            refine i_T_asOf_73 X (hM := by assumption) (h := ?_)
            refine i_T_asOf_76 X (h := ?_)
            refine i_T_asOf_77 X (hM := by assumption) (h := ?_)
            refine i_T_asOf_80 X (h := ?_)
            refine i_T_asOf_81 X G (hM := by assumption) (hx := rfl) (hj := by omega) (h := ?_)
            refine i_T_asOf_82 X (h := ?_)
            refine i_T_asOf_83 X (hM := by assumption) (h := ?_)
            refine i_T_asOf_86 X (h := ?_)
            refine i_T_asOf_87 X G (hM := by assumption) (hx := rfl) (hj := by omega) (h := ?_)
            refine i_T_asOf_88 X G (hM := by assumption) (hx := hs2) (hj := hq2) (h := ?_)
            refine i_T_asOf_89 X (h := ?_)
            refine i_T_asOf_92 X (h := ?_)
            rw [nI_1]
            refine ih (j + 1) _ _ (TI.u9 hT0 _) (by omega) (fun e h => ?_) (fun e => by rw [mS_mS, he])
            simp only [rep]
            rw [if_pos (Int32.not_lt.mp c39)]
            unfold apE
            rw [if_neg c69, hs2, nI_clamp (n := q2) (by omega), if_pos c48]
            exact upd_cg (hr) e h
        · skip
          obtain ⟨q, hq, hu⟩ := hlj.1.resolve_left c48
          refine i_T_asOf_51 X (h := ?_)
          refine i_T_asOf_52 X (hM := by assumption) (h := ?_)
          refine i_T_asOf_55 X (h := ?_)
          refine i_T_asOf_56 X (hM := by assumption) (h := ?_)
          refine i_T_asOf_59 X (h := ?_)
          refine i_T_asOf_60 X G (hM := by assumption) (hx := rfl) (hj := by omega) (h := ?_)
          refine i_T_asOf_61 X (h := ?_)
          refine i_T_asOf_62 X G (hM := by assumption) (hx := hu) (hj := hq) (h := ?_)
          have hT1 := TI.u9 hT0 (upd E q 0)
          have hx1 := hT1
          obtain ⟨hO1, tW1, tS1, tN1, tU1, tF1, tK1, tC1, tGF1, tGT1, tE1, tR1, tI1⟩ := hx1
          refine i_T_asOf_63 X (h := ?_)
          refine i_T_asOf_64 X (hM := by assumption) (h := ?_)
          refine i_T_asOf_67 X (h := ?_)
          refine i_T_asOf_68 X G (hM := by assumption) (hx := rfl) (hj := by omega) (h := ?_)
          refine i_T_asOf_69 X (h1 := fun c69 => ?_) (h2 := fun c69 => ?_)
          · skip
            refine i_T_asOf_89 X (h := ?_)
            refine i_T_asOf_92 X (h := ?_)
            rw [nI_1]
            refine ih (j + 1) _ _ (hT1) (by omega) (fun e h => ?_) (fun e => by rw [mS_mS, he])
            simp only [rep]
            rw [if_pos (Int32.not_lt.mp c39)]
            unfold apE
            rw [if_pos c69, if_neg c48, hu, nI_clamp (n := q) (by omega)]
            exact upd_cg hr e h
          · skip
            obtain ⟨q2, hq2, hs2⟩ := hlj.2.resolve_left c69
            refine i_T_asOf_72 X (h := ?_)
            refine i_T_asOf_73 X (hM := by assumption) (h := ?_)
            refine i_T_asOf_76 X (h := ?_)
            refine i_T_asOf_77 X (hM := by assumption) (h := ?_)
            refine i_T_asOf_80 X (h := ?_)
            refine i_T_asOf_81 X G (hM := by assumption) (hx := rfl) (hj := by omega) (h := ?_)
            refine i_T_asOf_82 X (h := ?_)
            refine i_T_asOf_83 X (hM := by assumption) (h := ?_)
            refine i_T_asOf_86 X (h := ?_)
            refine i_T_asOf_87 X G (hM := by assumption) (hx := rfl) (hj := by omega) (h := ?_)
            refine i_T_asOf_88 X G (hM := by assumption) (hx := hs2) (hj := hq2) (h := ?_)
            refine i_T_asOf_89 X (h := ?_)
            refine i_T_asOf_92 X (h := ?_)
            rw [nI_1]
            refine ih (j + 1) _ _ (TI.u9 hT1 _) (by omega) (fun e h => ?_) (fun e => by rw [mS_mS, mS_mS, he])
            simp only [rep]
            rw [if_pos (Int32.not_lt.mp c39)]
            unfold apE
            rw [if_neg c69, hs2, nI_clamp (n := q2) (by omega), if_neg c48, hu, nI_clamp (n := q) (by omega)]
            exact upd_cg (upd_cg hr) e h
set_option maxRecDepth 20000 in
set_option maxHeartbeats 1000000 in
theorem lp1_T_asOf {z : zT} {ws0 : va_W} {mc ms : Nat} {M0 : mM} {cI cB cN : ClassId} {t0 : Nat} {ad : Nat → Nat} {W S N U F K C Qf Qt R : Nat → Int32} {w g ck dk : Int32} {c d gn : Nat} (G : GT z cI cB cN) (hc : c ≤ 512) (hlg : lgOk S U c) {t : Int32} (X : B_T_asOf z ws0 mc ms (fun v M1 => v = none ∧ ∃ E' : Nat → Int32, (∀ e, e < 192 → E' e = rep W S N U t c e) ∧ M1 = mS M0 (ad 9) (.inl (cI, 192, .inl E')))) : ∀ (n j : Nat) (M : mM) (E : Nat → Int32), TI M cI cB t0 ad W S N U F K C Qf Qt E R w g ck dk c d gn → j + n = 192 → (∀ e, e < j → E e = 0) → (∀ e, mS M (ad 9) e = mS M0 (ad 9) e) → RN z 2 [some (.ref t0), some (.int t), some (.int (nI j))] [] M 0 0 := by
  intro n
  induction n with
  | zero =>
    intro j M E hT hj hr he
    have hj : j = 192 := by omega
    subst hj
    refine i_T_asOf_2 X (h := ?_)
    refine i_T_asOf_3 X (h := ?_)
    refine i_T_asOf_6 X (h1 := fun c6 => ?_) (h2 := fun c6 => ?_)
    · skip
      refine i_T_asOf_22 X (h := ?_)
      refine i_T_asOf_23 X (h := ?_)
      exact lp2_T_asOf G hc hlg X c 0 M E hT (by omega) hr he
    · skip
      exact absurd (by decide) c6 --end
  | succ n ih =>
    intro j M E hT hj hr he
    have hT0 := hT
    obtain ⟨hO, tW, tS, tN, tU, tF, tK, tC, tGF, tGT, tE, tR, tI⟩ := hT
    refine i_T_asOf_2 X (h := ?_)
    refine i_T_asOf_3 X (h := ?_)
    refine i_T_asOf_6 X (h1 := fun c6 => ?_) (h2 := fun c6 => ?_)
    · skip
      exact absurd c6 (nI_ge (a := j) (b := 192) (by omega) (by omega)) --end
    · skip
      refine i_T_asOf_9 X (h := ?_)
      refine i_T_asOf_10 X (hM := by assumption) (h := ?_)
      refine i_T_asOf_13 X (h := ?_)
      refine i_T_asOf_14 X (h := ?_)
      refine i_T_asOf_15 X G (hM := by assumption) (hx := rfl) (hj := by omega) (h := ?_)
      refine i_T_asOf_16 X (h := ?_)
      refine i_T_asOf_19 X (h := ?_)
      rw [nI_1]
      refine ih (j + 1) _ _ (TI.u9 hT0 _) (by omega) (fun i hi => ?_) (fun e => by rw [mS_mS, he])
      by_cases hij : i = j
      · subst hij
        rw [pk_us]
      · rw [pk_un hij]
        exact hr i (by omega)
set_option maxRecDepth 20000 in
set_option maxHeartbeats 1000000 in
theorem ct_T_asOf {l : Launch} {D : va_G} {tys : List (ClassId × FieldType)} {M : mM} {cI cB cN : ClassId} {t0 : Nat} {ad : Nat → Nat} {W S N U F K C Qf Qt E R : Nat → Int32} {w g ck dk : Int32} {c d gn : Nat} (G : tys[0]? = some (cI, .int) ∧ tys[1]? = some (cB, .boolean) ∧ tys[2]? = some (cN, .object RX0)) (hT : TI M cI cB t0 ad W S N U F K C Qf Qt E R w g ck dk c d gn) (hc : c ≤ 512) (hlg : lgOk S U c) (t : Int32) : Ct_T_asOf l D tys 0 0 [.ref t0, .int t] M (fun v M1 => v = none ∧ ∃ E' : Nat → Int32, (∀ e, e < 192 → E' e = rep W S N U t c e) ∧ M1 = mS M (ad 9) (.inl (cI, 192, .inl E'))) := by
  refine Ct.of (cc := c_T_asOf) (maxL := 3) (ret := none) (L0 := [some (.ref t0), some (.int t), none]) (by decide) (by intro v hv; simp only [List.mem_cons, List.not_mem_nil, or_false] at hv; rcases hv with rfl | rfl <;> first | rfl | exact mRf_cat (mRf_rf _)) (by simp) rfl ?_
  intro z ws0 hl hD ht X1 X2
  subst hl; subst hD; subst ht
  have X := And.intro X1 X2
  clear X1 X2
  refine i_T_asOf_0 X (h := ?_)
  refine i_T_asOf_1 X (h := ?_)
  exact lp1_T_asOf G hc hlg X 192 0 M E hT rfl (fun e he => absurd he (by omega)) (fun e => rfl)
set_option maxRecDepth 20000 in
set_option maxHeartbeats 1000000 in
theorem lp_T_timeOf {z : zT} {ws0 : va_W} {mc ms : Nat} {M : mM} {cI cB cN : ClassId} {t0 : Nat} {ad : Nat → Nat} {W S N U F K C Qf Qt E R : Nat → Int32} {w g ck dk : Int32} {c d gn : Nat} (G : GT z cI cB cN) (hT : TI M cI cB t0 ad W S N U F K C Qf Qt E R w g ck dk c d gn) (hc : c ≤ 512) {f k r : Int32} (X : B_T_timeOf z ws0 mc ms (fun v M1 => v = some (.int r) ∧ M1 = M)) : ∀ (n j : Nat) (a last : Int32), j + n = c → r = tof F W f k n j a last → RN z 8 [some (.ref t0), some (.int f), some (.int k), some (.int a), some (.int last), some (.int (nI j))] [] M 0 0 := by
  obtain ⟨hO, tW, tS, tN, tU, tF, tK, tC, tGF, tGT, tE, tR, tI⟩ := hT
  intro n
  induction n with
  | zero =>
    intro j a last hj hr
    have hj : j = c := by omega
    subst hj
    refine i_T_timeOf_8 X (h := ?_)
    refine i_T_timeOf_10 X (h := ?_)
    refine i_T_timeOf_11 X (hM := by assumption) (h := ?_)
    refine i_T_timeOf_14 X (h1 := fun c14 => ?_) (h2 := fun c14 => ?_)
    · skip
      refine i_T_timeOf_66 X (h := ?_)
      exact i_T_timeOf_67 X (hk := by omega) (hn := by omega) (hp := ⟨by rw [hr]; rfl, rfl⟩)
    · skip
      exact absurd (nI_le (Nat.le_refl _) (by omega)) c14 --end
  | succ n ih =>
    intro j a last hj hr
    simp only [tof] at hr
    refine i_T_timeOf_8 X (h := ?_)
    refine i_T_timeOf_10 X (h := ?_)
    refine i_T_timeOf_11 X (hM := by assumption) (h := ?_)
    refine i_T_timeOf_14 X (h1 := fun c14 => ?_) (h2 := fun c14 => ?_)
    · skip
      exact absurd c14 (nI_ge (a := j) (b := c) (by omega) (by omega)) --end
    · skip
      refine i_T_timeOf_17 X (h := ?_)
      refine i_T_timeOf_18 X (hM := by assumption) (h := ?_)
      refine i_T_timeOf_21 X (h := ?_)
      refine i_T_timeOf_23 X G (hM := by assumption) (hx := rfl) (hj := by omega) (h := ?_)
      refine i_T_timeOf_24 X (h := ?_)
      refine i_T_timeOf_25 X (h1 := fun c25 => ?_) (h2 := fun c25 => ?_)
      · skip
        refine i_T_timeOf_60 X (h := ?_)
        refine i_T_timeOf_63 X (h := ?_)
        rw [nI_1]
        exact ih (j + 1) _ _ (by omega) (by rw [hr, if_neg (fun h => c25 h.1)])
      · skip
        refine i_T_timeOf_28 X (h := ?_)
        refine i_T_timeOf_29 X (hM := by assumption) (h := ?_)
        refine i_T_timeOf_32 X (h := ?_)
        refine i_T_timeOf_34 X G (hM := by assumption) (hx := rfl) (hj := by omega) (h := ?_)
        refine i_T_timeOf_35 X (h := ?_)
        refine i_T_timeOf_37 X (h1 := fun c37 => ?_) (h2 := fun c37 => ?_)
        · skip
          refine i_T_timeOf_60 X (h := ?_)
          refine i_T_timeOf_63 X (h := ?_)
          rw [nI_1]
          exact ih (j + 1) _ _ (by omega) (by rw [hr, if_neg (fun h => absurd h.2 (Int32.not_lt.mpr c37))])
        · skip
          refine i_T_timeOf_40 X (h := ?_)
          refine i_T_timeOf_43 X (h := ?_)
          refine i_T_timeOf_44 X (hM := by assumption) (h := ?_)
          refine i_T_timeOf_47 X (h := ?_)
          refine i_T_timeOf_49 X G (hM := by assumption) (hx := rfl) (hj := by omega) (h := ?_)
          refine i_T_timeOf_50 X (h := ?_)
          refine i_T_timeOf_52 X (h := ?_)
          refine i_T_timeOf_53 X (h := ?_)
          refine i_T_timeOf_54 X (h1 := fun c54 => ?_) (h2 := fun c54 => ?_)
          · skip
            refine i_T_timeOf_60 X (h := ?_)
            refine i_T_timeOf_63 X (h := ?_)
            rw [nI_1]
            exact ih (j + 1) _ _ (by omega) (by rw [hr, if_pos ⟨c25, Int32.not_le.mp c37⟩, if_neg c54])
          · skip
            refine i_T_timeOf_57 X (h := ?_)
            exact i_T_timeOf_59 X (hk := by omega) (hn := by omega) (hp := ⟨by rw [hr, if_pos ⟨c25, Int32.not_le.mp c37⟩, if_pos c54], rfl⟩)
set_option maxRecDepth 20000 in
set_option maxHeartbeats 1000000 in
theorem ct_T_timeOf {l : Launch} {D : va_G} {tys : List (ClassId × FieldType)} {M : mM} {cI cB cN : ClassId} {t0 : Nat} {ad : Nat → Nat} {W S N U F K C Qf Qt E R : Nat → Int32} {w g ck dk : Int32} {c d gn : Nat} (G : tys[0]? = some (cI, .int) ∧ tys[1]? = some (cB, .boolean) ∧ tys[2]? = some (cN, .object RX0)) (hT : TI M cI cB t0 ad W S N U F K C Qf Qt E R w g ck dk c d gn) (hc : c ≤ 512) (f k : Int32) : Ct_T_timeOf l D tys 0 0 [.ref t0, .int f, .int k] M (fun v M1 => v = some (.int (tof F W f k c 0 (-1) (-1))) ∧ M1 = M) := by
  refine Ct.of (cc := c_T_timeOf) (maxL := 6) (ret := (some (.int))) (L0 := [some (.ref t0), some (.int f), some (.int k), none, none, none]) (by decide) (by intro v hv; simp only [List.mem_cons, List.not_mem_nil, or_false] at hv; rcases hv with rfl | rfl | rfl <;> first | rfl | exact mRf_cat (mRf_rf _)) (by simp) rfl ?_
  intro z ws0 hl hD ht X1 X2
  subst hl; subst hD; subst ht
  have X := And.intro X1 X2
  clear X1 X2
  refine i_T_timeOf_0 X (h := ?_)
  refine i_T_timeOf_1 X (h := ?_)
  refine i_T_timeOf_2 X (h := ?_)
  refine i_T_timeOf_3 X (h := ?_)
  refine i_T_timeOf_5 X (h := ?_)
  refine i_T_timeOf_6 X (h := ?_)
  exact lp_T_timeOf G hT hc X c 0 (-1) (-1) (by omega) rfl
set_option maxRecDepth 20000 in
set_option maxHeartbeats 1000000 in
theorem lp_T_versions {z : zT} {ws0 : va_W} {mc ms : Nat} {M : mM} {cI cB cN : ClassId} {t0 : Nat} {ad : Nat → Nat} {W S N U F K C Qf Qt E R : Nat → Int32} {w g ck dk : Int32} {c d gn : Nat} (G : GT z cI cB cN) (hT : TI M cI cB t0 ad W S N U F K C Qf Qt E R w g ck dk c d gn) (hc : c ≤ 512) {f : Int32} {nv : Nat} (hv1 : ∀ k, k < nv → ¬ tof F W f (nI k) c 0 (-1) (-1) < 0) (hv2 : tof F W f (nI nv) c 0 (-1) (-1) < 0) (X : B_T_versions z ws0 mc ms (fun v M1 => v = some (.int (nI nv)) ∧ M1 = M)) : ∀ (n j : Nat), j + n = nv → RN z 2 [some (.ref t0), some (.int f), some (.int (nI j))] [] M 0 0 := by
  have hT0 := hT
  obtain ⟨hO, tW, tS, tN, tU, tF, tK, tC, tGF, tGT, tE, tR, tI⟩ := hT
  intro n
  induction n with
  | zero =>
    intro j hj
    have hj : j = nv := by omega
    subst hj
    refine i_T_versions_2 X (h := ?_)
    refine i_T_versions_3 X (h := ?_)
    refine i_T_versions_4 X (h := ?_)
    refine i_T_versions_5 X (hM := by assumption) (hC := ct_T_timeOf G hT0 hc f (nI j)) (hk := by omega) (hn := by omega) (h := fun v5 M5 hp5 => ?_)
    obtain ⟨rfl, rfl⟩ := hp5
    refine i_T_versions_8 X (h1 := fun c8 => ?_) (h2 := fun c8 => ?_)
    · skip
      refine i_T_versions_17 X (h := ?_)
      exact i_T_versions_18 X (hk := by omega) (hn := by omega) (hp := ⟨rfl, rfl⟩)
    · skip
      exact absurd hv2 c8 --end
  | succ n ih =>
    intro j hj
    refine i_T_versions_2 X (h := ?_)
    refine i_T_versions_3 X (h := ?_)
    refine i_T_versions_4 X (h := ?_)
    refine i_T_versions_5 X (hM := by assumption) (hC := ct_T_timeOf G hT0 hc f (nI j)) (hk := by omega) (hn := by omega) (h := fun v5 M5 hp5 => ?_)
    obtain ⟨rfl, rfl⟩ := hp5
    refine i_T_versions_8 X (h1 := fun c8 => ?_) (h2 := fun c8 => ?_)
    · skip
      exact absurd c8 (hv1 j (by omega)) --end
    · skip
      refine i_T_versions_11 X (h := ?_)
      refine i_T_versions_14 X (h := ?_)
      rw [nI_1]
      exact ih (j + 1) (by omega)
set_option maxRecDepth 20000 in
set_option maxHeartbeats 1000000 in
theorem ct_T_versions {l : Launch} {D : va_G} {tys : List (ClassId × FieldType)} {M : mM} {cI cB cN : ClassId} {t0 : Nat} {ad : Nat → Nat} {W S N U F K C Qf Qt E R : Nat → Int32} {w g ck dk : Int32} {c d gn : Nat} (G : tys[0]? = some (cI, .int) ∧ tys[1]? = some (cB, .boolean) ∧ tys[2]? = some (cN, .object RX0)) (hT : TI M cI cB t0 ad W S N U F K C Qf Qt E R w g ck dk c d gn) (hc : c ≤ 512) {f : Int32} {nv : Nat} (hv1 : ∀ k, k < nv → ¬ tof F W f (nI k) c 0 (-1) (-1) < 0) (hv2 : tof F W f (nI nv) c 0 (-1) (-1) < 0) : Ct_T_versions l D tys 0 0 [.ref t0, .int f] M (fun v M1 => v = some (.int (nI nv)) ∧ M1 = M) := by
  refine Ct.of (cc := c_T_versions) (maxL := 3) (ret := (some (.int))) (L0 := [some (.ref t0), some (.int f), none]) (by decide) (by intro v hv; simp only [List.mem_cons, List.not_mem_nil, or_false] at hv; rcases hv with rfl | rfl <;> first | rfl | exact mRf_cat (mRf_rf _)) (by simp) rfl ?_
  intro z ws0 hl hD ht X1 X2
  subst hl; subst hD; subst ht
  have X := And.intro X1 X2
  clear X1 X2
  refine i_T_versions_0 X (h := ?_)
  refine i_T_versions_1 X (h := ?_)
  exact lp_T_versions G hT hc hv1 hv2 X nv 0 (by omega)
