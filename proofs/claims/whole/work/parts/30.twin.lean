/-- the twin's cells: the object, its eleven rows -/
def TI (M : mM) (cI cB : ClassId) (t0 : Nat) (ad : Nat → Nat) (W S N U F K C Qf Qt E R : Nat → Int32) (w g ck dk : Int32) (c d gn : Nat) : Prop :=
  M t0 = some (.inr (4, [.int w, .int g, .ref (ad 0), .ref (ad 1), .ref (ad 2), .ref (ad 3), .ref (ad 4), .ref (ad 5), .ref (ad 6), .int (nI c), .int (nI d), .int ck, .int dk, .ref (ad 7), .ref (ad 8), .int (nI gn), .ref (ad 9), .ref (ad 10)])) ∧ M (ad 0) = some (.inl (cI, 520, .inl W)) ∧ M (ad 1) = some (.inl (cI, 520, .inl S)) ∧ M (ad 2) = some (.inl (cI, 520, .inl N)) ∧ M (ad 3) = some (.inl (cI, 520, .inl U)) ∧ M (ad 4) = some (.inl (cI, 520, .inl F)) ∧ M (ad 5) = some (.inl (cI, 520, .inl K)) ∧ M (ad 6) = some (.inl (cI, 2080, .inl C)) ∧ M (ad 7) = some (.inl (cI, 520, .inl Qf)) ∧ M (ad 8) = some (.inl (cI, 520, .inl Qt)) ∧ M (ad 9) = some (.inl (cI, 192, .inl E)) ∧ M (ad 10) = some (.inl (cB, 24, .inl R)) ∧ ∀ i j, i < 11 → j < 11 → ad i = ad j → i = j
section
variable {M : mM} {cI cB : ClassId} {t0 : Nat} {ad : Nat → Nat} {W S N U F K C Qf Qt E R : Nat → Int32} {w g ck dk : Int32} {c d gn : Nat}
theorem TI.u0 (hT : TI M cI cB t0 ad W S N U F K C Qf Qt E R w g ck dk c d gn) (W' : Nat → Int32) : TI (mS M (ad 0) (.inl (cI, 520, .inl W'))) cI cB t0 ad W' S N U F K C Qf Qt E R w g ck dk c d gn := by
  obtain ⟨hO, tW, tS, tN, tU, tF, tK, tC, tGF, tGT, tE, tR, tI⟩ := hT
  exact ⟨mS_of_ne tW hO (by intro q; cases q), mS_self _ _ _, by rw [mS_ne _ _ (fun q => absurd (tI 1 0 (by decide) (by decide) q) (by decide))]; exact tS, by rw [mS_ne _ _ (fun q => absurd (tI 2 0 (by decide) (by decide) q) (by decide))]; exact tN, by rw [mS_ne _ _ (fun q => absurd (tI 3 0 (by decide) (by decide) q) (by decide))]; exact tU, by rw [mS_ne _ _ (fun q => absurd (tI 4 0 (by decide) (by decide) q) (by decide))]; exact tF, by rw [mS_ne _ _ (fun q => absurd (tI 5 0 (by decide) (by decide) q) (by decide))]; exact tK, by rw [mS_ne _ _ (fun q => absurd (tI 6 0 (by decide) (by decide) q) (by decide))]; exact tC, by rw [mS_ne _ _ (fun q => absurd (tI 7 0 (by decide) (by decide) q) (by decide))]; exact tGF, by rw [mS_ne _ _ (fun q => absurd (tI 8 0 (by decide) (by decide) q) (by decide))]; exact tGT, by rw [mS_ne _ _ (fun q => absurd (tI 9 0 (by decide) (by decide) q) (by decide))]; exact tE, by rw [mS_ne _ _ (fun q => absurd (tI 10 0 (by decide) (by decide) q) (by decide))]; exact tR, tI⟩
theorem TI.u1 (hT : TI M cI cB t0 ad W S N U F K C Qf Qt E R w g ck dk c d gn) (S' : Nat → Int32) : TI (mS M (ad 1) (.inl (cI, 520, .inl S'))) cI cB t0 ad W S' N U F K C Qf Qt E R w g ck dk c d gn := by
  obtain ⟨hO, tW, tS, tN, tU, tF, tK, tC, tGF, tGT, tE, tR, tI⟩ := hT
  exact ⟨mS_of_ne tS hO (by intro q; cases q), by rw [mS_ne _ _ (fun q => absurd (tI 0 1 (by decide) (by decide) q) (by decide))]; exact tW, mS_self _ _ _, by rw [mS_ne _ _ (fun q => absurd (tI 2 1 (by decide) (by decide) q) (by decide))]; exact tN, by rw [mS_ne _ _ (fun q => absurd (tI 3 1 (by decide) (by decide) q) (by decide))]; exact tU, by rw [mS_ne _ _ (fun q => absurd (tI 4 1 (by decide) (by decide) q) (by decide))]; exact tF, by rw [mS_ne _ _ (fun q => absurd (tI 5 1 (by decide) (by decide) q) (by decide))]; exact tK, by rw [mS_ne _ _ (fun q => absurd (tI 6 1 (by decide) (by decide) q) (by decide))]; exact tC, by rw [mS_ne _ _ (fun q => absurd (tI 7 1 (by decide) (by decide) q) (by decide))]; exact tGF, by rw [mS_ne _ _ (fun q => absurd (tI 8 1 (by decide) (by decide) q) (by decide))]; exact tGT, by rw [mS_ne _ _ (fun q => absurd (tI 9 1 (by decide) (by decide) q) (by decide))]; exact tE, by rw [mS_ne _ _ (fun q => absurd (tI 10 1 (by decide) (by decide) q) (by decide))]; exact tR, tI⟩
theorem TI.u2 (hT : TI M cI cB t0 ad W S N U F K C Qf Qt E R w g ck dk c d gn) (N' : Nat → Int32) : TI (mS M (ad 2) (.inl (cI, 520, .inl N'))) cI cB t0 ad W S N' U F K C Qf Qt E R w g ck dk c d gn := by
  obtain ⟨hO, tW, tS, tN, tU, tF, tK, tC, tGF, tGT, tE, tR, tI⟩ := hT
  exact ⟨mS_of_ne tN hO (by intro q; cases q), by rw [mS_ne _ _ (fun q => absurd (tI 0 2 (by decide) (by decide) q) (by decide))]; exact tW, by rw [mS_ne _ _ (fun q => absurd (tI 1 2 (by decide) (by decide) q) (by decide))]; exact tS, mS_self _ _ _, by rw [mS_ne _ _ (fun q => absurd (tI 3 2 (by decide) (by decide) q) (by decide))]; exact tU, by rw [mS_ne _ _ (fun q => absurd (tI 4 2 (by decide) (by decide) q) (by decide))]; exact tF, by rw [mS_ne _ _ (fun q => absurd (tI 5 2 (by decide) (by decide) q) (by decide))]; exact tK, by rw [mS_ne _ _ (fun q => absurd (tI 6 2 (by decide) (by decide) q) (by decide))]; exact tC, by rw [mS_ne _ _ (fun q => absurd (tI 7 2 (by decide) (by decide) q) (by decide))]; exact tGF, by rw [mS_ne _ _ (fun q => absurd (tI 8 2 (by decide) (by decide) q) (by decide))]; exact tGT, by rw [mS_ne _ _ (fun q => absurd (tI 9 2 (by decide) (by decide) q) (by decide))]; exact tE, by rw [mS_ne _ _ (fun q => absurd (tI 10 2 (by decide) (by decide) q) (by decide))]; exact tR, tI⟩
theorem TI.u3 (hT : TI M cI cB t0 ad W S N U F K C Qf Qt E R w g ck dk c d gn) (U' : Nat → Int32) : TI (mS M (ad 3) (.inl (cI, 520, .inl U'))) cI cB t0 ad W S N U' F K C Qf Qt E R w g ck dk c d gn := by
  obtain ⟨hO, tW, tS, tN, tU, tF, tK, tC, tGF, tGT, tE, tR, tI⟩ := hT
  exact ⟨mS_of_ne tU hO (by intro q; cases q), by rw [mS_ne _ _ (fun q => absurd (tI 0 3 (by decide) (by decide) q) (by decide))]; exact tW, by rw [mS_ne _ _ (fun q => absurd (tI 1 3 (by decide) (by decide) q) (by decide))]; exact tS, by rw [mS_ne _ _ (fun q => absurd (tI 2 3 (by decide) (by decide) q) (by decide))]; exact tN, mS_self _ _ _, by rw [mS_ne _ _ (fun q => absurd (tI 4 3 (by decide) (by decide) q) (by decide))]; exact tF, by rw [mS_ne _ _ (fun q => absurd (tI 5 3 (by decide) (by decide) q) (by decide))]; exact tK, by rw [mS_ne _ _ (fun q => absurd (tI 6 3 (by decide) (by decide) q) (by decide))]; exact tC, by rw [mS_ne _ _ (fun q => absurd (tI 7 3 (by decide) (by decide) q) (by decide))]; exact tGF, by rw [mS_ne _ _ (fun q => absurd (tI 8 3 (by decide) (by decide) q) (by decide))]; exact tGT, by rw [mS_ne _ _ (fun q => absurd (tI 9 3 (by decide) (by decide) q) (by decide))]; exact tE, by rw [mS_ne _ _ (fun q => absurd (tI 10 3 (by decide) (by decide) q) (by decide))]; exact tR, tI⟩
theorem TI.u4 (hT : TI M cI cB t0 ad W S N U F K C Qf Qt E R w g ck dk c d gn) (F' : Nat → Int32) : TI (mS M (ad 4) (.inl (cI, 520, .inl F'))) cI cB t0 ad W S N U F' K C Qf Qt E R w g ck dk c d gn := by
  obtain ⟨hO, tW, tS, tN, tU, tF, tK, tC, tGF, tGT, tE, tR, tI⟩ := hT
  exact ⟨mS_of_ne tF hO (by intro q; cases q), by rw [mS_ne _ _ (fun q => absurd (tI 0 4 (by decide) (by decide) q) (by decide))]; exact tW, by rw [mS_ne _ _ (fun q => absurd (tI 1 4 (by decide) (by decide) q) (by decide))]; exact tS, by rw [mS_ne _ _ (fun q => absurd (tI 2 4 (by decide) (by decide) q) (by decide))]; exact tN, by rw [mS_ne _ _ (fun q => absurd (tI 3 4 (by decide) (by decide) q) (by decide))]; exact tU, mS_self _ _ _, by rw [mS_ne _ _ (fun q => absurd (tI 5 4 (by decide) (by decide) q) (by decide))]; exact tK, by rw [mS_ne _ _ (fun q => absurd (tI 6 4 (by decide) (by decide) q) (by decide))]; exact tC, by rw [mS_ne _ _ (fun q => absurd (tI 7 4 (by decide) (by decide) q) (by decide))]; exact tGF, by rw [mS_ne _ _ (fun q => absurd (tI 8 4 (by decide) (by decide) q) (by decide))]; exact tGT, by rw [mS_ne _ _ (fun q => absurd (tI 9 4 (by decide) (by decide) q) (by decide))]; exact tE, by rw [mS_ne _ _ (fun q => absurd (tI 10 4 (by decide) (by decide) q) (by decide))]; exact tR, tI⟩
theorem TI.u5 (hT : TI M cI cB t0 ad W S N U F K C Qf Qt E R w g ck dk c d gn) (K' : Nat → Int32) : TI (mS M (ad 5) (.inl (cI, 520, .inl K'))) cI cB t0 ad W S N U F K' C Qf Qt E R w g ck dk c d gn := by
  obtain ⟨hO, tW, tS, tN, tU, tF, tK, tC, tGF, tGT, tE, tR, tI⟩ := hT
  exact ⟨mS_of_ne tK hO (by intro q; cases q), by rw [mS_ne _ _ (fun q => absurd (tI 0 5 (by decide) (by decide) q) (by decide))]; exact tW, by rw [mS_ne _ _ (fun q => absurd (tI 1 5 (by decide) (by decide) q) (by decide))]; exact tS, by rw [mS_ne _ _ (fun q => absurd (tI 2 5 (by decide) (by decide) q) (by decide))]; exact tN, by rw [mS_ne _ _ (fun q => absurd (tI 3 5 (by decide) (by decide) q) (by decide))]; exact tU, by rw [mS_ne _ _ (fun q => absurd (tI 4 5 (by decide) (by decide) q) (by decide))]; exact tF, mS_self _ _ _, by rw [mS_ne _ _ (fun q => absurd (tI 6 5 (by decide) (by decide) q) (by decide))]; exact tC, by rw [mS_ne _ _ (fun q => absurd (tI 7 5 (by decide) (by decide) q) (by decide))]; exact tGF, by rw [mS_ne _ _ (fun q => absurd (tI 8 5 (by decide) (by decide) q) (by decide))]; exact tGT, by rw [mS_ne _ _ (fun q => absurd (tI 9 5 (by decide) (by decide) q) (by decide))]; exact tE, by rw [mS_ne _ _ (fun q => absurd (tI 10 5 (by decide) (by decide) q) (by decide))]; exact tR, tI⟩
theorem TI.u6 (hT : TI M cI cB t0 ad W S N U F K C Qf Qt E R w g ck dk c d gn) (C' : Nat → Int32) : TI (mS M (ad 6) (.inl (cI, 2080, .inl C'))) cI cB t0 ad W S N U F K C' Qf Qt E R w g ck dk c d gn := by
  obtain ⟨hO, tW, tS, tN, tU, tF, tK, tC, tGF, tGT, tE, tR, tI⟩ := hT
  exact ⟨mS_of_ne tC hO (by intro q; cases q), by rw [mS_ne _ _ (fun q => absurd (tI 0 6 (by decide) (by decide) q) (by decide))]; exact tW, by rw [mS_ne _ _ (fun q => absurd (tI 1 6 (by decide) (by decide) q) (by decide))]; exact tS, by rw [mS_ne _ _ (fun q => absurd (tI 2 6 (by decide) (by decide) q) (by decide))]; exact tN, by rw [mS_ne _ _ (fun q => absurd (tI 3 6 (by decide) (by decide) q) (by decide))]; exact tU, by rw [mS_ne _ _ (fun q => absurd (tI 4 6 (by decide) (by decide) q) (by decide))]; exact tF, by rw [mS_ne _ _ (fun q => absurd (tI 5 6 (by decide) (by decide) q) (by decide))]; exact tK, mS_self _ _ _, by rw [mS_ne _ _ (fun q => absurd (tI 7 6 (by decide) (by decide) q) (by decide))]; exact tGF, by rw [mS_ne _ _ (fun q => absurd (tI 8 6 (by decide) (by decide) q) (by decide))]; exact tGT, by rw [mS_ne _ _ (fun q => absurd (tI 9 6 (by decide) (by decide) q) (by decide))]; exact tE, by rw [mS_ne _ _ (fun q => absurd (tI 10 6 (by decide) (by decide) q) (by decide))]; exact tR, tI⟩
theorem TI.u7 (hT : TI M cI cB t0 ad W S N U F K C Qf Qt E R w g ck dk c d gn) (Qf' : Nat → Int32) : TI (mS M (ad 7) (.inl (cI, 520, .inl Qf'))) cI cB t0 ad W S N U F K C Qf' Qt E R w g ck dk c d gn := by
  obtain ⟨hO, tW, tS, tN, tU, tF, tK, tC, tGF, tGT, tE, tR, tI⟩ := hT
  exact ⟨mS_of_ne tGF hO (by intro q; cases q), by rw [mS_ne _ _ (fun q => absurd (tI 0 7 (by decide) (by decide) q) (by decide))]; exact tW, by rw [mS_ne _ _ (fun q => absurd (tI 1 7 (by decide) (by decide) q) (by decide))]; exact tS, by rw [mS_ne _ _ (fun q => absurd (tI 2 7 (by decide) (by decide) q) (by decide))]; exact tN, by rw [mS_ne _ _ (fun q => absurd (tI 3 7 (by decide) (by decide) q) (by decide))]; exact tU, by rw [mS_ne _ _ (fun q => absurd (tI 4 7 (by decide) (by decide) q) (by decide))]; exact tF, by rw [mS_ne _ _ (fun q => absurd (tI 5 7 (by decide) (by decide) q) (by decide))]; exact tK, by rw [mS_ne _ _ (fun q => absurd (tI 6 7 (by decide) (by decide) q) (by decide))]; exact tC, mS_self _ _ _, by rw [mS_ne _ _ (fun q => absurd (tI 8 7 (by decide) (by decide) q) (by decide))]; exact tGT, by rw [mS_ne _ _ (fun q => absurd (tI 9 7 (by decide) (by decide) q) (by decide))]; exact tE, by rw [mS_ne _ _ (fun q => absurd (tI 10 7 (by decide) (by decide) q) (by decide))]; exact tR, tI⟩
theorem TI.u8 (hT : TI M cI cB t0 ad W S N U F K C Qf Qt E R w g ck dk c d gn) (Qt' : Nat → Int32) : TI (mS M (ad 8) (.inl (cI, 520, .inl Qt'))) cI cB t0 ad W S N U F K C Qf Qt' E R w g ck dk c d gn := by
  obtain ⟨hO, tW, tS, tN, tU, tF, tK, tC, tGF, tGT, tE, tR, tI⟩ := hT
  exact ⟨mS_of_ne tGT hO (by intro q; cases q), by rw [mS_ne _ _ (fun q => absurd (tI 0 8 (by decide) (by decide) q) (by decide))]; exact tW, by rw [mS_ne _ _ (fun q => absurd (tI 1 8 (by decide) (by decide) q) (by decide))]; exact tS, by rw [mS_ne _ _ (fun q => absurd (tI 2 8 (by decide) (by decide) q) (by decide))]; exact tN, by rw [mS_ne _ _ (fun q => absurd (tI 3 8 (by decide) (by decide) q) (by decide))]; exact tU, by rw [mS_ne _ _ (fun q => absurd (tI 4 8 (by decide) (by decide) q) (by decide))]; exact tF, by rw [mS_ne _ _ (fun q => absurd (tI 5 8 (by decide) (by decide) q) (by decide))]; exact tK, by rw [mS_ne _ _ (fun q => absurd (tI 6 8 (by decide) (by decide) q) (by decide))]; exact tC, by rw [mS_ne _ _ (fun q => absurd (tI 7 8 (by decide) (by decide) q) (by decide))]; exact tGF, mS_self _ _ _, by rw [mS_ne _ _ (fun q => absurd (tI 9 8 (by decide) (by decide) q) (by decide))]; exact tE, by rw [mS_ne _ _ (fun q => absurd (tI 10 8 (by decide) (by decide) q) (by decide))]; exact tR, tI⟩
theorem TI.u9 (hT : TI M cI cB t0 ad W S N U F K C Qf Qt E R w g ck dk c d gn) (E' : Nat → Int32) : TI (mS M (ad 9) (.inl (cI, 192, .inl E'))) cI cB t0 ad W S N U F K C Qf Qt E' R w g ck dk c d gn := by
  obtain ⟨hO, tW, tS, tN, tU, tF, tK, tC, tGF, tGT, tE, tR, tI⟩ := hT
  exact ⟨mS_of_ne tE hO (by intro q; cases q), by rw [mS_ne _ _ (fun q => absurd (tI 0 9 (by decide) (by decide) q) (by decide))]; exact tW, by rw [mS_ne _ _ (fun q => absurd (tI 1 9 (by decide) (by decide) q) (by decide))]; exact tS, by rw [mS_ne _ _ (fun q => absurd (tI 2 9 (by decide) (by decide) q) (by decide))]; exact tN, by rw [mS_ne _ _ (fun q => absurd (tI 3 9 (by decide) (by decide) q) (by decide))]; exact tU, by rw [mS_ne _ _ (fun q => absurd (tI 4 9 (by decide) (by decide) q) (by decide))]; exact tF, by rw [mS_ne _ _ (fun q => absurd (tI 5 9 (by decide) (by decide) q) (by decide))]; exact tK, by rw [mS_ne _ _ (fun q => absurd (tI 6 9 (by decide) (by decide) q) (by decide))]; exact tC, by rw [mS_ne _ _ (fun q => absurd (tI 7 9 (by decide) (by decide) q) (by decide))]; exact tGF, by rw [mS_ne _ _ (fun q => absurd (tI 8 9 (by decide) (by decide) q) (by decide))]; exact tGT, mS_self _ _ _, by rw [mS_ne _ _ (fun q => absurd (tI 10 9 (by decide) (by decide) q) (by decide))]; exact tR, tI⟩
theorem TI.u10 (hT : TI M cI cB t0 ad W S N U F K C Qf Qt E R w g ck dk c d gn) (R' : Nat → Int32) : TI (mS M (ad 10) (.inl (cB, 24, .inl R'))) cI cB t0 ad W S N U F K C Qf Qt E R' w g ck dk c d gn := by
  obtain ⟨hO, tW, tS, tN, tU, tF, tK, tC, tGF, tGT, tE, tR, tI⟩ := hT
  exact ⟨mS_of_ne tR hO (by intro q; cases q), by rw [mS_ne _ _ (fun q => absurd (tI 0 10 (by decide) (by decide) q) (by decide))]; exact tW, by rw [mS_ne _ _ (fun q => absurd (tI 1 10 (by decide) (by decide) q) (by decide))]; exact tS, by rw [mS_ne _ _ (fun q => absurd (tI 2 10 (by decide) (by decide) q) (by decide))]; exact tN, by rw [mS_ne _ _ (fun q => absurd (tI 3 10 (by decide) (by decide) q) (by decide))]; exact tU, by rw [mS_ne _ _ (fun q => absurd (tI 4 10 (by decide) (by decide) q) (by decide))]; exact tF, by rw [mS_ne _ _ (fun q => absurd (tI 5 10 (by decide) (by decide) q) (by decide))]; exact tK, by rw [mS_ne _ _ (fun q => absurd (tI 6 10 (by decide) (by decide) q) (by decide))]; exact tC, by rw [mS_ne _ _ (fun q => absurd (tI 7 10 (by decide) (by decide) q) (by decide))]; exact tGF, by rw [mS_ne _ _ (fun q => absurd (tI 8 10 (by decide) (by decide) q) (by decide))]; exact tGT, by rw [mS_ne _ _ (fun q => absurd (tI 9 10 (by decide) (by decide) q) (by decide))]; exact tE, mS_self _ _ _, tI⟩
theorem TI.obj (hT : TI M cI cB t0 ad W S N U F K C Qf Qt E R w g ck dk c d gn) (c' d' gn' : Nat) (ck' dk' : Int32) : TI (mS M t0 (.inr (4, [.int w, .int g, .ref (ad 0), .ref (ad 1), .ref (ad 2), .ref (ad 3), .ref (ad 4), .ref (ad 5), .ref (ad 6), .int (nI c'), .int (nI d'), .int ck', .int dk', .ref (ad 7), .ref (ad 8), .int (nI gn'), .ref (ad 9), .ref (ad 10)]))) cI cB t0 ad W S N U F K C Qf Qt E R w g ck' dk' c' d' gn' := by
  obtain ⟨hO, tW, tS, tN, tU, tF, tK, tC, tGF, tGT, tE, tR, tI⟩ := hT
  exact ⟨mS_self _ _ _, mS_of_ne hO tW (by intro q; cases q), mS_of_ne hO tS (by intro q; cases q), mS_of_ne hO tN (by intro q; cases q), mS_of_ne hO tU (by intro q; cases q), mS_of_ne hO tF (by intro q; cases q), mS_of_ne hO tK (by intro q; cases q), mS_of_ne hO tC (by intro q; cases q), mS_of_ne hO tGF (by intro q; cases q), mS_of_ne hO tGT (by intro q; cases q), mS_of_ne hO tE (by intro q; cases q), mS_of_ne hO tR (by intro q; cases q), tI⟩
end
def cntK (K : Nat → Int32) : Nat → Nat
  | 0 => 0
  | i + 1 => cntK K i + (if K i = 0 then 0 else 1)
def kdL (K N : Nat → Int32) (x : Int32) : Nat → Nat → Int32
  | 0, _ => 0
  | n + 1, i => if ¬ K i = 0 ∧ N i = x then K i else kdL K N x n (i + 1)
def verL (F W : Nat → Int32) (f t : Int32) : Nat → Int32
  | 0 => -1
  | k + 1 => if F k = f ∧ W k ≤ t then nI k else verL F W f t k
def prI : Nat → Int32
  | 0 => -1
  | k + 1 => nI k
theorem prI_sub (k : Nat) : nI k - 1 = prI k := by
  cases k with
  | zero => rfl
  | succ k => exact nI_pred k
theorem prI_add (k : Nat) : nI k + (-1) = prI k := by
  cases k with
  | zero => rfl
  | succ k => exact pk_m1 k
theorem cntK_le (K : Nat → Int32) : ∀ c, cntK K c ≤ c
  | 0 => Nat.le_refl 0
  | c + 1 => by
    have := cntK_le K c
    unfold cntK
    split <;> omega

set_option maxRecDepth 20000 in
set_option maxHeartbeats 1000000 in
theorem ct_T_isin {l : Launch} {D : va_G} {tys : List (ClassId × FieldType)} {M : mM} (x y : Int32) : Ct_T_isin l D tys 0 0 [.int x, .int y] M (fun v M1 => v = some (.int (bI (0 ≤ x ∧ x < y))) ∧ M1 = M) := by
  refine Ct.of (cc := c_T_isin) (maxL := 2) (ret := (some (.boolean))) (L0 := [some (.int x), some (.int y)]) (by decide) (by intro v hv; simp only [List.mem_cons, List.not_mem_nil, or_false] at hv; rcases hv with rfl | rfl <;> first | rfl | exact mRf_cat (mRf_rf _)) (by simp) rfl ?_
  intro z ws0 hl hD ht X1 X2
  subst hl; subst hD; subst ht
  have X := And.intro X1 X2
  clear X1 X2
  refine i_T_isin_0 X (h := ?_)
  refine i_T_isin_1 X (h1 := fun c1 => ?_) (h2 := fun c1 => ?_)
  · skip
    refine i_T_isin_13 X (h := ?_)
    exact i_T_isin_14 X (hk := by omega) (hn := by omega) (hx := by first | exact Or.inl rfl | exact Or.inr rfl | assumption) (hp := ⟨by clear X; first | (simp_all [bI]; done) | (unfold bI; grind), rfl⟩)
  · skip
    refine i_T_isin_4 X (h := ?_)
    refine i_T_isin_5 X (h := ?_)
    refine i_T_isin_6 X (h1 := fun c6 => ?_) (h2 := fun c6 => ?_)
    · skip
      refine i_T_isin_13 X (h := ?_)
      exact i_T_isin_14 X (hk := by omega) (hn := by omega) (hx := by first | exact Or.inl rfl | exact Or.inr rfl | assumption) (hp := ⟨by clear X; first | (simp_all [bI]; done) | (unfold bI; grind), rfl⟩)
    · skip
      refine i_T_isin_9 X (h := ?_)
      refine i_T_isin_10 X (h := ?_)
      exact i_T_isin_14 X (hk := by omega) (hn := by omega) (hx := by first | exact Or.inl rfl | exact Or.inr rfl | assumption) (hp := ⟨by clear X; first | (simp_all [bI]; done) | (unfold bI; grind), rfl⟩)
set_option maxRecDepth 20000 in
set_option maxHeartbeats 1000000 in
theorem lp_T_nodes {z : zT} {ws0 : va_W} {mc ms : Nat} {M : mM} {cI cB cN : ClassId} {t0 : Nat} {ad : Nat → Nat} {W S N U F K C Qf Qt E R : Nat → Int32} {w g ck dk : Int32} {c d gn : Nat} (G : GT z cI cB cN) (hT : TI M cI cB t0 ad W S N U F K C Qf Qt E R w g ck dk c d gn) (hc : c ≤ 512) {r : Nat} (X : B_T_nodes z ws0 mc ms (fun v M1 => v = some (.int (nI r)) ∧ M1 = M)) (hr : r = 1 + cntK K c) : ∀ (n j : Nat), j + n = c → RN z 4 [some (.ref t0), some (.int (nI (1 + cntK K j))), some (.int (nI j))] [] M 0 0 := by
  obtain ⟨hO, tW, tS, tN, tU, tF, tK, tC, tGF, tGT, tE, tR, tI⟩ := hT
  intro n
  induction n with
  | zero =>
    intro j hj
    have hj : j = c := by omega
    subst hj
    refine i_T_nodes_4 X (h := ?_)
    refine i_T_nodes_5 X (h := ?_)
    refine i_T_nodes_6 X (hM := by assumption) (h := ?_)
    refine i_T_nodes_9 X (h1 := fun c9 => ?_) (h2 := fun c9 => ?_)
    · skip
      refine i_T_nodes_30 X (h := ?_)
      exact i_T_nodes_31 X (hk := by omega) (hn := by omega) (hp := ⟨by rw [hr], rfl⟩)
    · skip
      exact absurd (nI_le (Nat.le_refl _) (by omega)) c9 --end
  | succ n ih =>
    intro j hj
    refine i_T_nodes_4 X (h := ?_)
    refine i_T_nodes_5 X (h := ?_)
    refine i_T_nodes_6 X (hM := by assumption) (h := ?_)
    refine i_T_nodes_9 X (h1 := fun c9 => ?_) (h2 := fun c9 => ?_)
    · skip
      exact absurd c9 (nI_ge (a := j) (b := c) (by omega) (by omega)) --end
    · skip
      refine i_T_nodes_12 X (h := ?_)
      refine i_T_nodes_13 X (hM := by assumption) (h := ?_)
      refine i_T_nodes_16 X (h := ?_)
      refine i_T_nodes_17 X G (hM := by assumption) (hx := rfl) (hj := by omega) (h := ?_)
      refine i_T_nodes_18 X (h1 := fun c18 => ?_) (h2 := fun c18 => ?_)
      · skip
        refine i_T_nodes_24 X (h := ?_)
        refine i_T_nodes_27 X (h := ?_)
        rw [nI_1]
        rw [show 1 + cntK K j = 1 + cntK K (j + 1) from by simp only [cntK]; rw [if_pos c18]; rfl]
        exact ih (j + 1) (by omega)
      · skip
        refine i_T_nodes_21 X (h := ?_)
        refine i_T_nodes_24 X (h := ?_)
        refine i_T_nodes_27 X (h := ?_)
        rw [nI_1, nI_1]
        rw [show 1 + cntK K j + 1 = 1 + cntK K (j + 1) from by simp only [cntK]; rw [if_neg c18]; omega]
        exact ih (j + 1) (by omega)
set_option maxRecDepth 20000 in
set_option maxHeartbeats 1000000 in
theorem ct_T_nodes {l : Launch} {D : va_G} {tys : List (ClassId × FieldType)} {M : mM} {cI cB cN : ClassId} {t0 : Nat} {ad : Nat → Nat} {W S N U F K C Qf Qt E R : Nat → Int32} {w g ck dk : Int32} {c d gn : Nat} (G : tys[0]? = some (cI, .int) ∧ tys[1]? = some (cB, .boolean) ∧ tys[2]? = some (cN, .object RX0)) (hT : TI M cI cB t0 ad W S N U F K C Qf Qt E R w g ck dk c d gn) (hc : c ≤ 512) : Ct_T_nodes l D tys 0 0 [.ref t0] M (fun v M1 => v = some (.int (nI (1 + cntK K c))) ∧ M1 = M) := by
  refine Ct.of (cc := c_T_nodes) (maxL := 3) (ret := (some (.int))) (L0 := [some (.ref t0), none, none]) (by decide) (by intro v hv; simp only [List.mem_cons, List.not_mem_nil, or_false] at hv; rcases hv with rfl <;> first | rfl | exact mRf_cat (mRf_rf _)) (by simp) rfl ?_
  intro z ws0 hl hD ht X1 X2
  subst hl; subst hD; subst ht
  have X := And.intro X1 X2
  clear X1 X2
  refine i_T_nodes_0 X (h := ?_)
  refine i_T_nodes_1 X (h := ?_)
  refine i_T_nodes_2 X (h := ?_)
  refine i_T_nodes_3 X (h := ?_)
  exact lp_T_nodes G hT hc X rfl c 0 (by omega)
set_option maxRecDepth 20000 in
set_option maxHeartbeats 1000000 in
theorem lp_T_kind {z : zT} {ws0 : va_W} {mc ms : Nat} {M : mM} {cI cB cN : ClassId} {t0 : Nat} {ad : Nat → Nat} {W S N U F K C Qf Qt E R : Nat → Int32} {w g ck dk : Int32} {c d gn : Nat} (G : GT z cI cB cN) (hT : TI M cI cB t0 ad W S N U F K C Qf Qt E R w g ck dk c d gn) (hc : c ≤ 512) {x r : Int32} (X : B_T_kind z ws0 mc ms (fun v M1 => v = some (.int r) ∧ M1 = M)) : ∀ (n j : Nat), j + n = c → r = kdL K N x n j → RN z 8 [some (.ref t0), some (.int x), some (.int (nI j))] [] M 0 0 := by
  obtain ⟨hO, tW, tS, tN, tU, tF, tK, tC, tGF, tGT, tE, tR, tI⟩ := hT
  intro n
  induction n with
  | zero =>
    intro j hj hr
    have hj : j = c := by omega
    subst hj
    refine i_T_kind_8 X (h := ?_)
    refine i_T_kind_9 X (h := ?_)
    refine i_T_kind_10 X (hM := by assumption) (h := ?_)
    refine i_T_kind_13 X (h1 := fun c13 => ?_) (h2 := fun c13 => ?_)
    · skip
      refine i_T_kind_48 X (h := ?_)
      exact i_T_kind_49 X (hk := by omega) (hn := by omega) (hp := ⟨by rw [hr]; rfl, rfl⟩)
    · skip
      exact absurd (nI_le (Nat.le_refl _) (by omega)) c13 --end
  | succ n ih =>
    intro j hj hr
    simp only [kdL] at hr
    refine i_T_kind_8 X (h := ?_)
    refine i_T_kind_9 X (h := ?_)
    refine i_T_kind_10 X (hM := by assumption) (h := ?_)
    refine i_T_kind_13 X (h1 := fun c13 => ?_) (h2 := fun c13 => ?_)
    · skip
      exact absurd c13 (nI_ge (a := j) (b := c) (by omega) (by omega)) --end
    · skip
      refine i_T_kind_16 X (h := ?_)
      refine i_T_kind_17 X (hM := by assumption) (h := ?_)
      refine i_T_kind_20 X (h := ?_)
      refine i_T_kind_21 X G (hM := by assumption) (hx := rfl) (hj := by omega) (h := ?_)
      refine i_T_kind_22 X (h1 := fun c22 => ?_) (h2 := fun c22 => ?_)
      · skip
        refine i_T_kind_42 X (h := ?_)
        refine i_T_kind_45 X (h := ?_)
        rw [nI_1]
        exact ih (j + 1) (by omega) (by rw [hr, if_neg (fun h => h.1 c22)])
      · skip
        refine i_T_kind_25 X (h := ?_)
        refine i_T_kind_26 X (hM := by assumption) (h := ?_)
        refine i_T_kind_29 X (h := ?_)
        refine i_T_kind_30 X G (hM := by assumption) (hx := rfl) (hj := by omega) (h := ?_)
        refine i_T_kind_31 X (h := ?_)
        refine i_T_kind_32 X (h1 := fun c32 => ?_) (h2 := fun c32 => ?_)
        · skip
          refine i_T_kind_42 X (h := ?_)
          refine i_T_kind_45 X (h := ?_)
          rw [nI_1]
          exact ih (j + 1) (by omega) (by rw [hr, if_neg (fun h => c32 h.2)])
        · skip
          refine i_T_kind_35 X (h := ?_)
          refine i_T_kind_36 X (hM := by assumption) (h := ?_)
          refine i_T_kind_39 X (h := ?_)
          refine i_T_kind_40 X G (hM := by assumption) (hx := rfl) (hj := by omega) (h := ?_)
          exact i_T_kind_41 X (hk := by omega) (hn := by omega) (hp := ⟨by rw [hr, if_pos ⟨c22, c32⟩], rfl⟩)
set_option maxRecDepth 20000 in
set_option maxHeartbeats 1000000 in
theorem ct_T_kind {l : Launch} {D : va_G} {tys : List (ClassId × FieldType)} {M : mM} {cI cB cN : ClassId} {t0 : Nat} {ad : Nat → Nat} {W S N U F K C Qf Qt E R : Nat → Int32} {w g ck dk : Int32} {c d gn : Nat} (G : tys[0]? = some (cI, .int) ∧ tys[1]? = some (cB, .boolean) ∧ tys[2]? = some (cN, .object RX0)) (hT : TI M cI cB t0 ad W S N U F K C Qf Qt E R w g ck dk c d gn) (hc : c ≤ 512) (x : Int32) : Ct_T_kind l D tys 0 0 [.ref t0, .int x] M (fun v M1 => v = some (.int (if x = 0 then 1 else kdL K N x c 0)) ∧ M1 = M) := by
  refine Ct.of (cc := c_T_kind) (maxL := 3) (ret := (some (.int))) (L0 := [some (.ref t0), some (.int x), none]) (by decide) (by intro v hv; simp only [List.mem_cons, List.not_mem_nil, or_false] at hv; rcases hv with rfl | rfl <;> first | rfl | exact mRf_cat (mRf_rf _)) (by simp) rfl ?_
  intro z ws0 hl hD ht X1 X2
  subst hl; subst hD; subst ht
  have X := And.intro X1 X2
  clear X1 X2
  refine i_T_kind_0 X (h := ?_)
  refine i_T_kind_1 X (h1 := fun c1 => ?_) (h2 := fun c1 => ?_)
  · skip
    refine i_T_kind_6 X (h := ?_)
    refine i_T_kind_7 X (h := ?_)
    exact lp_T_kind G hT hc X c 0 (by omega) (if_neg c1)
  · skip
    refine i_T_kind_4 X (h := ?_)
    exact i_T_kind_5 X (hk := by omega) (hn := by omega) (hp := ⟨by rw [if_pos c1], rfl⟩)
set_option maxRecDepth 20000 in
set_option maxHeartbeats 1000000 in
theorem lp_T_version {z : zT} {ws0 : va_W} {mc ms : Nat} {M : mM} {cI cB cN : ClassId} {t0 : Nat} {ad : Nat → Nat} {W S N U F K C Qf Qt E R : Nat → Int32} {w g ck dk : Int32} {c d gn : Nat} (G : GT z cI cB cN) (hT : TI M cI cB t0 ad W S N U F K C Qf Qt E R w g ck dk c d gn) (hc : c ≤ 512) {f t r : Int32} (X : B_T_version z ws0 mc ms (fun v M1 => v = some (.int r) ∧ M1 = M)) : ∀ (k : Nat), k ≤ c → r = verL F W f t k → RN z 7 [some (.ref t0), some (.int f), some (.int t), some (.int (prI k))] [] M 0 0 := by
  obtain ⟨hO, tW, tS, tN, tU, tF, tK, tC, tGF, tGT, tE, tR, tI⟩ := hT
  intro k
  induction k with
  | zero =>
    intro hk hr
    refine i_T_version_7 X (h := ?_)
    refine i_T_version_8 X (h1 := fun c8 => ?_) (h2 := fun c8 => ?_)
    · skip
      refine i_T_version_39 X (h := ?_)
      exact i_T_version_40 X (hk := by omega) (hn := by omega) (hp := ⟨by rw [hr]; rfl, rfl⟩)
    · skip
      exact absurd (by decide) c8 --end
  | succ j ih =>
    intro hk hr
    simp only [verL] at hr
    refine i_T_version_7 X (h := ?_)
    refine i_T_version_8 X (h1 := fun c8 => ?_) (h2 := fun c8 => ?_)
    · skip
      exact absurd c8 (nI_pos (by omega)) --end
    · skip
      refine i_T_version_11 X (h := ?_)
      refine i_T_version_12 X (hM := by assumption) (h := ?_)
      refine i_T_version_15 X (h := ?_)
      refine i_T_version_16 X G (hM := by assumption) (hx := rfl) (hj := by omega) (h := ?_)
      refine i_T_version_17 X (h := ?_)
      refine i_T_version_18 X (h1 := fun c18 => ?_) (h2 := fun c18 => ?_)
      · skip
        refine i_T_version_33 X (h := ?_)
        refine i_T_version_36 X (h := ?_)
        rw [show prI (j + 1) = nI j from rfl, prI_add]
        exact ih (by omega) (by rw [hr, if_neg (fun h => c18 h.1)])
      · skip
        refine i_T_version_21 X (h := ?_)
        refine i_T_version_22 X (hM := by assumption) (h := ?_)
        refine i_T_version_25 X (h := ?_)
        refine i_T_version_26 X G (hM := by assumption) (hx := rfl) (hj := by omega) (h := ?_)
        refine i_T_version_27 X (h := ?_)
        refine i_T_version_28 X (h1 := fun c28 => ?_) (h2 := fun c28 => ?_)
        · skip
          refine i_T_version_33 X (h := ?_)
          refine i_T_version_36 X (h := ?_)
          rw [show prI (j + 1) = nI j from rfl, prI_add]
          exact ih (by omega) (by rw [hr, if_neg (fun h => absurd h.2 (Int32.not_le.mpr c28))])
        · skip
          refine i_T_version_31 X (h := ?_)
          exact i_T_version_32 X (hk := by omega) (hn := by omega) (hp := ⟨by rw [hr, if_pos ⟨c18, Int32.not_lt.mp c28⟩]; rfl, rfl⟩)
set_option maxRecDepth 20000 in
set_option maxHeartbeats 1000000 in
theorem ct_T_version {l : Launch} {D : va_G} {tys : List (ClassId × FieldType)} {M : mM} {cI cB cN : ClassId} {t0 : Nat} {ad : Nat → Nat} {W S N U F K C Qf Qt E R : Nat → Int32} {w g ck dk : Int32} {c d gn : Nat} (G : tys[0]? = some (cI, .int) ∧ tys[1]? = some (cB, .boolean) ∧ tys[2]? = some (cN, .object RX0)) (hT : TI M cI cB t0 ad W S N U F K C Qf Qt E R w g ck dk c d gn) (hc : c ≤ 512) (f t : Int32) : Ct_T_version l D tys 0 0 [.ref t0, .int f, .int t] M (fun v M1 => v = some (.int (verL F W f t c)) ∧ M1 = M) := by
  refine Ct.of (cc := c_T_version) (maxL := 4) (ret := (some (.int))) (L0 := [some (.ref t0), some (.int f), some (.int t), none]) (by decide) (by intro v hv; simp only [List.mem_cons, List.not_mem_nil, or_false] at hv; rcases hv with rfl | rfl | rfl <;> first | rfl | exact mRf_cat (mRf_rf _)) (by simp) rfl ?_
  intro z ws0 hl hD ht X1 X2
  subst hl; subst hD; subst ht
  have X := And.intro X1 X2
  clear X1 X2
  have hT0 := hT
  obtain ⟨hO, tW, tS, tN, tU, tF, tK, tC, tGF, tGT, tE, tR, tI⟩ := hT
  refine i_T_version_0 X (h := ?_)
  refine i_T_version_1 X (hM := by assumption) (h := ?_)
  refine i_T_version_4 X (h := ?_)
  refine i_T_version_5 X (h := ?_)
  refine i_T_version_6 X (h := ?_)
  rw [prI_sub]
  exact lp_T_version G hT0 hc X c (Nat.le_refl c) rfl
set_option maxRecDepth 20000 in
set_option maxHeartbeats 1000000 in
theorem lp_T_isGone {z : zT} {ws0 : va_W} {mc ms : Nat} {M : mM} {cI cB cN : ClassId} {t0 : Nat} {ad : Nat → Nat} {W S N U F K C Qf Qt E R : Nat → Int32} {w g ck dk : Int32} {c d gn : Nat} (G : GT z cI cB cN) (hT : TI M cI cB t0 ad W S N U F K C Qf Qt E R w g ck dk c d gn) (hc : gn ≤ 512) {f t : Int32} (X : B_T_isGone z ws0 mc ms (fun v M1 => ∃ b : Bool, v = some (.int (bI (b = true))) ∧ (b = true ↔ ∃ i, i < gn ∧ Qf i = f ∧ Qt i = t) ∧ M1 = M)) : ∀ (n j : Nat), j + n = gn → (∀ i, i < j → ¬ (Qf i = f ∧ Qt i = t)) → RN z 2 [some (.ref t0), some (.int f), some (.int t), some (.int (nI j))] [] M 0 0 := by
  obtain ⟨hO, tW, tS, tN, tU, tF, tK, tC, tGF, tGT, tE, tR, tI⟩ := hT
  intro n
  induction n with
  | zero =>
    intro j hj hr
    have hj : j = gn := by omega
    subst hj
    refine i_T_isGone_2 X (h := ?_)
    refine i_T_isGone_3 X (h := ?_)
    refine i_T_isGone_4 X (hM := by assumption) (h := ?_)
    refine i_T_isGone_7 X (h1 := fun c7 => ?_) (h2 := fun c7 => ?_)
    · skip
      refine i_T_isGone_38 X (h := ?_)
      exact i_T_isGone_39 X (hk := by omega) (hn := by omega) (hx := by first | exact Or.inl rfl | exact Or.inr rfl | assumption) (hp := ⟨false, rfl, ⟨fun h => absurd h (by decide), fun ⟨i, hi, h⟩ => absurd h (hr i hi)⟩, rfl⟩)
    · skip
      exact absurd (nI_le (Nat.le_refl _) (by omega)) c7 --end
  | succ n ih =>
    intro j hj hr
    refine i_T_isGone_2 X (h := ?_)
    refine i_T_isGone_3 X (h := ?_)
    refine i_T_isGone_4 X (hM := by assumption) (h := ?_)
    refine i_T_isGone_7 X (h1 := fun c7 => ?_) (h2 := fun c7 => ?_)
    · skip
      exact absurd c7 (nI_ge (a := j) (b := gn) (by omega) (by omega)) --end
    · skip
      refine i_T_isGone_10 X (h := ?_)
      refine i_T_isGone_11 X (hM := by assumption) (h := ?_)
      refine i_T_isGone_14 X (h := ?_)
      refine i_T_isGone_15 X G (hM := by assumption) (hx := rfl) (hj := by omega) (h := ?_)
      refine i_T_isGone_16 X (h := ?_)
      refine i_T_isGone_17 X (h1 := fun c17 => ?_) (h2 := fun c17 => ?_)
      · skip
        refine i_T_isGone_32 X (h := ?_)
        refine i_T_isGone_35 X (h := ?_)
        rw [nI_1]
        refine ih (j + 1) (by omega) (fun i hi h => ?_)
        by_cases hij : i = j
        · subst hij
          exact c17 h.1
        · exact hr i (by omega) h
      · skip
        refine i_T_isGone_20 X (h := ?_)
        refine i_T_isGone_21 X (hM := by assumption) (h := ?_)
        refine i_T_isGone_24 X (h := ?_)
        refine i_T_isGone_25 X G (hM := by assumption) (hx := rfl) (hj := by omega) (h := ?_)
        refine i_T_isGone_26 X (h := ?_)
        refine i_T_isGone_27 X (h1 := fun c27 => ?_) (h2 := fun c27 => ?_)
        · skip
          refine i_T_isGone_32 X (h := ?_)
          refine i_T_isGone_35 X (h := ?_)
          rw [nI_1]
          refine ih (j + 1) (by omega) (fun i hi h => ?_)
          by_cases hij : i = j
          · subst hij
            exact c27 h.2
          · exact hr i (by omega) h
        · skip
          refine i_T_isGone_30 X (h := ?_)
          exact i_T_isGone_31 X (hk := by omega) (hn := by omega) (hx := by first | exact Or.inl rfl | exact Or.inr rfl | assumption) (hp := ⟨true, rfl, ⟨fun _ => ⟨j, by omega, c17, c27⟩, fun _ => rfl⟩, rfl⟩)
set_option maxRecDepth 20000 in
set_option maxHeartbeats 1000000 in
theorem ct_T_isGone {l : Launch} {D : va_G} {tys : List (ClassId × FieldType)} {M : mM} {cI cB cN : ClassId} {t0 : Nat} {ad : Nat → Nat} {W S N U F K C Qf Qt E R : Nat → Int32} {w g ck dk : Int32} {c d gn : Nat} (G : tys[0]? = some (cI, .int) ∧ tys[1]? = some (cB, .boolean) ∧ tys[2]? = some (cN, .object RX0)) (hT : TI M cI cB t0 ad W S N U F K C Qf Qt E R w g ck dk c d gn) (hc : gn ≤ 512) (f t : Int32) : Ct_T_isGone l D tys 0 0 [.ref t0, .int f, .int t] M (fun v M1 => ∃ b : Bool, v = some (.int (bI (b = true))) ∧ (b = true ↔ ∃ i, i < gn ∧ Qf i = f ∧ Qt i = t) ∧ M1 = M) := by
  refine Ct.of (cc := c_T_isGone) (maxL := 4) (ret := (some (.boolean))) (L0 := [some (.ref t0), some (.int f), some (.int t), none]) (by decide) (by intro v hv; simp only [List.mem_cons, List.not_mem_nil, or_false] at hv; rcases hv with rfl | rfl | rfl <;> first | rfl | exact mRf_cat (mRf_rf _)) (by simp) rfl ?_
  intro z ws0 hl hD ht X1 X2
  subst hl; subst hD; subst ht
  have X := And.intro X1 X2
  clear X1 X2
  refine i_T_isGone_0 X (h := ?_)
  refine i_T_isGone_1 X (h := ?_)
  exact lp_T_isGone G hT hc X gn 0 (by omega) (fun i hi => absurd hi (by omega))
set_option maxRecDepth 20000 in
set_option maxHeartbeats 1000000 in
theorem lp_T_placed {z : zT} {ws0 : va_W} {mc ms : Nat} {M : mM} {cI cB cN : ClassId} {t0 : Nat} {ad : Nat → Nat} {W S N U F K C Qf Qt E R : Nat → Int32} {w g ck dk : Int32} {c d gn : Nat} (G : GT z cI cB cN) (hT : TI M cI cB t0 ad W S N U F K C Qf Qt E R w g ck dk c d gn) {x : Int32} (X : B_T_placed z ws0 mc ms (fun v M1 => ∃ b : Bool, v = some (.int (bI (b = true))) ∧ (b = true ↔ 0 < x ∧ ∃ e, e < 192 ∧ E e = x) ∧ M1 = M)) : ∀ (n j : Nat), j + n = 192 → (∀ e, e < j → ¬ (0 < x ∧ E e = x)) → RN z 2 [some (.ref t0), some (.int x), some (.int (nI j))] [] M 0 0 := by
  obtain ⟨hO, tW, tS, tN, tU, tF, tK, tC, tGF, tGT, tE, tR, tI⟩ := hT
  intro n
  induction n with
  | zero =>
    intro j hj hr
    have hj : j = 192 := by omega
    subst hj
    refine i_T_placed_2 X (h := ?_)
    refine i_T_placed_3 X (h := ?_)
    refine i_T_placed_6 X (h1 := fun c6 => ?_) (h2 := fun c6 => ?_)
    · skip
      refine i_T_placed_31 X (h := ?_)
      exact i_T_placed_32 X (hk := by omega) (hn := by omega) (hx := by first | exact Or.inl rfl | exact Or.inr rfl | assumption) (hp := ⟨false, rfl, ⟨fun h => absurd h (by decide), fun ⟨h0, e, he, h⟩ => absurd ⟨h0, h⟩ (hr e he)⟩, rfl⟩)
    · skip
      exact absurd (by decide) c6 --end
  | succ n ih =>
    intro j hj hr
    refine i_T_placed_2 X (h := ?_)
    refine i_T_placed_3 X (h := ?_)
    refine i_T_placed_6 X (h1 := fun c6 => ?_) (h2 := fun c6 => ?_)
    · skip
      exact absurd c6 (nI_ge (a := j) (b := 192) (by omega) (by omega)) --end
    · skip
      refine i_T_placed_9 X (h := ?_)
      refine i_T_placed_10 X (h1 := fun c10 => ?_) (h2 := fun c10 => ?_)
      · skip
        refine i_T_placed_25 X (h := ?_)
        refine i_T_placed_28 X (h := ?_)
        rw [nI_1]
        refine ih (j + 1) (by omega) (fun i hi h => ?_)
        by_cases hij : i = j
        · subst hij
          exact absurd h.1 (Int32.not_lt.mpr c10)
        · exact hr i (by omega) h
      · skip
        refine i_T_placed_13 X (h := ?_)
        refine i_T_placed_14 X (hM := by assumption) (h := ?_)
        refine i_T_placed_17 X (h := ?_)
        refine i_T_placed_18 X G (hM := by assumption) (hx := rfl) (hj := by omega) (h := ?_)
        refine i_T_placed_19 X (h := ?_)
        refine i_T_placed_20 X (h1 := fun c20 => ?_) (h2 := fun c20 => ?_)
        · skip
          refine i_T_placed_25 X (h := ?_)
          refine i_T_placed_28 X (h := ?_)
          rw [nI_1]
          refine ih (j + 1) (by omega) (fun i hi h => ?_)
          by_cases hij : i = j
          · subst hij
            exact c20 h.2
          · exact hr i (by omega) h
        · skip
          refine i_T_placed_23 X (h := ?_)
          exact i_T_placed_24 X (hk := by omega) (hn := by omega) (hx := by first | exact Or.inl rfl | exact Or.inr rfl | assumption) (hp := ⟨true, rfl, ⟨fun _ => ⟨Int32.not_le.mp c10, j, by omega, c20⟩, fun _ => rfl⟩, rfl⟩)
set_option maxRecDepth 20000 in
set_option maxHeartbeats 1000000 in
theorem ct_T_placed {l : Launch} {D : va_G} {tys : List (ClassId × FieldType)} {M : mM} {cI cB cN : ClassId} {t0 : Nat} {ad : Nat → Nat} {W S N U F K C Qf Qt E R : Nat → Int32} {w g ck dk : Int32} {c d gn : Nat} (G : tys[0]? = some (cI, .int) ∧ tys[1]? = some (cB, .boolean) ∧ tys[2]? = some (cN, .object RX0)) (hT : TI M cI cB t0 ad W S N U F K C Qf Qt E R w g ck dk c d gn) (x : Int32) : Ct_T_placed l D tys 0 0 [.ref t0, .int x] M (fun v M1 => ∃ b : Bool, v = some (.int (bI (b = true))) ∧ (b = true ↔ 0 < x ∧ ∃ e, e < 192 ∧ E e = x) ∧ M1 = M) := by
  refine Ct.of (cc := c_T_placed) (maxL := 3) (ret := (some (.boolean))) (L0 := [some (.ref t0), some (.int x), none]) (by decide) (by intro v hv; simp only [List.mem_cons, List.not_mem_nil, or_false] at hv; rcases hv with rfl | rfl <;> first | rfl | exact mRf_cat (mRf_rf _)) (by simp) rfl ?_
  intro z ws0 hl hD ht X1 X2
  subst hl; subst hD; subst ht
  have X := And.intro X1 X2
  clear X1 X2
  refine i_T_placed_0 X (h := ?_)
  refine i_T_placed_1 X (h := ?_)
  exact lp_T_placed G hT X 192 0 (by omega) (fun i hi => absurd hi (by omega))
set_option maxRecDepth 20000 in
set_option maxHeartbeats 1000000 in
theorem ct_T_opn {l : Launch} {D : va_G} {tys : List (ClassId × FieldType)} {M : mM} {cI cB cN : ClassId} {t0 : Nat} {ad : Nat → Nat} {W S N U F K C Qf Qt E R : Nat → Int32} {w g ck dk : Int32} {c d gn : Nat} (G : tys[0]? = some (cI, .int) ∧ tys[1]? = some (cB, .boolean) ∧ tys[2]? = some (cN, .object RX0)) (hT : TI M cI cB t0 ad W S N U F K C Qf Qt E R w g ck dk c d gn) (x : Int32) : Ct_T_opn l D tys 0 0 [.ref t0, .int x] M (fun v M1 => ∃ b : Bool, v = some (.int (bI (b = true))) ∧ (b = true ↔ x = 0 ∨ (0 < x ∧ ∃ e, e < 192 ∧ E e = x)) ∧ M1 = M) := by
  refine Ct.of (cc := c_T_opn) (maxL := 2) (ret := (some (.boolean))) (L0 := [some (.ref t0), some (.int x)]) (by decide) (by intro v hv; simp only [List.mem_cons, List.not_mem_nil, or_false] at hv; rcases hv with rfl | rfl <;> first | rfl | exact mRf_cat (mRf_rf _)) (by simp) rfl ?_
  intro z ws0 hl hD ht X1 X2
  subst hl; subst hD; subst ht
  have X := And.intro X1 X2
  clear X1 X2
  have hT0 := hT
  obtain ⟨hO, tW, tS, tN, tU, tF, tK, tC, tGF, tGT, tE, tR, tI⟩ := hT
  refine i_T_opn_0 X (h := ?_)
  refine i_T_opn_1 X (h1 := fun c1 => ?_) (h2 := fun c1 => ?_)
  · skip
    refine i_T_opn_12 X (h := ?_)
    refine i_T_opn_13 X (h := ?_)
    exact i_T_opn_17 X (hk := by omega) (hn := by omega) (hx := by first | exact Or.inl rfl | exact Or.inr rfl | assumption) (hp := ⟨true, rfl, ⟨fun _ => Or.inl c1, fun _ => rfl⟩, rfl⟩)
  · skip
    refine i_T_opn_4 X (h := ?_)
    refine i_T_opn_5 X (h := ?_)
    refine i_T_opn_6 X (hM := by assumption) (hC := ct_T_placed G hT0 x) (hk := by omega) (hn := by omega) (h := fun v6 M6 hp6 => ?_)
    obtain ⟨b1, rfl, hb1, rfl⟩ := hp6
    refine i_T_opn_9 X (h1 := fun c9 => ?_) (h2 := fun c9 => ?_)
    · skip
      have f9 := bI_eq0 c9
      refine i_T_opn_16 X (h := ?_)
      exact i_T_opn_17 X (hk := by omega) (hn := by omega) (hx := by first | exact Or.inl rfl | exact Or.inr rfl | assumption) (hp := ⟨false, rfl, ⟨fun h => absurd h (by decide), fun h => (h.elim (fun q => absurd q c1) (fun q => absurd (hb1.mpr q) f9))⟩, rfl⟩)
    · skip
      have f9 := bI_ne0 c9
      refine i_T_opn_12 X (h := ?_)
      refine i_T_opn_13 X (h := ?_)
      exact i_T_opn_17 X (hk := by omega) (hn := by omega) (hx := by first | exact Or.inl rfl | exact Or.inr rfl | assumption) (hp := ⟨true, rfl, ⟨fun _ => Or.inr (hb1.mp f9), fun _ => rfl⟩, rfl⟩)
