/-- node k can be come to from n by r entries -/
def dnE (E : Nat → Int32) (n : Nat) : Nat → Nat → Prop
  | 0, k => k = n
  | r + 1, k => ∃ e, e < 192 ∧ E e = nI k ∧ 0 < k ∧ dnE E n r (e / 8)
def rI (E : Nat → Int32) (n j : Nat) (R : Nat → Int32) : Prop := (∀ k, k < 24 → R k = 0 ∨ R k = 1) ∧ (∀ k, k < 24 → ¬ R k = 0 → ∃ r, dnE E n r k) ∧ ∀ k, k < 24 → ∀ r, r ≤ j → dnE E n r k → ¬ R k = 0
def enOk (E : Nat → Int32) : Prop := ∀ e, e < 192 → ∃ q, q < 24 ∧ E e = nI q
theorem d8_nI {e : Nat} (h : e < 192) : nI e / 8 = nI (e / 8) := pk_div (by omega) (by decide) (by decide)
set_option maxRecDepth 20000 in
set_option maxHeartbeats 2000000 in
theorem lp3_T_reach {z : zT} {ws0 : va_W} {mc ms : Nat} {M0 : mM} {cI cB cN : ClassId} {t0 : Nat} {ad : Nat → Nat} {W S N U F K C Qf Qt E : Nat → Int32} {w g ck dk : Int32} {c d gn : Nat} (G : GT z cI cB cN) (hen : enOk E) {n : Nat} {j : Nat} {l1 : Option Value} {R0 : Nat → Int32} {Post : Option Value → mM → Prop} (hR0 : rI E n j R0) (X : B_T_reach z ws0 mc ms Post)
    (KK : ∀ (M : mM) (R : Nat → Int32), TI M cI cB t0 ad W S N U F K C Qf Qt E R w g ck dk c d gn → rI E n (j + 1) R → (∀ e, mS M (ad 10) e = mS M0 (ad 10) e) → RN z 86 [some (.ref t0), l1, some (.int (nI j)), some (.int (nI 192))] [] M 0 0) : ∀ (k i : Nat) (M : mM) (R : Nat → Int32), TI M cI cB t0 ad W S N U F K C Qf Qt E R w g ck dk c d gn → i + k = 192 → (∀ x, x < 24 → R x = 0 ∨ R x = 1) → (∀ x, x < 24 → ¬ R x = 0 → ∃ r, dnE E n r x) → (∀ x, x < 24 → ¬ R0 x = 0 → ¬ R x = 0) → (∀ e x, e < i → x < 24 → E e = nI x → 0 < x → ¬ R0 (e / 8) = 0 → ¬ R x = 0) → (∀ e, mS M (ad 10) e = mS M0 (ad 10) e) → RN z 40 [some (.ref t0), l1, some (.int (nI j)), some (.int (nI i))] [] M 0 0 := by
  intro k
  induction k with
  | zero =>
    intro i M R hT hi h1 h2 h3 h4 he
    have hi : i = 192 := by omega
    subst hi
    refine i_T_reach_40 X (h := ?_)
    refine i_T_reach_41 X (h := ?_)
    refine i_T_reach_44 X (h1 := fun c44 => ?_) (h2 := fun c44 => ?_)
    · skip
      refine KK M R hT ⟨h1, h2, fun x hx r hr hd => ?_⟩ he
      cases r with
      | zero => exact h3 x hx (hR0.2.2 x hx 0 (by omega) hd)
      | succ r =>
        obtain ⟨e, he1, he2, he3, he4⟩ := hd
        exact h4 e x he1 hx he2 he3 (hR0.2.2 (e / 8) (by omega) r (by omega) he4)
    · skip
      exact absurd (by decide) c44 --end
  | succ k ih =>
    intro i M R hT hi h1 h2 h3 h4 he
    have hT0 := hT
    obtain ⟨hO, tW, tS, tN, tU, tF, tK, tC, tGF, tGT, tE, tR, tI⟩ := hT
    obtain ⟨q, hq, hEq⟩ := hen i (by omega)
    refine i_T_reach_40 X (h := ?_)
    refine i_T_reach_41 X (h := ?_)
    refine i_T_reach_44 X (h1 := fun c44 => ?_) (h2 := fun c44 => ?_)
    · skip
      exact absurd c44 (nI_ge (a := i) (b := 192) (by omega) (by decide)) --end
    · skip
      refine i_T_reach_47 X (h := ?_)
      refine i_T_reach_48 X (hM := by assumption) (h := ?_)
      refine i_T_reach_51 X (h := ?_)
      refine i_T_reach_52 X G (hM := by assumption) (hx := rfl) (hj := by omega) (h := ?_)
      refine i_T_reach_53 X (h1 := fun c53 => ?_) (h2 := fun c53 => ?_)
      · skip
        refine i_T_reach_80 X (h := ?_)
        refine i_T_reach_83 X (h := ?_)
        rw [nI_1]
        refine ih (i + 1) _ _ hT0 (by omega) h1 h2 h3 (fun e x he1 hx he2 he3 hn => ?_) he
        by_cases hei : e = i
        · subst hei
          rw [hEq] at he2 c53
          have hxq : q = x := (nI_eq (by omega) (by omega)).mp he2
          subst hxq
          exact absurd c53 (nI_nle he3 (by omega))
        · exact h4 e x (by omega) hx he2 he3 hn
      · skip
        refine i_T_reach_56 X (h := ?_)
        refine i_T_reach_57 X (hM := by assumption) (h := ?_)
        refine i_T_reach_60 X (h := ?_)
        refine i_T_reach_61 X (h := ?_)
        refine i_T_reach_63 X (hy := by decide) (h := ?_)
        refine i_T_reach_64 X G (hM := by assumption) (j := i / 8) (hx := d8_nI (by omega)) (hj := by omega) (h := ?_)
        refine i_T_reach_65 X (h1 := fun c65 => ?_) (h2 := fun c65 => ?_)
        · skip
          refine i_T_reach_80 X (h := ?_)
          refine i_T_reach_83 X (h := ?_)
          rw [nI_1]
          refine ih (i + 1) _ _ hT0 (by omega) h1 h2 h3 (fun e x he1 hx he2 he3 hn => ?_) he
          by_cases hei : e = i
          · subst hei
            exact absurd c65 (h3 (e / 8) (by omega) hn)
          · exact h4 e x (by omega) hx he2 he3 hn
        · skip
          refine i_T_reach_68 X (h := ?_)
          refine i_T_reach_69 X (hM := by assumption) (h := ?_)
          refine i_T_reach_72 X (h := ?_)
          refine i_T_reach_73 X (hM := by assumption) (h := ?_)
          refine i_T_reach_76 X (h := ?_)
          refine i_T_reach_77 X G (hM := by assumption) (hx := rfl) (hj := by omega) (h := ?_)
          refine i_T_reach_78 X (h := ?_)
          refine i_T_reach_79 X G (hM := by assumption) (hx := hEq) (hj := hq) (hv := Or.inr rfl) (h := ?_)
          refine i_T_reach_80 X (h := ?_)
          refine i_T_reach_83 X (h := ?_)
          rw [nI_1]
          have hq0 : 0 < q := Nat.pos_of_ne_zero (fun e => c53 (by rw [hEq, e]; decide))
          refine ih (i + 1) _ _ (TI.u10 hT0 _) (by omega) (fun x hx => ?_) (fun x hx hn => ?_) (fun x hx hn => ?_) (fun e x he1 hx he2 he3 hn => ?_) (fun e => by rw [mS_mS, he])
          · by_cases hxq : x = q
            · subst hxq
              rw [pk_us]
              exact Or.inr rfl
            · rw [pk_un hxq]
              exact h1 x hx
          · by_cases hxq : x = q
            · subst hxq
              obtain ⟨r, hr⟩ := h2 (i / 8) (by omega) c65
              exact ⟨r + 1, i, by omega, hEq, hq0, hr⟩
            · rw [pk_un hxq] at hn
              exact h2 x hx hn
          · by_cases hxq : x = q
            · subst hxq
              rw [pk_us]
              decide
            · rw [pk_un hxq]
              exact h3 x hx hn
          · by_cases hxq : x = q
            · subst hxq
              rw [pk_us]
              decide
            · rw [pk_un hxq]
              by_cases hei : e = i
              · subst hei
                rw [hEq] at he2
                exact absurd ((nI_eq (by omega) (by omega)).mp he2).symm hxq
              · exact h4 e x (by omega) hx he2 he3 hn
set_option maxRecDepth 20000 in
set_option maxHeartbeats 2000000 in
theorem lp2_T_reach {z : zT} {ws0 : va_W} {mc ms : Nat} {M0 : mM} {cI cB cN : ClassId} {t0 : Nat} {ad : Nat → Nat} {W S N U F K C Qf Qt E : Nat → Int32} {w g ck dk : Int32} {c d gn : Nat} (G : GT z cI cB cN) (hen : enOk E) {n : Nat} {l1 : Option Value} (X : B_T_reach z ws0 mc ms (fun v M1 => v = none ∧ ∃ R' : Nat → Int32, rI E n 24 R' ∧ M1 = mS M0 (ad 10) (.inl (cB, 24, .inl R')))) : ∀ (k j : Nat) (M : mM) (R : Nat → Int32) (l3 : Option Value), TI M cI cB t0 ad W S N U F K C Qf Qt E R w g ck dk c d gn → j + k = 24 → rI E n j R → (∀ e, mS M (ad 10) e = mS M0 (ad 10) e) → RN z 32 [some (.ref t0), l1, some (.int (nI j)), l3] [] M 0 0 := by
  intro k
  induction k with
  | zero =>
    intro j M R l3 hT hj hr he
    have hj : j = 24 := by omega
    subst hj
    obtain ⟨hO, tW, tS, tN, tU, tF, tK, tC, tGF, tGT, tE, tR, tI⟩ := hT
    refine i_T_reach_32 X (h := ?_)
    refine i_T_reach_33 X (h := ?_)
    refine i_T_reach_35 X (h1 := fun c35 => ?_) (h2 := fun c35 => ?_)
    · skip
      exact i_T_reach_92 X (hk := by omega) (hn := by omega) (hp := ⟨rfl, R, hr, by rw [← he, mS_same tR]⟩)
    · skip
      exact absurd (by decide) c35 --end
  | succ k ih =>
    intro j M R l3 hT hj hr he
    refine i_T_reach_32 X (h := ?_)
    refine i_T_reach_33 X (h := ?_)
    refine i_T_reach_35 X (h1 := fun c35 => ?_) (h2 := fun c35 => ?_)
    · skip
      exact absurd c35 (nI_ge (a := j) (b := 24) (by omega) (by decide)) --end
    · skip
      refine i_T_reach_38 X (h := ?_)
      refine i_T_reach_39 X (h := ?_)
      refine lp3_T_reach G hen hr X (fun M R hT hr he => ?_) 192 0 M R hT (by omega) hr.1 hr.2.1 (fun x _ h => h) (fun e x he1 => absurd he1 (by omega)) he
      refine i_T_reach_86 X (h := ?_)
      refine i_T_reach_89 X (h := ?_)
      rw [nI_1]
      exact ih (j + 1) M R _ hT (by omega) hr he
set_option maxRecDepth 20000 in
set_option maxHeartbeats 2000000 in
theorem lp1_T_reach {z : zT} {ws0 : va_W} {mc ms : Nat} {M0 : mM} {cI cB cN : ClassId} {t0 : Nat} {ad : Nat → Nat} {W S N U F K C Qf Qt E : Nat → Int32} {w g ck dk : Int32} {c d gn : Nat} (G : GT z cI cB cN) (hen : enOk E) {n : Nat} (hn : n < 24) (X : B_T_reach z ws0 mc ms (fun v M1 => v = none ∧ ∃ R' : Nat → Int32, rI E n 24 R' ∧ M1 = mS M0 (ad 10) (.inl (cB, 24, .inl R')))) : ∀ (k j : Nat) (M : mM) (R : Nat → Int32) (l3 : Option Value), TI M cI cB t0 ad W S N U F K C Qf Qt E R w g ck dk c d gn → j + k = 24 → (∀ x, x < j → R x = if x = n then 1 else 0) → (∀ e, mS M (ad 10) e = mS M0 (ad 10) e) → RN z 2 [some (.ref t0), some (.int (nI n)), some (.int (nI j)), l3] [] M 0 0 := by
  intro k
  induction k with
  | zero =>
    intro j M R l3 hT hj hr he
    have hj : j = 24 := by omega
    subst hj
    refine i_T_reach_2 X (h := ?_)
    refine i_T_reach_3 X (h := ?_)
    refine i_T_reach_5 X (h1 := fun c5 => ?_) (h2 := fun c5 => ?_)
    · skip
      refine i_T_reach_30 X (h := ?_)
      refine i_T_reach_31 X (h := ?_)
      refine lp2_T_reach G hen X 24 0 M R _ hT (by omega) ⟨fun x hx => ?_, fun x hx hne => ?_, fun x hx r hr0 hd => ?_⟩ he
      · rw [hr x hx]
        split
        · exact Or.inr rfl
        · exact Or.inl rfl
      · rw [hr x hx] at hne
        by_cases hxn : x = n
        · exact ⟨0, hxn⟩
        · rw [if_neg hxn] at hne
          exact absurd rfl hne
      · have hr0 : r = 0 := by omega
        subst hr0
        rw [hr x hx, if_pos (show x = n from hd)]
        decide
    · skip
      exact absurd (by decide) c5 --end
  | succ k ih =>
    intro j M R l3 hT hj hr he
    have hT0 := hT
    obtain ⟨hO, tW, tS, tN, tU, tF, tK, tC, tGF, tGT, tE, tR, tI⟩ := hT
    refine i_T_reach_2 X (h := ?_)
    refine i_T_reach_3 X (h := ?_)
    refine i_T_reach_5 X (h1 := fun c5 => ?_) (h2 := fun c5 => ?_)
    · skip
      exact absurd c5 (nI_ge (a := j) (b := 24) (by omega) (by decide)) --end
    · skip
      refine i_T_reach_8 X (h := ?_)
      refine i_T_reach_9 X (hM := by assumption) (h := ?_)
      refine i_T_reach_12 X (h := ?_)
      refine i_T_reach_13 X (h := ?_)
      refine i_T_reach_14 X (h := ?_)
      refine i_T_reach_15 X (h1 := fun c15 => ?_) (h2 := fun c15 => ?_)
      · skip
        refine i_T_reach_22 X (h := ?_)
        refine i_T_reach_23 X G (hM := by assumption) (hx := rfl) (hj := by omega) (hv := by first | exact Or.inl rfl | exact Or.inr rfl) (h := ?_)
        refine i_T_reach_24 X (h := ?_)
        refine i_T_reach_27 X (h := ?_)
        rw [nI_1]
        refine ih (j + 1) _ _ _ (TI.u10 hT0 _) (by omega) (fun x hx => ?_) (fun e => by rw [mS_mS, he])
        by_cases hxj : x = j
        · subst hxj
          rw [pk_us]
          rw [if_neg (fun q => c15 (by rw [q]))]
        · rw [pk_un hxj]
          exact hr x (by omega)
      · skip
        refine i_T_reach_18 X (h := ?_)
        refine i_T_reach_19 X (h := ?_)
        refine i_T_reach_23 X G (hM := by assumption) (hx := rfl) (hj := by omega) (hv := by first | exact Or.inl rfl | exact Or.inr rfl) (h := ?_)
        refine i_T_reach_24 X (h := ?_)
        refine i_T_reach_27 X (h := ?_)
        rw [nI_1]
        refine ih (j + 1) _ _ _ (TI.u10 hT0 _) (by omega) (fun x hx => ?_) (fun e => by rw [mS_mS, he])
        by_cases hxj : x = j
        · subst hxj
          rw [pk_us]
          rw [if_pos ((nI_eq (by omega) (by omega)).mp c15)]
        · rw [pk_un hxj]
          exact hr x (by omega)
set_option maxRecDepth 20000 in
set_option maxHeartbeats 1000000 in
theorem ct_T_reach {l : Launch} {D : va_G} {tys : List (ClassId × FieldType)} {M : mM} {cI cB cN : ClassId} {t0 : Nat} {ad : Nat → Nat} {W S N U F K C Qf Qt E R : Nat → Int32} {w g ck dk : Int32} {c d gn : Nat} (G : tys[0]? = some (cI, .int) ∧ tys[1]? = some (cB, .boolean) ∧ tys[2]? = some (cN, .object RX0)) (hT : TI M cI cB t0 ad W S N U F K C Qf Qt E R w g ck dk c d gn) (hen : enOk E) {n : Nat} (hn : n < 24) : Ct_T_reach l D tys 0 0 [.ref t0, .int (nI n)] M (fun v M1 => v = none ∧ ∃ R' : Nat → Int32, rI E n 24 R' ∧ M1 = mS M (ad 10) (.inl (cB, 24, .inl R'))) := by
  refine Ct.of (cc := c_T_reach) (maxL := 4) (ret := none) (L0 := [some (.ref t0), some (.int (nI n)), none, none]) (by decide) (by intro v hv; simp only [List.mem_cons, List.not_mem_nil, or_false] at hv; rcases hv with rfl | rfl <;> first | rfl | exact mRf_cat (mRf_rf _)) (by simp) rfl ?_
  intro z ws0 hl hD ht X1 X2
  subst hl; subst hD; subst ht
  have X := And.intro X1 X2
  clear X1 X2
  refine i_T_reach_0 X (h := ?_)
  refine i_T_reach_1 X (h := ?_)
  exact lp1_T_reach G hen hn X 24 0 M R _ hT (by omega) (fun x hx => absurd hx (by omega)) (fun e => rfl)
set_option maxRecDepth 20000 in
set_option maxHeartbeats 1000000 in
theorem ct_T_asked {l : Launch} {D : va_G} {tys : List (ClassId × FieldType)} {M : mM} {cI cB cN : ClassId} {t0 : Nat} {ad : Nat → Nat} {W S N U F K C Qf Qt E R : Nat → Int32} {w g ck dk : Int32} {c d gn : Nat} (G : tys[0]? = some (cI, .int) ∧ tys[1]? = some (cB, .boolean) ∧ tys[2]? = some (cN, .object RX0)) (hT : TI M cI cB t0 ad W S N U F K C Qf Qt E R w g ck dk c d gn) (hc : c ≤ 512) (t f n : Int32) : Ct_T_asked l D tys 0 0 [.ref t0, .int t, .int f, .int n] M (fun v M1 => v = some (.int (bI (¬ t < 0 ∧ (0 ≤ f ∧ f < 24) ∧ (0 ≤ n ∧ n < 8) ∧ (if f = 0 then 1 else kdL K N f c 0) = 1))) ∧ M1 = M) := by
  refine Ct.of (cc := c_T_asked) (maxL := 4) (ret := (some (.boolean))) (L0 := [some (.ref t0), some (.int t), some (.int f), some (.int n)]) (by decide) (by intro v hv; simp only [List.mem_cons, List.not_mem_nil, or_false] at hv; rcases hv with rfl | rfl | rfl | rfl <;> first | rfl | exact mRf_cat (mRf_rf _)) (by simp) rfl ?_
  intro z ws0 hl hD ht X1 X2
  subst hl; subst hD; subst ht
  have X := And.intro X1 X2
  clear X1 X2
  have hT0 := hT
  obtain ⟨hO, tW, tS, tN, tU, tF, tK, tC, tGF, tGT, tE, tR, tI⟩ := hT
  refine i_T_asked_0 X (h := ?_)
  refine i_T_asked_1 X (h1 := fun c1 => ?_) (h2 := fun c1 => ?_)
  · skip
    refine i_T_asked_35 X (h := ?_)
    exact i_T_asked_36 X (hk := by omega) (hn := by omega) (hx := by first | exact Or.inl rfl | exact Or.inr rfl | assumption) (hp := ⟨by rw [bI_f (fun h => h.1 c1)], rfl⟩)
  · skip
    refine i_T_asked_4 X (h := ?_)
    refine i_T_asked_5 X (h := ?_)
    refine i_T_asked_7 X (hC := ct_T_isin f 24) (hk := by omega) (hn := by omega) (h := fun v7 M7 hp7 => ?_)
    obtain ⟨rfl, rfl⟩ := hp7
    refine i_T_asked_10 X (h1 := fun c10 => ?_) (h2 := fun c10 => ?_)
    · skip
      have f10 := bI_eq0 c10
      refine i_T_asked_35 X (h := ?_)
      exact i_T_asked_36 X (hk := by omega) (hn := by omega) (hx := by first | exact Or.inl rfl | exact Or.inr rfl | assumption) (hp := ⟨by rw [bI_f (fun h => f10 h.2.1)], rfl⟩)
    · skip
      have f10 := bI_ne0 c10
      refine i_T_asked_13 X (h := ?_)
      refine i_T_asked_14 X (h := ?_)
      refine i_T_asked_16 X (hC := ct_T_isin n 8) (hk := by omega) (hn := by omega) (h := fun v16 M16 hp16 => ?_)
      obtain ⟨rfl, rfl⟩ := hp16
      refine i_T_asked_19 X (h1 := fun c19 => ?_) (h2 := fun c19 => ?_)
      · skip
        have f19 := bI_eq0 c19
        refine i_T_asked_35 X (h := ?_)
        exact i_T_asked_36 X (hk := by omega) (hn := by omega) (hx := by first | exact Or.inl rfl | exact Or.inr rfl | assumption) (hp := ⟨by rw [bI_f (fun h => f19 h.2.2.1)], rfl⟩)
      · skip
        have f19 := bI_ne0 c19
        refine i_T_asked_22 X (h := ?_)
        refine i_T_asked_23 X (h := ?_)
        refine i_T_asked_24 X (hM := by assumption) (hC := ct_T_kind G hT0 hc f) (hk := by omega) (hn := by omega) (h := fun v24 M24 hp24 => ?_)
        obtain ⟨rfl, rfl⟩ := hp24
        refine i_T_asked_27 X (h := ?_)
        refine i_T_asked_28 X (h1 := fun c28 => ?_) (h2 := fun c28 => ?_)
        · skip
          refine i_T_asked_35 X (h := ?_)
          exact i_T_asked_36 X (hk := by omega) (hn := by omega) (hx := by first | exact Or.inl rfl | exact Or.inr rfl | assumption) (hp := ⟨by rw [bI_f (fun h => c28 h.2.2.2)], rfl⟩)
        · skip
          refine i_T_asked_31 X (h := ?_)
          refine i_T_asked_32 X (h := ?_)
          exact i_T_asked_36 X (hk := by omega) (hn := by omega) (hx := by first | exact Or.inl rfl | exact Or.inr rfl | assumption) (hp := ⟨by rw [bI_t ⟨c1, f10, f19, c28⟩], rfl⟩)
