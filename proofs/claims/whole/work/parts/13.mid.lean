theorem va_up_id {α : Type} (f : Nat → α) (k : Nat) : va_up f k (f k) = f := by
  funext j
  by_cases h : j = k
  · subst h
    rw [va_up_self]
  · rw [va_up_ne _ _ h]
/-- places are none, or a folder's and a name's -/
def plOk (pl : Nat → Int32) : Prop := ∀ i, i < 24 → pl i = -1 ∨ ∃ q, q < 192 ∧ pl i = nI q
/-- the versions as of a time: what is left of the chain -/
def vao : List vV → Int32 → List vV
  | [], _ => []
  | (t, x, cs, g) :: l, y => if y < t then vao l y else (t, x, cs, g) :: l
/-- how many are gone -/
def cgn : List vV → Nat
  | [] => 0
  | (_, _, _, g) :: l => (if g = 0 then 0 else 1) + cgn l
theorem IC_congr {M : mM} {cI cN : ClassId} {h0 na pa : Nat} {nd ow : Nat → Nat} {sr vr dr er sr' vr' dr' er' : Nat → Option Nat} {pl : Nat → Int32} {w g ck mk ch dc dm dh ev : Int32} {sp ds sp' ds' : Nat → List (Int32 × Int32)} {vs dv vs' dv' : Nat → List vV}
    (h : IC M cI cN h0 na pa nd ow sr vr dr er pl w g ck mk ch dc dm dh ev sp ds vs dv) (e : ∀ i, i < 24 → sr' i = sr i ∧ vr' i = vr i ∧ dr' i = dr i ∧ er' i = er i ∧ sp' i = sp i ∧ ds' i = ds i ∧ vs' i = vs i ∧ dv' i = dv i) :
    IC M cI cN h0 na pa nd ow sr' vr' dr' er' pl w g ck mk ch dc dm dh ev sp' ds' vs' dv' := by
  obtain ⟨e0, e1, e2, e3, e4⟩ := h
  refine ⟨e0, e1, e2, fun i hi => ?_, e4⟩
  obtain ⟨q1, q2, q3, q4, q5, q6, q7, q8⟩ := e i hi
  rw [q1, q2, q3, q4, q5, q6, q7, q8]
  exact e3 i hi
set_option maxRecDepth 20000 in
set_option maxHeartbeats 1000000 in
theorem lp_P_isWithin {z : zT} {ws0 : va_W} {mc ms : Nat} {M : mM} {cI cB cN : ClassId} {h0 na pa : Nat} {nd ow : Nat → Nat} {sr vr dr er : Nat → Option Nat} {pl : Nat → Int32} {w g ck mk ch dc dm dh ev : Int32} {sp ds : Nat → List (Int32 × Int32)} {vs dv : Nat → List vV} (G : GT z cI cB cN) (hI : IC M cI cN h0 na pa nd ow sr vr dr er pl w g ck mk ch dc dm dh ev sp ds vs dv) (hpl : plOk pl) {t : Nat} (ht : t < 24) {l1 : Option Value} {b : Bool}
    (X : B_P_isWithin z ws0 mc ms (fun v M1 => v = some (.int (bI (b = true))) ∧ M1 = M)) : ∀ (n j x : Nat), j + n = 24 → x < 24 → b = wiL pl t n x → RN z 5 [some (.ref h0), l1, some (.int (nI t)), some (.int (nI x)), some (.int (nI j))] [] M 0 0 := by
  obtain ⟨hO, hNa, hPa, hNd, hNi⟩ := hI
  intro n
  induction n with
  | zero =>
    intro j x hj hx hr
    have hj : j = 24 := by omega
    subst hj
    refine i_P_isWithin_5 X (h := ?_)
    refine i_P_isWithin_7 X (h := ?_)
    refine i_P_isWithin_9 X (h1 := fun c9 => ?_) (h2 := fun c9 => ?_)
    · skip
      refine i_P_isWithin_47 X (h := ?_)
      exact i_P_isWithin_48 X (hk := by omega) (hn := by omega) (hx := by first | exact Or.inl rfl | exact Or.inr rfl | assumption) (hp := ⟨by rw [hr]; rfl, rfl⟩)
    · skip
      exact absurd (by decide) c9 --end
  | succ n ih =>
    intro j x hj hx hr
    refine i_P_isWithin_5 X (h := ?_)
    refine i_P_isWithin_7 X (h := ?_)
    refine i_P_isWithin_9 X (h1 := fun c9 => ?_) (h2 := fun c9 => ?_)
    · skip
      exact absurd c9 (nI_ge (a := j) (b := 24) (by omega) (by decide)) --end
    · skip
      refine i_P_isWithin_12 X (h := ?_)
      refine i_P_isWithin_13 X (h := ?_)
      refine i_P_isWithin_14 X (h1 := fun c14 => ?_) (h2 := fun c14 => ?_)
      · skip
        have f14 : ¬ x = t := fun q => c14 (by rw [q])
        refine i_P_isWithin_19 X (h := ?_)
        refine i_P_isWithin_20 X (hM := by assumption) (h := ?_)
        refine i_P_isWithin_23 X (h := ?_)
        refine i_P_isWithin_24 X G (hM := by assumption) (hx := rfl) (hj := hx) (h := ?_)
        refine i_P_isWithin_25 X (h := ?_)
        refine i_P_isWithin_26 X (h1 := fun c26 => ?_) (h2 := fun c26 => ?_)
        · skip
          obtain ⟨q, hq, hpq⟩ := (hpl x hx).resolve_left c26
          refine i_P_isWithin_31 X (h := ?_)
          refine i_P_isWithin_32 X (hM := by assumption) (h := ?_)
          refine i_P_isWithin_35 X (h := ?_)
          refine i_P_isWithin_36 X G (hM := by assumption) (hx := rfl) (hj := hx) (h := ?_)
          refine i_P_isWithin_37 X (h := ?_)
          refine i_P_isWithin_39 X (hy := by decide) (h := ?_)
          refine i_P_isWithin_40 X (h := ?_)
          refine i_P_isWithin_41 X (h := ?_)
          refine i_P_isWithin_44 X (h := ?_)
          rw [hpq, show (nI q / 8 : Int32) = nI (q / 8) from pk_div (by omega) (by decide) (by decide), nI_1]
          exact ih (j + 1) (q / 8) (by omega) (by omega) (by rw [hr]; simp only [wiL]; rw [if_neg f14, if_neg c26, hpq, nI_clamp (by omega)])
        · skip
          refine i_P_isWithin_29 X (h := ?_)
          exact i_P_isWithin_30 X (hk := by omega) (hn := by omega) (hx := by first | exact Or.inl rfl | exact Or.inr rfl | assumption) (hp := ⟨by rw [bI_f (show ¬ b = true from by rw [hr]; simp only [wiL]; rw [if_neg f14, if_pos c26]; decide)], rfl⟩)
      · skip
        have f14 : x = t := (nI_eq (by omega) (by omega)).mp c14
        refine i_P_isWithin_17 X (h := ?_)
        exact i_P_isWithin_18 X (hk := by omega) (hn := by omega) (hx := by first | exact Or.inl rfl | exact Or.inr rfl | assumption) (hp := ⟨by rw [bI_t (show b = true from by rw [hr]; simp only [wiL]; rw [if_pos f14])], rfl⟩)
set_option maxRecDepth 20000 in
set_option maxHeartbeats 1000000 in
theorem ct_P_isWithin {l : Launch} {D : va_G} {tys : List (ClassId × FieldType)} {M : mM} {cI cB cN : ClassId} {h0 na pa : Nat} {nd ow : Nat → Nat} {sr vr dr er : Nat → Option Nat} {pl : Nat → Int32} {w g ck mk ch dc dm dh ev : Int32} {sp ds : Nat → List (Int32 × Int32)} {vs dv : Nat → List vV} (G : tys[0]? = some (cI, .int) ∧ tys[1]? = some (cB, .boolean) ∧ tys[2]? = some (cN, .object RX0)) (hI : IC M cI cN h0 na pa nd ow sr vr dr er pl w g ck mk ch dc dm dh ev sp ds vs dv) (hpl : plOk pl) {x t : Nat} (hx : x < 24) (ht : t < 24) : Ct_P_isWithin l D tys 0 0 [.ref h0, .int (nI x), .int (nI t)] M (fun v M1 => v = some (.int (bI (wiL pl t 24 x = true))) ∧ M1 = M) := by
  refine Ct.of (cc := c_P_isWithin) (maxL := 5) (ret := (some (.boolean))) (L0 := [some (.ref h0), some (.int (nI x)), some (.int (nI t)), none, none]) (by decide) (by intro v hv; simp only [List.mem_cons, List.not_mem_nil, or_false] at hv; rcases hv with rfl | rfl | rfl <;> first | rfl | exact mRf_cat (mRf_rf _)) (by simp) rfl ?_
  intro z ws0 hl hD ht X1 X2
  subst hl; subst hD; subst ht
  have X := And.intro X1 X2
  clear X1 X2
  refine i_P_isWithin_0 X (h := ?_)
  refine i_P_isWithin_1 X (h := ?_)
  refine i_P_isWithin_2 X (h := ?_)
  refine i_P_isWithin_3 X (h := ?_)
  exact lp_P_isWithin (cB := cB) G hI hpl ht X 24 0 x rfl hx rfl
set_option maxRecDepth 20000 in
set_option maxHeartbeats 1000000 in
theorem lp_P_findPlaces {z : zT} {ws0 : va_W} {mc ms : Nat} {M0 : mM} {cI cB cN : ClassId} {h0 na pa : Nat} {nd ow : Nat → Nat} {sr vr dr er : Nat → Option Nat} {w g ck mk ch dc dm dh ev : Int32} {sp ds : Nat → List (Int32 × Int32)} {vs dv : Nat → List vV} (G : GT z cI cB cN) {x : Int32}
    (X : B_P_findPlaces z ws0 mc ms (fun v M1 => v = none ∧ ∃ pl' : Nat → Int32, (∀ i, i < 24 → pl' i = plc (sp i) x) ∧ M1 = mS M0 pa (.inl (cI, 24, .inl pl')))) : ∀ (n j : Nat) (M : mM) (pl : Nat → Int32), IC M cI cN h0 na pa nd ow sr vr dr er pl w g ck mk ch dc dm dh ev sp ds vs dv → j + n = 24 → (∀ i, i < j → pl i = plc (sp i) x) → (∀ e, mS M pa e = mS M0 pa e) → RN z 2 [some (.ref h0), some (.int x), some (.int (nI j))] [] M 0 0 := by
  intro n
  induction n with
  | zero =>
    intro j M pl hI hj hr he
    have hj : j = 24 := by omega
    subst hj
    obtain ⟨hO, hNa, hPa, hNd, hNi⟩ := hI
    refine i_P_findPlaces_2 X (h := ?_)
    refine i_P_findPlaces_3 X (h := ?_)
    refine i_P_findPlaces_5 X (h1 := fun c5 => ?_) (h2 := fun c5 => ?_)
    · skip
      exact i_P_findPlaces_30 X (hk := by omega) (hn := by omega) (hp := ⟨rfl, pl, hr, by rw [← he, mS_same hPa]⟩)
    · skip
      exact absurd (by decide) c5 --end
  | succ n ih =>
    intro j M pl hI hj hr he
    have hI0 := hI
    obtain ⟨hO, hNa, hPa, hNd, hNi⟩ := hI
    have hN := hNd j (by omega)
    refine i_P_findPlaces_2 X (h := ?_)
    refine i_P_findPlaces_3 X (h := ?_)
    refine i_P_findPlaces_5 X (h1 := fun c5 => ?_) (h2 := fun c5 => ?_)
    · skip
      exact absurd c5 (nI_ge (a := j) (b := 24) (by omega) (by decide)) --end
    · skip
      refine i_P_findPlaces_8 X (h := ?_)
      refine i_P_findPlaces_9 X (hM := by assumption) (h := ?_)
      refine i_P_findPlaces_12 X (h := ?_)
      refine i_P_findPlaces_13 X (h := ?_)
      refine i_P_findPlaces_14 X (hM := by assumption) (h := ?_)
      refine i_P_findPlaces_17 X (h := ?_)
      refine i_P_findPlaces_18 X G (hM := by assumption) (hx := rfl) (hj := by omega) (h := ?_)
      refine i_P_findPlaces_19 X (h := ?_)
      refine i_P_findPlaces_20 X (hC := ct_N_placeAsOf hN.1 hN.2.1 x) (hk := by omega) (hn := by omega) (hM := hN.1) (h := fun v20 M20 hp20 => ?_)
      obtain ⟨rfl, rfl⟩ := hp20
      refine i_P_findPlaces_23 X G (hM := by assumption) (hx := rfl) (hj := by omega) (h := ?_)
      refine i_P_findPlaces_24 X (h := ?_)
      refine i_P_findPlaces_27 X (h := ?_)
      rw [nI_1]
      refine ih (j + 1) _ _ (IC.places hI0 _) (by omega) (fun i hi => ?_) (fun e => by rw [mS_mS, he])
      by_cases hij : i = j
      · subst hij
        rw [pk_us]
      · rw [pk_un hij]
        exact hr i (by omega)
set_option maxRecDepth 20000 in
set_option maxHeartbeats 1000000 in
theorem ct_P_findPlaces {l : Launch} {D : va_G} {tys : List (ClassId × FieldType)} {M : mM} {cI cB cN : ClassId} {h0 na pa : Nat} {nd ow : Nat → Nat} {sr vr dr er : Nat → Option Nat} {pl : Nat → Int32} {w g ck mk ch dc dm dh ev : Int32} {sp ds : Nat → List (Int32 × Int32)} {vs dv : Nat → List vV} (G : tys[0]? = some (cI, .int) ∧ tys[1]? = some (cB, .boolean) ∧ tys[2]? = some (cN, .object RX0)) (hI : IC M cI cN h0 na pa nd ow sr vr dr er pl w g ck mk ch dc dm dh ev sp ds vs dv) (x : Int32) : Ct_P_findPlaces l D tys 0 0 [.ref h0, .int x] M (fun v M1 => v = none ∧ ∃ pl' : Nat → Int32, (∀ i, i < 24 → pl' i = plc (sp i) x) ∧ M1 = mS M pa (.inl (cI, 24, .inl pl'))) := by
  refine Ct.of (cc := c_P_findPlaces) (maxL := 3) (ret := none) (L0 := [some (.ref h0), some (.int x), none]) (by decide) (by intro v hv; simp only [List.mem_cons, List.not_mem_nil, or_false] at hv; rcases hv with rfl | rfl <;> first | rfl | exact mRf_cat (mRf_rf _)) (by simp) rfl ?_
  intro z ws0 hl hD ht X1 X2
  subst hl; subst hD; subst ht
  have X := And.intro X1 X2
  clear X1 X2
  refine i_P_findPlaces_0 X (h := ?_)
  refine i_P_findPlaces_1 X (h := ?_)
  exact lp_P_findPlaces (cB := cB) G X 24 0 M pl hI rfl (fun i hi => absurd hi (by omega)) (fun e => rfl)
set_option maxRecDepth 20000 in
set_option maxHeartbeats 1000000 in
theorem lp_P_versionAsOf {z : zT} {ws0 : va_W} {mc ms : Nat} {M : mM} {cI : ClassId} {ow : Nat → Nat} {i : Nat} {x : Int32} {l0 : Option Value} {ll : List vV}
    (X : B_P_versionAsOf z ws0 mc ms (fun v M1 => ∃ r, v = some (va_rf r) ∧ M1 = M ∧ vrc M cI ow i r ll)) : ∀ (l : List vV) (r : Option Nat), vrc M cI ow i r l → ll = vao l x → RN z 2 [l0, some (.int x), some (va_rf r)] [] M 0 0 := by
  intro l
  induction l with
  | nil =>
    intro r hr hp
    have hr : r = none := hr
    subst hr
    refine i_P_versionAsOf_2 X (h := ?_)
    refine i_P_versionAsOf_3 X (h1 := fun c3 => ?_) (h2 := fun q3 c3 => ?_)
    · skip
      refine i_P_versionAsOf_22 X (h := ?_)
      exact i_P_versionAsOf_23 X (hk := by omega) (hn := by omega) (hp := ⟨none, rfl, rfl, by rw [hp]; rfl⟩)
    · skip
      exact absurd c3 (by simp [va_rf]) --end
  | cons q l ih =>
    intro r hr hp
    obtain ⟨t, y, cs, gn⟩ := q
    have hr0 := hr
    obtain ⟨a, ca, b, rfl, hw, ha, hca, hb⟩ := hr
    refine i_P_versionAsOf_2 X (h := ?_)
    refine i_P_versionAsOf_3 X (h1 := fun c3 => ?_) (h2 := fun q3 c3 => ?_)
    · skip
      exact absurd c3 (by simp [va_rf]) --end
    · skip
      refine i_P_versionAsOf_6 X (h := ?_)
      refine i_P_versionAsOf_7 X (hM := by assumption) (h := ?_)
      refine i_P_versionAsOf_10 X (h := ?_)
      refine i_P_versionAsOf_11 X (h1 := fun c11 => ?_) (h2 := fun c11 => ?_)
      · skip
        refine i_P_versionAsOf_22 X (h := ?_)
        exact i_P_versionAsOf_23 X (hk := by omega) (hn := by omega) (hp := ⟨some a, rfl, rfl, by rw [hp]; simp only [vao]; rw [if_neg (Int32.not_lt.mpr c11)]; exact hr0⟩)
      · skip
        refine i_P_versionAsOf_14 X (h := ?_)
        refine i_P_versionAsOf_15 X (hM := by assumption) (h := ?_)
        refine i_P_versionAsOf_18 X (h := ?_)
        refine i_P_versionAsOf_19 X (h := ?_)
        exact ih b hb (by rw [hp]; simp only [vao]; rw [if_pos (Int32.not_le.mp c11)])
set_option maxRecDepth 20000 in
set_option maxHeartbeats 1000000 in
theorem ct_P_versionAsOf {l : Launch} {D : va_G} {tys : List (ClassId × FieldType)} {M : mM} {cI : ClassId} {ow : Nat → Nat} {i : Nat} {l1 : List vV} {r : Option Nat} (hr : vrc M cI ow i r l1) (x : Int32) : Ct_P_versionAsOf l D tys 0 0 [va_rf r, .int x] M (fun v M1 => ∃ r', v = some (va_rf r') ∧ M1 = M ∧ vrc M cI ow i r' (vao l1 x)) := by
  refine Ct.of (cc := c_P_versionAsOf) (maxL := 3) (ret := (some (.object "PastTree$Version"))) (L0 := [some (va_rf r), some (.int x), none]) (by decide) (by intro v hv; simp only [List.mem_cons, List.not_mem_nil, or_false] at hv; rcases hv with rfl | rfl <;> first | rfl | exact mRf_cat (mRf_rf _)) (by simp) rfl ?_
  intro z ws0 hl hD ht X1 X2
  subst hl; subst hD; subst ht
  have X := And.intro X1 X2
  clear X1 X2
  refine i_P_versionAsOf_0 X (h := ?_)
  refine i_P_versionAsOf_1 X (h := ?_)
  exact lp_P_versionAsOf X l1 r hr rfl
set_option maxRecDepth 20000 in
set_option maxHeartbeats 1000000 in
theorem lp_P_countGone {z : zT} {ws0 : va_W} {mc ms : Nat} {M : mM} {cI : ClassId} {ow : Nat → Nat} {i : Nat} {l0 : Option Value} {k : Nat}
    (X : B_P_countGone z ws0 mc ms (fun v M1 => v = some (.int (nI k)) ∧ M1 = M)) : ∀ (l : List vV) (r : Option Nat) (n : Nat), vrc M cI ow i r l → k = n + cgn l → RN z 4 [l0, some (.int (nI n)), some (va_rf r)] [] M 0 0 := by
  intro l
  induction l with
  | nil =>
    intro r n hr hp
    have hr : r = none := hr
    subst hr
    refine i_P_countGone_4 X (h := ?_)
    refine i_P_countGone_5 X (h1 := fun c5 => ?_) (h2 := fun q5 c5 => ?_)
    · skip
      refine i_P_countGone_26 X (h := ?_)
      exact i_P_countGone_27 X (hk := by omega) (hn := by omega) (hp := ⟨by rw [hp]; rfl, rfl⟩)
    · skip
      exact absurd c5 (by simp [va_rf]) --end
  | cons q l ih =>
    intro r n hr hp
    obtain ⟨t, y, cs, gn⟩ := q
    obtain ⟨a, ca, b, rfl, hw, ha, hca, hb⟩ := hr
    refine i_P_countGone_4 X (h := ?_)
    refine i_P_countGone_5 X (h1 := fun c5 => ?_) (h2 := fun q5 c5 => ?_)
    · skip
      exact absurd c5 (by simp [va_rf]) --end
    · skip
      refine i_P_countGone_8 X (h := ?_)
      refine i_P_countGone_9 X (hM := by assumption) (h := ?_)
      refine i_P_countGone_12 X (h1 := fun c12 => ?_) (h2 := fun c12 => ?_)
      · skip
        refine i_P_countGone_18 X (h := ?_)
        refine i_P_countGone_19 X (hM := by assumption) (h := ?_)
        refine i_P_countGone_22 X (h := ?_)
        refine i_P_countGone_23 X (h := ?_)
        first | exact ih b _ hb (by rw [hp]; simp only [cgn]; rw [if_pos c12]; omega) | exact ih b _ hb (by rw [hp]; simp only [cgn]; rw [if_neg c12]; omega)
      · skip
        refine i_P_countGone_15 X (h := ?_)
        rw [nI_1]
        refine i_P_countGone_18 X (h := ?_)
        refine i_P_countGone_19 X (hM := by assumption) (h := ?_)
        refine i_P_countGone_22 X (h := ?_)
        refine i_P_countGone_23 X (h := ?_)
        first | exact ih b _ hb (by rw [hp]; simp only [cgn]; rw [if_pos c12]; omega) | exact ih b _ hb (by rw [hp]; simp only [cgn]; rw [if_neg c12]; omega)
set_option maxRecDepth 20000 in
set_option maxHeartbeats 1000000 in
theorem ct_P_countGone {l : Launch} {D : va_G} {tys : List (ClassId × FieldType)} {M : mM} {cI : ClassId} {ow : Nat → Nat} {i : Nat} {l1 : List vV} {r : Option Nat} (hr : vrc M cI ow i r l1) : Ct_P_countGone l D tys 0 0 [va_rf r] M (fun v M1 => v = some (.int (nI (cgn l1))) ∧ M1 = M) := by
  refine Ct.of (cc := c_P_countGone) (maxL := 3) (ret := (some (.int))) (L0 := [some (va_rf r), none, none]) (by decide) (by intro v hv; simp only [List.mem_cons, List.not_mem_nil, or_false] at hv; rcases hv with rfl <;> first | rfl | exact mRf_cat (mRf_rf _)) (by simp) rfl ?_
  intro z ws0 hl hD ht X1 X2
  subst hl; subst hD; subst ht
  have X := And.intro X1 X2
  clear X1 X2
  refine i_P_countGone_0 X (h := ?_)
  refine i_P_countGone_1 X (h := ?_)
  refine i_P_countGone_2 X (h := ?_)
  refine i_P_countGone_3 X (h := ?_)
  exact lp_P_countGone X l1 r 0 hr (by omega)
set_option maxRecDepth 20000 in
set_option maxHeartbeats 1000000 in
theorem lp_P_makeDurable {z : zT} {ws0 : va_W} {mc ms : Nat} {cI cB cN : ClassId} {h0 na pa : Nat} {nd ow : Nat → Nat} {sr vr  : Nat → Option Nat} {pl : Nat → Int32} {w g ck mk ch ev : Int32} {sp : Nat → List (Int32 × Int32)} {vs : Nat → List vV} (G : GT z cI cB cN)
    (X : B_P_makeDurable z ws0 mc ms (fun v M1 => v = none ∧ IC M1 cI cN h0 na pa nd ow sr vr sr vr pl w g ck mk ch ck mk ch ev sp sp vs vs)) : ∀ (n j : Nat) (M : mM) (dr er : Nat → Option Nat) (ds : Nat → List (Int32 × Int32)) (dv : Nat → List vV), IC M cI cN h0 na pa nd ow sr vr dr er pl w g ck mk ch ck mk ch ev sp ds vs dv → j + n = 24 → (∀ i, i < j → dr i = sr i ∧ er i = vr i ∧ ds i = sp i ∧ dv i = vs i) → RN z 26 [some (.ref h0), some (.int (nI j))] [] M 0 0 := by
  intro n
  induction n with
  | zero =>
    intro j M dr er ds dv hI hj hr
    have hj : j = 24 := by omega
    subst hj
    refine i_P_makeDurable_26 X (h := ?_)
    refine i_P_makeDurable_27 X (h := ?_)
    refine i_P_makeDurable_29 X (h1 := fun c29 => ?_) (h2 := fun c29 => ?_)
    · skip
      exact i_P_makeDurable_47 X (hk := by omega) (hn := by omega) (hp := ⟨rfl, IC_congr hI (fun i hi => ⟨rfl, rfl, (hr i hi).1.symm, (hr i hi).2.1.symm, rfl, (hr i hi).2.2.1.symm, rfl, (hr i hi).2.2.2.symm⟩)⟩)
    · skip
      exact absurd (by decide) c29 --end
  | succ n ih =>
    intro j M dr er ds dv hI hj hr
    have hI0 := hI
    obtain ⟨hO, hNa, hPa, hNd, hNi⟩ := hI
    have hN := hNd j (by omega)
    refine i_P_makeDurable_26 X (h := ?_)
    refine i_P_makeDurable_27 X (h := ?_)
    refine i_P_makeDurable_29 X (h1 := fun c29 => ?_) (h2 := fun c29 => ?_)
    · skip
      exact absurd c29 (nI_ge (a := j) (b := 24) (by omega) (by decide)) --end
    · skip
      refine i_P_makeDurable_32 X (h := ?_)
      refine i_P_makeDurable_33 X (hM := by assumption) (h := ?_)
      refine i_P_makeDurable_36 X (h := ?_)
      refine i_P_makeDurable_37 X G (hM := by assumption) (hx := rfl) (hj := by omega) (h := ?_)
      refine i_P_makeDurable_38 X (hC := ct_N_keep hN.1) (hk := by omega) (hn := by omega) (hM := hN.1) (h := fun v38 M38 hp38 => ?_)
      obtain ⟨rfl, rfl⟩ := hp38
      refine i_P_makeDurable_41 X (h := ?_)
      refine i_P_makeDurable_44 X (h := ?_)
      rw [nI_1]
      have hI2 := IC.node hI0 (i := j) (by omega) hN.2.1 hN.2.2.1 hN.2.1 hN.2.2.1
      simp only [va_up_id] at hI2
      refine ih (j + 1) _ _ _ _ _ hI2 (by omega) (fun i hi => ?_)
      by_cases hij : i = j
      · subst hij
        simp only [va_up_self]
        exact ⟨trivial, trivial, trivial, trivial⟩
      · simp only [va_up_ne _ _ hij]
        exact hr i (by omega)
set_option maxRecDepth 20000 in
set_option maxHeartbeats 1000000 in
theorem ct_P_makeDurable {l : Launch} {D : va_G} {tys : List (ClassId × FieldType)} {M : mM} {cI cB cN : ClassId} {h0 na pa : Nat} {nd ow : Nat → Nat} {sr vr dr er : Nat → Option Nat} {pl : Nat → Int32} {w g ck mk ch dc dm dh ev : Int32} {sp ds : Nat → List (Int32 × Int32)} {vs dv : Nat → List vV} (G : tys[0]? = some (cI, .int) ∧ tys[1]? = some (cB, .boolean) ∧ tys[2]? = some (cN, .object RX0)) (hI : IC M cI cN h0 na pa nd ow sr vr dr er pl w g ck mk ch dc dm dh ev sp ds vs dv) : Ct_P_makeDurable l D tys 0 0 [.ref h0] M (fun v M1 => v = none ∧ IC M1 cI cN h0 na pa nd ow sr vr sr vr pl w g ck mk ch ck mk ch ev sp sp vs vs) := by
  refine Ct.of (cc := c_P_makeDurable) (maxL := 2) (ret := none) (L0 := [some (.ref h0), none]) (by decide) (by intro v hv; simp only [List.mem_cons, List.not_mem_nil, or_false] at hv; rcases hv with rfl <;> first | rfl | exact mRf_cat (mRf_rf _)) (by simp) rfl ?_
  intro z ws0 hl hD ht X1 X2
  subst hl; subst hD; subst ht
  have X := And.intro X1 X2
  clear X1 X2
  have hI0 := hI
  obtain ⟨hO, hNa, hPa, hNd, hNi⟩ := hI
  refine i_P_makeDurable_0 X (h := ?_)
  refine i_P_makeDurable_1 X (h := ?_)
  refine i_P_makeDurable_2 X (hM := by assumption) (h := ?_)
  refine i_P_makeDurable_5 X (hM := by assumption) (h := ?_)
  refine i_P_makeDurable_8 X (h := ?_)
  refine i_P_makeDurable_9 X (h := ?_)
  refine i_P_makeDurable_10 X (hM := mS_self _ _ _) (h := ?_)
  refine i_P_makeDurable_13 X (hM := mS_self _ _ _) (h := ?_)
  refine i_P_makeDurable_16 X (h := ?_)
  refine i_P_makeDurable_17 X (h := ?_)
  refine i_P_makeDurable_18 X (hM := mS_self _ _ _) (h := ?_)
  refine i_P_makeDurable_21 X (hM := mS_self _ _ _) (h := ?_)
  refine i_P_makeDurable_24 X (h := ?_)
  refine i_P_makeDurable_25 X (h := ?_)
  simp only [mS_mS]
  exact lp_P_makeDurable (cB := cB) G X 24 0 _ dr er ds dv (IC.obj hI0 ck mk ch ck mk ch ev) rfl (fun i hi => absurd hi (by omega))
