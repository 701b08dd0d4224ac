/-- a yes or no, as the machine has it -/
def bI (p : Prop) [Decidable p] : Int32 := if p then 1 else 0
/-- a node's spots, newest first: when and where -/
def spc (M : mM) : Option Nat → List (Int32 × Int32) → Prop
  | r, [] => r = none
  | r, (t, p) :: l => ∃ (a : Nat) (b : Option Nat), r = some a ∧ M a = some (.inr (1, [.int t, .int p, va_rf b])) ∧ spc M b l
/-- a file's versions, newest first: time, index, cells, gone -/
abbrev vV : Type := Int32 × Int32 × (Nat → Int32) × Int32
def vrc (M : mM) (cI : ClassId) (ow : Nat → Nat) (i : Nat) : Option Nat → List vV → Prop
  | r, [] => r = none
  | r, (t, x, cs, g) :: l => ∃ (a ca : Nat) (b : Option Nat), r = some a ∧ ow a = i ∧ M a = some (.inr (2, [.int t, .int x, .ref ca, va_rf b, .int g])) ∧ M ca = some (.inl (cI, 4, .inl cs)) ∧ vrc M cI ow i b l
def plc : List (Int32 × Int32) → Int32 → Int32
  | [], _ => -1
  | (t, p) :: l, x => if x < t then plc l x else p
theorem va_rf_null {r : Option Nat} (h : va_rf r = .null) : r = none := by
  cases r with
  | none => rfl
  | some a => cases h
theorem va_rf_ref {r : Option Nat} {a : Nat} (h : va_rf r = .ref a) : r = some a := by
  cases r with
  | none => cases h
  | some b => cases h; rfl
set_option maxRecDepth 20000 in
theorem ct_P_isName {l : Launch} {D : va_G} {tys : List (ClassId × FieldType)} {M : mM} (x : Int32) : Ct_P_isName l D tys 0 0 [.int x] M (fun v M1 => v = some (.int (bI (0 ≤ x ∧ x < 8))) ∧ M1 = M) := by
  refine Ct.of (cc := c_P_isName) (maxL := 1) (ret := (some (.boolean))) (L0 := [some (.int x)]) (by decide) (by intro v hv; simp only [List.mem_cons, List.not_mem_nil, or_false] at hv; rcases hv with rfl <;> first | rfl | exact mRf_cat (mRf_rf _)) (by simp) rfl ?_
  intro z ws0 hl hD ht X1 X2
  subst hl; subst hD; subst ht
  have X := And.intro X1 X2
  clear X1 X2
  refine i_P_isName_0 X (h := ?_)
  refine i_P_isName_1 X (h1 := fun c1 => ?_) (h2 := fun c1 => ?_)
  · skip
    refine i_P_isName_14 X (h := ?_)
    exact i_P_isName_15 X (hk := by omega) (hn := by omega) (hx := by first | exact Or.inl rfl | exact Or.inr rfl | assumption) (hp := ⟨by clear X; first | (simp_all [bI]; done) | (unfold bI; grind), rfl⟩)
  · skip
    refine i_P_isName_4 X (h := ?_)
    refine i_P_isName_5 X (h := ?_)
    refine i_P_isName_7 X (h1 := fun c7 => ?_) (h2 := fun c7 => ?_)
    · skip
      refine i_P_isName_14 X (h := ?_)
      exact i_P_isName_15 X (hk := by omega) (hn := by omega) (hx := by first | exact Or.inl rfl | exact Or.inr rfl | assumption) (hp := ⟨by clear X; first | (simp_all [bI]; done) | (unfold bI; grind), rfl⟩)
    · skip
      refine i_P_isName_10 X (h := ?_)
      refine i_P_isName_11 X (h := ?_)
      exact i_P_isName_15 X (hk := by omega) (hn := by omega) (hx := by first | exact Or.inl rfl | exact Or.inr rfl | assumption) (hp := ⟨by clear X; first | (simp_all [bI]; done) | (unfold bI; grind), rfl⟩)
set_option maxRecDepth 20000 in
theorem ct_P_isCell {l : Launch} {D : va_G} {tys : List (ClassId × FieldType)} {M : mM} (x : Int32) : Ct_P_isCell l D tys 0 0 [.int x] M (fun v M1 => v = some (.int (bI (0 ≤ x ∧ x < 4))) ∧ M1 = M) := by
  refine Ct.of (cc := c_P_isCell) (maxL := 1) (ret := (some (.boolean))) (L0 := [some (.int x)]) (by decide) (by intro v hv; simp only [List.mem_cons, List.not_mem_nil, or_false] at hv; rcases hv with rfl <;> first | rfl | exact mRf_cat (mRf_rf _)) (by simp) rfl ?_
  intro z ws0 hl hD ht X1 X2
  subst hl; subst hD; subst ht
  have X := And.intro X1 X2
  clear X1 X2
  refine i_P_isCell_0 X (h := ?_)
  refine i_P_isCell_1 X (h1 := fun c1 => ?_) (h2 := fun c1 => ?_)
  · skip
    refine i_P_isCell_13 X (h := ?_)
    exact i_P_isCell_14 X (hk := by omega) (hn := by omega) (hx := by first | exact Or.inl rfl | exact Or.inr rfl | assumption) (hp := ⟨by clear X; first | (simp_all [bI]; done) | (unfold bI; grind), rfl⟩)
  · skip
    refine i_P_isCell_4 X (h := ?_)
    refine i_P_isCell_5 X (h := ?_)
    refine i_P_isCell_6 X (h1 := fun c6 => ?_) (h2 := fun c6 => ?_)
    · skip
      refine i_P_isCell_13 X (h := ?_)
      exact i_P_isCell_14 X (hk := by omega) (hn := by omega) (hx := by first | exact Or.inl rfl | exact Or.inr rfl | assumption) (hp := ⟨by clear X; first | (simp_all [bI]; done) | (unfold bI; grind), rfl⟩)
    · skip
      refine i_P_isCell_9 X (h := ?_)
      refine i_P_isCell_10 X (h := ?_)
      exact i_P_isCell_14 X (hk := by omega) (hn := by omega) (hx := by first | exact Or.inl rfl | exact Or.inr rfl | assumption) (hp := ⟨by clear X; first | (simp_all [bI]; done) | (unfold bI; grind), rfl⟩)
set_option maxRecDepth 20000 in
theorem ct_P_placeOf {l : Launch} {D : va_G} {tys : List (ClassId × FieldType)} {M : mM} (x y : Int32) : Ct_P_placeOf l D tys 0 0 [.int x, .int y] M (fun v M1 => v = some (.int (x * 8 + y)) ∧ M1 = M) := by
  refine Ct.of (cc := c_P_placeOf) (maxL := 2) (ret := (some (.int))) (L0 := [some (.int x), some (.int y)]) (by decide) (by intro v hv; simp only [List.mem_cons, List.not_mem_nil, or_false] at hv; rcases hv with rfl | rfl <;> first | rfl | exact mRf_cat (mRf_rf _)) (by simp) rfl ?_
  intro z ws0 hl hD ht X1 X2
  subst hl; subst hD; subst ht
  have X := And.intro X1 X2
  clear X1 X2
  refine i_P_placeOf_0 X (h := ?_)
  refine i_P_placeOf_1 X (h := ?_)
  refine i_P_placeOf_3 X (h := ?_)
  refine i_P_placeOf_4 X (h := ?_)
  refine i_P_placeOf_5 X (h := ?_)
  exact i_P_placeOf_6 X (hk := by omega) (hn := by omega) (hp := ⟨rfl, rfl⟩)
set_option maxRecDepth 20000 in
theorem ct_P_clamp {l : Launch} {D : va_G} {tys : List (ClassId × FieldType)} {M : mM} (x : Int32) : Ct_P_clamp l D tys 0 0 [.int x] M (fun v M1 => v = some (.int (if 0 < (if x < 1000 then x else 1000) then (if x < 1000 then x else 1000) else 0)) ∧ M1 = M) := by
  refine Ct.of (cc := c_P_clamp) (maxL := 1) (ret := (some (.int))) (L0 := [some (.int x)]) (by decide) (by intro v hv; simp only [List.mem_cons, List.not_mem_nil, or_false] at hv; rcases hv with rfl <;> first | rfl | exact mRf_cat (mRf_rf _)) (by simp) rfl ?_
  intro z ws0 hl hD ht X1 X2
  subst hl; subst hD; subst ht
  have X := And.intro X1 X2
  clear X1 X2
  refine i_P_clamp_0 X (h := ?_)
  refine i_P_clamp_1 X (h := ?_)
  refine i_P_clamp_4 X (h := ?_)
  refine i_P_clamp_5 X (hk := by omega) (hn := by omega) (h := ?_)
  refine i_P_clamp_8 X (hk := by omega) (hn := by omega) (h := ?_)
  exact i_P_clamp_11 X (hk := by omega) (hn := by omega) (hp := ⟨rfl, rfl⟩)
set_option maxRecDepth 20000 in
theorem ct_P_isMade {l : Launch} {D : va_G} {tys : List (ClassId × FieldType)} {M : mM} {h0 na pa : Nat} {w g ck mk ch dc dm dh ev : Int32} (hO : M h0 = some (.inr (3, [.int w, .int g, .ref na, .ref pa, .int ck, .int mk, .int ch, .int dc, .int dm, .int dh, .int ev]))) (x : Int32) : Ct_P_isMade l D tys 0 0 [.ref h0, .int x] M (fun v M1 => v = some (.int (bI (0 ≤ x ∧ x < mk))) ∧ M1 = M) := by
  refine Ct.of (cc := c_P_isMade) (maxL := 2) (ret := (some (.boolean))) (L0 := [some (.ref h0), some (.int x)]) (by decide) (by intro v hv; simp only [List.mem_cons, List.not_mem_nil, or_false] at hv; rcases hv with rfl | rfl <;> first | rfl | exact mRf_cat (mRf_rf _)) (by simp) rfl ?_
  intro z ws0 hl hD ht X1 X2
  subst hl; subst hD; subst ht
  have X := And.intro X1 X2
  clear X1 X2
  refine i_P_isMade_0 X (h := ?_)
  refine i_P_isMade_1 X (h1 := fun c1 => ?_) (h2 := fun c1 => ?_)
  · skip
    refine i_P_isMade_16 X (h := ?_)
    exact i_P_isMade_17 X (hk := by omega) (hn := by omega) (hx := by first | exact Or.inl rfl | exact Or.inr rfl | assumption) (hp := ⟨by clear X; first | (simp_all [bI]; done) | (unfold bI; grind), rfl⟩)
  · skip
    refine i_P_isMade_4 X (h := ?_)
    refine i_P_isMade_5 X (h := ?_)
    refine i_P_isMade_6 X (hM := by assumption) (h := ?_)
    refine i_P_isMade_9 X (h1 := fun c9 => ?_) (h2 := fun c9 => ?_)
    · skip
      refine i_P_isMade_16 X (h := ?_)
      exact i_P_isMade_17 X (hk := by omega) (hn := by omega) (hx := by first | exact Or.inl rfl | exact Or.inr rfl | assumption) (hp := ⟨by clear X; first | (simp_all [bI]; done) | (unfold bI; grind), rfl⟩)
    · skip
      refine i_P_isMade_12 X (h := ?_)
      refine i_P_isMade_13 X (h := ?_)
      exact i_P_isMade_17 X (hk := by omega) (hn := by omega) (hx := by first | exact Or.inl rfl | exact Or.inr rfl | assumption) (hp := ⟨by clear X; first | (simp_all [bI]; done) | (unfold bI; grind), rfl⟩)
set_option maxRecDepth 20000 in
theorem ct_P_isUsedUp {l : Launch} {D : va_G} {tys : List (ClassId × FieldType)} {M : mM} {h0 na pa : Nat} {w g ck mk ch dc dm dh ev : Int32} (hO : M h0 = some (.inr (3, [.int w, .int g, .ref na, .ref pa, .int ck, .int mk, .int ch, .int dc, .int dm, .int dh, .int ev]))) : Ct_P_isUsedUp l D tys 0 0 [.ref h0] M (fun v M1 => v = some (.int (bI (512 ≤ ev))) ∧ M1 = M) := by
  refine Ct.of (cc := c_P_isUsedUp) (maxL := 1) (ret := (some (.boolean))) (L0 := [some (.ref h0)]) (by decide) (by intro v hv; simp only [List.mem_cons, List.not_mem_nil, or_false] at hv; rcases hv with rfl <;> first | rfl | exact mRf_cat (mRf_rf _)) (by simp) rfl ?_
  intro z ws0 hl hD ht X1 X2
  subst hl; subst hD; subst ht
  have X := And.intro X1 X2
  clear X1 X2
  refine i_P_isUsedUp_0 X (h := ?_)
  refine i_P_isUsedUp_1 X (hM := by assumption) (h := ?_)
  refine i_P_isUsedUp_4 X (h := ?_)
  refine i_P_isUsedUp_7 X (h1 := fun c7 => ?_) (h2 := fun c7 => ?_)
  · skip
    refine i_P_isUsedUp_14 X (h := ?_)
    exact i_P_isUsedUp_15 X (hk := by omega) (hn := by omega) (hx := by first | exact Or.inl rfl | exact Or.inr rfl | assumption) (hp := ⟨by clear X; first | (simp_all [bI]; done) | (unfold bI; grind), rfl⟩)
  · skip
    refine i_P_isUsedUp_10 X (h := ?_)
    refine i_P_isUsedUp_11 X (h := ?_)
    exact i_P_isUsedUp_15 X (hk := by omega) (hn := by omega) (hx := by first | exact Or.inl rfl | exact Or.inr rfl | assumption) (hp := ⟨by clear X; first | (simp_all [bI]; done) | (unfold bI; grind), rfl⟩)
set_option maxRecDepth 20000 in
theorem lp_N_placeAsOf {z : zT} {ws0 : va_W} {mc ms : Nat} {M : mM} {x : Int32} {l0 : Option Value} {p : Int32}
    (X : B_N_placeAsOf z ws0 mc ms (fun v M1 => v = some (.int p) ∧ M1 = M)) : ∀ (l : List (Int32 × Int32)) (r : Option Nat), spc M r l → p = plc l x → RN z 5 [l0, some (.int x), some (va_rf r)] [] M 0 0 := by
  intro l
  induction l with
  | nil =>
    intro r hr hp
    have hr : r = none := hr
    subst hr
    refine i_N_placeAsOf_5 X (h := ?_)
    refine i_N_placeAsOf_6 X (h1 := fun c6 => ?_) (h2 := fun q6 c6 => ?_)
    · skip
      refine i_N_placeAsOf_25 X (h := ?_)
      refine i_N_placeAsOf_26 X (h1 := fun q26 c26 => ?_) (h2 := fun c26 => ?_)
      · skip
        exact absurd c26 (by simp [va_rf]) --end
      · skip
        refine i_N_placeAsOf_29 X (h := ?_)
        refine i_N_placeAsOf_30 X (h := ?_)
        exact i_N_placeAsOf_37 X (hk := by omega) (hn := by omega) (hp := ⟨by rw [hp]; rfl, rfl⟩)
    · skip
      exact absurd c6 (by simp [va_rf]) --end
  | cons q l ih =>
    intro r hr hp
    obtain ⟨t, u⟩ := q
    obtain ⟨a, b, rfl, ha, hb⟩ := hr
    refine i_N_placeAsOf_5 X (h := ?_)
    refine i_N_placeAsOf_6 X (h1 := fun c6 => ?_) (h2 := fun q6 c6 => ?_)
    · skip
      exact absurd c6 (by simp [va_rf]) --end
    · skip
      refine i_N_placeAsOf_9 X (h := ?_)
      refine i_N_placeAsOf_10 X (hM := by assumption) (h := ?_)
      refine i_N_placeAsOf_13 X (h := ?_)
      refine i_N_placeAsOf_14 X (h1 := fun c14 => ?_) (h2 := fun c14 => ?_)
      · skip
        refine i_N_placeAsOf_25 X (h := ?_)
        refine i_N_placeAsOf_26 X (h1 := fun q26 c26 => ?_) (h2 := fun c26 => ?_)
        · skip
          refine i_N_placeAsOf_33 X (h := ?_)
          refine i_N_placeAsOf_34 X (hM := by assumption) (h := ?_)
          exact i_N_placeAsOf_37 X (hk := by omega) (hn := by omega) (hp := ⟨by rw [hp]; simp only [plc]; rw [if_neg (Int32.not_lt.mpr c14)], rfl⟩)
        · skip
          exact absurd c26 (by simp [va_rf]) --end
      · skip
        refine i_N_placeAsOf_17 X (h := ?_)
        refine i_N_placeAsOf_18 X (hM := by assumption) (h := ?_)
        refine i_N_placeAsOf_21 X (h := ?_)
        refine i_N_placeAsOf_22 X (h := ?_)
        exact ih b hb (by rw [hp]; simp only [plc]; rw [if_pos (Int32.not_le.mp c14)])
set_option maxRecDepth 20000 in
theorem ct_N_placeAsOf {l : Launch} {D : va_G} {tys : List (ClassId × FieldType)} {M : mM} {nd : Nat} {a b c d : Option Nat} (hN : M nd = some (.inr (0, [va_rf a, va_rf b, va_rf c, va_rf d]))) {sl : List (Int32 × Int32)} (hs : spc M a sl) (x : Int32) : Ct_N_placeAsOf l D tys 0 0 [.ref nd, .int x] M (fun v M1 => v = some (.int (plc sl x)) ∧ M1 = M) := by
  refine Ct.of (cc := c_N_placeAsOf) (maxL := 3) (ret := (some (.int))) (L0 := [some (.ref nd), some (.int x), none]) (by decide) (by intro v hv; simp only [List.mem_cons, List.not_mem_nil, or_false] at hv; rcases hv with rfl | rfl <;> first | rfl | exact mRf_cat (mRf_rf _)) (by simp) rfl ?_
  intro z ws0 hl hD ht X1 X2
  subst hl; subst hD; subst ht
  have X := And.intro X1 X2
  clear X1 X2
  refine i_N_placeAsOf_0 X (h := ?_)
  refine i_N_placeAsOf_1 X (hM := by assumption) (h := ?_)
  refine i_N_placeAsOf_4 X (h := ?_)
  exact lp_N_placeAsOf X sl a hs rfl
set_option maxRecDepth 20000 in
theorem ct_N_keep {l : Launch} {D : va_G} {tys : List (ClassId × FieldType)} {M : mM} {nd : Nat} {a b c d : Option Nat} (hN : M nd = some (.inr (0, [va_rf a, va_rf b, va_rf c, va_rf d]))) : Ct_N_keep l D tys 0 0 [.ref nd] M (fun v M1 => v = none ∧ M1 = mS M nd (.inr (0, [va_rf a, va_rf b, va_rf a, va_rf b]))) := by
  refine Ct.of (cc := c_N_keep) (maxL := 1) (ret := none) (L0 := [some (.ref nd)]) (by decide) (by intro v hv; simp only [List.mem_cons, List.not_mem_nil, or_false] at hv; rcases hv with rfl <;> first | rfl | exact mRf_cat (mRf_rf _)) (by simp) rfl ?_
  intro z ws0 hl hD ht X1 X2
  subst hl; subst hD; subst ht
  have X := And.intro X1 X2
  clear X1 X2
  refine i_N_keep_0 X (h := ?_)
  refine i_N_keep_1 X (h := ?_)
  refine i_N_keep_2 X (hM := by assumption) (h := ?_)
  refine i_N_keep_5 X (hM := by assumption) (h := ?_)
  refine i_N_keep_8 X (h := ?_)
  refine i_N_keep_9 X (h := ?_)
  refine i_N_keep_10 X (hM := mS_self _ _ _) (h := ?_)
  refine i_N_keep_13 X (hM := mS_self _ _ _) (h := ?_)
  exact i_N_keep_16 X (hk := by omega) (hn := by omega) (hp := ⟨rfl, mS_mS _ _ _ _⟩)
set_option maxRecDepth 20000 in
theorem ct_N_goBack {l : Launch} {D : va_G} {tys : List (ClassId × FieldType)} {M : mM} {nd : Nat} {a b c d : Option Nat} (hN : M nd = some (.inr (0, [va_rf a, va_rf b, va_rf c, va_rf d]))) : Ct_N_goBack l D tys 0 0 [.ref nd] M (fun v M1 => v = none ∧ M1 = mS M nd (.inr (0, [va_rf c, va_rf d, va_rf c, va_rf d]))) := by
  refine Ct.of (cc := c_N_goBack) (maxL := 1) (ret := none) (L0 := [some (.ref nd)]) (by decide) (by intro v hv; simp only [List.mem_cons, List.not_mem_nil, or_false] at hv; rcases hv with rfl <;> first | rfl | exact mRf_cat (mRf_rf _)) (by simp) rfl ?_
  intro z ws0 hl hD ht X1 X2
  subst hl; subst hD; subst ht
  have X := And.intro X1 X2
  clear X1 X2
  refine i_N_goBack_0 X (h := ?_)
  refine i_N_goBack_1 X (h := ?_)
  refine i_N_goBack_2 X (hM := by assumption) (h := ?_)
  refine i_N_goBack_5 X (hM := by assumption) (h := ?_)
  refine i_N_goBack_8 X (h := ?_)
  refine i_N_goBack_9 X (h := ?_)
  refine i_N_goBack_10 X (hM := mS_self _ _ _) (h := ?_)
  refine i_N_goBack_13 X (hM := mS_self _ _ _) (h := ?_)
  exact i_N_goBack_16 X (hk := by omega) (hn := by omega) (hp := ⟨rfl, mS_mS _ _ _ _⟩)
set_option maxRecDepth 20000 in
theorem ct_N_init {l : Launch} {D : va_G} {tys : List (ClassId × FieldType)} {M : mM} {nd : Nat} {a b c d : Option Nat} (hN : M nd = some (.inr (0, [va_rf a, va_rf b, va_rf c, va_rf d]))) : Ct_N_init l D tys 0 0 [.ref nd] M (fun v M1 => v = none ∧ M1 = mS M nd (.inr (0, [.null, .null, .null, .null]))) := by
  refine Ct.of (cc := c_N_init) (maxL := 1) (ret := none) (L0 := [some (.ref nd)]) (by decide) (by intro v hv; simp only [List.mem_cons, List.not_mem_nil, or_false] at hv; rcases hv with rfl <;> first | rfl | exact mRf_cat (mRf_rf _)) (by simp) rfl ?_
  intro z ws0 hl hD ht X1 X2
  subst hl; subst hD; subst ht
  have X := And.intro X1 X2
  clear X1 X2
  refine i_N_init_0 X (h := ?_)
  refine i_N_init_1 X (h := ?_)
  refine i_N_init_4 X (h := ?_)
  refine i_N_init_5 X (h := ?_)
  refine i_N_init_6 X (hM := by assumption) (h := ?_)
  refine i_N_init_9 X (h := ?_)
  refine i_N_init_10 X (h := ?_)
  refine i_N_init_11 X (hM := mS_self _ _ _) (h := ?_)
  refine i_N_init_14 X (h := ?_)
  refine i_N_init_15 X (h := ?_)
  refine i_N_init_16 X (hM := mS_self _ _ _) (h := ?_)
  refine i_N_init_19 X (h := ?_)
  refine i_N_init_20 X (h := ?_)
  refine i_N_init_21 X (hM := mS_self _ _ _) (h := ?_)
  exact i_N_init_24 X (hk := by omega) (hn := by omega) (hp := ⟨rfl, by simp only [mS_mS]⟩)
set_option maxRecDepth 20000 in
theorem ct_S_init {l : Launch} {D : va_G} {tys : List (ClassId × FieldType)} {M : mM} {q : Nat} {u0 u1 u2 : Value} (hN : M q = some (.inr (1, [u0, u1, u2]))) (t p : Int32) (r : Option Nat) : Ct_S_init l D tys 0 0 [.ref q, .int t, .int p, va_rf r] M (fun v M1 => v = none ∧ M1 = mS M q (.inr (1, [.int t, .int p, va_rf r]))) := by
  refine Ct.of (cc := c_S_init) (maxL := 4) (ret := none) (L0 := [some (.ref q), some (.int t), some (.int p), some (va_rf r)]) (by decide) (by intro v hv; simp only [List.mem_cons, List.not_mem_nil, or_false] at hv; rcases hv with rfl | rfl | rfl | rfl <;> first | rfl | exact mRf_cat (mRf_rf _)) (by simp) rfl ?_
  intro z ws0 hl hD ht X1 X2
  subst hl; subst hD; subst ht
  have X := And.intro X1 X2
  clear X1 X2
  refine i_S_init_0 X (h := ?_)
  refine i_S_init_1 X (h := ?_)
  refine i_S_init_4 X (h := ?_)
  refine i_S_init_5 X (h := ?_)
  refine i_S_init_6 X (hM := by assumption) (h := ?_)
  refine i_S_init_9 X (h := ?_)
  refine i_S_init_10 X (h := ?_)
  refine i_S_init_11 X (hM := mS_self _ _ _) (h := ?_)
  refine i_S_init_14 X (h := ?_)
  refine i_S_init_15 X (h := ?_)
  refine i_S_init_16 X (hM := mS_self _ _ _) (h := ?_)
  exact i_S_init_19 X (hk := by omega) (hn := by omega) (hp := ⟨rfl, by simp only [mS_mS]⟩)
set_option maxRecDepth 20000 in
theorem ct_V_init {l : Launch} {D : va_G} {tys : List (ClassId × FieldType)} {M : mM} {q : Nat} {u0 u1 u2 u3 u4 : Value} (hN : M q = some (.inr (2, [u0, u1, u2, u3, u4]))) (t x : Int32) (ca : Nat) (r : Option Nat) : Ct_V_init l D tys 0 0 [.ref q, .int t, .int x, .ref ca, va_rf r] M (fun v M1 => v = none ∧ M1 = mS M q (.inr (2, [.int t, .int x, .ref ca, va_rf r, .int 0]))) := by
  refine Ct.of (cc := c_V_init) (maxL := 5) (ret := none) (L0 := [some (.ref q), some (.int t), some (.int x), some (.ref ca), some (va_rf r)]) (by decide) (by intro v hv; simp only [List.mem_cons, List.not_mem_nil, or_false] at hv; rcases hv with rfl | rfl | rfl | rfl | rfl <;> first | rfl | exact mRf_cat (mRf_rf _)) (by simp) rfl ?_
  intro z ws0 hl hD ht X1 X2
  subst hl; subst hD; subst ht
  have X := And.intro X1 X2
  clear X1 X2
  refine i_V_init_0 X (h := ?_)
  refine i_V_init_1 X (h := ?_)
  refine i_V_init_4 X (h := ?_)
  refine i_V_init_5 X (h := ?_)
  refine i_V_init_6 X (hM := by assumption) (hx := Or.inl rfl) (h := ?_)
  refine i_V_init_9 X (h := ?_)
  refine i_V_init_10 X (h := ?_)
  refine i_V_init_11 X (hM := mS_self _ _ _) (h := ?_)
  refine i_V_init_14 X (h := ?_)
  refine i_V_init_15 X (h := ?_)
  refine i_V_init_16 X (hM := mS_self _ _ _) (h := ?_)
  refine i_V_init_19 X (h := ?_)
  refine i_V_init_20 X (h := ?_)
  refine i_V_init_21 X (hM := mS_self _ _ _) (h := ?_)
  refine i_V_init_24 X (h := ?_)
  refine i_V_init_25 X (h := ?_)
  refine i_V_init_27 X (hM := mS_self _ _ _) (h := ?_)
  exact i_V_init_30 X (hk := by omega) (hn := by omega) (hp := ⟨rfl, by simp only [mS_mS]⟩)
