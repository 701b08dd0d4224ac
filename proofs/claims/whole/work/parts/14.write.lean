theorem vrc_ow {M : mM} {cI : ClassId} {ow ow' : Nat → Nat} {i : Nat} (h : ∀ (a : Nat) (fs : List Value), M a = some (.inr (2, fs)) → ow' a = ow a) : ∀ (l : List vV) (r : Option Nat), vrc M cI ow i r l → vrc M cI ow' i r l
  | [], _, hr => hr
  | (_, _, _, _) :: l, _, ⟨a, ca, b, h1, h2, h3, h5, h6⟩ => ⟨a, ca, b, h1, (h a _ h3).trans h2, h3, h5, vrc_ow h l b h6⟩
/-- a version more, or the latest one replaced -/
def addV (ck : Int32) (cs : Nat → Int32) : List vV → List vV
  | [] => []
  | (t, x, c0, g) :: l => if t = ck then (ck, x, cs, 0) :: l else (ck, x + 1, cs, 0) :: (t, x, c0, g) :: l
/-- a stretch of a chain -/
def seg (M : mM) (cI : ClassId) (ow : Nat → Nat) (i : Nat) : Option Nat → List vV → Option Nat → Prop
  | r, [], e => r = e
  | r, (t, x, cs, g) :: l, e => ∃ (a ca : Nat) (b : Option Nat), r = some a ∧ ow a = i ∧ M a = some (.inr (2, [.int t, .int x, .ref ca, va_rf b, .int g])) ∧ M ca = some (.inl (cI, 4, .inl cs)) ∧ seg M cI ow i b l e
theorem seg_vrc {M : mM} {cI : ClassId} {ow : Nat → Nat} {i : Nat} : ∀ (l1 l2 : List vV) (r e : Option Nat), seg M cI ow i r l1 e → vrc M cI ow i e l2 → vrc M cI ow i r (l1 ++ l2)
  | [], _, _, _, h1, h2 => by
    have h1 : _ = _ := h1
    subst h1
    exact h2
  | (_, _, _, _) :: l1, l2, _, e, ⟨a, ca, b, h1, h2, h3, h5, h6⟩, h => ⟨a, ca, b, h1, h2, h3, h5, seg_vrc l1 l2 b e h6 h⟩
theorem seg_snoc {M : mM} {cI : ClassId} {ow : Nat → Nat} {i : Nat} {t x : Int32} {cs : Nat → Int32} {g : Int32} {a ca : Nat} {b : Option Nat} (hw : ow a = i) (ha : M a = some (.inr (2, [.int t, .int x, .ref ca, va_rf b, .int g]))) (hca : M ca = some (.inl (cI, 4, .inl cs))) : ∀ (l1 : List vV) (r : Option Nat), seg M cI ow i r l1 (some a) → seg M cI ow i r (l1 ++ [(t, x, cs, g)]) b
  | [], _, h1 => by
    have h1 : _ = _ := h1
    subst h1
    exact ⟨a, ca, b, rfl, hw, ha, hca, rfl⟩
  | (_, _, _, _) :: l1, _, ⟨a', ca', b', h1, h2, h3, h5, h6⟩ => ⟨a', ca', b', h1, h2, h3, h5, seg_snoc hw ha hca l1 b' h6⟩
theorem mS_idx {M : mM} {a a' : Nat} {t x t' x' : Int32} {u v : List Value} {E : va_E} (ha : M a = some (.inr (2, .int t :: .int x :: u))) (ha' : M a' = some (.inr (2, .int t' :: .int x' :: v))) (hx : x' ≠ x) : mS M a E a' = some (.inr (2, .int t' :: .int x' :: v)) :=
  mS_of_ne ha ha' (by intro q; injection q with q; injection q with q1 q2; injection q2 with q3 q4; injection q4 with q5 q6; injection q5 with q7; exact hx q7.symm)
theorem vrc_mark {M : mM} {cI : ClassId} {ow : Nat → Nat} {i : Nat} {a : Nat} {t x : Int32} {u : List Value} {E : va_E} (ha : M a = some (.inr (2, .int t :: .int x :: u))) : ∀ (l : List vV) (r : Option Nat), (∀ e ∈ l, e.2.1 ≠ x) → vrc M cI ow i r l → vrc (mS M a E) cI ow i r l
  | [], _, _, hr => hr
  | (t', x', cs', g') :: l, _, hx, ⟨a', ca, b, h1, h2, h3, h5, h6⟩ => ⟨a', ca, b, h1, h2, mS_idx ha h3 (hx _ List.mem_cons_self), mS_of_ne ha h5 (by intro q; cases q), vrc_mark ha l b (fun e he => hx e (List.mem_cons_of_mem _ he)) h6⟩
theorem seg_mark {M : mM} {cI : ClassId} {ow : Nat → Nat} {i : Nat} {a : Nat} {t x : Int32} {u : List Value} {E : va_E} {e0 : Option Nat} (ha : M a = some (.inr (2, .int t :: .int x :: u))) : ∀ (l : List vV) (r : Option Nat), (∀ e ∈ l, e.2.1 ≠ x) → seg M cI ow i r l e0 → seg (mS M a E) cI ow i r l e0
  | [], _, _, hr => hr
  | (t', x', cs', g') :: l, _, hx, ⟨a', ca, b, h1, h2, h3, h5, h6⟩ => ⟨a', ca, b, h1, h2, mS_idx ha h3 (hx _ List.mem_cons_self), mS_of_ne ha h5 (by intro q; cases q), seg_mark ha l b (fun e he => hx e (List.mem_cons_of_mem _ he)) h6⟩
theorem vrc_other {M : mM} {cI : ClassId} {ow : Nat → Nat} {i : Nat} {a : Nat} {u : List Value} {E : va_E} (ha : M a = some (.inr (2, u))) (hw : ow a ≠ i) (l : List vV) (r : Option Nat) (h : vrc M cI ow i r l) : vrc (mS M a E) cI ow i r l :=
  vrc_keep (fun a' fs h1 h2 => by rw [mS_ne _ _ (fun q => hw (by rw [← q]; exact h1))]; exact h2) (fun a' f h2 => mS_of_ne ha h2 (by intro q; cases q)) l r h
/-- which versions go: those that are old, close, not gone before -/
def drp (lim gp : Int32) : Int32 → List vV → List vV
  | _, [] => []
  | f, (t, x, cs, gn) :: l => (t, x, cs, if f < lim ∧ f - t ≤ gp ∧ gn = 0 then 1 else gn) :: drp lim gp t l
def drc (lim gp : Int32) : Int32 → List vV → Nat
  | _, [] => 0
  | f, (t, _, _, gn) :: l => (if f < lim ∧ f - t ≤ gp ∧ gn = 0 then 1 else 0) + drc lim gp t l
theorem va_rf_in {a b : Option Nat} (h : va_rf a = va_rf b) : a = b := by
  cases a <;> cases b <;> simp_all [va_rf]
theorem va_rf_inj {t x t' x' : Int32} {ca ca' : Nat} {b b' : Option Nat} {g g' : Int32} (h : (some (.inr (2, [.int t, .int x, .ref ca, va_rf b, .int g])) : Option va_E) = some (.inr (2, [.int t', .int x', .ref ca', va_rf b', .int g']))) : b = b' := by
  injection h with h
  injection h with h
  injection h with h1 h2
  simp only [List.cons.injEq] at h2
  exact va_rf_in h2.2.2.2.1
section
variable {M : mM} {cI cN : ClassId} {h0 na pa : Nat} {nd ow : Nat → Nat} {sr vr dr er : Nat → Option Nat} {pl : Nat → Int32} {w g ck mk ch dc dm dh ev : Int32} {sp ds : Nat → List (Int32 × Int32)} {vs dv : Nat → List vV}
theorem IC.owx (h : IC M cI cN h0 na pa nd ow sr vr dr er pl w g ck mk ch dc dm dh ev sp ds vs dv) {q : Nat} (hq : M q = none) (i : Nat) : IC M cI cN h0 na pa nd (va_up ow q i) sr vr dr er pl w g ck mk ch dc dm dh ev sp ds vs dv := by
  obtain ⟨e0, e1, e2, e3, e4⟩ := h
  have k : ∀ (a : Nat) (fs : List Value), M a = some (.inr (2, fs)) → va_up ow q i a = ow a := fun a fs ha => va_up_ne _ _ (fun e => by rw [e, hq] at ha; cases ha)
  exact ⟨e0, e1, e2, fun j hj => ⟨(e3 j hj).1, (e3 j hj).2.1, vrc_ow k _ _ (e3 j hj).2.2.1, (e3 j hj).2.2.2.1, vrc_ow k _ _ (e3 j hj).2.2.2.2⟩, e4⟩
theorem IC.mark {i : Nat} {pr suf : List vV} {t x : Int32} {cs : Nat → Int32} {gn : Int32} {a ca : Nat} {b : Option Nat} (h : IC M cI cN h0 na pa nd ow sr vr dr er pl w g ck mk ch dc dm dh ev sp ds (va_up vs i (pr ++ (t, x, cs, gn) :: suf)) (va_up dv i (pr ++ (t, x, cs, gn) :: suf))) (hi : i < 24) (her : er i = vr i) (hs : seg M cI ow i (vr i) pr (some a)) (hw : ow a = i) (ha : M a = some (.inr (2, [.int t, .int x, .ref ca, va_rf b, .int gn]))) (hca : M ca = some (.inl (cI, 4, .inl cs))) (hb : vrc M cI ow i b suf)
    (h1 : ∀ e ∈ pr, e.2.1 ≠ x) (h2 : ∀ e ∈ suf, e.2.1 ≠ x) : IC (mS M a (.inr (2, [.int t, .int x, .ref ca, va_rf b, .int 1]))) cI cN h0 na pa nd ow sr vr dr er pl w g ck mk ch dc dm dh ev sp ds (va_up vs i (pr ++ (t, x, cs, 1) :: suf)) (va_up dv i (pr ++ (t, x, cs, 1) :: suf)) := by
  obtain ⟨e0, e1, e2, e3, e4⟩ := h
  have hc : vrc (mS M a (.inr (2, [.int t, .int x, .ref ca, va_rf b, .int 1]))) cI ow i (vr i) (pr ++ (t, x, cs, 1) :: suf) :=
    seg_vrc pr _ _ (some a) (seg_mark ha pr _ h1 hs) ⟨a, ca, b, rfl, hw, mS_self _ _ _, mS_of_ne ha hca (by intro q; cases q), vrc_mark ha suf b h2 hb⟩
  refine ⟨mS_of_ne ha e0 (by intro q; cases q), mS_of_ne ha e1 (by intro q; cases q), mS_of_ne ha e2 (by intro q; cases q), fun j hj => ?_, e4⟩
  obtain ⟨f1, f2, f3, f4, f5⟩ := e3 j hj
  have k1 : ∀ (a' : Nat) (fs : List Value), M a' = some (.inr (1, fs)) → mS M a (.inr (2, [.int t, .int x, .ref ca, va_rf b, .int 1])) a' = some (.inr (1, fs)) := fun a' fs h => mS_of_ne ha h (by intro q; cases q)
  refine ⟨mS_of_ne ha f1 (by intro q; cases q), spc_keep k1 _ _ f2, ?_, spc_keep k1 _ _ f4, ?_⟩
  · by_cases hji : j = i
    · subst hji
      rw [va_up_self]
      exact hc
    · rw [va_up_ne _ _ hji] at f3 ⊢
      exact vrc_other ha (fun q => hji (by rw [← q]; exact hw)) _ _ f3
  · by_cases hji : j = i
    · subst hji
      rw [va_up_self, her]
      exact hc
    · rw [va_up_ne _ _ hji] at f5 ⊢
      exact vrc_other ha (fun q => hji (by rw [← q]; exact hw)) _ _ f5
end
set_option maxRecDepth 20000 in
set_option maxHeartbeats 1000000 in
theorem ct_P_place {l : Launch} {D : va_G} {tys : List (ClassId × FieldType)} {M : mM} {cI cB cN : ClassId} {h0 na pa : Nat} {nd ow : Nat → Nat} {sr vr dr er : Nat → Option Nat} {pl : Nat → Int32} {w g ck mk ch dc dm dh ev : Int32} {sp ds : Nat → List (Int32 × Int32)} {vs dv : Nat → List vV} (G : tys[0]? = some (cI, .int) ∧ tys[1]? = some (cB, .boolean) ∧ tys[2]? = some (cN, .object RX0)) (hI : IC M cI cN h0 na pa nd ow sr vr dr er pl w g ck mk ch dc dm dh ev sp ds vs dv) {i : Nat} (hi : i < 24) (p : Int32) : Ct_P_place l D tys 1 3 [.ref h0, .int (nI i), .int p] M (fun v M1 => v = none ∧ ∃ q, IC M1 cI cN h0 na pa nd ow (va_up sr i (some q)) vr dr er pl w g ck mk (ch + 1) dc dm dh (ev + 1) (va_up sp i ((ck, p) :: sp i)) ds vs dv) := by
  refine Ct.of (cc := c_P_place) (maxL := 3) (ret := none) (L0 := [some (.ref h0), some (.int (nI i)), some (.int p)]) (by decide) (by intro v hv; simp only [List.mem_cons, List.not_mem_nil, or_false] at hv; rcases hv with rfl | rfl | rfl <;> first | rfl | exact mRf_cat (mRf_rf _)) (by simp) rfl ?_
  intro z ws0 hl hD ht X1 X2
  subst hl; subst hD; subst ht
  have X := And.intro X1 X2
  clear X1 X2
  have hI0 := hI
  obtain ⟨hO, hNa, hPa, hNd, hNi⟩ := hI
  refine i_P_place_0 X (h := ?_)
  refine i_P_place_1 X (hM := by assumption) (h := ?_)
  refine i_P_place_4 X (h := ?_)
  refine i_P_place_5 X G (hM := by assumption) (hx := rfl) (hj := hi) (h := ?_)
  refine i_P_place_6 X (hk := by omega) (hn := by omega) (h := fun q6 hq6 => ?_)
  have hI1 := IC.fresh hI0 hq6 (.inr (1, [.int 0, .int 0, .null]))
  obtain ⟨hO1, hNa1, hPa1, hNd1, hNi1⟩ := hI1
  refine i_P_place_9 X (h := ?_)
  refine i_P_place_10 X (h := ?_)
  refine i_P_place_11 X (hM := by assumption) (h := ?_)
  refine i_P_place_14 X (h := ?_)
  refine i_P_place_15 X (h := ?_)
  refine i_P_place_16 X (hM := by assumption) (h := ?_)
  refine i_P_place_19 X (h := ?_)
  refine i_P_place_20 X G (hM := by assumption) (hx := rfl) (hj := hi) (h := ?_)
  refine i_P_place_21 X (hM := (hNd1 i hi).1) (h := ?_)
  refine i_P_place_24 X (hC := ct_S_init (mS_self _ _ _) ck p (sr i)) (hk := by omega) (hn := by omega) (h := fun v24 M24 hp24 => ?_)
  obtain ⟨rfl, rfl⟩ := hp24
  rw [mS_mS]
  have hI2 := IC.fresh hI0 hq6 (.inr (1, [.int ck, .int p, va_rf (sr i)]))
  have hI2' := hI2
  obtain ⟨hO2, hNa2, hPa2, hNd2, hNi2⟩ := hI2'
  refine i_P_place_27 X (hM := (hNd2 i hi).1) (h := ?_)
  have hN2 := hNd2 i hi
  have hI3 := IC.node hI2 hi (a := some q6) (sl := (ck, p) :: sp i) ⟨q6, sr i, rfl, mS_self _ _ _, hN2.2.1⟩ hN2.2.2.1 hN2.2.2.2.1 hN2.2.2.2.2
  simp only [va_up_id] at hI3
  refine i_P_place_30 X (h := ?_)
  refine i_P_place_31 X (hC := ct_P_noteChange (cB := cB) hI3) (hk := by omega) (hn := by omega) (hM := hI3.1) (h := fun v31 M31 hp31 => ?_)
  obtain ⟨rfl, rfl⟩ := hp31
  exact i_P_place_34 X (hk := by omega) (hn := by omega) (hp := ⟨rfl, q6, IC.obj hI3 ck mk (ch + 1) dc dm dh (ev + 1)⟩)
set_option maxRecDepth 20000 in
set_option maxHeartbeats 1000000 in
theorem ct_P_addVersion {l : Launch} {D : va_G} {tys : List (ClassId × FieldType)} {M : mM} {cI cB cN : ClassId} {h0 na pa : Nat} {nd ow : Nat → Nat} {sr vr dr er : Nat → Option Nat} {pl : Nat → Int32} {w g ck mk ch dc dm dh ev : Int32} {sp ds : Nat → List (Int32 × Int32)} {vs dv : Nat → List vV} (G : tys[0]? = some (cI, .int) ∧ tys[1]? = some (cB, .boolean) ∧ tys[2]? = some (cN, .object RX0)) (hI : IC M cI cN h0 na pa nd ow sr vr dr er pl w g ck mk ch dc dm dh ev sp ds vs dv) {i : Nat} (hi : i < 24) {la : Nat} (hl : vr i = some la) {t x : Int32} {c0 : Nat → Int32} {gn : Int32} {rest : List vV} (hv : vs i = (t, x, c0, gn) :: rest) {cr : Nat} {cs : Nat → Int32} (hc : M cr = some (.inl (cI, 4, .inl cs))) : Ct_P_addVersion l D tys 1 5 [.ref h0, .int (nI i), .ref la, .ref cr] M (fun v M1 => v = some (.int ((if t = ck then x else x + 1) + 1)) ∧ ∃ q, IC M1 cI cN h0 na pa nd (va_up ow q i) sr (va_up vr i (some q)) dr er pl w g ck mk (ch + 1) dc dm dh (ev + 1) sp ds (va_up vs i (addV ck cs (vs i))) dv) := by
  refine Ct.of (cc := c_P_addVersion) (maxL := 6) (ret := (some (.int))) (L0 := [some (.ref h0), some (.int (nI i)), some (.ref la), some (.ref cr), none, none]) (by decide) (by intro v hv; simp only [List.mem_cons, List.not_mem_nil, or_false] at hv; rcases hv with rfl | rfl | rfl | rfl <;> first | rfl | exact mRf_cat (mRf_rf _)) (by simp) rfl ?_
  intro z ws0 hl hD ht X1 X2
  subst hl; subst hD; subst ht
  have X := And.intro X1 X2
  clear X1 X2
  have hI0 := hI
  obtain ⟨hO, hNa, hPa, hNd, hNi⟩ := hI
  have hN := hNd i hi
  have hch := hN.2.2.1
  rw [hl, hv] at hch
  have hch0 := hch
  obtain ⟨a, ca, b, ea, hw, hla, hca, hb⟩ := hch
  cases ea
  refine i_P_addVersion_0 X (h := ?_)
  refine i_P_addVersion_1 X (hM := by assumption) (h := ?_)
  refine i_P_addVersion_4 X (h := ?_)
  refine i_P_addVersion_5 X (hM := by assumption) (h := ?_)
  refine i_P_addVersion_8 X (h1 := fun c8 => ?_) (h2 := fun c8 => ?_)
  · skip
    have e8 : ¬ t = ck := c8
    refine i_P_addVersion_15 X (h := ?_)
    refine i_P_addVersion_16 X (h := ?_)
    refine i_P_addVersion_18 X (h := ?_)
    refine i_P_addVersion_20 X (h1 := fun _ => ?_) (h2 := fun c => absurd rfl c)
    refine i_P_addVersion_30 X (h := ?_)
    refine i_P_addVersion_31 X (hM := by assumption) (h := ?_)
    refine i_P_addVersion_34 X (h := ?_)
    refine i_P_addVersion_35 X (h := ?_)
    refine i_P_addVersion_36 X (h := ?_)
    refine i_P_addVersion_38 X (h := ?_)
    refine i_P_addVersion_39 X (hM := by assumption) (h := ?_)
    refine i_P_addVersion_42 X (h := ?_)
    refine i_P_addVersion_43 X G (hM := by assumption) (hx := rfl) (hj := hi) (h := ?_)
    refine i_P_addVersion_44 X (hk := by omega) (hn := by omega) (h := fun q44 hq44 => ?_)
    have hI1 := IC.fresh hI0 hq44 (.inr (2, [.int 0, .int 0, .null, .null, .int 0]))
    obtain ⟨hO1, hNa1, hPa1, hNd1, hNi1⟩ := hI1
    refine i_P_addVersion_47 X (h := ?_)
    refine i_P_addVersion_48 X (h := ?_)
    refine i_P_addVersion_49 X (hM := by assumption) (h := ?_)
    refine i_P_addVersion_52 X (h := ?_)
    refine i_P_addVersion_54 X (h := ?_)
    refine i_P_addVersion_55 X (h := ?_)
    refine i_P_addVersion_57 X (h1 := fun _ => ?_) (h2 := fun c => absurd rfl c)
    refine i_P_addVersion_67 X (h := ?_)
    refine i_P_addVersion_68 X (hC := ct_V_init (mS_self _ _ _) ck (x + 1) cr (some la)) (hk := by omega) (hn := by omega) (h := fun v68 M68 hp68 => ?_)
    obtain ⟨rfl, rfl⟩ := hp68
    rw [mS_mS]
    have hI2 := IC.fresh (IC.owx hI0 hq44 i) hq44 (.inr (2, [.int ck, .int (x + 1), .ref cr, va_rf (some la), .int 0]))
    have hI2' := hI2
    obtain ⟨hO2, hNa2, hPa2, hNd2, hNi2⟩ := hI2'
    refine i_P_addVersion_71 X (hM := (hNd2 i hi).1) (h := ?_)
    have hN2 := hNd2 i hi
    have hch2 := hN2.2.2.1
    rw [hl, hv] at hch2
    have hcr := mS_of_new (e := .inr (2, [.int ck, .int (x + 1), .ref cr, va_rf (some la), .int 0])) hq44 hc
    have hI3 := IC.node hI2 hi (b := some q44) (vl := addV ck cs (vs i)) hN2.2.1 (by
      rw [hv]; simp only [addV]; rw [if_neg e8]
      exact ⟨q44, cr, some la, rfl, va_up_self _ _ _, mS_self _ _ _, hcr, hch2⟩) hN2.2.2.2.1 hN2.2.2.2.2
    simp only [va_up_id] at hI3
    refine i_P_addVersion_74 X (h := ?_)
    refine i_P_addVersion_75 X (hC := ct_P_noteChange (cB := cB) hI3) (hk := by omega) (hn := by omega) (hM := hI3.1) (h := fun v75 M75 hp75 => ?_)
    obtain ⟨rfl, rfl⟩ := hp75
    refine i_P_addVersion_78 X (h := ?_)
    refine i_P_addVersion_80 X (h := ?_)
    refine i_P_addVersion_81 X (h := ?_)
    exact i_P_addVersion_82 X (hk := by omega) (hn := by omega) (hp := ⟨by first | (rw [if_pos e8]; done) | (rw [if_neg e8]; done), q44, IC.obj hI3 ck mk (ch + 1) dc dm dh (ev + 1)⟩)
  · skip
    have e8 : t = ck := c8
    refine i_P_addVersion_11 X (h := ?_)
    refine i_P_addVersion_12 X (h := ?_)
    refine i_P_addVersion_16 X (h := ?_)
    refine i_P_addVersion_18 X (h := ?_)
    refine i_P_addVersion_20 X (h1 := fun c => absurd c (by decide)) (h2 := fun _ => ?_)
    refine i_P_addVersion_23 X (h := ?_)
    refine i_P_addVersion_24 X (hM := by assumption) (h := ?_)
    refine i_P_addVersion_27 X (h := ?_)
    refine i_P_addVersion_36 X (h := ?_)
    refine i_P_addVersion_38 X (h := ?_)
    refine i_P_addVersion_39 X (hM := by assumption) (h := ?_)
    refine i_P_addVersion_42 X (h := ?_)
    refine i_P_addVersion_43 X G (hM := by assumption) (hx := rfl) (hj := hi) (h := ?_)
    refine i_P_addVersion_44 X (hk := by omega) (hn := by omega) (h := fun q44 hq44 => ?_)
    have hI1 := IC.fresh hI0 hq44 (.inr (2, [.int 0, .int 0, .null, .null, .int 0]))
    obtain ⟨hO1, hNa1, hPa1, hNd1, hNi1⟩ := hI1
    refine i_P_addVersion_47 X (h := ?_)
    refine i_P_addVersion_48 X (h := ?_)
    refine i_P_addVersion_49 X (hM := by assumption) (h := ?_)
    refine i_P_addVersion_52 X (h := ?_)
    refine i_P_addVersion_54 X (h := ?_)
    refine i_P_addVersion_55 X (h := ?_)
    refine i_P_addVersion_57 X (h1 := fun c => absurd c (by decide)) (h2 := fun _ => ?_)
    refine i_P_addVersion_60 X (h := ?_)
    refine i_P_addVersion_61 X (hM := mS_of_new hq44 hla) (h := ?_)
    refine i_P_addVersion_64 X (h := ?_)
    refine i_P_addVersion_68 X (hC := ct_V_init (mS_self _ _ _) ck x cr b) (hk := by omega) (hn := by omega) (h := fun v68 M68 hp68 => ?_)
    obtain ⟨rfl, rfl⟩ := hp68
    rw [mS_mS]
    have hI2 := IC.fresh (IC.owx hI0 hq44 i) hq44 (.inr (2, [.int ck, .int x, .ref cr, va_rf b, .int 0]))
    have hI2' := hI2
    obtain ⟨hO2, hNa2, hPa2, hNd2, hNi2⟩ := hI2'
    refine i_P_addVersion_71 X (hM := (hNd2 i hi).1) (h := ?_)
    have hN2 := hNd2 i hi
    have hch2 := hN2.2.2.1
    rw [hl, hv] at hch2
    have hcr := mS_of_new (e := .inr (2, [.int ck, .int x, .ref cr, va_rf b, .int 0])) hq44 hc
    have hI3 := IC.node hI2 hi (b := some q44) (vl := addV ck cs (vs i)) hN2.2.1 (by
      rw [hv]; simp only [addV]; rw [if_pos e8]
      exact ⟨q44, cr, b, rfl, va_up_self _ _ _, mS_self _ _ _, hcr, (by obtain ⟨a2, ca2, b2, ea2, hw2, hla2, hca2, hb2⟩ := hch2; cases ea2; have q3 := hla2; rw [mS_of_new hq44 hla] at q3; cases va_rf_inj q3; exact hb2)⟩) hN2.2.2.2.1 hN2.2.2.2.2
    simp only [va_up_id] at hI3
    refine i_P_addVersion_74 X (h := ?_)
    refine i_P_addVersion_75 X (hC := ct_P_noteChange (cB := cB) hI3) (hk := by omega) (hn := by omega) (hM := hI3.1) (h := fun v75 M75 hp75 => ?_)
    obtain ⟨rfl, rfl⟩ := hp75
    refine i_P_addVersion_78 X (h := ?_)
    refine i_P_addVersion_80 X (h := ?_)
    refine i_P_addVersion_81 X (h := ?_)
    exact i_P_addVersion_82 X (hk := by omega) (hn := by omega) (hp := ⟨by first | (rw [if_pos e8]; done) | (rw [if_neg e8]; done), q44, IC.obj hI3 ck mk (ch + 1) dc dm dh (ev + 1)⟩)
