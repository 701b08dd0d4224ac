theorem mS_of_ne {M : mM} {a b : Nat} {e x y : va_E} (ha : M a = some x) (hb : M b = some y) (h : x ≠ y) : mS M a e b = some y := by
  rw [mS_ne _ _ (fun q => h (by rw [q, ha] at hb; exact Option.some.inj hb))]
  exact hb
theorem mS_of_new {M : mM} {a b : Nat} {e y : va_E} (ha : M a = none) (hb : M b = some y) : mS M a e b = some y := by
  rw [mS_ne _ _ (fun q => by rw [q, ha] at hb; cases hb)]
  exact hb
theorem mS_same {M : mM} {a : Nat} {e : va_E} (h : M a = some e) : mS M a e = M := by
  funext b
  by_cases q : b = a
  · subst q
    rw [mS_self, h]
  · rw [mS_ne _ _ q]
theorem spc_keep {M M' : mM} (h : ∀ (a : Nat) (fs : List Value), M a = some (.inr (1, fs)) → M' a = some (.inr (1, fs))) : ∀ (l : List (Int32 × Int32)) (r : Option Nat), spc M r l → spc M' r l
  | [], _, hr => hr
  | (_, _) :: l, _, ⟨a, b, h1, h2, h3⟩ => ⟨a, b, h1, h a _ h2, spc_keep h l b h3⟩
theorem vrc_keep {M M' : mM} {cI : ClassId} {ow : Nat → Nat} {i : Nat} (h : ∀ (a : Nat) (fs : List Value), ow a = i → M a = some (.inr (2, fs)) → M' a = some (.inr (2, fs))) (h4 : ∀ (a : Nat) (f : Nat → Int32), M a = some (.inl (cI, 4, .inl f)) → M' a = some (.inl (cI, 4, .inl f))) : ∀ (l : List vV) (r : Option Nat), vrc M cI ow i r l → vrc M' cI ow i r l
  | [], _, hr => hr
  | (_, _, _, _) :: l, _, ⟨a, ca, b, h1, h2, h3, h5, h6⟩ => ⟨a, ca, b, h1, h2, h a _ h2 h3, h4 ca _ h5, vrc_keep h h4 l b h6⟩
/-- the class's cells: the object, its two rows, its nodes with their chains -/
def IC (M : mM) (cI cN : ClassId) (h0 na pa : Nat) (nd ow : Nat → Nat) (sr vr dr er : Nat → Option Nat) (pl : Nat → Int32) (w g ck mk ch dc dm dh ev : Int32) (sp ds : Nat → List (Int32 × Int32)) (vs dv : Nat → List vV) : Prop :=
  M h0 = some (.inr (3, [.int w, .int g, .ref na, .ref pa, .int ck, .int mk, .int ch, .int dc, .int dm, .int dh, .int ev])) ∧
  M na = some (.inl (cN, 24, .inr (.inr (.inr (.inr (fun i => some (nd i))))))) ∧
  M pa = some (.inl (cI, 24, .inl pl)) ∧
  (∀ i, i < 24 → M (nd i) = some (.inr (0, [va_rf (sr i), va_rf (vr i), va_rf (dr i), va_rf (er i)])) ∧ spc M (sr i) (sp i) ∧ vrc M cI ow i (vr i) (vs i) ∧ spc M (dr i) (ds i) ∧ vrc M cI ow i (er i) (dv i)) ∧
  ∀ i j, i < 24 → j < 24 → nd i = nd j → i = j
/-- a change of cells that are neither spots, nor versions, nor rows of four -/
theorem IC_nodes {M M' : mM} {cI : ClassId} {nd ow : Nat → Nat} {sr vr dr er : Nat → Option Nat} {sp ds : Nat → List (Int32 × Int32)} {vs dv : Nat → List vV} {i : Nat}
    (h0 : ∀ (a : Nat) (fs : List Value), M a = some (.inr (0, fs)) → M' a = some (.inr (0, fs)))
    (h1 : ∀ (a : Nat) (fs : List Value), M a = some (.inr (1, fs)) → M' a = some (.inr (1, fs))) (h2 : ∀ (a : Nat) (fs : List Value), M a = some (.inr (2, fs)) → M' a = some (.inr (2, fs))) (h4 : ∀ (a : Nat) (f : Nat → Int32), M a = some (.inl (cI, 4, .inl f)) → M' a = some (.inl (cI, 4, .inl f)))
    (h : M (nd i) = some (.inr (0, [va_rf (sr i), va_rf (vr i), va_rf (dr i), va_rf (er i)])) ∧ spc M (sr i) (sp i) ∧ vrc M cI ow i (vr i) (vs i) ∧ spc M (dr i) (ds i) ∧ vrc M cI ow i (er i) (dv i)) :
    M' (nd i) = some (.inr (0, [va_rf (sr i), va_rf (vr i), va_rf (dr i), va_rf (er i)])) ∧ spc M' (sr i) (sp i) ∧ vrc M' cI ow i (vr i) (vs i) ∧ spc M' (dr i) (ds i) ∧ vrc M' cI ow i (er i) (dv i) :=
  ⟨h0 _ _ h.1, spc_keep h1 _ _ h.2.1, vrc_keep (fun a fs _ => h2 a fs) h4 _ _ h.2.2.1, spc_keep h1 _ _ h.2.2.2.1, vrc_keep (fun a fs _ => h2 a fs) h4 _ _ h.2.2.2.2⟩
section
variable {M : mM} {cI cN : ClassId} {h0 na pa : Nat} {nd ow : Nat → Nat} {sr vr dr er : Nat → Option Nat} {pl : Nat → Int32} {w g ck mk ch dc dm dh ev : Int32} {sp ds : Nat → List (Int32 × Int32)} {vs dv : Nat → List vV}
/-- the places' row is written anew -/
theorem IC.places (h : IC M cI cN h0 na pa nd ow sr vr dr er pl w g ck mk ch dc dm dh ev sp ds vs dv) (pl' : Nat → Int32) : IC (mS M pa (.inl (cI, 24, .inl pl'))) cI cN h0 na pa nd ow sr vr dr er pl' w g ck mk ch dc dm dh ev sp ds vs dv := by
  obtain ⟨e0, e1, e2, e3, e4⟩ := h
  refine ⟨mS_of_ne e2 e0 (by intro q; cases q), mS_of_ne e2 e1 (by intro q; cases q), mS_self _ _ _, fun i hi => IC_nodes ?_ ?_ ?_ ?_ (e3 i hi), e4⟩
  · exact fun a fs ha => mS_of_ne e2 ha (by intro q; cases q)
  · exact fun a fs ha => mS_of_ne e2 ha (by intro q; cases q)
  · exact fun a fs ha => mS_of_ne e2 ha (by intro q; cases q)
  · exact fun a fs ha => mS_of_ne e2 ha (by intro q; cases q)
/-- the object's numbers are written anew -/
theorem IC.obj (h : IC M cI cN h0 na pa nd ow sr vr dr er pl w g ck mk ch dc dm dh ev sp ds vs dv) (ck' mk' ch' dc' dm' dh' ev' : Int32) : IC (mS M h0 (.inr (3, [.int w, .int g, .ref na, .ref pa, .int ck', .int mk', .int ch', .int dc', .int dm', .int dh', .int ev']))) cI cN h0 na pa nd ow sr vr dr er pl w g ck' mk' ch' dc' dm' dh' ev' sp ds vs dv := by
  obtain ⟨e0, e1, e2, e3, e4⟩ := h
  refine ⟨mS_self _ _ _, mS_of_ne e0 e1 (by intro q; cases q), mS_of_ne e0 e2 (by intro q; cases q), fun i hi => IC_nodes ?_ ?_ ?_ ?_ (e3 i hi), e4⟩
  · exact fun a fs ha => mS_of_ne e0 ha (by intro q; cases q)
  · exact fun a fs ha => mS_of_ne e0 ha (by intro q; cases q)
  · exact fun a fs ha => mS_of_ne e0 ha (by intro q; cases q)
  · exact fun a fs ha => mS_of_ne e0 ha (by intro q; cases q)
/-- a new cell of any kind: all stays -/
theorem IC.fresh (h : IC M cI cN h0 na pa nd ow sr vr dr er pl w g ck mk ch dc dm dh ev sp ds vs dv) {q : Nat} (hq : M q = none) (e : va_E) : IC (mS M q e) cI cN h0 na pa nd ow sr vr dr er pl w g ck mk ch dc dm dh ev sp ds vs dv := by
  obtain ⟨e0, e1, e2, e3, e4⟩ := h
  refine ⟨mS_of_new hq e0, mS_of_new hq e1, mS_of_new hq e2, fun i hi => IC_nodes ?_ ?_ ?_ ?_ (e3 i hi), e4⟩
  · exact fun a fs ha => mS_of_new hq ha
  · exact fun a fs ha => mS_of_new hq ha
  · exact fun a fs ha => mS_of_new hq ha
  · exact fun a fs ha => mS_of_new hq ha
/-- a node is given other chains -/
theorem IC.node (h : IC M cI cN h0 na pa nd ow sr vr dr er pl w g ck mk ch dc dm dh ev sp ds vs dv) {i : Nat} (hi : i < 24) {a b c d : Option Nat} {sl dl : List (Int32 × Int32)} {vl el : List vV} (ha : spc M a sl) (hb : vrc M cI ow i b vl) (hc : spc M c dl) (hd : vrc M cI ow i d el) :
    IC (mS M (nd i) (.inr (0, [va_rf a, va_rf b, va_rf c, va_rf d]))) cI cN h0 na pa nd ow (va_up sr i a) (va_up vr i b) (va_up dr i c) (va_up er i d) pl w g ck mk ch dc dm dh ev (va_up sp i sl) (va_up ds i dl) (va_up vs i vl) (va_up dv i el) := by
  obtain ⟨e0, e1, e2, e3, e4⟩ := h
  have en := (e3 i hi).1
  have k1 : ∀ (a' : Nat) (fs : List Value), M a' = some (.inr (1, fs)) → mS M (nd i) (.inr (0, [va_rf a, va_rf b, va_rf c, va_rf d])) a' = some (.inr (1, fs)) := fun a' fs h => mS_of_ne en h (by intro q; cases q)
  have k2 : ∀ (a' : Nat) (fs : List Value), M a' = some (.inr (2, fs)) → mS M (nd i) (.inr (0, [va_rf a, va_rf b, va_rf c, va_rf d])) a' = some (.inr (2, fs)) := fun a' fs h => mS_of_ne en h (by intro q; cases q)
  have k4 : ∀ (a' : Nat) (f : Nat → Int32), M a' = some (.inl (cI, 4, .inl f)) → mS M (nd i) (.inr (0, [va_rf a, va_rf b, va_rf c, va_rf d])) a' = some (.inl (cI, 4, .inl f)) := fun a' fs h => mS_of_ne en h (by intro q; cases q)
  refine ⟨mS_of_ne en e0 (by intro q; cases q), mS_of_ne en e1 (by intro q; cases q), mS_of_ne en e2 (by intro q; cases q), fun j hj => ?_, e4⟩
  by_cases hji : j = i
  · subst hji
    simp only [va_up_self]
    exact ⟨mS_self _ _ _, spc_keep k1 _ _ ha, vrc_keep (fun a fs _ => k2 a fs) k4 _ _ hb, spc_keep k1 _ _ hc, vrc_keep (fun a fs _ => k2 a fs) k4 _ _ hd⟩
  · simp only [va_up_ne _ _ hji]
    obtain ⟨f1, f2, f3, f4, f5⟩ := e3 j hj
    exact ⟨by rw [mS_ne _ _ (fun q => hji (e4 j i hj hi q))]; exact f1, spc_keep k1 _ _ f2, vrc_keep (fun a fs _ => k2 a fs) k4 _ _ f3, spc_keep k1 _ _ f4, vrc_keep (fun a fs _ => k2 a fs) k4 _ _ f5⟩
end
/-- which node's place is p, by the places pl: the first of n from i on; 0 if none -/
def entL (pl : Nat → Int32) (p : Int32) : Nat → Nat → Nat
  | 0, _ => 0
  | n + 1, i => if pl i = p then i else entL pl p n (i + 1)
/-- the first of n names from i on under which folder f has an entry -/
def fnL (pl : Nat → Int32) (f : Nat) : Nat → Nat → Nat
  | 0, _ => 8
  | n + 1, i => if entL pl (nI (f * 8 + i)) 24 0 = 0 then fnL pl f n (i + 1) else i
/-- going up from x by the places, n steps at most: is top come to -/
def wiL (pl : Nat → Int32) (top : Nat) : Nat → Nat → Bool
  | 0, _ => false
  | n + 1, x => if x = top then true else if pl x = -1 then false else wiL pl top n ((pl x).toNatClampNeg / 8)
theorem bI_eq0 {p : Prop} [Decidable p] (h : bI p = 0) : ¬ p := by
  intro q
  unfold bI at h
  rw [if_pos q] at h
  exact absurd h (by decide)
theorem bI_ne0 {p : Prop} [Decidable p] (h : ¬ bI p = 0) : p := by
  unfold bI at h
  by_cases q : p
  · exact q
  · rw [if_neg q] at h
    exact absurd rfl h
theorem bI_t {p : Prop} [Decidable p] (h : p) : bI p = 1 := if_pos h
theorem bI_f {p : Prop} [Decidable p] (h : ¬ p) : bI p = 0 := if_neg h
theorem ix_of {x : Int32} {m : Nat} (h : 0 ≤ x ∧ x < nI m) (hm : m < 2 ^ 31) : ∃ j, j < m ∧ x = nI j := by
  obtain ⟨j, hj, rfl⟩ := nI_of (Int32.not_lt.mpr h.1)
  exact ⟨j, (nI_ltI hj hm).mp h.2, rfl⟩
theorem vrc_nil {M : mM} {cI : ClassId} {ow : Nat → Nat} {i : Nat} {r : Option Nat} {l : List vV} (h : vrc M cI ow i r l) : l.isEmpty = true ↔ r = none := by
  cases l with
  | nil =>
    have h : r = none := h
    simp [h]
  | cons q l =>
    obtain ⟨t, x, cs, g⟩ := q
    obtain ⟨a, ca, b, rfl, -⟩ := h
    simp
