/-- memory as a map from addresses to what lies there -/
abbrev mM : Type := Nat → Option va_E
def mS (M : mM) (a : Nat) (e : va_E) : mM := fun b => if b = a then some e else M b
theorem mS_self (M : mM) (a : Nat) (e : va_E) : mS M a e a = some e := by simp [mS]
theorem mS_ne (M : mM) {a b : Nat} (e : va_E) (h : b ≠ a) : mS M a e b = M b := by simp [mS, h]
theorem mS_mS (M : mM) (a : Nat) (e e' : va_E) : mS (mS M a e) a e' = mS M a e' := by
  funext b
  by_cases h : b = a <;> simp [mS, h]
def mR (M : mM) (ws : va_W) : Prop := ∀ (a : Nat) (e : va_E), M a = some e ↔ ∃ k : Nat, ws[k]? = some (a, e)
theorem mR_set {A : Nat → Prop} {M : mM} {ws : va_W} {k a : Nat} {e0 e : va_E} (hR : mR M ws) (hD : va_D A ws) (hk : ws[k]? = some (a, e0)) : mR (mS M a e) (ws.set k (a, e)) := by
  have hkl : k < ws.length := (List.getElem?_eq_some_iff.mp hk).1
  intro b f
  by_cases hb : b = a
  · subst hb
    rw [mS_self]
    constructor
    · intro h
      cases h
      exact ⟨k, by rw [List.getElem?_set_self hkl]⟩
    · rintro ⟨j, hj⟩
      by_cases hjk : k = j
      · subst hjk
        rw [List.getElem?_set_self hkl] at hj
        cases hj
        rfl
      · rw [List.getElem?_set_ne hjk] at hj
        exact absurd (hD.1 k j _ _ hk hj rfl) hjk
  · rw [mS_ne _ _ hb, hR b f]
    constructor
    · rintro ⟨j, hj⟩
      refine ⟨j, ?_⟩
      have hjk : k ≠ j := by
        intro h
        subst h
        rw [hk] at hj
        cases hj
        exact hb rfl
      rw [List.getElem?_set_ne hjk]
      exact hj
    · rintro ⟨j, hj⟩
      refine ⟨j, ?_⟩
      by_cases hjk : k = j
      · subst hjk
        rw [List.getElem?_set_self hkl] at hj
        cases hj
        exact absurd rfl hb
      · rw [List.getElem?_set_ne hjk] at hj
        exact hj
theorem mR_fresh {A : Nat → Prop} {M : mM} {ws : va_W} {q : Nat} {e : va_E} (hR : mR M ws) (hD : va_D A (ws ++ [(q, e)])) : M q = none := by
  cases h : M q with
  | none => rfl
  | some f =>
    obtain ⟨j, hj⟩ := (hR q f).mp h
    have hjl : j < ws.length := (List.getElem?_eq_some_iff.mp hj).1
    have h1 : (ws ++ [(q, e)])[j]? = some (q, f) := by rw [List.getElem?_append_left hjl]; exact hj
    have h2 : (ws ++ [(q, e)])[ws.length]? = some (q, e) := by simp
    exact absurd (hD.1 j ws.length _ _ h1 h2 rfl) (by omega)
theorem mR_push {A : Nat → Prop} {M : mM} {ws : va_W} {q : Nat} {e : va_E} (hR : mR M ws) (hD : va_D A (ws ++ [(q, e)])) : mR (mS M q e) (ws ++ [(q, e)]) := by
  have hq := mR_fresh hR hD
  intro b f
  by_cases hb : b = q
  · subst hb
    rw [mS_self]
    constructor
    · intro h
      cases h
      exact ⟨ws.length, by simp⟩
    · rintro ⟨j, hj⟩
      by_cases hjl : j < ws.length
      · rw [List.getElem?_append_left hjl] at hj
        have h2 := (hR b f).mpr ⟨j, hj⟩
        rw [hq] at h2
        cases h2
      · rw [List.getElem?_append_right (by omega)] at hj
        have hz : j - ws.length < 1 := (List.getElem?_eq_some_iff.mp hj).1
        rw [show j - ws.length = 0 by omega] at hj
        cases hj
        rfl
  · rw [mS_ne _ _ hb, hR b f]
    constructor
    · rintro ⟨j, hj⟩
      exact ⟨j, by rw [List.getElem?_append_left (List.getElem?_eq_some_iff.mp hj).1]; exact hj⟩
    · rintro ⟨j, hj⟩
      by_cases hjl : j < ws.length
      · rw [List.getElem?_append_left hjl] at hj
        exact ⟨j, hj⟩
      · rw [List.getElem?_append_right (by omega)] at hj
        have hz : j - ws.length < 1 := (List.getElem?_eq_some_iff.mp hj).1
        rw [show j - ws.length = 0 by omega] at hj
        cases hj
        exact absurd rfl hb
/-- the locals by their places; values of one slot alone -/
def lL (ls : Array Slot) (L : List (Option Value)) : Prop := ls.size = L.length ∧ lv_wf ls ∧ ∀ (i : Nat) (v : Value), L[i]? = some (some v) → ls[i]? = some (.val v) ∧ v.category = 1
def lA (L : List (Option Value)) : List (Nat × Value) := (List.range L.length).filterMap (fun i => (L[i]?).join.map (fun v => (i, v)))
theorem lA_mem {L : List (Option Value)} {q : Nat × Value} : q ∈ lA L ↔ L[q.1]? = some (some q.2) := by
  obtain ⟨i, v⟩ := q
  unfold lA
  rw [List.mem_filterMap]
  constructor
  · rintro ⟨j, hj, h⟩
    cases hL : L[j]? with
    | none => rw [hL] at h; simp at h
    | some w =>
      cases w with
      | none => rw [hL] at h; simp at h
      | some u =>
        rw [hL] at h
        simp at h
        obtain ⟨rfl, rfl⟩ := h
        exact hL
  · intro h
    have h : L[i]? = some (some v) := h
    refine ⟨i, List.mem_range.mpr (List.getElem?_eq_some_iff.mp h).1, ?_⟩
    rw [h]
    rfl
theorem lL_has {ls : Array Slot} {L : List (Option Value)} (h : lL ls L) : lv_has ls L.length (lA L) := ⟨h.1, h.2.1, fun q hq => (h.2.2 _ _ (lA_mem.mp hq)).1⟩
theorem lL_store {ls ls' : Array Slot} {L : List (Option Value)} {i : Nat} {x : Value} (h0 : lL ls L) (hi : i < L.length) (hx : x.category = 1) (h : lv_has ls' L.length ((i, x) :: (lA L).filter (fun q => !(q.1 == i) && !(q.1 + 1 == i && q.2.category == 2)))) : lL ls' (L.set i (some x)) := by
  refine ⟨by rw [h.1, List.length_set], h.2.1, fun j v hj => ?_⟩
  by_cases hji : i = j
  · subst hji
    rw [List.getElem?_set_self hi] at hj
    cases hj
    exact ⟨h.2.2 (i, x) List.mem_cons_self, hx⟩
  · rw [List.getElem?_set_ne hji] at hj
    have hc := (h0.2.2 j v hj).2
    refine ⟨h.2.2 (j, v) (List.mem_cons_of_mem _ (List.mem_filter.mpr ⟨lA_mem.mpr hj, ?_⟩)), hc⟩
    simp [Ne.symm hji, hc]
def mRf (v : Value) : Prop := v = .null ∨ ∃ a, v = .ref a
theorem mRf_rf (r : Option Nat) : mRf (va_rf r) := va_rf_or r
theorem mRf_n : mRf .null := Or.inl rfl
theorem mRf_r (a : Nat) : mRf (.ref a) := Or.inr ⟨a, rfl⟩
theorem mRf_cat {v : Value} (h : mRf v) : v.category = 1 := by
  rcases h with rfl | ⟨a, rfl⟩ <;> rfl
