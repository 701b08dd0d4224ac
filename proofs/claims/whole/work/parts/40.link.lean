theorem nI_m1 {e : Nat} (h : e < 2 ^ 31) : ¬ nI e = -1 := fun q => nI_pos h (by rw [q]; decide)
theorem plc_ge {t ck : Int32} : ∀ (l : List (Int32 × Int32)), (∀ e ∈ l, e.1 ≤ ck) → ck ≤ t → plc l t = plc l ck
  | [], _, _ => rfl
  | (u, p) :: l, h, ht => by
    have h1 : u ≤ ck := h (u, p) List.mem_cons_self
    unfold plc
    rw [if_neg (Int32.not_lt.mpr (Int32.le_trans h1 ht)), if_neg (Int32.not_lt.mpr h1)]
/-- the entries E and the places q say the same -/
def eR (E : Nat → Int32) (q : Nat → Int32) : Prop := ∀ e, e < 192 → (∃ n, n < 24 ∧ E e = nI n) ∧ ∀ n, 0 < n → n < 24 → (E e = nI n ↔ q n = nI e)
theorem eR_cg {E E' q q' : Nat → Int32} (h : eR E q) (hE : ∀ e, e < 192 → E' e = E e) (hq : ∀ n, 0 < n → n < 24 → q' n = q n) : eR E' q' := fun e he => by
  rw [hE e he]
  exact ⟨(h e he).1, fun n h0 h1 => by rw [hq n h0 h1]; exact (h e he).2 n h0 h1⟩
theorem eR_unset {E q : Nat → Int32} {n0 u0 : Nat} (h : eR E q) (hn0 : 0 < n0) (hn : n0 < 24) (hu : u0 < 192) (hq : q n0 = nI u0) : eR (upd E u0 0) (va_up q n0 (-1)) := by
  intro e he
  have hE0 := ((h u0 hu).2 n0 hn0 hn).mpr hq
  by_cases heu : e = u0
  · subst heu
    rw [pk_us]
    refine ⟨⟨0, by decide, rfl⟩, fun n h0 h1 => ⟨fun hh => ?_, fun hh => ?_⟩⟩
    · exact absurd hh.symm (nI_ne0 h0 (by omega))
    · by_cases hnn : n = n0
      · subst hnn
        rw [va_up_self] at hh
        exact absurd hh.symm (nI_m1 (by omega))
      · rw [va_up_ne _ _ hnn] at hh
        have h2 := ((h e he).2 n h0 h1).mpr hh
        rw [hE0] at h2
        exact absurd ((nI_eq (by omega) (by omega)).mp h2).symm hnn
  · rw [pk_un heu]
    refine ⟨(h e he).1, fun n h0 h1 => ?_⟩
    by_cases hnn : n = n0
    · subst hnn
      rw [va_up_self]
      refine ⟨fun hh => ?_, fun hh => absurd hh.symm (nI_m1 (by omega))⟩
      have h2 := ((h e he).2 n h0 h1).mp hh
      rw [hq] at h2
      exact absurd ((nI_eq (by omega) (by omega)).mp h2).symm heu
    · rw [va_up_ne _ _ hnn]
      exact (h e he).2 n h0 h1
theorem eR_set {E q : Nat → Int32} {n0 e0 : Nat} (h : eR E q) (hn0 : 0 < n0) (hn : n0 < 24) (he0 : e0 < 192) (hq : q n0 = -1) (hf : ∀ n, 0 < n → n < 24 → ¬ q n = nI e0) : eR (upd E e0 (nI n0)) (va_up q n0 (nI e0)) := by
  intro e he
  by_cases hee : e = e0
  · subst hee
    rw [pk_us]
    refine ⟨⟨n0, hn, rfl⟩, fun n h0 h1 => ?_⟩
    by_cases hnn : n = n0
    · subst hnn
      rw [va_up_self]
      exact ⟨fun _ => rfl, fun _ => rfl⟩
    · rw [va_up_ne _ _ hnn]
      exact ⟨fun hh => absurd ((nI_eq (by omega) (by omega)).mp hh).symm hnn, fun hh => absurd hh (hf n h0 h1)⟩
  · rw [pk_un hee]
    refine ⟨(h e he).1, fun n h0 h1 => ?_⟩
    by_cases hnn : n = n0
    · subst hnn
      rw [va_up_self]
      refine ⟨fun hh => ?_, fun hh => absurd ((nI_eq (by omega) (by omega)).mp hh).symm hee⟩
      have h2 := ((h e he).2 n h0 h1).mp hh
      rw [hq] at h2
      exact absurd h2.symm (nI_m1 (by omega))
    · rw [va_up_ne _ _ hnn]
      exact (h e he).2 n h0 h1
theorem entL_none {q : Nat → Int32} {p : Int32} : ∀ (n i : Nat), i + n ≤ 24 → (∀ x, i ≤ x → x < 24 → ¬ q x = p) → entL q p n i = 0
  | 0, _, _, _ => rfl
  | n + 1, i, hi, h => by
    unfold entL
    rw [if_neg (h i (Nat.le_refl i) (by omega))]
    exact entL_none n (i + 1) (by omega) (fun x hx => h x (by omega))
theorem entL_find {q : Nat → Int32} {p : Int32} {x : Nat} (hx : q x = p) : ∀ (n i : Nat), i ≤ x → x < i + n → (∀ y, i ≤ y → y < x → ¬ q y = p) → entL q p n i = x
  | 0, _, h1, h2, _ => absurd h2 (by omega)
  | n + 1, i, h1, h2, h => by
    unfold entL
    by_cases hix : i = x
    · subst hix
      rw [if_pos hx]
    · rw [if_neg (h i (Nat.le_refl i) (by omega))]
      exact entL_find hx n (i + 1) (by omega) (by omega) (fun y hy => h y (by omega))
/-- the entry by the places -/
theorem ent_rep {E q : Nat → Int32} (h : eR E q) (h0 : q 0 = -1) {e : Nat} (he : e < 192) : E e = nI (entL q (nI e) 24 0) := by
  obtain ⟨⟨n, hn, hE⟩, h2⟩ := h e he
  have hz : ¬ q 0 = nI e := by rw [h0]; exact fun hh => nI_m1 (by omega) hh.symm
  by_cases hn0 : n = 0
  · subst hn0
    rw [entL_none 24 0 (by decide) (fun x _ hx hh => ?_)]
    · exact hE
    · by_cases hx0 : x = 0
      · subst hx0
        exact hz hh
      · have h3 := (h2 x (by omega) hx).mpr hh
        rw [hE] at h3
        exact hx0 ((nI_eq (by omega) (by omega)).mp h3).symm
  · have h3 := (h2 n (by omega) hn).mp hE
    rw [entL_find h3 24 0 (by omega) (by omega) (fun y _ hy hh => ?_)]
    · exact hE
    · by_cases hy0 : y = 0
      · subst hy0
        exact hz hh
      · have h4 := (h2 y (by omega) (by omega)).mpr hh
        rw [hE] at h4
        have := (nI_eq (by omega) (by omega)).mp h4
        omega
theorem eR_en {E q : Nat → Int32} (h : eR E q) : enOk E := fun e he => (h e he).1
/-- a node is an entry iff it has a place -/
theorem eR_placed {E q : Nat → Int32} (h : eR E q) {n : Nat} (h0 : 0 < n) (hn : n < 24) (hok : q n = -1 ∨ ∃ p, p < 192 ∧ q n = nI p) : (∃ e, e < 192 ∧ E e = nI n) ↔ ¬ q n = -1 := by
  constructor
  · rintro ⟨e, he, hE⟩ hh
    rw [((h e he).2 n h0 hn).mp hE] at hh
    exact nI_m1 (by omega) hh
  · intro hh
    obtain ⟨p, hp, hq⟩ := hok.resolve_left hh
    exact ⟨p, hp, ((h p hp).2 n h0 hn).mpr hq⟩
/-- has a folder entries: by entries, and by names -/
theorem eR_has {E q : Nat → Int32} (h : eR E q) (h0 : q 0 = -1) {f : Nat} (hf : f < 24) : ∀ (n i : Nat), i + n = 8 → ((∃ k, i ≤ k ∧ k < 8 ∧ 0 < E (f * 8 + k)) ↔ fnL q f n i < 8)
  | 0, i, hi => by
    constructor
    · rintro ⟨k, h1, h2, -⟩
      omega
    · intro hh
      exact absurd hh (by simp [fnL])
  | n + 1, i, hi => by
    have he := ent_rep h h0 (e := f * 8 + i) (by omega)
    have hl := entL_lt q (nI (f * 8 + i)) 24 0 (by decide)
    unfold fnL
    by_cases hz : entL q (nI (f * 8 + i)) 24 0 = 0
    · rw [if_pos hz, ← eR_has h h0 hf n (i + 1) (by omega)]
      constructor
      · rintro ⟨k, h1, h2, h3⟩
        refine ⟨k, ?_, h2, h3⟩
        rcases Nat.lt_or_ge i k with q | q
        · exact q
        · have : k = i := by omega
          subst this
          rw [he, hz] at h3
          exact absurd h3 (by decide)
      · rintro ⟨k, h1, h2, h3⟩
        exact ⟨k, by omega, h2, h3⟩
    · rw [if_neg hz]
      exact ⟨fun _ => by omega, fun _ => ⟨i, Nat.le_refl i, by omega, by rw [he]; exact nI_lt (a := 0) (by omega) (by omega)⟩⟩
theorem rep_ext {W W' S S' N N' U U' : Nat → Int32} {t : Int32} : ∀ (c : Nat), (∀ i, i < c → W' i = W i ∧ S' i = S i ∧ N' i = N i ∧ U' i = U i) → rep W' S' N' U' t c = rep W S N U t c
  | 0, _ => rfl
  | c + 1, h => by
    obtain ⟨h1, h2, h3, h4⟩ := h c (by omega)
    unfold rep
    rw [rep_ext c (fun i hi => h i (by omega)), h1]
    unfold apE
    rw [h2, h3, h4]
/-- up to n: the walk up that isWithin does, and the entries -/
theorem dnE_up {E q : Nat → Int32} (h : eR E q) {top : Nat} : ∀ (r k : Nat), k < 24 → (dnE E top (r + 1) k ↔ ∃ p, p < 192 ∧ 0 < k ∧ q k = nI p ∧ dnE E top r (p / 8)) := by
  intro r k hk
  constructor
  · rintro ⟨e, h1, h2, h3, h4⟩
    exact ⟨e, h1, h3, ((h e h1).2 k h3 hk).mp h2, h4⟩
  · rintro ⟨p, h1, h2, h3, h4⟩
    exact ⟨p, h1, ((h p h1).2 k h2 hk).mpr h3, h2, h4⟩
