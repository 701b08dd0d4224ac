/-- how far the twin's search has come -/
def scV (F W : Nat → Int32) (f : Int32) : Nat → Int32 × Int32
  | 0 => (-1, -1)
  | c + 1 => if F c = f ∧ (scV F W f c).2 < W c then ((scV F W f c).1 + 1, W c) else scV F W f c
def scF (F W : Nat → Int32) (f : Int32) : Nat → Nat → Int32 → Int32 → Int32 × Int32
  | 0, _, a, l => (a, l)
  | n + 1, i, a, l => if F i = f ∧ l < W i then scF F W f n (i + 1) (a + 1) (W i) else scF F W f n (i + 1) a l
theorem scF_snoc {F W : Nat → Int32} {f : Int32} : ∀ (n i : Nat) (a l : Int32), scF F W f (n + 1) i a l = if F (i + n) = f ∧ (scF F W f n i a l).2 < W (i + n) then ((scF F W f n i a l).1 + 1, W (i + n)) else scF F W f n i a l
  | 0, i, a, l => rfl
  | n + 1, i, a, l => by
    rw [scF]
    conv => rhs; rw [scF]
    split
    · rw [scF_snoc n (i + 1) (a + 1) (W i), show i + 1 + n = i + (n + 1) by omega]
    · rw [scF_snoc n (i + 1) a l, show i + 1 + n = i + (n + 1) by omega]
theorem scF_V {F W : Nat → Int32} {f : Int32} : ∀ (c : Nat), scF F W f c 0 (-1) (-1) = scV F W f c
  | 0 => rfl
  | c + 1 => by
    rw [scF_snoc, scF_V c, Nat.zero_add]
    rfl
theorem tof_snoc {F W : Nat → Int32} {f k : Int32} : ∀ (n i : Nat) (a l : Int32), (∀ j, i ≤ j → j < i + n → 0 ≤ W j) → tof F W f k (n + 1) i a l = if ¬ tof F W f k n i a l = -1 then tof F W f k n i a l else if F (i + n) = f ∧ (scF F W f n i a l).2 < W (i + n) ∧ (scF F W f n i a l).1 + 1 = k then W (i + n) else -1
  | 0, i, a, l, _ => by
    show (if F i = f ∧ l < W i then (if a + 1 = k then W i else -1) else -1) = if ¬ (-1 : Int32) = -1 then -1 else if F i = f ∧ l < W i ∧ a + 1 = k then W i else -1
    rw [if_neg (c := ¬ (-1 : Int32) = -1) (fun h => h rfl)]
    by_cases h1 : F i = f ∧ l < W i
    · rw [if_pos h1]
      by_cases h2 : a + 1 = k
      · rw [if_pos h2, if_pos ⟨h1.1, h1.2, h2⟩]
      · rw [if_neg h2, if_neg (fun h => h2 h.2.2)]
    · rw [if_neg h1, if_neg (fun h => h1 ⟨h.1, h.2.1⟩)]
  | n + 1, i, a, l, hw => by
    have hwi : ¬ W i = -1 := fun e => by
      have h0 := hw i (Nat.le_refl i) (by omega)
      rw [e] at h0
      exact absurd h0 (by decide)
    rw [tof]
    conv => rhs; rw [tof, scF]
    by_cases h1 : F i = f ∧ l < W i
    · rw [if_pos h1]
      simp only [if_pos h1]
      by_cases h2 : a + 1 = k
      · simp only [if_pos h2]
        rw [if_pos hwi]
      · simp only [if_neg h2]
        rw [tof_snoc n (i + 1) (a + 1) (W i) (fun j h3 h4 => hw j (by omega) (by omega)), show i + 1 + n = i + (n + 1) by omega]
    · rw [if_neg h1]
      simp only [if_neg h1]
      rw [tof_snoc n (i + 1) a l (fun j h3 h4 => hw j (by omega) (by omega)), show i + 1 + n = i + (n + 1) by omega]
theorem tof_ext {F F' W W' : Nat → Int32} {f k : Int32} : ∀ (n i : Nat) (a l : Int32), (∀ j, i ≤ j → j < i + n → F' j = F j ∧ W' j = W j) → tof F' W' f k n i a l = tof F W f k n i a l
  | 0, _, _, _, _ => rfl
  | n + 1, i, a, l, h => by
    obtain ⟨h1, h2⟩ := h i (Nat.le_refl i) (by omega)
    unfold tof
    rw [h1, h2, tof_ext n (i + 1) (a + 1) (W i) (fun j h3 h4 => h j (by omega) (by omega)), tof_ext n (i + 1) a l (fun j h3 h4 => h j (by omega) (by omega))]
theorem scV_ext {F F' W W' : Nat → Int32} {f : Int32} : ∀ (c : Nat), (∀ j, j < c → F' j = F j ∧ W' j = W j) → scV F' W' f c = scV F W f c
  | 0, _ => rfl
  | c + 1, h => by
    obtain ⟨h1, h2⟩ := h c (by omega)
    unfold scV
    rw [scV_ext c (fun j hj => h j (by omega)), h1, h2]
theorem verL_ext {F F' W W' : Nat → Int32} {f t : Int32} : ∀ (c : Nat), (∀ j, j < c → F' j = F j ∧ W' j = W j) → verL F' W' f t c = verL F W f t c
  | 0, _ => rfl
  | c + 1, h => by
    obtain ⟨h1, h2⟩ := h c (by omega)
    unfold verL
    rw [verL_ext c (fun j hj => h j (by omega)), h1, h2]
/-- indexes count down to 0; times fall, from ck at most, to 0 at least -/
def idxO : List vV → Prop
  | [] => True
  | (_, x, _, _) :: l => x = nI l.length ∧ idxO l
def tmO (ck : Int32) : List vV → Prop
  | [] => True
  | (t, _, _, _) :: l => 0 ≤ t ∧ t ≤ ck ∧ (∀ e ∈ l, e.1 < t) ∧ tmO ck l
def hdS : List vV → Int32 × Int32
  | [] => (-1, -1)
  | (t, x, _, _) :: _ => (x, t)
def vR (C W : Nat → Int32) (c : Nat) (v : Int32) : List vV → Prop
  | [] => v = -1
  | (t, _, cs, _) :: _ => ∃ i, i < c ∧ v = nI i ∧ W i = t ∧ ∀ k, k < 4 → C (i * 4 + k) = cs k
def gR (Qf Qt : Nat → Int32) (gn n : Nat) (l : List vV) : Prop := ∀ e ∈ l, (e.2.2.2 = 0 ∨ e.2.2.2 = 1) ∧ (¬ e.2.2.2 = 0 ↔ ∃ i, i < gn ∧ Qf i = nI n ∧ Qt i = e.1)
theorem tmO.mono {ck ck' : Int32} (h : ck ≤ ck') : ∀ {l : List vV}, tmO ck l → tmO ck' l
  | [], _ => trivial
  | (_, _, _, _) :: _, hh => ⟨hh.1, Int32.le_trans hh.2.1 h, hh.2.2.1, tmO.mono h hh.2.2.2⟩
theorem tmO.ge {ck : Int32} : ∀ {l : List vV}, tmO ck l → ∀ e ∈ l, 0 ≤ e.1 ∧ e.1 ≤ ck
  | [], _, e, he => by cases he
  | (t, _, _, _) :: l, hh, e, he => by
    rcases List.mem_cons.mp he with rfl | he
    · exact ⟨hh.1, hh.2.1⟩
    · exact tmO.ge hh.2.2.2 e he
theorem vti_none : ∀ {l : List vV} {j : Nat}, idxO l → l.length ≤ j → j < 2 ^ 31 → vti l (nI j) = -1
  | [], _, _, _, _ => rfl
  | (t, x, cs, g) :: l, j, hi, hl, hj => by
    have hl' : l.length + 1 ≤ j := by simpa using hl
    unfold vti
    rw [if_neg (fun e => by rw [hi.1] at e; have := (nI_eq (by omega) hj).mp e; omega)]
    exact vti_none hi.2 (by omega) hj
theorem vti_ge {ck : Int32} : ∀ {l : List vV} {j : Nat}, idxO l → tmO ck l → j < l.length → l.length < 2 ^ 31 → 0 ≤ vti l (nI j)
  | [], _, _, _, hj, _ => absurd hj (by simp)
  | (t, x, cs, g) :: l, j, hi, ht, hj, hl => by
    have hj' : j < l.length + 1 := by simpa using hj
    have hl' : l.length + 1 < 2 ^ 31 := by simpa using hl
    unfold vti
    by_cases hx : x = nI j
    · rw [if_pos hx]
      exact ht.1
    · rw [if_neg hx]
      refine vti_ge hi.2 ht.2.2.2 ?_ (by omega)
      rcases Nat.lt_or_ge j l.length with q | q
      · exact q
      · exact absurd (by rw [hi.1, show j = l.length by omega]) hx
theorem vti_m1 {ck : Int32} : ∀ {l : List vV} {k : Int32}, tmO ck l → (vti l k = -1 ∨ 0 ≤ vti l k)
  | [], _, _ => Or.inl rfl
  | (t, x, cs, g) :: l, k, ht => by
    unfold vti
    split
    · exact Or.inr ht.1
    · exact vti_m1 ht.2.2.2
/-- all that the twin's rows say of file n's versions l -/
def VN (F W C Qf Qt : Nat → Int32) (gn c : Nat) (ck : Int32) (n : Nat) (l : List vV) : Prop :=
  idxO l ∧ tmO ck l ∧ scV F W (nI n) c = hdS l ∧ (∀ k, tof F W (nI n) k c 0 (-1) (-1) = vti l k) ∧ (∀ t, vR C W c (verL F W (nI n) t c) (vao l t)) ∧ gR Qf Qt gn n l
theorem vR.up {C C' W W' : Nat → Int32} {c c' : Nat} {v : Int32} (hc : c ≤ c') (hW : ∀ j, j < c → W' j = W j) (hC : ∀ j k, j < c → k < 4 → C' (j * 4 + k) = C (j * 4 + k)) : ∀ {l : List vV}, vR C W c v l → vR C' W' c' v l
  | [], h => h
  | (_, _, _, _) :: _, ⟨i, h1, h2, h3, h4⟩ => ⟨i, by omega, h2, by rw [hW i h1]; exact h3, fun k hk => by rw [hC i k h1 hk]; exact h4 k hk⟩
theorem VN.clock {F W C Qf Qt : Nat → Int32} {gn c : Nat} {ck ck' : Int32} {n : Nat} {l : List vV} (h : VN F W C Qf Qt gn c ck n l) (hc : ck ≤ ck') : VN F W C Qf Qt gn c ck' n l := ⟨h.1, h.2.1.mono hc, h.2.2⟩
/-- rows written beyond c -/
theorem VN.ext {F F' W W' C C' Qf Qt : Nat → Int32} {gn c : Nat} {ck : Int32} {n : Nat} {l : List vV} (h : VN F W C Qf Qt gn c ck n l) (hF : ∀ j, j < c → F' j = F j ∧ W' j = W j) (hC : ∀ j k, j < c → k < 4 → C' (j * 4 + k) = C (j * 4 + k)) : VN F' W' C' Qf Qt gn c ck n l := by
  obtain ⟨h1, h2, h3, h4, h5, h6⟩ := h
  exact ⟨h1, h2, by rw [scV_ext c hF]; exact h3, fun k => by rw [tof_ext c 0 (-1) (-1) (fun j _ hj => hF j (by omega))]; exact h4 k, fun t => by rw [verL_ext c hF]; exact (h5 t).up (Nat.le_refl c) (fun j hj => (hF j hj).2) hC, h6⟩
/-- a change of another file, or of none -/
theorem VN.skip {F W C Qf Qt : Nat → Int32} {gn c : Nat} {ck : Int32} {n : Nat} {l : List vV} (h : VN F W C Qf Qt gn c ck n l) (hF : ¬ F c = nI n) (hw : ∀ j, j < c → 0 ≤ W j) : VN F W C Qf Qt gn (c + 1) ck n l := by
  obtain ⟨h1, h2, h3, h4, h5, h6⟩ := h
  refine ⟨h1, h2, ?_, fun k => ?_, fun t => ?_, h6⟩
  · unfold scV
    rw [if_neg (fun q => hF q.1)]
    exact h3
  · rw [tof_snoc c 0 (-1) (-1) (fun j _ hj => hw j (by omega)), h4 k, Nat.zero_add, if_neg (c := F c = nI n ∧ _) (fun q => hF q.1)]
    by_cases hk : vti l k = -1
    · rw [if_neg (fun q => q hk), hk]
    · rw [if_pos hk]
  · unfold verL
    rw [if_neg (fun q => hF q.1)]
    exact (h5 t).up (by omega) (fun j _ => rfl) (fun j k _ _ => rfl)
/-- a version more of file n, at the clock's time -/
theorem VN.add {F W C Qf Qt : Nat → Int32} {gn c : Nat} {ck : Int32} {n : Nat} {l : List vV} {cs : Nat → Int32} (h : VN F W C Qf Qt gn c ck n l) (hF : F c = nI n) (hW : W c = ck) (hw : ∀ j, j < c → 0 ≤ W j) (h0 : 0 ≤ ck) (hC : ∀ k, k < 4 → C (c * 4 + k) = cs k) (hl : l.length < 600) (hq : ∀ i, i < gn → ¬ Qt i = ck) : VN F W C Qf Qt gn (c + 1) ck n (if l.isEmpty = true then [(ck, 0, cs, 0)] else addV ck cs l) := by
  obtain ⟨h1, h2, h3, h4, h5, h6⟩ := h
  have hsn := fun k => tof_snoc (F := F) (W := W) (f := nI n) (k := k) c 0 (-1) (-1) (fun j _ hj => hw j (by omega))
  have hng : ¬ (ck, (0 : Int32)) = (ck, 1) := by simp
  have hg0 : ∀ x : Int32, ((0 : Int32) = 0 ∨ (0 : Int32) = 1) ∧ (¬ (0 : Int32) = 0 ↔ ∃ i, i < gn ∧ Qf i = nI n ∧ Qt i = ck) := fun x => ⟨Or.inl rfl, fun q => absurd rfl q, fun ⟨i, hi, _, e⟩ => absurd e (hq i hi)⟩
  cases l with
  | nil =>
    have h3 : scV F W (nI n) c = (-1, -1) := h3
    rw [if_pos (show ([] : List vV).isEmpty = true from rfl)]
    have hm : (-1 : Int32) < ck := by
      have h9 : (-1 : Int32) < 0 := by decide
      rw [Int32.lt_iff_toInt_lt] at h9 ⊢
      rw [Int32.le_iff_toInt_le] at h0
      omega
    refine ⟨⟨rfl, trivial⟩, ⟨h0, Int32.le_refl _, (fun e he => by cases he), trivial⟩, ?_, fun k => ?_, fun t => ?_, fun e he => ?_⟩
    · unfold scV
      rw [h3, if_pos ⟨hF, by rw [hW]; exact hm⟩, hW]
      rfl
    · rw [hsn k, show tof F W (nI n) k c 0 (-1) (-1) = -1 from h4 k, scF_V, h3, Nat.zero_add, hW, if_neg (c := ¬ (-1 : Int32) = -1) (fun q => q rfl)]
      show _ = if (0 : Int32) = k then ck else -1
      by_cases hk : (0 : Int32) = k
      · rw [if_pos hk, if_pos ⟨hF, hm, by rw [← hk]; decide⟩]
      · rw [if_neg hk, if_neg (fun q => hk (by rw [← q.2.2]; decide))]
    · unfold verL
      rw [hW]
      by_cases ht : t < ck
      · rw [if_neg (fun q => absurd q.2 (Int32.not_le.mpr ht))]
        simp only [vao]
        rw [if_pos ht]
        exact h5 t
      · rw [if_pos ⟨hF, Int32.not_lt.mp ht⟩]
        simp only [vao]
        rw [if_neg ht]
        exact ⟨c, by omega, rfl, hW, hC⟩
    · rcases List.mem_cons.mp he with rfl | he
      · exact hg0 0
      · cases he
  | cons q l =>
    obtain ⟨t1, x1, c1, g1⟩ := q
    have h3 : scV F W (nI n) c = (x1, t1) := h3
    have hl : l.length + 1 < 600 := by simpa using hl
    rw [if_neg (show ¬ ((t1, x1, c1, g1) :: l).isEmpty = true by simp)]
    simp only [addV]
    by_cases ht1 : t1 = ck
    · subst ht1
      rw [if_pos rfl]
      refine ⟨h1, h2, ?_, fun k => ?_, fun t => ?_, fun e he => ?_⟩
      · unfold scV
        rw [h3, if_neg (fun q => absurd q.2 (by rw [hW]; exact Int32.lt_irrefl))]
        rfl
      · rw [hsn k, h4 k, scF_V, h3, Nat.zero_add, hW, if_neg (fun q : F c = nI n ∧ t1 < t1 ∧ x1 + 1 = k => Int32.lt_irrefl q.2.1)]
        show _ = vti ((t1, x1, c1, g1) :: l) k
        by_cases hk : vti ((t1, x1, c1, g1) :: l) k = -1
        · rw [if_neg (fun q => q hk), hk]
        · rw [if_pos hk]
      · unfold verL
        rw [hW]
        by_cases ht : t < t1
        · rw [if_neg (fun q => absurd q.2 (Int32.not_le.mpr ht))]
          have h7 := h5 t
          simp only [vao] at h7 ⊢
          rw [if_pos ht] at h7 ⊢
          exact h7.up (by omega) (fun j _ => rfl) (fun j k _ _ => rfl)
        · rw [if_pos ⟨hF, Int32.not_lt.mp ht⟩]
          simp only [vao]
          rw [if_neg ht]
          exact ⟨c, by omega, rfl, hW, hC⟩
      · rcases List.mem_cons.mp he with rfl | he
        · exact hg0 0
        · exact h6 e (List.mem_cons_of_mem _ he)
    · rw [if_neg ht1]
      have hlt : t1 < ck := by
        have := h2.2.1
        rcases Int32.le_iff_lt_or_eq.mp this with q | q
        · exact q
        · exact absurd q ht1
      have hx : x1 + 1 = nI (l.length + 1) := by rw [h1.1, nI_1]
      refine ⟨⟨by rw [hx]; rfl, h1⟩, ⟨h0, Int32.le_refl _, fun e he => ?_, h2⟩, ?_, fun k => ?_, fun t => ?_, fun e he => ?_⟩
      · rcases List.mem_cons.mp he with rfl | he
        · exact hlt
        · exact Int32.lt_trans (h2.2.2.1 e he) hlt
      · unfold scV
        rw [h3, if_pos ⟨hF, by rw [hW]; exact hlt⟩, hW]
        rfl
      · rw [hsn k, h4 k, scF_V, h3, Nat.zero_add, hW]
        by_cases hk : x1 + 1 = k
        · have h8 : vti ((t1, x1, c1, g1) :: l) k = -1 := by
            rw [← hk, hx]
            exact vti_none h1 (by simp) (by omega)
          rw [h8, if_neg (fun q => q rfl), if_pos ⟨hF, hlt, hk⟩]
          show ck = if x1 + 1 = k then ck else _
          rw [if_pos hk]
        · rw [if_neg (c := F c = nI n ∧ _) (fun q => hk q.2.2)]
          show _ = if x1 + 1 = k then ck else vti ((t1, x1, c1, g1) :: l) k
          rw [if_neg hk]
          by_cases hz : vti ((t1, x1, c1, g1) :: l) k = -1
          · rw [if_neg (fun q => q hz), hz]
          · rw [if_pos hz]
      · unfold verL
        rw [hW]
        by_cases ht : t < ck
        · rw [if_neg (fun q => absurd q.2 (Int32.not_le.mpr ht))]
          show vR C W (c + 1) _ (if t < ck then vao ((t1, x1, c1, g1) :: l) t else _)
          rw [if_pos ht]
          exact (h5 t).up (by omega) (fun j _ => rfl) (fun j k _ _ => rfl)
        · rw [if_pos ⟨hF, Int32.not_lt.mp ht⟩]
          show vR C W (c + 1) _ (if t < ck then vao ((t1, x1, c1, g1) :: l) t else (ck, x1 + 1, cs, 0) :: (t1, x1, c1, g1) :: l)
          rw [if_neg ht]
          exact ⟨c, by omega, rfl, hW, hC⟩
      · rcases List.mem_cons.mp he with rfl | he
        · exact hg0 0
        · exact h6 e he
