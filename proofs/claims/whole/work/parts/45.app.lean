theorem kdL_snoc {K N : Nat → Int32} {x : Int32} : ∀ (n i : Nat), kdL K N x (n + 1) i = if kdL K N x n i = 0 then (if ¬ K (i + n) = 0 ∧ N (i + n) = x then K (i + n) else 0) else kdL K N x n i
  | 0, i => by
    show (if ¬ K i = 0 ∧ N i = x then K i else 0) = if (0 : Int32) = 0 then (if ¬ K i = 0 ∧ N i = x then K i else 0) else 0
    rw [if_pos (c := (0 : Int32) = 0) rfl]
  | n + 1, i => by
    rw [kdL]
    conv => rhs; rw [kdL]
    by_cases h1 : ¬ K i = 0 ∧ N i = x
    · simp only [if_pos h1]
      rw [if_neg h1.1]
    · simp only [if_neg h1]
      rw [kdL_snoc n (i + 1), show i + 1 + n = i + (n + 1) by omega]
theorem kdL_ext {K K' N N' : Nat → Int32} {x : Int32} : ∀ (n i : Nat), (∀ j, i ≤ j → j < i + n → K' j = K j ∧ N' j = N j) → kdL K' N' x n i = kdL K N x n i
  | 0, _, _ => rfl
  | n + 1, i, h => by
    obtain ⟨h1, h2⟩ := h i (Nat.le_refl i) (by omega)
    unfold kdL
    rw [h1, h2, kdL_ext n (i + 1) (fun j h3 h4 => h j (by omega) (by omega))]
theorem cntK_ext {K K' : Nat → Int32} : ∀ (c : Nat), (∀ j, j < c → K' j = K j) → cntK K' c = cntK K c
  | 0, _ => rfl
  | c + 1, h => by
    unfold cntK
    rw [cntK_ext c (fun j hj => h j (by omega)), h c (by omega)]
theorem upd_lt {f : Nat → Int32} {c : Nat} {v : Int32} : ∀ j, j < c → upd f c v j = f j := fun j hj => pk_un (by omega)
theorem sumL_up {vs : Nat → List vV} {i : Nat} {l : List vV} : ∀ n, (sumL (va_up vs i l) n + (if i < n then (vs i).length else 0)) = sumL vs n + (if i < n then l.length else 0)
  | 0 => rfl
  | n + 1 => by
    have ih := sumL_up (vs := vs) (i := i) (l := l) n
    unfold sumL
    by_cases hi : n = i
    · subst hi
      rw [va_up_self, if_pos (by omega), if_pos (by omega)]
      rw [if_neg (by omega), if_neg (by omega)] at ih
      omega
    · rw [va_up_ne _ _ hi]
      by_cases hl : i < n
      · rw [if_pos hl, if_pos hl] at ih
        rw [if_pos (by omega), if_pos (by omega)]
        omega
      · rw [if_neg hl, if_neg hl] at ih
        rw [if_neg (by omega), if_neg (by omega)]
        omega
theorem sumG_up {vs : Nat → List vV} {i : Nat} {l : List vV} : ∀ n, (sumG (va_up vs i l) n + (if i < n then cgn (vs i) else 0)) = sumG vs n + (if i < n then cgn l else 0)
  | 0 => rfl
  | n + 1 => by
    have ih := sumG_up (vs := vs) (i := i) (l := l) n
    unfold sumG
    by_cases hi : n = i
    · subst hi
      rw [va_up_self, if_pos (by omega), if_pos (by omega)]
      rw [if_neg (by omega), if_neg (by omega)] at ih
      omega
    · rw [va_up_ne _ _ hi]
      by_cases hl : i < n
      · rw [if_pos hl, if_pos hl] at ih
        rw [if_pos (by omega), if_pos (by omega)]
        omega
      · rw [if_neg hl, if_neg hl] at ih
        rw [if_neg (by omega), if_neg (by omega)]
        omega
/-- what a placing does: set, move, or take away -/
def plcd (q : Nat → Int32) (n0 : Nat) (s nn u p : Int32) : Prop :=
  (∃ e0, e0 < 192 ∧ s = nI e0 ∧ nn = nI n0 ∧ p = nI e0 ∧ (∀ n, 0 < n → n < 24 → ¬ q n = nI e0) ∧ ((u = -1 ∧ q n0 = -1) ∨ ∃ u0, u0 < 192 ∧ u = nI u0 ∧ q n0 = nI u0)) ∨ (s = -1 ∧ p = -1 ∧ ∃ u0, u0 < 192 ∧ u = nI u0 ∧ q n0 = nI u0)
theorem m1_lt : (-1 : Int32) < 0 := by decide
theorem eR_ap {E q : Nat → Int32} {S N U : Nat → Int32} {c n0 : Nat} {p : Int32} (h : eR E q) (h0 : 0 < n0) (hn : n0 < 24) (hp : plcd q n0 (S c) (N c) (U c) p) : eR (apE S N U c E) (va_up q n0 p) := by
  have uu : ∀ (v : Int32), va_up (va_up q n0 (-1)) n0 v = va_up q n0 v := fun v => bx_uu q n0 (-1) v
  unfold apE
  rcases hp with ⟨e0, he0, h1, h2, h3, h4, h5⟩ | ⟨h1, h3, u0, hu0, h6, h7⟩
  · rw [if_neg (by rw [h1]; exact nI_pos (by omega)), h1, nI_clamp (by omega), h2, h3]
    rcases h5 with ⟨h6, h7⟩ | ⟨u0, hu0, h6, h7⟩
    · rw [if_pos (by rw [h6]; exact m1_lt)]
      exact eR_set h h0 hn he0 h7 h4
    · rw [if_neg (by rw [h6]; exact nI_pos (by omega)), h6, nI_clamp (by omega), ← uu]
      refine eR_set (eR_unset h h0 hn hu0 h7) h0 hn he0 (va_up_self _ _ _) (fun n hn0 hn1 hh => ?_)
      by_cases hnn : n = n0
      · subst hnn
        rw [va_up_self] at hh
        exact nI_m1 (by omega) hh.symm
      · rw [va_up_ne _ _ hnn] at hh
        exact h4 n hn0 hn1 hh
  · rw [if_pos (by rw [h1]; exact m1_lt), if_neg (by rw [h6]; exact nI_pos (by omega)), h6, nI_clamp (by omega), h3]
    exact eR_unset h h0 hn hu0 h7
/-- entries and places behind a placing, as of any time -/
theorem rep_place {W S N U : Nat → Int32} {c n0 : Nat} {ck s nn u p : Int32} {sp : Nat → List (Int32 × Int32)} (h : ∀ t, eR (rep W S N U t c) (fun n => plc (sp n) t)) (h6 : ∀ n, n < 24 → ∀ e ∈ sp n, e.1 ≤ ck) (h0 : 0 < n0) (hn : n0 < 24) (hp : plcd (fun n => plc (sp n) ck) n0 s nn u p) (t : Int32) :
    eR (rep (upd W c ck) (upd S c s) (upd N c nn) (upd U c u) t (c + 1)) (fun n => plc (va_up sp n0 ((ck, p) :: sp n0) n) t) := by
  have hx : rep (upd W c ck) (upd S c s) (upd N c nn) (upd U c u) t c = rep W S N U t c := rep_ext c (fun i hi => ⟨upd_lt i hi, upd_lt i hi, upd_lt i hi, upd_lt i hi⟩)
  unfold rep
  rw [hx, pk_us]
  by_cases hct : ck ≤ t
  · rw [if_pos hct]
    have hq : ∀ n, n < 24 → plc (sp n) t = plc (sp n) ck := fun n hn => plc_ge _ (h6 n hn) hct
    have hE : eR (rep W S N U t c) (fun n => plc (sp n) ck) := eR_cg (h t) (fun _ _ => rfl) (fun n _ hn => (hq n hn).symm)
    refine eR_cg (eR_ap (S := upd S c s) (N := upd N c nn) (U := upd U c u) (c := c) hE h0 hn (p := p) (by rw [pk_us, pk_us, pk_us]; exact hp)) (fun _ _ => rfl) (fun n hn0 hn1 => ?_)
    by_cases hnn : n = n0
    · subst hnn
      rw [va_up_self, va_up_self]
      simp only [plc]
      rw [if_neg (Int32.not_lt.mpr hct)]
    · rw [va_up_ne _ _ hnn, va_up_ne _ _ hnn]
      exact hq n hn1
  · rw [if_neg hct]
    refine eR_cg (h t) (fun _ _ => rfl) (fun n hn0 hn1 => ?_)
    by_cases hnn : n = n0
    · subst hnn
      rw [va_up_self]
      simp only [plc]
      rw [if_pos (Int32.not_le.mp hct)]
    · rw [va_up_ne _ _ hnn]
theorem rep_none {W S N U : Nat → Int32} {c : Nat} {ck nn : Int32} {sp : Nat → List (Int32 × Int32)} (h : ∀ t, eR (rep W S N U t c) (fun n => plc (sp n) t)) (t : Int32) :
    eR (rep (upd W c ck) (upd S c (-1)) (upd N c nn) (upd U c (-1)) t (c + 1)) (fun n => plc (sp n) t) := by
  have hx : rep (upd W c ck) (upd S c (-1)) (upd N c nn) (upd U c (-1)) t c = rep W S N U t c := rep_ext c (fun i hi => ⟨upd_lt i hi, upd_lt i hi, upd_lt i hi, upd_lt i hi⟩)
  unfold rep
  rw [hx, pk_us]
  split
  · unfold apE
    rw [pk_us, pk_us, if_pos m1_lt, if_pos m1_lt]
    exact h t
  · exact h t
theorem lg_app {S U : Nat → Int32} {c : Nat} {s u : Int32} (h : lgOk S U c) (hs : s = -1 ∨ ∃ q, q < 192 ∧ s = nI q) (hu : u = -1 ∨ ∃ q, q < 192 ∧ u = nI q) : lgOk (upd S c s) (upd U c u) (c + 1) := fun i hi => by
  by_cases hic : i = c
  · subst hic
    rw [pk_us, pk_us]
    exact ⟨hu.imp (fun e => by rw [e]; exact m1_lt) id, hs.imp (fun e => by rw [e]; exact m1_lt) id⟩
  · rw [pk_un hic, pk_un hic]
    exact h i (by omega)
theorem plcd_lg {q : Nat → Int32} {n0 : Nat} {s nn u p : Int32} (h : plcd q n0 s nn u p) : (s = -1 ∨ ∃ q, q < 192 ∧ s = nI q) ∧ (u = -1 ∨ ∃ q, q < 192 ∧ u = nI q) ∧ (p = -1 ∨ ∃ q, q < 192 ∧ p = nI q) := by
  rcases h with ⟨e0, he0, h1, h2, h3, h4, h5⟩ | ⟨h1, h3, u0, hu0, h6, h7⟩
  · exact ⟨Or.inr ⟨e0, he0, h1⟩, h5.imp (fun h => h.1) (fun ⟨u0, a, b, _⟩ => ⟨u0, a, b⟩), Or.inr ⟨e0, he0, h3⟩⟩
  · exact ⟨Or.inl h1, Or.inr ⟨u0, hu0, h6⟩, Or.inl h3⟩
theorem sp_app {sp : Nat → List (Int32 × Int32)} {ck p : Int32} {n0 : Nat} (h : spOk sp ∧ ∀ n, n < 24 → ∀ e ∈ sp n, e.1 ≤ ck) (hp : p = -1 ∨ ∃ q, q < 192 ∧ p = nI q) : spOk (va_up sp n0 ((ck, p) :: sp n0)) ∧ ∀ n, n < 24 → ∀ e ∈ va_up sp n0 ((ck, p) :: sp n0) n, e.1 ≤ ck := by
  constructor
  · intro n hn e he
    by_cases hnn : n = n0
    · subst hnn
      rw [va_up_self] at he
      rcases List.mem_cons.mp he with rfl | he
      · exact hp
      · exact h.1 n hn e he
    · rw [va_up_ne _ _ hnn] at he
      exact h.1 n hn e he
  · intro n hn e he
    by_cases hnn : n = n0
    · subst hnn
      rw [va_up_self] at he
      rcases List.mem_cons.mp he with rfl | he
      · exact Int32.le_refl _
      · exact h.2 n hn e he
    · rw [va_up_ne _ _ hnn] at he
      exact h.2 n hn e he
theorem w0_app {W : Nat → Int32} {c : Nat} {ck : Int32} (h : ∀ j, j < c → 0 ≤ W j) (h0 : 0 ≤ ck) : ∀ j, j < c + 1 → 0 ≤ upd W c ck j := fun j hj => by
  by_cases hjc : j = c
  · subst hjc
    rw [pk_us]
    exact h0
  · rw [pk_un hjc]
    exact h j (by omega)
section
variable {W S N U F K C Qf Qt : Nat → Int32} {gn c : Nat} {ck : Int32} {m : Nat} {sp : Nat → List (Int32 × Int32)} {vs : Nat → List vV}
/-- rows beyond c don't matter -/
theorem RA.ext {W' S' N' U' F' K' C' : Nat → Int32} (h : RA W S N U F K C Qf Qt gn c ck m sp vs) (he : ∀ j, j < c → W' j = W j ∧ S' j = S j ∧ N' j = N j ∧ U' j = U j ∧ F' j = F j ∧ K' j = K j) (hC : ∀ j k, j < c → k < 4 → C' (j * 4 + k) = C (j * 4 + k)) : RA W' S' N' U' F' K' C' Qf Qt gn c ck m sp vs := by
  obtain ⟨h1, h2, h3, h4, h5, h6, h7, h8, h9⟩ := h
  refine ⟨fun i hi => by rw [(he i hi).2.1, (he i hi).2.2.2.1]; exact h1 i hi, ⟨by rw [cntK_ext c (fun j hj => (he j hj).2.2.2.2.2)]; exact h2.1, h2.2⟩, fun n hn0 hn => by rw [kdL_ext c 0 (fun j _ hj => ⟨(he j (by omega)).2.2.2.2.2, (he j (by omega)).2.2.1⟩)]; exact h3 n hn0 hn, fun t => by rw [rep_ext c (fun i hi => ⟨(he i hi).1, (he i hi).2.1, (he i hi).2.2.1, (he i hi).2.2.2.1⟩)]; exact h4 t, h5, h6, fun n hn => ⟨(h7 n hn).1.ext (fun j hj => ⟨(he j hj).2.2.2.2.1, (he j hj).1⟩) hC, (h7 n hn).2⟩, fun j hj => by rw [(he j hj).1]; exact h8 j hj, h9⟩
/-- a change of places alone -/
theorem RA.place {n0 : Nat} {s nn u p : Int32} (h : RA W S N U F K C Qf Qt gn c ck m sp vs) (h0 : 0 ≤ ck) (hn0 : 0 < n0) (hnm : n0 < m) (hp : plcd (fun n => plc (sp n) ck) n0 s nn u p) : RA (upd W c ck) (upd S c s) (upd N c nn) (upd U c u) (upd F c (-1)) (upd K c 0) C Qf Qt gn (c + 1) ck m (va_up sp n0 ((ck, p) :: sp n0)) vs := by
  have hm := h.2.1.2
  have hx := RA.ext (W' := upd W c ck) (S' := upd S c s) (N' := upd N c nn) (U' := upd U c u) (F' := upd F c (-1)) (K' := upd K c 0) (C' := C) h (fun j hj => ⟨upd_lt j hj, upd_lt j hj, upd_lt j hj, upd_lt j hj, upd_lt j hj, upd_lt j hj⟩) (fun _ _ _ _ => rfl)
  obtain ⟨h1, h2, h3, h4, h5, h6, h7, h8, h9, h10⟩ := h
  obtain ⟨g1, g2, g3, g4, g5, g6, g7, g8, g9, g10⟩ := hx
  have hl := plcd_lg hp
  refine ⟨lg_app h1 hl.1 hl.2.1, ⟨?_, h2.2⟩, fun n a b => ?_, fun t => rep_place h4 h6.2 hn0 (by omega) hp t, ⟨?_, h5.2.1, fun n a b => ?_⟩, sp_app h6 hl.2.2, fun n hn => ⟨(g7 n hn).1.skip (by rw [pk_us]; exact fun e => nI_m1 (by omega) e.symm) g8, (h7 n hn).2⟩, w0_app h8 h0, by omega, h10⟩
  · unfold cntK
    rw [pk_us, if_pos rfl]
    exact g2.1
  · rw [kdL_snoc, g3 n a b, Nat.zero_add, pk_us, if_neg (c := ¬ (0 : Int32) = 0 ∧ _) (fun q => q.1 rfl)]
    by_cases e : (if n < m then (if (vs n).isEmpty = true then 1 else 2) else 0 : Int32) = 0
    · rw [if_pos e]
      exact e.symm
    · rw [if_neg e]
  · rw [va_up_ne _ _ (by omega)]
    exact h5.1
  · rw [va_up_ne _ _ (by omega)]
    exact h5.2.2 n a b
end
