theorem addV_len {ck : Int32} {cs : Nat → Int32} : ∀ (l : List vV), (addV ck cs l).length ≤ l.length + 1
  | [] => Nat.zero_le _
  | (t, x, c0, g) :: l => by
    simp only [addV]
    split <;> simp
theorem addV_cgn {ck : Int32} {cs : Nat → Int32} : ∀ (l : List vV), hd0 l → cgn (addV ck cs l) = cgn l
  | [], _ => rfl
  | (t, x, c0, g) :: l, h => by
    have h : g = 0 := h
    subst h
    simp only [addV]
    split <;> simp [cgn]
theorem addV_hd {ck : Int32} {cs : Nat → Int32} : ∀ (l : List vV), hd0 (addV ck cs l)
  | [] => trivial
  | (t, x, c0, g) :: l => by
    simp only [addV]
    split <;> exact rfl
theorem addV_ne {ck : Int32} {cs : Nat → Int32} : ∀ (l : List vV), l.isEmpty = false → (addV ck cs l).isEmpty = false
  | [], h => h
  | (t, x, c0, g) :: l, _ => by
    simp only [addV]
    split <;> rfl
section
variable {W S N U F K C Qf Qt : Nat → Int32} {gn c : Nat} {ck : Int32} {m : Nat} {sp : Nat → List (Int32 × Int32)} {vs : Nat → List vV}
/-- a version more -/
theorem RA.write {f1 : Nat} {nn : Int32} {cs C' : Nat → Int32} (h : RA W S N U F K C Qf Qt gn c ck m sp vs) (hc : c ≤ 512) (h0 : 0 ≤ ck) (hf : f1 < 24) (hne : (vs f1).isEmpty = false) (hC : ∀ j k, j < c → k < 4 → C' (j * 4 + k) = C (j * 4 + k)) (hCc : ∀ k, k < 4 → C' (c * 4 + k) = cs k) (hq : ∀ i, i < gn → ¬ Qt i = ck) :
    RA (upd W c ck) (upd S c (-1)) (upd N c nn) (upd U c (-1)) (upd F c (nI f1)) (upd K c 0) C' Qf Qt gn (c + 1) ck m sp (va_up vs f1 (addV ck cs (vs f1))) := by
  have hm := h.2.1.2
  have hlen := h.len hf
  have hx := RA.ext (W' := upd W c ck) (S' := upd S c (-1)) (N' := upd N c nn) (U' := upd U c (-1)) (F' := upd F c (nI f1)) (K' := upd K c 0) (C' := C') h (fun j hj => ⟨upd_lt j hj, upd_lt j hj, upd_lt j hj, upd_lt j hj, upd_lt j hj, upd_lt j hj⟩) hC
  obtain ⟨h1, h2, h3, h4, h5, h6, h7, h8, h9, h10⟩ := h
  obtain ⟨g1, g2, g3, g4, g5, g6, g7, g8, g9, g10⟩ := hx
  have hf0 : f1 ≠ 0 := fun e => by rw [e, h5.2.1] at hne; cases hne
  have hfm : f1 < m := by
    rcases Nat.lt_or_ge f1 m with q | q
    · exact q
    · rw [(h5.2.2 f1 q hf).2] at hne
      cases hne
  have hem : ∀ n, (va_up vs f1 (addV ck cs (vs f1)) n).isEmpty = (vs n).isEmpty := fun n => by
    by_cases hn : n = f1
    · subst hn
      rw [va_up_self, hne, addV_ne _ hne]
    · rw [va_up_ne _ _ hn]
  have hsl := sumL_up (vs := vs) (i := f1) (l := addV ck cs (vs f1)) 24
  have hsg := sumG_up (vs := vs) (i := f1) (l := addV ck cs (vs f1)) 24
  rw [if_pos hf, if_pos hf] at hsl hsg
  have hal := addV_len (ck := ck) (cs := cs) (vs f1)
  rw [addV_cgn _ (h7 f1 hf).2] at hsg
  refine ⟨lg_app h1 (Or.inl rfl) (Or.inl rfl), ⟨?_, h2.2⟩, fun n a b => ?_, fun t => rep_none h4 t, ⟨h5.1, ?_, fun n a b => ⟨(h5.2.2 n a b).1, ?_⟩⟩, h6, fun n hn => ?_, w0_app h8 h0, by omega, by omega⟩
  · unfold cntK
    rw [pk_us, if_pos rfl]
    exact g2.1
  · rw [hem n, kdL_snoc, g3 n a b, Nat.zero_add, pk_us, if_neg (c := ¬ (0 : Int32) = 0 ∧ _) (fun q => q.1 rfl)]
    by_cases e : (if n < m then (if (vs n).isEmpty = true then 1 else 2) else 0 : Int32) = 0
    · rw [if_pos e]
      exact e.symm
    · rw [if_neg e]
  · rw [va_up_ne _ _ (Ne.symm hf0)]
    exact h5.2.1
  · rw [va_up_ne _ _ (by omega)]
    exact (h5.2.2 n a b).2
  · by_cases hnf : n = f1
    · subst hnf
      rw [va_up_self]
      have hadd := (g7 n hn).1.add (cs := cs) (pk_us) (pk_us) g8 h0 hCc (by omega) hq
      rw [if_neg (by rw [hne]; decide)] at hadd
      exact ⟨hadd, addV_hd _⟩
    · rw [va_up_ne _ _ hnf]
      exact ⟨(g7 n hn).1.skip (by rw [pk_us]; exact fun e => hnf ((nI_eq (by omega) (by omega)).mp e).symm) g8, (h7 n hn).2⟩
/-- a node more -/
theorem RA.make {e0 : Nat} {b k f : Int32} {C' : Nat → Int32} (h : RA W S N U F K C Qf Qt gn c ck m sp vs) (hc : c ≤ 512) (h0 : 0 ≤ ck) (hm : m < 24) (he0 : e0 < 192) (hfr : ∀ n, 0 < n → n < 24 → ¬ plc (sp n) ck = nI e0) (hb : (b = 0 ∧ k = 2 ∧ f = nI m) ∨ (¬ b = 0 ∧ k = 1 ∧ f = -1)) (hC : ∀ j k, j < c → k < 4 → C' (j * 4 + k) = C (j * 4 + k)) (hCc : ∀ k, k < 4 → C' (c * 4 + k) = 0) (hq : ∀ i, i < gn → ¬ Qt i = ck) :
    RA (upd W c ck) (upd S c (nI e0)) (upd N c (nI m)) (upd U c (-1)) (upd F c f) (upd K c k) C' Qf Qt gn (c + 1) ck (m + 1) (va_up sp m ((ck, nI e0) :: sp m)) (if b = 0 then va_up vs m [(ck, 0, fun _ => 0, 0)] else vs) := by
  have hm1 := h.m1
  have hx := RA.ext (W' := upd W c ck) (S' := upd S c (nI e0)) (N' := upd N c (nI m)) (U' := upd U c (-1)) (F' := upd F c f) (K' := upd K c k) (C' := C') h (fun j hj => ⟨upd_lt j hj, upd_lt j hj, upd_lt j hj, upd_lt j hj, upd_lt j hj, upd_lt j hj⟩) hC
  obtain ⟨h1, h2, h3, h4, h5, h6, h7, h8, h9, h10⟩ := h
  obtain ⟨g1, g2, g3, g4, g5, g6, g7, g8, g9, g10⟩ := hx
  have hsm := h5.2.2 m (Nat.le_refl m) hm
  have hp : plcd (fun n => plc (sp n) ck) m (nI e0) (nI m) (-1) (nI e0) := Or.inl ⟨e0, he0, rfl, rfl, rfl, hfr, Or.inl ⟨rfl, by simp only [hsm.1]; rfl⟩⟩
  have hk0 : ¬ k = 0 := by
    rcases hb with ⟨-, e, -⟩ | ⟨-, e, -⟩ <;> rw [e] <;> decide
  have hvn : ∀ n, n ≠ m → (if b = 0 then va_up vs m [(ck, 0, fun _ => 0, 0)] else vs) n = vs n := fun n hn => by
    split
    · exact va_up_ne _ _ hn
    · rfl
  have hvm : ((if b = 0 then va_up vs m [(ck, 0, fun _ => 0, 0)] else vs) m) = if b = 0 then [(ck, 0, fun _ => 0, 0)] else [] := by
    split
    · exact va_up_self _ _ _
    · exact hsm.2
  refine ⟨lg_app h1 (Or.inr ⟨e0, he0, rfl⟩) (Or.inl rfl), ⟨?_, by omega⟩, fun n a b' => ?_, fun t => rep_place h4 h6.2 (by omega) hm hp t, ⟨?_, ?_, fun n a b' => ⟨?_, ?_⟩⟩, sp_app h6 (Or.inr ⟨e0, he0, rfl⟩), fun n hn => ?_, w0_app h8 h0, ?_, ?_⟩
  · unfold cntK
    rw [pk_us, if_neg hk0]
    have := g2.1
    omega
  · rw [kdL_snoc, g3 n a b', Nat.zero_add, pk_us, pk_us]
    rcases Nat.lt_trichotomy n m with q | q | q
    · have ne : ¬ (if n < m then (if (vs n).isEmpty = true then 1 else 2) else 0 : Int32) = 0 := by
        rw [if_pos q]
        split <;> decide
      rw [if_neg ne, if_pos q, hvn n (by omega), if_pos (show n < m + 1 by omega)]
    · subst q
      have e : (if n < n then (if (vs n).isEmpty = true then 1 else 2) else 0 : Int32) = 0 := if_neg (Nat.lt_irrefl n)
      rw [if_pos e, if_pos ⟨hk0, rfl⟩, if_pos (show n < n + 1 by omega), hvm]
      rcases hb with ⟨e1, e2, -⟩ | ⟨e1, e2, -⟩
      · rw [if_pos e1, e2]
        rfl
      · rw [if_neg e1, e2]
        rfl
    · have e : (if n < m then (if (vs n).isEmpty = true then 1 else 2) else 0 : Int32) = 0 := if_neg (by omega)
      rw [if_pos e, if_neg (fun hh => absurd ((nI_eq (by omega) (by omega)).mp hh.2) (by omega)), if_neg (show ¬ n < m + 1 by omega)]
  · rw [va_up_ne _ _ (by omega)]
    exact h5.1
  · rw [hvn 0 (by omega)]
    exact h5.2.1
  · rw [va_up_ne _ _ (by omega)]
    exact (h5.2.2 n (by omega) b').1
  · rw [hvn n (by omega)]
    exact (h5.2.2 n (by omega) b').2
  · by_cases hnm : n = m
    · subst hnm
      rw [hvm]
      rcases hb with ⟨e1, e2, e3⟩ | ⟨e1, e2, e3⟩
      · rw [if_pos e1]
        have hg := (g7 n hn).1
        rw [hsm.2, e3] at hg
        have hadd := hg.add (cs := fun _ => 0) pk_us pk_us g8 h0 hCc (by simp) hq
        rw [if_pos (show ([] : List vV).isEmpty = true from rfl)] at hadd
        exact ⟨by rw [e3]; exact hadd, rfl⟩
      · rw [if_neg e1]
        have hg := (g7 n hn).1
        rw [hsm.2] at hg
        exact ⟨hg.skip (by rw [pk_us, e3]; exact fun e => nI_m1 (by omega) e.symm) g8, trivial⟩
    · rw [hvn n hnm]
      refine ⟨(g7 n hn).1.skip ?_ g8, (h7 n hn).2⟩
      rw [pk_us]
      rcases hb with ⟨-, -, e3⟩ | ⟨-, -, e3⟩
      · rw [e3]
        exact fun e => hnm ((nI_eq (by omega) (by omega)).mp e).symm
      · rw [e3]
        exact fun e => nI_m1 (by omega) e.symm
  · split
    · have hsl := sumL_up (vs := vs) (i := m) (l := [(ck, 0, fun _ => 0, 0)]) 24
      rw [if_pos hm, if_pos hm, hsm.2] at hsl
      simp only [List.length_cons, List.length_nil] at hsl
      omega
    · omega
  · split
    · have hsg := sumG_up (vs := vs) (i := m) (l := [(ck, 0, fun _ => 0, 0)]) 24
      rw [if_pos hm, if_pos hm, hsm.2] at hsg
      rw [show cgn [(ck, (0 : Int32), fun _ => (0 : Int32), (0 : Int32))] = 0 from by simp [cgn], show cgn [] = 0 from rfl] at hsg
      omega
    · exact h10
end
