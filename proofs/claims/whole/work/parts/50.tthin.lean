theorem drp_len (lim gp : Int32) : ∀ (f : Int32) (l : List vV), (drp lim gp f l).length = l.length
  | _, [] => rfl
  | _, (t, _, _, _) :: l => by
    unfold drp
    simp only [List.length_cons]
    rw [drp_len lim gp t l]
theorem drp_cgn (lim gp : Int32) : ∀ (f : Int32) (l : List vV), cgn (drp lim gp f l) = cgn l + drc lim gp f l
  | _, [] => rfl
  | f, (t, x, cs, g) :: l => by
    have ih := drp_cgn lim gp t l
    simp only [drp, drc, cgn]
    rw [ih]
    by_cases h : f < lim ∧ f - t ≤ gp ∧ g = 0
    · rw [if_pos h, if_pos h, if_neg (by decide), if_pos h.2.2]
      omega
    · rw [if_neg h, if_neg h]
      omega
theorem drp_idx (lim gp : Int32) : ∀ (f : Int32) (l : List vV), idxO l → idxO (drp lim gp f l)
  | _, [], _ => trivial
  | _, (t, x, cs, g) :: l, h => ⟨by rw [drp_len]; exact h.1, drp_idx lim gp t l h.2⟩
theorem drp_mem (lim gp : Int32) : ∀ (f : Int32) (l : List vV) (e : vV), e ∈ drp lim gp f l → ∃ e' ∈ l, e.1 = e'.1
  | _, [], e, h => by cases h
  | f, (t, x, cs, g) :: l, e, h => by
    rcases List.mem_cons.mp h with rfl | h
    · exact ⟨_, List.mem_cons_self, rfl⟩
    · obtain ⟨e', h1, h2⟩ := drp_mem lim gp t l e h
      exact ⟨e', List.mem_cons_of_mem _ h1, h2⟩
theorem drp_tm (lim gp : Int32) {ck : Int32} : ∀ (f : Int32) (l : List vV), tmO ck l → tmO ck (drp lim gp f l)
  | _, [], _ => trivial
  | _, (t, x, cs, g) :: l, h => ⟨h.1, h.2.1, (fun e he => by
      obtain ⟨e', h1, h2⟩ := drp_mem lim gp t l e he
      rw [h2]
      exact h.2.2.1 e' h1), drp_tm lim gp t l h.2.2.2⟩
theorem drp_vti (lim gp : Int32) (k : Int32) : ∀ (f : Int32) (l : List vV), vti (drp lim gp f l) k = vti l k
  | _, [] => rfl
  | _, (t, x, cs, g) :: l => by
    simp only [drp, vti]
    rw [drp_vti lim gp k t l]
theorem drp_vR (lim gp : Int32) {C W : Nat → Int32} {c : Nat} {v t : Int32} : ∀ (f : Int32) (l : List vV), vR C W c v (vao l t) → vR C W c v (vao (drp lim gp f l) t)
  | _, [], h => h
  | _, (u, x, cs, g) :: l, h => by
    simp only [drp, vao] at h ⊢
    by_cases hu : t < u
    · rw [if_pos hu] at h ⊢
      exact drp_vR lim gp u l h
    · rw [if_neg hu] at h ⊢
      exact h
theorem vti_at : ∀ (pre : List vV) (e : vV) (suf : List vV), idxO (pre ++ e :: suf) → (pre ++ e :: suf).length < 2 ^ 31 → vti (pre ++ e :: suf) (nI suf.length) = e.1
  | [], (t, x, cs, g), suf, h, hl => by
    show (if x = nI suf.length then t else _) = t
    rw [if_pos h.1]
  | (t, x, cs, g) :: pre, e, suf, h, hl => by
    have hl' : (pre ++ e :: suf).length + 1 < 2 ^ 31 := hl
    have h1 : x = nI (pre ++ e :: suf).length := h.1
    have h3 : (pre ++ e :: suf).length = pre.length + (suf.length + 1) := by simp
    show (if x = nI suf.length then t else vti (pre ++ e :: suf) (nI suf.length)) = e.1
    rw [if_neg (fun q => by
      rw [h1] at q
      have := (nI_eq (by omega) (by omega)).mp q
      omega)]
    exact vti_at pre e suf h.2 (by omega)
theorem tm_at {ck : Int32} : ∀ (pre : List vV) (e : vV) (suf : List vV), tmO ck (pre ++ e :: suf) → (∀ x ∈ suf, x.1 < e.1) ∧ (∀ x ∈ pre, e.1 < x.1)
  | [], (t, x, cs, g), suf, h => ⟨h.2.2.1, (fun x hx => by cases hx)⟩
  | (t, x, cs, g) :: pre, e, suf, h => by
    obtain ⟨h1, h2⟩ := tm_at pre e suf h.2.2.2
    refine ⟨h1, fun y hy => ?_⟩
    rcases List.mem_cons.mp hy with rfl | hy
    · exact h.2.2.1 e (by simp)
    · exact h2 y hy
theorem drc_ge (lim gp : Int32) : ∀ (pre : List vV) (f : Int32) (e : vV) (suf : List vV), drc lim gp e.1 suf ≤ drc lim gp f (pre ++ e :: suf)
  | [], f, (t, x, cs, g), suf => by
    show drc lim gp t suf ≤ _ + drc lim gp t suf
    omega
  | (t, x, cs, g) :: pre, f, e, suf => by
    have := drc_ge lim gp pre t e suf
    show _ ≤ _ + drc lim gp t (pre ++ e :: suf)
    omega
theorem thinC_ge (lim gp : Int32) : ∀ (pre : List vV) (e : vV) (suf : List vV), drc lim gp e.1 suf ≤ thinC lim gp (pre ++ e :: suf)
  | [], (t, x, cs, g), suf => Nat.le_refl _
  | (t, x, cs, g) :: pre, e, suf => drc_ge lim gp pre t e suf
/-- the rows of what is gone, once the versions suf of file f1 have been gone through -/
def gI (Qf Qt Qf' Qt' : Nat → Int32) (gn gn' f1 : Nat) (lim gp : Int32) (f : Int32) (suf : List vV) : Prop :=
  (∀ i, i < gn → Qf' i = Qf i ∧ Qt' i = Qt i) ∧ (∀ i, gn ≤ i → i < gn' → Qf' i = nI f1 ∧ ∃ e ∈ suf, Qt' i = e.1) ∧ gR Qf' Qt' gn' f1 (drp lim gp f suf) ∧ gn' = gn + drc lim gp f suf
theorem gI_0 (Qf Qt : Nat → Int32) (gn f1 : Nat) (lim gp f : Int32) : gI Qf Qt Qf Qt gn gn f1 lim gp f [] := ⟨fun _ _ => ⟨rfl, rfl⟩, fun i h1 h2 => absurd h2 (by omega), (fun e he => by cases he), rfl⟩
theorem gI_fl {Qf Qt Qf' Qt' : Nat → Int32} {gn gn' f1 : Nat} {lim gp f : Int32} {suf : List vV} (h : gI Qf Qt Qf' Qt' gn gn' f1 lim gp f suf) {e : vV} (he : (e.2.2.2 = 0 ∨ e.2.2.2 = 1) ∧ (¬ e.2.2.2 = 0 ↔ ∃ i, i < gn ∧ Qf i = nI f1 ∧ Qt i = e.1)) (hs : ∀ x ∈ suf, x.1 < e.1) : (e.2.2.2 = 0 ∨ e.2.2.2 = 1) ∧ (¬ e.2.2.2 = 0 ↔ ∃ i, i < gn' ∧ Qf' i = nI f1 ∧ Qt' i = e.1) := by
  refine ⟨he.1, he.2.trans ⟨?_, ?_⟩⟩
  · rintro ⟨i, h1, h2, h3⟩
    obtain ⟨q1, q2⟩ := h.1 i h1
    exact ⟨i, by have := h.2.2.2; omega, by rw [q1]; exact h2, by rw [q2]; exact h3⟩
  · rintro ⟨i, h1, h2, h3⟩
    rcases Nat.lt_or_ge i gn with q | q
    · obtain ⟨q1, q2⟩ := h.1 i q
      exact ⟨i, q, by rw [← q1]; exact h2, by rw [← q2]; exact h3⟩
    · obtain ⟨-, x, hx, hx2⟩ := h.2.1 i q h1
      have := hs x hx
      rw [← hx2, h3] at this
      exact absurd this Int32.lt_irrefl
theorem gI_keep {Qf Qt Qf' Qt' : Nat → Int32} {gn gn' f1 : Nat} {lim gp f : Int32} {suf : List vV} {t x g : Int32} {cs : Nat → Int32} (h : gI Qf Qt Qf' Qt' gn gn' f1 lim gp t suf) (hf : (g = 0 ∨ g = 1) ∧ (¬ g = 0 ↔ ∃ i, i < gn' ∧ Qf' i = nI f1 ∧ Qt' i = t)) (hn : ¬ (f < lim ∧ f - t ≤ gp ∧ g = 0)) : gI Qf Qt Qf' Qt' gn gn' f1 lim gp f ((t, x, cs, g) :: suf) := by
  refine ⟨h.1, fun i h1 h2 => ⟨(h.2.1 i h1 h2).1, ?_⟩, fun e he => ?_, ?_⟩
  · obtain ⟨e, he, h3⟩ := (h.2.1 i h1 h2).2
    exact ⟨e, List.mem_cons_of_mem _ he, h3⟩
  · unfold drp at he
    rw [if_neg hn] at he
    rcases List.mem_cons.mp he with rfl | he
    · exact hf
    · exact h.2.2.1 e he
  · simp only [drc]
    rw [if_neg hn]
    have := h.2.2.2
    omega
theorem gI_go {Qf Qt Qf' Qt' : Nat → Int32} {gn gn' f1 : Nat} {lim gp f : Int32} {suf : List vV} {t x g : Int32} {cs : Nat → Int32} (h : gI Qf Qt Qf' Qt' gn gn' f1 lim gp t suf) (hs : ∀ x ∈ suf, x.1 < t) (hn : f < lim ∧ f - t ≤ gp ∧ g = 0) : gI Qf Qt (upd Qf' gn' (nI f1)) (upd Qt' gn' t) gn (gn' + 1) f1 lim gp f ((t, x, cs, g) :: suf) := by
  have hg := h.2.2.2
  refine ⟨fun i hi => ?_, fun i h1 h2 => ?_, fun e he => ?_, ?_⟩
  · rw [upd_lt i (by omega), upd_lt i (by omega)]
    exact h.1 i hi
  · rcases Nat.lt_or_ge i gn' with q | q
    · rw [upd_lt i q, upd_lt i q]
      obtain ⟨h3, e, he, h4⟩ := h.2.1 i h1 q
      exact ⟨h3, e, List.mem_cons_of_mem _ he, h4⟩
    · rw [show i = gn' by omega, pk_us, pk_us]
      exact ⟨rfl, _, List.mem_cons_self, rfl⟩
  · unfold drp at he
    rw [if_pos hn] at he
    rcases List.mem_cons.mp he with rfl | he
    · exact ⟨Or.inr rfl, fun _ => ⟨gn', by omega, pk_us, pk_us⟩, fun _ => (by decide : ¬ (1 : Int32) = 0)⟩
    · obtain ⟨h3, h4⟩ := h.2.2.1 e he
      refine ⟨h3, h4.trans ⟨?_, ?_⟩⟩
      · rintro ⟨i, h5, h6, h7⟩
        exact ⟨i, by omega, by rw [upd_lt i h5]; exact h6, by rw [upd_lt i h5]; exact h7⟩
      · rintro ⟨i, h5, h6, h7⟩
        rcases Nat.lt_or_ge i gn' with q | q
        · rw [upd_lt i q] at h6 h7
          exact ⟨i, q, h6, h7⟩
        · rw [show i = gn' by omega, pk_us] at h7
          obtain ⟨e', h8, h9⟩ := drp_mem lim gp t suf e he
          have := hs e' h8
          rw [← h9, ← h7] at this
          exact absurd this Int32.lt_irrefl
  · simp only [drc]
    rw [if_pos hn]
    omega
/-- what thin leaves -/
theorem RA.thin {W S N U F K C Qf Qt : Nat → Int32} {gn c : Nat} {ck : Int32} {m : Nat} {sp : Nat → List (Int32 × Int32)} {vs : Nat → List vV} {Qf' Qt' : Nat → Int32} {gn' f1 : Nat} {lim gp t1 x1 g1 : Int32} {c1 : Nat → Int32} {l1 : List vV} (h : RA W S N U F K C Qf Qt gn c ck m sp vs) (hf : f1 < 24) (hl : vs f1 = (t1, x1, c1, g1) :: l1) (hG : gI Qf Qt Qf' Qt' gn gn' f1 lim gp t1 l1) : RA W S N U F K C Qf' Qt' gn' c ck m sp (va_up vs f1 (thinV lim gp (vs f1))) := by
  have hm := h.2.1.2
  obtain ⟨h1, h2, h3, h4, h5, h6, h7, h8, h9, h10⟩ := h
  have hf0 : f1 ≠ 0 := fun e => by rw [e, h5.2.1] at hl; cases hl
  have hfm : f1 < m := by
    rcases Nat.lt_or_ge f1 m with q | q
    · exact q
    · rw [(h5.2.2 f1 q hf).2] at hl
      cases hl
  have htv : thinV lim gp (vs f1) = (t1, x1, c1, g1) :: drp lim gp t1 l1 := by rw [hl]; rfl
  rw [htv]
  have hem : ∀ n, (va_up vs f1 ((t1, x1, c1, g1) :: drp lim gp t1 l1) n).isEmpty = (vs n).isEmpty := fun n => by
    by_cases hn : n = f1
    · subst hn
      rw [va_up_self, hl]
      rfl
    · rw [va_up_ne _ _ hn]
  have hsl := sumL_up (vs := vs) (i := f1) (l := (t1, x1, c1, g1) :: drp lim gp t1 l1) 24
  have hsg := sumG_up (vs := vs) (i := f1) (l := (t1, x1, c1, g1) :: drp lim gp t1 l1) 24
  rw [if_pos hf, if_pos hf, hl] at hsl hsg
  simp only [List.length_cons, drp_len, cgn, drp_cgn] at hsl hsg
  have hgn := hG.2.2.2
  refine ⟨h1, h2, fun n a b => by rw [hem n]; exact h3 n a b, h4, ⟨h5.1, ?_, fun n a b => ⟨(h5.2.2 n a b).1, ?_⟩⟩, h6, fun n hn => ?_, h8, by omega, by omega⟩
  · rw [va_up_ne _ _ (Ne.symm hf0)]
    exact h5.2.1
  · rw [va_up_ne _ _ (by omega)]
    exact (h5.2.2 n a b).2
  · by_cases hnf : n = f1
    · subst hnf
      rw [va_up_self]
      have hv := h7 n hn
      rw [hl] at hv
      obtain ⟨⟨v1, v2, v3, v4, v5, v6⟩, v7⟩ := hv
      refine ⟨⟨⟨by rw [drp_len]; exact v1.1, drp_idx _ _ _ _ v1.2⟩, ⟨v2.1, v2.2.1, (fun e he => by
        obtain ⟨e', q1, q2⟩ := drp_mem lim gp t1 l1 e he
        rw [q2]
        exact v2.2.2.1 e' q1), drp_tm _ _ _ _ v2.2.2.2⟩, v3, fun k => ?_, fun t => ?_, fun e he => ?_⟩, v7⟩
      · rw [v4 k]
        simp only [vti]
        rw [drp_vti]
      · have q := v5 t
        simp only [vao] at q ⊢
        by_cases ht : t < t1
        · rw [if_pos ht] at q ⊢
          exact drp_vR _ _ _ _ q
        · rw [if_neg ht] at q ⊢
          exact q
      · rcases List.mem_cons.mp he with rfl | he
        · exact gI_fl hG (v6 _ List.mem_cons_self) v2.2.2.1
        · exact hG.2.2.1 e he
    · rw [va_up_ne _ _ hnf]
      obtain ⟨⟨v1, v2, v3, v4, v5, v6⟩, v7⟩ := h7 n hn
      refine ⟨⟨v1, v2, v3, v4, v5, fun e he => ⟨(v6 e he).1, (v6 e he).2.trans ⟨?_, ?_⟩⟩⟩, v7⟩
      · rintro ⟨i, q1, q2, q3⟩
        obtain ⟨r1, r2⟩ := hG.1 i q1
        exact ⟨i, by omega, by rw [r1]; exact q2, by rw [r2]; exact q3⟩
      · rintro ⟨i, q1, q2, q3⟩
        rcases Nat.lt_or_ge i gn with q | q
        · obtain ⟨r1, r2⟩ := hG.1 i q
          exact ⟨i, q, by rw [← r1]; exact q2, by rw [← r2]; exact q3⟩
        · rw [(hG.2.1 i q q1).1] at q2
          exact absurd ((nI_eq (by omega) (by omega)).mp q2).symm hnf
theorem gn_thin {W S N U F K C Qf Qt : Nat → Int32} {gn c : Nat} {ck : Int32} {m : Nat} {sp : Nat → List (Int32 × Int32)} {vs : Nat → List vV} {f1 : Nat} {lim gp : Int32} (h : RA W S N U F K C Qf Qt gn c ck m sp vs) (hf : f1 < 24) : gn + thinC lim gp (vs f1) ≤ c := by
  obtain ⟨h1, h2, h3, h4, h5, h6, h7, h8, h9, h10⟩ := h
  have hsl := sumL_up (vs := vs) (i := f1) (l := thinV lim gp (vs f1)) 24
  have hsg := sumG_up (vs := vs) (i := f1) (l := thinV lim gp (vs f1)) 24
  have hle := sumG_le (va_up vs f1 (thinV lim gp (vs f1))) 24
  rw [if_pos hf, if_pos hf] at hsl hsg
  have e1 : (thinV lim gp (vs f1)).length = (vs f1).length ∧ cgn (thinV lim gp (vs f1)) = cgn (vs f1) + thinC lim gp (vs f1) := by
    cases vs f1 with
    | nil => exact ⟨rfl, rfl⟩
    | cons q l =>
      obtain ⟨t, x, cs, g⟩ := q
      constructor
      · simp only [thinV, List.length_cons, drp_len]
      · simp only [thinV, thinC, cgn, drp_cgn]
        omega
  omega
set_option maxRecDepth 20000 in
set_option maxHeartbeats 1000000 in
theorem ct_T_sync2 {l : Launch} {D : va_G} {tys : List (ClassId × FieldType)} {M : mM} {cI cB cN : ClassId} {t0 : Nat} {ad : Nat → Nat} {W S N U F K C Qf Qt E R : Nat → Int32} {w g ck dk : Int32} {c d gn : Nat} (hT : TI M cI cB t0 ad W S N U F K C Qf Qt E R w g ck dk c d gn) : Ct_T_sync l D tys 0 0 [.ref t0] M (fun v M1 => v = some (.int (nI c)) ∧ TI M1 cI cB t0 ad W S N U F K C Qf Qt E R w g ck ck c c gn) := by
  refine Ct.of (cc := c_T_sync) (maxL := 1) (ret := (some (.int))) (L0 := [some (.ref t0)]) (by decide) (by intro v hv; simp only [List.mem_cons, List.not_mem_nil, or_false] at hv; rcases hv with rfl <;> first | rfl | exact mRf_cat (mRf_rf _)) (by simp) rfl ?_
  intro z ws0 hl hD ht X1 X2
  subst hl; subst hD; subst ht
  have X := And.intro X1 X2
  clear X1 X2
  have hT0 := hT
  obtain ⟨hO, tW, tS, tN, tU, tF, tK, tC, tGF, tGT, tE, tR, tI⟩ := hT
  refine i_T_sync_0 X (h := ?_)
  refine i_T_sync_1 X (h := ?_)
  refine i_T_sync_2 X (hM := by assumption) (h := ?_)
  refine i_T_sync_5 X (hM := by assumption) (h := ?_)
  refine i_T_sync_8 X (h := ?_)
  refine i_T_sync_9 X (h := ?_)
  refine i_T_sync_10 X (hM := mS_self _ _ _) (h := ?_)
  refine i_T_sync_13 X (hM := mS_self _ _ _) (h := ?_)
  refine i_T_sync_16 X (h := ?_)
  refine i_T_sync_17 X (hM := mS_self _ _ _) (h := ?_)
  exact i_T_sync_20 X (hk := by omega) (hn := by omega) (hp := ⟨rfl, by
      simp only [mS_mS]
      exact TI.obj hT0 c c gn ck ck⟩)
set_option maxRecDepth 20000 in
set_option maxHeartbeats 2000000 in
theorem lp_T_thin {z : zT} {ws0 : va_W} {mc ms : Nat} {cI cB cN : ClassId} {t0 : Nat} {ad : Nat → Nat} {W S N U F K C Qf Qt E R : Nat → Int32} {w g ck dk : Int32} {c d gn : Nat} (G : GT z cI cB cN) (hc : c ≤ 512) {f1 : Nat} {kq : Int32} {ll : List vV} (hl : ll.length ≤ 512) (hV : VN F W C Qf Qt gn c kq f1 ll) (hgt : gn + thinC (ck - w) g ll ≤ 512) {l2 : Option Value} {Post : Option Value → mM → Prop} (hPost : ∀ (Qf' Qt' : Nat → Int32) (gn' : Nat) (t1 x1 g1 : Int32) (c1 : Nat → Int32) (l1 : List vV) (M1 : mM), ll = (t1, x1, c1, g1) :: l1 → gI Qf Qt Qf' Qt' gn gn' f1 (ck - w) g t1 l1 → TI M1 cI cB t0 ad W S N U F K C Qf' Qt' E R w g ck dk c d gn' → Post (some (.int (nI (thinC (ck - w) g ll)))) M1) (X : B_T_thin z ws0 mc ms Post) : ∀ (rp : List vV) (e : vV) (suf : List vV) (M : mM) (Qf' Qt' : Nat → Int32) (gn' : Nat) (l6 l7 : Option Value), ll = rp.reverse ++ e :: suf → TI M cI cB t0 ad W S N U F K C Qf' Qt' E R w g ck dk c d gn' → gI Qf Qt Qf' Qt' gn gn' f1 (ck - w) g e.1 suf → RN z 37 [some (.ref t0), some (.int (nI f1)), l2, some (.int (nI (drc (ck - w) g e.1 suf))), some (.int (nI ll.length)), some (.int (nI suf.length)), l6, l7] [] M 0 0 := by
  intro rp
  induction rp with
  | nil =>
    intro e suf M Qf' Qt' gn' l6 l7 he hT hG
    have he : ll = e :: suf := he
    have hlen : ll.length = suf.length + 1 := by rw [he]; rfl
    have hT0 := hT
    obtain ⟨hO, tW, tS, tN, tU, tF, tK, tC, tGF, tGT, tE, tR, tI⟩ := hT
    obtain ⟨t, x, cs, gg⟩ := e
    refine i_T_thin_37 X (h := ?_)
    refine i_T_thin_39 X (h := ?_)
    refine i_T_thin_40 X (h := ?_)
    refine i_T_thin_41 X (h := ?_)
    refine i_T_thin_43 X (h1 := fun c43 => ?_) (h2 := fun c43 => ?_)
    · skip
      refine i_T_thin_142 X (h := ?_)
      exact i_T_thin_143 X (hk := by omega) (hn := by omega) (hp := by
        have hp := hPost Qf' Qt' gn' t x gg cs suf _ he hG hT0
        rw [show thinC (ck - w) g ll = drc (ck - w) g t suf from by rw [he]; rfl] at hp
        exact hp)
    · skip
      rw [nI_1] at c43
      exact absurd (nI_le (by omega) (by omega)) c43 --end
  | cons e1 rp ih =>
    intro e suf M Qf' Qt' gn' l6 l7 he hT hG
    have he2 : ll = rp.reverse ++ e1 :: (e :: suf) := by rw [he, List.reverse_cons, List.append_assoc]; rfl
    have hlen : ll.length = rp.length + (suf.length + 2) := by rw [he2]; simp
    have hT0 := hT
    obtain ⟨hO, tW, tS, tN, tU, tF, tK, tC, tGF, tGT, tE, tR, tI⟩ := hT
    have hv1 : vti ll (nI suf.length) = e.1 := by rw [he]; exact vti_at _ _ _ (by rw [← he]; exact hV.1) (by rw [← he]; omega)
    have hv2 : vti ll (nI suf.length + 1) = e1.1 := by rw [nI_1, he2]; exact vti_at _ _ (e :: suf) (by rw [← he2]; exact hV.1) (by rw [← he2]; omega)
    have htm := (tm_at (ck := kq) (e1 :: rp).reverse e suf (by rw [← he]; exact hV.2.1)).1
    have hmem : e ∈ ll := by rw [he]; simp
    have hfl := gI_fl hG (hV.2.2.2.2.2 e hmem) htm
    have htot := thinC_ge (ck - w) g rp.reverse e1 (e :: suf)
    rw [← he2] at htot
    have htot0 := thinC_ge (ck - w) g (e1 :: rp).reverse e suf
    rw [← he] at htot0
    have hgn := hG.2.2.2
    obtain ⟨t, x, cs, gg⟩ := e
    obtain ⟨t1, x1, cs1, gg1⟩ := e1
    refine i_T_thin_37 X (h := ?_)
    refine i_T_thin_39 X (h := ?_)
    refine i_T_thin_40 X (h := ?_)
    refine i_T_thin_41 X (h := ?_)
    refine i_T_thin_43 X (h1 := fun c43 => ?_) (h2 := fun c43 => ?_)
    · skip
      rw [nI_1] at c43
      exact absurd c43 (nI_ge (a := suf.length + 1) (b := ll.length) (by omega) (by omega)) --end
    · skip
      refine i_T_thin_46 X (h := ?_)
      refine i_T_thin_47 X (h := ?_)
      refine i_T_thin_48 X (h := ?_)
      refine i_T_thin_50 X (hM := by assumption) (hC := ct_T_timeOf G hT0 hc (nI f1) (nI suf.length)) (hk := by omega) (hn := by omega) (h := fun v50 M50 hp50 => ?_)
      obtain ⟨rfl, rfl⟩ := hp50
      rw [hV.2.2.2.1, hv1]
      refine i_T_thin_53 X (h := ?_)
      refine i_T_thin_55 X (h := ?_)
      refine i_T_thin_56 X (h := ?_)
      refine i_T_thin_57 X (h := ?_)
      refine i_T_thin_59 X (h := ?_)
      refine i_T_thin_60 X (h := ?_)
      refine i_T_thin_61 X (hM := by assumption) (hC := ct_T_timeOf G hT0 hc (nI f1) (nI suf.length + 1)) (hk := by omega) (hn := by omega) (h := fun v61 M61 hp61 => ?_)
      obtain ⟨rfl, rfl⟩ := hp61
      rw [hV.2.2.2.1, hv2]
      refine i_T_thin_64 X (h := ?_)
      refine i_T_thin_66 X (h := ?_)
      refine i_T_thin_67 X (h := ?_)
      refine i_T_thin_68 X (h := ?_)
      refine i_T_thin_70 X (hM := by assumption) (hC := ct_T_isGone G hT0 (by omega) (nI f1) t) (hk := by omega) (hn := by omega) (h := fun v70 M70 hp70 => ?_)
      obtain ⟨b1, rfl, hb1, rfl⟩ := hp70
      refine i_T_thin_73 X (h1 := fun c73 => ?_) (h2 := fun c73 => ?_)
      · skip
        have f73 : ¬ gg = 0 := hfl.2.mpr (hb1.mp (bI_ne0 c73))
        refine i_T_thin_136 X (h := ?_)
        refine i_T_thin_139 X (h := ?_)
        rw [nI_1]
        have hcond : ¬ (t1 < ck - w ∧ t1 - t ≤ g ∧ gg = 0) := fun q => f73 q.2.2
        have hG2 := gI_keep (x := x) (cs := cs) hG hfl hcond
        have hdr : drc (ck - w) g t1 ((t, x, cs, gg) :: suf) = drc (ck - w) g t suf := by
          simp only [drc]
          rw [if_neg hcond]
          omega
        have hih := ih (t1, x1, cs1, gg1) ((t, x, cs, gg) :: suf) _ _ _ _ (some (.int t)) (some (.int t1)) he2 hT0 hG2
        rw [show drc (ck - w) g (t1, x1, cs1, gg1).1 ((t, x, cs, gg) :: suf) = drc (ck - w) g t suf from hdr] at hih
        exact hih
      · skip
        have f73 : gg = 0 := by
          by_cases q : gg = 0
          · exact q
          · exact absurd (hb1.mpr (hfl.2.mp q)) (bI_eq0 c73)
        refine i_T_thin_76 X (h := ?_)
        refine i_T_thin_78 X (h := ?_)
        refine i_T_thin_79 X (hM := by assumption) (h := ?_)
        refine i_T_thin_82 X (h := ?_)
        refine i_T_thin_83 X (hM := by assumption) (h := ?_)
        refine i_T_thin_86 X (h := ?_)
        refine i_T_thin_87 X (h1 := fun c87 => ?_) (h2 := fun c87 => ?_)
        · skip
          refine i_T_thin_136 X (h := ?_)
          refine i_T_thin_139 X (h := ?_)
          rw [nI_1]
          have hcond : ¬ (t1 < ck - w ∧ t1 - t ≤ g ∧ gg = 0) := fun q => absurd q.1 (Int32.not_lt.mpr c87)
          have hG2 := gI_keep (x := x) (cs := cs) hG hfl hcond
          have hdr : drc (ck - w) g t1 ((t, x, cs, gg) :: suf) = drc (ck - w) g t suf := by
            simp only [drc]
            rw [if_neg hcond]
            omega
          have hih := ih (t1, x1, cs1, gg1) ((t, x, cs, gg) :: suf) _ _ _ _ (some (.int t)) (some (.int t1)) he2 hT0 hG2
          rw [show drc (ck - w) g (t1, x1, cs1, gg1).1 ((t, x, cs, gg) :: suf) = drc (ck - w) g t suf from hdr] at hih
          exact hih
        · skip
          refine i_T_thin_90 X (h := ?_)
          refine i_T_thin_92 X (h := ?_)
          refine i_T_thin_94 X (h := ?_)
          refine i_T_thin_95 X (h := ?_)
          refine i_T_thin_96 X (hM := by assumption) (h := ?_)
          refine i_T_thin_99 X (h1 := fun c99 => ?_) (h2 := fun c99 => ?_)
          · skip
            refine i_T_thin_136 X (h := ?_)
            refine i_T_thin_139 X (h := ?_)
            rw [nI_1]
            have hcond : ¬ (t1 < ck - w ∧ t1 - t ≤ g ∧ gg = 0) := fun q => absurd q.2.1 (Int32.not_le.mpr c99)
            have hG2 := gI_keep (x := x) (cs := cs) hG hfl hcond
            have hdr : drc (ck - w) g t1 ((t, x, cs, gg) :: suf) = drc (ck - w) g t suf := by
              simp only [drc]
              rw [if_neg hcond]
              omega
            have hih := ih (t1, x1, cs1, gg1) ((t, x, cs, gg) :: suf) _ _ _ _ (some (.int t)) (some (.int t1)) he2 hT0 hG2
            rw [show drc (ck - w) g (t1, x1, cs1, gg1).1 ((t, x, cs, gg) :: suf) = drc (ck - w) g t suf from hdr] at hih
            exact hih
          · skip
            have hdr0 : drc (ck - w) g t1 ((t, x, cs, gg) :: suf) = 1 + drc (ck - w) g t suf := by
              simp only [drc]
              rw [if_pos ⟨Int32.not_le.mp c87, Int32.not_lt.mp c99, f73⟩]
            have htot2 : 1 + drc (ck - w) g t suf ≤ thinC (ck - w) g ll := by rw [← hdr0]; exact htot
            have hgn2 : gn' = gn + drc (ck - w) g t suf := hgn
            refine i_T_thin_102 X (h := ?_)
            refine i_T_thin_103 X (hM := by assumption) (h := ?_)
            refine i_T_thin_106 X (h := ?_)
            refine i_T_thin_107 X (hM := by assumption) (h := ?_)
            refine i_T_thin_110 X (h := ?_)
            refine i_T_thin_111 X G (hM := by assumption) (hx := rfl) (hj := by omega) (h := ?_)
            have hT1 := TI.u7 hT0 (upd Qf' gn' (nI f1))
            have hx1 := hT1
            obtain ⟨hO1, tW1, tS1, tN1, tU1, tF1, tK1, tC1, tGF1, tGT1, tE1, tR1, tI1⟩ := hx1
            refine i_T_thin_112 X (h := ?_)
            refine i_T_thin_113 X (hM := by assumption) (h := ?_)
            refine i_T_thin_116 X (h := ?_)
            refine i_T_thin_117 X (hM := by assumption) (h := ?_)
            refine i_T_thin_120 X (h := ?_)
            refine i_T_thin_122 X G (hM := by assumption) (hx := rfl) (hj := by omega) (h := ?_)
            have hT2 := TI.u8 hT1 (upd Qt' gn' t)
            have hx2 := hT2
            obtain ⟨hO2, tW2, tS2, tN2, tU2, tF2, tK2, tC2, tGF2, tGT2, tE2, tR2, tI2⟩ := hx2
            refine i_T_thin_123 X (h := ?_)
            refine i_T_thin_124 X (h := ?_)
            refine i_T_thin_125 X (hM := by assumption) (h := ?_)
            refine i_T_thin_128 X (h := ?_)
            refine i_T_thin_129 X (h := ?_)
            refine i_T_thin_130 X (hM := by assumption) (h := ?_)
            refine i_T_thin_133 X (h := ?_)
            refine i_T_thin_136 X (h := ?_)
            refine i_T_thin_139 X (h := ?_)
            rw [nI_1, nI_1, nI_1]
            have hcond : t1 < ck - w ∧ t1 - t ≤ g ∧ gg = 0 := ⟨Int32.not_le.mp c87, Int32.not_lt.mp c99, f73⟩
            have hG2 := gI_go (x := x) (cs := cs) hG htm hcond
            have hT3 := TI.obj hT2 c d (gn' + 1) ck dk
            have hdr : drc (ck - w) g t1 ((t, x, cs, gg) :: suf) = drc (ck - w) g t suf + 1 := by
              simp only [drc]
              rw [if_pos hcond]
              omega
            have hih := ih (t1, x1, cs1, gg1) ((t, x, cs, gg) :: suf) _ _ _ _ (some (.int t)) (some (.int t1)) he2 hT3 hG2
            rw [show drc (ck - w) g (t1, x1, cs1, gg1).1 ((t, x, cs, gg) :: suf) = drc (ck - w) g t suf + 1 from hdr] at hih
            exact hih
set_option maxRecDepth 20000 in
set_option maxHeartbeats 1000000 in
theorem ct_T_thin {l : Launch} {D : va_G} {tys : List (ClassId × FieldType)} {M : mM} {cI cB cN : ClassId} {t0 J : Nat} {w g ck ch dc dh ev : Int32} {m dm : Nat} {sp ds : Nat → List (Int32 × Int32)} {vs dv : Nat → List vV} (G : tys[0]? = some (cI, .int) ∧ tys[1]? = some (cB, .boolean) ∧ tys[2]? = some (cN, .object RX0)) (hS : TS M cI cB t0 J ((w, g), (ck, m, ch), (dc, dm, dh), ev, sp, vs, ds, dv)) (hJ : J < 512) (f : Int32) : Ct_T_thin l D tys 0 0 [.ref t0, .int f] M (fun v M1 => ∃ r s1, F_thin ((w, g), (ck, m, ch), (dc, dm, dh), ev, sp, vs, ds, dv) f = (r, s1) ∧ v = some (.int r) ∧ TS M1 cI cB t0 (J + 1) s1) := by
  refine Ct.of (cc := c_T_thin) (maxL := 8) (ret := (some (.int))) (L0 := [some (.ref t0), some (.int f), none, none, none, none, none, none]) (by decide) (by intro v hv; simp only [List.mem_cons, List.not_mem_nil, or_false] at hv; rcases hv with rfl | rfl <;> first | rfl | exact mRf_cat (mRf_rf _)) (by simp) rfl ?_
  intro z ws0 hl hD ht X1 X2
  subst hl; subst hD; subst ht
  have X := And.intro X1 X2
  clear X1 X2
  obtain ⟨ad, W, S, N, U, F, K, C, Qf, Qt, E, R, c, d, gn, hT, hA, hB, hcd, hev, hck, hqt, hwg⟩ := hS
  obtain ⟨rfl, rfl, hdc⟩ := hcd
  obtain ⟨e, rfl, hce, heJ⟩ := hev
  obtain ⟨kc, kd, rfl, rfl, hkd, hkc⟩ := hck
  have hT0 := hT
  obtain ⟨hO, tW, tS, tN, tU, tF, tK, tC, tGF, tGT, tE, tR, tI⟩ := hT
  have hm := hA.2.1.2
  have hc5 : c ≤ 512 := by omega
  refine i_T_thin_0 X (h := ?_)
  refine i_T_thin_1 X (h := ?_)
  refine i_T_thin_3 X (hC := ct_T_isin f 24) (hk := by omega) (hn := by omega) (h := fun v3 M3 hp3 => ?_)
  obtain ⟨rfl, rfl⟩ := hp3
  refine i_T_thin_6 X (h1 := fun c6 => ?_) (h2 := fun c6 => ?_)
  · skip
    have f6 := bI_eq0 c6
    refine i_T_thin_18 X (h := ?_)
    exact i_T_thin_19 X (hk := by omega) (hn := by omega) (hp := ⟨_, _, by simp only [F_thin]; rw [if_neg (fun h => f6 ((kd_fi hA).mpr h).1)], rfl, TS.of (hT0) hA hB ⟨rfl, rfl, hdc⟩ ⟨e, rfl, hce, by omega⟩ ⟨kc, kd, rfl, rfl, hkd, by omega⟩ hqt hwg⟩)
  · skip
    have f6 := bI_ne0 c6
    refine i_T_thin_9 X (h := ?_)
    refine i_T_thin_10 X (h := ?_)
    refine i_T_thin_11 X (hM := by assumption) (hC := ct_T_kind G hT0 hc5 f) (hk := by omega) (hn := by omega) (h := fun v11 M11 hp11 => ?_)
    obtain ⟨rfl, rfl⟩ := hp11
    refine i_T_thin_14 X (h := ?_)
    refine i_T_thin_15 X (h1 := fun c15 => ?_) (h2 := fun c15 => ?_)
    · skip
      have g4 := (kd_fi hA).mp ⟨f6, c15⟩
      obtain ⟨f1, hf1, rfl⟩ := ix_of (m := 24) f6 (by decide)
      have hcl := nI_clamp (n := f1) (by omega)
      have hV := (hA.2.2.2.2.2.2.1 f1 hf1).1
      have hnv := hA.nv (by omega) hf1
      have hlen := hA.len hf1
      have hne := g4.2
      rw [hcl] at hne
      have hgt := gn_thin (lim := nI kc - w) (gp := g) hA hf1
      refine i_T_thin_20 X (h := ?_)
      refine i_T_thin_21 X (hM := by assumption) (hC := ct_T_sync2 (cN := cN) hT0) (hk := by omega) (hn := by omega) (h := fun v21 M21 hp21 => ?_)
      obtain ⟨rfl, hT1⟩ := hp21
      have hx1 := hT1
      obtain ⟨hO1, tW1, tS1, tN1, tU1, tF1, tK1, tC1, tGF1, tGT1, tE1, tR1, tI1⟩ := hx1
      refine i_T_thin_24 X (h := ?_)
      refine i_T_thin_25 X (h := ?_)
      refine i_T_thin_26 X (h := ?_)
      refine i_T_thin_27 X (h := ?_)
      refine i_T_thin_28 X (h := ?_)
      refine i_T_thin_29 X (hM := by assumption) (hC := ct_T_versions G hT1 hc5 hnv.1 hnv.2) (hk := by omega) (hn := by omega) (h := fun v29 M29 hp29 => ?_)
      obtain ⟨rfl, rfl⟩ := hp29
      refine i_T_thin_32 X (h := ?_)
      refine i_T_thin_34 X (h := ?_)
      refine i_T_thin_35 X (h := ?_)
      obtain ⟨e0, l0, hes⟩ : ∃ e0 l0, vs f1 = l0 ++ [e0] := ⟨(vs f1).getLast (fun q => by rw [q] at hne; cases hne), (vs f1).dropLast, (List.dropLast_concat_getLast _).symm⟩
      refine lp_T_thin G hc5 (by omega) hV (by omega) (fun Qf' Qt' gn' t1 x1 g1 c1 l1 M1 hll hG hT2 => ?_) X l0.reverse e0 [] _ Qf Qt gn none none (by rw [List.reverse_reverse]; exact hes) hT1 (gI_0 _ _ _ _ _ _ _)
      have hA2 := RA.thin hA hf1 hll hG
      have htm := hV.2.1
      rw [hll] at htm
      refine ⟨nI (thinC (nI kc - w) g (vs f1)), _, by simp only [F_thin]; rw [if_pos g4, hcl], rfl, TS.of hT2 hA2 hA2 ⟨rfl, rfl, Nat.le_refl c⟩ ⟨e, rfl, hce, by omega⟩ ⟨kc, kc, rfl, rfl, Nat.le_refl kc, by omega⟩ (fun i hi => ?_) hwg⟩
      rcases Nat.lt_or_ge i gn with q | q
      · rw [(hG.1 i q).2]
        exact Int32.lt_of_lt_of_le (hqt i q) (nI_le hkd (by omega))
      · obtain ⟨-, x, hx, hx2⟩ := hG.2.1 i q hi
        rw [hx2]
        exact Int32.lt_of_lt_of_le (htm.2.2.1 x hx) htm.2.1
    · skip
      refine i_T_thin_18 X (h := ?_)
      exact i_T_thin_19 X (hk := by omega) (hn := by omega) (hp := ⟨_, _, by simp only [F_thin]; rw [if_neg (fun h => c15 ((kd_fi hA).mpr h).2)], rfl, TS.of (hT0) hA hB ⟨rfl, rfl, hdc⟩ ⟨e, rfl, hce, by omega⟩ ⟨kc, kd, rfl, rfl, hkd, by omega⟩ hqt hwg⟩)
