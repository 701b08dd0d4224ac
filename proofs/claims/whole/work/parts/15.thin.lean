theorem nod_split {pr suf : List vV} {t x : Int32} {cs : Nat → Int32} {gn : Int32} (h : ((pr ++ (t, x, cs, gn) :: suf).map (fun e => e.2.1)).Nodup) : (∀ e ∈ pr, e.2.1 ≠ x) ∧ ∀ e ∈ suf, e.2.1 ≠ x := by
  rw [List.map_append, List.map_cons, List.nodup_append] at h
  obtain ⟨h1, h2, h3⟩ := h
  refine ⟨fun e he => h3 _ (List.mem_map_of_mem he) _ List.mem_cons_self, fun e he q => ?_⟩
  have hm : e.2.1 ∈ suf.map (fun e => e.2.1) := List.mem_map_of_mem (f := fun e : vV => e.2.1) he
  rw [q] at hm
  exact (List.nodup_cons.mp h2).1 hm
def thinV (lim gp : Int32) : List vV → List vV
  | [] => []
  | (t, x, cs, gn) :: l => (t, x, cs, gn) :: drp lim gp t l
def thinC (lim gp : Int32) : List vV → Nat
  | [] => 0
  | (t, _, _, _) :: l => drc lim gp t l
set_option maxRecDepth 20000 in
set_option maxHeartbeats 2000000 in
theorem lp_P_dropThinned {z : zT} {ws0 : va_W} {mc ms : Nat} {cI cB cN : ClassId} {h0 na pa : Nat} {nd ow : Nat → Nat} {sr vr dr er : Nat → Option Nat} {pl : Nat → Int32} {w g ck mk ch dc dm dh ev : Int32} {sp ds : Nat → List (Int32 × Int32)} {vs dv : Nat → List vV} (G : GT z cI cB cN) {i : Nat} (hi : i < 24) (her : er i = vr i) {fin : List vV} {tot : Nat} {l1 : Option Value}
    (X : B_P_dropThinned z ws0 mc ms (fun v M1 => v = some (.int (nI tot)) ∧ IC M1 cI cN h0 na pa nd ow sr vr dr er pl w g ck mk ch dc dm dh ev sp ds (va_up vs i fin) (va_up dv i fin))) : ∀ (suf pr : List vV) (M : mM) (k : Nat) (r : Option Nat) (fo : Nat) (f : Int32) (f1 f2 f3 f4 : Value) (l5 l6 : Option Value), IC M cI cN h0 na pa nd ow sr vr dr er pl w g ck mk ch dc dm dh ev sp ds (va_up vs i (pr ++ suf)) (va_up dv i (pr ++ suf)) → seg M cI ow i (vr i) pr r → vrc M cI ow i r suf → M fo = some (.inr (2, [.int f, f1, f2, f3, f4])) → ((pr ++ suf).map (fun e => e.2.1)).Nodup → fin = pr ++ drp (ck - w) g f suf → tot = k + drc (ck - w) g f suf → RN z 10 [some (.ref h0), l1, some (.int (nI k)), some (.ref fo), some (va_rf r), l5, l6] [] M 0 0 := by
  intro suf
  induction suf with
  | nil =>
    intro pr M k r fo f f1 f2 f3 f4 l5 l6 hI hs hr hfo hnd hf ht
    have hr : r = none := hr
    subst hr
    simp only [drp, drc, List.append_nil] at hf ht hI
    refine i_P_dropThinned_10 X (h := ?_)
    refine i_P_dropThinned_12 X (h1 := fun c12 => ?_) (h2 := fun q12 c12 => ?_)
    · skip
      refine i_P_dropThinned_102 X (h := ?_)
      exact i_P_dropThinned_103 X (hk := by omega) (hn := by omega) (hp := ⟨by rw [ht]; rfl, by rw [hf]; exact hI⟩)
    · skip
      exact absurd c12 (by simp [va_rf]) --end
  | cons q suf ih =>
    intro pr M k r fo f f1 f2 f3 f4 l5 l6 hI hs hr hfo hnd hf ht
    obtain ⟨t, x, cs, gn⟩ := q
    have hr0 := hr
    obtain ⟨a, ca, b, rfl, hw, ha, hca, hb⟩ := hr
    obtain ⟨hx1, hx2⟩ := nod_split hnd
    have hI0 := hI
    obtain ⟨hO, hNa, hPa, hNd, hNi⟩ := hI
    refine i_P_dropThinned_10 X (h := ?_)
    refine i_P_dropThinned_12 X (h1 := fun c12 => ?_) (h2 := fun q12 c12 => ?_)
    · skip
      exact absurd c12 (by simp [va_rf]) --end
    · skip
      refine i_P_dropThinned_15 X (h := ?_)
      refine i_P_dropThinned_16 X (hM := by assumption) (h := ?_)
      refine i_P_dropThinned_19 X (h := ?_)
      refine i_P_dropThinned_20 X (hM := by assumption) (h := ?_)
      refine i_P_dropThinned_23 X (h := ?_)
      refine i_P_dropThinned_24 X (hM := by assumption) (h := ?_)
      refine i_P_dropThinned_27 X (h := ?_)
      refine i_P_dropThinned_28 X (h1 := fun c28 => ?_) (h2 := fun c28 => ?_)
      · skip
        refine i_P_dropThinned_35 X (h := ?_)
        refine i_P_dropThinned_36 X (h := ?_)
        refine i_P_dropThinned_38 X (h := ?_)
        refine i_P_dropThinned_39 X (hM := by assumption) (h := ?_)
        refine i_P_dropThinned_42 X (h := ?_)
        refine i_P_dropThinned_44 X (hM := ha) (h := ?_)
        refine i_P_dropThinned_47 X (h := ?_)
        refine i_P_dropThinned_48 X (h := ?_)
        refine i_P_dropThinned_49 X (hM := by assumption) (h := ?_)
        refine i_P_dropThinned_52 X (h1 := fun c52 => ?_) (h2 := fun c52 => ?_)
        · skip
          refine i_P_dropThinned_59 X (h := ?_)
          refine i_P_dropThinned_60 X (h := ?_)
          refine i_P_dropThinned_62 X (h := ?_)
          refine i_P_dropThinned_64 X (h1 := fun _ => ?_) (h2 := fun c => absurd rfl c)
          refine i_P_dropThinned_89 X (h := ?_)
          refine i_P_dropThinned_91 X (h := ?_)
          refine i_P_dropThinned_92 X (h := ?_)
          refine i_P_dropThinned_94 X (hM := by first | exact ha | exact mS_self _ _ _) (h := ?_)
          refine i_P_dropThinned_97 X (h := ?_)
          refine i_P_dropThinned_99 X (h := ?_)
          have hc : ¬ (f < ck - w ∧ f - t ≤ g ∧ gn = 0) := by
            clear X ih
            intro hh
            first | exact absurd hh.1 (Int32.not_lt.mpr c28) | exact absurd hh.2.1 (Int32.not_le.mpr c52) | exact c77 hh.2.2
          exact ih (pr ++ [(t, x, cs, gn)]) _ k b a t _ _ _ _ _ _ (by rw [List.append_assoc]; exact hI0) (seg_snoc hw ha hca _ _ hs) hb ha (by simpa using hnd) (by rw [hf]; simp only [drp]; rw [if_neg hc, List.append_assoc]; rfl) (by rw [ht]; simp only [drc]; rw [if_neg hc]; omega)
        · skip
          refine i_P_dropThinned_55 X (h := ?_)
          refine i_P_dropThinned_56 X (h := ?_)
          refine i_P_dropThinned_60 X (h := ?_)
          refine i_P_dropThinned_62 X (h := ?_)
          refine i_P_dropThinned_64 X (h1 := fun _ => ?_) (h2 := fun c => absurd rfl c)
          refine i_P_dropThinned_89 X (h := ?_)
          refine i_P_dropThinned_91 X (h := ?_)
          refine i_P_dropThinned_92 X (h := ?_)
          refine i_P_dropThinned_94 X (hM := by first | exact ha | exact mS_self _ _ _) (h := ?_)
          refine i_P_dropThinned_97 X (h := ?_)
          refine i_P_dropThinned_99 X (h := ?_)
          have hc : ¬ (f < ck - w ∧ f - t ≤ g ∧ gn = 0) := by
            clear X ih
            intro hh
            first | exact absurd hh.1 (Int32.not_lt.mpr c28) | exact absurd hh.2.1 (Int32.not_le.mpr c52) | exact c77 hh.2.2
          exact ih (pr ++ [(t, x, cs, gn)]) _ k b a t _ _ _ _ _ _ (by rw [List.append_assoc]; exact hI0) (seg_snoc hw ha hca _ _ hs) hb ha (by simpa using hnd) (by rw [hf]; simp only [drp]; rw [if_neg hc, List.append_assoc]; rfl) (by rw [ht]; simp only [drc]; rw [if_neg hc]; omega)
      · skip
        refine i_P_dropThinned_31 X (h := ?_)
        refine i_P_dropThinned_32 X (h := ?_)
        refine i_P_dropThinned_36 X (h := ?_)
        refine i_P_dropThinned_38 X (h := ?_)
        refine i_P_dropThinned_39 X (hM := by assumption) (h := ?_)
        refine i_P_dropThinned_42 X (h := ?_)
        refine i_P_dropThinned_44 X (hM := ha) (h := ?_)
        refine i_P_dropThinned_47 X (h := ?_)
        refine i_P_dropThinned_48 X (h := ?_)
        refine i_P_dropThinned_49 X (hM := by assumption) (h := ?_)
        refine i_P_dropThinned_52 X (h1 := fun c52 => ?_) (h2 := fun c52 => ?_)
        · skip
          refine i_P_dropThinned_59 X (h := ?_)
          refine i_P_dropThinned_60 X (h := ?_)
          refine i_P_dropThinned_62 X (h := ?_)
          refine i_P_dropThinned_64 X (h1 := fun c => absurd c (by decide)) (h2 := fun _ => ?_)
          refine i_P_dropThinned_67 X (h := ?_)
          refine i_P_dropThinned_69 X (h1 := fun _ => ?_) (h2 := fun c => absurd rfl c)
          refine i_P_dropThinned_89 X (h := ?_)
          refine i_P_dropThinned_91 X (h := ?_)
          refine i_P_dropThinned_92 X (h := ?_)
          refine i_P_dropThinned_94 X (hM := by first | exact ha | exact mS_self _ _ _) (h := ?_)
          refine i_P_dropThinned_97 X (h := ?_)
          refine i_P_dropThinned_99 X (h := ?_)
          have hc : ¬ (f < ck - w ∧ f - t ≤ g ∧ gn = 0) := by
            clear X ih
            intro hh
            first | exact absurd hh.1 (Int32.not_lt.mpr c28) | exact absurd hh.2.1 (Int32.not_le.mpr c52) | exact c77 hh.2.2
          exact ih (pr ++ [(t, x, cs, gn)]) _ k b a t _ _ _ _ _ _ (by rw [List.append_assoc]; exact hI0) (seg_snoc hw ha hca _ _ hs) hb ha (by simpa using hnd) (by rw [hf]; simp only [drp]; rw [if_neg hc, List.append_assoc]; rfl) (by rw [ht]; simp only [drc]; rw [if_neg hc]; omega)
        · skip
          refine i_P_dropThinned_55 X (h := ?_)
          refine i_P_dropThinned_56 X (h := ?_)
          refine i_P_dropThinned_60 X (h := ?_)
          refine i_P_dropThinned_62 X (h := ?_)
          refine i_P_dropThinned_64 X (h1 := fun c => absurd c (by decide)) (h2 := fun _ => ?_)
          refine i_P_dropThinned_67 X (h := ?_)
          refine i_P_dropThinned_69 X (h1 := fun c => absurd c (by decide)) (h2 := fun _ => ?_)
          refine i_P_dropThinned_72 X (h := ?_)
          refine i_P_dropThinned_74 X (hM := ha) (h := ?_)
          refine i_P_dropThinned_77 X (h1 := fun c77 => ?_) (h2 := fun c77 => ?_)
          · skip
            refine i_P_dropThinned_89 X (h := ?_)
            refine i_P_dropThinned_91 X (h := ?_)
            refine i_P_dropThinned_92 X (h := ?_)
            refine i_P_dropThinned_94 X (hM := by first | exact ha | exact mS_self _ _ _) (h := ?_)
            refine i_P_dropThinned_97 X (h := ?_)
            refine i_P_dropThinned_99 X (h := ?_)
            have hc : ¬ (f < ck - w ∧ f - t ≤ g ∧ gn = 0) := by
              clear X ih
              intro hh
              first | exact absurd hh.1 (Int32.not_lt.mpr c28) | exact absurd hh.2.1 (Int32.not_le.mpr c52) | exact c77 hh.2.2
            exact ih (pr ++ [(t, x, cs, gn)]) _ k b a t _ _ _ _ _ _ (by rw [List.append_assoc]; exact hI0) (seg_snoc hw ha hca _ _ hs) hb ha (by simpa using hnd) (by rw [hf]; simp only [drp]; rw [if_neg hc, List.append_assoc]; rfl) (by rw [ht]; simp only [drc]; rw [if_neg hc]; omega)
          · skip
            refine i_P_dropThinned_80 X (h := ?_)
            refine i_P_dropThinned_82 X (h := ?_)
            refine i_P_dropThinned_83 X (hM := ha) (hx := Or.inr rfl) (h := ?_)
            refine i_P_dropThinned_86 X (h := ?_)
            refine i_P_dropThinned_89 X (h := ?_)
            refine i_P_dropThinned_91 X (h := ?_)
            refine i_P_dropThinned_92 X (h := ?_)
            refine i_P_dropThinned_94 X (hM := by first | exact ha | exact mS_self _ _ _) (h := ?_)
            refine i_P_dropThinned_97 X (h := ?_)
            refine i_P_dropThinned_99 X (h := ?_)
            rw [nI_1]
            have hc : f < ck - w ∧ f - t ≤ g ∧ gn = 0 := ⟨Int32.not_le.mp c28, Int32.not_lt.mp c52, c77⟩
            exact ih (pr ++ [(t, x, cs, 1)]) _ (k + 1) b a t _ _ _ _ _ _ (by rw [List.append_assoc]; exact IC.mark hI0 hi her hs hw ha hca hb hx1 hx2) (seg_snoc hw (mS_self _ _ _) (mS_of_ne ha hca (by intro q; cases q)) _ _ (seg_mark ha pr _ hx1 hs)) (vrc_mark ha suf b hx2 hb) (mS_self _ _ _) (by simpa using hnd) (by rw [hf]; simp only [drp]; rw [if_pos hc, List.append_assoc]; rfl) (by rw [ht]; simp only [drc]; rw [if_pos hc]; omega)
set_option maxRecDepth 20000 in
set_option maxHeartbeats 1000000 in
theorem ct_P_dropThinned {l : Launch} {D : va_G} {tys : List (ClassId × FieldType)} {M : mM} {cI cB cN : ClassId} {h0 na pa : Nat} {nd ow : Nat → Nat} {sr vr dr er : Nat → Option Nat} {pl : Nat → Int32} {w g ck mk ch dc dm dh ev : Int32} {sp ds : Nat → List (Int32 × Int32)} {vs dv : Nat → List vV} (G : tys[0]? = some (cI, .int) ∧ tys[1]? = some (cB, .boolean) ∧ tys[2]? = some (cN, .object RX0)) (hI : IC M cI cN h0 na pa nd ow sr vr dr er pl w g ck mk ch dc dm dh ev sp ds vs dv) {i : Nat} (hi : i < 24) (her : er i = vr i) (hdv : dv i = vs i) {la : Nat} (hl : vr i = some la) (hnd : ((vs i).map (fun e => e.2.1)).Nodup) : Ct_P_dropThinned l D tys 0 0 [.ref h0, .ref la] M (fun v M1 => v = some (.int (nI (thinC (ck - w) g (vs i)))) ∧ IC M1 cI cN h0 na pa nd ow sr vr dr er pl w g ck mk ch dc dm dh ev sp ds (va_up vs i (thinV (ck - w) g (vs i))) (va_up dv i (thinV (ck - w) g (vs i)))) := by
  refine Ct.of (cc := c_P_dropThinned) (maxL := 7) (ret := (some (.int))) (L0 := [some (.ref h0), some (.ref la), none, none, none, none, none]) (by decide) (by intro v hv; simp only [List.mem_cons, List.not_mem_nil, or_false] at hv; rcases hv with rfl | rfl <;> first | rfl | exact mRf_cat (mRf_rf _)) (by simp) rfl ?_
  intro z ws0 hl hD ht X1 X2
  subst hl; subst hD; subst ht
  have X := And.intro X1 X2
  clear X1 X2
  have hI0 := hI
  obtain ⟨hO, hNa, hPa, hNd, hNi⟩ := hI
  have hch := (hNd i hi).2.2.1
  cases hvs : vs i with
  | nil =>
    rw [hvs, hl] at hch
    cases hch
  | cons q l1 =>
    obtain ⟨t, x, cs, gn⟩ := q
    rw [hvs] at hnd X
    have hch0 := hch
    rw [hvs, hl] at hch
    obtain ⟨a, ca, b, ea, hw, ha, hca, hb⟩ := hch
    cases ea
    have hIx : IC M cI cN h0 na pa nd ow sr vr dr er pl w g ck mk ch dc dm dh ev sp ds (va_up vs i ([(t, x, cs, gn)] ++ l1)) (va_up dv i ([(t, x, cs, gn)] ++ l1)) := by
      rw [show [(t, x, cs, gn)] ++ l1 = vs i from hvs.symm, va_up_id, ← hdv, va_up_id]
      exact hI0
    refine i_P_dropThinned_0 X (h := ?_)
    refine i_P_dropThinned_1 X (h := ?_)
    refine i_P_dropThinned_2 X (h := ?_)
    refine i_P_dropThinned_3 X (h := ?_)
    refine i_P_dropThinned_4 X (h := ?_)
    refine i_P_dropThinned_5 X (hM := ha) (h := ?_)
    refine i_P_dropThinned_8 X (h := ?_)
    exact lp_P_dropThinned (cB := cB) G hi her X l1 [(t, x, cs, gn)] M 0 b la t _ _ _ _ _ _ hIx (by rw [hl]; exact ⟨la, ca, b, rfl, hw, ha, hca, rfl⟩) hb ha hnd rfl (by simp [thinC])
