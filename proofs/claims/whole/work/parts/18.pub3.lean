theorem pf_nI (f n : Nat) : nI f * 8 + nI n = nI (f * 8 + n) := by
  rw [show (8 : Int32) = nI 8 from rfl, pk_mul, nI_add]
theorem rm_iff {sp : Nat → List (Int32 × Int32)} {pl : Nat → Int32} {t : Int32} {f n : Nat} (hf : f < 24) (h : ∀ i, i < 24 → pl i = plc (sp i) t) : ((f = 0 ∨ ¬ pl f = -1) ∧ entL pl (nI (f * 8 + n)) 24 0 = 0) ↔ rmF sp t f n := by
  unfold rmF entT
  rw [h f hf, entL_congr (p1 := pl) (fun i hi => h i hi) 24 0 (by omega)]
theorem ent_eq {sp : Nat → List (Int32 × Int32)} {pl : Nat → Int32} {t : Int32} {f n : Nat} (h : ∀ i, i < 24 → pl i = plc (sp i) t) : entL pl (nI (f * 8 + n)) 24 0 = entT sp t f n := entL_congr (p1 := pl) (fun i hi => h i hi) 24 0 (by omega)
theorem wit_eq {sp : Nat → List (Int32 × Int32)} {pl : Nat → Int32} {t : Int32} {x top : Nat} (hs : spOk sp) (hx : x < 24) (h : ∀ i, i < 24 → pl i = plc (sp i) t) : wiL pl top 24 x = witT sp t top x := wiL_congr (fun i hi => h i hi) (plOk_of hs h) 24 x hx
theorem entT_lt (sp : Nat → List (Int32 × Int32)) (t : Int32) (f n : Nat) : entT sp t f n < 24 := entL_lt _ _ 24 0 (by decide)
theorem nz_iff {e : Nat} (h : e < 24) : nI e = 0 ↔ e = 0 := nI_eq (b := 0) (by omega) (by decide)
theorem mS_sw {M : mM} {q r : Nat} {e0 e1 a : va_E} (h : mS M q e0 r = none) : mS (mS (mS M q e0) r a) q e1 = mS (mS M q e1) r a ∧ mS M q e1 r = none := by
  have hqr : r ≠ q := fun e => by rw [e, mS_self] at h; cases h
  constructor
  · funext b
    by_cases h1 : b = q
    · subst h1
      rw [mS_self, mS_ne _ _ (Ne.symm hqr), mS_self]
    · rw [mS_ne _ _ h1]
      by_cases h2 : b = r
      · subst h2
        rw [mS_self, mS_self]
      · rw [mS_ne _ _ h2, mS_ne _ _ h1, mS_ne _ _ h2, mS_ne _ _ h1]
  · rw [mS_ne _ _ hqr] at h ⊢
    exact h
/-- what a version more makes the count of them -/
def latR (ck : Int32) : List vV → Int32
  | [] => 0
  | (t, x, _, _) :: _ => (if t = ck then x else x + 1) + 1
theorem fnL_le (pl : Nat → Int32) (f : Nat) : ∀ (n i : Nat), i + n ≤ 8 → fnL pl f n i ≤ 8
  | 0, _, _ => Nat.le_refl 8
  | n + 1, i, h => by
    unfold fnL
    split
    · exact fnL_le pl f n (i + 1) (by omega)
    · omega
def F_remove : sS → Int32 → Int32 → Int32 × sS
  | ((w, g), (ck, m, ch), (dc, dm, dh), ev, sp, vs, ds, dv), f, n => if fdr m vs f ∧ nam n then (if entT sp ck f.toNatClampNeg n.toNatClampNeg = 0 ∨ fnL (fun i => plc (sp i) ck) (entT sp ck f.toNatClampNeg n.toNatClampNeg) 8 0 < 8 then (-1, ((w, g), (ck, m, ch), (dc, dm, dh), ev, sp, vs, ds, dv)) else if 512 ≤ ev then (-2, ((w, g), (ck, m, ch), (dc, dm, dh), ev, sp, vs, ds, dv)) else (0, ((w, g), (ck, m, ch + 1), (dc, dm, dh), ev + 1, va_up sp (entT sp ck f.toNatClampNeg n.toNatClampNeg) ((ck, -1) :: sp (entT sp ck f.toNatClampNeg n.toNatClampNeg)), vs, ds, dv))) else (-1, ((w, g), (ck, m, ch), (dc, dm, dh), ev, sp, vs, ds, dv))
set_option maxRecDepth 20000 in
set_option maxHeartbeats 1000000 in
theorem ct_P_remove {l : Launch} {D : va_G} {tys : List (ClassId × FieldType)} {M : mM} {cI cB cN : ClassId} {h0 : Nat} {w g ck ch dc dh ev : Int32} {m dm : Nat} {sp ds : Nat → List (Int32 × Int32)} {vs dv : Nat → List vV} (G : tys[0]? = some (cI, .int) ∧ tys[1]? = some (cB, .boolean) ∧ tys[2]? = some (cN, .object RX0)) (hm : m ≤ 24) (hC : CS M cI cN h0 ((w, g), (ck, m, ch), (dc, dm, dh), ev, sp, vs, ds, dv)) (f n : Int32) : Ct_P_remove l D tys 1 3 [.ref h0, .int f, .int n] M (fun v M1 => ∃ r s1, F_remove ((w, g), (ck, m, ch), (dc, dm, dh), ev, sp, vs, ds, dv) f n = (r, s1) ∧ v = some (.int r) ∧ CS M1 cI cN h0 s1) := by
  refine Ct.of (cc := c_P_remove) (maxL := 4) (ret := (some (.int))) (L0 := [some (.ref h0), some (.int f), some (.int n), none]) (by decide) (by intro v hv; simp only [List.mem_cons, List.not_mem_nil, or_false] at hv; rcases hv with rfl | rfl | rfl <;> first | rfl | exact mRf_cat (mRf_rf _)) (by simp) rfl ?_
  intro z ws0 hl hD ht X1 X2
  subst hl; subst hD; subst ht
  have X := And.intro X1 X2
  clear X1 X2
  obtain ⟨na, pa, nd, ow, sr, vr, dr, er, pl, hI⟩ := hC
  have hI0 := hI
  obtain ⟨hO, hNa, hPa, hNd, hNi⟩ := hI
  refine i_P_remove_0 X (h := ?_)
  refine i_P_remove_1 X (h := ?_)
  refine i_P_remove_2 X (hM := by assumption) (hC := ct_P_isMadeFolder (cB := cB) G hm hI0 f) (hk := by omega) (hn := by omega) (h := fun v2 M2 hp2 => ?_)
  obtain ⟨rfl, rfl⟩ := hp2
  refine i_P_remove_5 X (h1 := fun c5 => ?_) (h2 := fun c5 => ?_)
  · skip
    have f5 := bI_eq0 c5
    refine i_P_remove_15 X (h := ?_)
    exact i_P_remove_16 X (hk := by omega) (hn := by omega) (hp := ⟨_, _, by simp only [F_remove]; rw [if_neg (fun h => f5 h.1)], rfl, CS.of hI0⟩)
  · skip
    have f5 := bI_ne0 c5
    refine i_P_remove_8 X (h := ?_)
    refine i_P_remove_9 X (hC := ct_P_isName n) (hk := by omega) (hn := by omega) (h := fun v9 M9 hp9 => ?_)
    obtain ⟨rfl, rfl⟩ := hp9
    refine i_P_remove_12 X (h1 := fun c12 => ?_) (h2 := fun c12 => ?_)
    · skip
      have f12 := bI_ne0 c12
      obtain ⟨f1, hf1, rfl⟩ := ix_of f5.1 (by omega)
      obtain ⟨n1, hn1, rfl⟩ := ix_of (m := 8) f12 (by decide)
      refine i_P_remove_17 X (h := ?_)
      refine i_P_remove_18 X (h := ?_)
      refine i_P_remove_19 X (hM := by assumption) (h := ?_)
      refine i_P_remove_22 X (hM := by assumption) (hC := ct_P_findPlaces (cB := cB) G hI0 ck) (hk := by omega) (hn := by omega) (h := fun v22 M22 hp22 => ?_)
      obtain ⟨rfl, pl1, hpl1, rfl⟩ := hp22
      have hI1 := IC.places hI0 pl1
      have hIx1 := hI1
      obtain ⟨hO1, hNa1, hPa1, hNd1, hNi1⟩ := hIx1
      refine i_P_remove_25 X (h := ?_)
      refine i_P_remove_26 X (h := ?_)
      refine i_P_remove_27 X (h := ?_)
      refine i_P_remove_28 X (hM := by assumption) (hC := ct_P_entryAt (cB := cB) G hI1 f1 n1) (hk := by omega) (hn := by omega) (h := fun v28 M28 hp28 => ?_)
      obtain ⟨rfl, rfl⟩ := hp28
      rw [ent_eq hpl1]
      refine i_P_remove_31 X (h := ?_)
      refine i_P_remove_32 X (h := ?_)
      refine i_P_remove_33 X (h1 := fun c33 => ?_) (h2 := fun c33 => ?_)
      · skip
        have f33 := (nz_iff (entT_lt sp ck f1 n1)).mp c33
        refine i_P_remove_47 X (h := ?_)
        exact i_P_remove_48 X (hk := by omega) (hn := by omega) (hp := ⟨_, _, by simp only [F_remove]; rw [if_pos ⟨f5, f12⟩, nI_clamp (n := f1) (by omega), nI_clamp (n := n1) (by omega), if_pos (Or.inl f33)], rfl, CS.of hI1⟩)
      · skip
        have f33 : ¬ entT sp ck f1 n1 = 0 := fun q => c33 ((nz_iff (entT_lt sp ck f1 n1)).mpr q)
        refine i_P_remove_36 X (h := ?_)
        refine i_P_remove_37 X (h := ?_)
        refine i_P_remove_38 X (h := ?_)
        refine i_P_remove_39 X (hM := by assumption) (hC := ct_P_firstName (cB := cB) G hI1 (entT sp ck f1 n1) 0 (by decide)) (hk := by omega) (hn := by omega) (h := fun v39 M39 hp39 => ?_)
        obtain ⟨rfl, rfl⟩ := hp39
        rw [fnL_congr (p1 := pl1) (fun i hi => hpl1 i hi)]
        have hfl := fnL_le (fun i => plc (sp i) ck) (entT sp ck f1 n1) 8 0 (by decide)
        refine i_P_remove_42 X (h := ?_)
        refine i_P_remove_44 X (h1 := fun c44 => ?_) (h2 := fun c44 => ?_)
        · skip
          have f44 : ¬ fnL (fun i => plc (sp i) ck) (entT sp ck f1 n1) 8 0 < 8 := fun q => absurd c44 (nI_ge (b := 8) q (by decide))
          refine i_P_remove_49 X (h := ?_)
          refine i_P_remove_50 X (hM := by assumption) (hC := ct_P_isUsedUp hO1) (hk := by omega) (hn := by omega) (h := fun v50 M50 hp50 => ?_)
          obtain ⟨rfl, rfl⟩ := hp50
          refine i_P_remove_53 X (h1 := fun c53 => ?_) (h2 := fun c53 => ?_)
          · skip
            have f53 := bI_eq0 c53
            refine i_P_remove_59 X (h := ?_)
            refine i_P_remove_60 X (h := ?_)
            refine i_P_remove_61 X (h := ?_)
            refine i_P_remove_62 X (hM := by assumption) (hC := ct_P_place (cB := cB) G hI1 (entT_lt sp ck f1 n1) (-1)) (hk := by omega) (hn := by omega) (h := fun v62 M62 hp62 => ?_)
            obtain ⟨rfl, q1, hI2⟩ := hp62
            refine i_P_remove_65 X (h := ?_)
            exact i_P_remove_66 X (hk := by omega) (hn := by omega) (hp := ⟨_, _, by simp only [F_remove]; rw [if_pos ⟨f5, f12⟩, nI_clamp (n := f1) (by omega), nI_clamp (n := n1) (by omega), if_neg (fun h => h.elim f33 f44), if_neg f53], rfl, CS.of hI2⟩)
          · skip
            have f53 := bI_ne0 c53
            refine i_P_remove_56 X (h := ?_)
            exact i_P_remove_58 X (hk := by omega) (hn := by omega) (hp := ⟨_, _, by simp only [F_remove]; rw [if_pos ⟨f5, f12⟩, nI_clamp (n := f1) (by omega), nI_clamp (n := n1) (by omega), if_neg (fun h => h.elim f33 f44), if_pos f53], rfl, CS.of hI1⟩)
        · skip
          have f44 : fnL (fun i => plc (sp i) ck) (entT sp ck f1 n1) 8 0 < 8 := Nat.lt_of_not_le (fun q => c44 (nI_le (a := 8) q (Nat.lt_of_le_of_lt hfl (by decide))))
          refine i_P_remove_47 X (h := ?_)
          exact i_P_remove_48 X (hk := by omega) (hn := by omega) (hp := ⟨_, _, by simp only [F_remove]; rw [if_pos ⟨f5, f12⟩, nI_clamp (n := f1) (by omega), nI_clamp (n := n1) (by omega), if_pos (Or.inr f44)], rfl, CS.of hI1⟩)
    · skip
      have f12 := bI_eq0 c12
      refine i_P_remove_15 X (h := ?_)
      exact i_P_remove_16 X (hk := by omega) (hn := by omega) (hp := ⟨_, _, by simp only [F_remove]; rw [if_neg (fun h => f12 h.2)], rfl, CS.of hI0⟩)
def F_move : sS → Int32 → Int32 → Int32 → Int32 → Int32 × sS
  | ((w, g), (ck, m, ch), (dc, dm, dh), ev, sp, vs, ds, dv), f, n, o, a => if fdr m vs f ∧ nam n ∧ fdr m vs o ∧ nam a then (if entT sp ck f.toNatClampNeg n.toNatClampNeg = 0 ∨ ¬ rmF sp ck o.toNatClampNeg a.toNatClampNeg ∨ witT sp ck (entT sp ck f.toNatClampNeg n.toNatClampNeg) o.toNatClampNeg = true then (-1, ((w, g), (ck, m, ch), (dc, dm, dh), ev, sp, vs, ds, dv)) else if 512 ≤ ev then (-2, ((w, g), (ck, m, ch), (dc, dm, dh), ev, sp, vs, ds, dv)) else (0, ((w, g), (ck, m, ch + 1), (dc, dm, dh), ev + 1, va_up sp (entT sp ck f.toNatClampNeg n.toNatClampNeg) ((ck, nI (o.toNatClampNeg * 8 + a.toNatClampNeg)) :: sp (entT sp ck f.toNatClampNeg n.toNatClampNeg)), vs, ds, dv))) else (-1, ((w, g), (ck, m, ch), (dc, dm, dh), ev, sp, vs, ds, dv))
set_option maxRecDepth 20000 in
set_option maxHeartbeats 1000000 in
theorem ct_P_move {l : Launch} {D : va_G} {tys : List (ClassId × FieldType)} {M : mM} {cI cB cN : ClassId} {h0 : Nat} {w g ck ch dc dh ev : Int32} {m dm : Nat} {sp ds : Nat → List (Int32 × Int32)} {vs dv : Nat → List vV} (G : tys[0]? = some (cI, .int) ∧ tys[1]? = some (cB, .boolean) ∧ tys[2]? = some (cN, .object RX0)) (hm : m ≤ 24) (hC : CS M cI cN h0 ((w, g), (ck, m, ch), (dc, dm, dh), ev, sp, vs, ds, dv)) (hs : spOk sp) (f n o a : Int32) : Ct_P_move l D tys 1 3 [.ref h0, .int f, .int n, .int o, .int a] M (fun v M1 => ∃ r s1, F_move ((w, g), (ck, m, ch), (dc, dm, dh), ev, sp, vs, ds, dv) f n o a = (r, s1) ∧ v = some (.int r) ∧ CS M1 cI cN h0 s1) := by
  refine Ct.of (cc := c_P_move) (maxL := 6) (ret := (some (.int))) (L0 := [some (.ref h0), some (.int f), some (.int n), some (.int o), some (.int a), none]) (by decide) (by intro v hv; simp only [List.mem_cons, List.not_mem_nil, or_false] at hv; rcases hv with rfl | rfl | rfl | rfl | rfl <;> first | rfl | exact mRf_cat (mRf_rf _)) (by simp) rfl ?_
  intro z ws0 hl hD ht X1 X2
  subst hl; subst hD; subst ht
  have X := And.intro X1 X2
  clear X1 X2
  obtain ⟨na, pa, nd, ow, sr, vr, dr, er, pl, hI⟩ := hC
  have hI0 := hI
  obtain ⟨hO, hNa, hPa, hNd, hNi⟩ := hI
  refine i_P_move_0 X (h := ?_)
  refine i_P_move_1 X (h := ?_)
  refine i_P_move_2 X (hM := by assumption) (hC := ct_P_isMadeFolder (cB := cB) G hm hI0 f) (hk := by omega) (hn := by omega) (h := fun v2 M2 hp2 => ?_)
  obtain ⟨rfl, rfl⟩ := hp2
  refine i_P_move_5 X (h1 := fun c5 => ?_) (h2 := fun c5 => ?_)
  · skip
    have f5 := bI_eq0 c5
    refine i_P_move_31 X (h := ?_)
    exact i_P_move_32 X (hk := by omega) (hn := by omega) (hp := ⟨_, _, by simp only [F_move]; rw [if_neg (fun h => f5 h.1)], rfl, CS.of hI0⟩)
  · skip
    have f5 := bI_ne0 c5
    refine i_P_move_8 X (h := ?_)
    refine i_P_move_9 X (hC := ct_P_isName n) (hk := by omega) (hn := by omega) (h := fun v9 M9 hp9 => ?_)
    obtain ⟨rfl, rfl⟩ := hp9
    refine i_P_move_12 X (h1 := fun c12 => ?_) (h2 := fun c12 => ?_)
    · skip
      have f12 := bI_eq0 c12
      refine i_P_move_31 X (h := ?_)
      exact i_P_move_32 X (hk := by omega) (hn := by omega) (hp := ⟨_, _, by simp only [F_move]; rw [if_neg (fun h => f12 h.2.1)], rfl, CS.of hI0⟩)
    · skip
      have f12 := bI_ne0 c12
      refine i_P_move_15 X (h := ?_)
      refine i_P_move_16 X (h := ?_)
      refine i_P_move_17 X (hM := by assumption) (hC := ct_P_isMadeFolder (cB := cB) G hm hI0 o) (hk := by omega) (hn := by omega) (h := fun v17 M17 hp17 => ?_)
      obtain ⟨rfl, rfl⟩ := hp17
      refine i_P_move_20 X (h1 := fun c20 => ?_) (h2 := fun c20 => ?_)
      · skip
        have f20 := bI_eq0 c20
        refine i_P_move_31 X (h := ?_)
        exact i_P_move_32 X (hk := by omega) (hn := by omega) (hp := ⟨_, _, by simp only [F_move]; rw [if_neg (fun h => f20 h.2.2.1)], rfl, CS.of hI0⟩)
      · skip
        have f20 := bI_ne0 c20
        refine i_P_move_23 X (h := ?_)
        refine i_P_move_25 X (hC := ct_P_isName a) (hk := by omega) (hn := by omega) (h := fun v25 M25 hp25 => ?_)
        obtain ⟨rfl, rfl⟩ := hp25
        refine i_P_move_28 X (h1 := fun c28 => ?_) (h2 := fun c28 => ?_)
        · skip
          have f28 := bI_ne0 c28
          obtain ⟨f1, hf1, rfl⟩ := ix_of f5.1 (by omega)
          obtain ⟨n1, hn1, rfl⟩ := ix_of (m := 8) f12 (by decide)
          obtain ⟨o1, ho1, rfl⟩ := ix_of f20.1 (by omega)
          obtain ⟨a1, ha1, rfl⟩ := ix_of (m := 8) f28 (by decide)
          refine i_P_move_33 X (h := ?_)
          refine i_P_move_34 X (h := ?_)
          refine i_P_move_35 X (hM := by assumption) (h := ?_)
          refine i_P_move_38 X (hM := by assumption) (hC := ct_P_findPlaces (cB := cB) G hI0 ck) (hk := by omega) (hn := by omega) (h := fun v38 M38 hp38 => ?_)
          obtain ⟨rfl, pl1, hpl1, rfl⟩ := hp38
          have hI1 := IC.places hI0 pl1
          have hIx1 := hI1
          obtain ⟨hO1, hNa1, hPa1, hNd1, hNi1⟩ := hIx1
          refine i_P_move_41 X (h := ?_)
          refine i_P_move_42 X (h := ?_)
          refine i_P_move_43 X (h := ?_)
          refine i_P_move_44 X (hM := by assumption) (hC := ct_P_entryAt (cB := cB) G hI1 f1 n1) (hk := by omega) (hn := by omega) (h := fun v44 M44 hp44 => ?_)
          obtain ⟨rfl, rfl⟩ := hp44
          rw [ent_eq hpl1]
          refine i_P_move_47 X (h := ?_)
          refine i_P_move_49 X (h := ?_)
          refine i_P_move_51 X (h1 := fun c51 => ?_) (h2 := fun c51 => ?_)
          · skip
            have f51 := (nz_iff (entT_lt sp ck f1 n1)).mp c51
            refine i_P_move_74 X (h := ?_)
            exact i_P_move_75 X (hk := by omega) (hn := by omega) (hp := ⟨_, _, by simp only [F_move]; rw [if_pos ⟨f5, f12, f20, f28⟩, nI_clamp (n := f1) (by omega), nI_clamp (n := n1) (by omega), nI_clamp (n := o1) (by omega), nI_clamp (n := a1) (by omega), if_pos (Or.inl f51)], rfl, CS.of hI1⟩)
          · skip
            have f51 : ¬ entT sp ck f1 n1 = 0 := fun q => c51 ((nz_iff (entT_lt sp ck f1 n1)).mpr q)
            refine i_P_move_54 X (h := ?_)
            refine i_P_move_55 X (h := ?_)
            refine i_P_move_56 X (h := ?_)
            refine i_P_move_58 X (hM := by assumption) (hC := ct_P_hasRoomFor (cB := cB) G hI1 o1 a1 (by omega)) (hk := by omega) (hn := by omega) (h := fun v58 M58 hp58 => ?_)
            obtain ⟨rfl, rfl⟩ := hp58
            refine i_P_move_61 X (h1 := fun c61 => ?_) (h2 := fun c61 => ?_)
            · skip
              have f61 := fun q => bI_eq0 c61 ((rm_iff (by omega) hpl1).mpr q)
              refine i_P_move_74 X (h := ?_)
              exact i_P_move_75 X (hk := by omega) (hn := by omega) (hp := ⟨_, _, by simp only [F_move]; rw [if_pos ⟨f5, f12, f20, f28⟩, nI_clamp (n := f1) (by omega), nI_clamp (n := n1) (by omega), nI_clamp (n := o1) (by omega), nI_clamp (n := a1) (by omega), if_pos (Or.inr (Or.inl f61))], rfl, CS.of hI1⟩)
            · skip
              have f61 := (rm_iff (by omega) hpl1).mp (bI_ne0 c61)
              refine i_P_move_64 X (h := ?_)
              refine i_P_move_65 X (h := ?_)
              refine i_P_move_66 X (h := ?_)
              refine i_P_move_68 X (hM := by assumption) (hC := ct_P_isWithin (cB := cB) G hI1 (plOk_of hs hpl1) (x := o1) (t := entT sp ck f1 n1) (by omega) (entT_lt sp ck f1 n1)) (hk := by omega) (hn := by omega) (h := fun v68 M68 hp68 => ?_)
              obtain ⟨rfl, rfl⟩ := hp68
              refine i_P_move_71 X (h1 := fun c71 => ?_) (h2 := fun c71 => ?_)
              · skip
                have f71 := bI_eq0 c71
                rw [wit_eq hs (by omega) hpl1] at f71
                refine i_P_move_76 X (h := ?_)
                refine i_P_move_77 X (hM := by assumption) (hC := ct_P_isUsedUp hO1) (hk := by omega) (hn := by omega) (h := fun v77 M77 hp77 => ?_)
                obtain ⟨rfl, rfl⟩ := hp77
                refine i_P_move_80 X (h1 := fun c80 => ?_) (h2 := fun c80 => ?_)
                · skip
                  have f80 := bI_eq0 c80
                  refine i_P_move_86 X (h := ?_)
                  refine i_P_move_87 X (h := ?_)
                  refine i_P_move_89 X (h := ?_)
                  refine i_P_move_90 X (h := ?_)
                  refine i_P_move_92 X (hC := ct_P_placeOf (nI o1) (nI a1)) (hk := by omega) (hn := by omega) (h := fun v92 M92 hp92 => ?_)
                  obtain ⟨rfl, rfl⟩ := hp92
                  rw [pf_nI]
                  refine i_P_move_95 X (hM := by assumption) (hC := ct_P_place (cB := cB) G hI1 (entT_lt sp ck f1 n1) (nI (o1 * 8 + a1))) (hk := by omega) (hn := by omega) (h := fun v95 M95 hp95 => ?_)
                  obtain ⟨rfl, q1, hI2⟩ := hp95
                  refine i_P_move_98 X (h := ?_)
                  exact i_P_move_99 X (hk := by omega) (hn := by omega) (hp := ⟨_, _, by simp only [F_move]; rw [if_pos ⟨f5, f12, f20, f28⟩, nI_clamp (n := f1) (by omega), nI_clamp (n := n1) (by omega), nI_clamp (n := o1) (by omega), nI_clamp (n := a1) (by omega), if_neg (fun h => h.elim f51 (fun h => h.elim (fun q => q f61) f71)), if_neg f80], rfl, CS.of hI2⟩)
                · skip
                  have f80 := bI_ne0 c80
                  refine i_P_move_83 X (h := ?_)
                  exact i_P_move_85 X (hk := by omega) (hn := by omega) (hp := ⟨_, _, by simp only [F_move]; rw [if_pos ⟨f5, f12, f20, f28⟩, nI_clamp (n := f1) (by omega), nI_clamp (n := n1) (by omega), nI_clamp (n := o1) (by omega), nI_clamp (n := a1) (by omega), if_neg (fun h => h.elim f51 (fun h => h.elim (fun q => q f61) f71)), if_pos f80], rfl, CS.of hI1⟩)
              · skip
                have f71 := bI_ne0 c71
                rw [wit_eq hs (by omega) hpl1] at f71
                refine i_P_move_74 X (h := ?_)
                exact i_P_move_75 X (hk := by omega) (hn := by omega) (hp := ⟨_, _, by simp only [F_move]; rw [if_pos ⟨f5, f12, f20, f28⟩, nI_clamp (n := f1) (by omega), nI_clamp (n := n1) (by omega), nI_clamp (n := o1) (by omega), nI_clamp (n := a1) (by omega), if_pos (Or.inr (Or.inr f71))], rfl, CS.of hI1⟩)
        · skip
          have f28 := bI_eq0 c28
          refine i_P_move_31 X (h := ?_)
          exact i_P_move_32 X (hk := by omega) (hn := by omega) (hp := ⟨_, _, by simp only [F_move]; rw [if_neg (fun h => f28 h.2.2.2)], rfl, CS.of hI0⟩)
def F_putBack : sS → Int32 → Int32 → Int32 → Int32 × sS
  | ((w, g), (ck, m, ch), (dc, dm, dh), ev, sp, vs, ds, dv), f, n, t => if fdr m vs f ∧ nam n ∧ ¬ t < 0 then (if entT sp t f.toNatClampNeg n.toNatClampNeg = 0 ∨ ¬ plc (sp (entT sp t f.toNatClampNeg n.toNatClampNeg)) ck = -1 ∨ ¬ rmF sp ck f.toNatClampNeg n.toNatClampNeg ∨ witT sp ck (entT sp t f.toNatClampNeg n.toNatClampNeg) f.toNatClampNeg = true then (-1, ((w, g), (ck, m, ch), (dc, dm, dh), ev, sp, vs, ds, dv)) else if 512 ≤ ev then (-2, ((w, g), (ck, m, ch), (dc, dm, dh), ev, sp, vs, ds, dv)) else (nI (entT sp t f.toNatClampNeg n.toNatClampNeg), ((w, g), (ck, m, ch + 1), (dc, dm, dh), ev + 1, va_up sp (entT sp t f.toNatClampNeg n.toNatClampNeg) ((ck, nI (f.toNatClampNeg * 8 + n.toNatClampNeg)) :: sp (entT sp t f.toNatClampNeg n.toNatClampNeg)), vs, ds, dv))) else (-1, ((w, g), (ck, m, ch), (dc, dm, dh), ev, sp, vs, ds, dv))
set_option maxRecDepth 20000 in
set_option maxHeartbeats 1000000 in
theorem ct_P_putBack {l : Launch} {D : va_G} {tys : List (ClassId × FieldType)} {M : mM} {cI cB cN : ClassId} {h0 : Nat} {w g ck ch dc dh ev : Int32} {m dm : Nat} {sp ds : Nat → List (Int32 × Int32)} {vs dv : Nat → List vV} (G : tys[0]? = some (cI, .int) ∧ tys[1]? = some (cB, .boolean) ∧ tys[2]? = some (cN, .object RX0)) (hm : m ≤ 24) (hC : CS M cI cN h0 ((w, g), (ck, m, ch), (dc, dm, dh), ev, sp, vs, ds, dv)) (hs : spOk sp) (f n t : Int32) : Ct_P_putBack l D tys 1 3 [.ref h0, .int f, .int n, .int t] M (fun v M1 => ∃ r s1, F_putBack ((w, g), (ck, m, ch), (dc, dm, dh), ev, sp, vs, ds, dv) f n t = (r, s1) ∧ v = some (.int r) ∧ CS M1 cI cN h0 s1) := by
  refine Ct.of (cc := c_P_putBack) (maxL := 5) (ret := (some (.int))) (L0 := [some (.ref h0), some (.int f), some (.int n), some (.int t), none]) (by decide) (by intro v hv; simp only [List.mem_cons, List.not_mem_nil, or_false] at hv; rcases hv with rfl | rfl | rfl | rfl <;> first | rfl | exact mRf_cat (mRf_rf _)) (by simp) rfl ?_
  intro z ws0 hl hD ht X1 X2
  subst hl; subst hD; subst ht
  have X := And.intro X1 X2
  clear X1 X2
  obtain ⟨na, pa, nd, ow, sr, vr, dr, er, pl, hI⟩ := hC
  have hI0 := hI
  obtain ⟨hO, hNa, hPa, hNd, hNi⟩ := hI
  refine i_P_putBack_0 X (h := ?_)
  refine i_P_putBack_1 X (h := ?_)
  refine i_P_putBack_2 X (hM := by assumption) (hC := ct_P_isMadeFolder (cB := cB) G hm hI0 f) (hk := by omega) (hn := by omega) (h := fun v2 M2 hp2 => ?_)
  obtain ⟨rfl, rfl⟩ := hp2
  refine i_P_putBack_5 X (h1 := fun c5 => ?_) (h2 := fun c5 => ?_)
  · skip
    have f5 := bI_eq0 c5
    refine i_P_putBack_19 X (h := ?_)
    exact i_P_putBack_20 X (hk := by omega) (hn := by omega) (hp := ⟨_, _, by simp only [F_putBack]; rw [if_neg (fun h => f5 h.1)], rfl, CS.of hI0⟩)
  · skip
    have f5 := bI_ne0 c5
    refine i_P_putBack_8 X (h := ?_)
    refine i_P_putBack_9 X (hC := ct_P_isName n) (hk := by omega) (hn := by omega) (h := fun v9 M9 hp9 => ?_)
    obtain ⟨rfl, rfl⟩ := hp9
    refine i_P_putBack_12 X (h1 := fun c12 => ?_) (h2 := fun c12 => ?_)
    · skip
      have f12 := bI_eq0 c12
      refine i_P_putBack_19 X (h := ?_)
      exact i_P_putBack_20 X (hk := by omega) (hn := by omega) (hp := ⟨_, _, by simp only [F_putBack]; rw [if_neg (fun h => f12 h.2.1)], rfl, CS.of hI0⟩)
    · skip
      have f12 := bI_ne0 c12
      refine i_P_putBack_15 X (h := ?_)
      refine i_P_putBack_16 X (h1 := fun c16 => ?_) (h2 := fun c16 => ?_)
      · skip
        obtain ⟨f1, hf1, rfl⟩ := ix_of f5.1 (by omega)
        obtain ⟨n1, hn1, rfl⟩ := ix_of (m := 8) f12 (by decide)
        refine i_P_putBack_21 X (h := ?_)
        refine i_P_putBack_22 X (h := ?_)
        refine i_P_putBack_23 X (hM := by assumption) (hC := ct_P_findPlaces (cB := cB) G hI0 t) (hk := by omega) (hn := by omega) (h := fun v23 M23 hp23 => ?_)
        obtain ⟨rfl, pl1, hpl1, rfl⟩ := hp23
        have hI1 := IC.places hI0 pl1
        have hIx1 := hI1
        obtain ⟨hO1, hNa1, hPa1, hNd1, hNi1⟩ := hIx1
        refine i_P_putBack_26 X (h := ?_)
        refine i_P_putBack_27 X (h := ?_)
        refine i_P_putBack_28 X (h := ?_)
        refine i_P_putBack_29 X (hM := by assumption) (hC := ct_P_entryAt (cB := cB) G hI1 f1 n1) (hk := by omega) (hn := by omega) (h := fun v29 M29 hp29 => ?_)
        obtain ⟨rfl, rfl⟩ := hp29
        rw [ent_eq hpl1]
        refine i_P_putBack_32 X (h := ?_)
        refine i_P_putBack_34 X (h := ?_)
        refine i_P_putBack_35 X (h := ?_)
        refine i_P_putBack_36 X (hM := by assumption) (h := ?_)
        refine i_P_putBack_39 X (hM := by assumption) (hC := ct_P_findPlaces (cB := cB) G hI1 ck) (hk := by omega) (hn := by omega) (h := fun v39 M39 hp39 => ?_)
        obtain ⟨rfl, pl2, hpl2, rfl⟩ := hp39
        have hI2 := IC.places hI1 pl2
        have hIx2 := hI2
        obtain ⟨hO2, hNa2, hPa2, hNd2, hNi2⟩ := hIx2
        refine i_P_putBack_42 X (h := ?_)
        refine i_P_putBack_44 X (h1 := fun c44 => ?_) (h2 := fun c44 => ?_)
        · skip
          have f44 := (nz_iff (entT_lt sp t f1 n1)).mp c44
          refine i_P_putBack_77 X (h := ?_)
          exact i_P_putBack_78 X (hk := by omega) (hn := by omega) (hp := ⟨_, _, by simp only [F_putBack]; rw [if_pos ⟨f5, f12, Int32.not_lt.mpr c16⟩, nI_clamp (n := f1) (by omega), nI_clamp (n := n1) (by omega), if_pos (Or.inl f44)], rfl, CS.of hI2⟩)
        · skip
          have f44 : ¬ entT sp t f1 n1 = 0 := fun q => c44 ((nz_iff (entT_lt sp t f1 n1)).mpr q)
          refine i_P_putBack_47 X (h := ?_)
          refine i_P_putBack_48 X (hM := by assumption) (h := ?_)
          refine i_P_putBack_51 X (h := ?_)
          refine i_P_putBack_53 X G (hM := by assumption) (hx := rfl) (hj := entT_lt sp t f1 n1) (h := ?_)
          refine i_P_putBack_54 X (h := ?_)
          refine i_P_putBack_55 X (h1 := fun c55 => ?_) (h2 := fun c55 => ?_)
          · skip
            have f55 := c55
            rw [hpl2 _ (entT_lt sp t f1 n1)] at f55
            refine i_P_putBack_77 X (h := ?_)
            exact i_P_putBack_78 X (hk := by omega) (hn := by omega) (hp := ⟨_, _, by simp only [F_putBack]; rw [if_pos ⟨f5, f12, Int32.not_lt.mpr c16⟩, nI_clamp (n := f1) (by omega), nI_clamp (n := n1) (by omega), if_pos (Or.inr (Or.inl f55))], rfl, CS.of hI2⟩)
          · skip
            have f55 := c55
            rw [hpl2 _ (entT_lt sp t f1 n1)] at f55
            refine i_P_putBack_58 X (h := ?_)
            refine i_P_putBack_59 X (h := ?_)
            refine i_P_putBack_60 X (h := ?_)
            refine i_P_putBack_61 X (hM := by assumption) (hC := ct_P_hasRoomFor (cB := cB) G hI2 f1 n1 (by omega)) (hk := by omega) (hn := by omega) (h := fun v61 M61 hp61 => ?_)
            obtain ⟨rfl, rfl⟩ := hp61
            refine i_P_putBack_64 X (h1 := fun c64 => ?_) (h2 := fun c64 => ?_)
            · skip
              have f64 := fun q => bI_eq0 c64 ((rm_iff (by omega) hpl2).mpr q)
              refine i_P_putBack_77 X (h := ?_)
              exact i_P_putBack_78 X (hk := by omega) (hn := by omega) (hp := ⟨_, _, by simp only [F_putBack]; rw [if_pos ⟨f5, f12, Int32.not_lt.mpr c16⟩, nI_clamp (n := f1) (by omega), nI_clamp (n := n1) (by omega), if_pos (Or.inr (Or.inr (Or.inl f64)))], rfl, CS.of hI2⟩)
            · skip
              have f64 := (rm_iff (by omega) hpl2).mp (bI_ne0 c64)
              refine i_P_putBack_67 X (h := ?_)
              refine i_P_putBack_68 X (h := ?_)
              refine i_P_putBack_69 X (h := ?_)
              refine i_P_putBack_71 X (hM := by assumption) (hC := ct_P_isWithin (cB := cB) G hI2 (plOk_of hs hpl2) (x := f1) (t := entT sp t f1 n1) (by omega) (entT_lt sp t f1 n1)) (hk := by omega) (hn := by omega) (h := fun v71 M71 hp71 => ?_)
              obtain ⟨rfl, rfl⟩ := hp71
              refine i_P_putBack_74 X (h1 := fun c74 => ?_) (h2 := fun c74 => ?_)
              · skip
                have f74 := bI_eq0 c74
                rw [wit_eq hs (by omega) hpl2] at f74
                refine i_P_putBack_79 X (h := ?_)
                refine i_P_putBack_80 X (hM := by assumption) (hC := ct_P_isUsedUp hO2) (hk := by omega) (hn := by omega) (h := fun v80 M80 hp80 => ?_)
                obtain ⟨rfl, rfl⟩ := hp80
                refine i_P_putBack_83 X (h1 := fun c83 => ?_) (h2 := fun c83 => ?_)
                · skip
                  have f83 := bI_eq0 c83
                  refine i_P_putBack_89 X (h := ?_)
                  refine i_P_putBack_90 X (h := ?_)
                  refine i_P_putBack_92 X (h := ?_)
                  refine i_P_putBack_93 X (h := ?_)
                  refine i_P_putBack_94 X (hC := ct_P_placeOf (nI f1) (nI n1)) (hk := by omega) (hn := by omega) (h := fun v94 M94 hp94 => ?_)
                  obtain ⟨rfl, rfl⟩ := hp94
                  rw [pf_nI]
                  refine i_P_putBack_97 X (hM := by assumption) (hC := ct_P_place (cB := cB) G hI2 (entT_lt sp t f1 n1) (nI (f1 * 8 + n1))) (hk := by omega) (hn := by omega) (h := fun v97 M97 hp97 => ?_)
                  obtain ⟨rfl, q1, hI3⟩ := hp97
                  refine i_P_putBack_100 X (h := ?_)
                  exact i_P_putBack_102 X (hk := by omega) (hn := by omega) (hp := ⟨_, _, by simp only [F_putBack]; rw [if_pos ⟨f5, f12, Int32.not_lt.mpr c16⟩, nI_clamp (n := f1) (by omega), nI_clamp (n := n1) (by omega), if_neg (fun h => h.elim f44 (fun h => h.elim (fun q => q f55) (fun h => h.elim (fun q => q f64) f74))), if_neg f83], rfl, CS.of hI3⟩)
                · skip
                  have f83 := bI_ne0 c83
                  refine i_P_putBack_86 X (h := ?_)
                  exact i_P_putBack_88 X (hk := by omega) (hn := by omega) (hp := ⟨_, _, by simp only [F_putBack]; rw [if_pos ⟨f5, f12, Int32.not_lt.mpr c16⟩, nI_clamp (n := f1) (by omega), nI_clamp (n := n1) (by omega), if_neg (fun h => h.elim f44 (fun h => h.elim (fun q => q f55) (fun h => h.elim (fun q => q f64) f74))), if_pos f83], rfl, CS.of hI2⟩)
              · skip
                have f74 := bI_ne0 c74
                rw [wit_eq hs (by omega) hpl2] at f74
                refine i_P_putBack_77 X (h := ?_)
                exact i_P_putBack_78 X (hk := by omega) (hn := by omega) (hp := ⟨_, _, by simp only [F_putBack]; rw [if_pos ⟨f5, f12, Int32.not_lt.mpr c16⟩, nI_clamp (n := f1) (by omega), nI_clamp (n := n1) (by omega), if_pos (Or.inr (Or.inr (Or.inr f74)))], rfl, CS.of hI2⟩)
      · skip
        refine i_P_putBack_19 X (h := ?_)
        exact i_P_putBack_20 X (hk := by omega) (hn := by omega) (hp := ⟨_, _, by simp only [F_putBack]; rw [if_neg (fun h => h.2.2 (Int32.not_le.mp c16))], rfl, CS.of hI0⟩)
