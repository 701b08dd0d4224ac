/-- the class's state: the rule; clock, made, changes; the durable three; changes ever; spots, versions, the durable ones -/
abbrev sS : Type := (Int32 × Int32) × (Int32 × Nat × Int32) × (Int32 × Nat × Int32) × Int32 × (Nat → List (Int32 × Int32)) × (Nat → List vV) × (Nat → List (Int32 × Int32)) × (Nat → List vV)
def CS (M : mM) (cI cN : ClassId) (h0 : Nat) : sS → Prop
  | ((w, g), (ck, m, ch), (dc, dm, dh), ev, sp, vs, ds, dv) => ∃ (na pa : Nat) (nd ow : Nat → Nat) (sr vr dr er : Nat → Option Nat) (pl : Nat → Int32), IC M cI cN h0 na pa nd ow sr vr dr er pl w g ck (nI m) ch dc (nI dm) dh ev sp ds vs dv
theorem CS.of {M : mM} {cI cN : ClassId} {h0 na pa : Nat} {nd ow : Nat → Nat} {sr vr dr er : Nat → Option Nat} {pl : Nat → Int32} {w g ck ch dc dh ev : Int32} {m dm : Nat} {sp ds : Nat → List (Int32 × Int32)} {vs dv : Nat → List vV} (h : IC M cI cN h0 na pa nd ow sr vr dr er pl w g ck (nI m) ch dc (nI dm) dh ev sp ds vs dv) : CS M cI cN h0 ((w, g), (ck, m, ch), (dc, dm, dh), ev, sp, vs, ds, dv) := ⟨na, pa, nd, ow, sr, vr, dr, er, pl, h⟩
/-- a made folder; a name; a cell's number; the entry as of a time; room for an entry -/
abbrev fdr (m : Nat) (vs : Nat → List vV) (x : Int32) : Prop := (0 ≤ x ∧ x < nI m) ∧ (vs x.toNatClampNeg).isEmpty = true
abbrev nam (x : Int32) : Prop := 0 ≤ x ∧ x < 8
abbrev cel (x : Int32) : Prop := 0 ≤ x ∧ x < 4
def entT (sp : Nat → List (Int32 × Int32)) (t : Int32) (f n : Nat) : Nat := entL (fun i => plc (sp i) t) (nI (f * 8 + n)) 24 0
abbrev rmF (sp : Nat → List (Int32 × Int32)) (t : Int32) (f n : Nat) : Prop := (f = 0 ∨ ¬ plc (sp f) t = -1) ∧ entT sp t f n = 0
def witT (sp : Nat → List (Int32 × Int32)) (t : Int32) (top x : Nat) : Bool := wiL (fun i => plc (sp i) t) top 24 x
def spOk (sp : Nat → List (Int32 × Int32)) : Prop := ∀ i, i < 24 → ∀ e ∈ sp i, e.2 = -1 ∨ ∃ q, q < 192 ∧ e.2 = nI q
theorem plc_ok : ∀ (l : List (Int32 × Int32)) (t : Int32), (∀ e ∈ l, e.2 = -1 ∨ ∃ q, q < 192 ∧ e.2 = nI q) → plc l t = -1 ∨ ∃ q, q < 192 ∧ plc l t = nI q
  | [], _, _ => Or.inl rfl
  | (u, p) :: l, t, h => by
    unfold plc
    split
    · exact plc_ok l t (fun e he => h e (List.mem_cons_of_mem _ he))
    · exact h (u, p) List.mem_cons_self
theorem plOk_of {sp : Nat → List (Int32 × Int32)} {pl : Nat → Int32} {t : Int32} (hs : spOk sp) (hp : ∀ i, i < 24 → pl i = plc (sp i) t) : plOk pl := fun i hi => by
  rw [hp i hi]
  exact plc_ok _ _ (hs i hi)
theorem entL_congr {p1 p2 : Nat → Int32} {p : Int32} (h : ∀ i, i < 24 → p1 i = p2 i) : ∀ (n i : Nat), i + n ≤ 24 → entL p1 p n i = entL p2 p n i
  | 0, _, _ => rfl
  | n + 1, i, hi => by
    unfold entL
    rw [h i (by omega), entL_congr h n (i + 1) (by omega)]
theorem wiL_congr {p1 p2 : Nat → Int32} {t : Nat} (h : ∀ i, i < 24 → p1 i = p2 i) (hok : plOk p1) : ∀ (n x : Nat), x < 24 → wiL p1 t n x = wiL p2 t n x
  | 0, _, _ => rfl
  | n + 1, x, hx => by
    unfold wiL
    rw [h x hx]
    split
    · rfl
    · split
      · rfl
      · rename_i h1 h2
        rw [← h x hx] at h2 ⊢
        obtain ⟨q, hq, e⟩ := (hok x hx).resolve_left h2
        rw [e, nI_clamp (by omega)]
        exact wiL_congr h hok n (q / 8) (by omega)
theorem fnL_congr {p1 p2 : Nat → Int32} {f : Nat} (h : ∀ i, i < 24 → p1 i = p2 i) : ∀ (n i : Nat), fnL p1 f n i = fnL p2 f n i
  | 0, _ => rfl
  | n + 1, i => by
    unfold fnL
    rw [entL_congr h 24 0 (by omega), fnL_congr h n (i + 1)]
def F_tick : sS → Int32 → Int32 × sS
  | ((w, g), (ck, m, ch), (dc, dm, dh), ev, sp, vs, ds, dv), x => if x < 0 ∨ 1000 < x then (-1, ((w, g), (ck, m, ch), (dc, dm, dh), ev, sp, vs, ds, dv)) else (ck + x, ((w, g), (ck + x, m, ch), (dc, dm, dh), ev, sp, vs, ds, dv))
set_option maxRecDepth 20000 in
set_option maxHeartbeats 1000000 in
theorem ct_P_tick {l : Launch} {D : va_G} {tys : List (ClassId × FieldType)} {M : mM} {cI cB cN : ClassId} {h0 : Nat} {w g ck ch dc dh ev : Int32} {m dm : Nat} {sp ds : Nat → List (Int32 × Int32)} {vs dv : Nat → List vV} (hC : CS M cI cN h0 ((w, g), (ck, m, ch), (dc, dm, dh), ev, sp, vs, ds, dv)) (x : Int32) : Ct_P_tick l D tys 0 0 [.ref h0, .int x] M (fun v M1 => ∃ r s1, F_tick ((w, g), (ck, m, ch), (dc, dm, dh), ev, sp, vs, ds, dv) x = (r, s1) ∧ v = some (.int r) ∧ CS M1 cI cN h0 s1) := by
  refine Ct.of (cc := c_P_tick) (maxL := 2) (ret := (some (.int))) (L0 := [some (.ref h0), some (.int x)]) (by decide) (by intro v hv; simp only [List.mem_cons, List.not_mem_nil, or_false] at hv; rcases hv with rfl | rfl <;> first | rfl | exact mRf_cat (mRf_rf _)) (by simp) rfl ?_
  intro z ws0 hl hD ht X1 X2
  subst hl; subst hD; subst ht
  have X := And.intro X1 X2
  clear X1 X2
  obtain ⟨na, pa, nd, ow, sr, vr, dr, er, pl, hI⟩ := hC
  have hI0 := hI
  obtain ⟨hO, hNa, hPa, hNd, hNi⟩ := hI
  refine i_P_tick_0 X (h := ?_)
  refine i_P_tick_1 X (h1 := fun c1 => ?_) (h2 := fun c1 => ?_)
  · skip
    refine i_P_tick_11 X (h := ?_)
    exact i_P_tick_12 X (hk := by omega) (hn := by omega) (hp := ⟨_, _, by simp only [F_tick]; rw [if_pos (Or.inl c1)], rfl, CS.of hI0⟩)
  · skip
    refine i_P_tick_4 X (h := ?_)
    refine i_P_tick_5 X (h := ?_)
    refine i_P_tick_8 X (h1 := fun c8 => ?_) (h2 := fun c8 => ?_)
    · skip
      refine i_P_tick_13 X (h := ?_)
      refine i_P_tick_14 X (h := ?_)
      refine i_P_tick_15 X (hM := by assumption) (h := ?_)
      refine i_P_tick_18 X (h := ?_)
      refine i_P_tick_19 X (h := ?_)
      refine i_P_tick_20 X (hM := by assumption) (h := ?_)
      refine i_P_tick_23 X (h := ?_)
      refine i_P_tick_24 X (hM := mS_self _ _ _) (h := ?_)
      exact i_P_tick_27 X (hk := by omega) (hn := by omega) (hp := ⟨_, _, by simp only [F_tick]; rw [if_neg (fun h => h.elim (fun q => absurd q c1) (fun q => absurd q (Int32.not_lt.mpr c8)))], rfl, CS.of (IC.obj hI0 (ck + x) (nI m) ch dc (nI dm) dh ev)⟩)
    · skip
      refine i_P_tick_11 X (h := ?_)
      exact i_P_tick_12 X (hk := by omega) (hn := by omega) (hp := ⟨_, _, by simp only [F_tick]; rw [if_pos (Or.inr (Int32.not_le.mp c8))], rfl, CS.of hI0⟩)
def F_count : sS → Int32 → Int32 × sS
  | ((w, g), (ck, m, ch), (dc, dm, dh), ev, sp, vs, ds, dv), x => (if x = 0 then ck else if x = 1 then nI m else if x = 2 then ch else if x = 3 then ch - dh else -1, ((w, g), (ck, m, ch), (dc, dm, dh), ev, sp, vs, ds, dv))
set_option maxRecDepth 20000 in
set_option maxHeartbeats 1000000 in
theorem ct_P_count {l : Launch} {D : va_G} {tys : List (ClassId × FieldType)} {M : mM} {cI cB cN : ClassId} {h0 : Nat} {w g ck ch dc dh ev : Int32} {m dm : Nat} {sp ds : Nat → List (Int32 × Int32)} {vs dv : Nat → List vV} (hC : CS M cI cN h0 ((w, g), (ck, m, ch), (dc, dm, dh), ev, sp, vs, ds, dv)) (x : Int32) : Ct_P_count l D tys 0 0 [.ref h0, .int x] M (fun v M1 => ∃ r s1, F_count ((w, g), (ck, m, ch), (dc, dm, dh), ev, sp, vs, ds, dv) x = (r, s1) ∧ v = some (.int r) ∧ CS M1 cI cN h0 s1) := by
  refine Ct.of (cc := c_P_count) (maxL := 2) (ret := (some (.int))) (L0 := [some (.ref h0), some (.int x)]) (by decide) (by intro v hv; simp only [List.mem_cons, List.not_mem_nil, or_false] at hv; rcases hv with rfl | rfl <;> first | rfl | exact mRf_cat (mRf_rf _)) (by simp) rfl ?_
  intro z ws0 hl hD ht X1 X2
  subst hl; subst hD; subst ht
  have X := And.intro X1 X2
  clear X1 X2
  obtain ⟨na, pa, nd, ow, sr, vr, dr, er, pl, hI⟩ := hC
  have hI0 := hI
  obtain ⟨hO, hNa, hPa, hNd, hNi⟩ := hI
  refine i_P_count_0 X (h := ?_)
  refine i_P_count_1 X (h0 := fun c1 => ?_) (h1 := fun c1 => ?_) (h2 := fun c1 => ?_) (h3 := fun c1 => ?_) (hd := fun e0 e1 e2 e3 => ?_)
  · skip
    refine i_P_count_32 X (h := ?_)
    refine i_P_count_33 X (hM := by assumption) (h := ?_)
    exact i_P_count_36 X (hk := by omega) (hn := by omega) (hp := ⟨_, _, by simp only [F_count]; rw [if_pos c1], rfl, CS.of hI0⟩)
  · skip
    refine i_P_count_37 X (h := ?_)
    refine i_P_count_38 X (hM := by assumption) (h := ?_)
    exact i_P_count_41 X (hk := by omega) (hn := by omega) (hp := ⟨_, _, by simp only [F_count]; rw [c1]; rfl, rfl, CS.of hI0⟩)
  · skip
    refine i_P_count_42 X (h := ?_)
    refine i_P_count_43 X (hM := by assumption) (h := ?_)
    exact i_P_count_46 X (hk := by omega) (hn := by omega) (hp := ⟨_, _, by simp only [F_count]; rw [c1]; rfl, rfl, CS.of hI0⟩)
  · skip
    refine i_P_count_47 X (h := ?_)
    refine i_P_count_48 X (hM := by assumption) (h := ?_)
    refine i_P_count_51 X (h := ?_)
    refine i_P_count_52 X (hM := by assumption) (h := ?_)
    refine i_P_count_55 X (h := ?_)
    exact i_P_count_56 X (hk := by omega) (hn := by omega) (hp := ⟨_, _, by simp only [F_count]; rw [c1]; rfl, rfl, CS.of hI0⟩)
  · skip
    refine i_P_count_57 X (h := ?_)
    exact i_P_count_58 X (hk := by omega) (hn := by omega) (hp := ⟨_, _, by simp only [F_count]; rw [if_neg e0, if_neg e1, if_neg e2, if_neg e3], rfl, CS.of hI0⟩)
def F_sync : sS → Int32 × sS
  | ((w, g), (ck, m, ch), (dc, dm, dh), ev, sp, vs, ds, dv) => (ch, ((w, g), (ck, m, ch), (ck, m, ch), ev, sp, vs, sp, vs))
set_option maxRecDepth 20000 in
set_option maxHeartbeats 1000000 in
theorem ct_P_sync {l : Launch} {D : va_G} {tys : List (ClassId × FieldType)} {M : mM} {cI cB cN : ClassId} {h0 : Nat} {w g ck ch dc dh ev : Int32} {m dm : Nat} {sp ds : Nat → List (Int32 × Int32)} {vs dv : Nat → List vV} (G : tys[0]? = some (cI, .int) ∧ tys[1]? = some (cB, .boolean) ∧ tys[2]? = some (cN, .object RX0)) (hC : CS M cI cN h0 ((w, g), (ck, m, ch), (dc, dm, dh), ev, sp, vs, ds, dv)) : Ct_P_sync l D tys 0 0 [.ref h0] M (fun v M1 => ∃ r s1, F_sync ((w, g), (ck, m, ch), (dc, dm, dh), ev, sp, vs, ds, dv) = (r, s1) ∧ v = some (.int r) ∧ CS M1 cI cN h0 s1) := by
  refine Ct.of (cc := c_P_sync) (maxL := 1) (ret := (some (.int))) (L0 := [some (.ref h0)]) (by decide) (by intro v hv; simp only [List.mem_cons, List.not_mem_nil, or_false] at hv; rcases hv with rfl <;> first | rfl | exact mRf_cat (mRf_rf _)) (by simp) rfl ?_
  intro z ws0 hl hD ht X1 X2
  subst hl; subst hD; subst ht
  have X := And.intro X1 X2
  clear X1 X2
  obtain ⟨na, pa, nd, ow, sr, vr, dr, er, pl, hI⟩ := hC
  have hI0 := hI
  obtain ⟨hO, hNa, hPa, hNd, hNi⟩ := hI
  refine i_P_sync_0 X (h := ?_)
  refine i_P_sync_1 X (hM := by assumption) (hC := ct_P_makeDurable (cB := cB) G hI0) (hk := by omega) (hn := by omega) (h := fun v1 M1 hp1 => ?_)
  obtain ⟨rfl, hI1⟩ := hp1
  refine i_P_sync_4 X (h := ?_)
  refine i_P_sync_5 X (hM := hI1.1) (h := ?_)
  exact i_P_sync_8 X (hk := by omega) (hn := by omega) (hp := ⟨_, _, rfl, rfl, CS.of hI1⟩)
def F_look : sS → Int32 → Int32 → Int32 → Int32 × sS
  | ((w, g), (ck, m, ch), (dc, dm, dh), ev, sp, vs, ds, dv), t, f, n => (if ¬ t < 0 ∧ fdr m vs f ∧ nam n then nI (entT sp t f.toNatClampNeg n.toNatClampNeg) else -1, ((w, g), (ck, m, ch), (dc, dm, dh), ev, sp, vs, ds, dv))
set_option maxRecDepth 20000 in
set_option maxHeartbeats 1000000 in
theorem ct_P_look {l : Launch} {D : va_G} {tys : List (ClassId × FieldType)} {M : mM} {cI cB cN : ClassId} {h0 : Nat} {w g ck ch dc dh ev : Int32} {m dm : Nat} {sp ds : Nat → List (Int32 × Int32)} {vs dv : Nat → List vV} (G : tys[0]? = some (cI, .int) ∧ tys[1]? = some (cB, .boolean) ∧ tys[2]? = some (cN, .object RX0)) (hm : m ≤ 24) (hC : CS M cI cN h0 ((w, g), (ck, m, ch), (dc, dm, dh), ev, sp, vs, ds, dv)) (t f n : Int32) : Ct_P_look l D tys 0 0 [.ref h0, .int t, .int f, .int n] M (fun v M1 => ∃ r s1, F_look ((w, g), (ck, m, ch), (dc, dm, dh), ev, sp, vs, ds, dv) t f n = (r, s1) ∧ v = some (.int r) ∧ CS M1 cI cN h0 s1) := by
  refine Ct.of (cc := c_P_look) (maxL := 4) (ret := (some (.int))) (L0 := [some (.ref h0), some (.int t), some (.int f), some (.int n)]) (by decide) (by intro v hv; simp only [List.mem_cons, List.not_mem_nil, or_false] at hv; rcases hv with rfl | rfl | rfl | rfl <;> first | rfl | exact mRf_cat (mRf_rf _)) (by simp) rfl ?_
  intro z ws0 hl hD ht X1 X2
  subst hl; subst hD; subst ht
  have X := And.intro X1 X2
  clear X1 X2
  obtain ⟨na, pa, nd, ow, sr, vr, dr, er, pl, hI⟩ := hC
  have hI0 := hI
  obtain ⟨hO, hNa, hPa, hNd, hNi⟩ := hI
  refine i_P_look_0 X (h := ?_)
  refine i_P_look_1 X (h1 := fun c1 => ?_) (h2 := fun c1 => ?_)
  · skip
    refine i_P_look_19 X (h := ?_)
    exact i_P_look_20 X (hk := by omega) (hn := by omega) (hp := ⟨_, _, by simp only [F_look]; rw [if_neg (fun h => h.1 c1)], rfl, CS.of hI0⟩)
  · skip
    refine i_P_look_4 X (h := ?_)
    refine i_P_look_5 X (h := ?_)
    refine i_P_look_6 X (hM := by assumption) (hC := ct_P_isMadeFolder (cB := cB) G hm hI0 f) (hk := by omega) (hn := by omega) (h := fun v6 M6 hp6 => ?_)
    obtain ⟨rfl, rfl⟩ := hp6
    refine i_P_look_9 X (h1 := fun c9 => ?_) (h2 := fun c9 => ?_)
    · skip
      have f9 := bI_eq0 c9
      refine i_P_look_19 X (h := ?_)
      exact i_P_look_20 X (hk := by omega) (hn := by omega) (hp := ⟨_, _, by simp only [F_look]; rw [if_neg (fun h => f9 h.2.1)], rfl, CS.of hI0⟩)
    · skip
      have f9 := bI_ne0 c9
      refine i_P_look_12 X (h := ?_)
      refine i_P_look_13 X (hC := ct_P_isName n) (hk := by omega) (hn := by omega) (h := fun v13 M13 hp13 => ?_)
      obtain ⟨rfl, rfl⟩ := hp13
      refine i_P_look_16 X (h1 := fun c16 => ?_) (h2 := fun c16 => ?_)
      · skip
        have f16 := bI_ne0 c16
        obtain ⟨f1, hf1, rfl⟩ := ix_of f9.1 (by omega)
        obtain ⟨n1, hn1, rfl⟩ := ix_of (m := 8) f16 (by decide)
        refine i_P_look_21 X (h := ?_)
        refine i_P_look_22 X (h := ?_)
        refine i_P_look_23 X (hM := by assumption) (hC := ct_P_findPlaces (cB := cB) G hI0 t) (hk := by omega) (hn := by omega) (h := fun v23 M23 hp23 => ?_)
        obtain ⟨rfl, pl1, hpl1, rfl⟩ := hp23
        have hI1 := IC.places hI0 pl1
        have hIx1 := hI1
        obtain ⟨hO1, hNa1, hPa1, hNd1, hNi1⟩ := hIx1
        refine i_P_look_26 X (h := ?_)
        refine i_P_look_27 X (h := ?_)
        refine i_P_look_28 X (h := ?_)
        refine i_P_look_29 X (hM := by assumption) (hC := ct_P_entryAt (cB := cB) G hI1 f1 n1) (hk := by omega) (hn := by omega) (h := fun v29 M29 hp29 => ?_)
        obtain ⟨rfl, rfl⟩ := hp29
        exact i_P_look_32 X (hk := by omega) (hn := by omega) (hp := ⟨_, _, by simp only [F_look]; rw [if_pos ⟨c1, f9, f16⟩, nI_clamp (n := f1) (by omega), nI_clamp (n := n1) (by omega)]; unfold entT; rw [entL_congr (p1 := pl1) (fun i hi => hpl1 i hi) 24 0 (by omega)], rfl, CS.of hI1⟩)
      · skip
        have f16 := bI_eq0 c16
        refine i_P_look_19 X (h := ?_)
        exact i_P_look_20 X (hk := by omega) (hn := by omega) (hp := ⟨_, _, by simp only [F_look]; rw [if_neg (fun h => f16 h.2.2)], rfl, CS.of hI0⟩)
def F_next : sS → Int32 → Int32 → Int32 → Int32 × sS
  | ((w, g), (ck, m, ch), (dc, dm, dh), ev, sp, vs, ds, dv), t, f, n => (if ¬ t < 0 ∧ fdr m vs f ∧ nam n then nI (fnL (fun i => plc (sp i) t) f.toNatClampNeg (8 - n.toNatClampNeg) n.toNatClampNeg) else -1, ((w, g), (ck, m, ch), (dc, dm, dh), ev, sp, vs, ds, dv))
set_option maxRecDepth 20000 in
set_option maxHeartbeats 1000000 in
theorem ct_P_next {l : Launch} {D : va_G} {tys : List (ClassId × FieldType)} {M : mM} {cI cB cN : ClassId} {h0 : Nat} {w g ck ch dc dh ev : Int32} {m dm : Nat} {sp ds : Nat → List (Int32 × Int32)} {vs dv : Nat → List vV} (G : tys[0]? = some (cI, .int) ∧ tys[1]? = some (cB, .boolean) ∧ tys[2]? = some (cN, .object RX0)) (hm : m ≤ 24) (hC : CS M cI cN h0 ((w, g), (ck, m, ch), (dc, dm, dh), ev, sp, vs, ds, dv)) (t f n : Int32) : Ct_P_next l D tys 0 0 [.ref h0, .int t, .int f, .int n] M (fun v M1 => ∃ r s1, F_next ((w, g), (ck, m, ch), (dc, dm, dh), ev, sp, vs, ds, dv) t f n = (r, s1) ∧ v = some (.int r) ∧ CS M1 cI cN h0 s1) := by
  refine Ct.of (cc := c_P_next) (maxL := 4) (ret := (some (.int))) (L0 := [some (.ref h0), some (.int t), some (.int f), some (.int n)]) (by decide) (by intro v hv; simp only [List.mem_cons, List.not_mem_nil, or_false] at hv; rcases hv with rfl | rfl | rfl | rfl <;> first | rfl | exact mRf_cat (mRf_rf _)) (by simp) rfl ?_
  intro z ws0 hl hD ht X1 X2
  subst hl; subst hD; subst ht
  have X := And.intro X1 X2
  clear X1 X2
  obtain ⟨na, pa, nd, ow, sr, vr, dr, er, pl, hI⟩ := hC
  have hI0 := hI
  obtain ⟨hO, hNa, hPa, hNd, hNi⟩ := hI
  refine i_P_next_0 X (h := ?_)
  refine i_P_next_1 X (h1 := fun c1 => ?_) (h2 := fun c1 => ?_)
  · skip
    refine i_P_next_19 X (h := ?_)
    exact i_P_next_20 X (hk := by omega) (hn := by omega) (hp := ⟨_, _, by simp only [F_next]; rw [if_neg (fun h => h.1 c1)], rfl, CS.of hI0⟩)
  · skip
    refine i_P_next_4 X (h := ?_)
    refine i_P_next_5 X (h := ?_)
    refine i_P_next_6 X (hM := by assumption) (hC := ct_P_isMadeFolder (cB := cB) G hm hI0 f) (hk := by omega) (hn := by omega) (h := fun v6 M6 hp6 => ?_)
    obtain ⟨rfl, rfl⟩ := hp6
    refine i_P_next_9 X (h1 := fun c9 => ?_) (h2 := fun c9 => ?_)
    · skip
      have f9 := bI_eq0 c9
      refine i_P_next_19 X (h := ?_)
      exact i_P_next_20 X (hk := by omega) (hn := by omega) (hp := ⟨_, _, by simp only [F_next]; rw [if_neg (fun h => f9 h.2.1)], rfl, CS.of hI0⟩)
    · skip
      have f9 := bI_ne0 c9
      refine i_P_next_12 X (h := ?_)
      refine i_P_next_13 X (hC := ct_P_isName n) (hk := by omega) (hn := by omega) (h := fun v13 M13 hp13 => ?_)
      obtain ⟨rfl, rfl⟩ := hp13
      refine i_P_next_16 X (h1 := fun c16 => ?_) (h2 := fun c16 => ?_)
      · skip
        have f16 := bI_ne0 c16
        obtain ⟨f1, hf1, rfl⟩ := ix_of f9.1 (by omega)
        obtain ⟨n1, hn1, rfl⟩ := ix_of (m := 8) f16 (by decide)
        refine i_P_next_21 X (h := ?_)
        refine i_P_next_22 X (h := ?_)
        refine i_P_next_23 X (hM := by assumption) (hC := ct_P_findPlaces (cB := cB) G hI0 t) (hk := by omega) (hn := by omega) (h := fun v23 M23 hp23 => ?_)
        obtain ⟨rfl, pl1, hpl1, rfl⟩ := hp23
        have hI1 := IC.places hI0 pl1
        have hIx1 := hI1
        obtain ⟨hO1, hNa1, hPa1, hNd1, hNi1⟩ := hIx1
        refine i_P_next_26 X (h := ?_)
        refine i_P_next_27 X (h := ?_)
        refine i_P_next_28 X (h := ?_)
        refine i_P_next_29 X (hM := by assumption) (hC := ct_P_firstName (cB := cB) G hI1 f1 n1 (by omega)) (hk := by omega) (hn := by omega) (h := fun v29 M29 hp29 => ?_)
        obtain ⟨rfl, rfl⟩ := hp29
        exact i_P_next_32 X (hk := by omega) (hn := by omega) (hp := ⟨_, _, by simp only [F_next]; rw [if_pos ⟨c1, f9, f16⟩, nI_clamp (n := f1) (by omega), nI_clamp (n := n1) (by omega)]; rw [fnL_congr (p1 := pl1) (fun i hi => hpl1 i hi)], rfl, CS.of hI1⟩)
      · skip
        have f16 := bI_eq0 c16
        refine i_P_next_19 X (h := ?_)
        exact i_P_next_20 X (hk := by omega) (hn := by omega) (hp := ⟨_, _, by simp only [F_next]; rw [if_neg (fun h => f16 h.2.2)], rfl, CS.of hI0⟩)
