/-- a row of references, told by another function that agrees in its range -/
theorem R_refs {z : zT} {pc : Nat} {L : List (Option Value)} {st : List Value} {M : mM} {k n a w : Nat} {cA : ClassId} {f g : Nat → Option Nat} (hM : M a = some (.inl (cA, w, .inr (.inr (.inr (.inr f)))))) (hfg : ∀ i, i < w → f i = g i) (h : RN z pc L st (mS M a (.inl (cA, w, .inr (.inr (.inr (.inr g)))))) k n) : RN z pc L st M k n := by
  obtain ⟨p, l, e, R, s, m, args, below, meth, c, Q, A, D, tys⟩ := z
  intro H locs ls ws hR hP hD hS hL
  obtain ⟨q, hq⟩ := (hR _ _).mp hM
  have e : vp_cell cA (w, .inr (.inr (.inr (.inr f)))) = vp_cell cA (w, .inr (.inr (.inr (.inr g)))) := by
    rw [vp_cell_q, vp_cell_q]
    unfold arrV
    have hh : (Array.ofFn (n := w) fun j => va_rf (f j.val)) = Array.ofFn (n := w) fun j => va_rf (g j.val) := by
      congr 1
      funext j
      rw [hfg j.val j.isLt]
    rw [hh]
  refine h H locs ls _ (mR_set hR hD hq) (hP.set hD hq ?_ (fun _ _ => rfl)) (hD.set hq) hS hL
  have h1 : H[a]? = some (vp_cell cA (w, .inr (.inr (.inr (.inr f))))) := hP q _ hq
  rw [e] at h1
  exact h1
def clmV (x : Int32) : Int32 := if 0 < (if x < 1000 then x else 1000) then (if x < 1000 then x else 1000) else 0
def initS (x y : Int32) : sS := ((clmV x, clmV y), (0, 1, 0), (0, 1, 0), 0, fun _ => [], fun _ => [], fun _ => [], fun _ => [])
set_option maxRecDepth 20000 in
set_option maxHeartbeats 2000000 in
theorem lp_P_init {z : zT} {ws0 : va_W} {cI cB cN : ClassId} {h0 na pa : Nat} {x y : Int32} (G : GT z cI cB cN) {l1 l2 : Option Value}
    (X : B_P_init z ws0 26 144 (fun v M1 => v = none ∧ CS M1 cI cN h0 (initS x y))) : ∀ (n j : Nat) (M : mM) (gr : Nat → Option Nat) (nd : Nat → Nat), j + n = 24 → M h0 = some (.inr (3, [.int (clmV x), .int (clmV y), .ref na, .ref pa, .int 0, .int 1, .int 0, .int 0, .int 1, .int 0, .int 0])) → M na = some (.inl (cN, 24, .inr (.inr (.inr (.inr gr))))) → (∃ pl, M pa = some (.inl (cI, 24, .inl pl))) → (∀ i, i < j → gr i = some (nd i) ∧ M (nd i) = some (.inr (0, [.null, .null, .null, .null]))) → (∀ i k, i < j → k < j → nd i = nd k → i = k) → RN z 74 [some (.ref h0), l1, l2, some (.int (nI j))] [] M (2 + j) (48 + 4 * j) := by
  intro n
  induction n with
  | zero =>
    intro j M gr nd hj hO hNa hPa hNd hNi
    have hj : j = 24 := by omega
    subst hj
    obtain ⟨pl, hPa⟩ := hPa
    refine R_refs hNa (g := fun i => some (nd i)) (fun i hi => (hNd i hi).1) ?_
    have hI : IC (mS M na (.inl (cN, 24, .inr (.inr (.inr (.inr (fun i => some (nd i)))))))) cI cN h0 na pa nd (fun _ => 0) (fun _ => none) (fun _ => none) (fun _ => none) (fun _ => none) pl (clmV x) (clmV y) 0 (nI 1) 0 0 (nI 1) 0 0 (fun _ => []) (fun _ => []) (fun _ => []) (fun _ => []) := by
      refine ⟨mS_of_ne hNa hO (by intro q; cases q), mS_self _ _ _, mS_of_ne hNa hPa (by intro q; cases q), fun i hi => ⟨mS_of_ne hNa (hNd i hi).2 (by intro q; cases q), rfl, rfl, rfl, rfl⟩, hNi⟩
    refine i_P_init_74 X (h := ?_)
    refine i_P_init_75 X (h := ?_)
    refine i_P_init_77 X (h1 := fun c77 => ?_) (h2 := fun c77 => ?_)
    · skip
      exact i_P_init_99 X (hk := by omega) (hn := by omega) (hp := ⟨rfl, CS.of hI⟩)
    · skip
      exact absurd (by decide) c77 --end
  | succ n ih =>
    intro j M gr nd hj hO hNa hPa hNd hNi
    refine i_P_init_74 X (h := ?_)
    refine i_P_init_75 X (h := ?_)
    refine i_P_init_77 X (h1 := fun c77 => ?_) (h2 := fun c77 => ?_)
    · skip
      exact absurd c77 (nI_ge (a := j) (b := 24) (by omega) (by decide)) --end
    · skip
      refine i_P_init_80 X (h := ?_)
      refine i_P_init_81 X (hM := by assumption) (h := ?_)
      refine i_P_init_84 X (h := ?_)
      refine i_P_init_85 X (hk := by omega) (hn := by omega) (h := fun q85 hq85 => ?_)
      refine i_P_init_88 X (h := ?_)
      refine i_P_init_89 X (hC := ct_N_init (a := none) (b := none) (c := none) (d := none) (mS_self _ _ _)) (hk := by omega) (hn := by omega) (h := fun v89 M89 hp89 => ?_)
      obtain ⟨rfl, rfl⟩ := hp89
      rw [mS_mS]
      refine i_P_init_92 X G (hM := mS_of_new hq85 hNa) (hv := mS_self _ _ _) (hx := rfl) (hj := by omega) (h := ?_)
      refine i_P_init_93 X (h := ?_)
      refine i_P_init_96 X (h := ?_)
      rw [nI_1]
      obtain ⟨pl, hPa⟩ := hPa
      refine R_widen X.1 (k1 := 2 + (j + 1)) (n1 := 48 + 4 * (j + 1)) (by omega) (by omega) ?_
      have hNa' := mS_of_new (e := .inr (0, [.null, .null, .null, .null])) hq85 hNa
      refine ih (j + 1) _ _ (va_up nd j q85) (by omega) (mS_of_ne hNa' (mS_of_new hq85 hO) (by intro q; cases q)) (mS_self _ _ _) ⟨pl, mS_of_ne hNa' (mS_of_new hq85 hPa) (by intro q; cases q)⟩ (fun i hi => ?_) (fun i k hi hk e => ?_)
      · by_cases hij : i = j
        · subst hij
          rw [va_up_self, va_up_self]
          exact ⟨rfl, mS_of_ne hNa' (mS_self _ _ _) (by intro q; cases q)⟩
        · rw [va_up_ne _ _ hij, va_up_ne _ _ hij]
          exact ⟨(hNd i (by omega)).1, mS_of_ne hNa' (mS_of_new hq85 (hNd i (by omega)).2) (by intro q; cases q)⟩
      · have hne : ∀ i, i < j → nd i ≠ q85 := fun i hi e => by
          have h2 := (hNd i hi).2
          rw [e, hq85] at h2
          cases h2
        by_cases hij : i = j
        · by_cases hkj : k = j
          · rw [hij, hkj]
          · rw [hij, va_up_self, va_up_ne _ _ hkj] at e
            exact absurd e.symm (hne k (by omega))
        · by_cases hkj : k = j
          · rw [hkj, va_up_self, va_up_ne _ _ hij] at e
            exact absurd e (hne i (by omega))
          · rw [va_up_ne _ _ hij, va_up_ne _ _ hkj] at e
            exact hNi i k (by omega) (by omega) e
set_option maxRecDepth 20000 in
set_option maxHeartbeats 1000000 in
theorem ct_P_init {l : Launch} {D : va_G} {tys : List (ClassId × FieldType)} {M : mM} {cI cB cN : ClassId} (G : tys[0]? = some (cI, .int) ∧ tys[1]? = some (cB, .boolean) ∧ tys[2]? = some (cN, .object RX0)) {h0 : Nat} (hO : M h0 = some (.inr (3, [.int 0, .int 0, .null, .null, .int 0, .int 0, .int 0, .int 0, .int 0, .int 0, .int 0]))) (x y : Int32) : Ct_P_init l D tys 26 144 [.ref h0, .int x, .int y] M (fun v M1 => v = none ∧ CS M1 cI cN h0 (initS x y)) := by
  refine Ct.of (cc := c_P_init) (maxL := 4) (ret := none) (L0 := [some (.ref h0), some (.int x), some (.int y), none]) (by decide) (by intro v hv; simp only [List.mem_cons, List.not_mem_nil, or_false] at hv; rcases hv with rfl | rfl | rfl <;> first | rfl | exact mRf_cat (mRf_rf _)) (by simp) rfl ?_
  intro z ws0 hl hD ht X1 X2
  subst hl; subst hD; subst ht
  have X := And.intro X1 X2
  clear X1 X2
  refine i_P_init_0 X (h := ?_)
  refine i_P_init_1 X (h := ?_)
  refine i_P_init_4 X (h := ?_)
  refine i_P_init_5 X (h := ?_)
  refine i_P_init_7 X G (w := 24) (hv0 := by decide) (hv := by decide) (hb := by decide) (hk := by omega) (hn := by omega) (h := fun q7 hq7 => ?_)
  refine i_P_init_10 X (hM := mS_of_new hq7 hO) (h := ?_)
  refine i_P_init_13 X (h := ?_)
  refine i_P_init_14 X (h := ?_)
  refine i_P_init_16 X G (w := 24) (hv0 := by decide) (hv := by decide) (hb := by decide) (hk := by omega) (hn := by omega) (h := fun q16 hq16 => ?_)
  refine i_P_init_18 X (hM := mS_of_new hq16 (mS_self _ _ _)) (h := ?_)
  refine i_P_init_21 X (h := ?_)
  refine i_P_init_22 X (h := ?_)
  refine i_P_init_23 X (hM := mS_self _ _ _) (h := ?_)
  refine i_P_init_26 X (h := ?_)
  refine i_P_init_27 X (h := ?_)
  refine i_P_init_28 X (hM := mS_self _ _ _) (h := ?_)
  refine i_P_init_31 X (h := ?_)
  refine i_P_init_32 X (h := ?_)
  refine i_P_init_33 X (hM := mS_self _ _ _) (h := ?_)
  refine i_P_init_36 X (h := ?_)
  refine i_P_init_37 X (h := ?_)
  refine i_P_init_38 X (hM := mS_self _ _ _) (h := ?_)
  refine i_P_init_41 X (h := ?_)
  refine i_P_init_42 X (h := ?_)
  refine i_P_init_43 X (hM := mS_self _ _ _) (h := ?_)
  refine i_P_init_46 X (h := ?_)
  refine i_P_init_47 X (h := ?_)
  refine i_P_init_48 X (hM := mS_self _ _ _) (h := ?_)
  refine i_P_init_51 X (h := ?_)
  refine i_P_init_52 X (h := ?_)
  refine i_P_init_53 X (hM := mS_self _ _ _) (h := ?_)
  refine i_P_init_56 X (h := ?_)
  refine i_P_init_57 X (h := ?_)
  refine i_P_init_58 X (hC := ct_P_clamp x) (hk := by omega) (hn := by omega) (h := fun v58 M58 hp58 => ?_)
  obtain ⟨rfl, rfl⟩ := hp58
  refine i_P_init_61 X (hM := mS_self _ _ _) (h := ?_)
  refine i_P_init_64 X (h := ?_)
  refine i_P_init_65 X (h := ?_)
  refine i_P_init_66 X (hC := ct_P_clamp y) (hk := by omega) (hn := by omega) (h := fun v66 M66 hp66 => ?_)
  obtain ⟨rfl, rfl⟩ := hp66
  refine i_P_init_69 X (hM := mS_self _ _ _) (h := ?_)
  refine i_P_init_72 X (h := ?_)
  refine i_P_init_73 X (h := ?_)
  simp only [mS_mS]
  have hn7 := mS_self M q7 (.inl (cN, 24, .inr (.inr (.inr (.inr (fun _ => none))))))
  refine lp_P_init (cB := cB) (x := x) (y := y) G X 24 0 _ (fun _ => none) (fun _ => 0) rfl (mS_self _ _ _) ?_ ⟨fun _ => 0, ?_⟩ (fun i hi => absurd hi (by omega)) (fun i k hi => absurd hi (by omega))
  · exact mS_of_ne (mS_of_new hq16 (mS_self _ _ _)) (mS_of_new hq16 (mS_of_ne (mS_of_new hq7 hO) hn7 (by intro q; cases q))) (by intro q; cases q)
  · exact mS_of_ne (mS_of_new hq16 (mS_self _ _ _)) (mS_self _ _ _) (by intro q; cases q)
