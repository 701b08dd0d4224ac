/-- the classes, and what the tables say that no word may carry along -/
def mN (U : State) : Prop := va_AO RX0 U ∧ va_Nw (.methodLinkNest RX3 51 y_N_init RX3) U ∧ va_Nw (.castable "[I" "java/lang/Cloneable") U
def mK (D : va_G) (tys : List (ClassId × FieldType)) (U : State) : Prop := va_K D vwCl tys U ∧ mN U
theorem mK.warm {D : va_G} {tys : List (ClassId × FieldType)} {s U : State} (hW : s.WarmedH U.vm) (h : mK D tys s) : mK D tys U := ⟨va_K.moved hW.alike h.1, va_AO.moved hW.alike h.2.1, va_Nw.warmM hW h.2.2.1, va_Nw.warmC hW h.2.2.2⟩
theorem mK.same {D : va_G} {tys : List (ClassId × FieldType)} {s U : State} (hW : s.vm = U.vm) (h : mK D tys s) : mK D tys U := ⟨va_K.moved (by rw [hW]; exact Vm.Alike.refl _) h.1, va_AO.moved (by rw [hW]; exact Vm.Alike.refl _) h.2.1, va_Nw.same rfl hW h.2.2.1, va_Nw.same rfl hW h.2.2.2⟩
abbrev zT : Type := Program × Launch × Env × Room × State × MethodId × Array Value × List Frame × Method × Code × (State → Prop) × (Nat → Prop) × va_G × List (ClassId × FieldType)
/-- the walk's goal: from pc, locals L, operands st, memory M, with k cells of n slots made so far, the machine comes to its end -/
def RN : zT → Nat → List (Option Value) → List Value → mM → Nat → Nat → Prop
  | (p, l, e, R, s, m, args, below, meth, c, Q, A, D, _), pc, L, st, M, k, n =>
    ∀ (H : Heap) (locs : List Loc) (ls : Array Slot) (ws : va_W), mR M ws → va_P D vwCl ws H → va_D A ws → va_S A s.heap H locs → lL ls L → W p l e R s m args below meth c H locs k n Q (F0 m pc ls st)
/-- what a method's walk stands on -/
def BX : zT → ByteArray → Nat → String → String → Nat → Nat → Prop
  | (p, _, _, R, s, m, args, _, meth, c, _, A, D, tys), cc, nL, own, nm, F, Lo =>
    p.tables.exec = Jvm.exec ∧ c.code = cc ∧ c.maxLocals = nL ∧ s.vm.findClass own = some m.cls ∧ meth.name = nm ∧ (∀ w ∈ lw_big, w.before args s = true) ∧ mK D tys s ∧ (∀ q, s.heap.size ≤ q → A q) ∧ R.frames = F ∧ R.locals = Lo
theorem R_iconst {z : zT} {cc : ByteArray} {nL : Nat} {own nm : String} {F Lo : Nat} (X : BX z cc nL own nm F Lo) {pc : Nat} {L : List (Option Value)} {st : List Value} {M : mM} {k n : Nat} {i : Int} {v : Int32} (hd : decode cc pc = .ok (.iconst i, 1)) (hv : Int32.ofInt i = v) (h : RN z (pc + 1) L (.int v :: st) M k n) : RN z pc L (st) M k n := by
  obtain ⟨p, l, e, R, s, m, args, below, meth, c, Q, A, D, tys⟩ := z
  intro H locs ls ws hR hP hD hS hL
  exact lv_iconst X.1 X.2.1 hd hv (h H locs ls ws hR hP hD hS hL)
theorem R_bipush {z : zT} {cc : ByteArray} {nL : Nat} {own nm : String} {F Lo : Nat} (X : BX z cc nL own nm F Lo) {pc : Nat} {L : List (Option Value)} {st : List Value} {M : mM} {k n : Nat} {i : Int} {v : Int32} (hd : decode cc pc = .ok (.bipush i, 2)) (hv : (Int8.ofInt i).toInt32 = v) (h : RN z (pc + 2) L (.int v :: st) M k n) : RN z pc L (st) M k n := by
  obtain ⟨p, l, e, R, s, m, args, below, meth, c, Q, A, D, tys⟩ := z
  intro H locs ls ws hR hP hD hS hL
  exact lv_bipush X.1 X.2.1 hd hv (h H locs ls ws hR hP hD hS hL)
theorem R_sipush {z : zT} {cc : ByteArray} {nL : Nat} {own nm : String} {F Lo : Nat} (X : BX z cc nL own nm F Lo) {pc : Nat} {L : List (Option Value)} {st : List Value} {M : mM} {k n : Nat} {i : Int} {v : Int32} (hd : decode cc pc = .ok (.sipush i, 3)) (hv : (Int16.ofInt i).toInt32 = v) (h : RN z (pc + 3) L (.int v :: st) M k n) : RN z pc L (st) M k n := by
  obtain ⟨p, l, e, R, s, m, args, below, meth, c, Q, A, D, tys⟩ := z
  intro H locs ls ws hR hP hD hS hL
  exact lv_sipush X.1 X.2.1 hd hv (h H locs ls ws hR hP hD hS hL)
theorem R_lconst {z : zT} {cc : ByteArray} {nL : Nat} {own nm : String} {F Lo : Nat} (X : BX z cc nL own nm F Lo) {pc : Nat} {L : List (Option Value)} {st : List Value} {M : mM} {k n : Nat} {i : Fin 2} {v : Int64} (hd : decode cc pc = .ok (.lconst i, 1)) (hv : Int64.ofNat (i : Nat) = v) (h : RN z (pc + 1) L (.long v :: st) M k n) : RN z pc L (st) M k n := by
  obtain ⟨p, l, e, R, s, m, args, below, meth, c, Q, A, D, tys⟩ := z
  intro H locs ls ws hR hP hD hS hL
  exact lv_lconst X.1 X.2.1 hd hv (h H locs ls ws hR hP hD hS hL)
theorem R_null {z : zT} {cc : ByteArray} {nL : Nat} {own nm : String} {F Lo : Nat} (X : BX z cc nL own nm F Lo) {pc : Nat} {L : List (Option Value)} {st : List Value} {M : mM} {k n : Nat}  (hd : decode cc pc = .ok (.aconst_null, 1))  (h : RN z (pc + 1) L (.null :: st) M k n) : RN z pc L (st) M k n := by
  obtain ⟨p, l, e, R, s, m, args, below, meth, c, Q, A, D, tys⟩ := z
  intro H locs ls ws hR hP hD hS hL
  exact lv_null X.1 X.2.1 hd (h H locs ls ws hR hP hD hS hL)
theorem R_ldc {z : zT} {cc : ByteArray} {nL : Nat} {own nm : String} {F Lo : Nat} (X : BX z cc nL own nm F Lo) {pc : Nat} {L : List (Option Value)} {st : List Value} {M : mM} {k n : Nat} {i : Nat} {v : Int32} (hd : decode cc pc = .ok (.ldc i, 2)) (hw : Jvm.Cond.constant own i v ∈ lw_big) (h : RN z (pc + 2) L (.int v :: st) M k n) : RN z pc L (st) M k n := by
  obtain ⟨p, l, e, R, s, m, args, below, meth, c, Q, A, D, tys⟩ := z
  intro H locs ls ws hR hP hD hS hL
  exact lv_ldc X.1 X.2.1 X.2.2.2.1 (X.2.2.2.2.2.1 _ hw) hd (h H locs ls ws hR hP hD hS hL)
theorem R_ldc2 {z : zT} {cc : ByteArray} {nL : Nat} {own nm : String} {F Lo : Nat} (X : BX z cc nL own nm F Lo) {pc : Nat} {L : List (Option Value)} {st : List Value} {M : mM} {k n : Nat} {i : Nat} {v : Int64} (hd : decode cc pc = .ok (.ldc2_w i, 3)) (hw : Jvm.Cond.constantLong own i v ∈ lw_big) (h : RN z (pc + 3) L (.long v :: st) M k n) : RN z pc L (st) M k n := by
  obtain ⟨p, l, e, R, s, m, args, below, meth, c, Q, A, D, tys⟩ := z
  intro H locs ls ws hR hP hD hS hL
  exact lv_ldc2 X.1 X.2.1 X.2.2.2.1 (X.2.2.2.2.2.1 _ hw) hd (h H locs ls ws hR hP hD hS hL)
theorem R_iload_n {z : zT} {cc : ByteArray} {nL : Nat} {own nm : String} {F Lo : Nat} (X : BX z cc nL own nm F Lo) {pc : Nat} {L : List (Option Value)} {st : List Value} {M : mM} {k n : Nat} {j : Fin 4} {i : Nat} {x : Int32} (hd : decode cc pc = .ok (.iload_n j, 1)) (hj : (j : Nat) = i) (hl : L[i]? = some (some (.int x))) (h : RN z (pc + 1) L (.int x :: st) M k n) : RN z pc L (st) M k n := by
  obtain ⟨p, l, e, R, s, m, args, below, meth, c, Q, A, D, tys⟩ := z
  intro H locs ls ws hR hP hD hS hL
  exact lv_iload_n X.1 X.2.1 hd hj (hL.2.2 _ _ hl).1 (h H locs ls ws hR hP hD hS hL)
theorem R_iload {z : zT} {cc : ByteArray} {nL : Nat} {own nm : String} {F Lo : Nat} (X : BX z cc nL own nm F Lo) {pc : Nat} {L : List (Option Value)} {st : List Value} {M : mM} {k n : Nat} {i : Nat} {x : Int32} (hd : decode cc pc = .ok (.iload i, 2)) (hl : L[i]? = some (some (.int x))) (h : RN z (pc + 2) L (.int x :: st) M k n) : RN z pc L (st) M k n := by
  obtain ⟨p, l, e, R, s, m, args, below, meth, c, Q, A, D, tys⟩ := z
  intro H locs ls ws hR hP hD hS hL
  exact lv_iload X.1 X.2.1 hd (hL.2.2 _ _ hl).1 (h H locs ls ws hR hP hD hS hL)
theorem R_aload_n {z : zT} {cc : ByteArray} {nL : Nat} {own nm : String} {F Lo : Nat} (X : BX z cc nL own nm F Lo) {pc : Nat} {L : List (Option Value)} {st : List Value} {M : mM} {k n : Nat} {j : Fin 4} {i : Nat} {v : Value} (hd : decode cc pc = .ok (.aload_n j, 1)) (hj : (j : Nat) = i) (hl : L[i]? = some (some v)) (hv : mRf v) (h : RN z (pc + 1) L (v :: st) M k n) : RN z pc L (st) M k n := by
  obtain ⟨p, l, e, R, s, m, args, below, meth, c, Q, A, D, tys⟩ := z
  intro H locs ls ws hR hP hD hS hL
  rcases hv with rfl | ⟨a, rfl⟩
  · exact lv_aload_nN X.1 X.2.1 hd hj (hL.2.2 _ _ hl).1 (h H locs ls ws hR hP hD hS hL)
  · exact lv_aload_n X.1 X.2.1 hd hj (hL.2.2 _ _ hl).1 (h H locs ls ws hR hP hD hS hL)
theorem R_aload {z : zT} {cc : ByteArray} {nL : Nat} {own nm : String} {F Lo : Nat} (X : BX z cc nL own nm F Lo) {pc : Nat} {L : List (Option Value)} {st : List Value} {M : mM} {k n : Nat} {i : Nat} {v : Value} (hd : decode cc pc = .ok (.aload i, 2)) (hl : L[i]? = some (some v)) (hv : mRf v) (h : RN z (pc + 2) L (v :: st) M k n) : RN z pc L (st) M k n := by
  obtain ⟨p, l, e, R, s, m, args, below, meth, c, Q, A, D, tys⟩ := z
  intro H locs ls ws hR hP hD hS hL
  rcases hv with rfl | ⟨a, rfl⟩
  · exact lv_aloadN X.1 X.2.1 hd (hL.2.2 _ _ hl).1 (h H locs ls ws hR hP hD hS hL)
  · exact lv_aload X.1 X.2.1 hd (hL.2.2 _ _ hl).1 (h H locs ls ws hR hP hD hS hL)
theorem R_istore_n {z : zT} {cc : ByteArray} {nL : Nat} {own nm : String} {F Lo : Nat} (X : BX z cc nL own nm F Lo) {pc : Nat} {L : List (Option Value)} {st : List Value} {M : mM} {k n : Nat} {j : Fin 4} {i : Nat} {x : Int32} (hd : decode cc pc = .ok (.istore_n j, 1)) (hj : (j : Nat) = i) (hi : i < L.length) (h : RN z (pc + 1) (L.set i (some (.int x))) st M k n) : RN z pc L (.int x :: st) M k n := by
  obtain ⟨p, l, e, R, s, m, args, below, meth, c, Q, A, D, tys⟩ := z
  intro H locs ls ws hR hP hD hS hL
  exact lv_istore_n X.1 X.2.1 hd hj (lL_has hL) hi rfl (fun ls' hl' => h H locs ls' ws hR hP hD hS (lL_store hL hi rfl hl'))
theorem R_istore {z : zT} {cc : ByteArray} {nL : Nat} {own nm : String} {F Lo : Nat} (X : BX z cc nL own nm F Lo) {pc : Nat} {L : List (Option Value)} {st : List Value} {M : mM} {k n : Nat} {i : Nat} {x : Int32} (hd : decode cc pc = .ok (.istore i, 2))  (hi : i < L.length) (h : RN z (pc + 2) (L.set i (some (.int x))) st M k n) : RN z pc L (.int x :: st) M k n := by
  obtain ⟨p, l, e, R, s, m, args, below, meth, c, Q, A, D, tys⟩ := z
  intro H locs ls ws hR hP hD hS hL
  exact lv_istore X.1 X.2.1 hd (lL_has hL) hi rfl (fun ls' hl' => h H locs ls' ws hR hP hD hS (lL_store hL hi rfl hl'))
theorem R_astore_n {z : zT} {cc : ByteArray} {nL : Nat} {own nm : String} {F Lo : Nat} (X : BX z cc nL own nm F Lo) {pc : Nat} {L : List (Option Value)} {st : List Value} {M : mM} {k n : Nat} {j : Fin 4} {i : Nat} {v : Value} (hd : decode cc pc = .ok (.astore_n j, 1)) (hj : (j : Nat) = i) (hv : mRf v) (hi : i < L.length) (h : RN z (pc + 1) (L.set i (some (v))) st M k n) : RN z pc L (v :: st) M k n := by
  obtain ⟨p, l, e, R, s, m, args, below, meth, c, Q, A, D, tys⟩ := z
  intro H locs ls ws hR hP hD hS hL
  rcases hv with rfl | ⟨a, rfl⟩
  · exact lv_astore_nN X.1 X.2.1 hd hj (lL_has hL) hi rfl (fun ls' hl' => h H locs ls' ws hR hP hD hS (lL_store hL hi rfl hl'))
  · exact lv_astore_n X.1 X.2.1 hd hj (lL_has hL) hi rfl (fun ls' hl' => h H locs ls' ws hR hP hD hS (lL_store hL hi rfl hl'))
theorem R_astore {z : zT} {cc : ByteArray} {nL : Nat} {own nm : String} {F Lo : Nat} (X : BX z cc nL own nm F Lo) {pc : Nat} {L : List (Option Value)} {st : List Value} {M : mM} {k n : Nat} {i : Nat} {v : Value} (hd : decode cc pc = .ok (.astore i, 2)) (hv : mRf v) (hi : i < L.length) (h : RN z (pc + 2) (L.set i (some (v))) st M k n) : RN z pc L (v :: st) M k n := by
  obtain ⟨p, l, e, R, s, m, args, below, meth, c, Q, A, D, tys⟩ := z
  intro H locs ls ws hR hP hD hS hL
  rcases hv with rfl | ⟨a, rfl⟩
  · exact lv_astoreN X.1 X.2.1 hd (lL_has hL) hi rfl (fun ls' hl' => h H locs ls' ws hR hP hD hS (lL_store hL hi rfl hl'))
  · exact lv_astore X.1 X.2.1 hd (lL_has hL) hi rfl (fun ls' hl' => h H locs ls' ws hR hP hD hS (lL_store hL hi rfl hl'))
theorem R_iinc {z : zT} {cc : ByteArray} {nL : Nat} {own nm : String} {F Lo : Nat} (X : BX z cc nL own nm F Lo) {pc : Nat} {L : List (Option Value)} {st : List Value} {M : mM} {k n : Nat} {i : Nat} {d : Int} {x v : Int32} (hd : decode cc pc = .ok (.iinc i d, 3)) (hl : L[i]? = some (some (.int x))) (hv : x + Int32.ofInt d = v) (h : RN z (pc + 3) (L.set i (some (.int v))) st M k n) : RN z pc L st M k n := by
  obtain ⟨p, l, e, R, s, m, args, below, meth, c, Q, A, D, tys⟩ := z
  intro H locs ls ws hR hP hD hS hL
  have hi : i < L.length := (List.getElem?_eq_some_iff.mp hl).1
  obtain ⟨q, hq⟩ := List.getElem?_of_mem (lA_mem (q := (i, Value.int x)) |>.mpr hl)
  exact lv_iinc X.1 X.2.1 hd (lL_has hL) hq hv hi rfl (fun ls' hl' => h H locs ls' ws hR hP hD hS (lL_store hL hi rfl hl'))
theorem R_iadd {z : zT} {cc : ByteArray} {nL : Nat} {own nm : String} {F Lo : Nat} (X : BX z cc nL own nm F Lo) {pc : Nat} {L : List (Option Value)} {st : List Value} {M : mM} {k n : Nat} {x y : Int32} (hd : decode cc pc = .ok (.iadd, 1))  (h : RN z (pc + 1) L (.int (x + y) :: st) M k n) : RN z pc L (.int y :: .int x :: st) M k n := by
  obtain ⟨p, l, e, R, s, m, args, below, meth, c, Q, A, D, tys⟩ := z
  intro H locs ls ws hR hP hD hS hL
  exact lv_iadd X.1 X.2.1 hd (h H locs ls ws hR hP hD hS hL)
theorem R_isub {z : zT} {cc : ByteArray} {nL : Nat} {own nm : String} {F Lo : Nat} (X : BX z cc nL own nm F Lo) {pc : Nat} {L : List (Option Value)} {st : List Value} {M : mM} {k n : Nat} {x y : Int32} (hd : decode cc pc = .ok (.isub, 1))  (h : RN z (pc + 1) L (.int (x - y) :: st) M k n) : RN z pc L (.int y :: .int x :: st) M k n := by
  obtain ⟨p, l, e, R, s, m, args, below, meth, c, Q, A, D, tys⟩ := z
  intro H locs ls ws hR hP hD hS hL
  exact lv_isub X.1 X.2.1 hd (h H locs ls ws hR hP hD hS hL)
theorem R_imul {z : zT} {cc : ByteArray} {nL : Nat} {own nm : String} {F Lo : Nat} (X : BX z cc nL own nm F Lo) {pc : Nat} {L : List (Option Value)} {st : List Value} {M : mM} {k n : Nat} {x y : Int32} (hd : decode cc pc = .ok (.imul, 1))  (h : RN z (pc + 1) L (.int (x * y) :: st) M k n) : RN z pc L (.int y :: .int x :: st) M k n := by
  obtain ⟨p, l, e, R, s, m, args, below, meth, c, Q, A, D, tys⟩ := z
  intro H locs ls ws hR hP hD hS hL
  exact lv_imul X.1 X.2.1 hd (h H locs ls ws hR hP hD hS hL)
theorem R_iand {z : zT} {cc : ByteArray} {nL : Nat} {own nm : String} {F Lo : Nat} (X : BX z cc nL own nm F Lo) {pc : Nat} {L : List (Option Value)} {st : List Value} {M : mM} {k n : Nat} {x y : Int32} (hd : decode cc pc = .ok (.iand, 1))  (h : RN z (pc + 1) L (.int (x &&& y) :: st) M k n) : RN z pc L (.int y :: .int x :: st) M k n := by
  obtain ⟨p, l, e, R, s, m, args, below, meth, c, Q, A, D, tys⟩ := z
  intro H locs ls ws hR hP hD hS hL
  exact lv_iand X.1 X.2.1 hd (h H locs ls ws hR hP hD hS hL)
theorem R_ior {z : zT} {cc : ByteArray} {nL : Nat} {own nm : String} {F Lo : Nat} (X : BX z cc nL own nm F Lo) {pc : Nat} {L : List (Option Value)} {st : List Value} {M : mM} {k n : Nat} {x y : Int32} (hd : decode cc pc = .ok (.ior, 1))  (h : RN z (pc + 1) L (.int (x ||| y) :: st) M k n) : RN z pc L (.int y :: .int x :: st) M k n := by
  obtain ⟨p, l, e, R, s, m, args, below, meth, c, Q, A, D, tys⟩ := z
  intro H locs ls ws hR hP hD hS hL
  exact lv_ior X.1 X.2.1 hd (h H locs ls ws hR hP hD hS hL)
theorem R_ixor {z : zT} {cc : ByteArray} {nL : Nat} {own nm : String} {F Lo : Nat} (X : BX z cc nL own nm F Lo) {pc : Nat} {L : List (Option Value)} {st : List Value} {M : mM} {k n : Nat} {x y : Int32} (hd : decode cc pc = .ok (.ixor, 1))  (h : RN z (pc + 1) L (.int (x ^^^ y) :: st) M k n) : RN z pc L (.int y :: .int x :: st) M k n := by
  obtain ⟨p, l, e, R, s, m, args, below, meth, c, Q, A, D, tys⟩ := z
  intro H locs ls ws hR hP hD hS hL
  exact lv_ixor X.1 X.2.1 hd (h H locs ls ws hR hP hD hS hL)
theorem R_idiv {z : zT} {cc : ByteArray} {nL : Nat} {own nm : String} {F Lo : Nat} (X : BX z cc nL own nm F Lo) {pc : Nat} {L : List (Option Value)} {st : List Value} {M : mM} {k n : Nat} {x y : Int32} (hd : decode cc pc = .ok (.idiv, 1)) (hy : ¬ y = 0) (h : RN z (pc + 1) L (.int (x / y) :: st) M k n) : RN z pc L (.int y :: .int x :: st) M k n := by
  obtain ⟨p, l, e, R, s, m, args, below, meth, c, Q, A, D, tys⟩ := z
  intro H locs ls ws hR hP hD hS hL
  exact lv_idiv X.1 X.2.1 hd hy (h H locs ls ws hR hP hD hS hL)
theorem R_irem {z : zT} {cc : ByteArray} {nL : Nat} {own nm : String} {F Lo : Nat} (X : BX z cc nL own nm F Lo) {pc : Nat} {L : List (Option Value)} {st : List Value} {M : mM} {k n : Nat} {x y : Int32} (hd : decode cc pc = .ok (.irem, 1)) (hy : ¬ y = 0) (h : RN z (pc + 1) L (.int (x - x / y * y) :: st) M k n) : RN z pc L (.int y :: .int x :: st) M k n := by
  obtain ⟨p, l, e, R, s, m, args, below, meth, c, Q, A, D, tys⟩ := z
  intro H locs ls ws hR hP hD hS hL
  exact lv_irem X.1 X.2.1 hd hy (h H locs ls ws hR hP hD hS hL)
theorem R_ineg {z : zT} {cc : ByteArray} {nL : Nat} {own nm : String} {F Lo : Nat} (X : BX z cc nL own nm F Lo) {pc : Nat} {L : List (Option Value)} {st : List Value} {M : mM} {k n : Nat} {x : Int32} (hd : decode cc pc = .ok (.ineg, 1))  (h : RN z (pc + 1) L (.int (-x) :: st) M k n) : RN z pc L (.int x :: st) M k n := by
  obtain ⟨p, l, e, R, s, m, args, below, meth, c, Q, A, D, tys⟩ := z
  intro H locs ls ws hR hP hD hS hL
  exact lv_ineg X.1 X.2.1 hd (h H locs ls ws hR hP hD hS hL)
theorem R_i2l {z : zT} {cc : ByteArray} {nL : Nat} {own nm : String} {F Lo : Nat} (X : BX z cc nL own nm F Lo) {pc : Nat} {L : List (Option Value)} {st : List Value} {M : mM} {k n : Nat} {x : Int32} (hd : decode cc pc = .ok (.i2l, 1))  (h : RN z (pc + 1) L (.long x.toInt64 :: st) M k n) : RN z pc L (.int x :: st) M k n := by
  obtain ⟨p, l, e, R, s, m, args, below, meth, c, Q, A, D, tys⟩ := z
  intro H locs ls ws hR hP hD hS hL
  exact lv_i2l X.1 X.2.1 hd rfl (h H locs ls ws hR hP hD hS hL)
theorem R_l2i {z : zT} {cc : ByteArray} {nL : Nat} {own nm : String} {F Lo : Nat} (X : BX z cc nL own nm F Lo) {pc : Nat} {L : List (Option Value)} {st : List Value} {M : mM} {k n : Nat} {x : Int64} (hd : decode cc pc = .ok (.l2i, 1))  (h : RN z (pc + 1) L (.int x.toInt32 :: st) M k n) : RN z pc L (.long x :: st) M k n := by
  obtain ⟨p, l, e, R, s, m, args, below, meth, c, Q, A, D, tys⟩ := z
  intro H locs ls ws hR hP hD hS hL
  exact lv_l2i X.1 X.2.1 hd rfl (h H locs ls ws hR hP hD hS hL)
theorem R_lcmp {z : zT} {cc : ByteArray} {nL : Nat} {own nm : String} {F Lo : Nat} (X : BX z cc nL own nm F Lo) {pc : Nat} {L : List (Option Value)} {st : List Value} {M : mM} {k n : Nat} {x y : Int64} (hd : decode cc pc = .ok (.lcmp, 1))  (h : RN z (pc + 1) L (.int (lg_cmp x y) :: st) M k n) : RN z pc L (.long y :: .long x :: st) M k n := by
  obtain ⟨p, l, e, R, s, m, args, below, meth, c, Q, A, D, tys⟩ := z
  intro H locs ls ws hR hP hD hS hL
  exact W.lcmp X.1 X.2.1 hd (h H locs ls ws hR hP hD hS hL)
theorem R_dup {z : zT} {cc : ByteArray} {nL : Nat} {own nm : String} {F Lo : Nat} (X : BX z cc nL own nm F Lo) {pc : Nat} {L : List (Option Value)} {st : List Value} {M : mM} {k n : Nat} {v : Value} (hd : decode cc pc = .ok (.dup, 1)) (hv : v.category = 1) (h : RN z (pc + 1) L (v :: v :: st) M k n) : RN z pc L (v :: st) M k n := by
  obtain ⟨p, l, e, R, s, m, args, below, meth, c, Q, A, D, tys⟩ := z
  intro H locs ls ws hR hP hD hS hL
  exact lv_dup X.1 X.2.1 hd hv (h H locs ls ws hR hP hD hS hL)
theorem R_pop {z : zT} {cc : ByteArray} {nL : Nat} {own nm : String} {F Lo : Nat} (X : BX z cc nL own nm F Lo) {pc : Nat} {L : List (Option Value)} {st : List Value} {M : mM} {k n : Nat} {v : Value} (hd : decode cc pc = .ok (.pop, 1)) (hv : v.category = 1) (h : RN z (pc + 1) L (st) M k n) : RN z pc L (v :: st) M k n := by
  obtain ⟨p, l, e, R, s, m, args, below, meth, c, Q, A, D, tys⟩ := z
  intro H locs ls ws hR hP hD hS hL
  exact lv_pop X.1 X.2.1 hd hv (h H locs ls ws hR hP hD hS hL)
theorem R_dup_x1 {z : zT} {cc : ByteArray} {nL : Nat} {own nm : String} {F Lo : Nat} (X : BX z cc nL own nm F Lo) {pc : Nat} {L : List (Option Value)} {st : List Value} {M : mM} {k n : Nat} {v w : Value} (hd : decode cc pc = .ok (.dup_x1, 1)) (hv : v.category = 1) (hw : w.category = 1) (h : RN z (pc + 1) L (v :: w :: v :: st) M k n) : RN z pc L (v :: w :: st) M k n := by
  obtain ⟨p, l, e, R, s, m, args, below, meth, c, Q, A, D, tys⟩ := z
  intro H locs ls ws hR hP hD hS hL
  exact lv_dup_x1 X.1 X.2.1 hd hv hw (h H locs ls ws hR hP hD hS hL)
theorem R_dup_x2 {z : zT} {cc : ByteArray} {nL : Nat} {own nm : String} {F Lo : Nat} (X : BX z cc nL own nm F Lo) {pc : Nat} {L : List (Option Value)} {st : List Value} {M : mM} {k n : Nat} {v w u : Value} (hd : decode cc pc = .ok (.dup_x2, 1)) (hv : v.category = 1) (hw : w.category = 1) (hu : u.category = 1) (h : RN z (pc + 1) L (v :: w :: u :: v :: st) M k n) : RN z pc L (v :: w :: u :: st) M k n := by
  obtain ⟨p, l, e, R, s, m, args, below, meth, c, Q, A, D, tys⟩ := z
  intro H locs ls ws hR hP hD hS hL
  exact lv_dup_x2 X.1 X.2.1 hd hv hw hu (h H locs ls ws hR hP hD hS hL)
theorem R_dup2 {z : zT} {cc : ByteArray} {nL : Nat} {own nm : String} {F Lo : Nat} (X : BX z cc nL own nm F Lo) {pc : Nat} {L : List (Option Value)} {st : List Value} {M : mM} {k n : Nat} {v w : Value} (hd : decode cc pc = .ok (.dup2, 1)) (hv : v.category = 1) (hw : w.category = 1) (h : RN z (pc + 1) L (v :: w :: v :: w :: st) M k n) : RN z pc L (v :: w :: st) M k n := by
  obtain ⟨p, l, e, R, s, m, args, below, meth, c, Q, A, D, tys⟩ := z
  intro H locs ls ws hR hP hD hS hL
  exact lv_dup2_11 X.1 X.2.1 hd hv hw (h H locs ls ws hR hP hD hS hL)
theorem R_if_eq {z : zT} {cc : ByteArray} {nL : Nat} {own nm : String} {F Lo : Nat} (X : BX z cc nL own nm F Lo) {pc : Nat} {L : List (Option Value)} {st : List Value} {M : mM} {k n : Nat} {off : Int} {tgt : Nat} {x : Int32} (hd : decode cc pc = .ok (.ifCond .eq off, 3)) (ht : (pc : Int) + off = (tgt : Int)) (h1 : x = 0 → RN z tgt L st M k n) (h2 : ¬ (x = 0) → RN z (pc + 3) L st M k n) : RN z pc L (.int x :: st) M k n := by
  obtain ⟨p, l, e, R, s, m, args, below, meth, c, Q, A, D, tys⟩ := z
  intro H locs ls ws hR hP hD hS hL
  exact lv_if_eq X.1 X.2.1 hd ht (fun q => h1 q H locs ls ws hR hP hD hS hL) (fun q => h2 q H locs ls ws hR hP hD hS hL)
theorem R_if_ne {z : zT} {cc : ByteArray} {nL : Nat} {own nm : String} {F Lo : Nat} (X : BX z cc nL own nm F Lo) {pc : Nat} {L : List (Option Value)} {st : List Value} {M : mM} {k n : Nat} {off : Int} {tgt : Nat} {x : Int32} (hd : decode cc pc = .ok (.ifCond .ne off, 3)) (ht : (pc : Int) + off = (tgt : Int)) (h1 : ¬ x = 0 → RN z tgt L st M k n) (h2 : x = 0 → RN z (pc + 3) L st M k n) : RN z pc L (.int x :: st) M k n := by
  obtain ⟨p, l, e, R, s, m, args, below, meth, c, Q, A, D, tys⟩ := z
  intro H locs ls ws hR hP hD hS hL
  exact lv_if_ne X.1 X.2.1 hd ht (fun q => h1 q H locs ls ws hR hP hD hS hL) (fun q => h2 q H locs ls ws hR hP hD hS hL)
theorem R_if_lt {z : zT} {cc : ByteArray} {nL : Nat} {own nm : String} {F Lo : Nat} (X : BX z cc nL own nm F Lo) {pc : Nat} {L : List (Option Value)} {st : List Value} {M : mM} {k n : Nat} {off : Int} {tgt : Nat} {x : Int32} (hd : decode cc pc = .ok (.ifCond .lt off, 3)) (ht : (pc : Int) + off = (tgt : Int)) (h1 : x < 0 → RN z tgt L st M k n) (h2 : ¬ (x < 0) → RN z (pc + 3) L st M k n) : RN z pc L (.int x :: st) M k n := by
  obtain ⟨p, l, e, R, s, m, args, below, meth, c, Q, A, D, tys⟩ := z
  intro H locs ls ws hR hP hD hS hL
  exact lv_if_lt X.1 X.2.1 hd ht (fun q => h1 q H locs ls ws hR hP hD hS hL) (fun q => h2 q H locs ls ws hR hP hD hS hL)
theorem R_if_ge {z : zT} {cc : ByteArray} {nL : Nat} {own nm : String} {F Lo : Nat} (X : BX z cc nL own nm F Lo) {pc : Nat} {L : List (Option Value)} {st : List Value} {M : mM} {k n : Nat} {off : Int} {tgt : Nat} {x : Int32} (hd : decode cc pc = .ok (.ifCond .ge off, 3)) (ht : (pc : Int) + off = (tgt : Int)) (h1 : 0 ≤ x → RN z tgt L st M k n) (h2 : ¬ (0 ≤ x) → RN z (pc + 3) L st M k n) : RN z pc L (.int x :: st) M k n := by
  obtain ⟨p, l, e, R, s, m, args, below, meth, c, Q, A, D, tys⟩ := z
  intro H locs ls ws hR hP hD hS hL
  exact lv_if_ge X.1 X.2.1 hd ht (fun q => h1 q H locs ls ws hR hP hD hS hL) (fun q => h2 q H locs ls ws hR hP hD hS hL)
theorem R_if_gt {z : zT} {cc : ByteArray} {nL : Nat} {own nm : String} {F Lo : Nat} (X : BX z cc nL own nm F Lo) {pc : Nat} {L : List (Option Value)} {st : List Value} {M : mM} {k n : Nat} {off : Int} {tgt : Nat} {x : Int32} (hd : decode cc pc = .ok (.ifCond .gt off, 3)) (ht : (pc : Int) + off = (tgt : Int)) (h1 : 0 < x → RN z tgt L st M k n) (h2 : ¬ (0 < x) → RN z (pc + 3) L st M k n) : RN z pc L (.int x :: st) M k n := by
  obtain ⟨p, l, e, R, s, m, args, below, meth, c, Q, A, D, tys⟩ := z
  intro H locs ls ws hR hP hD hS hL
  exact lv_if_gt X.1 X.2.1 hd ht (fun q => h1 q H locs ls ws hR hP hD hS hL) (fun q => h2 q H locs ls ws hR hP hD hS hL)
theorem R_if_le {z : zT} {cc : ByteArray} {nL : Nat} {own nm : String} {F Lo : Nat} (X : BX z cc nL own nm F Lo) {pc : Nat} {L : List (Option Value)} {st : List Value} {M : mM} {k n : Nat} {off : Int} {tgt : Nat} {x : Int32} (hd : decode cc pc = .ok (.ifCond .le off, 3)) (ht : (pc : Int) + off = (tgt : Int)) (h1 : x ≤ 0 → RN z tgt L st M k n) (h2 : ¬ (x ≤ 0) → RN z (pc + 3) L st M k n) : RN z pc L (.int x :: st) M k n := by
  obtain ⟨p, l, e, R, s, m, args, below, meth, c, Q, A, D, tys⟩ := z
  intro H locs ls ws hR hP hD hS hL
  exact lv_if_le X.1 X.2.1 hd ht (fun q => h1 q H locs ls ws hR hP hD hS hL) (fun q => h2 q H locs ls ws hR hP hD hS hL)
theorem R_icmp_eq {z : zT} {cc : ByteArray} {nL : Nat} {own nm : String} {F Lo : Nat} (X : BX z cc nL own nm F Lo) {pc : Nat} {L : List (Option Value)} {st : List Value} {M : mM} {k n : Nat} {off : Int} {tgt : Nat} {x y : Int32} (hd : decode cc pc = .ok (.if_icmp .eq off, 3)) (ht : (pc : Int) + off = (tgt : Int)) (h1 : x = y → RN z tgt L st M k n) (h2 : ¬ (x = y) → RN z (pc + 3) L st M k n) : RN z pc L (.int y :: .int x :: st) M k n := by
  obtain ⟨p, l, e, R, s, m, args, below, meth, c, Q, A, D, tys⟩ := z
  intro H locs ls ws hR hP hD hS hL
  exact lv_icmp_eq X.1 X.2.1 hd ht (fun q => h1 q H locs ls ws hR hP hD hS hL) (fun q => h2 q H locs ls ws hR hP hD hS hL)
theorem R_icmp_ne {z : zT} {cc : ByteArray} {nL : Nat} {own nm : String} {F Lo : Nat} (X : BX z cc nL own nm F Lo) {pc : Nat} {L : List (Option Value)} {st : List Value} {M : mM} {k n : Nat} {off : Int} {tgt : Nat} {x y : Int32} (hd : decode cc pc = .ok (.if_icmp .ne off, 3)) (ht : (pc : Int) + off = (tgt : Int)) (h1 : ¬ x = y → RN z tgt L st M k n) (h2 : x = y → RN z (pc + 3) L st M k n) : RN z pc L (.int y :: .int x :: st) M k n := by
  obtain ⟨p, l, e, R, s, m, args, below, meth, c, Q, A, D, tys⟩ := z
  intro H locs ls ws hR hP hD hS hL
  exact lv_icmp_ne X.1 X.2.1 hd ht (fun q => h1 q H locs ls ws hR hP hD hS hL) (fun q => h2 q H locs ls ws hR hP hD hS hL)
theorem R_icmp_lt {z : zT} {cc : ByteArray} {nL : Nat} {own nm : String} {F Lo : Nat} (X : BX z cc nL own nm F Lo) {pc : Nat} {L : List (Option Value)} {st : List Value} {M : mM} {k n : Nat} {off : Int} {tgt : Nat} {x y : Int32} (hd : decode cc pc = .ok (.if_icmp .lt off, 3)) (ht : (pc : Int) + off = (tgt : Int)) (h1 : x < y → RN z tgt L st M k n) (h2 : ¬ (x < y) → RN z (pc + 3) L st M k n) : RN z pc L (.int y :: .int x :: st) M k n := by
  obtain ⟨p, l, e, R, s, m, args, below, meth, c, Q, A, D, tys⟩ := z
  intro H locs ls ws hR hP hD hS hL
  exact lv_icmp_lt X.1 X.2.1 hd ht (fun q => h1 q H locs ls ws hR hP hD hS hL) (fun q => h2 q H locs ls ws hR hP hD hS hL)
theorem R_icmp_ge {z : zT} {cc : ByteArray} {nL : Nat} {own nm : String} {F Lo : Nat} (X : BX z cc nL own nm F Lo) {pc : Nat} {L : List (Option Value)} {st : List Value} {M : mM} {k n : Nat} {off : Int} {tgt : Nat} {x y : Int32} (hd : decode cc pc = .ok (.if_icmp .ge off, 3)) (ht : (pc : Int) + off = (tgt : Int)) (h1 : y ≤ x → RN z tgt L st M k n) (h2 : ¬ (y ≤ x) → RN z (pc + 3) L st M k n) : RN z pc L (.int y :: .int x :: st) M k n := by
  obtain ⟨p, l, e, R, s, m, args, below, meth, c, Q, A, D, tys⟩ := z
  intro H locs ls ws hR hP hD hS hL
  exact lv_icmp_ge X.1 X.2.1 hd ht (fun q => h1 q H locs ls ws hR hP hD hS hL) (fun q => h2 q H locs ls ws hR hP hD hS hL)
theorem R_icmp_gt {z : zT} {cc : ByteArray} {nL : Nat} {own nm : String} {F Lo : Nat} (X : BX z cc nL own nm F Lo) {pc : Nat} {L : List (Option Value)} {st : List Value} {M : mM} {k n : Nat} {off : Int} {tgt : Nat} {x y : Int32} (hd : decode cc pc = .ok (.if_icmp .gt off, 3)) (ht : (pc : Int) + off = (tgt : Int)) (h1 : y < x → RN z tgt L st M k n) (h2 : ¬ (y < x) → RN z (pc + 3) L st M k n) : RN z pc L (.int y :: .int x :: st) M k n := by
  obtain ⟨p, l, e, R, s, m, args, below, meth, c, Q, A, D, tys⟩ := z
  intro H locs ls ws hR hP hD hS hL
  exact lv_icmp_gt X.1 X.2.1 hd ht (fun q => h1 q H locs ls ws hR hP hD hS hL) (fun q => h2 q H locs ls ws hR hP hD hS hL)
theorem R_icmp_le {z : zT} {cc : ByteArray} {nL : Nat} {own nm : String} {F Lo : Nat} (X : BX z cc nL own nm F Lo) {pc : Nat} {L : List (Option Value)} {st : List Value} {M : mM} {k n : Nat} {off : Int} {tgt : Nat} {x y : Int32} (hd : decode cc pc = .ok (.if_icmp .le off, 3)) (ht : (pc : Int) + off = (tgt : Int)) (h1 : x ≤ y → RN z tgt L st M k n) (h2 : ¬ (x ≤ y) → RN z (pc + 3) L st M k n) : RN z pc L (.int y :: .int x :: st) M k n := by
  obtain ⟨p, l, e, R, s, m, args, below, meth, c, Q, A, D, tys⟩ := z
  intro H locs ls ws hR hP hD hS hL
  exact lv_icmp_le X.1 X.2.1 hd ht (fun q => h1 q H locs ls ws hR hP hD hS hL) (fun q => h2 q H locs ls ws hR hP hD hS hL)
theorem R_goto {z : zT} {cc : ByteArray} {nL : Nat} {own nm : String} {F Lo : Nat} (X : BX z cc nL own nm F Lo) {pc : Nat} {L : List (Option Value)} {st : List Value} {M : mM} {k n : Nat} {off : Int} {tgt : Nat} (hd : decode cc pc = .ok (.goto off, 3)) (ht : (pc : Int) + off = (tgt : Int)) (h : RN z tgt L st M k n) : RN z pc L st M k n := by
  obtain ⟨p, l, e, R, s, m, args, below, meth, c, Q, A, D, tys⟩ := z
  intro H locs ls ws hR hP hD hS hL
  exact lv_goto X.1 X.2.1 hd ht (h H locs ls ws hR hP hD hS hL)
theorem R_ifnull {z : zT} {cc : ByteArray} {nL : Nat} {own nm : String} {F Lo : Nat} (X : BX z cc nL own nm F Lo) {pc : Nat} {L : List (Option Value)} {st : List Value} {M : mM} {k n : Nat} {off : Int} {tgt : Nat} {v : Value} (hd : decode cc pc = .ok (.ifnull off, 3)) (ht : (pc : Int) + off = (tgt : Int)) (hv : mRf v) (h1 : v = .null → RN z tgt L st M k n) (h2 : ∀ a, v = .ref a → RN z (pc + 3) L st M k n) : RN z pc L (v :: st) M k n := by
  obtain ⟨p, l, e, R, s, m, args, below, meth, c, Q, A, D, tys⟩ := z
  intro H locs ls ws hR hP hD hS hL
  rcases hv with rfl | ⟨a, rfl⟩
  · exact lv_ifnullN X.1 X.2.1 hd ht (h1 rfl H locs ls ws hR hP hD hS hL)
  · exact lv_ifnull X.1 X.2.1 hd (h2 a rfl H locs ls ws hR hP hD hS hL)
theorem R_ifnonnull {z : zT} {cc : ByteArray} {nL : Nat} {own nm : String} {F Lo : Nat} (X : BX z cc nL own nm F Lo) {pc : Nat} {L : List (Option Value)} {st : List Value} {M : mM} {k n : Nat} {off : Int} {tgt : Nat} {v : Value} (hd : decode cc pc = .ok (.ifnonnull off, 3)) (ht : (pc : Int) + off = (tgt : Int)) (hv : mRf v) (h1 : ∀ a, v = .ref a → RN z tgt L st M k n) (h2 : v = .null → RN z (pc + 3) L st M k n) : RN z pc L (v :: st) M k n := by
  obtain ⟨p, l, e, R, s, m, args, below, meth, c, Q, A, D, tys⟩ := z
  intro H locs ls ws hR hP hD hS hL
  rcases hv with rfl | ⟨a, rfl⟩
  · exact lv_ifnonnullN X.1 X.2.1 hd (h2 rfl H locs ls ws hR hP hD hS hL)
  · exact lv_ifnonnull X.1 X.2.1 hd ht (h1 a rfl H locs ls ws hR hP hD hS hL)
theorem R_tableOut {z : zT} {cc : ByteArray} {nL : Nat} {own nm : String} {F Lo : Nat} (X : BX z cc nL own nm F Lo) {pc : Nat} {L : List (Option Value)} {st : List Value} {M : mM} {k n : Nat} {dflt lo hi : Int} {offs : Array Int} {len tgt : Nat} {x : Int32} (hd : decode cc pc = .ok (.tableswitch dflt lo hi offs, len)) (hx : x.toInt < lo ∨ hi < x.toInt) (ht : (pc : Int) + dflt = (tgt : Int)) (h : RN z tgt L st M k n) : RN z pc L (.int x :: st) M k n := by
  obtain ⟨p, l, e, R, s, m, args, below, meth, c, Q, A, D, tys⟩ := z
  intro H locs ls ws hR hP hD hS hL
  exact lv_tableOut X.1 X.2.1 hd hx ht (h H locs ls ws hR hP hD hS hL)
theorem R_tableIn {z : zT} {cc : ByteArray} {nL : Nat} {own nm : String} {F Lo : Nat} (X : BX z cc nL own nm F Lo) {pc : Nat} {L : List (Option Value)} {st : List Value} {M : mM} {k n : Nat} {dflt lo hi off : Int} {offs : Array Int} {len tgt : Nat} {x : Int32} (hd : decode cc pc = .ok (.tableswitch dflt lo hi offs, len)) (h1 : ¬ x.toInt < lo) (h2 : ¬ hi < x.toInt) (ho : offs[(x.toInt - lo).toNat]? = some off) (ht : (pc : Int) + off = (tgt : Int)) (h : RN z tgt L st M k n) : RN z pc L (.int x :: st) M k n := by
  obtain ⟨p, l, e, R, s, m, args, below, meth, c, Q, A, D, tys⟩ := z
  intro H locs ls ws hR hP hD hS hL
  exact lv_tableIn X.1 X.2.1 hd h1 h2 ho ht (h H locs ls ws hR hP hD hS hL)
theorem R_widen {z : zT} {cc : ByteArray} {nL : Nat} {own nm : String} {F Lo : Nat} (X : BX z cc nL own nm F Lo) {pc : Nat} {L : List (Option Value)} {st : List Value} {M : mM} {k n : Nat} {k1 n1 : Nat} (h1 : k ≤ k1) (h2 : n ≤ n1) (h : RN z pc L st M k1 n1) : RN z pc L st M k n := by
  obtain ⟨p, l, e, R, s, m, args, below, meth, c, Q, A, D, tys⟩ := z
  intro H locs ls ws hR hP hD hS hL
  exact W.widen h1 h2 (h H locs ls ws hR hP hD hS hL)
theorem R_get {z : zT} {cc : ByteArray} {nL : Nat} {own nm : String} {F Lo : Nat} (X : BX z cc nL own nm F Lo) {pc : Nat} {L : List (Option Value)} {st : List Value} {M : mM} {k n : Nat} {C : String} {T : u_T} {N ci index : Nat} {a : Nat} {fs : List Value} {v : Value} (hin : ∀ w ∈ u_ws C T N, w ∈ lw_big) (hc : vwCl[ci]? = some (C, T, N)) (j : Nat) (hj : j < N) (hw : Cond.fieldLink own index (T j).1 (T j).2.1 (T j).2.2.1 ∈ lw_big) (hd : decode cc pc = .ok (.getfield index, 3)) (hM : M a = some (.inr (ci, fs))) (hv : fs[j]? = some v) (h : RN z (pc + 3) L (v :: st) M k n) : RN z pc L (.ref a :: st) M k n := by
  obtain ⟨p, l, e, R, s, m, args, below, meth, c, Q, A, D, tys⟩ := z
  intro H locs ls ws hR hP hD hS hL
  obtain ⟨q, hq⟩ := (hR _ _).mp hM
  exact va_get (D := D) X.1 X.2.1 X.2.2.2.2.2.1 hin X.2.2.2.1 X.2.2.2.2.2.2.1.1 hP q hq hc j hj (X.2.2.2.2.2.1 _ hw) (fun _ h9 => h9) hv hd (h H locs ls ws hR hP hD hS hL)
theorem R_getN {z : zT} {cc : ByteArray} {nL : Nat} {own nm : String} {F Lo : Nat} (X : BX z cc nL own nm F Lo) {pc : Nat} {L : List (Option Value)} {st : List Value} {M : mM} {k n : Nat} {C : String} {T : u_T} {N ci index : Nat} {a : Nat} {fs : List Value} {v : Value} (hin : ∀ w ∈ u_ws C T N, w ∈ lw_big) (hc : vwCl[ci]? = some (C, T, N)) (j : Nat) (hj : j < N) {host : String} (hw : Cond.fieldLinkNest own index (T j).1 (T j).2.1 (T j).2.2.1 host ∈ lw_big) (hd : decode cc pc = .ok (.getfield index, 3)) (hM : M a = some (.inr (ci, fs))) (hv : fs[j]? = some v) (h : RN z (pc + 3) L (v :: st) M k n) : RN z pc L (.ref a :: st) M k n := by
  obtain ⟨p, l, e, R, s, m, args, below, meth, c, Q, A, D, tys⟩ := z
  intro H locs ls ws hR hP hD hS hL
  obtain ⟨q, hq⟩ := (hR _ _).mp hM
  exact va_getN (D := D) X.1 X.2.1 X.2.2.2.2.2.1 hin X.2.2.2.1 X.2.2.2.2.2.2.1.1 hP q hq hc j hj (X.2.2.2.2.2.1 _ hw) (fun _ h9 => h9) hv hd (h H locs ls ws hR hP hD hS hL)
theorem R_put {z : zT} {cc : ByteArray} {nL : Nat} {own nm : String} {F Lo : Nat} (X : BX z cc nL own nm F Lo) {pc : Nat} {L : List (Option Value)} {st : List Value} {M : mM} {k n : Nat} {C : String} {T : u_T} {N ci index : Nat} {a : Nat} {fs : List Value} {v : Value} (hin : ∀ w ∈ u_ws C T N, w ∈ lw_big) (hc : vwCl[ci]? = some (C, T, N)) (j : Nat) (hj : j < N) (ty0 : Nat → FieldType) (hty : ∀ i, i < N → parseFieldDescriptor (T i).2.2.1 = some (ty0 i)) (hnm : ∀ a, a < N → ∀ b, b < N → a ≠ b → (T a).2.1 ≠ (T b).2.1) (hw : Cond.fieldLink own index (T j).1 (T j).2.1 (T j).2.2.1 ∈ lw_big) (hfin : (T j).2.2.2 = false) {ty : FieldType} (ht : parseFieldDescriptor (T j).2.2.1 = some ty) (hn : narrow ty v = v) (hfit : fits ty v = true) (hd : decode cc pc = .ok (.putfield index, 3)) (hM : M a = some (.inr (ci, fs))) (hl : j < fs.length) (h : RN z (pc + 3) L st (mS M a (.inr (ci, fs.set j v))) k n) : RN z pc L (v :: .ref a :: st) M k n := by
  obtain ⟨p, l, e, R, s, m, args, below, meth, c, Q, A, D, tys⟩ := z
  intro H locs ls ws hR hP hD hS hL
  obtain ⟨q, hq⟩ := (hR _ _).mp hM
  exact va_put (D := D) X.1 X.2.1 X.2.2.2.2.2.1 hin ty0 hty hnm X.2.2.2.1 X.2.2.2.2.2.2.1.1 hP hD hS q hq hc j hj (X.2.2.2.2.2.1 _ hw) (fun _ h9 => h9) hfin ht hn hfit hl hd (fun H1 locs1 hP1 hD1 hS1 => h H1 locs1 ls _ (mR_set hR hD hq) hP1 hD1 hS1 hL)
theorem R_putN {z : zT} {cc : ByteArray} {nL : Nat} {own nm : String} {F Lo : Nat} (X : BX z cc nL own nm F Lo) {pc : Nat} {L : List (Option Value)} {st : List Value} {M : mM} {k n : Nat} {C : String} {T : u_T} {N ci index : Nat} {a : Nat} {fs : List Value} {v : Value} (hin : ∀ w ∈ u_ws C T N, w ∈ lw_big) (hc : vwCl[ci]? = some (C, T, N)) (j : Nat) (hj : j < N) (ty0 : Nat → FieldType) (hty : ∀ i, i < N → parseFieldDescriptor (T i).2.2.1 = some (ty0 i)) (hnm : ∀ a, a < N → ∀ b, b < N → a ≠ b → (T a).2.1 ≠ (T b).2.1) {host : String} (hw : Cond.fieldLinkNest own index (T j).1 (T j).2.1 (T j).2.2.1 host ∈ lw_big) (hfin : (T j).2.2.2 = false) {ty : FieldType} (ht : parseFieldDescriptor (T j).2.2.1 = some ty) (hn : narrow ty v = v) (hfit : fits ty v = true) (hd : decode cc pc = .ok (.putfield index, 3)) (hM : M a = some (.inr (ci, fs))) (hl : j < fs.length) (h : RN z (pc + 3) L st (mS M a (.inr (ci, fs.set j v))) k n) : RN z pc L (v :: .ref a :: st) M k n := by
  obtain ⟨p, l, e, R, s, m, args, below, meth, c, Q, A, D, tys⟩ := z
  intro H locs ls ws hR hP hD hS hL
  obtain ⟨q, hq⟩ := (hR _ _).mp hM
  exact va_putN (D := D) X.1 X.2.1 X.2.2.2.2.2.1 hin ty0 hty hnm X.2.2.2.1 X.2.2.2.2.2.2.1.1 hP hD hS q hq hc j hj (X.2.2.2.2.2.1 _ hw) (fun _ h9 => h9) hfin ht hn hfit hl hd (fun H1 locs1 hP1 hD1 hS1 => h H1 locs1 ls _ (mR_set hR hD hq) hP1 hD1 hS1 hL)
theorem R_putF {z : zT} {cc : ByteArray} {nL : Nat} {own nm : String} {F Lo : Nat} (X : BX z cc nL own nm F Lo) {pc : Nat} {L : List (Option Value)} {st : List Value} {M : mM} {k n : Nat} {C : String} {T : u_T} {N ci index : Nat} {a : Nat} {fs : List Value} {v : Value} (hin : ∀ w ∈ u_ws C T N, w ∈ lw_big) (hc : vwCl[ci]? = some (C, T, N)) (j : Nat) (hj : j < N) (ty0 : Nat → FieldType) (hty : ∀ i, i < N → parseFieldDescriptor (T i).2.2.1 = some (ty0 i)) (hnm : ∀ a, a < N → ∀ b, b < N → a ≠ b → (T a).2.1 ≠ (T b).2.1) (hw : Cond.fieldLink own index (T j).1 (T j).2.1 (T j).2.2.1 ∈ lw_big) (hfin : (T j).2.2.2 = true) (hini : nm = "<init>") (hdc : (T j).1 = own) {ty : FieldType} (ht : parseFieldDescriptor (T j).2.2.1 = some ty) (hn : narrow ty v = v) (hfit : fits ty v = true) (hd : decode cc pc = .ok (.putfield index, 3)) (hM : M a = some (.inr (ci, fs))) (hl : j < fs.length) (h : RN z (pc + 3) L st (mS M a (.inr (ci, fs.set j v))) k n) : RN z pc L (v :: .ref a :: st) M k n := by
  obtain ⟨p, l, e, R, s, m, args, below, meth, c, Q, A, D, tys⟩ := z
  intro H locs ls ws hR hP hD hS hL
  obtain ⟨q, hq⟩ := (hR _ _).mp hM
  exact va_putF (D := D) X.1 X.2.1 X.2.2.2.2.2.1 hin ty0 hty hnm X.2.2.2.1 X.2.2.2.2.2.2.1.1 hP hD hS q hq hc j hj (X.2.2.2.2.2.1 _ hw) (fun _ h9 => h9) hfin (X.2.2.2.2.1.trans hini) hdc ht hn hfit hl hd (fun H1 locs1 hP1 hD1 hS1 => h H1 locs1 ls _ (mR_set hR hD hq) hP1 hD1 hS1 hL)
/-- which array classes there are -/
def zty : zT → List (ClassId × FieldType)
  | (_, _, _, _, _, _, _, _, _, _, _, _, _, tys) => tys
theorem R_iald {z : zT} {cc : ByteArray} {nL : Nat} {own nm : String} {F Lo : Nat} (X : BX z cc nL own nm F Lo) {pc : Nat} {L : List (Option Value)} {st : List Value} {M : mM} {k n : Nat} {a : Nat} {cA : ClassId} {w : Nat} {f : Nat → Int32} {i : Int32} (t0 : Nat) (ht : (zty z)[t0]? = some (cA, .int)) (hd : decode cc pc = .ok (.iaload, 1)) (hM : M a = some (.inl (cA, w, .inl f))) (hi : vp_in i w) (h : RN z (pc + 1) L (.int (f i.toNatClampNeg) :: st) M k n) : RN z pc L (.int i :: .ref a :: st) M k n := by
  obtain ⟨p, l, e, R, s, m, args, below, meth, c, Q, A, D, tys⟩ := z
  intro H locs ls ws hR hP hD hS hL
  obtain ⟨q, hq⟩ := (hR _ _).mp hM
  exact va_iald (D := D) X.1 X.2.1 X.2.2.2.2.2.2.1.1 hP q t0 hq ht hi hd (h H locs ls ws hR hP hD hS hL)
theorem R_iast {z : zT} {cc : ByteArray} {nL : Nat} {own nm : String} {F Lo : Nat} (X : BX z cc nL own nm F Lo) {pc : Nat} {L : List (Option Value)} {st : List Value} {M : mM} {k n : Nat} {a : Nat} {cA : ClassId} {w : Nat} {f : Nat → Int32} {i x : Int32} (t0 : Nat) (ht : (zty z)[t0]? = some (cA, .int)) (hd : decode cc pc = .ok (.iastore, 1)) (hM : M a = some (.inl (cA, w, .inl f))) (hi : vp_in i w) (h : RN z (pc + 1) L st (mS M a (.inl (cA, w, .inl (upd f i.toNatClampNeg x)))) k n) : RN z pc L (.int x :: .int i :: .ref a :: st) M k n := by
  obtain ⟨p, l, e, R, s, m, args, below, meth, c, Q, A, D, tys⟩ := z
  intro H locs ls ws hR hP hD hS hL
  obtain ⟨q, hq⟩ := (hR _ _).mp hM
  exact va_iast (D := D) X.1 X.2.1 X.2.2.2.2.2.2.1.1 hP hD hS q t0 hq ht hi hd (fun H1 locs1 hP1 hD1 hS1 => h H1 locs1 ls _ (mR_set hR hD hq) hP1 hD1 hS1 hL)
theorem R_zald {z : zT} {cc : ByteArray} {nL : Nat} {own nm : String} {F Lo : Nat} (X : BX z cc nL own nm F Lo) {pc : Nat} {L : List (Option Value)} {st : List Value} {M : mM} {k n : Nat} {a : Nat} {cA : ClassId} {w : Nat} {f : Nat → Int32} {i : Int32} (t0 : Nat) (ht : (zty z)[t0]? = some (cA, .boolean)) (hd : decode cc pc = .ok (.baload, 1)) (hM : M a = some (.inl (cA, w, .inl f))) (hi : vp_in i w) (h : RN z (pc + 1) L (.int (f i.toNatClampNeg) :: st) M k n) : RN z pc L (.int i :: .ref a :: st) M k n := by
  obtain ⟨p, l, e, R, s, m, args, below, meth, c, Q, A, D, tys⟩ := z
  intro H locs ls ws hR hP hD hS hL
  obtain ⟨q, hq⟩ := (hR _ _).mp hM
  exact va_zald (D := D) X.1 X.2.1 X.2.2.2.2.2.2.1.1 hP q t0 hq ht hi hd (h H locs ls ws hR hP hD hS hL)
theorem R_zast {z : zT} {cc : ByteArray} {nL : Nat} {own nm : String} {F Lo : Nat} (X : BX z cc nL own nm F Lo) {pc : Nat} {L : List (Option Value)} {st : List Value} {M : mM} {k n : Nat} {a : Nat} {cA : ClassId} {w : Nat} {f : Nat → Int32} {i x : Int32} (t0 : Nat) (ht : (zty z)[t0]? = some (cA, .boolean)) (hd : decode cc pc = .ok (.bastore, 1)) (hM : M a = some (.inl (cA, w, .inl f))) (hi : vp_in i w) (hx : vp_nar .boolean x = x) (h : RN z (pc + 1) L st (mS M a (.inl (cA, w, .inl (upd f i.toNatClampNeg x)))) k n) : RN z pc L (.int x :: .int i :: .ref a :: st) M k n := by
  obtain ⟨p, l, e, R, s, m, args, below, meth, c, Q, A, D, tys⟩ := z
  intro H locs ls ws hR hP hD hS hL
  obtain ⟨q, hq⟩ := (hR _ _).mp hM
  refine va_zast (D := D) X.1 X.2.1 X.2.2.2.2.2.2.1.1 hP hD hS q t0 hq ht hi hd (fun H1 locs1 hP1 hD1 hS1 => ?_)
  rw [hx] at hP1 hD1
  exact h H1 locs1 ls _ (mR_set hR hD hq) hP1 hD1 hS1 hL
theorem R_aald {z : zT} {cc : ByteArray} {nL : Nat} {own nm : String} {F Lo : Nat} (X : BX z cc nL own nm F Lo) {pc : Nat} {L : List (Option Value)} {st : List Value} {M : mM} {k n : Nat} {a : Nat} {cA : ClassId} {w : Nat} {f : Nat → Option Nat} {C : String} {i : Int32} (t0 : Nat) (ht : (zty z)[t0]? = some (cA, .object C)) (hd : decode cc pc = .ok (.aaload, 1)) (hM : M a = some (.inl (cA, w, .inr (.inr (.inr (.inr f)))))) (hi : vp_in i w) (h : RN z (pc + 1) L (va_rf (f i.toNatClampNeg) :: st) M k n) : RN z pc L (.int i :: .ref a :: st) M k n := by
  obtain ⟨p, l, e, R, s, m, args, below, meth, c, Q, A, D, tys⟩ := z
  intro H locs ls ws hR hP hD hS hL
  obtain ⟨q, hq⟩ := (hR _ _).mp hM
  exact va_aldq (D := D) X.1 X.2.1 X.2.2.2.2.2.2.1.1 hP q t0 hq ht hi hd (h H locs ls ws hR hP hD hS hL)
theorem R_aast {z : zT} {cc : ByteArray} {nL : Nat} {own nm : String} {F Lo : Nat} (X : BX z cc nL own nm F Lo) {pc : Nat} {L : List (Option Value)} {st : List Value} {M : mM} {k n : Nat} {a : Nat} {cA : ClassId} {w : Nat} {f : Nat → Option Nat} {r : vw_C} {ci v : Nat} {vs : List Value} {i : Int32} (t0 : Nat) (ht : (zty z)[t0]? = some (cA, .object r.1)) (hc : vwCl[ci]? = some r) (hd : decode cc pc = .ok (.aastore, 1)) (hM : M a = some (.inl (cA, w, .inr (.inr (.inr (.inr f)))))) (hv : M v = some (.inr (ci, vs))) (hi : vp_in i w) (h : RN z (pc + 1) L st (mS M a (.inl (cA, w, .inr (.inr (.inr (.inr (va_up f i.toNatClampNeg (some v)))))))) k n) : RN z pc L (.ref v :: .int i :: .ref a :: st) M k n := by
  obtain ⟨p, l, e, R, s, m, args, below, meth, c, Q, A, D, tys⟩ := z
  intro H locs ls ws hR hP hD hS hL
  obtain ⟨q, hq⟩ := (hR _ _).mp hM
  obtain ⟨q2, hq2⟩ := (hR _ _).mp hv
  exact va_astq (D := D) X.1 X.2.1 X.2.2.2.2.2.2.1.1 hP hD hS q t0 q2 ci hq ht hq2 hc hi hd (fun H1 locs1 hP1 hD1 hS1 => h H1 locs1 ls _ (mR_set hR hD hq) hP1 hD1 hS1 hL)
theorem R_alen {z : zT} {cc : ByteArray} {nL : Nat} {own nm : String} {F Lo : Nat} (X : BX z cc nL own nm F Lo) {pc : Nat} {L : List (Option Value)} {st : List Value} {M : mM} {k n : Nat} {a : Nat} {cA : ClassId} {x : vp_A} {ty : FieldType} {v : Int32} (t0 : Nat) (ht : (zty z)[t0]? = some (cA, ty)) (hd : decode cc pc = .ok (.arraylength, 1)) (hM : M a = some (.inl (cA, x))) (hv : Int32.ofNat x.1 = v) (h : RN z (pc + 1) L (.int v :: st) M k n) : RN z pc L (.ref a :: st) M k n := by
  obtain ⟨p, l, e, R, s, m, args, below, meth, c, Q, A, D, tys⟩ := z
  intro H locs ls ws hR hP hD hS hL
  obtain ⟨q, hq⟩ := (hR _ _).mp hM
  exact va_alen (D := D) X.1 X.2.1 X.2.2.2.2.2.2.1.1 hP q t0 hq ht hv hd (h H locs ls ws hR hP hD hS hL)
def zR : zT → Room
  | (_, _, _, R, _) => R
theorem R_new {z : zT} {cc : ByteArray} {nL : Nat} {own nm : String} {F Lo : Nat} (X : BX z cc nL own nm F Lo) {pc : Nat} {L : List (Option Value)} {st : List Value} {M : mM} {k n : Nat} {C : String} {T : u_T} {N ci index : Nat} {fs : List Value} (hin : ∀ w ∈ u_ws C T N, w ∈ lw_big) (hc : vwCl[ci]? = some (C, T, N)) (ty : Nat → FieldType) (hty : ∀ i, i < N → parseFieldDescriptor (T i).2.2.1 = some (ty i)) (hw1 : Cond.classLink own index C ∈ lw_big) (hw2 : Cond.instantiable C N ∈ lw_big) (hw3 : Cond.initialized C ∈ lw_big) (hfs : ∀ j, j < N → defaultValue (ty j) = vp_V fs j) (hd : decode cc pc = .ok (.new index, 3)) (hk : k + 1 ≤ (zR z).cells) (hn : n + N ≤ (zR z).slots) (h : ∀ q, M q = none → RN z (pc + 3) L (.ref q :: st) (mS M q (.inr (ci, fs))) (k + 1) (n + N)) : RN z pc L st M k n := by
  obtain ⟨p, l, e, R, s, m, args, below, meth, c, Q, A, D, tys⟩ := z
  intro H locs ls ws hR hP hD hS hL
  exact va_new (D := D) X.1 X.2.1 X.2.2.2.2.2.1 hin ty hty X.2.2.2.1 (X.2.2.2.2.2.1 _ hw1) (X.2.2.2.2.2.1 _ hw2) (X.2.2.2.2.2.1 _ hw3) X.2.2.2.2.2.2.1.1 hP hD hS X.2.2.2.2.2.2.2.1 hc hfs hk hn hd (fun q H1 hP1 hD1 hS1 => h q (mR_fresh hR hD1) H1 locs ls _ (mR_push hR hD1) hP1 hD1 hS1 hL)
theorem R_newi {z : zT} {cc : ByteArray} {nL : Nat} {own nm : String} {F Lo : Nat} (X : BX z cc nL own nm F Lo) {pc : Nat} {L : List (Option Value)} {st : List Value} {M : mM} {k n : Nat} {cI : ClassId} {w : Nat} {v : Int32} (t0 : Nat) (ht : (zty z)[t0]? = some (cI, .int)) (hw : Cond.arrayClass .int ∈ lw_big) (hd : decode cc pc = .ok (.newarray .int, 2)) (hv0 : ¬ v < 0) (hv : v.toNatClampNeg = w) (hb : w * 4 ≤ 536870912) (hk : k + 1 ≤ (zR z).cells) (hn : n + w ≤ (zR z).slots) (h : ∀ q, M q = none → RN z (pc + 2) L (.ref q :: st) (mS M q (.inl (cI, w, .inl (fun _ => 0)))) (k + 1) (n + w)) : RN z pc L (.int v :: st) M k n := by
  obtain ⟨p, l, e, R, s, m, args, below, meth, c, Q, A, D, tys⟩ := z
  intro H locs ls ws hR hP hD hS hL
  refine va_newa (D := D) (atype := .int) (ty := .int) (a0 := (w, .inl (fun _ => 0))) X.1 X.2.1 (X.2.2.2.2.2.1 _ hw) rfl X.2.2.2.2.2.2.1.1 hP hD hS X.2.2.2.2.2.2.2.1 (fun _ => rfl) hv0 hv hb hk hn hd (fun q cA H1 hK1 hP1 hD1 hS1 => ?_)
  have e1 := va_nm_int (hK1.2 tys.length (cA, .int) (by simp)).2
  have e2 := va_nm_int (X.2.2.2.2.2.2.1.1.2 t0 _ ht).2
  cases e1.symm.trans e2
  exact h q (mR_fresh hR hD1) H1 locs ls _ (mR_push hR hD1) hP1 hD1 hS1 hL
theorem R_newz {z : zT} {cc : ByteArray} {nL : Nat} {own nm : String} {F Lo : Nat} (X : BX z cc nL own nm F Lo) {pc : Nat} {L : List (Option Value)} {st : List Value} {M : mM} {k n : Nat} {cI : ClassId} {w : Nat} {v : Int32} (t0 : Nat) (ht : (zty z)[t0]? = some (cI, .boolean)) (hw : Cond.arrayClass .boolean ∈ lw_big) (hd : decode cc pc = .ok (.newarray .boolean, 2)) (hv0 : ¬ v < 0) (hv : v.toNatClampNeg = w) (hb : w * 1 ≤ 536870912) (hk : k + 1 ≤ (zR z).cells) (hn : n + w ≤ (zR z).slots) (h : ∀ q, M q = none → RN z (pc + 2) L (.ref q :: st) (mS M q (.inl (cI, w, .inl (fun _ => 0)))) (k + 1) (n + w)) : RN z pc L (.int v :: st) M k n := by
  obtain ⟨p, l, e, R, s, m, args, below, meth, c, Q, A, D, tys⟩ := z
  intro H locs ls ws hR hP hD hS hL
  refine va_newa (D := D) (atype := .boolean) (ty := .boolean) (a0 := (w, .inl (fun _ => 0))) X.1 X.2.1 (X.2.2.2.2.2.1 _ hw) rfl X.2.2.2.2.2.2.1.1 hP hD hS X.2.2.2.2.2.2.2.1 (fun _ => rfl) hv0 hv hb hk hn hd (fun q cA H1 hK1 hP1 hD1 hS1 => ?_)
  have e1 := va_nm_boolean (hK1.2 tys.length (cA, .boolean) (by simp)).2
  have e2 := va_nm_boolean (X.2.2.2.2.2.2.1.1.2 t0 _ ht).2
  cases e1.symm.trans e2
  exact h q (mR_fresh hR hD1) H1 locs ls _ (mR_push hR hD1) hP1 hD1 hS1 hL
theorem va_RA_obj {s : State} {c1 c2 : ClassId} {C : String} (h1 : va_RA s c1 (.object C)) (h2 : va_RA s c2 (.object C)) : c1 = c2 := by
  obtain ⟨_, _, _, _, _, e1⟩ := h1
  obtain ⟨_, _, _, _, _, e2⟩ := h2
  cases e1.symm.trans e2
  rfl
theorem R_newq {z : zT} {cc : ByteArray} {nL : Nat} {own nm : String} {F Lo : Nat} (X : BX z cc nL own nm F Lo) {pc : Nat} {L : List (Option Value)} {st : List Value} {M : mM} {k n : Nat} {cA : ClassId} {C : String} {index w : Nat} {v : Int32} (t0 : Nat) (ht : (zty z)[t0]? = some (cA, .object C)) (hw1 : Cond.classLink own index C ∈ lw_big) (hC : C = RX0) (hd : decode cc pc = .ok (.anewarray index, 3)) (hv0 : ¬ v < 0) (hv : v.toNatClampNeg = w) (hb : w * 4 ≤ 536870912) (hk : k + 1 ≤ (zR z).cells) (hn : n + w ≤ (zR z).slots) (h : ∀ q, M q = none → RN z (pc + 3) L (.ref q :: st) (mS M q (.inl (cA, w, .inr (.inr (.inr (.inr (fun _ => none))))))) (k + 1) (n + w)) : RN z pc L (.int v :: st) M k n := by
  obtain ⟨p, l, e, R, s, m, args, below, meth, c, Q, A, D, tys⟩ := z
  intro H locs ls ws hR hP hD hS hL
  refine va_newq (D := D) X.1 X.2.1 X.2.2.2.1 (X.2.2.2.2.2.1 _ hw1) (hC ▸ X.2.2.2.2.2.2.1.2.1) X.2.2.2.2.2.2.1.1 hP hD hS X.2.2.2.2.2.2.2.1 hv0 hv hb hk hn hd (fun q cB H1 hK1 hP1 hD1 hS1 => ?_)
  cases va_RA_obj (hK1.2 tys.length (cB, .object C) (by simp)).2 (X.2.2.2.2.2.2.1.1.2 t0 _ ht).2
  exact h q (mR_fresh hR hD1) H1 locs ls _ (mR_push hR hD1) hP1 hD1 hS1 hL
theorem R_clone {z : zT} {cc : ByteArray} {nL : Nat} {own nm : String} {F Lo : Nat} (X : BX z cc nL own nm F Lo) {pc : Nat} {L : List (Option Value)} {st : List Value} {M : mM} {k n : Nat} {a : Nat} {cA : ClassId} {w : Nat} {f : Nat → Int32} {index : Nat} (t0 : Nat) (ht : (zty z)[t0]? = some (cA, .int)) (hw1 : Cond.methodLink own index ⟨"[I", "clone", "()Ljava/lang/Object;"⟩ ∈ lw_big) (hw2 : Cond.sameMethod "[I" "java/lang/Object" "clone" "()Ljava/lang/Object;" ∈ lw_big) (hw3 : Cond.native ⟨"java/lang/Object", "clone", "()Ljava/lang/Object;"⟩ ∈ lw_big) (hw4 : Cond.instanceMethod ⟨"java/lang/Object", "clone", "()Ljava/lang/Object;"⟩ ∈ lw_big) (hw5 : Cond.selects "[I" ⟨"[I", "clone", "()Ljava/lang/Object;"⟩ ⟨"java/lang/Object", "clone", "()Ljava/lang/Object;"⟩ ∈ lw_big) (hd : decode cc pc = .ok (.invokevirtual index, 3)) (hLn : L.length = nL) (hM : M a = some (.inl (cA, w, .inl f))) (hF : 1 ≤ F) (hLo : (st.map fun v => v.category).sum + 14 ≤ Lo) (hk : k + 1 ≤ (zR z).cells) (hn : n + w ≤ (zR z).slots) (h : ∀ q, M q = none → RN z (pc + 3) L (.ref q :: st) (mS M q (.inl (cA, w, .inl f))) (k + 1) (n + w)) : RN z pc L (.ref a :: st) M k n := by
  obtain ⟨p, l, e, R, s, m, args, below, meth, c, Q, A, D, tys⟩ := z
  intro H locs ls ws hR hP hD hS hL
  obtain ⟨q, hq⟩ := (hR _ _).mp hM
  have hx := X.2.2.2.2.2.1
  exact va_clone (D := D) (x := (w, .inl f)) X.1 X.2.1 (X.2.2.1.trans (hLn.symm.trans hL.1.symm)) X.2.2.2.1 (hx _ hw1) (hx _ hw2) (hx _ hw3) (hx _ hw4) (hx _ hw5) X.2.2.2.2.2.2.1.2.2.2 X.2.2.2.2.2.2.1.1 hP hD hS X.2.2.2.2.2.2.2.1 q t0 hq ht (va_nm_int (X.2.2.2.2.2.2.1.1.2 t0 _ ht).2) (va_fit (fun i _ => rfl)) (by rw [X.2.2.2.2.2.2.2.2.1]; exact hF) (by rw [X.2.2.2.2.2.2.2.2.2]; exact hLo) hk hn hd (fun q H1 _ hP1 hD1 hS1 => h q (mR_fresh hR hD1) H1 locs ls _ (mR_push hR hD1) hP1 hD1 hS1 hL)
theorem R_castA {z : zT} {cc : ByteArray} {nL : Nat} {own nm : String} {F Lo : Nat} (X : BX z cc nL own nm F Lo) {pc : Nat} {L : List (Option Value)} {st : List Value} {M : mM} {k n : Nat} {a : Nat} {cA : ClassId} {x : vp_A} {index : Nat} (t0 : Nat) (ht : (zty z)[t0]? = some (cA, .int)) (hw : Cond.classLink own index "[I" ∈ lw_big) (hd : decode cc pc = .ok (.checkcast index, 3)) (hM : M a = some (.inl (cA, x))) (h : RN z (pc + 3) L (.ref a :: st) M k n) : RN z pc L (.ref a :: st) M k n := by
  obtain ⟨p, l, e, R, s, m, args, below, meth, c, Q, A, D, tys⟩ := z
  intro H locs ls ws hR hP hD hS hL
  obtain ⟨q, hq⟩ := (hR _ _).mp hM
  exact va_castA (D := D) X.1 X.2.1 X.2.2.2.1 (X.2.2.2.2.2.1 _ hw) hP q hq (va_nm_int (X.2.2.2.2.2.2.1.1.2 t0 _ ht).2) hd (h H locs ls ws hR hP hD hS hL)
theorem R_mmax {z : zT} {cc : ByteArray} {nL : Nat} {own nm : String} {F Lo : Nat} (X : BX z cc nL own nm F Lo) {pc : Nat} {L : List (Option Value)} {st : List Value} {M : mM} {k n : Nat} {index : Nat} {x y : Int32} (hw1 : Cond.methodLink own index Lib.Math.max.name ∈ lw_big) (hw2 : Cond.static Lib.Math.max.name ∈ lw_big) (hw3 : Cond.initialized "java/lang/Math" ∈ lw_big) (hw4 : Cond.code Lib.Math.max.name Lib.Math.max.code 2 (some .int) ∈ lw_big) (hd : decode cc pc = .ok (.invokestatic index, 3)) (hLn : L.length = nL) (hF : 1 ≤ F) (hLo : (st.map fun v => v.category).sum + 13 ≤ Lo) (hk : k ≤ (zR z).cells) (hn : n ≤ (zR z).slots) (h : RN z (pc + 3) L (.int (if x < y then y else x) :: st) M k n) : RN z pc L (.int y :: .int x :: st) M k n := by
  obtain ⟨p, l, e, R, s, m, args, below, meth, c, Q, A, D, tys⟩ := z
  intro H locs ls ws hR hP hD hS hL
  have hx := X.2.2.2.2.2.1
  exact va_mmax (R := R) X.1 X.2.1 (X.2.2.1.trans (hLn.symm.trans hL.1.symm)) X.2.2.2.1 (hx _ hw1) (hx _ hw2) (hx _ hw3) (hx _ hw4) (by rw [X.2.2.2.2.2.2.2.2.1]; exact hF) (by rw [X.2.2.2.2.2.2.2.2.2]; exact hLo) hk hn hd (h H locs ls ws hR hP hD hS hL)
theorem R_mmin {z : zT} {cc : ByteArray} {nL : Nat} {own nm : String} {F Lo : Nat} (X : BX z cc nL own nm F Lo) {pc : Nat} {L : List (Option Value)} {st : List Value} {M : mM} {k n : Nat} {index : Nat} {x y : Int32} (hw1 : Cond.methodLink own index Lib.Math.min.name ∈ lw_big) (hw2 : Cond.static Lib.Math.min.name ∈ lw_big) (hw3 : Cond.initialized "java/lang/Math" ∈ lw_big) (hw4 : Cond.code Lib.Math.min.name Lib.Math.min.code 2 (some .int) ∈ lw_big) (hd : decode cc pc = .ok (.invokestatic index, 3)) (hLn : L.length = nL) (hF : 1 ≤ F) (hLo : (st.map fun v => v.category).sum + 13 ≤ Lo) (hk : k ≤ (zR z).cells) (hn : n ≤ (zR z).slots) (h : RN z (pc + 3) L (.int (if y < x then y else x) :: st) M k n) : RN z pc L (.int y :: .int x :: st) M k n := by
  obtain ⟨p, l, e, R, s, m, args, below, meth, c, Q, A, D, tys⟩ := z
  intro H locs ls ws hR hP hD hS hL
  have hx := X.2.2.2.2.2.1
  exact va_mmin (R := R) X.1 X.2.1 (X.2.2.1.trans (hLn.symm.trans hL.1.symm)) X.2.2.2.1 (hx _ hw1) (hx _ hw2) (hx _ hw3) (hx _ hw4) (by rw [X.2.2.2.2.2.2.2.2.1]; exact hF) (by rw [X.2.2.2.2.2.2.2.2.2]; exact hLo) hk hn hd (h H locs ls ws hR hP hD hS hL)
theorem R_objInit {z : zT} {cc : ByteArray} {nL : Nat} {own nm : String} {F Lo : Nat} (X : BX z cc nL own nm F Lo) {pc : Nat} {L : List (Option Value)} {st : List Value} {M : mM} {k n : Nat} {a : Nat} {index : Nat} (hw1 : Cond.methodLink own index objectInit ∈ lw_big) (hw2 : Cond.instanceMethod objectInit ∈ lw_big) (hw3 : Cond.code objectInit ⟨#[0xb1]⟩ 1 none ∈ lw_big) (hd : decode cc pc = .ok (.invokespecial index, 3)) (hLn : L.length = nL) (hF : 1 ≤ F) (hLo : (st.map fun v => v.category).sum + 12 ≤ Lo) (h : RN z (pc + 3) L st M k n) : RN z pc L (.ref a :: st) M k n := by
  obtain ⟨p, l, e, R, s, m, args, below, meth, c, Q, A, D, tys⟩ := z
  intro H locs ls ws hR hP hD hS hL
  have hx := X.2.2.2.2.2.1
  exact W.objInit X.1 X.2.1 X.2.2.2.1 (hx _ hw1) (hx _ hw2) (hx _ hw3) rfl (by show ls.size = _; rw [hL.1, hLn, X.2.2.1]) rfl hd (by rw [X.2.2.2.2.2.2.2.2.1]; exact hF) (by rw [X.2.2.2.2.2.2.2.2.2]; show 2 * 0 + _ + 12 ≤ _; omega) (h H locs ls ws hR hP hD hS hL)
