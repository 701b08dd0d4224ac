theorem pigeon : ∀ (n : Nat) (f : Nat → Nat), (∀ i, i ≤ n → f i < n) → ∃ i j, i < j ∧ j ≤ n ∧ f i = f j
  | 0, f, h => absurd (h 0 (Nat.le_refl 0)) (by omega)
  | n + 1, f, h => by
    by_cases hx : ∃ i, i ≤ n ∧ f i = f (n + 1)
    · obtain ⟨i, hi, e⟩ := hx
      exact ⟨i, n + 1, by omega, Nat.le_refl _, e⟩
    · have hne : ∀ i, i ≤ n → f i ≠ f (n + 1) := fun i hi e => hx ⟨i, hi, e⟩
      have hv := h (n + 1) (Nat.le_refl _)
      obtain ⟨i, j, hij, hj, e⟩ := pigeon n (fun i => if f i = n then f (n + 1) else f i) (fun i hi => by
        have h1 := h i (by omega)
        have h2 := hne i hi
        by_cases hq : f i = n
        · simp only [hq, if_true]
          omega
        · simp only [hq, if_false]
          omega)
      refine ⟨i, j, hij, by omega, ?_⟩
      have hi1 := hne i (by omega)
      have hj1 := hne j hj
      by_cases hq : f i = n
      · by_cases hr : f j = n
        · omega
        · simp only [hq, hr, if_true, if_false] at e
          exact absurd e.symm hj1
      · by_cases hr : f j = n
        · simp only [hq, hr, if_true, if_false] at e
          exact absurd e hi1
        · simp only [hq, hr, if_false] at e
          exact e
theorem wiL_dn {E q : Nat → Int32} (h : eR E q) (h0 : q 0 = -1) (hok : plOk q) {top : Nat} : ∀ (n x : Nat), x < 24 → (wiL q top n x = true ↔ ∃ r, r < n ∧ dnE E top r x)
  | 0, x, hx => by
    constructor
    · intro hh
      exact absurd hh (by simp [wiL])
    · rintro ⟨r, hr, -⟩
      omega
  | n + 1, x, hx => by
    unfold wiL
    by_cases h1 : x = top
    · rw [if_pos h1]
      exact ⟨fun _ => ⟨0, by omega, h1⟩, fun _ => rfl⟩
    · rw [if_neg h1]
      by_cases h2 : q x = -1
      · rw [if_pos h2]
        constructor
        · intro hh
          cases hh
        · rintro ⟨r, hr, hd⟩
          cases r with
          | zero => exact absurd hd h1
          | succ r =>
            obtain ⟨p, hp, _, hq, _⟩ := (dnE_up h r x hx).mp hd
            rw [h2] at hq
            exact absurd hq.symm (nI_m1 (by omega))
      · rw [if_neg h2]
        obtain ⟨p, hp, hq⟩ := (hok x hx).resolve_left h2
        have hx0 : 0 < x := Nat.pos_of_ne_zero (fun e => h2 (by rw [e]; exact h0))
        rw [hq, nI_clamp (by omega), wiL_dn h h0 hok n (p / 8) (by omega)]
        constructor
        · rintro ⟨r, hr, hd⟩
          exact ⟨r + 1, by omega, (dnE_up h r x hx).mpr ⟨p, hp, hx0, hq, hd⟩⟩
        · rintro ⟨r, hr, hd⟩
          cases r with
          | zero => exact absurd hd h1
          | succ r =>
            obtain ⟨p', hp', _, hq', hd'⟩ := (dnE_up h r x hx).mp hd
            rw [hq] at hq'
            have := (nI_eq (by omega) (by omega)).mp hq'
            subst this
            exact ⟨r, by omega, hd'⟩
def upI (q : Nat → Int32) (x : Nat) : Nat → Nat
  | 0 => x
  | i + 1 => (q (upI q x i)).toNatClampNeg / 8
theorem dn_up {E q : Nat → Int32} (h : eR E q) {top : Nat} {r x : Nat} (hx : x < 24) (hd : dnE E top r x) : ∀ i, i ≤ r → upI q x i < 24 ∧ dnE E top (r - i) (upI q x i)
  | 0, _ => ⟨hx, hd⟩
  | i + 1, hi => by
    obtain ⟨h1, h2⟩ := dn_up h hx hd i (by omega)
    rw [show r - i = (r - (i + 1)) + 1 by omega] at h2
    obtain ⟨p, hp, _, hq, hd'⟩ := (dnE_up h _ _ h1).mp h2
    have e : upI q x (i + 1) = p / 8 := by
      show (q (upI q x i)).toNatClampNeg / 8 = p / 8
      rw [hq, nI_clamp (by omega)]
    rw [e]
    exact ⟨by omega, hd'⟩
theorem dn_down {E q : Nat → Int32} (h : eR E q) {top : Nat} {r x : Nat} (hx : x < 24) (hd : dnE E top r x) {s : Nat} : ∀ i, i ≤ r → dnE E top s (upI q x i) → dnE E top (s + i) x
  | 0, _, hs => hs
  | i + 1, hi, hs => by
    obtain ⟨h1, h2⟩ := dn_up h hx hd i (by omega)
    rw [show r - i = (r - (i + 1)) + 1 by omega] at h2
    obtain ⟨p, hp, h0, hq, _⟩ := (dnE_up h _ _ h1).mp h2
    have e : upI q x (i + 1) = p / 8 := by
      show (q (upI q x i)).toNatClampNeg / 8 = p / 8
      rw [hq, nI_clamp (by omega)]
    rw [e] at hs
    rw [show s + (i + 1) = (s + 1) + i by omega]
    exact dn_down h hx hd (s := s + 1) i (by omega) ((dnE_up h _ _ h1).mpr ⟨p, hp, h0, hq, hs⟩)
theorem dn_short {E q : Nat → Int32} (h : eR E q) {top : Nat} : ∀ (b r x : Nat), r ≤ b → x < 24 → dnE E top r x → ∃ r', r' < 24 ∧ dnE E top r' x := by
  intro b
  induction b with
  | zero =>
    intro r x hr hx hd
    exact ⟨r, by omega, hd⟩
  | succ b ih =>
    intro r x hr hx hd
    rcases Nat.lt_or_ge r 24 with hr2 | hr2
    · exact ⟨r, hr2, hd⟩
    · obtain ⟨i, j, hij, hj, e⟩ := pigeon 24 (upI q x) (fun i hi => (dn_up h hx hd i (by omega)).1)
      have h1 := (dn_up h hx hd j (by omega)).2
      rw [← e] at h1
      have h2 := dn_down h hx hd i (by omega) h1
      exact ih (r - j + i) x (by omega) hx h2
/-- what reach marks is what isWithin says -/
theorem reach_wi {E q R : Nat → Int32} (h : eR E q) (h0 : q 0 = -1) (hok : plOk q) {n : Nat} (hR : rI E n 24 R) {k : Nat} (hk : k < 24) : (¬ R k = 0) ↔ wiL q n 24 k = true := by
  rw [wiL_dn h h0 hok 24 k hk]
  constructor
  · intro hh
    obtain ⟨r, hr⟩ := hR.2.1 k hk hh
    exact dn_short h r r k (Nat.le_refl r) hk hr
  · rintro ⟨r, hr, hd⟩
    exact hR.2.2 k hk r (by omega) hd
/-- the numbers of the marked, of n from i on -/
def cntR (R : Nat → Int32) : Nat → Nat → Nat
  | 0, _ => 0
  | n + 1, i => (if R i = 0 then 0 else 1) + cntR R n (i + 1)
theorem cntR_bl {q R : Nat → Int32} {f : Nat} (h : ∀ k, k < 24 → ((¬ R k = 0) ↔ wiL q f 24 k = true)) : ∀ (n i : Nat), i + n ≤ 24 → cntR R n i = blL q f n i + (if i ≤ f ∧ f < i + n then 1 else 0)
  | 0, i, _ => by
    unfold cntR blL
    rw [if_neg (by omega)]
  | n + 1, i, hi => by
    unfold cntR blL
    rw [cntR_bl h n (i + 1) (by omega)]
    have hh := h i (by omega)
    by_cases hif : i = f
    · subst hif
      have ht : wiL q i 24 i = true := by
        unfold wiL
        rw [if_pos rfl]
      have a1 : (if R i = 0 then 0 else 1) = 1 := if_neg (hh.mpr ht)
      have a2 : (if ¬ i = i ∧ wiL q i 24 i = true then 1 else 0) = 0 := if_neg (fun q => q.1 rfl)
      rw [a1, a2]
      split <;> split <;> omega
    · by_cases hw : wiL q f 24 i = true
      · have a1 : (if R i = 0 then 0 else 1) = 1 := if_neg (hh.mpr hw)
        have a2 : (if ¬ i = f ∧ wiL q f 24 i = true then 1 else 0) = 1 := if_pos ⟨hif, hw⟩
        rw [a1, a2]
        split <;> split <;> omega
      · have hr : R i = 0 := by
          by_cases hr : R i = 0
          · exact hr
          · exact absurd (hh.mp hr) hw
        have a1 : (if R i = 0 then 0 else 1) = 0 := if_pos hr
        have a2 : (if ¬ i = f ∧ wiL q f 24 i = true then 1 else 0) = 0 := if_neg (fun q => hw q.2)
        rw [a1, a2]
        split <;> split <;> omega
